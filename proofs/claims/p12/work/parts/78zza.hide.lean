/-! hide on both sides -/
theorem pz_180 {w : qW} {c k : Nat} (hk1 : 1 ≤ k) (hk2 : k ≤ 4) : pzN w c k ≤ 180 := by
  have key : ∀ {k nn mm : Nat}, k ≤ 4 → gosC k nn mm = true → binm 16 k = nn → budH nn mm 180 = true → pzN w c k ≤ 180 := fun {k nn mm} h4 hg hN hb => by
    have q := fp_180 (w := w) (c := c) hg hN h4 hb nn (Nat.le_refl _)
    unfold pzN
    rw [fp_sets (w := w) (c := c) hg hN]
    exact q
  rcases (show k = 1 ∨ k = 2 ∨ k = 3 ∨ k = 4 by omega) with rfl | rfl | rfl | rfl
  · exact key (by decide) gos_1 (by decide +kernel) bud_1
  · exact key (by decide) gos_2 (by decide +kernel) bud_2
  · exact key (by decide) gos_3 (by decide +kernel) bud_3
  · exact key (by decide) gos_4 (by decide +kernel) bud_4
theorem TX.ctb {w : qW} {c k : Nat} (hk1 : 1 ≤ k) (hk2 : k ≤ 4) (h : TX 65536 w c k) : CTB (pzN w c k) (pzP w c k) (pzM w c k) w := ⟨pz_180 hk1 hk2, h.1, fun j hj => h.2.1 j hj, fun i j hi hj => h.2.2 i j hi hj⟩
/-- the shows' views, by the second -/
theorem siF_vw {w : qW} {c : Nat} {K N : Nat → Int} {L g u : Nat} (hg : g < L) (hu : u < dN (K g) (N g)) : siF w c K N L (scF K N g + u) = vwF w c K N g := by
  have e : scF K N (g + 1) = scF K N g + dN (K g) (N g) := rfl
  rw [siF_up (show scF K N g + u < scF K N (g + 1) by omega) L (by omega), siF_at (by omega)]
def rK (w : qW) (k i : Nat) : Int := w 104 (40 * k + i)
def rN (w : qW) (k i : Nat) : Int := w 105 (40 * k + i)
/-- what hide answers -/
def HDR (w : qW) (c k s : Nat) (v x : Int) : Prop := ∃ fl cn, x = hoV fl cn v ∧ HSP (pzN w c s) (pzP w c s) (pzM w c s) (fun t => siF w c (rK w k) (rN w k) (w 106 k).toNat t) (scF (rK w k) (rN w k) (w 106 k).toNat) fl cn
def HDT (w : qW) (c k s v x : Int) : Prop := ((isInV c 0 2 = 0 ∨ isInV k 0 3 = 0 ∨ isInV s 1 4 = 0 ∨ isInV v 0 2 = 0) ∧ x = -1) ∨ (¬ (isInV c 0 2 = 0 ∨ isInV k 0 3 = 0 ∨ isInV s 1 4 = 0 ∨ isInV v 0 2 = 0) ∧ HDR w c.toNat k.toNat s.toNat v x)
theorem HDT.uniq {w : qW} {c k s v x y : Int} (h : HDT w c k s v x) (h2 : HDT w c k s v y) : x = y := by
  rcases h with ⟨a, b⟩ | ⟨a, fl, cn, b, e⟩
  · rcases h2 with ⟨-, b2⟩ | ⟨a2, -⟩
    · rw [b, b2]
    · exact absurd a a2
  · rcases h2 with ⟨a2, -⟩ | ⟨-, fl2, cn2, b2, e2⟩
    · exact absurd a2 a
    · obtain ⟨e3, e4⟩ := e.uniq e2
      rw [b, b2, e3, e4]
def RRh (w w1 : qW) : Prop := RRe w w1 ∧ ∀ i, w1 99 i = w 99 i
theorem rK_cg {w w1 : qW} (h : RwM w w1) (k : Nat) : rK w1 k = rK w k ∧ rN w1 k = rN w k ∧ w1 106 k = w 106 k := ⟨funext fun i => (h _).1, funext fun i => (h _).2.1, (h k).2.2⟩
theorem HDT.cg {w w1 : qW} (h : RRh w w1) {c k s v x : Int} (hd : HDT w1 c k s v x) : HDT w c k s v x := by
  rcases hd with q | ⟨a, fl, cn, b, e⟩
  · exact .inl q
  · obtain ⟨⟨⟨h96, h97, h98, h100⟩, hr⟩, h99⟩ := h
    obtain ⟨e1, e2, e3⟩ := pz_cg h96 h99 c.toNat s.toNat
    obtain ⟨k1, k2, k3⟩ := rK_cg hr k.toNat
    rw [e1, e2, e3, k1, k2, k3] at e
    refine .inr ⟨a, fl, cn, b, e.cg (fun i _ => rfl) (fun i j _ _ => rfl) (fun t _ => ?_)⟩
    exact siF_cg h96 h97 h98 h100 _ _ _ t _
def rrhM (m : List Nat) : Bool := rreM m && m.all (fun e => !Nat.beq (e % 1000) 99)
theorem RRh.aw {m : List Nat} {w w1 : qW} (a : AW m w w1) (hm : rrhM m = true) : RRh w w1 := by
  unfold rrhM at hm
  rw [Bool.and_eq_true] at hm
  exact ⟨RRe.aw a hm.1, fun i => a.a (by decide) hm.2 i⟩
theorem HSP.kn {Nn : Nat} {P : Nat → Int} {M : Nat → Nat → Bool} {w : qW} {c L : Nat} {K N K2 N2 : Nat → Int} {fl cn : Int} (h : KN K N K2 N2 L) (hs : HSP Nn P M (fun t => siF w c K N L t) (scF K N L) fl cn) : HSP Nn P M (fun t => siF w c K2 N2 L t) (scF K2 N2 L) fl cn := by
  rw [← (h.st L (Nat.le_refl _)).2.2.2.2.1]
  exact hs.cg (fun _ _ => rfl) (fun _ _ _ _ => rfl) (fun t _ => h.si w c t L (Nat.le_refl _))
theorem J9.chp {n p c : Nat} {w w1 : qW} {K N : Nat → Int} {i : Nat} (hp : SHOWP p) (hJ : J9 n w) (h : CHP p c w K N i w1) : J9 n w1 := hJ.cg (fun q hq j => h.2.2.2.2.2.2.2 q j (fun z => by
  subst z
  unfold SHOWP at hp
  rcases hp with rfl | rfl | rfl | rfl | rfl <;> exact absurd hq (by decide)) (fun z => by
  obtain ⟨rfl, -⟩ := z
  unfold SHOWP at hp
  rcases hp with rfl | rfl | rfl | rfl | rfl <;> exact absurd hq (by decide)))
theorem hoV_n {fl cn v : Int} (h : isInV v 0 2 = 0) : hoV fl cn v = -1 := by
  unfold isInV at h
  unfold hoV
  (repeat' split at h) <;> (rw [if_neg (by omega), if_neg (by omega), if_neg (by omega)])
theorem qG.sw3 {sc : Option (Nat × (Nat → Int))} {d k pc n : Nat} {ls st : List qV} {w : qW} {Q : qV → qW → Nat → Prop} {x : Int} {a0 a1 a2 : Option qC} {pc' n' : Nat} {ls' st' : List qV} {w' : qW} (h : qone sc k pc ls st w n = if x = 0 then a0 else if x = 1 then a1 else if x = 2 then a2 else some (pc', ls', st', w', n')) (hx : x < 0 ∨ 2 < x) (g : qG sc d k pc' ls' st' w' n' Q) : qG sc d k pc ls st w n Q := by
  rw [if_neg (by omega), if_neg (by omega), if_neg (by omega)] at h
  exact qG.one h g
theorem K_outc0 {d : Nat} (hd : 0 ≤ d) (w : qW) : qG none d 37 0 [(2, 23), (0, 0)] [] w 142 (fun (r : qV) (w1 : qW) (n1 : Nat) => r = (0, hoV (w 23 4) (w 23 5) 0) ∧ w1 = w ∧ n1 = 142) := by
  generalize hQ9 : (fun (r : qV) (w1 : qW) (n1 : Nat) => r = (0, hoV (w 23 4) (w 23 5) 0) ∧ w1 = w ∧ n1 = 142) = Q9
  refine qG.blk 4 (pc' := 32) (ls' := [(2, 23), (0, 0)]) (st' := [(0, w 23 5)]) (w' := w) (n' := 142) rfl ?_
  refine qG.br (P := 0 < w 23 5) (pc1 := 35) (pc2 := 39) (st1 := []) rfl (fun hn => ?_) (fun hn => ?_)
  · skip
    refine qG.blk 2 (pc' := 40) (ls' := [(2, 23), (0, 0)]) (st' := [(0, 1)]) (w' := w) (n' := 142) rfl ?_
    refine qG.ret rfl rfl ?_
    subst hQ9
    exact ⟨congrArg (Prod.mk 0) (by unfold hoV; rw [if_pos rfl]; first | (rw [if_pos (by omega)]; done) | (rw [if_neg (by omega)]; done)), rfl, rfl⟩
  · skip
    refine qG.blk 1 (pc' := 40) (ls' := [(2, 23), (0, 0)]) (st' := [(0, 0)]) (w' := w) (n' := 142) rfl ?_
    refine qG.ret rfl rfl ?_
    subst hQ9
    exact ⟨congrArg (Prod.mk 0) (by unfold hoV; rw [if_pos rfl]; first | (rw [if_pos (by omega)]; done) | (rw [if_neg (by omega)]; done)), rfl, rfl⟩
theorem K_outc1 {d : Nat} (hd : 0 ≤ d) (w : qW) : qG none d 37 0 [(2, 23), (0, 1)] [] w 142 (fun (r : qV) (w1 : qW) (n1 : Nat) => r = (0, hoV (w 23 4) (w 23 5) 1) ∧ w1 = w ∧ n1 = 142) := by
  generalize hQ9 : (fun (r : qV) (w1 : qW) (n1 : Nat) => r = (0, hoV (w 23 4) (w 23 5) 1) ∧ w1 = w ∧ n1 = 142) = Q9
  refine qG.blk 4 (pc' := 45) (ls' := [(2, 23), (0, 1)]) (st' := [(0, w 23 4)]) (w' := w) (n' := 142) rfl ?_
  refine qG.ret rfl rfl ?_
  subst hQ9
  exact ⟨rfl, rfl, rfl⟩
theorem K_outc2 {d : Nat} (hd : 0 ≤ d) (w : qW) : qG none d 37 0 [(2, 23), (0, 2)] [] w 142 (fun (r : qV) (w1 : qW) (n1 : Nat) => r = (0, hoV (w 23 4) (w 23 5) 2) ∧ w1 = w ∧ n1 = 142) := by
  generalize hQ9 : (fun (r : qV) (w1 : qW) (n1 : Nat) => r = (0, hoV (w 23 4) (w 23 5) 2) ∧ w1 = w ∧ n1 = 142) = Q9
  refine qG.blk 4 (pc' := 50) (ls' := [(2, 23), (0, 2)]) (st' := [(0, w 23 5)]) (w' := w) (n' := 142) rfl ?_
  refine qG.ret rfl rfl ?_
  subst hQ9
  exact ⟨rfl, rfl, rfl⟩
theorem K_outc {d : Nat} (hd : 0 ≤ d) (v : Int) (w : qW) : qG none d 37 0 [(2, 23), (0, v)] [] w 142 (fun (r : qV) (w1 : qW) (n1 : Nat) => r = (0, hoV (w 23 4) (w 23 5) v) ∧ w1 = w ∧ n1 = 142) := by
  by_cases e0 : v = 0
  · rw [e0]; exact K_outc0 hd w
  by_cases e1 : v = 1
  · rw [e1]; exact K_outc1 hd w
  by_cases e2 : v = 2
  · rw [e2]; exact K_outc2 hd w
  refine qG.blk 1 (pc' := 1) (ls' := [(2, 23), (0, v)]) (st' := [(0, v)]) (w' := w) (n' := 142) rfl ?_
  refine qG.sw3 (x := v) (pc' := 51) (ls' := [(2, 23), (0, v)]) (st' := []) (w' := w) (n' := 142) rfl (by omega) ?_
  refine qG.blk 1 (pc' := 52) (ls' := [(2, 23), (0, v)]) (st' := [(0, -1)]) (w' := w) (n' := 142) rfl ?_
  refine qG.ret rfl rfl ?_
  exact ⟨congrArg (Prod.mk 0) (by unfold hoV; rw [if_neg e0, if_neg e1, if_neg e2]), rfl, rfl⟩
theorem K_flw64_4 {d : Nat} (hd : 8 ≤ d) (k : Nat) (hk1 : 1 ≤ k) (hk2 : k ≤ 4) (V : Nat → Int) (L : Nat) (hL : L ≤ 40) (n : Nat) (w : qW) (hI : yInv zgf zga zra zSp w) (hJ : J9 n w) (hs : w 4 2 = (L : Int)) (hKW : KNw (w 5) (w 6) L) (hVV : ∀ g, g < L → ∀ u, u < dN (w 5 g) (w 6 g) → V (scF (w 5) (w 6) g + u) = w 7 g) : qG none d 35 0 [(2, 23), (2, 64), (2, 4), (0, ((k : Nat) : Int)), (9, 0), (9, 0), (9, 0)] [] w 142 (fun (r : qV) (w1 : qW) (n1 : Nat) => r = (9, 0) ∧ n1 = 142 ∧ yInv zgf zga zra zSp w1 ∧ (∀ q j, ¬ (27 ≤ q ∧ q ≤ 29) → ¬ (q = 23 ∧ 4 ≤ j ∧ j ≤ 5) → ¬ (24 ≤ q ∧ q ≤ 26) → w1 q j = w q j) ∧ HSP (pzN w 0 k) (pzP w 0 k) (pzM w 0 k) V (scF (w 5) (w 6) L) (w1 23 4) (w1 23 5)) := by
  generalize hQ9 : (fun (r : qV) (w1 : qW) (n1 : Nat) => r = (9, 0) ∧ n1 = 142 ∧ yInv zgf zga zra zSp w1 ∧ (∀ q j, ¬ (27 ≤ q ∧ q ≤ 29) → ¬ (q = 23 ∧ 4 ≤ j ∧ j ≤ 5) → ¬ (24 ≤ q ∧ q ≤ 26) → w1 q j = w q j) ∧ HSP (pzN w 0 k) (pzP w 0 k) (pzM w 0 k) V (scF (w 5) (w 6) L) (w1 23 4) (w1 23 5)) = Q9
  obtain ⟨d, rfl⟩ : ∃ d9, d = d9 + 1 := ⟨d - 1, by omega⟩
  refine qG.blk 2 (pc' := 4) (ls' := [(2, 23), (2, 64), (2, 4), (0, ((k : Nat) : Int)), (9, 0), (9, 0), (9, 0)]) (st' := [(2, w 23 0)]) (w' := w) (n' := 142) rfl ?_
  rw [show w 23 0 = 24 from zref hI rfl rfl]
  refine qG.blk 2 (pc' := 6) (ls' := [(2, 23), (2, 64), (2, 4), (0, ((k : Nat) : Int)), (9, 0), (9, 0), (9, 0)]) (st' := [(0, ((k : Nat) : Int)), (2, 64), (2, 24)]) (w' := w) (n' := 142) rfl ?_
  refine qG.call (t := 94) (na := 3) (sk := 1) (md := 1) (ls1 := [(2, 24), (2, 64), (0, ((k : Nat) : Int))]) (r1 := []) rfl rfl rfl rfl rfl (qG.and (T_findFor_64 (w0 := w) d [(2, 24), (2, 64), (0, ((k : Nat) : Int))] w (show C_findFor_64.2.1 ≤ d by exact Nat.le_trans (show C_findFor_64.2.1 ≤ 7 by decide) (by omega)) ⟨⟨rfl, by decide, by decide⟩, ⟨rfl, by decide, by decide⟩, ⟨rfl, by show (1 : Int) ≤ _; omega, by show _ ≤ (4 : Int); omega⟩, trivial⟩ hI (fun p hp => by cases hp) (fun e he => by cases he)) (K_findForC64 (by omega) k hk1 hk2 n w hI hJ)) ?_
  rintro _ wF _ ⟨⟨-, hIF, -, -, -⟩, rfl, rfl, hF⟩
  show qG none (d + 1) 35 9 [(2, 23), (2, 64), (2, 4), (0, ((k : Nat) : Int)), (9, 0), (9, 0), (9, 0)] [] wF 142 Q9
  subst hQ9
  obtain ⟨f0, f1, f2, hTX, hfr⟩ := hF
  have eF : ∀ q j, q ≠ 24 → q ≠ 25 → q ≠ 26 → wF q j = w q j := fun q j a b e => hfr q j (fun z => a z.1) b e
  have e1 : wF 5 = w 5 := funext fun j => eF _ j (by decide) (by decide) (by decide)
  have e2 : wF 6 = w 6 := funext fun j => eF _ j (by decide) (by decide) (by decide)
  have e3 : wF 7 = w 7 := funext fun j => eF _ j (by decide) (by decide) (by decide)
  obtain ⟨z1, z2, z3⟩ := pz_cg (w := w) (w1 := wF) (fun i => eF 96 i (by decide) (by decide) (by decide)) (fun i => eF 99 i (by decide) (by decide) (by decide)) 0 k
  refine qG.mono (K_flwB4 (by omega) (pzN w 0 k) (pzP w 0 k) (pzM w 0 k) V L hL wF hIF ((eF 4 2 (by decide) (by decide) (by decide)).trans hs) (by rw [e1, e2]; exact hKW) (by have z := hTX.ctb hk1 hk2; rw [z1, z2, z3] at z; exact z) (by rw [e1, e2, e3]; exact hVV) _ _) ?_
  rintro r w1 n1 ⟨h1, h2, h3, h4, h5⟩
  rw [e1, e2] at h5
  exact ⟨h1, h2, h3, fun q j a b c9 => (h4 q j a b).trans (eF q j (by omega) (by omega) (by omega)), h5⟩
theorem K_hideB4_64 {d : Nat} (hd : 9 ≤ d) (k9 : Nat) (hk9 : k9 < 4) (k : Nat) (hk1 : 1 ≤ k) (hk2 : k ≤ 4) (v : Int) (L : Nat) (hL : L ≤ 40) (n : Nat) (w : qW) (hI : yInv zgf zga zra zSp w) (hJ : J9 n w) (h3 : w 3 k9 = 4) (hs : w 4 2 = (L : Int)) (hKN : KNr (w 5) (w 6) L) (hKW : KNw (w 5) (w 6) L) (hK : w 64 0 = w 96 0) (hE : JE w) : qG none d 174 23 [(2, 1), (0, 0), (0, ((k9 : Nat) : Int)), (0, ((k : Nat) : Int)), (0, v)] [] w 142 (fun (r : qV) (_ : qW) (_ : Nat) => ∃ fl cn, r = (0, hoV fl cn v) ∧ HSP (pzN w 0 k) (pzP w 0 k) (pzM w 0 k) (fun t => siF w 0 (w 5) (w 6) L t) (scF (w 5) (w 6) L) fl cn) := by
  generalize hQ9 : (fun (r : qV) (_ : qW) (_ : Nat) => ∃ fl cn, r = (0, hoV fl cn v) ∧ HSP (pzN w 0 k) (pzP w 0 k) (pzM w 0 k) (fun t => siF w 0 (w 5) (w 6) L t) (scF (w 5) (w 6) L) fl cn) = Q9
  obtain ⟨d, rfl⟩ : ∃ d9, d = d9 + 1 := ⟨d - 1, by omega⟩
  refine qG.blk 2 (pc' := 27) (ls' := [(2, 1), (0, 0), (0, ((k9 : Nat) : Int)), (0, ((k : Nat) : Int)), (0, v)]) (st' := [(2, w 1 1)]) (w' := w) (n' := 142) rfl ?_
  rw [show w 1 1 = 3 from zref hI rfl rfl]
  refine qG.blk 1 (pc' := 28) (ls' := [(2, 1), (0, 0), (0, ((k9 : Nat) : Int)), (0, ((k : Nat) : Int)), (0, v)]) (st' := [(0, ((k9 : Nat) : Int)), (2, 3)]) (w' := w) (n' := 142) rfl ?_
  refine qG.ar (P := 0 ≤ ((k9 : Nat) : Int) ∧ ((k9 : Nat) : Int) < ((4 : Nat) : Int)) (P2 := 0 < (3 : Int) ∧ (3 : Int) ≤ ((142 : Nat) : Int)) (pc' := 29) (ls' := [(2, 1), (0, 0), (0, ((k9 : Nat) : Int)), (0, ((k : Nat) : Int)), (0, v)]) (st' := [(2, w 3 k9)]) (w' := w) (n' := 142) rfl (by omega) (by decide) ?_
  rw [show w 3 k9 = 4 from h3]
  refine qG.blk 2 (pc' := 33) (ls' := [(2, 1), (0, 0), (0, ((k9 : Nat) : Int)), (0, ((k : Nat) : Int)), (0, v)]) (st' := [(2, w 1 0), (2, 4)]) (w' := w) (n' := 142) rfl ?_
  rw [show w 1 0 = 2 from zref hI rfl rfl]
  refine qG.blk 1 (pc' := 34) (ls' := [(2, 1), (0, 0), (0, ((k9 : Nat) : Int)), (0, ((k : Nat) : Int)), (0, v)]) (st' := [(0, 0), (2, 2), (2, 4)]) (w' := w) (n' := 142) rfl ?_
  refine qG.ar (P := 0 ≤ 0 ∧ 0 < ((3 : Nat) : Int)) (P2 := 0 < (2 : Int) ∧ (2 : Int) ≤ ((142 : Nat) : Int)) (pc' := 35) (ls' := [(2, 1), (0, 0), (0, ((k9 : Nat) : Int)), (0, ((k : Nat) : Int)), (0, v)]) (st' := [(2, w 2 0), (2, 4)]) (w' := w) (n' := 142) rfl (by omega) (by decide) ?_
  rw [show w 2 0 = 64 from zref hI rfl rfl]
  refine qG.call (t := 111) (na := 2) (sk := 1) (md := 1) (ls1 := [(2, 4), (2, 64), (9, 0)]) (r1 := []) rfl rfl rfl rfl rfl (K_perf4_64 (by omega) L hL w hI hs hKN hK hE) ?_
  rintro _ w1 _ ⟨rfl, rfl, hI1, hC⟩
  have hJ1 := J9.chp (show SHOWP 4 by unfold SHOWP; omega) hJ hC
  obtain ⟨e1, e2, e3, hfr⟩ := hC.row (by unfold SHOWP; omega)
  have hCe := hC.2.2.2.2.2.2.2
  have cv := hC.2.2.2.2.2.2.1
  show qG none (d + 1) 174 38 [(2, 1), (0, 0), (0, ((k9 : Nat) : Int)), (0, ((k : Nat) : Int)), (0, v)] [] w1 142 Q9
  refine qG.blk 2 (pc' := 42) (ls' := [(2, 1), (0, 0), (0, ((k9 : Nat) : Int)), (0, ((k : Nat) : Int)), (0, v)]) (st' := [(2, w1 1 5)]) (w' := w1) (n' := 142) rfl ?_
  rw [show w1 1 5 = 23 from (hfr 1 5 (by omega)).trans (zref hI rfl rfl)]
  refine qG.blk 2 (pc' := 46) (ls' := [(2, 1), (0, 0), (0, ((k9 : Nat) : Int)), (0, ((k : Nat) : Int)), (0, v)]) (st' := [(2, w1 1 0), (2, 23)]) (w' := w1) (n' := 142) rfl ?_
  rw [show w1 1 0 = 2 from (hfr 1 0 (by omega)).trans (zref hI rfl rfl)]
  refine qG.blk 1 (pc' := 47) (ls' := [(2, 1), (0, 0), (0, ((k9 : Nat) : Int)), (0, ((k : Nat) : Int)), (0, v)]) (st' := [(0, 0), (2, 2), (2, 23)]) (w' := w1) (n' := 142) rfl ?_
  refine qG.ar (P := 0 ≤ 0 ∧ 0 < ((3 : Nat) : Int)) (P2 := 0 < (2 : Int) ∧ (2 : Int) ≤ ((142 : Nat) : Int)) (pc' := 48) (ls' := [(2, 1), (0, 0), (0, ((k9 : Nat) : Int)), (0, ((k : Nat) : Int)), (0, v)]) (st' := [(2, w1 2 0), (2, 23)]) (w' := w1) (n' := 142) rfl (by omega) (by decide) ?_
  rw [show w1 2 0 = 64 from (hfr 2 0 (by omega)).trans (zref hI rfl rfl)]
  refine qG.blk 2 (pc' := 52) (ls' := [(2, 1), (0, 0), (0, ((k9 : Nat) : Int)), (0, ((k : Nat) : Int)), (0, v)]) (st' := [(2, w1 1 1), (2, 64), (2, 23)]) (w' := w1) (n' := 142) rfl ?_
  rw [show w1 1 1 = 3 from (hfr 1 1 (by omega)).trans (zref hI rfl rfl)]
  refine qG.blk 1 (pc' := 53) (ls' := [(2, 1), (0, 0), (0, ((k9 : Nat) : Int)), (0, ((k : Nat) : Int)), (0, v)]) (st' := [(0, ((k9 : Nat) : Int)), (2, 3), (2, 64), (2, 23)]) (w' := w1) (n' := 142) rfl ?_
  refine qG.ar (P := 0 ≤ ((k9 : Nat) : Int) ∧ ((k9 : Nat) : Int) < ((4 : Nat) : Int)) (P2 := 0 < (3 : Int) ∧ (3 : Int) ≤ ((142 : Nat) : Int)) (pc' := 54) (ls' := [(2, 1), (0, 0), (0, ((k9 : Nat) : Int)), (0, ((k : Nat) : Int)), (0, v)]) (st' := [(2, w1 3 k9), (2, 64), (2, 23)]) (w' := w1) (n' := 142) rfl (by omega) (by decide) ?_
  rw [show w1 3 k9 = 4 from (hfr 3 k9 (by omega)).trans h3]
  refine qG.blk 1 (pc' := 55) (ls' := [(2, 1), (0, 0), (0, ((k9 : Nat) : Int)), (0, ((k : Nat) : Int)), (0, v)]) (st' := [(0, ((k : Nat) : Int)), (2, 4), (2, 64), (2, 23)]) (w' := w1) (n' := 142) rfl ?_
  refine qG.call (t := 35) (na := 4) (sk := 1) (md := 1) (ls1 := [(2, 23), (2, 64), (2, 4), (0, ((k : Nat) : Int)), (9, 0), (9, 0), (9, 0)]) (r1 := []) rfl rfl rfl rfl rfl (K_flw64_4 (by omega) k hk1 hk2 (fun t => siF w 0 (w 5) (w 6) L t) L hL n w1 hI1 hJ1 (e3.trans hs) (by rw [e1, e2]; exact hKW) (by rw [e1, e2]; exact fun g hg u hu => (siF_vw hg hu).trans (cv g hg).symm)) ?_
  rintro _ w2 _ ⟨rfl, rfl, hI2, h2f, h2s⟩
  rw [e1, e2] at h2s
  obtain ⟨z1, z2, z3⟩ := pz_cg (w := w) (w1 := w1) (fun i => hCe 96 i (by decide) (by omega)) (fun i => hCe 99 i (by decide) (by omega)) 0 k
  rw [z1, z2, z3] at h2s
  show qG none (d + 1) 174 58 [(2, 1), (0, 0), (0, ((k9 : Nat) : Int)), (0, ((k : Nat) : Int)), (0, v)] [] w2 142 Q9
  refine qG.blk 2 (pc' := 62) (ls' := [(2, 1), (0, 0), (0, ((k9 : Nat) : Int)), (0, ((k : Nat) : Int)), (0, v)]) (st' := [(2, w2 1 5)]) (w' := w2) (n' := 142) rfl ?_
  rw [show w2 1 5 = 23 from zref hI2 rfl rfl]
  refine qG.blk 1 (pc' := 64) (ls' := [(2, 1), (0, 0), (0, ((k9 : Nat) : Int)), (0, ((k : Nat) : Int)), (0, v)]) (st' := [(0, v), (2, 23)]) (w' := w2) (n' := 142) rfl ?_
  refine qG.call (t := 37) (na := 2) (sk := 1) (md := 1) (ls1 := [(2, 23), (0, v)]) (r1 := []) rfl rfl rfl rfl rfl (K_outc (Nat.zero_le _) v w2) ?_
  rintro _ w7 _ ⟨rfl, hw7, rfl⟩
  rw [hw7]
  show qG none (d + 1) 174 67 [(2, 1), (0, 0), (0, ((k9 : Nat) : Int)), (0, ((k : Nat) : Int)), (0, v)] [(0, hoV (w2 23 4) (w2 23 5) v)] w2 142 Q9
  refine qG.ret rfl rfl ?_
  subst hQ9
  exact ⟨_, _, rfl, h2s⟩
theorem K_flw69_4 {d : Nat} (hd : 8 ≤ d) (k : Nat) (hk1 : 1 ≤ k) (hk2 : k ≤ 4) (V : Nat → Int) (L : Nat) (hL : L ≤ 40) (n : Nat) (w : qW) (hI : yInv zgf zga zra zSp w) (hJ : J9 n w) (hs : w 4 2 = (L : Int)) (hKW : KNw (w 5) (w 6) L) (hVV : ∀ g, g < L → ∀ u, u < dN (w 5 g) (w 6 g) → V (scF (w 5) (w 6) g + u) = w 7 g) : qG none d 35 0 [(2, 23), (2, 69), (2, 4), (0, ((k : Nat) : Int)), (9, 0), (9, 0), (9, 0)] [] w 142 (fun (r : qV) (w1 : qW) (n1 : Nat) => r = (9, 0) ∧ n1 = 142 ∧ yInv zgf zga zra zSp w1 ∧ (∀ q j, ¬ (27 ≤ q ∧ q ≤ 29) → ¬ (q = 23 ∧ 4 ≤ j ∧ j ≤ 5) → ¬ (24 ≤ q ∧ q ≤ 26) → w1 q j = w q j) ∧ HSP (pzN w 1 k) (pzP w 1 k) (pzM w 1 k) V (scF (w 5) (w 6) L) (w1 23 4) (w1 23 5)) := by
  generalize hQ9 : (fun (r : qV) (w1 : qW) (n1 : Nat) => r = (9, 0) ∧ n1 = 142 ∧ yInv zgf zga zra zSp w1 ∧ (∀ q j, ¬ (27 ≤ q ∧ q ≤ 29) → ¬ (q = 23 ∧ 4 ≤ j ∧ j ≤ 5) → ¬ (24 ≤ q ∧ q ≤ 26) → w1 q j = w q j) ∧ HSP (pzN w 1 k) (pzP w 1 k) (pzM w 1 k) V (scF (w 5) (w 6) L) (w1 23 4) (w1 23 5)) = Q9
  obtain ⟨d, rfl⟩ : ∃ d9, d = d9 + 1 := ⟨d - 1, by omega⟩
  refine qG.blk 2 (pc' := 4) (ls' := [(2, 23), (2, 69), (2, 4), (0, ((k : Nat) : Int)), (9, 0), (9, 0), (9, 0)]) (st' := [(2, w 23 0)]) (w' := w) (n' := 142) rfl ?_
  rw [show w 23 0 = 24 from zref hI rfl rfl]
  refine qG.blk 2 (pc' := 6) (ls' := [(2, 23), (2, 69), (2, 4), (0, ((k : Nat) : Int)), (9, 0), (9, 0), (9, 0)]) (st' := [(0, ((k : Nat) : Int)), (2, 69), (2, 24)]) (w' := w) (n' := 142) rfl ?_
  refine qG.call (t := 94) (na := 3) (sk := 1) (md := 1) (ls1 := [(2, 24), (2, 69), (0, ((k : Nat) : Int))]) (r1 := []) rfl rfl rfl rfl rfl (qG.and (T_findFor_69 (w0 := w) d [(2, 24), (2, 69), (0, ((k : Nat) : Int))] w (show C_findFor_69.2.1 ≤ d by exact Nat.le_trans (show C_findFor_69.2.1 ≤ 7 by decide) (by omega)) ⟨⟨rfl, by decide, by decide⟩, ⟨rfl, by decide, by decide⟩, ⟨rfl, by show (1 : Int) ≤ _; omega, by show _ ≤ (4 : Int); omega⟩, trivial⟩ hI (fun p hp => by cases hp) (fun e he => by cases he)) (K_findForC69 (by omega) k hk1 hk2 n w hI hJ)) ?_
  rintro _ wF _ ⟨⟨-, hIF, -, -, -⟩, rfl, rfl, hF⟩
  show qG none (d + 1) 35 9 [(2, 23), (2, 69), (2, 4), (0, ((k : Nat) : Int)), (9, 0), (9, 0), (9, 0)] [] wF 142 Q9
  subst hQ9
  obtain ⟨f0, f1, f2, hTX, hfr⟩ := hF
  have eF : ∀ q j, q ≠ 24 → q ≠ 25 → q ≠ 26 → wF q j = w q j := fun q j a b e => hfr q j (fun z => a z.1) b e
  have e1 : wF 5 = w 5 := funext fun j => eF _ j (by decide) (by decide) (by decide)
  have e2 : wF 6 = w 6 := funext fun j => eF _ j (by decide) (by decide) (by decide)
  have e3 : wF 7 = w 7 := funext fun j => eF _ j (by decide) (by decide) (by decide)
  obtain ⟨z1, z2, z3⟩ := pz_cg (w := w) (w1 := wF) (fun i => eF 96 i (by decide) (by decide) (by decide)) (fun i => eF 99 i (by decide) (by decide) (by decide)) 1 k
  refine qG.mono (K_flwB4 (by omega) (pzN w 1 k) (pzP w 1 k) (pzM w 1 k) V L hL wF hIF ((eF 4 2 (by decide) (by decide) (by decide)).trans hs) (by rw [e1, e2]; exact hKW) (by have z := hTX.ctb hk1 hk2; rw [z1, z2, z3] at z; exact z) (by rw [e1, e2, e3]; exact hVV) _ _) ?_
  rintro r w1 n1 ⟨h1, h2, h3, h4, h5⟩
  rw [e1, e2] at h5
  exact ⟨h1, h2, h3, fun q j a b c9 => (h4 q j a b).trans (eF q j (by omega) (by omega) (by omega)), h5⟩
theorem K_hideB4_69 {d : Nat} (hd : 9 ≤ d) (k9 : Nat) (hk9 : k9 < 4) (k : Nat) (hk1 : 1 ≤ k) (hk2 : k ≤ 4) (v : Int) (L : Nat) (hL : L ≤ 40) (n : Nat) (w : qW) (hI : yInv zgf zga zra zSp w) (hJ : J9 n w) (h3 : w 3 k9 = 4) (hs : w 4 2 = (L : Int)) (hKN : KNr (w 5) (w 6) L) (hKW : KNw (w 5) (w 6) L) (hK : w 69 0 = w 96 1) (hE : JE w) : qG none d 174 23 [(2, 1), (0, 1), (0, ((k9 : Nat) : Int)), (0, ((k : Nat) : Int)), (0, v)] [] w 142 (fun (r : qV) (_ : qW) (_ : Nat) => ∃ fl cn, r = (0, hoV fl cn v) ∧ HSP (pzN w 1 k) (pzP w 1 k) (pzM w 1 k) (fun t => siF w 1 (w 5) (w 6) L t) (scF (w 5) (w 6) L) fl cn) := by
  generalize hQ9 : (fun (r : qV) (_ : qW) (_ : Nat) => ∃ fl cn, r = (0, hoV fl cn v) ∧ HSP (pzN w 1 k) (pzP w 1 k) (pzM w 1 k) (fun t => siF w 1 (w 5) (w 6) L t) (scF (w 5) (w 6) L) fl cn) = Q9
  obtain ⟨d, rfl⟩ : ∃ d9, d = d9 + 1 := ⟨d - 1, by omega⟩
  refine qG.blk 2 (pc' := 27) (ls' := [(2, 1), (0, 1), (0, ((k9 : Nat) : Int)), (0, ((k : Nat) : Int)), (0, v)]) (st' := [(2, w 1 1)]) (w' := w) (n' := 142) rfl ?_
  rw [show w 1 1 = 3 from zref hI rfl rfl]
  refine qG.blk 1 (pc' := 28) (ls' := [(2, 1), (0, 1), (0, ((k9 : Nat) : Int)), (0, ((k : Nat) : Int)), (0, v)]) (st' := [(0, ((k9 : Nat) : Int)), (2, 3)]) (w' := w) (n' := 142) rfl ?_
  refine qG.ar (P := 0 ≤ ((k9 : Nat) : Int) ∧ ((k9 : Nat) : Int) < ((4 : Nat) : Int)) (P2 := 0 < (3 : Int) ∧ (3 : Int) ≤ ((142 : Nat) : Int)) (pc' := 29) (ls' := [(2, 1), (0, 1), (0, ((k9 : Nat) : Int)), (0, ((k : Nat) : Int)), (0, v)]) (st' := [(2, w 3 k9)]) (w' := w) (n' := 142) rfl (by omega) (by decide) ?_
  rw [show w 3 k9 = 4 from h3]
  refine qG.blk 2 (pc' := 33) (ls' := [(2, 1), (0, 1), (0, ((k9 : Nat) : Int)), (0, ((k : Nat) : Int)), (0, v)]) (st' := [(2, w 1 0), (2, 4)]) (w' := w) (n' := 142) rfl ?_
  rw [show w 1 0 = 2 from zref hI rfl rfl]
  refine qG.blk 1 (pc' := 34) (ls' := [(2, 1), (0, 1), (0, ((k9 : Nat) : Int)), (0, ((k : Nat) : Int)), (0, v)]) (st' := [(0, 1), (2, 2), (2, 4)]) (w' := w) (n' := 142) rfl ?_
  refine qG.ar (P := 0 ≤ 1 ∧ 1 < ((3 : Nat) : Int)) (P2 := 0 < (2 : Int) ∧ (2 : Int) ≤ ((142 : Nat) : Int)) (pc' := 35) (ls' := [(2, 1), (0, 1), (0, ((k9 : Nat) : Int)), (0, ((k : Nat) : Int)), (0, v)]) (st' := [(2, w 2 1), (2, 4)]) (w' := w) (n' := 142) rfl (by omega) (by decide) ?_
  rw [show w 2 1 = 69 from zref hI rfl rfl]
  refine qG.call (t := 111) (na := 2) (sk := 1) (md := 1) (ls1 := [(2, 4), (2, 69), (9, 0)]) (r1 := []) rfl rfl rfl rfl rfl (K_perf4_69 (by omega) L hL w hI hs hKN hK hE) ?_
  rintro _ w1 _ ⟨rfl, rfl, hI1, hC⟩
  have hJ1 := J9.chp (show SHOWP 4 by unfold SHOWP; omega) hJ hC
  obtain ⟨e1, e2, e3, hfr⟩ := hC.row (by unfold SHOWP; omega)
  have hCe := hC.2.2.2.2.2.2.2
  have cv := hC.2.2.2.2.2.2.1
  show qG none (d + 1) 174 38 [(2, 1), (0, 1), (0, ((k9 : Nat) : Int)), (0, ((k : Nat) : Int)), (0, v)] [] w1 142 Q9
  refine qG.blk 2 (pc' := 42) (ls' := [(2, 1), (0, 1), (0, ((k9 : Nat) : Int)), (0, ((k : Nat) : Int)), (0, v)]) (st' := [(2, w1 1 5)]) (w' := w1) (n' := 142) rfl ?_
  rw [show w1 1 5 = 23 from (hfr 1 5 (by omega)).trans (zref hI rfl rfl)]
  refine qG.blk 2 (pc' := 46) (ls' := [(2, 1), (0, 1), (0, ((k9 : Nat) : Int)), (0, ((k : Nat) : Int)), (0, v)]) (st' := [(2, w1 1 0), (2, 23)]) (w' := w1) (n' := 142) rfl ?_
  rw [show w1 1 0 = 2 from (hfr 1 0 (by omega)).trans (zref hI rfl rfl)]
  refine qG.blk 1 (pc' := 47) (ls' := [(2, 1), (0, 1), (0, ((k9 : Nat) : Int)), (0, ((k : Nat) : Int)), (0, v)]) (st' := [(0, 1), (2, 2), (2, 23)]) (w' := w1) (n' := 142) rfl ?_
  refine qG.ar (P := 0 ≤ 1 ∧ 1 < ((3 : Nat) : Int)) (P2 := 0 < (2 : Int) ∧ (2 : Int) ≤ ((142 : Nat) : Int)) (pc' := 48) (ls' := [(2, 1), (0, 1), (0, ((k9 : Nat) : Int)), (0, ((k : Nat) : Int)), (0, v)]) (st' := [(2, w1 2 1), (2, 23)]) (w' := w1) (n' := 142) rfl (by omega) (by decide) ?_
  rw [show w1 2 1 = 69 from (hfr 2 1 (by omega)).trans (zref hI rfl rfl)]
  refine qG.blk 2 (pc' := 52) (ls' := [(2, 1), (0, 1), (0, ((k9 : Nat) : Int)), (0, ((k : Nat) : Int)), (0, v)]) (st' := [(2, w1 1 1), (2, 69), (2, 23)]) (w' := w1) (n' := 142) rfl ?_
  rw [show w1 1 1 = 3 from (hfr 1 1 (by omega)).trans (zref hI rfl rfl)]
  refine qG.blk 1 (pc' := 53) (ls' := [(2, 1), (0, 1), (0, ((k9 : Nat) : Int)), (0, ((k : Nat) : Int)), (0, v)]) (st' := [(0, ((k9 : Nat) : Int)), (2, 3), (2, 69), (2, 23)]) (w' := w1) (n' := 142) rfl ?_
  refine qG.ar (P := 0 ≤ ((k9 : Nat) : Int) ∧ ((k9 : Nat) : Int) < ((4 : Nat) : Int)) (P2 := 0 < (3 : Int) ∧ (3 : Int) ≤ ((142 : Nat) : Int)) (pc' := 54) (ls' := [(2, 1), (0, 1), (0, ((k9 : Nat) : Int)), (0, ((k : Nat) : Int)), (0, v)]) (st' := [(2, w1 3 k9), (2, 69), (2, 23)]) (w' := w1) (n' := 142) rfl (by omega) (by decide) ?_
  rw [show w1 3 k9 = 4 from (hfr 3 k9 (by omega)).trans h3]
  refine qG.blk 1 (pc' := 55) (ls' := [(2, 1), (0, 1), (0, ((k9 : Nat) : Int)), (0, ((k : Nat) : Int)), (0, v)]) (st' := [(0, ((k : Nat) : Int)), (2, 4), (2, 69), (2, 23)]) (w' := w1) (n' := 142) rfl ?_
  refine qG.call (t := 35) (na := 4) (sk := 1) (md := 1) (ls1 := [(2, 23), (2, 69), (2, 4), (0, ((k : Nat) : Int)), (9, 0), (9, 0), (9, 0)]) (r1 := []) rfl rfl rfl rfl rfl (K_flw69_4 (by omega) k hk1 hk2 (fun t => siF w 1 (w 5) (w 6) L t) L hL n w1 hI1 hJ1 (e3.trans hs) (by rw [e1, e2]; exact hKW) (by rw [e1, e2]; exact fun g hg u hu => (siF_vw hg hu).trans (cv g hg).symm)) ?_
  rintro _ w2 _ ⟨rfl, rfl, hI2, h2f, h2s⟩
  rw [e1, e2] at h2s
  obtain ⟨z1, z2, z3⟩ := pz_cg (w := w) (w1 := w1) (fun i => hCe 96 i (by decide) (by omega)) (fun i => hCe 99 i (by decide) (by omega)) 1 k
  rw [z1, z2, z3] at h2s
  show qG none (d + 1) 174 58 [(2, 1), (0, 1), (0, ((k9 : Nat) : Int)), (0, ((k : Nat) : Int)), (0, v)] [] w2 142 Q9
  refine qG.blk 2 (pc' := 62) (ls' := [(2, 1), (0, 1), (0, ((k9 : Nat) : Int)), (0, ((k : Nat) : Int)), (0, v)]) (st' := [(2, w2 1 5)]) (w' := w2) (n' := 142) rfl ?_
  rw [show w2 1 5 = 23 from zref hI2 rfl rfl]
  refine qG.blk 1 (pc' := 64) (ls' := [(2, 1), (0, 1), (0, ((k9 : Nat) : Int)), (0, ((k : Nat) : Int)), (0, v)]) (st' := [(0, v), (2, 23)]) (w' := w2) (n' := 142) rfl ?_
  refine qG.call (t := 37) (na := 2) (sk := 1) (md := 1) (ls1 := [(2, 23), (0, v)]) (r1 := []) rfl rfl rfl rfl rfl (K_outc (Nat.zero_le _) v w2) ?_
  rintro _ w7 _ ⟨rfl, hw7, rfl⟩
  rw [hw7]
  show qG none (d + 1) 174 67 [(2, 1), (0, 1), (0, ((k9 : Nat) : Int)), (0, ((k : Nat) : Int)), (0, v)] [(0, hoV (w2 23 4) (w2 23 5) v)] w2 142 Q9
  refine qG.ret rfl rfl ?_
  subst hQ9
  exact ⟨_, _, rfl, h2s⟩
theorem K_flw74_4 {d : Nat} (hd : 8 ≤ d) (k : Nat) (hk1 : 1 ≤ k) (hk2 : k ≤ 4) (V : Nat → Int) (L : Nat) (hL : L ≤ 40) (n : Nat) (w : qW) (hI : yInv zgf zga zra zSp w) (hJ : J9 n w) (hs : w 4 2 = (L : Int)) (hKW : KNw (w 5) (w 6) L) (hVV : ∀ g, g < L → ∀ u, u < dN (w 5 g) (w 6 g) → V (scF (w 5) (w 6) g + u) = w 7 g) : qG none d 35 0 [(2, 23), (2, 74), (2, 4), (0, ((k : Nat) : Int)), (9, 0), (9, 0), (9, 0)] [] w 142 (fun (r : qV) (w1 : qW) (n1 : Nat) => r = (9, 0) ∧ n1 = 142 ∧ yInv zgf zga zra zSp w1 ∧ (∀ q j, ¬ (27 ≤ q ∧ q ≤ 29) → ¬ (q = 23 ∧ 4 ≤ j ∧ j ≤ 5) → ¬ (24 ≤ q ∧ q ≤ 26) → w1 q j = w q j) ∧ HSP (pzN w 2 k) (pzP w 2 k) (pzM w 2 k) V (scF (w 5) (w 6) L) (w1 23 4) (w1 23 5)) := by
  generalize hQ9 : (fun (r : qV) (w1 : qW) (n1 : Nat) => r = (9, 0) ∧ n1 = 142 ∧ yInv zgf zga zra zSp w1 ∧ (∀ q j, ¬ (27 ≤ q ∧ q ≤ 29) → ¬ (q = 23 ∧ 4 ≤ j ∧ j ≤ 5) → ¬ (24 ≤ q ∧ q ≤ 26) → w1 q j = w q j) ∧ HSP (pzN w 2 k) (pzP w 2 k) (pzM w 2 k) V (scF (w 5) (w 6) L) (w1 23 4) (w1 23 5)) = Q9
  obtain ⟨d, rfl⟩ : ∃ d9, d = d9 + 1 := ⟨d - 1, by omega⟩
  refine qG.blk 2 (pc' := 4) (ls' := [(2, 23), (2, 74), (2, 4), (0, ((k : Nat) : Int)), (9, 0), (9, 0), (9, 0)]) (st' := [(2, w 23 0)]) (w' := w) (n' := 142) rfl ?_
  rw [show w 23 0 = 24 from zref hI rfl rfl]
  refine qG.blk 2 (pc' := 6) (ls' := [(2, 23), (2, 74), (2, 4), (0, ((k : Nat) : Int)), (9, 0), (9, 0), (9, 0)]) (st' := [(0, ((k : Nat) : Int)), (2, 74), (2, 24)]) (w' := w) (n' := 142) rfl ?_
  refine qG.call (t := 94) (na := 3) (sk := 1) (md := 1) (ls1 := [(2, 24), (2, 74), (0, ((k : Nat) : Int))]) (r1 := []) rfl rfl rfl rfl rfl (qG.and (T_findFor_74 (w0 := w) d [(2, 24), (2, 74), (0, ((k : Nat) : Int))] w (show C_findFor_74.2.1 ≤ d by exact Nat.le_trans (show C_findFor_74.2.1 ≤ 7 by decide) (by omega)) ⟨⟨rfl, by decide, by decide⟩, ⟨rfl, by decide, by decide⟩, ⟨rfl, by show (1 : Int) ≤ _; omega, by show _ ≤ (4 : Int); omega⟩, trivial⟩ hI (fun p hp => by cases hp) (fun e he => by cases he)) (K_findForC74 (by omega) k hk1 hk2 n w hI hJ)) ?_
  rintro _ wF _ ⟨⟨-, hIF, -, -, -⟩, rfl, rfl, hF⟩
  show qG none (d + 1) 35 9 [(2, 23), (2, 74), (2, 4), (0, ((k : Nat) : Int)), (9, 0), (9, 0), (9, 0)] [] wF 142 Q9
  subst hQ9
  obtain ⟨f0, f1, f2, hTX, hfr⟩ := hF
  have eF : ∀ q j, q ≠ 24 → q ≠ 25 → q ≠ 26 → wF q j = w q j := fun q j a b e => hfr q j (fun z => a z.1) b e
  have e1 : wF 5 = w 5 := funext fun j => eF _ j (by decide) (by decide) (by decide)
  have e2 : wF 6 = w 6 := funext fun j => eF _ j (by decide) (by decide) (by decide)
  have e3 : wF 7 = w 7 := funext fun j => eF _ j (by decide) (by decide) (by decide)
  obtain ⟨z1, z2, z3⟩ := pz_cg (w := w) (w1 := wF) (fun i => eF 96 i (by decide) (by decide) (by decide)) (fun i => eF 99 i (by decide) (by decide) (by decide)) 2 k
  refine qG.mono (K_flwB4 (by omega) (pzN w 2 k) (pzP w 2 k) (pzM w 2 k) V L hL wF hIF ((eF 4 2 (by decide) (by decide) (by decide)).trans hs) (by rw [e1, e2]; exact hKW) (by have z := hTX.ctb hk1 hk2; rw [z1, z2, z3] at z; exact z) (by rw [e1, e2, e3]; exact hVV) _ _) ?_
  rintro r w1 n1 ⟨h1, h2, h3, h4, h5⟩
  rw [e1, e2] at h5
  exact ⟨h1, h2, h3, fun q j a b c9 => (h4 q j a b).trans (eF q j (by omega) (by omega) (by omega)), h5⟩
theorem K_hideB4_74 {d : Nat} (hd : 9 ≤ d) (k9 : Nat) (hk9 : k9 < 4) (k : Nat) (hk1 : 1 ≤ k) (hk2 : k ≤ 4) (v : Int) (L : Nat) (hL : L ≤ 40) (n : Nat) (w : qW) (hI : yInv zgf zga zra zSp w) (hJ : J9 n w) (h3 : w 3 k9 = 4) (hs : w 4 2 = (L : Int)) (hKN : KNr (w 5) (w 6) L) (hKW : KNw (w 5) (w 6) L) (hK : w 74 0 = w 96 2) (hE : JE w) : qG none d 174 23 [(2, 1), (0, 2), (0, ((k9 : Nat) : Int)), (0, ((k : Nat) : Int)), (0, v)] [] w 142 (fun (r : qV) (_ : qW) (_ : Nat) => ∃ fl cn, r = (0, hoV fl cn v) ∧ HSP (pzN w 2 k) (pzP w 2 k) (pzM w 2 k) (fun t => siF w 2 (w 5) (w 6) L t) (scF (w 5) (w 6) L) fl cn) := by
  generalize hQ9 : (fun (r : qV) (_ : qW) (_ : Nat) => ∃ fl cn, r = (0, hoV fl cn v) ∧ HSP (pzN w 2 k) (pzP w 2 k) (pzM w 2 k) (fun t => siF w 2 (w 5) (w 6) L t) (scF (w 5) (w 6) L) fl cn) = Q9
  obtain ⟨d, rfl⟩ : ∃ d9, d = d9 + 1 := ⟨d - 1, by omega⟩
  refine qG.blk 2 (pc' := 27) (ls' := [(2, 1), (0, 2), (0, ((k9 : Nat) : Int)), (0, ((k : Nat) : Int)), (0, v)]) (st' := [(2, w 1 1)]) (w' := w) (n' := 142) rfl ?_
  rw [show w 1 1 = 3 from zref hI rfl rfl]
  refine qG.blk 1 (pc' := 28) (ls' := [(2, 1), (0, 2), (0, ((k9 : Nat) : Int)), (0, ((k : Nat) : Int)), (0, v)]) (st' := [(0, ((k9 : Nat) : Int)), (2, 3)]) (w' := w) (n' := 142) rfl ?_
  refine qG.ar (P := 0 ≤ ((k9 : Nat) : Int) ∧ ((k9 : Nat) : Int) < ((4 : Nat) : Int)) (P2 := 0 < (3 : Int) ∧ (3 : Int) ≤ ((142 : Nat) : Int)) (pc' := 29) (ls' := [(2, 1), (0, 2), (0, ((k9 : Nat) : Int)), (0, ((k : Nat) : Int)), (0, v)]) (st' := [(2, w 3 k9)]) (w' := w) (n' := 142) rfl (by omega) (by decide) ?_
  rw [show w 3 k9 = 4 from h3]
  refine qG.blk 2 (pc' := 33) (ls' := [(2, 1), (0, 2), (0, ((k9 : Nat) : Int)), (0, ((k : Nat) : Int)), (0, v)]) (st' := [(2, w 1 0), (2, 4)]) (w' := w) (n' := 142) rfl ?_
  rw [show w 1 0 = 2 from zref hI rfl rfl]
  refine qG.blk 1 (pc' := 34) (ls' := [(2, 1), (0, 2), (0, ((k9 : Nat) : Int)), (0, ((k : Nat) : Int)), (0, v)]) (st' := [(0, 2), (2, 2), (2, 4)]) (w' := w) (n' := 142) rfl ?_
  refine qG.ar (P := 0 ≤ 2 ∧ 2 < ((3 : Nat) : Int)) (P2 := 0 < (2 : Int) ∧ (2 : Int) ≤ ((142 : Nat) : Int)) (pc' := 35) (ls' := [(2, 1), (0, 2), (0, ((k9 : Nat) : Int)), (0, ((k : Nat) : Int)), (0, v)]) (st' := [(2, w 2 2), (2, 4)]) (w' := w) (n' := 142) rfl (by omega) (by decide) ?_
  rw [show w 2 2 = 74 from zref hI rfl rfl]
  refine qG.call (t := 111) (na := 2) (sk := 1) (md := 1) (ls1 := [(2, 4), (2, 74), (9, 0)]) (r1 := []) rfl rfl rfl rfl rfl (K_perf4_74 (by omega) L hL w hI hs hKN hK hE) ?_
  rintro _ w1 _ ⟨rfl, rfl, hI1, hC⟩
  have hJ1 := J9.chp (show SHOWP 4 by unfold SHOWP; omega) hJ hC
  obtain ⟨e1, e2, e3, hfr⟩ := hC.row (by unfold SHOWP; omega)
  have hCe := hC.2.2.2.2.2.2.2
  have cv := hC.2.2.2.2.2.2.1
  show qG none (d + 1) 174 38 [(2, 1), (0, 2), (0, ((k9 : Nat) : Int)), (0, ((k : Nat) : Int)), (0, v)] [] w1 142 Q9
  refine qG.blk 2 (pc' := 42) (ls' := [(2, 1), (0, 2), (0, ((k9 : Nat) : Int)), (0, ((k : Nat) : Int)), (0, v)]) (st' := [(2, w1 1 5)]) (w' := w1) (n' := 142) rfl ?_
  rw [show w1 1 5 = 23 from (hfr 1 5 (by omega)).trans (zref hI rfl rfl)]
  refine qG.blk 2 (pc' := 46) (ls' := [(2, 1), (0, 2), (0, ((k9 : Nat) : Int)), (0, ((k : Nat) : Int)), (0, v)]) (st' := [(2, w1 1 0), (2, 23)]) (w' := w1) (n' := 142) rfl ?_
  rw [show w1 1 0 = 2 from (hfr 1 0 (by omega)).trans (zref hI rfl rfl)]
  refine qG.blk 1 (pc' := 47) (ls' := [(2, 1), (0, 2), (0, ((k9 : Nat) : Int)), (0, ((k : Nat) : Int)), (0, v)]) (st' := [(0, 2), (2, 2), (2, 23)]) (w' := w1) (n' := 142) rfl ?_
  refine qG.ar (P := 0 ≤ 2 ∧ 2 < ((3 : Nat) : Int)) (P2 := 0 < (2 : Int) ∧ (2 : Int) ≤ ((142 : Nat) : Int)) (pc' := 48) (ls' := [(2, 1), (0, 2), (0, ((k9 : Nat) : Int)), (0, ((k : Nat) : Int)), (0, v)]) (st' := [(2, w1 2 2), (2, 23)]) (w' := w1) (n' := 142) rfl (by omega) (by decide) ?_
  rw [show w1 2 2 = 74 from (hfr 2 2 (by omega)).trans (zref hI rfl rfl)]
  refine qG.blk 2 (pc' := 52) (ls' := [(2, 1), (0, 2), (0, ((k9 : Nat) : Int)), (0, ((k : Nat) : Int)), (0, v)]) (st' := [(2, w1 1 1), (2, 74), (2, 23)]) (w' := w1) (n' := 142) rfl ?_
  rw [show w1 1 1 = 3 from (hfr 1 1 (by omega)).trans (zref hI rfl rfl)]
  refine qG.blk 1 (pc' := 53) (ls' := [(2, 1), (0, 2), (0, ((k9 : Nat) : Int)), (0, ((k : Nat) : Int)), (0, v)]) (st' := [(0, ((k9 : Nat) : Int)), (2, 3), (2, 74), (2, 23)]) (w' := w1) (n' := 142) rfl ?_
  refine qG.ar (P := 0 ≤ ((k9 : Nat) : Int) ∧ ((k9 : Nat) : Int) < ((4 : Nat) : Int)) (P2 := 0 < (3 : Int) ∧ (3 : Int) ≤ ((142 : Nat) : Int)) (pc' := 54) (ls' := [(2, 1), (0, 2), (0, ((k9 : Nat) : Int)), (0, ((k : Nat) : Int)), (0, v)]) (st' := [(2, w1 3 k9), (2, 74), (2, 23)]) (w' := w1) (n' := 142) rfl (by omega) (by decide) ?_
  rw [show w1 3 k9 = 4 from (hfr 3 k9 (by omega)).trans h3]
  refine qG.blk 1 (pc' := 55) (ls' := [(2, 1), (0, 2), (0, ((k9 : Nat) : Int)), (0, ((k : Nat) : Int)), (0, v)]) (st' := [(0, ((k : Nat) : Int)), (2, 4), (2, 74), (2, 23)]) (w' := w1) (n' := 142) rfl ?_
  refine qG.call (t := 35) (na := 4) (sk := 1) (md := 1) (ls1 := [(2, 23), (2, 74), (2, 4), (0, ((k : Nat) : Int)), (9, 0), (9, 0), (9, 0)]) (r1 := []) rfl rfl rfl rfl rfl (K_flw74_4 (by omega) k hk1 hk2 (fun t => siF w 2 (w 5) (w 6) L t) L hL n w1 hI1 hJ1 (e3.trans hs) (by rw [e1, e2]; exact hKW) (by rw [e1, e2]; exact fun g hg u hu => (siF_vw hg hu).trans (cv g hg).symm)) ?_
  rintro _ w2 _ ⟨rfl, rfl, hI2, h2f, h2s⟩
  rw [e1, e2] at h2s
  obtain ⟨z1, z2, z3⟩ := pz_cg (w := w) (w1 := w1) (fun i => hCe 96 i (by decide) (by omega)) (fun i => hCe 99 i (by decide) (by omega)) 2 k
  rw [z1, z2, z3] at h2s
  show qG none (d + 1) 174 58 [(2, 1), (0, 2), (0, ((k9 : Nat) : Int)), (0, ((k : Nat) : Int)), (0, v)] [] w2 142 Q9
  refine qG.blk 2 (pc' := 62) (ls' := [(2, 1), (0, 2), (0, ((k9 : Nat) : Int)), (0, ((k : Nat) : Int)), (0, v)]) (st' := [(2, w2 1 5)]) (w' := w2) (n' := 142) rfl ?_
  rw [show w2 1 5 = 23 from zref hI2 rfl rfl]
  refine qG.blk 1 (pc' := 64) (ls' := [(2, 1), (0, 2), (0, ((k9 : Nat) : Int)), (0, ((k : Nat) : Int)), (0, v)]) (st' := [(0, v), (2, 23)]) (w' := w2) (n' := 142) rfl ?_
  refine qG.call (t := 37) (na := 2) (sk := 1) (md := 1) (ls1 := [(2, 23), (0, v)]) (r1 := []) rfl rfl rfl rfl rfl (K_outc (Nat.zero_le _) v w2) ?_
  rintro _ w7 _ ⟨rfl, hw7, rfl⟩
  rw [hw7]
  show qG none (d + 1) 174 67 [(2, 1), (0, 2), (0, ((k9 : Nat) : Int)), (0, ((k : Nat) : Int)), (0, v)] [(0, hoV (w2 23 4) (w2 23 5) v)] w2 142 Q9
  refine qG.ret rfl rfl ?_
  subst hQ9
  exact ⟨_, _, rfl, h2s⟩
theorem K_flw64_79 {d : Nat} (hd : 8 ≤ d) (k : Nat) (hk1 : 1 ≤ k) (hk2 : k ≤ 4) (V : Nat → Int) (L : Nat) (hL : L ≤ 40) (n : Nat) (w : qW) (hI : yInv zgf zga zra zSp w) (hJ : J9 n w) (hs : w 79 2 = (L : Int)) (hKW : KNw (w 80) (w 81) L) (hVV : ∀ g, g < L → ∀ u, u < dN (w 80 g) (w 81 g) → V (scF (w 80) (w 81) g + u) = w 82 g) : qG none d 35 0 [(2, 23), (2, 64), (2, 79), (0, ((k : Nat) : Int)), (9, 0), (9, 0), (9, 0)] [] w 142 (fun (r : qV) (w1 : qW) (n1 : Nat) => r = (9, 0) ∧ n1 = 142 ∧ yInv zgf zga zra zSp w1 ∧ (∀ q j, ¬ (27 ≤ q ∧ q ≤ 29) → ¬ (q = 23 ∧ 4 ≤ j ∧ j ≤ 5) → ¬ (24 ≤ q ∧ q ≤ 26) → w1 q j = w q j) ∧ HSP (pzN w 0 k) (pzP w 0 k) (pzM w 0 k) V (scF (w 80) (w 81) L) (w1 23 4) (w1 23 5)) := by
  generalize hQ9 : (fun (r : qV) (w1 : qW) (n1 : Nat) => r = (9, 0) ∧ n1 = 142 ∧ yInv zgf zga zra zSp w1 ∧ (∀ q j, ¬ (27 ≤ q ∧ q ≤ 29) → ¬ (q = 23 ∧ 4 ≤ j ∧ j ≤ 5) → ¬ (24 ≤ q ∧ q ≤ 26) → w1 q j = w q j) ∧ HSP (pzN w 0 k) (pzP w 0 k) (pzM w 0 k) V (scF (w 80) (w 81) L) (w1 23 4) (w1 23 5)) = Q9
  obtain ⟨d, rfl⟩ : ∃ d9, d = d9 + 1 := ⟨d - 1, by omega⟩
  refine qG.blk 2 (pc' := 4) (ls' := [(2, 23), (2, 64), (2, 79), (0, ((k : Nat) : Int)), (9, 0), (9, 0), (9, 0)]) (st' := [(2, w 23 0)]) (w' := w) (n' := 142) rfl ?_
  rw [show w 23 0 = 24 from zref hI rfl rfl]
  refine qG.blk 2 (pc' := 6) (ls' := [(2, 23), (2, 64), (2, 79), (0, ((k : Nat) : Int)), (9, 0), (9, 0), (9, 0)]) (st' := [(0, ((k : Nat) : Int)), (2, 64), (2, 24)]) (w' := w) (n' := 142) rfl ?_
  refine qG.call (t := 94) (na := 3) (sk := 1) (md := 1) (ls1 := [(2, 24), (2, 64), (0, ((k : Nat) : Int))]) (r1 := []) rfl rfl rfl rfl rfl (qG.and (T_findFor_64 (w0 := w) d [(2, 24), (2, 64), (0, ((k : Nat) : Int))] w (show C_findFor_64.2.1 ≤ d by exact Nat.le_trans (show C_findFor_64.2.1 ≤ 7 by decide) (by omega)) ⟨⟨rfl, by decide, by decide⟩, ⟨rfl, by decide, by decide⟩, ⟨rfl, by show (1 : Int) ≤ _; omega, by show _ ≤ (4 : Int); omega⟩, trivial⟩ hI (fun p hp => by cases hp) (fun e he => by cases he)) (K_findForC64 (by omega) k hk1 hk2 n w hI hJ)) ?_
  rintro _ wF _ ⟨⟨-, hIF, -, -, -⟩, rfl, rfl, hF⟩
  show qG none (d + 1) 35 9 [(2, 23), (2, 64), (2, 79), (0, ((k : Nat) : Int)), (9, 0), (9, 0), (9, 0)] [] wF 142 Q9
  subst hQ9
  obtain ⟨f0, f1, f2, hTX, hfr⟩ := hF
  have eF : ∀ q j, q ≠ 24 → q ≠ 25 → q ≠ 26 → wF q j = w q j := fun q j a b e => hfr q j (fun z => a z.1) b e
  have e1 : wF 80 = w 80 := funext fun j => eF _ j (by decide) (by decide) (by decide)
  have e2 : wF 81 = w 81 := funext fun j => eF _ j (by decide) (by decide) (by decide)
  have e3 : wF 82 = w 82 := funext fun j => eF _ j (by decide) (by decide) (by decide)
  obtain ⟨z1, z2, z3⟩ := pz_cg (w := w) (w1 := wF) (fun i => eF 96 i (by decide) (by decide) (by decide)) (fun i => eF 99 i (by decide) (by decide) (by decide)) 0 k
  refine qG.mono (K_flwB79 (by omega) (pzN w 0 k) (pzP w 0 k) (pzM w 0 k) V L hL wF hIF ((eF 79 2 (by decide) (by decide) (by decide)).trans hs) (by rw [e1, e2]; exact hKW) (by have z := hTX.ctb hk1 hk2; rw [z1, z2, z3] at z; exact z) (by rw [e1, e2, e3]; exact hVV) _ _) ?_
  rintro r w1 n1 ⟨h1, h2, h3, h4, h5⟩
  rw [e1, e2] at h5
  exact ⟨h1, h2, h3, fun q j a b c9 => (h4 q j a b).trans (eF q j (by omega) (by omega) (by omega)), h5⟩
theorem K_hideB79_64 {d : Nat} (hd : 9 ≤ d) (k9 : Nat) (hk9 : k9 < 4) (k : Nat) (hk1 : 1 ≤ k) (hk2 : k ≤ 4) (v : Int) (L : Nat) (hL : L ≤ 40) (n : Nat) (w : qW) (hI : yInv zgf zga zra zSp w) (hJ : J9 n w) (h3 : w 3 k9 = 79) (hs : w 79 2 = (L : Int)) (hKN : KNr (w 80) (w 81) L) (hKW : KNw (w 80) (w 81) L) (hK : w 64 0 = w 96 0) (hE : JE w) : qG none d 174 23 [(2, 1), (0, 0), (0, ((k9 : Nat) : Int)), (0, ((k : Nat) : Int)), (0, v)] [] w 142 (fun (r : qV) (_ : qW) (_ : Nat) => ∃ fl cn, r = (0, hoV fl cn v) ∧ HSP (pzN w 0 k) (pzP w 0 k) (pzM w 0 k) (fun t => siF w 0 (w 80) (w 81) L t) (scF (w 80) (w 81) L) fl cn) := by
  generalize hQ9 : (fun (r : qV) (_ : qW) (_ : Nat) => ∃ fl cn, r = (0, hoV fl cn v) ∧ HSP (pzN w 0 k) (pzP w 0 k) (pzM w 0 k) (fun t => siF w 0 (w 80) (w 81) L t) (scF (w 80) (w 81) L) fl cn) = Q9
  obtain ⟨d, rfl⟩ : ∃ d9, d = d9 + 1 := ⟨d - 1, by omega⟩
  refine qG.blk 2 (pc' := 27) (ls' := [(2, 1), (0, 0), (0, ((k9 : Nat) : Int)), (0, ((k : Nat) : Int)), (0, v)]) (st' := [(2, w 1 1)]) (w' := w) (n' := 142) rfl ?_
  rw [show w 1 1 = 3 from zref hI rfl rfl]
  refine qG.blk 1 (pc' := 28) (ls' := [(2, 1), (0, 0), (0, ((k9 : Nat) : Int)), (0, ((k : Nat) : Int)), (0, v)]) (st' := [(0, ((k9 : Nat) : Int)), (2, 3)]) (w' := w) (n' := 142) rfl ?_
  refine qG.ar (P := 0 ≤ ((k9 : Nat) : Int) ∧ ((k9 : Nat) : Int) < ((4 : Nat) : Int)) (P2 := 0 < (3 : Int) ∧ (3 : Int) ≤ ((142 : Nat) : Int)) (pc' := 29) (ls' := [(2, 1), (0, 0), (0, ((k9 : Nat) : Int)), (0, ((k : Nat) : Int)), (0, v)]) (st' := [(2, w 3 k9)]) (w' := w) (n' := 142) rfl (by omega) (by decide) ?_
  rw [show w 3 k9 = 79 from h3]
  refine qG.blk 2 (pc' := 33) (ls' := [(2, 1), (0, 0), (0, ((k9 : Nat) : Int)), (0, ((k : Nat) : Int)), (0, v)]) (st' := [(2, w 1 0), (2, 79)]) (w' := w) (n' := 142) rfl ?_
  rw [show w 1 0 = 2 from zref hI rfl rfl]
  refine qG.blk 1 (pc' := 34) (ls' := [(2, 1), (0, 0), (0, ((k9 : Nat) : Int)), (0, ((k : Nat) : Int)), (0, v)]) (st' := [(0, 0), (2, 2), (2, 79)]) (w' := w) (n' := 142) rfl ?_
  refine qG.ar (P := 0 ≤ 0 ∧ 0 < ((3 : Nat) : Int)) (P2 := 0 < (2 : Int) ∧ (2 : Int) ≤ ((142 : Nat) : Int)) (pc' := 35) (ls' := [(2, 1), (0, 0), (0, ((k9 : Nat) : Int)), (0, ((k : Nat) : Int)), (0, v)]) (st' := [(2, w 2 0), (2, 79)]) (w' := w) (n' := 142) rfl (by omega) (by decide) ?_
  rw [show w 2 0 = 64 from zref hI rfl rfl]
  refine qG.call (t := 111) (na := 2) (sk := 1) (md := 1) (ls1 := [(2, 79), (2, 64), (9, 0)]) (r1 := []) rfl rfl rfl rfl rfl (K_perf79_64 (by omega) L hL w hI hs hKN hK hE) ?_
  rintro _ w1 _ ⟨rfl, rfl, hI1, hC⟩
  have hJ1 := J9.chp (show SHOWP 79 by unfold SHOWP; omega) hJ hC
  obtain ⟨e1, e2, e3, hfr⟩ := hC.row (by unfold SHOWP; omega)
  have hCe := hC.2.2.2.2.2.2.2
  have cv := hC.2.2.2.2.2.2.1
  show qG none (d + 1) 174 38 [(2, 1), (0, 0), (0, ((k9 : Nat) : Int)), (0, ((k : Nat) : Int)), (0, v)] [] w1 142 Q9
  refine qG.blk 2 (pc' := 42) (ls' := [(2, 1), (0, 0), (0, ((k9 : Nat) : Int)), (0, ((k : Nat) : Int)), (0, v)]) (st' := [(2, w1 1 5)]) (w' := w1) (n' := 142) rfl ?_
  rw [show w1 1 5 = 23 from (hfr 1 5 (by omega)).trans (zref hI rfl rfl)]
  refine qG.blk 2 (pc' := 46) (ls' := [(2, 1), (0, 0), (0, ((k9 : Nat) : Int)), (0, ((k : Nat) : Int)), (0, v)]) (st' := [(2, w1 1 0), (2, 23)]) (w' := w1) (n' := 142) rfl ?_
  rw [show w1 1 0 = 2 from (hfr 1 0 (by omega)).trans (zref hI rfl rfl)]
  refine qG.blk 1 (pc' := 47) (ls' := [(2, 1), (0, 0), (0, ((k9 : Nat) : Int)), (0, ((k : Nat) : Int)), (0, v)]) (st' := [(0, 0), (2, 2), (2, 23)]) (w' := w1) (n' := 142) rfl ?_
  refine qG.ar (P := 0 ≤ 0 ∧ 0 < ((3 : Nat) : Int)) (P2 := 0 < (2 : Int) ∧ (2 : Int) ≤ ((142 : Nat) : Int)) (pc' := 48) (ls' := [(2, 1), (0, 0), (0, ((k9 : Nat) : Int)), (0, ((k : Nat) : Int)), (0, v)]) (st' := [(2, w1 2 0), (2, 23)]) (w' := w1) (n' := 142) rfl (by omega) (by decide) ?_
  rw [show w1 2 0 = 64 from (hfr 2 0 (by omega)).trans (zref hI rfl rfl)]
  refine qG.blk 2 (pc' := 52) (ls' := [(2, 1), (0, 0), (0, ((k9 : Nat) : Int)), (0, ((k : Nat) : Int)), (0, v)]) (st' := [(2, w1 1 1), (2, 64), (2, 23)]) (w' := w1) (n' := 142) rfl ?_
  rw [show w1 1 1 = 3 from (hfr 1 1 (by omega)).trans (zref hI rfl rfl)]
  refine qG.blk 1 (pc' := 53) (ls' := [(2, 1), (0, 0), (0, ((k9 : Nat) : Int)), (0, ((k : Nat) : Int)), (0, v)]) (st' := [(0, ((k9 : Nat) : Int)), (2, 3), (2, 64), (2, 23)]) (w' := w1) (n' := 142) rfl ?_
  refine qG.ar (P := 0 ≤ ((k9 : Nat) : Int) ∧ ((k9 : Nat) : Int) < ((4 : Nat) : Int)) (P2 := 0 < (3 : Int) ∧ (3 : Int) ≤ ((142 : Nat) : Int)) (pc' := 54) (ls' := [(2, 1), (0, 0), (0, ((k9 : Nat) : Int)), (0, ((k : Nat) : Int)), (0, v)]) (st' := [(2, w1 3 k9), (2, 64), (2, 23)]) (w' := w1) (n' := 142) rfl (by omega) (by decide) ?_
  rw [show w1 3 k9 = 79 from (hfr 3 k9 (by omega)).trans h3]
  refine qG.blk 1 (pc' := 55) (ls' := [(2, 1), (0, 0), (0, ((k9 : Nat) : Int)), (0, ((k : Nat) : Int)), (0, v)]) (st' := [(0, ((k : Nat) : Int)), (2, 79), (2, 64), (2, 23)]) (w' := w1) (n' := 142) rfl ?_
  refine qG.call (t := 35) (na := 4) (sk := 1) (md := 1) (ls1 := [(2, 23), (2, 64), (2, 79), (0, ((k : Nat) : Int)), (9, 0), (9, 0), (9, 0)]) (r1 := []) rfl rfl rfl rfl rfl (K_flw64_79 (by omega) k hk1 hk2 (fun t => siF w 0 (w 80) (w 81) L t) L hL n w1 hI1 hJ1 (e3.trans hs) (by rw [e1, e2]; exact hKW) (by rw [e1, e2]; exact fun g hg u hu => (siF_vw hg hu).trans (cv g hg).symm)) ?_
  rintro _ w2 _ ⟨rfl, rfl, hI2, h2f, h2s⟩
  rw [e1, e2] at h2s
  obtain ⟨z1, z2, z3⟩ := pz_cg (w := w) (w1 := w1) (fun i => hCe 96 i (by decide) (by omega)) (fun i => hCe 99 i (by decide) (by omega)) 0 k
  rw [z1, z2, z3] at h2s
  show qG none (d + 1) 174 58 [(2, 1), (0, 0), (0, ((k9 : Nat) : Int)), (0, ((k : Nat) : Int)), (0, v)] [] w2 142 Q9
  refine qG.blk 2 (pc' := 62) (ls' := [(2, 1), (0, 0), (0, ((k9 : Nat) : Int)), (0, ((k : Nat) : Int)), (0, v)]) (st' := [(2, w2 1 5)]) (w' := w2) (n' := 142) rfl ?_
  rw [show w2 1 5 = 23 from zref hI2 rfl rfl]
  refine qG.blk 1 (pc' := 64) (ls' := [(2, 1), (0, 0), (0, ((k9 : Nat) : Int)), (0, ((k : Nat) : Int)), (0, v)]) (st' := [(0, v), (2, 23)]) (w' := w2) (n' := 142) rfl ?_
  refine qG.call (t := 37) (na := 2) (sk := 1) (md := 1) (ls1 := [(2, 23), (0, v)]) (r1 := []) rfl rfl rfl rfl rfl (K_outc (Nat.zero_le _) v w2) ?_
  rintro _ w7 _ ⟨rfl, hw7, rfl⟩
  rw [hw7]
  show qG none (d + 1) 174 67 [(2, 1), (0, 0), (0, ((k9 : Nat) : Int)), (0, ((k : Nat) : Int)), (0, v)] [(0, hoV (w2 23 4) (w2 23 5) v)] w2 142 Q9
  refine qG.ret rfl rfl ?_
  subst hQ9
  exact ⟨_, _, rfl, h2s⟩
theorem K_flw69_79 {d : Nat} (hd : 8 ≤ d) (k : Nat) (hk1 : 1 ≤ k) (hk2 : k ≤ 4) (V : Nat → Int) (L : Nat) (hL : L ≤ 40) (n : Nat) (w : qW) (hI : yInv zgf zga zra zSp w) (hJ : J9 n w) (hs : w 79 2 = (L : Int)) (hKW : KNw (w 80) (w 81) L) (hVV : ∀ g, g < L → ∀ u, u < dN (w 80 g) (w 81 g) → V (scF (w 80) (w 81) g + u) = w 82 g) : qG none d 35 0 [(2, 23), (2, 69), (2, 79), (0, ((k : Nat) : Int)), (9, 0), (9, 0), (9, 0)] [] w 142 (fun (r : qV) (w1 : qW) (n1 : Nat) => r = (9, 0) ∧ n1 = 142 ∧ yInv zgf zga zra zSp w1 ∧ (∀ q j, ¬ (27 ≤ q ∧ q ≤ 29) → ¬ (q = 23 ∧ 4 ≤ j ∧ j ≤ 5) → ¬ (24 ≤ q ∧ q ≤ 26) → w1 q j = w q j) ∧ HSP (pzN w 1 k) (pzP w 1 k) (pzM w 1 k) V (scF (w 80) (w 81) L) (w1 23 4) (w1 23 5)) := by
  generalize hQ9 : (fun (r : qV) (w1 : qW) (n1 : Nat) => r = (9, 0) ∧ n1 = 142 ∧ yInv zgf zga zra zSp w1 ∧ (∀ q j, ¬ (27 ≤ q ∧ q ≤ 29) → ¬ (q = 23 ∧ 4 ≤ j ∧ j ≤ 5) → ¬ (24 ≤ q ∧ q ≤ 26) → w1 q j = w q j) ∧ HSP (pzN w 1 k) (pzP w 1 k) (pzM w 1 k) V (scF (w 80) (w 81) L) (w1 23 4) (w1 23 5)) = Q9
  obtain ⟨d, rfl⟩ : ∃ d9, d = d9 + 1 := ⟨d - 1, by omega⟩
  refine qG.blk 2 (pc' := 4) (ls' := [(2, 23), (2, 69), (2, 79), (0, ((k : Nat) : Int)), (9, 0), (9, 0), (9, 0)]) (st' := [(2, w 23 0)]) (w' := w) (n' := 142) rfl ?_
  rw [show w 23 0 = 24 from zref hI rfl rfl]
  refine qG.blk 2 (pc' := 6) (ls' := [(2, 23), (2, 69), (2, 79), (0, ((k : Nat) : Int)), (9, 0), (9, 0), (9, 0)]) (st' := [(0, ((k : Nat) : Int)), (2, 69), (2, 24)]) (w' := w) (n' := 142) rfl ?_
  refine qG.call (t := 94) (na := 3) (sk := 1) (md := 1) (ls1 := [(2, 24), (2, 69), (0, ((k : Nat) : Int))]) (r1 := []) rfl rfl rfl rfl rfl (qG.and (T_findFor_69 (w0 := w) d [(2, 24), (2, 69), (0, ((k : Nat) : Int))] w (show C_findFor_69.2.1 ≤ d by exact Nat.le_trans (show C_findFor_69.2.1 ≤ 7 by decide) (by omega)) ⟨⟨rfl, by decide, by decide⟩, ⟨rfl, by decide, by decide⟩, ⟨rfl, by show (1 : Int) ≤ _; omega, by show _ ≤ (4 : Int); omega⟩, trivial⟩ hI (fun p hp => by cases hp) (fun e he => by cases he)) (K_findForC69 (by omega) k hk1 hk2 n w hI hJ)) ?_
  rintro _ wF _ ⟨⟨-, hIF, -, -, -⟩, rfl, rfl, hF⟩
  show qG none (d + 1) 35 9 [(2, 23), (2, 69), (2, 79), (0, ((k : Nat) : Int)), (9, 0), (9, 0), (9, 0)] [] wF 142 Q9
  subst hQ9
  obtain ⟨f0, f1, f2, hTX, hfr⟩ := hF
  have eF : ∀ q j, q ≠ 24 → q ≠ 25 → q ≠ 26 → wF q j = w q j := fun q j a b e => hfr q j (fun z => a z.1) b e
  have e1 : wF 80 = w 80 := funext fun j => eF _ j (by decide) (by decide) (by decide)
  have e2 : wF 81 = w 81 := funext fun j => eF _ j (by decide) (by decide) (by decide)
  have e3 : wF 82 = w 82 := funext fun j => eF _ j (by decide) (by decide) (by decide)
  obtain ⟨z1, z2, z3⟩ := pz_cg (w := w) (w1 := wF) (fun i => eF 96 i (by decide) (by decide) (by decide)) (fun i => eF 99 i (by decide) (by decide) (by decide)) 1 k
  refine qG.mono (K_flwB79 (by omega) (pzN w 1 k) (pzP w 1 k) (pzM w 1 k) V L hL wF hIF ((eF 79 2 (by decide) (by decide) (by decide)).trans hs) (by rw [e1, e2]; exact hKW) (by have z := hTX.ctb hk1 hk2; rw [z1, z2, z3] at z; exact z) (by rw [e1, e2, e3]; exact hVV) _ _) ?_
  rintro r w1 n1 ⟨h1, h2, h3, h4, h5⟩
  rw [e1, e2] at h5
  exact ⟨h1, h2, h3, fun q j a b c9 => (h4 q j a b).trans (eF q j (by omega) (by omega) (by omega)), h5⟩
theorem K_hideB79_69 {d : Nat} (hd : 9 ≤ d) (k9 : Nat) (hk9 : k9 < 4) (k : Nat) (hk1 : 1 ≤ k) (hk2 : k ≤ 4) (v : Int) (L : Nat) (hL : L ≤ 40) (n : Nat) (w : qW) (hI : yInv zgf zga zra zSp w) (hJ : J9 n w) (h3 : w 3 k9 = 79) (hs : w 79 2 = (L : Int)) (hKN : KNr (w 80) (w 81) L) (hKW : KNw (w 80) (w 81) L) (hK : w 69 0 = w 96 1) (hE : JE w) : qG none d 174 23 [(2, 1), (0, 1), (0, ((k9 : Nat) : Int)), (0, ((k : Nat) : Int)), (0, v)] [] w 142 (fun (r : qV) (_ : qW) (_ : Nat) => ∃ fl cn, r = (0, hoV fl cn v) ∧ HSP (pzN w 1 k) (pzP w 1 k) (pzM w 1 k) (fun t => siF w 1 (w 80) (w 81) L t) (scF (w 80) (w 81) L) fl cn) := by
  generalize hQ9 : (fun (r : qV) (_ : qW) (_ : Nat) => ∃ fl cn, r = (0, hoV fl cn v) ∧ HSP (pzN w 1 k) (pzP w 1 k) (pzM w 1 k) (fun t => siF w 1 (w 80) (w 81) L t) (scF (w 80) (w 81) L) fl cn) = Q9
  obtain ⟨d, rfl⟩ : ∃ d9, d = d9 + 1 := ⟨d - 1, by omega⟩
  refine qG.blk 2 (pc' := 27) (ls' := [(2, 1), (0, 1), (0, ((k9 : Nat) : Int)), (0, ((k : Nat) : Int)), (0, v)]) (st' := [(2, w 1 1)]) (w' := w) (n' := 142) rfl ?_
  rw [show w 1 1 = 3 from zref hI rfl rfl]
  refine qG.blk 1 (pc' := 28) (ls' := [(2, 1), (0, 1), (0, ((k9 : Nat) : Int)), (0, ((k : Nat) : Int)), (0, v)]) (st' := [(0, ((k9 : Nat) : Int)), (2, 3)]) (w' := w) (n' := 142) rfl ?_
  refine qG.ar (P := 0 ≤ ((k9 : Nat) : Int) ∧ ((k9 : Nat) : Int) < ((4 : Nat) : Int)) (P2 := 0 < (3 : Int) ∧ (3 : Int) ≤ ((142 : Nat) : Int)) (pc' := 29) (ls' := [(2, 1), (0, 1), (0, ((k9 : Nat) : Int)), (0, ((k : Nat) : Int)), (0, v)]) (st' := [(2, w 3 k9)]) (w' := w) (n' := 142) rfl (by omega) (by decide) ?_
  rw [show w 3 k9 = 79 from h3]
  refine qG.blk 2 (pc' := 33) (ls' := [(2, 1), (0, 1), (0, ((k9 : Nat) : Int)), (0, ((k : Nat) : Int)), (0, v)]) (st' := [(2, w 1 0), (2, 79)]) (w' := w) (n' := 142) rfl ?_
  rw [show w 1 0 = 2 from zref hI rfl rfl]
  refine qG.blk 1 (pc' := 34) (ls' := [(2, 1), (0, 1), (0, ((k9 : Nat) : Int)), (0, ((k : Nat) : Int)), (0, v)]) (st' := [(0, 1), (2, 2), (2, 79)]) (w' := w) (n' := 142) rfl ?_
  refine qG.ar (P := 0 ≤ 1 ∧ 1 < ((3 : Nat) : Int)) (P2 := 0 < (2 : Int) ∧ (2 : Int) ≤ ((142 : Nat) : Int)) (pc' := 35) (ls' := [(2, 1), (0, 1), (0, ((k9 : Nat) : Int)), (0, ((k : Nat) : Int)), (0, v)]) (st' := [(2, w 2 1), (2, 79)]) (w' := w) (n' := 142) rfl (by omega) (by decide) ?_
  rw [show w 2 1 = 69 from zref hI rfl rfl]
  refine qG.call (t := 111) (na := 2) (sk := 1) (md := 1) (ls1 := [(2, 79), (2, 69), (9, 0)]) (r1 := []) rfl rfl rfl rfl rfl (K_perf79_69 (by omega) L hL w hI hs hKN hK hE) ?_
  rintro _ w1 _ ⟨rfl, rfl, hI1, hC⟩
  have hJ1 := J9.chp (show SHOWP 79 by unfold SHOWP; omega) hJ hC
  obtain ⟨e1, e2, e3, hfr⟩ := hC.row (by unfold SHOWP; omega)
  have hCe := hC.2.2.2.2.2.2.2
  have cv := hC.2.2.2.2.2.2.1
  show qG none (d + 1) 174 38 [(2, 1), (0, 1), (0, ((k9 : Nat) : Int)), (0, ((k : Nat) : Int)), (0, v)] [] w1 142 Q9
  refine qG.blk 2 (pc' := 42) (ls' := [(2, 1), (0, 1), (0, ((k9 : Nat) : Int)), (0, ((k : Nat) : Int)), (0, v)]) (st' := [(2, w1 1 5)]) (w' := w1) (n' := 142) rfl ?_
  rw [show w1 1 5 = 23 from (hfr 1 5 (by omega)).trans (zref hI rfl rfl)]
  refine qG.blk 2 (pc' := 46) (ls' := [(2, 1), (0, 1), (0, ((k9 : Nat) : Int)), (0, ((k : Nat) : Int)), (0, v)]) (st' := [(2, w1 1 0), (2, 23)]) (w' := w1) (n' := 142) rfl ?_
  rw [show w1 1 0 = 2 from (hfr 1 0 (by omega)).trans (zref hI rfl rfl)]
  refine qG.blk 1 (pc' := 47) (ls' := [(2, 1), (0, 1), (0, ((k9 : Nat) : Int)), (0, ((k : Nat) : Int)), (0, v)]) (st' := [(0, 1), (2, 2), (2, 23)]) (w' := w1) (n' := 142) rfl ?_
  refine qG.ar (P := 0 ≤ 1 ∧ 1 < ((3 : Nat) : Int)) (P2 := 0 < (2 : Int) ∧ (2 : Int) ≤ ((142 : Nat) : Int)) (pc' := 48) (ls' := [(2, 1), (0, 1), (0, ((k9 : Nat) : Int)), (0, ((k : Nat) : Int)), (0, v)]) (st' := [(2, w1 2 1), (2, 23)]) (w' := w1) (n' := 142) rfl (by omega) (by decide) ?_
  rw [show w1 2 1 = 69 from (hfr 2 1 (by omega)).trans (zref hI rfl rfl)]
  refine qG.blk 2 (pc' := 52) (ls' := [(2, 1), (0, 1), (0, ((k9 : Nat) : Int)), (0, ((k : Nat) : Int)), (0, v)]) (st' := [(2, w1 1 1), (2, 69), (2, 23)]) (w' := w1) (n' := 142) rfl ?_
  rw [show w1 1 1 = 3 from (hfr 1 1 (by omega)).trans (zref hI rfl rfl)]
  refine qG.blk 1 (pc' := 53) (ls' := [(2, 1), (0, 1), (0, ((k9 : Nat) : Int)), (0, ((k : Nat) : Int)), (0, v)]) (st' := [(0, ((k9 : Nat) : Int)), (2, 3), (2, 69), (2, 23)]) (w' := w1) (n' := 142) rfl ?_
  refine qG.ar (P := 0 ≤ ((k9 : Nat) : Int) ∧ ((k9 : Nat) : Int) < ((4 : Nat) : Int)) (P2 := 0 < (3 : Int) ∧ (3 : Int) ≤ ((142 : Nat) : Int)) (pc' := 54) (ls' := [(2, 1), (0, 1), (0, ((k9 : Nat) : Int)), (0, ((k : Nat) : Int)), (0, v)]) (st' := [(2, w1 3 k9), (2, 69), (2, 23)]) (w' := w1) (n' := 142) rfl (by omega) (by decide) ?_
  rw [show w1 3 k9 = 79 from (hfr 3 k9 (by omega)).trans h3]
  refine qG.blk 1 (pc' := 55) (ls' := [(2, 1), (0, 1), (0, ((k9 : Nat) : Int)), (0, ((k : Nat) : Int)), (0, v)]) (st' := [(0, ((k : Nat) : Int)), (2, 79), (2, 69), (2, 23)]) (w' := w1) (n' := 142) rfl ?_
  refine qG.call (t := 35) (na := 4) (sk := 1) (md := 1) (ls1 := [(2, 23), (2, 69), (2, 79), (0, ((k : Nat) : Int)), (9, 0), (9, 0), (9, 0)]) (r1 := []) rfl rfl rfl rfl rfl (K_flw69_79 (by omega) k hk1 hk2 (fun t => siF w 1 (w 80) (w 81) L t) L hL n w1 hI1 hJ1 (e3.trans hs) (by rw [e1, e2]; exact hKW) (by rw [e1, e2]; exact fun g hg u hu => (siF_vw hg hu).trans (cv g hg).symm)) ?_
  rintro _ w2 _ ⟨rfl, rfl, hI2, h2f, h2s⟩
  rw [e1, e2] at h2s
  obtain ⟨z1, z2, z3⟩ := pz_cg (w := w) (w1 := w1) (fun i => hCe 96 i (by decide) (by omega)) (fun i => hCe 99 i (by decide) (by omega)) 1 k
  rw [z1, z2, z3] at h2s
  show qG none (d + 1) 174 58 [(2, 1), (0, 1), (0, ((k9 : Nat) : Int)), (0, ((k : Nat) : Int)), (0, v)] [] w2 142 Q9
  refine qG.blk 2 (pc' := 62) (ls' := [(2, 1), (0, 1), (0, ((k9 : Nat) : Int)), (0, ((k : Nat) : Int)), (0, v)]) (st' := [(2, w2 1 5)]) (w' := w2) (n' := 142) rfl ?_
  rw [show w2 1 5 = 23 from zref hI2 rfl rfl]
  refine qG.blk 1 (pc' := 64) (ls' := [(2, 1), (0, 1), (0, ((k9 : Nat) : Int)), (0, ((k : Nat) : Int)), (0, v)]) (st' := [(0, v), (2, 23)]) (w' := w2) (n' := 142) rfl ?_
  refine qG.call (t := 37) (na := 2) (sk := 1) (md := 1) (ls1 := [(2, 23), (0, v)]) (r1 := []) rfl rfl rfl rfl rfl (K_outc (Nat.zero_le _) v w2) ?_
  rintro _ w7 _ ⟨rfl, hw7, rfl⟩
  rw [hw7]
  show qG none (d + 1) 174 67 [(2, 1), (0, 1), (0, ((k9 : Nat) : Int)), (0, ((k : Nat) : Int)), (0, v)] [(0, hoV (w2 23 4) (w2 23 5) v)] w2 142 Q9
  refine qG.ret rfl rfl ?_
  subst hQ9
  exact ⟨_, _, rfl, h2s⟩
theorem K_flw74_79 {d : Nat} (hd : 8 ≤ d) (k : Nat) (hk1 : 1 ≤ k) (hk2 : k ≤ 4) (V : Nat → Int) (L : Nat) (hL : L ≤ 40) (n : Nat) (w : qW) (hI : yInv zgf zga zra zSp w) (hJ : J9 n w) (hs : w 79 2 = (L : Int)) (hKW : KNw (w 80) (w 81) L) (hVV : ∀ g, g < L → ∀ u, u < dN (w 80 g) (w 81 g) → V (scF (w 80) (w 81) g + u) = w 82 g) : qG none d 35 0 [(2, 23), (2, 74), (2, 79), (0, ((k : Nat) : Int)), (9, 0), (9, 0), (9, 0)] [] w 142 (fun (r : qV) (w1 : qW) (n1 : Nat) => r = (9, 0) ∧ n1 = 142 ∧ yInv zgf zga zra zSp w1 ∧ (∀ q j, ¬ (27 ≤ q ∧ q ≤ 29) → ¬ (q = 23 ∧ 4 ≤ j ∧ j ≤ 5) → ¬ (24 ≤ q ∧ q ≤ 26) → w1 q j = w q j) ∧ HSP (pzN w 2 k) (pzP w 2 k) (pzM w 2 k) V (scF (w 80) (w 81) L) (w1 23 4) (w1 23 5)) := by
  generalize hQ9 : (fun (r : qV) (w1 : qW) (n1 : Nat) => r = (9, 0) ∧ n1 = 142 ∧ yInv zgf zga zra zSp w1 ∧ (∀ q j, ¬ (27 ≤ q ∧ q ≤ 29) → ¬ (q = 23 ∧ 4 ≤ j ∧ j ≤ 5) → ¬ (24 ≤ q ∧ q ≤ 26) → w1 q j = w q j) ∧ HSP (pzN w 2 k) (pzP w 2 k) (pzM w 2 k) V (scF (w 80) (w 81) L) (w1 23 4) (w1 23 5)) = Q9
  obtain ⟨d, rfl⟩ : ∃ d9, d = d9 + 1 := ⟨d - 1, by omega⟩
  refine qG.blk 2 (pc' := 4) (ls' := [(2, 23), (2, 74), (2, 79), (0, ((k : Nat) : Int)), (9, 0), (9, 0), (9, 0)]) (st' := [(2, w 23 0)]) (w' := w) (n' := 142) rfl ?_
  rw [show w 23 0 = 24 from zref hI rfl rfl]
  refine qG.blk 2 (pc' := 6) (ls' := [(2, 23), (2, 74), (2, 79), (0, ((k : Nat) : Int)), (9, 0), (9, 0), (9, 0)]) (st' := [(0, ((k : Nat) : Int)), (2, 74), (2, 24)]) (w' := w) (n' := 142) rfl ?_
  refine qG.call (t := 94) (na := 3) (sk := 1) (md := 1) (ls1 := [(2, 24), (2, 74), (0, ((k : Nat) : Int))]) (r1 := []) rfl rfl rfl rfl rfl (qG.and (T_findFor_74 (w0 := w) d [(2, 24), (2, 74), (0, ((k : Nat) : Int))] w (show C_findFor_74.2.1 ≤ d by exact Nat.le_trans (show C_findFor_74.2.1 ≤ 7 by decide) (by omega)) ⟨⟨rfl, by decide, by decide⟩, ⟨rfl, by decide, by decide⟩, ⟨rfl, by show (1 : Int) ≤ _; omega, by show _ ≤ (4 : Int); omega⟩, trivial⟩ hI (fun p hp => by cases hp) (fun e he => by cases he)) (K_findForC74 (by omega) k hk1 hk2 n w hI hJ)) ?_
  rintro _ wF _ ⟨⟨-, hIF, -, -, -⟩, rfl, rfl, hF⟩
  show qG none (d + 1) 35 9 [(2, 23), (2, 74), (2, 79), (0, ((k : Nat) : Int)), (9, 0), (9, 0), (9, 0)] [] wF 142 Q9
  subst hQ9
  obtain ⟨f0, f1, f2, hTX, hfr⟩ := hF
  have eF : ∀ q j, q ≠ 24 → q ≠ 25 → q ≠ 26 → wF q j = w q j := fun q j a b e => hfr q j (fun z => a z.1) b e
  have e1 : wF 80 = w 80 := funext fun j => eF _ j (by decide) (by decide) (by decide)
  have e2 : wF 81 = w 81 := funext fun j => eF _ j (by decide) (by decide) (by decide)
  have e3 : wF 82 = w 82 := funext fun j => eF _ j (by decide) (by decide) (by decide)
  obtain ⟨z1, z2, z3⟩ := pz_cg (w := w) (w1 := wF) (fun i => eF 96 i (by decide) (by decide) (by decide)) (fun i => eF 99 i (by decide) (by decide) (by decide)) 2 k
  refine qG.mono (K_flwB79 (by omega) (pzN w 2 k) (pzP w 2 k) (pzM w 2 k) V L hL wF hIF ((eF 79 2 (by decide) (by decide) (by decide)).trans hs) (by rw [e1, e2]; exact hKW) (by have z := hTX.ctb hk1 hk2; rw [z1, z2, z3] at z; exact z) (by rw [e1, e2, e3]; exact hVV) _ _) ?_
  rintro r w1 n1 ⟨h1, h2, h3, h4, h5⟩
  rw [e1, e2] at h5
  exact ⟨h1, h2, h3, fun q j a b c9 => (h4 q j a b).trans (eF q j (by omega) (by omega) (by omega)), h5⟩
theorem K_hideB79_74 {d : Nat} (hd : 9 ≤ d) (k9 : Nat) (hk9 : k9 < 4) (k : Nat) (hk1 : 1 ≤ k) (hk2 : k ≤ 4) (v : Int) (L : Nat) (hL : L ≤ 40) (n : Nat) (w : qW) (hI : yInv zgf zga zra zSp w) (hJ : J9 n w) (h3 : w 3 k9 = 79) (hs : w 79 2 = (L : Int)) (hKN : KNr (w 80) (w 81) L) (hKW : KNw (w 80) (w 81) L) (hK : w 74 0 = w 96 2) (hE : JE w) : qG none d 174 23 [(2, 1), (0, 2), (0, ((k9 : Nat) : Int)), (0, ((k : Nat) : Int)), (0, v)] [] w 142 (fun (r : qV) (_ : qW) (_ : Nat) => ∃ fl cn, r = (0, hoV fl cn v) ∧ HSP (pzN w 2 k) (pzP w 2 k) (pzM w 2 k) (fun t => siF w 2 (w 80) (w 81) L t) (scF (w 80) (w 81) L) fl cn) := by
  generalize hQ9 : (fun (r : qV) (_ : qW) (_ : Nat) => ∃ fl cn, r = (0, hoV fl cn v) ∧ HSP (pzN w 2 k) (pzP w 2 k) (pzM w 2 k) (fun t => siF w 2 (w 80) (w 81) L t) (scF (w 80) (w 81) L) fl cn) = Q9
  obtain ⟨d, rfl⟩ : ∃ d9, d = d9 + 1 := ⟨d - 1, by omega⟩
  refine qG.blk 2 (pc' := 27) (ls' := [(2, 1), (0, 2), (0, ((k9 : Nat) : Int)), (0, ((k : Nat) : Int)), (0, v)]) (st' := [(2, w 1 1)]) (w' := w) (n' := 142) rfl ?_
  rw [show w 1 1 = 3 from zref hI rfl rfl]
  refine qG.blk 1 (pc' := 28) (ls' := [(2, 1), (0, 2), (0, ((k9 : Nat) : Int)), (0, ((k : Nat) : Int)), (0, v)]) (st' := [(0, ((k9 : Nat) : Int)), (2, 3)]) (w' := w) (n' := 142) rfl ?_
  refine qG.ar (P := 0 ≤ ((k9 : Nat) : Int) ∧ ((k9 : Nat) : Int) < ((4 : Nat) : Int)) (P2 := 0 < (3 : Int) ∧ (3 : Int) ≤ ((142 : Nat) : Int)) (pc' := 29) (ls' := [(2, 1), (0, 2), (0, ((k9 : Nat) : Int)), (0, ((k : Nat) : Int)), (0, v)]) (st' := [(2, w 3 k9)]) (w' := w) (n' := 142) rfl (by omega) (by decide) ?_
  rw [show w 3 k9 = 79 from h3]
  refine qG.blk 2 (pc' := 33) (ls' := [(2, 1), (0, 2), (0, ((k9 : Nat) : Int)), (0, ((k : Nat) : Int)), (0, v)]) (st' := [(2, w 1 0), (2, 79)]) (w' := w) (n' := 142) rfl ?_
  rw [show w 1 0 = 2 from zref hI rfl rfl]
  refine qG.blk 1 (pc' := 34) (ls' := [(2, 1), (0, 2), (0, ((k9 : Nat) : Int)), (0, ((k : Nat) : Int)), (0, v)]) (st' := [(0, 2), (2, 2), (2, 79)]) (w' := w) (n' := 142) rfl ?_
  refine qG.ar (P := 0 ≤ 2 ∧ 2 < ((3 : Nat) : Int)) (P2 := 0 < (2 : Int) ∧ (2 : Int) ≤ ((142 : Nat) : Int)) (pc' := 35) (ls' := [(2, 1), (0, 2), (0, ((k9 : Nat) : Int)), (0, ((k : Nat) : Int)), (0, v)]) (st' := [(2, w 2 2), (2, 79)]) (w' := w) (n' := 142) rfl (by omega) (by decide) ?_
  rw [show w 2 2 = 74 from zref hI rfl rfl]
  refine qG.call (t := 111) (na := 2) (sk := 1) (md := 1) (ls1 := [(2, 79), (2, 74), (9, 0)]) (r1 := []) rfl rfl rfl rfl rfl (K_perf79_74 (by omega) L hL w hI hs hKN hK hE) ?_
  rintro _ w1 _ ⟨rfl, rfl, hI1, hC⟩
  have hJ1 := J9.chp (show SHOWP 79 by unfold SHOWP; omega) hJ hC
  obtain ⟨e1, e2, e3, hfr⟩ := hC.row (by unfold SHOWP; omega)
  have hCe := hC.2.2.2.2.2.2.2
  have cv := hC.2.2.2.2.2.2.1
  show qG none (d + 1) 174 38 [(2, 1), (0, 2), (0, ((k9 : Nat) : Int)), (0, ((k : Nat) : Int)), (0, v)] [] w1 142 Q9
  refine qG.blk 2 (pc' := 42) (ls' := [(2, 1), (0, 2), (0, ((k9 : Nat) : Int)), (0, ((k : Nat) : Int)), (0, v)]) (st' := [(2, w1 1 5)]) (w' := w1) (n' := 142) rfl ?_
  rw [show w1 1 5 = 23 from (hfr 1 5 (by omega)).trans (zref hI rfl rfl)]
  refine qG.blk 2 (pc' := 46) (ls' := [(2, 1), (0, 2), (0, ((k9 : Nat) : Int)), (0, ((k : Nat) : Int)), (0, v)]) (st' := [(2, w1 1 0), (2, 23)]) (w' := w1) (n' := 142) rfl ?_
  rw [show w1 1 0 = 2 from (hfr 1 0 (by omega)).trans (zref hI rfl rfl)]
  refine qG.blk 1 (pc' := 47) (ls' := [(2, 1), (0, 2), (0, ((k9 : Nat) : Int)), (0, ((k : Nat) : Int)), (0, v)]) (st' := [(0, 2), (2, 2), (2, 23)]) (w' := w1) (n' := 142) rfl ?_
  refine qG.ar (P := 0 ≤ 2 ∧ 2 < ((3 : Nat) : Int)) (P2 := 0 < (2 : Int) ∧ (2 : Int) ≤ ((142 : Nat) : Int)) (pc' := 48) (ls' := [(2, 1), (0, 2), (0, ((k9 : Nat) : Int)), (0, ((k : Nat) : Int)), (0, v)]) (st' := [(2, w1 2 2), (2, 23)]) (w' := w1) (n' := 142) rfl (by omega) (by decide) ?_
  rw [show w1 2 2 = 74 from (hfr 2 2 (by omega)).trans (zref hI rfl rfl)]
  refine qG.blk 2 (pc' := 52) (ls' := [(2, 1), (0, 2), (0, ((k9 : Nat) : Int)), (0, ((k : Nat) : Int)), (0, v)]) (st' := [(2, w1 1 1), (2, 74), (2, 23)]) (w' := w1) (n' := 142) rfl ?_
  rw [show w1 1 1 = 3 from (hfr 1 1 (by omega)).trans (zref hI rfl rfl)]
  refine qG.blk 1 (pc' := 53) (ls' := [(2, 1), (0, 2), (0, ((k9 : Nat) : Int)), (0, ((k : Nat) : Int)), (0, v)]) (st' := [(0, ((k9 : Nat) : Int)), (2, 3), (2, 74), (2, 23)]) (w' := w1) (n' := 142) rfl ?_
  refine qG.ar (P := 0 ≤ ((k9 : Nat) : Int) ∧ ((k9 : Nat) : Int) < ((4 : Nat) : Int)) (P2 := 0 < (3 : Int) ∧ (3 : Int) ≤ ((142 : Nat) : Int)) (pc' := 54) (ls' := [(2, 1), (0, 2), (0, ((k9 : Nat) : Int)), (0, ((k : Nat) : Int)), (0, v)]) (st' := [(2, w1 3 k9), (2, 74), (2, 23)]) (w' := w1) (n' := 142) rfl (by omega) (by decide) ?_
  rw [show w1 3 k9 = 79 from (hfr 3 k9 (by omega)).trans h3]
  refine qG.blk 1 (pc' := 55) (ls' := [(2, 1), (0, 2), (0, ((k9 : Nat) : Int)), (0, ((k : Nat) : Int)), (0, v)]) (st' := [(0, ((k : Nat) : Int)), (2, 79), (2, 74), (2, 23)]) (w' := w1) (n' := 142) rfl ?_
  refine qG.call (t := 35) (na := 4) (sk := 1) (md := 1) (ls1 := [(2, 23), (2, 74), (2, 79), (0, ((k : Nat) : Int)), (9, 0), (9, 0), (9, 0)]) (r1 := []) rfl rfl rfl rfl rfl (K_flw74_79 (by omega) k hk1 hk2 (fun t => siF w 2 (w 80) (w 81) L t) L hL n w1 hI1 hJ1 (e3.trans hs) (by rw [e1, e2]; exact hKW) (by rw [e1, e2]; exact fun g hg u hu => (siF_vw hg hu).trans (cv g hg).symm)) ?_
  rintro _ w2 _ ⟨rfl, rfl, hI2, h2f, h2s⟩
  rw [e1, e2] at h2s
  obtain ⟨z1, z2, z3⟩ := pz_cg (w := w) (w1 := w1) (fun i => hCe 96 i (by decide) (by omega)) (fun i => hCe 99 i (by decide) (by omega)) 2 k
  rw [z1, z2, z3] at h2s
  show qG none (d + 1) 174 58 [(2, 1), (0, 2), (0, ((k9 : Nat) : Int)), (0, ((k : Nat) : Int)), (0, v)] [] w2 142 Q9
  refine qG.blk 2 (pc' := 62) (ls' := [(2, 1), (0, 2), (0, ((k9 : Nat) : Int)), (0, ((k : Nat) : Int)), (0, v)]) (st' := [(2, w2 1 5)]) (w' := w2) (n' := 142) rfl ?_
  rw [show w2 1 5 = 23 from zref hI2 rfl rfl]
  refine qG.blk 1 (pc' := 64) (ls' := [(2, 1), (0, 2), (0, ((k9 : Nat) : Int)), (0, ((k : Nat) : Int)), (0, v)]) (st' := [(0, v), (2, 23)]) (w' := w2) (n' := 142) rfl ?_
  refine qG.call (t := 37) (na := 2) (sk := 1) (md := 1) (ls1 := [(2, 23), (0, v)]) (r1 := []) rfl rfl rfl rfl rfl (K_outc (Nat.zero_le _) v w2) ?_
  rintro _ w7 _ ⟨rfl, hw7, rfl⟩
  rw [hw7]
  show qG none (d + 1) 174 67 [(2, 1), (0, 2), (0, ((k9 : Nat) : Int)), (0, ((k : Nat) : Int)), (0, v)] [(0, hoV (w2 23 4) (w2 23 5) v)] w2 142 Q9
  refine qG.ret rfl rfl ?_
  subst hQ9
  exact ⟨_, _, rfl, h2s⟩
theorem K_flw64_83 {d : Nat} (hd : 8 ≤ d) (k : Nat) (hk1 : 1 ≤ k) (hk2 : k ≤ 4) (V : Nat → Int) (L : Nat) (hL : L ≤ 40) (n : Nat) (w : qW) (hI : yInv zgf zga zra zSp w) (hJ : J9 n w) (hs : w 83 2 = (L : Int)) (hKW : KNw (w 84) (w 85) L) (hVV : ∀ g, g < L → ∀ u, u < dN (w 84 g) (w 85 g) → V (scF (w 84) (w 85) g + u) = w 86 g) : qG none d 35 0 [(2, 23), (2, 64), (2, 83), (0, ((k : Nat) : Int)), (9, 0), (9, 0), (9, 0)] [] w 142 (fun (r : qV) (w1 : qW) (n1 : Nat) => r = (9, 0) ∧ n1 = 142 ∧ yInv zgf zga zra zSp w1 ∧ (∀ q j, ¬ (27 ≤ q ∧ q ≤ 29) → ¬ (q = 23 ∧ 4 ≤ j ∧ j ≤ 5) → ¬ (24 ≤ q ∧ q ≤ 26) → w1 q j = w q j) ∧ HSP (pzN w 0 k) (pzP w 0 k) (pzM w 0 k) V (scF (w 84) (w 85) L) (w1 23 4) (w1 23 5)) := by
  generalize hQ9 : (fun (r : qV) (w1 : qW) (n1 : Nat) => r = (9, 0) ∧ n1 = 142 ∧ yInv zgf zga zra zSp w1 ∧ (∀ q j, ¬ (27 ≤ q ∧ q ≤ 29) → ¬ (q = 23 ∧ 4 ≤ j ∧ j ≤ 5) → ¬ (24 ≤ q ∧ q ≤ 26) → w1 q j = w q j) ∧ HSP (pzN w 0 k) (pzP w 0 k) (pzM w 0 k) V (scF (w 84) (w 85) L) (w1 23 4) (w1 23 5)) = Q9
  obtain ⟨d, rfl⟩ : ∃ d9, d = d9 + 1 := ⟨d - 1, by omega⟩
  refine qG.blk 2 (pc' := 4) (ls' := [(2, 23), (2, 64), (2, 83), (0, ((k : Nat) : Int)), (9, 0), (9, 0), (9, 0)]) (st' := [(2, w 23 0)]) (w' := w) (n' := 142) rfl ?_
  rw [show w 23 0 = 24 from zref hI rfl rfl]
  refine qG.blk 2 (pc' := 6) (ls' := [(2, 23), (2, 64), (2, 83), (0, ((k : Nat) : Int)), (9, 0), (9, 0), (9, 0)]) (st' := [(0, ((k : Nat) : Int)), (2, 64), (2, 24)]) (w' := w) (n' := 142) rfl ?_
  refine qG.call (t := 94) (na := 3) (sk := 1) (md := 1) (ls1 := [(2, 24), (2, 64), (0, ((k : Nat) : Int))]) (r1 := []) rfl rfl rfl rfl rfl (qG.and (T_findFor_64 (w0 := w) d [(2, 24), (2, 64), (0, ((k : Nat) : Int))] w (show C_findFor_64.2.1 ≤ d by exact Nat.le_trans (show C_findFor_64.2.1 ≤ 7 by decide) (by omega)) ⟨⟨rfl, by decide, by decide⟩, ⟨rfl, by decide, by decide⟩, ⟨rfl, by show (1 : Int) ≤ _; omega, by show _ ≤ (4 : Int); omega⟩, trivial⟩ hI (fun p hp => by cases hp) (fun e he => by cases he)) (K_findForC64 (by omega) k hk1 hk2 n w hI hJ)) ?_
  rintro _ wF _ ⟨⟨-, hIF, -, -, -⟩, rfl, rfl, hF⟩
  show qG none (d + 1) 35 9 [(2, 23), (2, 64), (2, 83), (0, ((k : Nat) : Int)), (9, 0), (9, 0), (9, 0)] [] wF 142 Q9
  subst hQ9
  obtain ⟨f0, f1, f2, hTX, hfr⟩ := hF
  have eF : ∀ q j, q ≠ 24 → q ≠ 25 → q ≠ 26 → wF q j = w q j := fun q j a b e => hfr q j (fun z => a z.1) b e
  have e1 : wF 84 = w 84 := funext fun j => eF _ j (by decide) (by decide) (by decide)
  have e2 : wF 85 = w 85 := funext fun j => eF _ j (by decide) (by decide) (by decide)
  have e3 : wF 86 = w 86 := funext fun j => eF _ j (by decide) (by decide) (by decide)
  obtain ⟨z1, z2, z3⟩ := pz_cg (w := w) (w1 := wF) (fun i => eF 96 i (by decide) (by decide) (by decide)) (fun i => eF 99 i (by decide) (by decide) (by decide)) 0 k
  refine qG.mono (K_flwB83 (by omega) (pzN w 0 k) (pzP w 0 k) (pzM w 0 k) V L hL wF hIF ((eF 83 2 (by decide) (by decide) (by decide)).trans hs) (by rw [e1, e2]; exact hKW) (by have z := hTX.ctb hk1 hk2; rw [z1, z2, z3] at z; exact z) (by rw [e1, e2, e3]; exact hVV) _ _) ?_
  rintro r w1 n1 ⟨h1, h2, h3, h4, h5⟩
  rw [e1, e2] at h5
  exact ⟨h1, h2, h3, fun q j a b c9 => (h4 q j a b).trans (eF q j (by omega) (by omega) (by omega)), h5⟩
theorem K_hideB83_64 {d : Nat} (hd : 9 ≤ d) (k9 : Nat) (hk9 : k9 < 4) (k : Nat) (hk1 : 1 ≤ k) (hk2 : k ≤ 4) (v : Int) (L : Nat) (hL : L ≤ 40) (n : Nat) (w : qW) (hI : yInv zgf zga zra zSp w) (hJ : J9 n w) (h3 : w 3 k9 = 83) (hs : w 83 2 = (L : Int)) (hKN : KNr (w 84) (w 85) L) (hKW : KNw (w 84) (w 85) L) (hK : w 64 0 = w 96 0) (hE : JE w) : qG none d 174 23 [(2, 1), (0, 0), (0, ((k9 : Nat) : Int)), (0, ((k : Nat) : Int)), (0, v)] [] w 142 (fun (r : qV) (_ : qW) (_ : Nat) => ∃ fl cn, r = (0, hoV fl cn v) ∧ HSP (pzN w 0 k) (pzP w 0 k) (pzM w 0 k) (fun t => siF w 0 (w 84) (w 85) L t) (scF (w 84) (w 85) L) fl cn) := by
  generalize hQ9 : (fun (r : qV) (_ : qW) (_ : Nat) => ∃ fl cn, r = (0, hoV fl cn v) ∧ HSP (pzN w 0 k) (pzP w 0 k) (pzM w 0 k) (fun t => siF w 0 (w 84) (w 85) L t) (scF (w 84) (w 85) L) fl cn) = Q9
  obtain ⟨d, rfl⟩ : ∃ d9, d = d9 + 1 := ⟨d - 1, by omega⟩
  refine qG.blk 2 (pc' := 27) (ls' := [(2, 1), (0, 0), (0, ((k9 : Nat) : Int)), (0, ((k : Nat) : Int)), (0, v)]) (st' := [(2, w 1 1)]) (w' := w) (n' := 142) rfl ?_
  rw [show w 1 1 = 3 from zref hI rfl rfl]
  refine qG.blk 1 (pc' := 28) (ls' := [(2, 1), (0, 0), (0, ((k9 : Nat) : Int)), (0, ((k : Nat) : Int)), (0, v)]) (st' := [(0, ((k9 : Nat) : Int)), (2, 3)]) (w' := w) (n' := 142) rfl ?_
  refine qG.ar (P := 0 ≤ ((k9 : Nat) : Int) ∧ ((k9 : Nat) : Int) < ((4 : Nat) : Int)) (P2 := 0 < (3 : Int) ∧ (3 : Int) ≤ ((142 : Nat) : Int)) (pc' := 29) (ls' := [(2, 1), (0, 0), (0, ((k9 : Nat) : Int)), (0, ((k : Nat) : Int)), (0, v)]) (st' := [(2, w 3 k9)]) (w' := w) (n' := 142) rfl (by omega) (by decide) ?_
  rw [show w 3 k9 = 83 from h3]
  refine qG.blk 2 (pc' := 33) (ls' := [(2, 1), (0, 0), (0, ((k9 : Nat) : Int)), (0, ((k : Nat) : Int)), (0, v)]) (st' := [(2, w 1 0), (2, 83)]) (w' := w) (n' := 142) rfl ?_
  rw [show w 1 0 = 2 from zref hI rfl rfl]
  refine qG.blk 1 (pc' := 34) (ls' := [(2, 1), (0, 0), (0, ((k9 : Nat) : Int)), (0, ((k : Nat) : Int)), (0, v)]) (st' := [(0, 0), (2, 2), (2, 83)]) (w' := w) (n' := 142) rfl ?_
  refine qG.ar (P := 0 ≤ 0 ∧ 0 < ((3 : Nat) : Int)) (P2 := 0 < (2 : Int) ∧ (2 : Int) ≤ ((142 : Nat) : Int)) (pc' := 35) (ls' := [(2, 1), (0, 0), (0, ((k9 : Nat) : Int)), (0, ((k : Nat) : Int)), (0, v)]) (st' := [(2, w 2 0), (2, 83)]) (w' := w) (n' := 142) rfl (by omega) (by decide) ?_
  rw [show w 2 0 = 64 from zref hI rfl rfl]
  refine qG.call (t := 111) (na := 2) (sk := 1) (md := 1) (ls1 := [(2, 83), (2, 64), (9, 0)]) (r1 := []) rfl rfl rfl rfl rfl (K_perf83_64 (by omega) L hL w hI hs hKN hK hE) ?_
  rintro _ w1 _ ⟨rfl, rfl, hI1, hC⟩
  have hJ1 := J9.chp (show SHOWP 83 by unfold SHOWP; omega) hJ hC
  obtain ⟨e1, e2, e3, hfr⟩ := hC.row (by unfold SHOWP; omega)
  have hCe := hC.2.2.2.2.2.2.2
  have cv := hC.2.2.2.2.2.2.1
  show qG none (d + 1) 174 38 [(2, 1), (0, 0), (0, ((k9 : Nat) : Int)), (0, ((k : Nat) : Int)), (0, v)] [] w1 142 Q9
  refine qG.blk 2 (pc' := 42) (ls' := [(2, 1), (0, 0), (0, ((k9 : Nat) : Int)), (0, ((k : Nat) : Int)), (0, v)]) (st' := [(2, w1 1 5)]) (w' := w1) (n' := 142) rfl ?_
  rw [show w1 1 5 = 23 from (hfr 1 5 (by omega)).trans (zref hI rfl rfl)]
  refine qG.blk 2 (pc' := 46) (ls' := [(2, 1), (0, 0), (0, ((k9 : Nat) : Int)), (0, ((k : Nat) : Int)), (0, v)]) (st' := [(2, w1 1 0), (2, 23)]) (w' := w1) (n' := 142) rfl ?_
  rw [show w1 1 0 = 2 from (hfr 1 0 (by omega)).trans (zref hI rfl rfl)]
  refine qG.blk 1 (pc' := 47) (ls' := [(2, 1), (0, 0), (0, ((k9 : Nat) : Int)), (0, ((k : Nat) : Int)), (0, v)]) (st' := [(0, 0), (2, 2), (2, 23)]) (w' := w1) (n' := 142) rfl ?_
  refine qG.ar (P := 0 ≤ 0 ∧ 0 < ((3 : Nat) : Int)) (P2 := 0 < (2 : Int) ∧ (2 : Int) ≤ ((142 : Nat) : Int)) (pc' := 48) (ls' := [(2, 1), (0, 0), (0, ((k9 : Nat) : Int)), (0, ((k : Nat) : Int)), (0, v)]) (st' := [(2, w1 2 0), (2, 23)]) (w' := w1) (n' := 142) rfl (by omega) (by decide) ?_
  rw [show w1 2 0 = 64 from (hfr 2 0 (by omega)).trans (zref hI rfl rfl)]
  refine qG.blk 2 (pc' := 52) (ls' := [(2, 1), (0, 0), (0, ((k9 : Nat) : Int)), (0, ((k : Nat) : Int)), (0, v)]) (st' := [(2, w1 1 1), (2, 64), (2, 23)]) (w' := w1) (n' := 142) rfl ?_
  rw [show w1 1 1 = 3 from (hfr 1 1 (by omega)).trans (zref hI rfl rfl)]
  refine qG.blk 1 (pc' := 53) (ls' := [(2, 1), (0, 0), (0, ((k9 : Nat) : Int)), (0, ((k : Nat) : Int)), (0, v)]) (st' := [(0, ((k9 : Nat) : Int)), (2, 3), (2, 64), (2, 23)]) (w' := w1) (n' := 142) rfl ?_
  refine qG.ar (P := 0 ≤ ((k9 : Nat) : Int) ∧ ((k9 : Nat) : Int) < ((4 : Nat) : Int)) (P2 := 0 < (3 : Int) ∧ (3 : Int) ≤ ((142 : Nat) : Int)) (pc' := 54) (ls' := [(2, 1), (0, 0), (0, ((k9 : Nat) : Int)), (0, ((k : Nat) : Int)), (0, v)]) (st' := [(2, w1 3 k9), (2, 64), (2, 23)]) (w' := w1) (n' := 142) rfl (by omega) (by decide) ?_
  rw [show w1 3 k9 = 83 from (hfr 3 k9 (by omega)).trans h3]
  refine qG.blk 1 (pc' := 55) (ls' := [(2, 1), (0, 0), (0, ((k9 : Nat) : Int)), (0, ((k : Nat) : Int)), (0, v)]) (st' := [(0, ((k : Nat) : Int)), (2, 83), (2, 64), (2, 23)]) (w' := w1) (n' := 142) rfl ?_
  refine qG.call (t := 35) (na := 4) (sk := 1) (md := 1) (ls1 := [(2, 23), (2, 64), (2, 83), (0, ((k : Nat) : Int)), (9, 0), (9, 0), (9, 0)]) (r1 := []) rfl rfl rfl rfl rfl (K_flw64_83 (by omega) k hk1 hk2 (fun t => siF w 0 (w 84) (w 85) L t) L hL n w1 hI1 hJ1 (e3.trans hs) (by rw [e1, e2]; exact hKW) (by rw [e1, e2]; exact fun g hg u hu => (siF_vw hg hu).trans (cv g hg).symm)) ?_
  rintro _ w2 _ ⟨rfl, rfl, hI2, h2f, h2s⟩
  rw [e1, e2] at h2s
  obtain ⟨z1, z2, z3⟩ := pz_cg (w := w) (w1 := w1) (fun i => hCe 96 i (by decide) (by omega)) (fun i => hCe 99 i (by decide) (by omega)) 0 k
  rw [z1, z2, z3] at h2s
  show qG none (d + 1) 174 58 [(2, 1), (0, 0), (0, ((k9 : Nat) : Int)), (0, ((k : Nat) : Int)), (0, v)] [] w2 142 Q9
  refine qG.blk 2 (pc' := 62) (ls' := [(2, 1), (0, 0), (0, ((k9 : Nat) : Int)), (0, ((k : Nat) : Int)), (0, v)]) (st' := [(2, w2 1 5)]) (w' := w2) (n' := 142) rfl ?_
  rw [show w2 1 5 = 23 from zref hI2 rfl rfl]
  refine qG.blk 1 (pc' := 64) (ls' := [(2, 1), (0, 0), (0, ((k9 : Nat) : Int)), (0, ((k : Nat) : Int)), (0, v)]) (st' := [(0, v), (2, 23)]) (w' := w2) (n' := 142) rfl ?_
  refine qG.call (t := 37) (na := 2) (sk := 1) (md := 1) (ls1 := [(2, 23), (0, v)]) (r1 := []) rfl rfl rfl rfl rfl (K_outc (Nat.zero_le _) v w2) ?_
  rintro _ w7 _ ⟨rfl, hw7, rfl⟩
  rw [hw7]
  show qG none (d + 1) 174 67 [(2, 1), (0, 0), (0, ((k9 : Nat) : Int)), (0, ((k : Nat) : Int)), (0, v)] [(0, hoV (w2 23 4) (w2 23 5) v)] w2 142 Q9
  refine qG.ret rfl rfl ?_
  subst hQ9
  exact ⟨_, _, rfl, h2s⟩
theorem K_flw69_83 {d : Nat} (hd : 8 ≤ d) (k : Nat) (hk1 : 1 ≤ k) (hk2 : k ≤ 4) (V : Nat → Int) (L : Nat) (hL : L ≤ 40) (n : Nat) (w : qW) (hI : yInv zgf zga zra zSp w) (hJ : J9 n w) (hs : w 83 2 = (L : Int)) (hKW : KNw (w 84) (w 85) L) (hVV : ∀ g, g < L → ∀ u, u < dN (w 84 g) (w 85 g) → V (scF (w 84) (w 85) g + u) = w 86 g) : qG none d 35 0 [(2, 23), (2, 69), (2, 83), (0, ((k : Nat) : Int)), (9, 0), (9, 0), (9, 0)] [] w 142 (fun (r : qV) (w1 : qW) (n1 : Nat) => r = (9, 0) ∧ n1 = 142 ∧ yInv zgf zga zra zSp w1 ∧ (∀ q j, ¬ (27 ≤ q ∧ q ≤ 29) → ¬ (q = 23 ∧ 4 ≤ j ∧ j ≤ 5) → ¬ (24 ≤ q ∧ q ≤ 26) → w1 q j = w q j) ∧ HSP (pzN w 1 k) (pzP w 1 k) (pzM w 1 k) V (scF (w 84) (w 85) L) (w1 23 4) (w1 23 5)) := by
  generalize hQ9 : (fun (r : qV) (w1 : qW) (n1 : Nat) => r = (9, 0) ∧ n1 = 142 ∧ yInv zgf zga zra zSp w1 ∧ (∀ q j, ¬ (27 ≤ q ∧ q ≤ 29) → ¬ (q = 23 ∧ 4 ≤ j ∧ j ≤ 5) → ¬ (24 ≤ q ∧ q ≤ 26) → w1 q j = w q j) ∧ HSP (pzN w 1 k) (pzP w 1 k) (pzM w 1 k) V (scF (w 84) (w 85) L) (w1 23 4) (w1 23 5)) = Q9
  obtain ⟨d, rfl⟩ : ∃ d9, d = d9 + 1 := ⟨d - 1, by omega⟩
  refine qG.blk 2 (pc' := 4) (ls' := [(2, 23), (2, 69), (2, 83), (0, ((k : Nat) : Int)), (9, 0), (9, 0), (9, 0)]) (st' := [(2, w 23 0)]) (w' := w) (n' := 142) rfl ?_
  rw [show w 23 0 = 24 from zref hI rfl rfl]
  refine qG.blk 2 (pc' := 6) (ls' := [(2, 23), (2, 69), (2, 83), (0, ((k : Nat) : Int)), (9, 0), (9, 0), (9, 0)]) (st' := [(0, ((k : Nat) : Int)), (2, 69), (2, 24)]) (w' := w) (n' := 142) rfl ?_
  refine qG.call (t := 94) (na := 3) (sk := 1) (md := 1) (ls1 := [(2, 24), (2, 69), (0, ((k : Nat) : Int))]) (r1 := []) rfl rfl rfl rfl rfl (qG.and (T_findFor_69 (w0 := w) d [(2, 24), (2, 69), (0, ((k : Nat) : Int))] w (show C_findFor_69.2.1 ≤ d by exact Nat.le_trans (show C_findFor_69.2.1 ≤ 7 by decide) (by omega)) ⟨⟨rfl, by decide, by decide⟩, ⟨rfl, by decide, by decide⟩, ⟨rfl, by show (1 : Int) ≤ _; omega, by show _ ≤ (4 : Int); omega⟩, trivial⟩ hI (fun p hp => by cases hp) (fun e he => by cases he)) (K_findForC69 (by omega) k hk1 hk2 n w hI hJ)) ?_
  rintro _ wF _ ⟨⟨-, hIF, -, -, -⟩, rfl, rfl, hF⟩
  show qG none (d + 1) 35 9 [(2, 23), (2, 69), (2, 83), (0, ((k : Nat) : Int)), (9, 0), (9, 0), (9, 0)] [] wF 142 Q9
  subst hQ9
  obtain ⟨f0, f1, f2, hTX, hfr⟩ := hF
  have eF : ∀ q j, q ≠ 24 → q ≠ 25 → q ≠ 26 → wF q j = w q j := fun q j a b e => hfr q j (fun z => a z.1) b e
  have e1 : wF 84 = w 84 := funext fun j => eF _ j (by decide) (by decide) (by decide)
  have e2 : wF 85 = w 85 := funext fun j => eF _ j (by decide) (by decide) (by decide)
  have e3 : wF 86 = w 86 := funext fun j => eF _ j (by decide) (by decide) (by decide)
  obtain ⟨z1, z2, z3⟩ := pz_cg (w := w) (w1 := wF) (fun i => eF 96 i (by decide) (by decide) (by decide)) (fun i => eF 99 i (by decide) (by decide) (by decide)) 1 k
  refine qG.mono (K_flwB83 (by omega) (pzN w 1 k) (pzP w 1 k) (pzM w 1 k) V L hL wF hIF ((eF 83 2 (by decide) (by decide) (by decide)).trans hs) (by rw [e1, e2]; exact hKW) (by have z := hTX.ctb hk1 hk2; rw [z1, z2, z3] at z; exact z) (by rw [e1, e2, e3]; exact hVV) _ _) ?_
  rintro r w1 n1 ⟨h1, h2, h3, h4, h5⟩
  rw [e1, e2] at h5
  exact ⟨h1, h2, h3, fun q j a b c9 => (h4 q j a b).trans (eF q j (by omega) (by omega) (by omega)), h5⟩
theorem K_hideB83_69 {d : Nat} (hd : 9 ≤ d) (k9 : Nat) (hk9 : k9 < 4) (k : Nat) (hk1 : 1 ≤ k) (hk2 : k ≤ 4) (v : Int) (L : Nat) (hL : L ≤ 40) (n : Nat) (w : qW) (hI : yInv zgf zga zra zSp w) (hJ : J9 n w) (h3 : w 3 k9 = 83) (hs : w 83 2 = (L : Int)) (hKN : KNr (w 84) (w 85) L) (hKW : KNw (w 84) (w 85) L) (hK : w 69 0 = w 96 1) (hE : JE w) : qG none d 174 23 [(2, 1), (0, 1), (0, ((k9 : Nat) : Int)), (0, ((k : Nat) : Int)), (0, v)] [] w 142 (fun (r : qV) (_ : qW) (_ : Nat) => ∃ fl cn, r = (0, hoV fl cn v) ∧ HSP (pzN w 1 k) (pzP w 1 k) (pzM w 1 k) (fun t => siF w 1 (w 84) (w 85) L t) (scF (w 84) (w 85) L) fl cn) := by
  generalize hQ9 : (fun (r : qV) (_ : qW) (_ : Nat) => ∃ fl cn, r = (0, hoV fl cn v) ∧ HSP (pzN w 1 k) (pzP w 1 k) (pzM w 1 k) (fun t => siF w 1 (w 84) (w 85) L t) (scF (w 84) (w 85) L) fl cn) = Q9
  obtain ⟨d, rfl⟩ : ∃ d9, d = d9 + 1 := ⟨d - 1, by omega⟩
  refine qG.blk 2 (pc' := 27) (ls' := [(2, 1), (0, 1), (0, ((k9 : Nat) : Int)), (0, ((k : Nat) : Int)), (0, v)]) (st' := [(2, w 1 1)]) (w' := w) (n' := 142) rfl ?_
  rw [show w 1 1 = 3 from zref hI rfl rfl]
  refine qG.blk 1 (pc' := 28) (ls' := [(2, 1), (0, 1), (0, ((k9 : Nat) : Int)), (0, ((k : Nat) : Int)), (0, v)]) (st' := [(0, ((k9 : Nat) : Int)), (2, 3)]) (w' := w) (n' := 142) rfl ?_
  refine qG.ar (P := 0 ≤ ((k9 : Nat) : Int) ∧ ((k9 : Nat) : Int) < ((4 : Nat) : Int)) (P2 := 0 < (3 : Int) ∧ (3 : Int) ≤ ((142 : Nat) : Int)) (pc' := 29) (ls' := [(2, 1), (0, 1), (0, ((k9 : Nat) : Int)), (0, ((k : Nat) : Int)), (0, v)]) (st' := [(2, w 3 k9)]) (w' := w) (n' := 142) rfl (by omega) (by decide) ?_
  rw [show w 3 k9 = 83 from h3]
  refine qG.blk 2 (pc' := 33) (ls' := [(2, 1), (0, 1), (0, ((k9 : Nat) : Int)), (0, ((k : Nat) : Int)), (0, v)]) (st' := [(2, w 1 0), (2, 83)]) (w' := w) (n' := 142) rfl ?_
  rw [show w 1 0 = 2 from zref hI rfl rfl]
  refine qG.blk 1 (pc' := 34) (ls' := [(2, 1), (0, 1), (0, ((k9 : Nat) : Int)), (0, ((k : Nat) : Int)), (0, v)]) (st' := [(0, 1), (2, 2), (2, 83)]) (w' := w) (n' := 142) rfl ?_
  refine qG.ar (P := 0 ≤ 1 ∧ 1 < ((3 : Nat) : Int)) (P2 := 0 < (2 : Int) ∧ (2 : Int) ≤ ((142 : Nat) : Int)) (pc' := 35) (ls' := [(2, 1), (0, 1), (0, ((k9 : Nat) : Int)), (0, ((k : Nat) : Int)), (0, v)]) (st' := [(2, w 2 1), (2, 83)]) (w' := w) (n' := 142) rfl (by omega) (by decide) ?_
  rw [show w 2 1 = 69 from zref hI rfl rfl]
  refine qG.call (t := 111) (na := 2) (sk := 1) (md := 1) (ls1 := [(2, 83), (2, 69), (9, 0)]) (r1 := []) rfl rfl rfl rfl rfl (K_perf83_69 (by omega) L hL w hI hs hKN hK hE) ?_
  rintro _ w1 _ ⟨rfl, rfl, hI1, hC⟩
  have hJ1 := J9.chp (show SHOWP 83 by unfold SHOWP; omega) hJ hC
  obtain ⟨e1, e2, e3, hfr⟩ := hC.row (by unfold SHOWP; omega)
  have hCe := hC.2.2.2.2.2.2.2
  have cv := hC.2.2.2.2.2.2.1
  show qG none (d + 1) 174 38 [(2, 1), (0, 1), (0, ((k9 : Nat) : Int)), (0, ((k : Nat) : Int)), (0, v)] [] w1 142 Q9
  refine qG.blk 2 (pc' := 42) (ls' := [(2, 1), (0, 1), (0, ((k9 : Nat) : Int)), (0, ((k : Nat) : Int)), (0, v)]) (st' := [(2, w1 1 5)]) (w' := w1) (n' := 142) rfl ?_
  rw [show w1 1 5 = 23 from (hfr 1 5 (by omega)).trans (zref hI rfl rfl)]
  refine qG.blk 2 (pc' := 46) (ls' := [(2, 1), (0, 1), (0, ((k9 : Nat) : Int)), (0, ((k : Nat) : Int)), (0, v)]) (st' := [(2, w1 1 0), (2, 23)]) (w' := w1) (n' := 142) rfl ?_
  rw [show w1 1 0 = 2 from (hfr 1 0 (by omega)).trans (zref hI rfl rfl)]
  refine qG.blk 1 (pc' := 47) (ls' := [(2, 1), (0, 1), (0, ((k9 : Nat) : Int)), (0, ((k : Nat) : Int)), (0, v)]) (st' := [(0, 1), (2, 2), (2, 23)]) (w' := w1) (n' := 142) rfl ?_
  refine qG.ar (P := 0 ≤ 1 ∧ 1 < ((3 : Nat) : Int)) (P2 := 0 < (2 : Int) ∧ (2 : Int) ≤ ((142 : Nat) : Int)) (pc' := 48) (ls' := [(2, 1), (0, 1), (0, ((k9 : Nat) : Int)), (0, ((k : Nat) : Int)), (0, v)]) (st' := [(2, w1 2 1), (2, 23)]) (w' := w1) (n' := 142) rfl (by omega) (by decide) ?_
  rw [show w1 2 1 = 69 from (hfr 2 1 (by omega)).trans (zref hI rfl rfl)]
  refine qG.blk 2 (pc' := 52) (ls' := [(2, 1), (0, 1), (0, ((k9 : Nat) : Int)), (0, ((k : Nat) : Int)), (0, v)]) (st' := [(2, w1 1 1), (2, 69), (2, 23)]) (w' := w1) (n' := 142) rfl ?_
  rw [show w1 1 1 = 3 from (hfr 1 1 (by omega)).trans (zref hI rfl rfl)]
  refine qG.blk 1 (pc' := 53) (ls' := [(2, 1), (0, 1), (0, ((k9 : Nat) : Int)), (0, ((k : Nat) : Int)), (0, v)]) (st' := [(0, ((k9 : Nat) : Int)), (2, 3), (2, 69), (2, 23)]) (w' := w1) (n' := 142) rfl ?_
  refine qG.ar (P := 0 ≤ ((k9 : Nat) : Int) ∧ ((k9 : Nat) : Int) < ((4 : Nat) : Int)) (P2 := 0 < (3 : Int) ∧ (3 : Int) ≤ ((142 : Nat) : Int)) (pc' := 54) (ls' := [(2, 1), (0, 1), (0, ((k9 : Nat) : Int)), (0, ((k : Nat) : Int)), (0, v)]) (st' := [(2, w1 3 k9), (2, 69), (2, 23)]) (w' := w1) (n' := 142) rfl (by omega) (by decide) ?_
  rw [show w1 3 k9 = 83 from (hfr 3 k9 (by omega)).trans h3]
  refine qG.blk 1 (pc' := 55) (ls' := [(2, 1), (0, 1), (0, ((k9 : Nat) : Int)), (0, ((k : Nat) : Int)), (0, v)]) (st' := [(0, ((k : Nat) : Int)), (2, 83), (2, 69), (2, 23)]) (w' := w1) (n' := 142) rfl ?_
  refine qG.call (t := 35) (na := 4) (sk := 1) (md := 1) (ls1 := [(2, 23), (2, 69), (2, 83), (0, ((k : Nat) : Int)), (9, 0), (9, 0), (9, 0)]) (r1 := []) rfl rfl rfl rfl rfl (K_flw69_83 (by omega) k hk1 hk2 (fun t => siF w 1 (w 84) (w 85) L t) L hL n w1 hI1 hJ1 (e3.trans hs) (by rw [e1, e2]; exact hKW) (by rw [e1, e2]; exact fun g hg u hu => (siF_vw hg hu).trans (cv g hg).symm)) ?_
  rintro _ w2 _ ⟨rfl, rfl, hI2, h2f, h2s⟩
  rw [e1, e2] at h2s
  obtain ⟨z1, z2, z3⟩ := pz_cg (w := w) (w1 := w1) (fun i => hCe 96 i (by decide) (by omega)) (fun i => hCe 99 i (by decide) (by omega)) 1 k
  rw [z1, z2, z3] at h2s
  show qG none (d + 1) 174 58 [(2, 1), (0, 1), (0, ((k9 : Nat) : Int)), (0, ((k : Nat) : Int)), (0, v)] [] w2 142 Q9
  refine qG.blk 2 (pc' := 62) (ls' := [(2, 1), (0, 1), (0, ((k9 : Nat) : Int)), (0, ((k : Nat) : Int)), (0, v)]) (st' := [(2, w2 1 5)]) (w' := w2) (n' := 142) rfl ?_
  rw [show w2 1 5 = 23 from zref hI2 rfl rfl]
  refine qG.blk 1 (pc' := 64) (ls' := [(2, 1), (0, 1), (0, ((k9 : Nat) : Int)), (0, ((k : Nat) : Int)), (0, v)]) (st' := [(0, v), (2, 23)]) (w' := w2) (n' := 142) rfl ?_
  refine qG.call (t := 37) (na := 2) (sk := 1) (md := 1) (ls1 := [(2, 23), (0, v)]) (r1 := []) rfl rfl rfl rfl rfl (K_outc (Nat.zero_le _) v w2) ?_
  rintro _ w7 _ ⟨rfl, hw7, rfl⟩
  rw [hw7]
  show qG none (d + 1) 174 67 [(2, 1), (0, 1), (0, ((k9 : Nat) : Int)), (0, ((k : Nat) : Int)), (0, v)] [(0, hoV (w2 23 4) (w2 23 5) v)] w2 142 Q9
  refine qG.ret rfl rfl ?_
  subst hQ9
  exact ⟨_, _, rfl, h2s⟩
theorem K_flw74_83 {d : Nat} (hd : 8 ≤ d) (k : Nat) (hk1 : 1 ≤ k) (hk2 : k ≤ 4) (V : Nat → Int) (L : Nat) (hL : L ≤ 40) (n : Nat) (w : qW) (hI : yInv zgf zga zra zSp w) (hJ : J9 n w) (hs : w 83 2 = (L : Int)) (hKW : KNw (w 84) (w 85) L) (hVV : ∀ g, g < L → ∀ u, u < dN (w 84 g) (w 85 g) → V (scF (w 84) (w 85) g + u) = w 86 g) : qG none d 35 0 [(2, 23), (2, 74), (2, 83), (0, ((k : Nat) : Int)), (9, 0), (9, 0), (9, 0)] [] w 142 (fun (r : qV) (w1 : qW) (n1 : Nat) => r = (9, 0) ∧ n1 = 142 ∧ yInv zgf zga zra zSp w1 ∧ (∀ q j, ¬ (27 ≤ q ∧ q ≤ 29) → ¬ (q = 23 ∧ 4 ≤ j ∧ j ≤ 5) → ¬ (24 ≤ q ∧ q ≤ 26) → w1 q j = w q j) ∧ HSP (pzN w 2 k) (pzP w 2 k) (pzM w 2 k) V (scF (w 84) (w 85) L) (w1 23 4) (w1 23 5)) := by
  generalize hQ9 : (fun (r : qV) (w1 : qW) (n1 : Nat) => r = (9, 0) ∧ n1 = 142 ∧ yInv zgf zga zra zSp w1 ∧ (∀ q j, ¬ (27 ≤ q ∧ q ≤ 29) → ¬ (q = 23 ∧ 4 ≤ j ∧ j ≤ 5) → ¬ (24 ≤ q ∧ q ≤ 26) → w1 q j = w q j) ∧ HSP (pzN w 2 k) (pzP w 2 k) (pzM w 2 k) V (scF (w 84) (w 85) L) (w1 23 4) (w1 23 5)) = Q9
  obtain ⟨d, rfl⟩ : ∃ d9, d = d9 + 1 := ⟨d - 1, by omega⟩
  refine qG.blk 2 (pc' := 4) (ls' := [(2, 23), (2, 74), (2, 83), (0, ((k : Nat) : Int)), (9, 0), (9, 0), (9, 0)]) (st' := [(2, w 23 0)]) (w' := w) (n' := 142) rfl ?_
  rw [show w 23 0 = 24 from zref hI rfl rfl]
  refine qG.blk 2 (pc' := 6) (ls' := [(2, 23), (2, 74), (2, 83), (0, ((k : Nat) : Int)), (9, 0), (9, 0), (9, 0)]) (st' := [(0, ((k : Nat) : Int)), (2, 74), (2, 24)]) (w' := w) (n' := 142) rfl ?_
  refine qG.call (t := 94) (na := 3) (sk := 1) (md := 1) (ls1 := [(2, 24), (2, 74), (0, ((k : Nat) : Int))]) (r1 := []) rfl rfl rfl rfl rfl (qG.and (T_findFor_74 (w0 := w) d [(2, 24), (2, 74), (0, ((k : Nat) : Int))] w (show C_findFor_74.2.1 ≤ d by exact Nat.le_trans (show C_findFor_74.2.1 ≤ 7 by decide) (by omega)) ⟨⟨rfl, by decide, by decide⟩, ⟨rfl, by decide, by decide⟩, ⟨rfl, by show (1 : Int) ≤ _; omega, by show _ ≤ (4 : Int); omega⟩, trivial⟩ hI (fun p hp => by cases hp) (fun e he => by cases he)) (K_findForC74 (by omega) k hk1 hk2 n w hI hJ)) ?_
  rintro _ wF _ ⟨⟨-, hIF, -, -, -⟩, rfl, rfl, hF⟩
  show qG none (d + 1) 35 9 [(2, 23), (2, 74), (2, 83), (0, ((k : Nat) : Int)), (9, 0), (9, 0), (9, 0)] [] wF 142 Q9
  subst hQ9
  obtain ⟨f0, f1, f2, hTX, hfr⟩ := hF
  have eF : ∀ q j, q ≠ 24 → q ≠ 25 → q ≠ 26 → wF q j = w q j := fun q j a b e => hfr q j (fun z => a z.1) b e
  have e1 : wF 84 = w 84 := funext fun j => eF _ j (by decide) (by decide) (by decide)
  have e2 : wF 85 = w 85 := funext fun j => eF _ j (by decide) (by decide) (by decide)
  have e3 : wF 86 = w 86 := funext fun j => eF _ j (by decide) (by decide) (by decide)
  obtain ⟨z1, z2, z3⟩ := pz_cg (w := w) (w1 := wF) (fun i => eF 96 i (by decide) (by decide) (by decide)) (fun i => eF 99 i (by decide) (by decide) (by decide)) 2 k
  refine qG.mono (K_flwB83 (by omega) (pzN w 2 k) (pzP w 2 k) (pzM w 2 k) V L hL wF hIF ((eF 83 2 (by decide) (by decide) (by decide)).trans hs) (by rw [e1, e2]; exact hKW) (by have z := hTX.ctb hk1 hk2; rw [z1, z2, z3] at z; exact z) (by rw [e1, e2, e3]; exact hVV) _ _) ?_
  rintro r w1 n1 ⟨h1, h2, h3, h4, h5⟩
  rw [e1, e2] at h5
  exact ⟨h1, h2, h3, fun q j a b c9 => (h4 q j a b).trans (eF q j (by omega) (by omega) (by omega)), h5⟩
theorem K_hideB83_74 {d : Nat} (hd : 9 ≤ d) (k9 : Nat) (hk9 : k9 < 4) (k : Nat) (hk1 : 1 ≤ k) (hk2 : k ≤ 4) (v : Int) (L : Nat) (hL : L ≤ 40) (n : Nat) (w : qW) (hI : yInv zgf zga zra zSp w) (hJ : J9 n w) (h3 : w 3 k9 = 83) (hs : w 83 2 = (L : Int)) (hKN : KNr (w 84) (w 85) L) (hKW : KNw (w 84) (w 85) L) (hK : w 74 0 = w 96 2) (hE : JE w) : qG none d 174 23 [(2, 1), (0, 2), (0, ((k9 : Nat) : Int)), (0, ((k : Nat) : Int)), (0, v)] [] w 142 (fun (r : qV) (_ : qW) (_ : Nat) => ∃ fl cn, r = (0, hoV fl cn v) ∧ HSP (pzN w 2 k) (pzP w 2 k) (pzM w 2 k) (fun t => siF w 2 (w 84) (w 85) L t) (scF (w 84) (w 85) L) fl cn) := by
  generalize hQ9 : (fun (r : qV) (_ : qW) (_ : Nat) => ∃ fl cn, r = (0, hoV fl cn v) ∧ HSP (pzN w 2 k) (pzP w 2 k) (pzM w 2 k) (fun t => siF w 2 (w 84) (w 85) L t) (scF (w 84) (w 85) L) fl cn) = Q9
  obtain ⟨d, rfl⟩ : ∃ d9, d = d9 + 1 := ⟨d - 1, by omega⟩
  refine qG.blk 2 (pc' := 27) (ls' := [(2, 1), (0, 2), (0, ((k9 : Nat) : Int)), (0, ((k : Nat) : Int)), (0, v)]) (st' := [(2, w 1 1)]) (w' := w) (n' := 142) rfl ?_
  rw [show w 1 1 = 3 from zref hI rfl rfl]
  refine qG.blk 1 (pc' := 28) (ls' := [(2, 1), (0, 2), (0, ((k9 : Nat) : Int)), (0, ((k : Nat) : Int)), (0, v)]) (st' := [(0, ((k9 : Nat) : Int)), (2, 3)]) (w' := w) (n' := 142) rfl ?_
  refine qG.ar (P := 0 ≤ ((k9 : Nat) : Int) ∧ ((k9 : Nat) : Int) < ((4 : Nat) : Int)) (P2 := 0 < (3 : Int) ∧ (3 : Int) ≤ ((142 : Nat) : Int)) (pc' := 29) (ls' := [(2, 1), (0, 2), (0, ((k9 : Nat) : Int)), (0, ((k : Nat) : Int)), (0, v)]) (st' := [(2, w 3 k9)]) (w' := w) (n' := 142) rfl (by omega) (by decide) ?_
  rw [show w 3 k9 = 83 from h3]
  refine qG.blk 2 (pc' := 33) (ls' := [(2, 1), (0, 2), (0, ((k9 : Nat) : Int)), (0, ((k : Nat) : Int)), (0, v)]) (st' := [(2, w 1 0), (2, 83)]) (w' := w) (n' := 142) rfl ?_
  rw [show w 1 0 = 2 from zref hI rfl rfl]
  refine qG.blk 1 (pc' := 34) (ls' := [(2, 1), (0, 2), (0, ((k9 : Nat) : Int)), (0, ((k : Nat) : Int)), (0, v)]) (st' := [(0, 2), (2, 2), (2, 83)]) (w' := w) (n' := 142) rfl ?_
  refine qG.ar (P := 0 ≤ 2 ∧ 2 < ((3 : Nat) : Int)) (P2 := 0 < (2 : Int) ∧ (2 : Int) ≤ ((142 : Nat) : Int)) (pc' := 35) (ls' := [(2, 1), (0, 2), (0, ((k9 : Nat) : Int)), (0, ((k : Nat) : Int)), (0, v)]) (st' := [(2, w 2 2), (2, 83)]) (w' := w) (n' := 142) rfl (by omega) (by decide) ?_
  rw [show w 2 2 = 74 from zref hI rfl rfl]
  refine qG.call (t := 111) (na := 2) (sk := 1) (md := 1) (ls1 := [(2, 83), (2, 74), (9, 0)]) (r1 := []) rfl rfl rfl rfl rfl (K_perf83_74 (by omega) L hL w hI hs hKN hK hE) ?_
  rintro _ w1 _ ⟨rfl, rfl, hI1, hC⟩
  have hJ1 := J9.chp (show SHOWP 83 by unfold SHOWP; omega) hJ hC
  obtain ⟨e1, e2, e3, hfr⟩ := hC.row (by unfold SHOWP; omega)
  have hCe := hC.2.2.2.2.2.2.2
  have cv := hC.2.2.2.2.2.2.1
  show qG none (d + 1) 174 38 [(2, 1), (0, 2), (0, ((k9 : Nat) : Int)), (0, ((k : Nat) : Int)), (0, v)] [] w1 142 Q9
  refine qG.blk 2 (pc' := 42) (ls' := [(2, 1), (0, 2), (0, ((k9 : Nat) : Int)), (0, ((k : Nat) : Int)), (0, v)]) (st' := [(2, w1 1 5)]) (w' := w1) (n' := 142) rfl ?_
  rw [show w1 1 5 = 23 from (hfr 1 5 (by omega)).trans (zref hI rfl rfl)]
  refine qG.blk 2 (pc' := 46) (ls' := [(2, 1), (0, 2), (0, ((k9 : Nat) : Int)), (0, ((k : Nat) : Int)), (0, v)]) (st' := [(2, w1 1 0), (2, 23)]) (w' := w1) (n' := 142) rfl ?_
  rw [show w1 1 0 = 2 from (hfr 1 0 (by omega)).trans (zref hI rfl rfl)]
  refine qG.blk 1 (pc' := 47) (ls' := [(2, 1), (0, 2), (0, ((k9 : Nat) : Int)), (0, ((k : Nat) : Int)), (0, v)]) (st' := [(0, 2), (2, 2), (2, 23)]) (w' := w1) (n' := 142) rfl ?_
  refine qG.ar (P := 0 ≤ 2 ∧ 2 < ((3 : Nat) : Int)) (P2 := 0 < (2 : Int) ∧ (2 : Int) ≤ ((142 : Nat) : Int)) (pc' := 48) (ls' := [(2, 1), (0, 2), (0, ((k9 : Nat) : Int)), (0, ((k : Nat) : Int)), (0, v)]) (st' := [(2, w1 2 2), (2, 23)]) (w' := w1) (n' := 142) rfl (by omega) (by decide) ?_
  rw [show w1 2 2 = 74 from (hfr 2 2 (by omega)).trans (zref hI rfl rfl)]
  refine qG.blk 2 (pc' := 52) (ls' := [(2, 1), (0, 2), (0, ((k9 : Nat) : Int)), (0, ((k : Nat) : Int)), (0, v)]) (st' := [(2, w1 1 1), (2, 74), (2, 23)]) (w' := w1) (n' := 142) rfl ?_
  rw [show w1 1 1 = 3 from (hfr 1 1 (by omega)).trans (zref hI rfl rfl)]
  refine qG.blk 1 (pc' := 53) (ls' := [(2, 1), (0, 2), (0, ((k9 : Nat) : Int)), (0, ((k : Nat) : Int)), (0, v)]) (st' := [(0, ((k9 : Nat) : Int)), (2, 3), (2, 74), (2, 23)]) (w' := w1) (n' := 142) rfl ?_
  refine qG.ar (P := 0 ≤ ((k9 : Nat) : Int) ∧ ((k9 : Nat) : Int) < ((4 : Nat) : Int)) (P2 := 0 < (3 : Int) ∧ (3 : Int) ≤ ((142 : Nat) : Int)) (pc' := 54) (ls' := [(2, 1), (0, 2), (0, ((k9 : Nat) : Int)), (0, ((k : Nat) : Int)), (0, v)]) (st' := [(2, w1 3 k9), (2, 74), (2, 23)]) (w' := w1) (n' := 142) rfl (by omega) (by decide) ?_
  rw [show w1 3 k9 = 83 from (hfr 3 k9 (by omega)).trans h3]
  refine qG.blk 1 (pc' := 55) (ls' := [(2, 1), (0, 2), (0, ((k9 : Nat) : Int)), (0, ((k : Nat) : Int)), (0, v)]) (st' := [(0, ((k : Nat) : Int)), (2, 83), (2, 74), (2, 23)]) (w' := w1) (n' := 142) rfl ?_
  refine qG.call (t := 35) (na := 4) (sk := 1) (md := 1) (ls1 := [(2, 23), (2, 74), (2, 83), (0, ((k : Nat) : Int)), (9, 0), (9, 0), (9, 0)]) (r1 := []) rfl rfl rfl rfl rfl (K_flw74_83 (by omega) k hk1 hk2 (fun t => siF w 2 (w 84) (w 85) L t) L hL n w1 hI1 hJ1 (e3.trans hs) (by rw [e1, e2]; exact hKW) (by rw [e1, e2]; exact fun g hg u hu => (siF_vw hg hu).trans (cv g hg).symm)) ?_
  rintro _ w2 _ ⟨rfl, rfl, hI2, h2f, h2s⟩
  rw [e1, e2] at h2s
  obtain ⟨z1, z2, z3⟩ := pz_cg (w := w) (w1 := w1) (fun i => hCe 96 i (by decide) (by omega)) (fun i => hCe 99 i (by decide) (by omega)) 2 k
  rw [z1, z2, z3] at h2s
  show qG none (d + 1) 174 58 [(2, 1), (0, 2), (0, ((k9 : Nat) : Int)), (0, ((k : Nat) : Int)), (0, v)] [] w2 142 Q9
  refine qG.blk 2 (pc' := 62) (ls' := [(2, 1), (0, 2), (0, ((k9 : Nat) : Int)), (0, ((k : Nat) : Int)), (0, v)]) (st' := [(2, w2 1 5)]) (w' := w2) (n' := 142) rfl ?_
  rw [show w2 1 5 = 23 from zref hI2 rfl rfl]
  refine qG.blk 1 (pc' := 64) (ls' := [(2, 1), (0, 2), (0, ((k9 : Nat) : Int)), (0, ((k : Nat) : Int)), (0, v)]) (st' := [(0, v), (2, 23)]) (w' := w2) (n' := 142) rfl ?_
  refine qG.call (t := 37) (na := 2) (sk := 1) (md := 1) (ls1 := [(2, 23), (0, v)]) (r1 := []) rfl rfl rfl rfl rfl (K_outc (Nat.zero_le _) v w2) ?_
  rintro _ w7 _ ⟨rfl, hw7, rfl⟩
  rw [hw7]
  show qG none (d + 1) 174 67 [(2, 1), (0, 2), (0, ((k9 : Nat) : Int)), (0, ((k : Nat) : Int)), (0, v)] [(0, hoV (w2 23 4) (w2 23 5) v)] w2 142 Q9
  refine qG.ret rfl rfl ?_
  subst hQ9
  exact ⟨_, _, rfl, h2s⟩
theorem K_flw64_87 {d : Nat} (hd : 8 ≤ d) (k : Nat) (hk1 : 1 ≤ k) (hk2 : k ≤ 4) (V : Nat → Int) (L : Nat) (hL : L ≤ 40) (n : Nat) (w : qW) (hI : yInv zgf zga zra zSp w) (hJ : J9 n w) (hs : w 87 2 = (L : Int)) (hKW : KNw (w 88) (w 89) L) (hVV : ∀ g, g < L → ∀ u, u < dN (w 88 g) (w 89 g) → V (scF (w 88) (w 89) g + u) = w 90 g) : qG none d 35 0 [(2, 23), (2, 64), (2, 87), (0, ((k : Nat) : Int)), (9, 0), (9, 0), (9, 0)] [] w 142 (fun (r : qV) (w1 : qW) (n1 : Nat) => r = (9, 0) ∧ n1 = 142 ∧ yInv zgf zga zra zSp w1 ∧ (∀ q j, ¬ (27 ≤ q ∧ q ≤ 29) → ¬ (q = 23 ∧ 4 ≤ j ∧ j ≤ 5) → ¬ (24 ≤ q ∧ q ≤ 26) → w1 q j = w q j) ∧ HSP (pzN w 0 k) (pzP w 0 k) (pzM w 0 k) V (scF (w 88) (w 89) L) (w1 23 4) (w1 23 5)) := by
  generalize hQ9 : (fun (r : qV) (w1 : qW) (n1 : Nat) => r = (9, 0) ∧ n1 = 142 ∧ yInv zgf zga zra zSp w1 ∧ (∀ q j, ¬ (27 ≤ q ∧ q ≤ 29) → ¬ (q = 23 ∧ 4 ≤ j ∧ j ≤ 5) → ¬ (24 ≤ q ∧ q ≤ 26) → w1 q j = w q j) ∧ HSP (pzN w 0 k) (pzP w 0 k) (pzM w 0 k) V (scF (w 88) (w 89) L) (w1 23 4) (w1 23 5)) = Q9
  obtain ⟨d, rfl⟩ : ∃ d9, d = d9 + 1 := ⟨d - 1, by omega⟩
  refine qG.blk 2 (pc' := 4) (ls' := [(2, 23), (2, 64), (2, 87), (0, ((k : Nat) : Int)), (9, 0), (9, 0), (9, 0)]) (st' := [(2, w 23 0)]) (w' := w) (n' := 142) rfl ?_
  rw [show w 23 0 = 24 from zref hI rfl rfl]
  refine qG.blk 2 (pc' := 6) (ls' := [(2, 23), (2, 64), (2, 87), (0, ((k : Nat) : Int)), (9, 0), (9, 0), (9, 0)]) (st' := [(0, ((k : Nat) : Int)), (2, 64), (2, 24)]) (w' := w) (n' := 142) rfl ?_
  refine qG.call (t := 94) (na := 3) (sk := 1) (md := 1) (ls1 := [(2, 24), (2, 64), (0, ((k : Nat) : Int))]) (r1 := []) rfl rfl rfl rfl rfl (qG.and (T_findFor_64 (w0 := w) d [(2, 24), (2, 64), (0, ((k : Nat) : Int))] w (show C_findFor_64.2.1 ≤ d by exact Nat.le_trans (show C_findFor_64.2.1 ≤ 7 by decide) (by omega)) ⟨⟨rfl, by decide, by decide⟩, ⟨rfl, by decide, by decide⟩, ⟨rfl, by show (1 : Int) ≤ _; omega, by show _ ≤ (4 : Int); omega⟩, trivial⟩ hI (fun p hp => by cases hp) (fun e he => by cases he)) (K_findForC64 (by omega) k hk1 hk2 n w hI hJ)) ?_
  rintro _ wF _ ⟨⟨-, hIF, -, -, -⟩, rfl, rfl, hF⟩
  show qG none (d + 1) 35 9 [(2, 23), (2, 64), (2, 87), (0, ((k : Nat) : Int)), (9, 0), (9, 0), (9, 0)] [] wF 142 Q9
  subst hQ9
  obtain ⟨f0, f1, f2, hTX, hfr⟩ := hF
  have eF : ∀ q j, q ≠ 24 → q ≠ 25 → q ≠ 26 → wF q j = w q j := fun q j a b e => hfr q j (fun z => a z.1) b e
  have e1 : wF 88 = w 88 := funext fun j => eF _ j (by decide) (by decide) (by decide)
  have e2 : wF 89 = w 89 := funext fun j => eF _ j (by decide) (by decide) (by decide)
  have e3 : wF 90 = w 90 := funext fun j => eF _ j (by decide) (by decide) (by decide)
  obtain ⟨z1, z2, z3⟩ := pz_cg (w := w) (w1 := wF) (fun i => eF 96 i (by decide) (by decide) (by decide)) (fun i => eF 99 i (by decide) (by decide) (by decide)) 0 k
  refine qG.mono (K_flwB87 (by omega) (pzN w 0 k) (pzP w 0 k) (pzM w 0 k) V L hL wF hIF ((eF 87 2 (by decide) (by decide) (by decide)).trans hs) (by rw [e1, e2]; exact hKW) (by have z := hTX.ctb hk1 hk2; rw [z1, z2, z3] at z; exact z) (by rw [e1, e2, e3]; exact hVV) _ _) ?_
  rintro r w1 n1 ⟨h1, h2, h3, h4, h5⟩
  rw [e1, e2] at h5
  exact ⟨h1, h2, h3, fun q j a b c9 => (h4 q j a b).trans (eF q j (by omega) (by omega) (by omega)), h5⟩
theorem K_hideB87_64 {d : Nat} (hd : 9 ≤ d) (k9 : Nat) (hk9 : k9 < 4) (k : Nat) (hk1 : 1 ≤ k) (hk2 : k ≤ 4) (v : Int) (L : Nat) (hL : L ≤ 40) (n : Nat) (w : qW) (hI : yInv zgf zga zra zSp w) (hJ : J9 n w) (h3 : w 3 k9 = 87) (hs : w 87 2 = (L : Int)) (hKN : KNr (w 88) (w 89) L) (hKW : KNw (w 88) (w 89) L) (hK : w 64 0 = w 96 0) (hE : JE w) : qG none d 174 23 [(2, 1), (0, 0), (0, ((k9 : Nat) : Int)), (0, ((k : Nat) : Int)), (0, v)] [] w 142 (fun (r : qV) (_ : qW) (_ : Nat) => ∃ fl cn, r = (0, hoV fl cn v) ∧ HSP (pzN w 0 k) (pzP w 0 k) (pzM w 0 k) (fun t => siF w 0 (w 88) (w 89) L t) (scF (w 88) (w 89) L) fl cn) := by
  generalize hQ9 : (fun (r : qV) (_ : qW) (_ : Nat) => ∃ fl cn, r = (0, hoV fl cn v) ∧ HSP (pzN w 0 k) (pzP w 0 k) (pzM w 0 k) (fun t => siF w 0 (w 88) (w 89) L t) (scF (w 88) (w 89) L) fl cn) = Q9
  obtain ⟨d, rfl⟩ : ∃ d9, d = d9 + 1 := ⟨d - 1, by omega⟩
  refine qG.blk 2 (pc' := 27) (ls' := [(2, 1), (0, 0), (0, ((k9 : Nat) : Int)), (0, ((k : Nat) : Int)), (0, v)]) (st' := [(2, w 1 1)]) (w' := w) (n' := 142) rfl ?_
  rw [show w 1 1 = 3 from zref hI rfl rfl]
  refine qG.blk 1 (pc' := 28) (ls' := [(2, 1), (0, 0), (0, ((k9 : Nat) : Int)), (0, ((k : Nat) : Int)), (0, v)]) (st' := [(0, ((k9 : Nat) : Int)), (2, 3)]) (w' := w) (n' := 142) rfl ?_
  refine qG.ar (P := 0 ≤ ((k9 : Nat) : Int) ∧ ((k9 : Nat) : Int) < ((4 : Nat) : Int)) (P2 := 0 < (3 : Int) ∧ (3 : Int) ≤ ((142 : Nat) : Int)) (pc' := 29) (ls' := [(2, 1), (0, 0), (0, ((k9 : Nat) : Int)), (0, ((k : Nat) : Int)), (0, v)]) (st' := [(2, w 3 k9)]) (w' := w) (n' := 142) rfl (by omega) (by decide) ?_
  rw [show w 3 k9 = 87 from h3]
  refine qG.blk 2 (pc' := 33) (ls' := [(2, 1), (0, 0), (0, ((k9 : Nat) : Int)), (0, ((k : Nat) : Int)), (0, v)]) (st' := [(2, w 1 0), (2, 87)]) (w' := w) (n' := 142) rfl ?_
  rw [show w 1 0 = 2 from zref hI rfl rfl]
  refine qG.blk 1 (pc' := 34) (ls' := [(2, 1), (0, 0), (0, ((k9 : Nat) : Int)), (0, ((k : Nat) : Int)), (0, v)]) (st' := [(0, 0), (2, 2), (2, 87)]) (w' := w) (n' := 142) rfl ?_
  refine qG.ar (P := 0 ≤ 0 ∧ 0 < ((3 : Nat) : Int)) (P2 := 0 < (2 : Int) ∧ (2 : Int) ≤ ((142 : Nat) : Int)) (pc' := 35) (ls' := [(2, 1), (0, 0), (0, ((k9 : Nat) : Int)), (0, ((k : Nat) : Int)), (0, v)]) (st' := [(2, w 2 0), (2, 87)]) (w' := w) (n' := 142) rfl (by omega) (by decide) ?_
  rw [show w 2 0 = 64 from zref hI rfl rfl]
  refine qG.call (t := 111) (na := 2) (sk := 1) (md := 1) (ls1 := [(2, 87), (2, 64), (9, 0)]) (r1 := []) rfl rfl rfl rfl rfl (K_perf87_64 (by omega) L hL w hI hs hKN hK hE) ?_
  rintro _ w1 _ ⟨rfl, rfl, hI1, hC⟩
  have hJ1 := J9.chp (show SHOWP 87 by unfold SHOWP; omega) hJ hC
  obtain ⟨e1, e2, e3, hfr⟩ := hC.row (by unfold SHOWP; omega)
  have hCe := hC.2.2.2.2.2.2.2
  have cv := hC.2.2.2.2.2.2.1
  show qG none (d + 1) 174 38 [(2, 1), (0, 0), (0, ((k9 : Nat) : Int)), (0, ((k : Nat) : Int)), (0, v)] [] w1 142 Q9
  refine qG.blk 2 (pc' := 42) (ls' := [(2, 1), (0, 0), (0, ((k9 : Nat) : Int)), (0, ((k : Nat) : Int)), (0, v)]) (st' := [(2, w1 1 5)]) (w' := w1) (n' := 142) rfl ?_
  rw [show w1 1 5 = 23 from (hfr 1 5 (by omega)).trans (zref hI rfl rfl)]
  refine qG.blk 2 (pc' := 46) (ls' := [(2, 1), (0, 0), (0, ((k9 : Nat) : Int)), (0, ((k : Nat) : Int)), (0, v)]) (st' := [(2, w1 1 0), (2, 23)]) (w' := w1) (n' := 142) rfl ?_
  rw [show w1 1 0 = 2 from (hfr 1 0 (by omega)).trans (zref hI rfl rfl)]
  refine qG.blk 1 (pc' := 47) (ls' := [(2, 1), (0, 0), (0, ((k9 : Nat) : Int)), (0, ((k : Nat) : Int)), (0, v)]) (st' := [(0, 0), (2, 2), (2, 23)]) (w' := w1) (n' := 142) rfl ?_
  refine qG.ar (P := 0 ≤ 0 ∧ 0 < ((3 : Nat) : Int)) (P2 := 0 < (2 : Int) ∧ (2 : Int) ≤ ((142 : Nat) : Int)) (pc' := 48) (ls' := [(2, 1), (0, 0), (0, ((k9 : Nat) : Int)), (0, ((k : Nat) : Int)), (0, v)]) (st' := [(2, w1 2 0), (2, 23)]) (w' := w1) (n' := 142) rfl (by omega) (by decide) ?_
  rw [show w1 2 0 = 64 from (hfr 2 0 (by omega)).trans (zref hI rfl rfl)]
  refine qG.blk 2 (pc' := 52) (ls' := [(2, 1), (0, 0), (0, ((k9 : Nat) : Int)), (0, ((k : Nat) : Int)), (0, v)]) (st' := [(2, w1 1 1), (2, 64), (2, 23)]) (w' := w1) (n' := 142) rfl ?_
  rw [show w1 1 1 = 3 from (hfr 1 1 (by omega)).trans (zref hI rfl rfl)]
  refine qG.blk 1 (pc' := 53) (ls' := [(2, 1), (0, 0), (0, ((k9 : Nat) : Int)), (0, ((k : Nat) : Int)), (0, v)]) (st' := [(0, ((k9 : Nat) : Int)), (2, 3), (2, 64), (2, 23)]) (w' := w1) (n' := 142) rfl ?_
  refine qG.ar (P := 0 ≤ ((k9 : Nat) : Int) ∧ ((k9 : Nat) : Int) < ((4 : Nat) : Int)) (P2 := 0 < (3 : Int) ∧ (3 : Int) ≤ ((142 : Nat) : Int)) (pc' := 54) (ls' := [(2, 1), (0, 0), (0, ((k9 : Nat) : Int)), (0, ((k : Nat) : Int)), (0, v)]) (st' := [(2, w1 3 k9), (2, 64), (2, 23)]) (w' := w1) (n' := 142) rfl (by omega) (by decide) ?_
  rw [show w1 3 k9 = 87 from (hfr 3 k9 (by omega)).trans h3]
  refine qG.blk 1 (pc' := 55) (ls' := [(2, 1), (0, 0), (0, ((k9 : Nat) : Int)), (0, ((k : Nat) : Int)), (0, v)]) (st' := [(0, ((k : Nat) : Int)), (2, 87), (2, 64), (2, 23)]) (w' := w1) (n' := 142) rfl ?_
  refine qG.call (t := 35) (na := 4) (sk := 1) (md := 1) (ls1 := [(2, 23), (2, 64), (2, 87), (0, ((k : Nat) : Int)), (9, 0), (9, 0), (9, 0)]) (r1 := []) rfl rfl rfl rfl rfl (K_flw64_87 (by omega) k hk1 hk2 (fun t => siF w 0 (w 88) (w 89) L t) L hL n w1 hI1 hJ1 (e3.trans hs) (by rw [e1, e2]; exact hKW) (by rw [e1, e2]; exact fun g hg u hu => (siF_vw hg hu).trans (cv g hg).symm)) ?_
  rintro _ w2 _ ⟨rfl, rfl, hI2, h2f, h2s⟩
  rw [e1, e2] at h2s
  obtain ⟨z1, z2, z3⟩ := pz_cg (w := w) (w1 := w1) (fun i => hCe 96 i (by decide) (by omega)) (fun i => hCe 99 i (by decide) (by omega)) 0 k
  rw [z1, z2, z3] at h2s
  show qG none (d + 1) 174 58 [(2, 1), (0, 0), (0, ((k9 : Nat) : Int)), (0, ((k : Nat) : Int)), (0, v)] [] w2 142 Q9
  refine qG.blk 2 (pc' := 62) (ls' := [(2, 1), (0, 0), (0, ((k9 : Nat) : Int)), (0, ((k : Nat) : Int)), (0, v)]) (st' := [(2, w2 1 5)]) (w' := w2) (n' := 142) rfl ?_
  rw [show w2 1 5 = 23 from zref hI2 rfl rfl]
  refine qG.blk 1 (pc' := 64) (ls' := [(2, 1), (0, 0), (0, ((k9 : Nat) : Int)), (0, ((k : Nat) : Int)), (0, v)]) (st' := [(0, v), (2, 23)]) (w' := w2) (n' := 142) rfl ?_
  refine qG.call (t := 37) (na := 2) (sk := 1) (md := 1) (ls1 := [(2, 23), (0, v)]) (r1 := []) rfl rfl rfl rfl rfl (K_outc (Nat.zero_le _) v w2) ?_
  rintro _ w7 _ ⟨rfl, hw7, rfl⟩
  rw [hw7]
  show qG none (d + 1) 174 67 [(2, 1), (0, 0), (0, ((k9 : Nat) : Int)), (0, ((k : Nat) : Int)), (0, v)] [(0, hoV (w2 23 4) (w2 23 5) v)] w2 142 Q9
  refine qG.ret rfl rfl ?_
  subst hQ9
  exact ⟨_, _, rfl, h2s⟩
theorem K_flw69_87 {d : Nat} (hd : 8 ≤ d) (k : Nat) (hk1 : 1 ≤ k) (hk2 : k ≤ 4) (V : Nat → Int) (L : Nat) (hL : L ≤ 40) (n : Nat) (w : qW) (hI : yInv zgf zga zra zSp w) (hJ : J9 n w) (hs : w 87 2 = (L : Int)) (hKW : KNw (w 88) (w 89) L) (hVV : ∀ g, g < L → ∀ u, u < dN (w 88 g) (w 89 g) → V (scF (w 88) (w 89) g + u) = w 90 g) : qG none d 35 0 [(2, 23), (2, 69), (2, 87), (0, ((k : Nat) : Int)), (9, 0), (9, 0), (9, 0)] [] w 142 (fun (r : qV) (w1 : qW) (n1 : Nat) => r = (9, 0) ∧ n1 = 142 ∧ yInv zgf zga zra zSp w1 ∧ (∀ q j, ¬ (27 ≤ q ∧ q ≤ 29) → ¬ (q = 23 ∧ 4 ≤ j ∧ j ≤ 5) → ¬ (24 ≤ q ∧ q ≤ 26) → w1 q j = w q j) ∧ HSP (pzN w 1 k) (pzP w 1 k) (pzM w 1 k) V (scF (w 88) (w 89) L) (w1 23 4) (w1 23 5)) := by
  generalize hQ9 : (fun (r : qV) (w1 : qW) (n1 : Nat) => r = (9, 0) ∧ n1 = 142 ∧ yInv zgf zga zra zSp w1 ∧ (∀ q j, ¬ (27 ≤ q ∧ q ≤ 29) → ¬ (q = 23 ∧ 4 ≤ j ∧ j ≤ 5) → ¬ (24 ≤ q ∧ q ≤ 26) → w1 q j = w q j) ∧ HSP (pzN w 1 k) (pzP w 1 k) (pzM w 1 k) V (scF (w 88) (w 89) L) (w1 23 4) (w1 23 5)) = Q9
  obtain ⟨d, rfl⟩ : ∃ d9, d = d9 + 1 := ⟨d - 1, by omega⟩
  refine qG.blk 2 (pc' := 4) (ls' := [(2, 23), (2, 69), (2, 87), (0, ((k : Nat) : Int)), (9, 0), (9, 0), (9, 0)]) (st' := [(2, w 23 0)]) (w' := w) (n' := 142) rfl ?_
  rw [show w 23 0 = 24 from zref hI rfl rfl]
  refine qG.blk 2 (pc' := 6) (ls' := [(2, 23), (2, 69), (2, 87), (0, ((k : Nat) : Int)), (9, 0), (9, 0), (9, 0)]) (st' := [(0, ((k : Nat) : Int)), (2, 69), (2, 24)]) (w' := w) (n' := 142) rfl ?_
  refine qG.call (t := 94) (na := 3) (sk := 1) (md := 1) (ls1 := [(2, 24), (2, 69), (0, ((k : Nat) : Int))]) (r1 := []) rfl rfl rfl rfl rfl (qG.and (T_findFor_69 (w0 := w) d [(2, 24), (2, 69), (0, ((k : Nat) : Int))] w (show C_findFor_69.2.1 ≤ d by exact Nat.le_trans (show C_findFor_69.2.1 ≤ 7 by decide) (by omega)) ⟨⟨rfl, by decide, by decide⟩, ⟨rfl, by decide, by decide⟩, ⟨rfl, by show (1 : Int) ≤ _; omega, by show _ ≤ (4 : Int); omega⟩, trivial⟩ hI (fun p hp => by cases hp) (fun e he => by cases he)) (K_findForC69 (by omega) k hk1 hk2 n w hI hJ)) ?_
  rintro _ wF _ ⟨⟨-, hIF, -, -, -⟩, rfl, rfl, hF⟩
  show qG none (d + 1) 35 9 [(2, 23), (2, 69), (2, 87), (0, ((k : Nat) : Int)), (9, 0), (9, 0), (9, 0)] [] wF 142 Q9
  subst hQ9
  obtain ⟨f0, f1, f2, hTX, hfr⟩ := hF
  have eF : ∀ q j, q ≠ 24 → q ≠ 25 → q ≠ 26 → wF q j = w q j := fun q j a b e => hfr q j (fun z => a z.1) b e
  have e1 : wF 88 = w 88 := funext fun j => eF _ j (by decide) (by decide) (by decide)
  have e2 : wF 89 = w 89 := funext fun j => eF _ j (by decide) (by decide) (by decide)
  have e3 : wF 90 = w 90 := funext fun j => eF _ j (by decide) (by decide) (by decide)
  obtain ⟨z1, z2, z3⟩ := pz_cg (w := w) (w1 := wF) (fun i => eF 96 i (by decide) (by decide) (by decide)) (fun i => eF 99 i (by decide) (by decide) (by decide)) 1 k
  refine qG.mono (K_flwB87 (by omega) (pzN w 1 k) (pzP w 1 k) (pzM w 1 k) V L hL wF hIF ((eF 87 2 (by decide) (by decide) (by decide)).trans hs) (by rw [e1, e2]; exact hKW) (by have z := hTX.ctb hk1 hk2; rw [z1, z2, z3] at z; exact z) (by rw [e1, e2, e3]; exact hVV) _ _) ?_
  rintro r w1 n1 ⟨h1, h2, h3, h4, h5⟩
  rw [e1, e2] at h5
  exact ⟨h1, h2, h3, fun q j a b c9 => (h4 q j a b).trans (eF q j (by omega) (by omega) (by omega)), h5⟩
theorem K_hideB87_69 {d : Nat} (hd : 9 ≤ d) (k9 : Nat) (hk9 : k9 < 4) (k : Nat) (hk1 : 1 ≤ k) (hk2 : k ≤ 4) (v : Int) (L : Nat) (hL : L ≤ 40) (n : Nat) (w : qW) (hI : yInv zgf zga zra zSp w) (hJ : J9 n w) (h3 : w 3 k9 = 87) (hs : w 87 2 = (L : Int)) (hKN : KNr (w 88) (w 89) L) (hKW : KNw (w 88) (w 89) L) (hK : w 69 0 = w 96 1) (hE : JE w) : qG none d 174 23 [(2, 1), (0, 1), (0, ((k9 : Nat) : Int)), (0, ((k : Nat) : Int)), (0, v)] [] w 142 (fun (r : qV) (_ : qW) (_ : Nat) => ∃ fl cn, r = (0, hoV fl cn v) ∧ HSP (pzN w 1 k) (pzP w 1 k) (pzM w 1 k) (fun t => siF w 1 (w 88) (w 89) L t) (scF (w 88) (w 89) L) fl cn) := by
  generalize hQ9 : (fun (r : qV) (_ : qW) (_ : Nat) => ∃ fl cn, r = (0, hoV fl cn v) ∧ HSP (pzN w 1 k) (pzP w 1 k) (pzM w 1 k) (fun t => siF w 1 (w 88) (w 89) L t) (scF (w 88) (w 89) L) fl cn) = Q9
  obtain ⟨d, rfl⟩ : ∃ d9, d = d9 + 1 := ⟨d - 1, by omega⟩
  refine qG.blk 2 (pc' := 27) (ls' := [(2, 1), (0, 1), (0, ((k9 : Nat) : Int)), (0, ((k : Nat) : Int)), (0, v)]) (st' := [(2, w 1 1)]) (w' := w) (n' := 142) rfl ?_
  rw [show w 1 1 = 3 from zref hI rfl rfl]
  refine qG.blk 1 (pc' := 28) (ls' := [(2, 1), (0, 1), (0, ((k9 : Nat) : Int)), (0, ((k : Nat) : Int)), (0, v)]) (st' := [(0, ((k9 : Nat) : Int)), (2, 3)]) (w' := w) (n' := 142) rfl ?_
  refine qG.ar (P := 0 ≤ ((k9 : Nat) : Int) ∧ ((k9 : Nat) : Int) < ((4 : Nat) : Int)) (P2 := 0 < (3 : Int) ∧ (3 : Int) ≤ ((142 : Nat) : Int)) (pc' := 29) (ls' := [(2, 1), (0, 1), (0, ((k9 : Nat) : Int)), (0, ((k : Nat) : Int)), (0, v)]) (st' := [(2, w 3 k9)]) (w' := w) (n' := 142) rfl (by omega) (by decide) ?_
  rw [show w 3 k9 = 87 from h3]
  refine qG.blk 2 (pc' := 33) (ls' := [(2, 1), (0, 1), (0, ((k9 : Nat) : Int)), (0, ((k : Nat) : Int)), (0, v)]) (st' := [(2, w 1 0), (2, 87)]) (w' := w) (n' := 142) rfl ?_
  rw [show w 1 0 = 2 from zref hI rfl rfl]
  refine qG.blk 1 (pc' := 34) (ls' := [(2, 1), (0, 1), (0, ((k9 : Nat) : Int)), (0, ((k : Nat) : Int)), (0, v)]) (st' := [(0, 1), (2, 2), (2, 87)]) (w' := w) (n' := 142) rfl ?_
  refine qG.ar (P := 0 ≤ 1 ∧ 1 < ((3 : Nat) : Int)) (P2 := 0 < (2 : Int) ∧ (2 : Int) ≤ ((142 : Nat) : Int)) (pc' := 35) (ls' := [(2, 1), (0, 1), (0, ((k9 : Nat) : Int)), (0, ((k : Nat) : Int)), (0, v)]) (st' := [(2, w 2 1), (2, 87)]) (w' := w) (n' := 142) rfl (by omega) (by decide) ?_
  rw [show w 2 1 = 69 from zref hI rfl rfl]
  refine qG.call (t := 111) (na := 2) (sk := 1) (md := 1) (ls1 := [(2, 87), (2, 69), (9, 0)]) (r1 := []) rfl rfl rfl rfl rfl (K_perf87_69 (by omega) L hL w hI hs hKN hK hE) ?_
  rintro _ w1 _ ⟨rfl, rfl, hI1, hC⟩
  have hJ1 := J9.chp (show SHOWP 87 by unfold SHOWP; omega) hJ hC
  obtain ⟨e1, e2, e3, hfr⟩ := hC.row (by unfold SHOWP; omega)
  have hCe := hC.2.2.2.2.2.2.2
  have cv := hC.2.2.2.2.2.2.1
  show qG none (d + 1) 174 38 [(2, 1), (0, 1), (0, ((k9 : Nat) : Int)), (0, ((k : Nat) : Int)), (0, v)] [] w1 142 Q9
  refine qG.blk 2 (pc' := 42) (ls' := [(2, 1), (0, 1), (0, ((k9 : Nat) : Int)), (0, ((k : Nat) : Int)), (0, v)]) (st' := [(2, w1 1 5)]) (w' := w1) (n' := 142) rfl ?_
  rw [show w1 1 5 = 23 from (hfr 1 5 (by omega)).trans (zref hI rfl rfl)]
  refine qG.blk 2 (pc' := 46) (ls' := [(2, 1), (0, 1), (0, ((k9 : Nat) : Int)), (0, ((k : Nat) : Int)), (0, v)]) (st' := [(2, w1 1 0), (2, 23)]) (w' := w1) (n' := 142) rfl ?_
  rw [show w1 1 0 = 2 from (hfr 1 0 (by omega)).trans (zref hI rfl rfl)]
  refine qG.blk 1 (pc' := 47) (ls' := [(2, 1), (0, 1), (0, ((k9 : Nat) : Int)), (0, ((k : Nat) : Int)), (0, v)]) (st' := [(0, 1), (2, 2), (2, 23)]) (w' := w1) (n' := 142) rfl ?_
  refine qG.ar (P := 0 ≤ 1 ∧ 1 < ((3 : Nat) : Int)) (P2 := 0 < (2 : Int) ∧ (2 : Int) ≤ ((142 : Nat) : Int)) (pc' := 48) (ls' := [(2, 1), (0, 1), (0, ((k9 : Nat) : Int)), (0, ((k : Nat) : Int)), (0, v)]) (st' := [(2, w1 2 1), (2, 23)]) (w' := w1) (n' := 142) rfl (by omega) (by decide) ?_
  rw [show w1 2 1 = 69 from (hfr 2 1 (by omega)).trans (zref hI rfl rfl)]
  refine qG.blk 2 (pc' := 52) (ls' := [(2, 1), (0, 1), (0, ((k9 : Nat) : Int)), (0, ((k : Nat) : Int)), (0, v)]) (st' := [(2, w1 1 1), (2, 69), (2, 23)]) (w' := w1) (n' := 142) rfl ?_
  rw [show w1 1 1 = 3 from (hfr 1 1 (by omega)).trans (zref hI rfl rfl)]
  refine qG.blk 1 (pc' := 53) (ls' := [(2, 1), (0, 1), (0, ((k9 : Nat) : Int)), (0, ((k : Nat) : Int)), (0, v)]) (st' := [(0, ((k9 : Nat) : Int)), (2, 3), (2, 69), (2, 23)]) (w' := w1) (n' := 142) rfl ?_
  refine qG.ar (P := 0 ≤ ((k9 : Nat) : Int) ∧ ((k9 : Nat) : Int) < ((4 : Nat) : Int)) (P2 := 0 < (3 : Int) ∧ (3 : Int) ≤ ((142 : Nat) : Int)) (pc' := 54) (ls' := [(2, 1), (0, 1), (0, ((k9 : Nat) : Int)), (0, ((k : Nat) : Int)), (0, v)]) (st' := [(2, w1 3 k9), (2, 69), (2, 23)]) (w' := w1) (n' := 142) rfl (by omega) (by decide) ?_
  rw [show w1 3 k9 = 87 from (hfr 3 k9 (by omega)).trans h3]
  refine qG.blk 1 (pc' := 55) (ls' := [(2, 1), (0, 1), (0, ((k9 : Nat) : Int)), (0, ((k : Nat) : Int)), (0, v)]) (st' := [(0, ((k : Nat) : Int)), (2, 87), (2, 69), (2, 23)]) (w' := w1) (n' := 142) rfl ?_
  refine qG.call (t := 35) (na := 4) (sk := 1) (md := 1) (ls1 := [(2, 23), (2, 69), (2, 87), (0, ((k : Nat) : Int)), (9, 0), (9, 0), (9, 0)]) (r1 := []) rfl rfl rfl rfl rfl (K_flw69_87 (by omega) k hk1 hk2 (fun t => siF w 1 (w 88) (w 89) L t) L hL n w1 hI1 hJ1 (e3.trans hs) (by rw [e1, e2]; exact hKW) (by rw [e1, e2]; exact fun g hg u hu => (siF_vw hg hu).trans (cv g hg).symm)) ?_
  rintro _ w2 _ ⟨rfl, rfl, hI2, h2f, h2s⟩
  rw [e1, e2] at h2s
  obtain ⟨z1, z2, z3⟩ := pz_cg (w := w) (w1 := w1) (fun i => hCe 96 i (by decide) (by omega)) (fun i => hCe 99 i (by decide) (by omega)) 1 k
  rw [z1, z2, z3] at h2s
  show qG none (d + 1) 174 58 [(2, 1), (0, 1), (0, ((k9 : Nat) : Int)), (0, ((k : Nat) : Int)), (0, v)] [] w2 142 Q9
  refine qG.blk 2 (pc' := 62) (ls' := [(2, 1), (0, 1), (0, ((k9 : Nat) : Int)), (0, ((k : Nat) : Int)), (0, v)]) (st' := [(2, w2 1 5)]) (w' := w2) (n' := 142) rfl ?_
  rw [show w2 1 5 = 23 from zref hI2 rfl rfl]
  refine qG.blk 1 (pc' := 64) (ls' := [(2, 1), (0, 1), (0, ((k9 : Nat) : Int)), (0, ((k : Nat) : Int)), (0, v)]) (st' := [(0, v), (2, 23)]) (w' := w2) (n' := 142) rfl ?_
  refine qG.call (t := 37) (na := 2) (sk := 1) (md := 1) (ls1 := [(2, 23), (0, v)]) (r1 := []) rfl rfl rfl rfl rfl (K_outc (Nat.zero_le _) v w2) ?_
  rintro _ w7 _ ⟨rfl, hw7, rfl⟩
  rw [hw7]
  show qG none (d + 1) 174 67 [(2, 1), (0, 1), (0, ((k9 : Nat) : Int)), (0, ((k : Nat) : Int)), (0, v)] [(0, hoV (w2 23 4) (w2 23 5) v)] w2 142 Q9
  refine qG.ret rfl rfl ?_
  subst hQ9
  exact ⟨_, _, rfl, h2s⟩
theorem K_flw74_87 {d : Nat} (hd : 8 ≤ d) (k : Nat) (hk1 : 1 ≤ k) (hk2 : k ≤ 4) (V : Nat → Int) (L : Nat) (hL : L ≤ 40) (n : Nat) (w : qW) (hI : yInv zgf zga zra zSp w) (hJ : J9 n w) (hs : w 87 2 = (L : Int)) (hKW : KNw (w 88) (w 89) L) (hVV : ∀ g, g < L → ∀ u, u < dN (w 88 g) (w 89 g) → V (scF (w 88) (w 89) g + u) = w 90 g) : qG none d 35 0 [(2, 23), (2, 74), (2, 87), (0, ((k : Nat) : Int)), (9, 0), (9, 0), (9, 0)] [] w 142 (fun (r : qV) (w1 : qW) (n1 : Nat) => r = (9, 0) ∧ n1 = 142 ∧ yInv zgf zga zra zSp w1 ∧ (∀ q j, ¬ (27 ≤ q ∧ q ≤ 29) → ¬ (q = 23 ∧ 4 ≤ j ∧ j ≤ 5) → ¬ (24 ≤ q ∧ q ≤ 26) → w1 q j = w q j) ∧ HSP (pzN w 2 k) (pzP w 2 k) (pzM w 2 k) V (scF (w 88) (w 89) L) (w1 23 4) (w1 23 5)) := by
  generalize hQ9 : (fun (r : qV) (w1 : qW) (n1 : Nat) => r = (9, 0) ∧ n1 = 142 ∧ yInv zgf zga zra zSp w1 ∧ (∀ q j, ¬ (27 ≤ q ∧ q ≤ 29) → ¬ (q = 23 ∧ 4 ≤ j ∧ j ≤ 5) → ¬ (24 ≤ q ∧ q ≤ 26) → w1 q j = w q j) ∧ HSP (pzN w 2 k) (pzP w 2 k) (pzM w 2 k) V (scF (w 88) (w 89) L) (w1 23 4) (w1 23 5)) = Q9
  obtain ⟨d, rfl⟩ : ∃ d9, d = d9 + 1 := ⟨d - 1, by omega⟩
  refine qG.blk 2 (pc' := 4) (ls' := [(2, 23), (2, 74), (2, 87), (0, ((k : Nat) : Int)), (9, 0), (9, 0), (9, 0)]) (st' := [(2, w 23 0)]) (w' := w) (n' := 142) rfl ?_
  rw [show w 23 0 = 24 from zref hI rfl rfl]
  refine qG.blk 2 (pc' := 6) (ls' := [(2, 23), (2, 74), (2, 87), (0, ((k : Nat) : Int)), (9, 0), (9, 0), (9, 0)]) (st' := [(0, ((k : Nat) : Int)), (2, 74), (2, 24)]) (w' := w) (n' := 142) rfl ?_
  refine qG.call (t := 94) (na := 3) (sk := 1) (md := 1) (ls1 := [(2, 24), (2, 74), (0, ((k : Nat) : Int))]) (r1 := []) rfl rfl rfl rfl rfl (qG.and (T_findFor_74 (w0 := w) d [(2, 24), (2, 74), (0, ((k : Nat) : Int))] w (show C_findFor_74.2.1 ≤ d by exact Nat.le_trans (show C_findFor_74.2.1 ≤ 7 by decide) (by omega)) ⟨⟨rfl, by decide, by decide⟩, ⟨rfl, by decide, by decide⟩, ⟨rfl, by show (1 : Int) ≤ _; omega, by show _ ≤ (4 : Int); omega⟩, trivial⟩ hI (fun p hp => by cases hp) (fun e he => by cases he)) (K_findForC74 (by omega) k hk1 hk2 n w hI hJ)) ?_
  rintro _ wF _ ⟨⟨-, hIF, -, -, -⟩, rfl, rfl, hF⟩
  show qG none (d + 1) 35 9 [(2, 23), (2, 74), (2, 87), (0, ((k : Nat) : Int)), (9, 0), (9, 0), (9, 0)] [] wF 142 Q9
  subst hQ9
  obtain ⟨f0, f1, f2, hTX, hfr⟩ := hF
  have eF : ∀ q j, q ≠ 24 → q ≠ 25 → q ≠ 26 → wF q j = w q j := fun q j a b e => hfr q j (fun z => a z.1) b e
  have e1 : wF 88 = w 88 := funext fun j => eF _ j (by decide) (by decide) (by decide)
  have e2 : wF 89 = w 89 := funext fun j => eF _ j (by decide) (by decide) (by decide)
  have e3 : wF 90 = w 90 := funext fun j => eF _ j (by decide) (by decide) (by decide)
  obtain ⟨z1, z2, z3⟩ := pz_cg (w := w) (w1 := wF) (fun i => eF 96 i (by decide) (by decide) (by decide)) (fun i => eF 99 i (by decide) (by decide) (by decide)) 2 k
  refine qG.mono (K_flwB87 (by omega) (pzN w 2 k) (pzP w 2 k) (pzM w 2 k) V L hL wF hIF ((eF 87 2 (by decide) (by decide) (by decide)).trans hs) (by rw [e1, e2]; exact hKW) (by have z := hTX.ctb hk1 hk2; rw [z1, z2, z3] at z; exact z) (by rw [e1, e2, e3]; exact hVV) _ _) ?_
  rintro r w1 n1 ⟨h1, h2, h3, h4, h5⟩
  rw [e1, e2] at h5
  exact ⟨h1, h2, h3, fun q j a b c9 => (h4 q j a b).trans (eF q j (by omega) (by omega) (by omega)), h5⟩
theorem K_hideB87_74 {d : Nat} (hd : 9 ≤ d) (k9 : Nat) (hk9 : k9 < 4) (k : Nat) (hk1 : 1 ≤ k) (hk2 : k ≤ 4) (v : Int) (L : Nat) (hL : L ≤ 40) (n : Nat) (w : qW) (hI : yInv zgf zga zra zSp w) (hJ : J9 n w) (h3 : w 3 k9 = 87) (hs : w 87 2 = (L : Int)) (hKN : KNr (w 88) (w 89) L) (hKW : KNw (w 88) (w 89) L) (hK : w 74 0 = w 96 2) (hE : JE w) : qG none d 174 23 [(2, 1), (0, 2), (0, ((k9 : Nat) : Int)), (0, ((k : Nat) : Int)), (0, v)] [] w 142 (fun (r : qV) (_ : qW) (_ : Nat) => ∃ fl cn, r = (0, hoV fl cn v) ∧ HSP (pzN w 2 k) (pzP w 2 k) (pzM w 2 k) (fun t => siF w 2 (w 88) (w 89) L t) (scF (w 88) (w 89) L) fl cn) := by
  generalize hQ9 : (fun (r : qV) (_ : qW) (_ : Nat) => ∃ fl cn, r = (0, hoV fl cn v) ∧ HSP (pzN w 2 k) (pzP w 2 k) (pzM w 2 k) (fun t => siF w 2 (w 88) (w 89) L t) (scF (w 88) (w 89) L) fl cn) = Q9
  obtain ⟨d, rfl⟩ : ∃ d9, d = d9 + 1 := ⟨d - 1, by omega⟩
  refine qG.blk 2 (pc' := 27) (ls' := [(2, 1), (0, 2), (0, ((k9 : Nat) : Int)), (0, ((k : Nat) : Int)), (0, v)]) (st' := [(2, w 1 1)]) (w' := w) (n' := 142) rfl ?_
  rw [show w 1 1 = 3 from zref hI rfl rfl]
  refine qG.blk 1 (pc' := 28) (ls' := [(2, 1), (0, 2), (0, ((k9 : Nat) : Int)), (0, ((k : Nat) : Int)), (0, v)]) (st' := [(0, ((k9 : Nat) : Int)), (2, 3)]) (w' := w) (n' := 142) rfl ?_
  refine qG.ar (P := 0 ≤ ((k9 : Nat) : Int) ∧ ((k9 : Nat) : Int) < ((4 : Nat) : Int)) (P2 := 0 < (3 : Int) ∧ (3 : Int) ≤ ((142 : Nat) : Int)) (pc' := 29) (ls' := [(2, 1), (0, 2), (0, ((k9 : Nat) : Int)), (0, ((k : Nat) : Int)), (0, v)]) (st' := [(2, w 3 k9)]) (w' := w) (n' := 142) rfl (by omega) (by decide) ?_
  rw [show w 3 k9 = 87 from h3]
  refine qG.blk 2 (pc' := 33) (ls' := [(2, 1), (0, 2), (0, ((k9 : Nat) : Int)), (0, ((k : Nat) : Int)), (0, v)]) (st' := [(2, w 1 0), (2, 87)]) (w' := w) (n' := 142) rfl ?_
  rw [show w 1 0 = 2 from zref hI rfl rfl]
  refine qG.blk 1 (pc' := 34) (ls' := [(2, 1), (0, 2), (0, ((k9 : Nat) : Int)), (0, ((k : Nat) : Int)), (0, v)]) (st' := [(0, 2), (2, 2), (2, 87)]) (w' := w) (n' := 142) rfl ?_
  refine qG.ar (P := 0 ≤ 2 ∧ 2 < ((3 : Nat) : Int)) (P2 := 0 < (2 : Int) ∧ (2 : Int) ≤ ((142 : Nat) : Int)) (pc' := 35) (ls' := [(2, 1), (0, 2), (0, ((k9 : Nat) : Int)), (0, ((k : Nat) : Int)), (0, v)]) (st' := [(2, w 2 2), (2, 87)]) (w' := w) (n' := 142) rfl (by omega) (by decide) ?_
  rw [show w 2 2 = 74 from zref hI rfl rfl]
  refine qG.call (t := 111) (na := 2) (sk := 1) (md := 1) (ls1 := [(2, 87), (2, 74), (9, 0)]) (r1 := []) rfl rfl rfl rfl rfl (K_perf87_74 (by omega) L hL w hI hs hKN hK hE) ?_
  rintro _ w1 _ ⟨rfl, rfl, hI1, hC⟩
  have hJ1 := J9.chp (show SHOWP 87 by unfold SHOWP; omega) hJ hC
  obtain ⟨e1, e2, e3, hfr⟩ := hC.row (by unfold SHOWP; omega)
  have hCe := hC.2.2.2.2.2.2.2
  have cv := hC.2.2.2.2.2.2.1
  show qG none (d + 1) 174 38 [(2, 1), (0, 2), (0, ((k9 : Nat) : Int)), (0, ((k : Nat) : Int)), (0, v)] [] w1 142 Q9
  refine qG.blk 2 (pc' := 42) (ls' := [(2, 1), (0, 2), (0, ((k9 : Nat) : Int)), (0, ((k : Nat) : Int)), (0, v)]) (st' := [(2, w1 1 5)]) (w' := w1) (n' := 142) rfl ?_
  rw [show w1 1 5 = 23 from (hfr 1 5 (by omega)).trans (zref hI rfl rfl)]
  refine qG.blk 2 (pc' := 46) (ls' := [(2, 1), (0, 2), (0, ((k9 : Nat) : Int)), (0, ((k : Nat) : Int)), (0, v)]) (st' := [(2, w1 1 0), (2, 23)]) (w' := w1) (n' := 142) rfl ?_
  rw [show w1 1 0 = 2 from (hfr 1 0 (by omega)).trans (zref hI rfl rfl)]
  refine qG.blk 1 (pc' := 47) (ls' := [(2, 1), (0, 2), (0, ((k9 : Nat) : Int)), (0, ((k : Nat) : Int)), (0, v)]) (st' := [(0, 2), (2, 2), (2, 23)]) (w' := w1) (n' := 142) rfl ?_
  refine qG.ar (P := 0 ≤ 2 ∧ 2 < ((3 : Nat) : Int)) (P2 := 0 < (2 : Int) ∧ (2 : Int) ≤ ((142 : Nat) : Int)) (pc' := 48) (ls' := [(2, 1), (0, 2), (0, ((k9 : Nat) : Int)), (0, ((k : Nat) : Int)), (0, v)]) (st' := [(2, w1 2 2), (2, 23)]) (w' := w1) (n' := 142) rfl (by omega) (by decide) ?_
  rw [show w1 2 2 = 74 from (hfr 2 2 (by omega)).trans (zref hI rfl rfl)]
  refine qG.blk 2 (pc' := 52) (ls' := [(2, 1), (0, 2), (0, ((k9 : Nat) : Int)), (0, ((k : Nat) : Int)), (0, v)]) (st' := [(2, w1 1 1), (2, 74), (2, 23)]) (w' := w1) (n' := 142) rfl ?_
  rw [show w1 1 1 = 3 from (hfr 1 1 (by omega)).trans (zref hI rfl rfl)]
  refine qG.blk 1 (pc' := 53) (ls' := [(2, 1), (0, 2), (0, ((k9 : Nat) : Int)), (0, ((k : Nat) : Int)), (0, v)]) (st' := [(0, ((k9 : Nat) : Int)), (2, 3), (2, 74), (2, 23)]) (w' := w1) (n' := 142) rfl ?_
  refine qG.ar (P := 0 ≤ ((k9 : Nat) : Int) ∧ ((k9 : Nat) : Int) < ((4 : Nat) : Int)) (P2 := 0 < (3 : Int) ∧ (3 : Int) ≤ ((142 : Nat) : Int)) (pc' := 54) (ls' := [(2, 1), (0, 2), (0, ((k9 : Nat) : Int)), (0, ((k : Nat) : Int)), (0, v)]) (st' := [(2, w1 3 k9), (2, 74), (2, 23)]) (w' := w1) (n' := 142) rfl (by omega) (by decide) ?_
  rw [show w1 3 k9 = 87 from (hfr 3 k9 (by omega)).trans h3]
  refine qG.blk 1 (pc' := 55) (ls' := [(2, 1), (0, 2), (0, ((k9 : Nat) : Int)), (0, ((k : Nat) : Int)), (0, v)]) (st' := [(0, ((k : Nat) : Int)), (2, 87), (2, 74), (2, 23)]) (w' := w1) (n' := 142) rfl ?_
  refine qG.call (t := 35) (na := 4) (sk := 1) (md := 1) (ls1 := [(2, 23), (2, 74), (2, 87), (0, ((k : Nat) : Int)), (9, 0), (9, 0), (9, 0)]) (r1 := []) rfl rfl rfl rfl rfl (K_flw74_87 (by omega) k hk1 hk2 (fun t => siF w 2 (w 88) (w 89) L t) L hL n w1 hI1 hJ1 (e3.trans hs) (by rw [e1, e2]; exact hKW) (by rw [e1, e2]; exact fun g hg u hu => (siF_vw hg hu).trans (cv g hg).symm)) ?_
  rintro _ w2 _ ⟨rfl, rfl, hI2, h2f, h2s⟩
  rw [e1, e2] at h2s
  obtain ⟨z1, z2, z3⟩ := pz_cg (w := w) (w1 := w1) (fun i => hCe 96 i (by decide) (by omega)) (fun i => hCe 99 i (by decide) (by omega)) 2 k
  rw [z1, z2, z3] at h2s
  show qG none (d + 1) 174 58 [(2, 1), (0, 2), (0, ((k9 : Nat) : Int)), (0, ((k : Nat) : Int)), (0, v)] [] w2 142 Q9
  refine qG.blk 2 (pc' := 62) (ls' := [(2, 1), (0, 2), (0, ((k9 : Nat) : Int)), (0, ((k : Nat) : Int)), (0, v)]) (st' := [(2, w2 1 5)]) (w' := w2) (n' := 142) rfl ?_
  rw [show w2 1 5 = 23 from zref hI2 rfl rfl]
  refine qG.blk 1 (pc' := 64) (ls' := [(2, 1), (0, 2), (0, ((k9 : Nat) : Int)), (0, ((k : Nat) : Int)), (0, v)]) (st' := [(0, v), (2, 23)]) (w' := w2) (n' := 142) rfl ?_
  refine qG.call (t := 37) (na := 2) (sk := 1) (md := 1) (ls1 := [(2, 23), (0, v)]) (r1 := []) rfl rfl rfl rfl rfl (K_outc (Nat.zero_le _) v w2) ?_
  rintro _ w7 _ ⟨rfl, hw7, rfl⟩
  rw [hw7]
  show qG none (d + 1) 174 67 [(2, 1), (0, 2), (0, ((k9 : Nat) : Int)), (0, ((k : Nat) : Int)), (0, v)] [(0, hoV (w2 23 4) (w2 23 5) v)] w2 142 Q9
  refine qG.ret rfl rfl ?_
  subst hQ9
  exact ⟨_, _, rfl, h2s⟩
theorem K_flw64_91 {d : Nat} (hd : 8 ≤ d) (k : Nat) (hk1 : 1 ≤ k) (hk2 : k ≤ 4) (V : Nat → Int) (L : Nat) (hL : L ≤ 40) (n : Nat) (w : qW) (hI : yInv zgf zga zra zSp w) (hJ : J9 n w) (hs : w 91 2 = (L : Int)) (hKW : KNw (w 92) (w 93) L) (hVV : ∀ g, g < L → ∀ u, u < dN (w 92 g) (w 93 g) → V (scF (w 92) (w 93) g + u) = w 94 g) : qG none d 35 0 [(2, 23), (2, 64), (2, 91), (0, ((k : Nat) : Int)), (9, 0), (9, 0), (9, 0)] [] w 142 (fun (r : qV) (w1 : qW) (n1 : Nat) => r = (9, 0) ∧ n1 = 142 ∧ yInv zgf zga zra zSp w1 ∧ (∀ q j, ¬ (27 ≤ q ∧ q ≤ 29) → ¬ (q = 23 ∧ 4 ≤ j ∧ j ≤ 5) → ¬ (24 ≤ q ∧ q ≤ 26) → w1 q j = w q j) ∧ HSP (pzN w 0 k) (pzP w 0 k) (pzM w 0 k) V (scF (w 92) (w 93) L) (w1 23 4) (w1 23 5)) := by
  generalize hQ9 : (fun (r : qV) (w1 : qW) (n1 : Nat) => r = (9, 0) ∧ n1 = 142 ∧ yInv zgf zga zra zSp w1 ∧ (∀ q j, ¬ (27 ≤ q ∧ q ≤ 29) → ¬ (q = 23 ∧ 4 ≤ j ∧ j ≤ 5) → ¬ (24 ≤ q ∧ q ≤ 26) → w1 q j = w q j) ∧ HSP (pzN w 0 k) (pzP w 0 k) (pzM w 0 k) V (scF (w 92) (w 93) L) (w1 23 4) (w1 23 5)) = Q9
  obtain ⟨d, rfl⟩ : ∃ d9, d = d9 + 1 := ⟨d - 1, by omega⟩
  refine qG.blk 2 (pc' := 4) (ls' := [(2, 23), (2, 64), (2, 91), (0, ((k : Nat) : Int)), (9, 0), (9, 0), (9, 0)]) (st' := [(2, w 23 0)]) (w' := w) (n' := 142) rfl ?_
  rw [show w 23 0 = 24 from zref hI rfl rfl]
  refine qG.blk 2 (pc' := 6) (ls' := [(2, 23), (2, 64), (2, 91), (0, ((k : Nat) : Int)), (9, 0), (9, 0), (9, 0)]) (st' := [(0, ((k : Nat) : Int)), (2, 64), (2, 24)]) (w' := w) (n' := 142) rfl ?_
  refine qG.call (t := 94) (na := 3) (sk := 1) (md := 1) (ls1 := [(2, 24), (2, 64), (0, ((k : Nat) : Int))]) (r1 := []) rfl rfl rfl rfl rfl (qG.and (T_findFor_64 (w0 := w) d [(2, 24), (2, 64), (0, ((k : Nat) : Int))] w (show C_findFor_64.2.1 ≤ d by exact Nat.le_trans (show C_findFor_64.2.1 ≤ 7 by decide) (by omega)) ⟨⟨rfl, by decide, by decide⟩, ⟨rfl, by decide, by decide⟩, ⟨rfl, by show (1 : Int) ≤ _; omega, by show _ ≤ (4 : Int); omega⟩, trivial⟩ hI (fun p hp => by cases hp) (fun e he => by cases he)) (K_findForC64 (by omega) k hk1 hk2 n w hI hJ)) ?_
  rintro _ wF _ ⟨⟨-, hIF, -, -, -⟩, rfl, rfl, hF⟩
  show qG none (d + 1) 35 9 [(2, 23), (2, 64), (2, 91), (0, ((k : Nat) : Int)), (9, 0), (9, 0), (9, 0)] [] wF 142 Q9
  subst hQ9
  obtain ⟨f0, f1, f2, hTX, hfr⟩ := hF
  have eF : ∀ q j, q ≠ 24 → q ≠ 25 → q ≠ 26 → wF q j = w q j := fun q j a b e => hfr q j (fun z => a z.1) b e
  have e1 : wF 92 = w 92 := funext fun j => eF _ j (by decide) (by decide) (by decide)
  have e2 : wF 93 = w 93 := funext fun j => eF _ j (by decide) (by decide) (by decide)
  have e3 : wF 94 = w 94 := funext fun j => eF _ j (by decide) (by decide) (by decide)
  obtain ⟨z1, z2, z3⟩ := pz_cg (w := w) (w1 := wF) (fun i => eF 96 i (by decide) (by decide) (by decide)) (fun i => eF 99 i (by decide) (by decide) (by decide)) 0 k
  refine qG.mono (K_flwB91 (by omega) (pzN w 0 k) (pzP w 0 k) (pzM w 0 k) V L hL wF hIF ((eF 91 2 (by decide) (by decide) (by decide)).trans hs) (by rw [e1, e2]; exact hKW) (by have z := hTX.ctb hk1 hk2; rw [z1, z2, z3] at z; exact z) (by rw [e1, e2, e3]; exact hVV) _ _) ?_
  rintro r w1 n1 ⟨h1, h2, h3, h4, h5⟩
  rw [e1, e2] at h5
  exact ⟨h1, h2, h3, fun q j a b c9 => (h4 q j a b).trans (eF q j (by omega) (by omega) (by omega)), h5⟩
theorem K_hideB91_64 {d : Nat} (hd : 9 ≤ d) (k9 : Nat) (hk9 : k9 < 4) (k : Nat) (hk1 : 1 ≤ k) (hk2 : k ≤ 4) (v : Int) (L : Nat) (hL : L ≤ 40) (n : Nat) (w : qW) (hI : yInv zgf zga zra zSp w) (hJ : J9 n w) (h3 : w 3 k9 = 91) (hs : w 91 2 = (L : Int)) (hKN : KNr (w 92) (w 93) L) (hKW : KNw (w 92) (w 93) L) (hK : w 64 0 = w 96 0) (hE : JE w) : qG none d 174 23 [(2, 1), (0, 0), (0, ((k9 : Nat) : Int)), (0, ((k : Nat) : Int)), (0, v)] [] w 142 (fun (r : qV) (_ : qW) (_ : Nat) => ∃ fl cn, r = (0, hoV fl cn v) ∧ HSP (pzN w 0 k) (pzP w 0 k) (pzM w 0 k) (fun t => siF w 0 (w 92) (w 93) L t) (scF (w 92) (w 93) L) fl cn) := by
  generalize hQ9 : (fun (r : qV) (_ : qW) (_ : Nat) => ∃ fl cn, r = (0, hoV fl cn v) ∧ HSP (pzN w 0 k) (pzP w 0 k) (pzM w 0 k) (fun t => siF w 0 (w 92) (w 93) L t) (scF (w 92) (w 93) L) fl cn) = Q9
  obtain ⟨d, rfl⟩ : ∃ d9, d = d9 + 1 := ⟨d - 1, by omega⟩
  refine qG.blk 2 (pc' := 27) (ls' := [(2, 1), (0, 0), (0, ((k9 : Nat) : Int)), (0, ((k : Nat) : Int)), (0, v)]) (st' := [(2, w 1 1)]) (w' := w) (n' := 142) rfl ?_
  rw [show w 1 1 = 3 from zref hI rfl rfl]
  refine qG.blk 1 (pc' := 28) (ls' := [(2, 1), (0, 0), (0, ((k9 : Nat) : Int)), (0, ((k : Nat) : Int)), (0, v)]) (st' := [(0, ((k9 : Nat) : Int)), (2, 3)]) (w' := w) (n' := 142) rfl ?_
  refine qG.ar (P := 0 ≤ ((k9 : Nat) : Int) ∧ ((k9 : Nat) : Int) < ((4 : Nat) : Int)) (P2 := 0 < (3 : Int) ∧ (3 : Int) ≤ ((142 : Nat) : Int)) (pc' := 29) (ls' := [(2, 1), (0, 0), (0, ((k9 : Nat) : Int)), (0, ((k : Nat) : Int)), (0, v)]) (st' := [(2, w 3 k9)]) (w' := w) (n' := 142) rfl (by omega) (by decide) ?_
  rw [show w 3 k9 = 91 from h3]
  refine qG.blk 2 (pc' := 33) (ls' := [(2, 1), (0, 0), (0, ((k9 : Nat) : Int)), (0, ((k : Nat) : Int)), (0, v)]) (st' := [(2, w 1 0), (2, 91)]) (w' := w) (n' := 142) rfl ?_
  rw [show w 1 0 = 2 from zref hI rfl rfl]
  refine qG.blk 1 (pc' := 34) (ls' := [(2, 1), (0, 0), (0, ((k9 : Nat) : Int)), (0, ((k : Nat) : Int)), (0, v)]) (st' := [(0, 0), (2, 2), (2, 91)]) (w' := w) (n' := 142) rfl ?_
  refine qG.ar (P := 0 ≤ 0 ∧ 0 < ((3 : Nat) : Int)) (P2 := 0 < (2 : Int) ∧ (2 : Int) ≤ ((142 : Nat) : Int)) (pc' := 35) (ls' := [(2, 1), (0, 0), (0, ((k9 : Nat) : Int)), (0, ((k : Nat) : Int)), (0, v)]) (st' := [(2, w 2 0), (2, 91)]) (w' := w) (n' := 142) rfl (by omega) (by decide) ?_
  rw [show w 2 0 = 64 from zref hI rfl rfl]
  refine qG.call (t := 111) (na := 2) (sk := 1) (md := 1) (ls1 := [(2, 91), (2, 64), (9, 0)]) (r1 := []) rfl rfl rfl rfl rfl (K_perf91_64 (by omega) L hL w hI hs hKN hK hE) ?_
  rintro _ w1 _ ⟨rfl, rfl, hI1, hC⟩
  have hJ1 := J9.chp (show SHOWP 91 by unfold SHOWP; omega) hJ hC
  obtain ⟨e1, e2, e3, hfr⟩ := hC.row (by unfold SHOWP; omega)
  have hCe := hC.2.2.2.2.2.2.2
  have cv := hC.2.2.2.2.2.2.1
  show qG none (d + 1) 174 38 [(2, 1), (0, 0), (0, ((k9 : Nat) : Int)), (0, ((k : Nat) : Int)), (0, v)] [] w1 142 Q9
  refine qG.blk 2 (pc' := 42) (ls' := [(2, 1), (0, 0), (0, ((k9 : Nat) : Int)), (0, ((k : Nat) : Int)), (0, v)]) (st' := [(2, w1 1 5)]) (w' := w1) (n' := 142) rfl ?_
  rw [show w1 1 5 = 23 from (hfr 1 5 (by omega)).trans (zref hI rfl rfl)]
  refine qG.blk 2 (pc' := 46) (ls' := [(2, 1), (0, 0), (0, ((k9 : Nat) : Int)), (0, ((k : Nat) : Int)), (0, v)]) (st' := [(2, w1 1 0), (2, 23)]) (w' := w1) (n' := 142) rfl ?_
  rw [show w1 1 0 = 2 from (hfr 1 0 (by omega)).trans (zref hI rfl rfl)]
  refine qG.blk 1 (pc' := 47) (ls' := [(2, 1), (0, 0), (0, ((k9 : Nat) : Int)), (0, ((k : Nat) : Int)), (0, v)]) (st' := [(0, 0), (2, 2), (2, 23)]) (w' := w1) (n' := 142) rfl ?_
  refine qG.ar (P := 0 ≤ 0 ∧ 0 < ((3 : Nat) : Int)) (P2 := 0 < (2 : Int) ∧ (2 : Int) ≤ ((142 : Nat) : Int)) (pc' := 48) (ls' := [(2, 1), (0, 0), (0, ((k9 : Nat) : Int)), (0, ((k : Nat) : Int)), (0, v)]) (st' := [(2, w1 2 0), (2, 23)]) (w' := w1) (n' := 142) rfl (by omega) (by decide) ?_
  rw [show w1 2 0 = 64 from (hfr 2 0 (by omega)).trans (zref hI rfl rfl)]
  refine qG.blk 2 (pc' := 52) (ls' := [(2, 1), (0, 0), (0, ((k9 : Nat) : Int)), (0, ((k : Nat) : Int)), (0, v)]) (st' := [(2, w1 1 1), (2, 64), (2, 23)]) (w' := w1) (n' := 142) rfl ?_
  rw [show w1 1 1 = 3 from (hfr 1 1 (by omega)).trans (zref hI rfl rfl)]
  refine qG.blk 1 (pc' := 53) (ls' := [(2, 1), (0, 0), (0, ((k9 : Nat) : Int)), (0, ((k : Nat) : Int)), (0, v)]) (st' := [(0, ((k9 : Nat) : Int)), (2, 3), (2, 64), (2, 23)]) (w' := w1) (n' := 142) rfl ?_
  refine qG.ar (P := 0 ≤ ((k9 : Nat) : Int) ∧ ((k9 : Nat) : Int) < ((4 : Nat) : Int)) (P2 := 0 < (3 : Int) ∧ (3 : Int) ≤ ((142 : Nat) : Int)) (pc' := 54) (ls' := [(2, 1), (0, 0), (0, ((k9 : Nat) : Int)), (0, ((k : Nat) : Int)), (0, v)]) (st' := [(2, w1 3 k9), (2, 64), (2, 23)]) (w' := w1) (n' := 142) rfl (by omega) (by decide) ?_
  rw [show w1 3 k9 = 91 from (hfr 3 k9 (by omega)).trans h3]
  refine qG.blk 1 (pc' := 55) (ls' := [(2, 1), (0, 0), (0, ((k9 : Nat) : Int)), (0, ((k : Nat) : Int)), (0, v)]) (st' := [(0, ((k : Nat) : Int)), (2, 91), (2, 64), (2, 23)]) (w' := w1) (n' := 142) rfl ?_
  refine qG.call (t := 35) (na := 4) (sk := 1) (md := 1) (ls1 := [(2, 23), (2, 64), (2, 91), (0, ((k : Nat) : Int)), (9, 0), (9, 0), (9, 0)]) (r1 := []) rfl rfl rfl rfl rfl (K_flw64_91 (by omega) k hk1 hk2 (fun t => siF w 0 (w 92) (w 93) L t) L hL n w1 hI1 hJ1 (e3.trans hs) (by rw [e1, e2]; exact hKW) (by rw [e1, e2]; exact fun g hg u hu => (siF_vw hg hu).trans (cv g hg).symm)) ?_
  rintro _ w2 _ ⟨rfl, rfl, hI2, h2f, h2s⟩
  rw [e1, e2] at h2s
  obtain ⟨z1, z2, z3⟩ := pz_cg (w := w) (w1 := w1) (fun i => hCe 96 i (by decide) (by omega)) (fun i => hCe 99 i (by decide) (by omega)) 0 k
  rw [z1, z2, z3] at h2s
  show qG none (d + 1) 174 58 [(2, 1), (0, 0), (0, ((k9 : Nat) : Int)), (0, ((k : Nat) : Int)), (0, v)] [] w2 142 Q9
  refine qG.blk 2 (pc' := 62) (ls' := [(2, 1), (0, 0), (0, ((k9 : Nat) : Int)), (0, ((k : Nat) : Int)), (0, v)]) (st' := [(2, w2 1 5)]) (w' := w2) (n' := 142) rfl ?_
  rw [show w2 1 5 = 23 from zref hI2 rfl rfl]
  refine qG.blk 1 (pc' := 64) (ls' := [(2, 1), (0, 0), (0, ((k9 : Nat) : Int)), (0, ((k : Nat) : Int)), (0, v)]) (st' := [(0, v), (2, 23)]) (w' := w2) (n' := 142) rfl ?_
  refine qG.call (t := 37) (na := 2) (sk := 1) (md := 1) (ls1 := [(2, 23), (0, v)]) (r1 := []) rfl rfl rfl rfl rfl (K_outc (Nat.zero_le _) v w2) ?_
  rintro _ w7 _ ⟨rfl, hw7, rfl⟩
  rw [hw7]
  show qG none (d + 1) 174 67 [(2, 1), (0, 0), (0, ((k9 : Nat) : Int)), (0, ((k : Nat) : Int)), (0, v)] [(0, hoV (w2 23 4) (w2 23 5) v)] w2 142 Q9
  refine qG.ret rfl rfl ?_
  subst hQ9
  exact ⟨_, _, rfl, h2s⟩
theorem K_flw69_91 {d : Nat} (hd : 8 ≤ d) (k : Nat) (hk1 : 1 ≤ k) (hk2 : k ≤ 4) (V : Nat → Int) (L : Nat) (hL : L ≤ 40) (n : Nat) (w : qW) (hI : yInv zgf zga zra zSp w) (hJ : J9 n w) (hs : w 91 2 = (L : Int)) (hKW : KNw (w 92) (w 93) L) (hVV : ∀ g, g < L → ∀ u, u < dN (w 92 g) (w 93 g) → V (scF (w 92) (w 93) g + u) = w 94 g) : qG none d 35 0 [(2, 23), (2, 69), (2, 91), (0, ((k : Nat) : Int)), (9, 0), (9, 0), (9, 0)] [] w 142 (fun (r : qV) (w1 : qW) (n1 : Nat) => r = (9, 0) ∧ n1 = 142 ∧ yInv zgf zga zra zSp w1 ∧ (∀ q j, ¬ (27 ≤ q ∧ q ≤ 29) → ¬ (q = 23 ∧ 4 ≤ j ∧ j ≤ 5) → ¬ (24 ≤ q ∧ q ≤ 26) → w1 q j = w q j) ∧ HSP (pzN w 1 k) (pzP w 1 k) (pzM w 1 k) V (scF (w 92) (w 93) L) (w1 23 4) (w1 23 5)) := by
  generalize hQ9 : (fun (r : qV) (w1 : qW) (n1 : Nat) => r = (9, 0) ∧ n1 = 142 ∧ yInv zgf zga zra zSp w1 ∧ (∀ q j, ¬ (27 ≤ q ∧ q ≤ 29) → ¬ (q = 23 ∧ 4 ≤ j ∧ j ≤ 5) → ¬ (24 ≤ q ∧ q ≤ 26) → w1 q j = w q j) ∧ HSP (pzN w 1 k) (pzP w 1 k) (pzM w 1 k) V (scF (w 92) (w 93) L) (w1 23 4) (w1 23 5)) = Q9
  obtain ⟨d, rfl⟩ : ∃ d9, d = d9 + 1 := ⟨d - 1, by omega⟩
  refine qG.blk 2 (pc' := 4) (ls' := [(2, 23), (2, 69), (2, 91), (0, ((k : Nat) : Int)), (9, 0), (9, 0), (9, 0)]) (st' := [(2, w 23 0)]) (w' := w) (n' := 142) rfl ?_
  rw [show w 23 0 = 24 from zref hI rfl rfl]
  refine qG.blk 2 (pc' := 6) (ls' := [(2, 23), (2, 69), (2, 91), (0, ((k : Nat) : Int)), (9, 0), (9, 0), (9, 0)]) (st' := [(0, ((k : Nat) : Int)), (2, 69), (2, 24)]) (w' := w) (n' := 142) rfl ?_
  refine qG.call (t := 94) (na := 3) (sk := 1) (md := 1) (ls1 := [(2, 24), (2, 69), (0, ((k : Nat) : Int))]) (r1 := []) rfl rfl rfl rfl rfl (qG.and (T_findFor_69 (w0 := w) d [(2, 24), (2, 69), (0, ((k : Nat) : Int))] w (show C_findFor_69.2.1 ≤ d by exact Nat.le_trans (show C_findFor_69.2.1 ≤ 7 by decide) (by omega)) ⟨⟨rfl, by decide, by decide⟩, ⟨rfl, by decide, by decide⟩, ⟨rfl, by show (1 : Int) ≤ _; omega, by show _ ≤ (4 : Int); omega⟩, trivial⟩ hI (fun p hp => by cases hp) (fun e he => by cases he)) (K_findForC69 (by omega) k hk1 hk2 n w hI hJ)) ?_
  rintro _ wF _ ⟨⟨-, hIF, -, -, -⟩, rfl, rfl, hF⟩
  show qG none (d + 1) 35 9 [(2, 23), (2, 69), (2, 91), (0, ((k : Nat) : Int)), (9, 0), (9, 0), (9, 0)] [] wF 142 Q9
  subst hQ9
  obtain ⟨f0, f1, f2, hTX, hfr⟩ := hF
  have eF : ∀ q j, q ≠ 24 → q ≠ 25 → q ≠ 26 → wF q j = w q j := fun q j a b e => hfr q j (fun z => a z.1) b e
  have e1 : wF 92 = w 92 := funext fun j => eF _ j (by decide) (by decide) (by decide)
  have e2 : wF 93 = w 93 := funext fun j => eF _ j (by decide) (by decide) (by decide)
  have e3 : wF 94 = w 94 := funext fun j => eF _ j (by decide) (by decide) (by decide)
  obtain ⟨z1, z2, z3⟩ := pz_cg (w := w) (w1 := wF) (fun i => eF 96 i (by decide) (by decide) (by decide)) (fun i => eF 99 i (by decide) (by decide) (by decide)) 1 k
  refine qG.mono (K_flwB91 (by omega) (pzN w 1 k) (pzP w 1 k) (pzM w 1 k) V L hL wF hIF ((eF 91 2 (by decide) (by decide) (by decide)).trans hs) (by rw [e1, e2]; exact hKW) (by have z := hTX.ctb hk1 hk2; rw [z1, z2, z3] at z; exact z) (by rw [e1, e2, e3]; exact hVV) _ _) ?_
  rintro r w1 n1 ⟨h1, h2, h3, h4, h5⟩
  rw [e1, e2] at h5
  exact ⟨h1, h2, h3, fun q j a b c9 => (h4 q j a b).trans (eF q j (by omega) (by omega) (by omega)), h5⟩
theorem K_hideB91_69 {d : Nat} (hd : 9 ≤ d) (k9 : Nat) (hk9 : k9 < 4) (k : Nat) (hk1 : 1 ≤ k) (hk2 : k ≤ 4) (v : Int) (L : Nat) (hL : L ≤ 40) (n : Nat) (w : qW) (hI : yInv zgf zga zra zSp w) (hJ : J9 n w) (h3 : w 3 k9 = 91) (hs : w 91 2 = (L : Int)) (hKN : KNr (w 92) (w 93) L) (hKW : KNw (w 92) (w 93) L) (hK : w 69 0 = w 96 1) (hE : JE w) : qG none d 174 23 [(2, 1), (0, 1), (0, ((k9 : Nat) : Int)), (0, ((k : Nat) : Int)), (0, v)] [] w 142 (fun (r : qV) (_ : qW) (_ : Nat) => ∃ fl cn, r = (0, hoV fl cn v) ∧ HSP (pzN w 1 k) (pzP w 1 k) (pzM w 1 k) (fun t => siF w 1 (w 92) (w 93) L t) (scF (w 92) (w 93) L) fl cn) := by
  generalize hQ9 : (fun (r : qV) (_ : qW) (_ : Nat) => ∃ fl cn, r = (0, hoV fl cn v) ∧ HSP (pzN w 1 k) (pzP w 1 k) (pzM w 1 k) (fun t => siF w 1 (w 92) (w 93) L t) (scF (w 92) (w 93) L) fl cn) = Q9
  obtain ⟨d, rfl⟩ : ∃ d9, d = d9 + 1 := ⟨d - 1, by omega⟩
  refine qG.blk 2 (pc' := 27) (ls' := [(2, 1), (0, 1), (0, ((k9 : Nat) : Int)), (0, ((k : Nat) : Int)), (0, v)]) (st' := [(2, w 1 1)]) (w' := w) (n' := 142) rfl ?_
  rw [show w 1 1 = 3 from zref hI rfl rfl]
  refine qG.blk 1 (pc' := 28) (ls' := [(2, 1), (0, 1), (0, ((k9 : Nat) : Int)), (0, ((k : Nat) : Int)), (0, v)]) (st' := [(0, ((k9 : Nat) : Int)), (2, 3)]) (w' := w) (n' := 142) rfl ?_
  refine qG.ar (P := 0 ≤ ((k9 : Nat) : Int) ∧ ((k9 : Nat) : Int) < ((4 : Nat) : Int)) (P2 := 0 < (3 : Int) ∧ (3 : Int) ≤ ((142 : Nat) : Int)) (pc' := 29) (ls' := [(2, 1), (0, 1), (0, ((k9 : Nat) : Int)), (0, ((k : Nat) : Int)), (0, v)]) (st' := [(2, w 3 k9)]) (w' := w) (n' := 142) rfl (by omega) (by decide) ?_
  rw [show w 3 k9 = 91 from h3]
  refine qG.blk 2 (pc' := 33) (ls' := [(2, 1), (0, 1), (0, ((k9 : Nat) : Int)), (0, ((k : Nat) : Int)), (0, v)]) (st' := [(2, w 1 0), (2, 91)]) (w' := w) (n' := 142) rfl ?_
  rw [show w 1 0 = 2 from zref hI rfl rfl]
  refine qG.blk 1 (pc' := 34) (ls' := [(2, 1), (0, 1), (0, ((k9 : Nat) : Int)), (0, ((k : Nat) : Int)), (0, v)]) (st' := [(0, 1), (2, 2), (2, 91)]) (w' := w) (n' := 142) rfl ?_
  refine qG.ar (P := 0 ≤ 1 ∧ 1 < ((3 : Nat) : Int)) (P2 := 0 < (2 : Int) ∧ (2 : Int) ≤ ((142 : Nat) : Int)) (pc' := 35) (ls' := [(2, 1), (0, 1), (0, ((k9 : Nat) : Int)), (0, ((k : Nat) : Int)), (0, v)]) (st' := [(2, w 2 1), (2, 91)]) (w' := w) (n' := 142) rfl (by omega) (by decide) ?_
  rw [show w 2 1 = 69 from zref hI rfl rfl]
  refine qG.call (t := 111) (na := 2) (sk := 1) (md := 1) (ls1 := [(2, 91), (2, 69), (9, 0)]) (r1 := []) rfl rfl rfl rfl rfl (K_perf91_69 (by omega) L hL w hI hs hKN hK hE) ?_
  rintro _ w1 _ ⟨rfl, rfl, hI1, hC⟩
  have hJ1 := J9.chp (show SHOWP 91 by unfold SHOWP; omega) hJ hC
  obtain ⟨e1, e2, e3, hfr⟩ := hC.row (by unfold SHOWP; omega)
  have hCe := hC.2.2.2.2.2.2.2
  have cv := hC.2.2.2.2.2.2.1
  show qG none (d + 1) 174 38 [(2, 1), (0, 1), (0, ((k9 : Nat) : Int)), (0, ((k : Nat) : Int)), (0, v)] [] w1 142 Q9
  refine qG.blk 2 (pc' := 42) (ls' := [(2, 1), (0, 1), (0, ((k9 : Nat) : Int)), (0, ((k : Nat) : Int)), (0, v)]) (st' := [(2, w1 1 5)]) (w' := w1) (n' := 142) rfl ?_
  rw [show w1 1 5 = 23 from (hfr 1 5 (by omega)).trans (zref hI rfl rfl)]
  refine qG.blk 2 (pc' := 46) (ls' := [(2, 1), (0, 1), (0, ((k9 : Nat) : Int)), (0, ((k : Nat) : Int)), (0, v)]) (st' := [(2, w1 1 0), (2, 23)]) (w' := w1) (n' := 142) rfl ?_
  rw [show w1 1 0 = 2 from (hfr 1 0 (by omega)).trans (zref hI rfl rfl)]
  refine qG.blk 1 (pc' := 47) (ls' := [(2, 1), (0, 1), (0, ((k9 : Nat) : Int)), (0, ((k : Nat) : Int)), (0, v)]) (st' := [(0, 1), (2, 2), (2, 23)]) (w' := w1) (n' := 142) rfl ?_
  refine qG.ar (P := 0 ≤ 1 ∧ 1 < ((3 : Nat) : Int)) (P2 := 0 < (2 : Int) ∧ (2 : Int) ≤ ((142 : Nat) : Int)) (pc' := 48) (ls' := [(2, 1), (0, 1), (0, ((k9 : Nat) : Int)), (0, ((k : Nat) : Int)), (0, v)]) (st' := [(2, w1 2 1), (2, 23)]) (w' := w1) (n' := 142) rfl (by omega) (by decide) ?_
  rw [show w1 2 1 = 69 from (hfr 2 1 (by omega)).trans (zref hI rfl rfl)]
  refine qG.blk 2 (pc' := 52) (ls' := [(2, 1), (0, 1), (0, ((k9 : Nat) : Int)), (0, ((k : Nat) : Int)), (0, v)]) (st' := [(2, w1 1 1), (2, 69), (2, 23)]) (w' := w1) (n' := 142) rfl ?_
  rw [show w1 1 1 = 3 from (hfr 1 1 (by omega)).trans (zref hI rfl rfl)]
  refine qG.blk 1 (pc' := 53) (ls' := [(2, 1), (0, 1), (0, ((k9 : Nat) : Int)), (0, ((k : Nat) : Int)), (0, v)]) (st' := [(0, ((k9 : Nat) : Int)), (2, 3), (2, 69), (2, 23)]) (w' := w1) (n' := 142) rfl ?_
  refine qG.ar (P := 0 ≤ ((k9 : Nat) : Int) ∧ ((k9 : Nat) : Int) < ((4 : Nat) : Int)) (P2 := 0 < (3 : Int) ∧ (3 : Int) ≤ ((142 : Nat) : Int)) (pc' := 54) (ls' := [(2, 1), (0, 1), (0, ((k9 : Nat) : Int)), (0, ((k : Nat) : Int)), (0, v)]) (st' := [(2, w1 3 k9), (2, 69), (2, 23)]) (w' := w1) (n' := 142) rfl (by omega) (by decide) ?_
  rw [show w1 3 k9 = 91 from (hfr 3 k9 (by omega)).trans h3]
  refine qG.blk 1 (pc' := 55) (ls' := [(2, 1), (0, 1), (0, ((k9 : Nat) : Int)), (0, ((k : Nat) : Int)), (0, v)]) (st' := [(0, ((k : Nat) : Int)), (2, 91), (2, 69), (2, 23)]) (w' := w1) (n' := 142) rfl ?_
  refine qG.call (t := 35) (na := 4) (sk := 1) (md := 1) (ls1 := [(2, 23), (2, 69), (2, 91), (0, ((k : Nat) : Int)), (9, 0), (9, 0), (9, 0)]) (r1 := []) rfl rfl rfl rfl rfl (K_flw69_91 (by omega) k hk1 hk2 (fun t => siF w 1 (w 92) (w 93) L t) L hL n w1 hI1 hJ1 (e3.trans hs) (by rw [e1, e2]; exact hKW) (by rw [e1, e2]; exact fun g hg u hu => (siF_vw hg hu).trans (cv g hg).symm)) ?_
  rintro _ w2 _ ⟨rfl, rfl, hI2, h2f, h2s⟩
  rw [e1, e2] at h2s
  obtain ⟨z1, z2, z3⟩ := pz_cg (w := w) (w1 := w1) (fun i => hCe 96 i (by decide) (by omega)) (fun i => hCe 99 i (by decide) (by omega)) 1 k
  rw [z1, z2, z3] at h2s
  show qG none (d + 1) 174 58 [(2, 1), (0, 1), (0, ((k9 : Nat) : Int)), (0, ((k : Nat) : Int)), (0, v)] [] w2 142 Q9
  refine qG.blk 2 (pc' := 62) (ls' := [(2, 1), (0, 1), (0, ((k9 : Nat) : Int)), (0, ((k : Nat) : Int)), (0, v)]) (st' := [(2, w2 1 5)]) (w' := w2) (n' := 142) rfl ?_
  rw [show w2 1 5 = 23 from zref hI2 rfl rfl]
  refine qG.blk 1 (pc' := 64) (ls' := [(2, 1), (0, 1), (0, ((k9 : Nat) : Int)), (0, ((k : Nat) : Int)), (0, v)]) (st' := [(0, v), (2, 23)]) (w' := w2) (n' := 142) rfl ?_
  refine qG.call (t := 37) (na := 2) (sk := 1) (md := 1) (ls1 := [(2, 23), (0, v)]) (r1 := []) rfl rfl rfl rfl rfl (K_outc (Nat.zero_le _) v w2) ?_
  rintro _ w7 _ ⟨rfl, hw7, rfl⟩
  rw [hw7]
  show qG none (d + 1) 174 67 [(2, 1), (0, 1), (0, ((k9 : Nat) : Int)), (0, ((k : Nat) : Int)), (0, v)] [(0, hoV (w2 23 4) (w2 23 5) v)] w2 142 Q9
  refine qG.ret rfl rfl ?_
  subst hQ9
  exact ⟨_, _, rfl, h2s⟩
theorem K_flw74_91 {d : Nat} (hd : 8 ≤ d) (k : Nat) (hk1 : 1 ≤ k) (hk2 : k ≤ 4) (V : Nat → Int) (L : Nat) (hL : L ≤ 40) (n : Nat) (w : qW) (hI : yInv zgf zga zra zSp w) (hJ : J9 n w) (hs : w 91 2 = (L : Int)) (hKW : KNw (w 92) (w 93) L) (hVV : ∀ g, g < L → ∀ u, u < dN (w 92 g) (w 93 g) → V (scF (w 92) (w 93) g + u) = w 94 g) : qG none d 35 0 [(2, 23), (2, 74), (2, 91), (0, ((k : Nat) : Int)), (9, 0), (9, 0), (9, 0)] [] w 142 (fun (r : qV) (w1 : qW) (n1 : Nat) => r = (9, 0) ∧ n1 = 142 ∧ yInv zgf zga zra zSp w1 ∧ (∀ q j, ¬ (27 ≤ q ∧ q ≤ 29) → ¬ (q = 23 ∧ 4 ≤ j ∧ j ≤ 5) → ¬ (24 ≤ q ∧ q ≤ 26) → w1 q j = w q j) ∧ HSP (pzN w 2 k) (pzP w 2 k) (pzM w 2 k) V (scF (w 92) (w 93) L) (w1 23 4) (w1 23 5)) := by
  generalize hQ9 : (fun (r : qV) (w1 : qW) (n1 : Nat) => r = (9, 0) ∧ n1 = 142 ∧ yInv zgf zga zra zSp w1 ∧ (∀ q j, ¬ (27 ≤ q ∧ q ≤ 29) → ¬ (q = 23 ∧ 4 ≤ j ∧ j ≤ 5) → ¬ (24 ≤ q ∧ q ≤ 26) → w1 q j = w q j) ∧ HSP (pzN w 2 k) (pzP w 2 k) (pzM w 2 k) V (scF (w 92) (w 93) L) (w1 23 4) (w1 23 5)) = Q9
  obtain ⟨d, rfl⟩ : ∃ d9, d = d9 + 1 := ⟨d - 1, by omega⟩
  refine qG.blk 2 (pc' := 4) (ls' := [(2, 23), (2, 74), (2, 91), (0, ((k : Nat) : Int)), (9, 0), (9, 0), (9, 0)]) (st' := [(2, w 23 0)]) (w' := w) (n' := 142) rfl ?_
  rw [show w 23 0 = 24 from zref hI rfl rfl]
  refine qG.blk 2 (pc' := 6) (ls' := [(2, 23), (2, 74), (2, 91), (0, ((k : Nat) : Int)), (9, 0), (9, 0), (9, 0)]) (st' := [(0, ((k : Nat) : Int)), (2, 74), (2, 24)]) (w' := w) (n' := 142) rfl ?_
  refine qG.call (t := 94) (na := 3) (sk := 1) (md := 1) (ls1 := [(2, 24), (2, 74), (0, ((k : Nat) : Int))]) (r1 := []) rfl rfl rfl rfl rfl (qG.and (T_findFor_74 (w0 := w) d [(2, 24), (2, 74), (0, ((k : Nat) : Int))] w (show C_findFor_74.2.1 ≤ d by exact Nat.le_trans (show C_findFor_74.2.1 ≤ 7 by decide) (by omega)) ⟨⟨rfl, by decide, by decide⟩, ⟨rfl, by decide, by decide⟩, ⟨rfl, by show (1 : Int) ≤ _; omega, by show _ ≤ (4 : Int); omega⟩, trivial⟩ hI (fun p hp => by cases hp) (fun e he => by cases he)) (K_findForC74 (by omega) k hk1 hk2 n w hI hJ)) ?_
  rintro _ wF _ ⟨⟨-, hIF, -, -, -⟩, rfl, rfl, hF⟩
  show qG none (d + 1) 35 9 [(2, 23), (2, 74), (2, 91), (0, ((k : Nat) : Int)), (9, 0), (9, 0), (9, 0)] [] wF 142 Q9
  subst hQ9
  obtain ⟨f0, f1, f2, hTX, hfr⟩ := hF
  have eF : ∀ q j, q ≠ 24 → q ≠ 25 → q ≠ 26 → wF q j = w q j := fun q j a b e => hfr q j (fun z => a z.1) b e
  have e1 : wF 92 = w 92 := funext fun j => eF _ j (by decide) (by decide) (by decide)
  have e2 : wF 93 = w 93 := funext fun j => eF _ j (by decide) (by decide) (by decide)
  have e3 : wF 94 = w 94 := funext fun j => eF _ j (by decide) (by decide) (by decide)
  obtain ⟨z1, z2, z3⟩ := pz_cg (w := w) (w1 := wF) (fun i => eF 96 i (by decide) (by decide) (by decide)) (fun i => eF 99 i (by decide) (by decide) (by decide)) 2 k
  refine qG.mono (K_flwB91 (by omega) (pzN w 2 k) (pzP w 2 k) (pzM w 2 k) V L hL wF hIF ((eF 91 2 (by decide) (by decide) (by decide)).trans hs) (by rw [e1, e2]; exact hKW) (by have z := hTX.ctb hk1 hk2; rw [z1, z2, z3] at z; exact z) (by rw [e1, e2, e3]; exact hVV) _ _) ?_
  rintro r w1 n1 ⟨h1, h2, h3, h4, h5⟩
  rw [e1, e2] at h5
  exact ⟨h1, h2, h3, fun q j a b c9 => (h4 q j a b).trans (eF q j (by omega) (by omega) (by omega)), h5⟩
theorem K_hideB91_74 {d : Nat} (hd : 9 ≤ d) (k9 : Nat) (hk9 : k9 < 4) (k : Nat) (hk1 : 1 ≤ k) (hk2 : k ≤ 4) (v : Int) (L : Nat) (hL : L ≤ 40) (n : Nat) (w : qW) (hI : yInv zgf zga zra zSp w) (hJ : J9 n w) (h3 : w 3 k9 = 91) (hs : w 91 2 = (L : Int)) (hKN : KNr (w 92) (w 93) L) (hKW : KNw (w 92) (w 93) L) (hK : w 74 0 = w 96 2) (hE : JE w) : qG none d 174 23 [(2, 1), (0, 2), (0, ((k9 : Nat) : Int)), (0, ((k : Nat) : Int)), (0, v)] [] w 142 (fun (r : qV) (_ : qW) (_ : Nat) => ∃ fl cn, r = (0, hoV fl cn v) ∧ HSP (pzN w 2 k) (pzP w 2 k) (pzM w 2 k) (fun t => siF w 2 (w 92) (w 93) L t) (scF (w 92) (w 93) L) fl cn) := by
  generalize hQ9 : (fun (r : qV) (_ : qW) (_ : Nat) => ∃ fl cn, r = (0, hoV fl cn v) ∧ HSP (pzN w 2 k) (pzP w 2 k) (pzM w 2 k) (fun t => siF w 2 (w 92) (w 93) L t) (scF (w 92) (w 93) L) fl cn) = Q9
  obtain ⟨d, rfl⟩ : ∃ d9, d = d9 + 1 := ⟨d - 1, by omega⟩
  refine qG.blk 2 (pc' := 27) (ls' := [(2, 1), (0, 2), (0, ((k9 : Nat) : Int)), (0, ((k : Nat) : Int)), (0, v)]) (st' := [(2, w 1 1)]) (w' := w) (n' := 142) rfl ?_
  rw [show w 1 1 = 3 from zref hI rfl rfl]
  refine qG.blk 1 (pc' := 28) (ls' := [(2, 1), (0, 2), (0, ((k9 : Nat) : Int)), (0, ((k : Nat) : Int)), (0, v)]) (st' := [(0, ((k9 : Nat) : Int)), (2, 3)]) (w' := w) (n' := 142) rfl ?_
  refine qG.ar (P := 0 ≤ ((k9 : Nat) : Int) ∧ ((k9 : Nat) : Int) < ((4 : Nat) : Int)) (P2 := 0 < (3 : Int) ∧ (3 : Int) ≤ ((142 : Nat) : Int)) (pc' := 29) (ls' := [(2, 1), (0, 2), (0, ((k9 : Nat) : Int)), (0, ((k : Nat) : Int)), (0, v)]) (st' := [(2, w 3 k9)]) (w' := w) (n' := 142) rfl (by omega) (by decide) ?_
  rw [show w 3 k9 = 91 from h3]
  refine qG.blk 2 (pc' := 33) (ls' := [(2, 1), (0, 2), (0, ((k9 : Nat) : Int)), (0, ((k : Nat) : Int)), (0, v)]) (st' := [(2, w 1 0), (2, 91)]) (w' := w) (n' := 142) rfl ?_
  rw [show w 1 0 = 2 from zref hI rfl rfl]
  refine qG.blk 1 (pc' := 34) (ls' := [(2, 1), (0, 2), (0, ((k9 : Nat) : Int)), (0, ((k : Nat) : Int)), (0, v)]) (st' := [(0, 2), (2, 2), (2, 91)]) (w' := w) (n' := 142) rfl ?_
  refine qG.ar (P := 0 ≤ 2 ∧ 2 < ((3 : Nat) : Int)) (P2 := 0 < (2 : Int) ∧ (2 : Int) ≤ ((142 : Nat) : Int)) (pc' := 35) (ls' := [(2, 1), (0, 2), (0, ((k9 : Nat) : Int)), (0, ((k : Nat) : Int)), (0, v)]) (st' := [(2, w 2 2), (2, 91)]) (w' := w) (n' := 142) rfl (by omega) (by decide) ?_
  rw [show w 2 2 = 74 from zref hI rfl rfl]
  refine qG.call (t := 111) (na := 2) (sk := 1) (md := 1) (ls1 := [(2, 91), (2, 74), (9, 0)]) (r1 := []) rfl rfl rfl rfl rfl (K_perf91_74 (by omega) L hL w hI hs hKN hK hE) ?_
  rintro _ w1 _ ⟨rfl, rfl, hI1, hC⟩
  have hJ1 := J9.chp (show SHOWP 91 by unfold SHOWP; omega) hJ hC
  obtain ⟨e1, e2, e3, hfr⟩ := hC.row (by unfold SHOWP; omega)
  have hCe := hC.2.2.2.2.2.2.2
  have cv := hC.2.2.2.2.2.2.1
  show qG none (d + 1) 174 38 [(2, 1), (0, 2), (0, ((k9 : Nat) : Int)), (0, ((k : Nat) : Int)), (0, v)] [] w1 142 Q9
  refine qG.blk 2 (pc' := 42) (ls' := [(2, 1), (0, 2), (0, ((k9 : Nat) : Int)), (0, ((k : Nat) : Int)), (0, v)]) (st' := [(2, w1 1 5)]) (w' := w1) (n' := 142) rfl ?_
  rw [show w1 1 5 = 23 from (hfr 1 5 (by omega)).trans (zref hI rfl rfl)]
  refine qG.blk 2 (pc' := 46) (ls' := [(2, 1), (0, 2), (0, ((k9 : Nat) : Int)), (0, ((k : Nat) : Int)), (0, v)]) (st' := [(2, w1 1 0), (2, 23)]) (w' := w1) (n' := 142) rfl ?_
  rw [show w1 1 0 = 2 from (hfr 1 0 (by omega)).trans (zref hI rfl rfl)]
  refine qG.blk 1 (pc' := 47) (ls' := [(2, 1), (0, 2), (0, ((k9 : Nat) : Int)), (0, ((k : Nat) : Int)), (0, v)]) (st' := [(0, 2), (2, 2), (2, 23)]) (w' := w1) (n' := 142) rfl ?_
  refine qG.ar (P := 0 ≤ 2 ∧ 2 < ((3 : Nat) : Int)) (P2 := 0 < (2 : Int) ∧ (2 : Int) ≤ ((142 : Nat) : Int)) (pc' := 48) (ls' := [(2, 1), (0, 2), (0, ((k9 : Nat) : Int)), (0, ((k : Nat) : Int)), (0, v)]) (st' := [(2, w1 2 2), (2, 23)]) (w' := w1) (n' := 142) rfl (by omega) (by decide) ?_
  rw [show w1 2 2 = 74 from (hfr 2 2 (by omega)).trans (zref hI rfl rfl)]
  refine qG.blk 2 (pc' := 52) (ls' := [(2, 1), (0, 2), (0, ((k9 : Nat) : Int)), (0, ((k : Nat) : Int)), (0, v)]) (st' := [(2, w1 1 1), (2, 74), (2, 23)]) (w' := w1) (n' := 142) rfl ?_
  rw [show w1 1 1 = 3 from (hfr 1 1 (by omega)).trans (zref hI rfl rfl)]
  refine qG.blk 1 (pc' := 53) (ls' := [(2, 1), (0, 2), (0, ((k9 : Nat) : Int)), (0, ((k : Nat) : Int)), (0, v)]) (st' := [(0, ((k9 : Nat) : Int)), (2, 3), (2, 74), (2, 23)]) (w' := w1) (n' := 142) rfl ?_
  refine qG.ar (P := 0 ≤ ((k9 : Nat) : Int) ∧ ((k9 : Nat) : Int) < ((4 : Nat) : Int)) (P2 := 0 < (3 : Int) ∧ (3 : Int) ≤ ((142 : Nat) : Int)) (pc' := 54) (ls' := [(2, 1), (0, 2), (0, ((k9 : Nat) : Int)), (0, ((k : Nat) : Int)), (0, v)]) (st' := [(2, w1 3 k9), (2, 74), (2, 23)]) (w' := w1) (n' := 142) rfl (by omega) (by decide) ?_
  rw [show w1 3 k9 = 91 from (hfr 3 k9 (by omega)).trans h3]
  refine qG.blk 1 (pc' := 55) (ls' := [(2, 1), (0, 2), (0, ((k9 : Nat) : Int)), (0, ((k : Nat) : Int)), (0, v)]) (st' := [(0, ((k : Nat) : Int)), (2, 91), (2, 74), (2, 23)]) (w' := w1) (n' := 142) rfl ?_
  refine qG.call (t := 35) (na := 4) (sk := 1) (md := 1) (ls1 := [(2, 23), (2, 74), (2, 91), (0, ((k : Nat) : Int)), (9, 0), (9, 0), (9, 0)]) (r1 := []) rfl rfl rfl rfl rfl (K_flw74_91 (by omega) k hk1 hk2 (fun t => siF w 2 (w 92) (w 93) L t) L hL n w1 hI1 hJ1 (e3.trans hs) (by rw [e1, e2]; exact hKW) (by rw [e1, e2]; exact fun g hg u hu => (siF_vw hg hu).trans (cv g hg).symm)) ?_
  rintro _ w2 _ ⟨rfl, rfl, hI2, h2f, h2s⟩
  rw [e1, e2] at h2s
  obtain ⟨z1, z2, z3⟩ := pz_cg (w := w) (w1 := w1) (fun i => hCe 96 i (by decide) (by omega)) (fun i => hCe 99 i (by decide) (by omega)) 2 k
  rw [z1, z2, z3] at h2s
  show qG none (d + 1) 174 58 [(2, 1), (0, 2), (0, ((k9 : Nat) : Int)), (0, ((k : Nat) : Int)), (0, v)] [] w2 142 Q9
  refine qG.blk 2 (pc' := 62) (ls' := [(2, 1), (0, 2), (0, ((k9 : Nat) : Int)), (0, ((k : Nat) : Int)), (0, v)]) (st' := [(2, w2 1 5)]) (w' := w2) (n' := 142) rfl ?_
  rw [show w2 1 5 = 23 from zref hI2 rfl rfl]
  refine qG.blk 1 (pc' := 64) (ls' := [(2, 1), (0, 2), (0, ((k9 : Nat) : Int)), (0, ((k : Nat) : Int)), (0, v)]) (st' := [(0, v), (2, 23)]) (w' := w2) (n' := 142) rfl ?_
  refine qG.call (t := 37) (na := 2) (sk := 1) (md := 1) (ls1 := [(2, 23), (0, v)]) (r1 := []) rfl rfl rfl rfl rfl (K_outc (Nat.zero_le _) v w2) ?_
  rintro _ w7 _ ⟨rfl, hw7, rfl⟩
  rw [hw7]
  show qG none (d + 1) 174 67 [(2, 1), (0, 2), (0, ((k9 : Nat) : Int)), (0, ((k : Nat) : Int)), (0, v)] [(0, hoV (w2 23 4) (w2 23 5) v)] w2 142 Q9
  refine qG.ret rfl rfl ?_
  subst hQ9
  exact ⟨_, _, rfl, h2s⟩
theorem K_hideC {d : Nat} (hd : 9 ≤ d) (c k9 k : Nat) (hc : c < 3) (hk9 : k9 < 4) (hk1 : 1 ≤ k) (hk2 : k ≤ 4) (v : Int) (n : Nat) (w : qW) (hI : yInv zgf zga zra zSp w) (hJ : J9 n w) (hE : JE w) (hR : JR w) : qG none d 174 23 [(2, 1), (0, ((c : Nat) : Int)), (0, ((k9 : Nat) : Int)), (0, ((k : Nat) : Int)), (0, v)] [] w 142 (fun (r : qV) (_ : qW) (_ : Nat) => ∃ x, r = (0, x) ∧ HDR w c k9 k v x) := by
  obtain ⟨f, a1, a2, a3, a4, a5⟩ := hR
  obtain ⟨L, hL, hs, hs6, hkn, hKN, hKW⟩ := a5 k9 hk9
  have h3 := a3 k9 hk9
  have hp := a1 k9 (by omega)
  have hk0 := hJ.1 c hc
  unfold SHOWP at hp
  generalize f k9 = p at *
  have fin : ∀ (K N : Nat → Int) (r : qV), KN K N (fun i => w 104 (40 * k9 + i)) (fun i => w 105 (40 * k9 + i)) L → (∃ fl cn, r = (0, hoV fl cn v) ∧ HSP (pzN w c k) (pzP w c k) (pzM w c k) (fun t => siF w c K N L t) (scF K N L) fl cn) → ∃ x, r = (0, x) ∧ HDR w c k9 k v x := fun K N r hkn ⟨fl, cn, e, hh⟩ => ⟨_, e, fl, cn, rfl, by rw [hs6, Int.toNat_natCast]; exact hh.kn hkn⟩
  rcases hp with rfl | rfl | rfl | rfl | rfl <;> rcases (show c = 0 ∨ c = 1 ∨ c = 2 by omega) with rfl | rfl | rfl
  · exact qG.mono (K_hideB4_64 hd k9 hk9 k hk1 hk2 v L hL n w hI hJ h3 hs hKN hKW hk0 hE) (fun r _ _ h => fin _ _ r hkn h)
  · exact qG.mono (K_hideB4_69 hd k9 hk9 k hk1 hk2 v L hL n w hI hJ h3 hs hKN hKW hk0 hE) (fun r _ _ h => fin _ _ r hkn h)
  · exact qG.mono (K_hideB4_74 hd k9 hk9 k hk1 hk2 v L hL n w hI hJ h3 hs hKN hKW hk0 hE) (fun r _ _ h => fin _ _ r hkn h)
  · exact qG.mono (K_hideB79_64 hd k9 hk9 k hk1 hk2 v L hL n w hI hJ h3 hs hKN hKW hk0 hE) (fun r _ _ h => fin _ _ r hkn h)
  · exact qG.mono (K_hideB79_69 hd k9 hk9 k hk1 hk2 v L hL n w hI hJ h3 hs hKN hKW hk0 hE) (fun r _ _ h => fin _ _ r hkn h)
  · exact qG.mono (K_hideB79_74 hd k9 hk9 k hk1 hk2 v L hL n w hI hJ h3 hs hKN hKW hk0 hE) (fun r _ _ h => fin _ _ r hkn h)
  · exact qG.mono (K_hideB83_64 hd k9 hk9 k hk1 hk2 v L hL n w hI hJ h3 hs hKN hKW hk0 hE) (fun r _ _ h => fin _ _ r hkn h)
  · exact qG.mono (K_hideB83_69 hd k9 hk9 k hk1 hk2 v L hL n w hI hJ h3 hs hKN hKW hk0 hE) (fun r _ _ h => fin _ _ r hkn h)
  · exact qG.mono (K_hideB83_74 hd k9 hk9 k hk1 hk2 v L hL n w hI hJ h3 hs hKN hKW hk0 hE) (fun r _ _ h => fin _ _ r hkn h)
  · exact qG.mono (K_hideB87_64 hd k9 hk9 k hk1 hk2 v L hL n w hI hJ h3 hs hKN hKW hk0 hE) (fun r _ _ h => fin _ _ r hkn h)
  · exact qG.mono (K_hideB87_69 hd k9 hk9 k hk1 hk2 v L hL n w hI hJ h3 hs hKN hKW hk0 hE) (fun r _ _ h => fin _ _ r hkn h)
  · exact qG.mono (K_hideB87_74 hd k9 hk9 k hk1 hk2 v L hL n w hI hJ h3 hs hKN hKW hk0 hE) (fun r _ _ h => fin _ _ r hkn h)
  · exact qG.mono (K_hideB91_64 hd k9 hk9 k hk1 hk2 v L hL n w hI hJ h3 hs hKN hKW hk0 hE) (fun r _ _ h => fin _ _ r hkn h)
  · exact qG.mono (K_hideB91_69 hd k9 hk9 k hk1 hk2 v L hL n w hI hJ h3 hs hKN hKW hk0 hE) (fun r _ _ h => fin _ _ r hkn h)
  · exact qG.mono (K_hideB91_74 hd k9 hk9 k hk1 hk2 v L hL n w hI hJ h3 hs hKN hKW hk0 hE) (fun r _ _ h => fin _ _ r hkn h)
theorem K_X11_isSize2 {d : Nat} (hd : 0 ≤ d) (c : Int) (w : qW) : qG none d 200 0 [(0, c)] [] w 142 (fun (r : qV) (w1 : qW) (n1 : Nat) => r = (0, isInV c 1 4) ∧ w1 = w ∧ n1 = 142) := by
  generalize hQ9 : (fun (r : qV) (w1 : qW) (n1 : Nat) => r = (0, isInV c 1 4) ∧ w1 = w ∧ n1 = 142) = Q9
  refine qG.blk 2 (pc' := 2) (ls' := [(0, c)]) (st' := [(0, 1), (0, c)]) (w' := w) (n' := 142) rfl ?_
  refine qG.br (P := c < 1) (pc1 := 14) (pc2 := 5) (st1 := []) rfl (fun h1 => ?_) (fun h1 => ?_)
  · skip
    refine qG.blk 1 (pc' := 15) (ls' := [(0, c)]) (st' := [(0, 0)]) (w' := w) (n' := 142) rfl ?_
    refine qG.ret rfl (by first | rfl | exact decide_eq_true (by omega)) ?_
    subst hQ9
    exact ⟨by unfold isInV; split <;> (try split) <;> first | rfl | (exfalso; omega), rfl, rfl⟩
  · skip
    refine qG.blk 2 (pc' := 7) (ls' := [(0, c)]) (st' := [(0, 4), (0, c)]) (w' := w) (n' := 142) rfl ?_
    refine qG.br (P := 4 < c) (pc1 := 14) (pc2 := 10) (st1 := []) rfl (fun h2 => ?_) (fun h2 => ?_)
    · skip
      refine qG.blk 1 (pc' := 15) (ls' := [(0, c)]) (st' := [(0, 0)]) (w' := w) (n' := 142) rfl ?_
      refine qG.ret rfl (by first | rfl | exact decide_eq_true (by omega)) ?_
      subst hQ9
      exact ⟨by unfold isInV; split <;> (try split) <;> first | rfl | (exfalso; omega), rfl, rfl⟩
    · skip
      refine qG.blk 2 (pc' := 15) (ls' := [(0, c)]) (st' := [(0, 1)]) (w' := w) (n' := 142) rfl ?_
      refine qG.ret rfl (by first | rfl | exact decide_eq_true (by omega)) ?_
      subst hQ9
      exact ⟨by unfold isInV; split <;> (try split) <;> first | rfl | (exfalso; omega), rfl, rfl⟩
theorem K_X11_hideA {d : Nat} (hd : 10 ≤ d) (c k s v : Int) (n : Nat) (w : qW) (hI : yInv zgf zga zra zSp w) (hJ : J9 n w) (hE : JE w) (hR : JR w) : qG none d 174 0 [(2, 1), (0, c), (0, k), (0, s), (0, v)] [] w 142 (fun (r : qV) (_ : qW) (_ : Nat) => ∃ x, r = (0, x) ∧ HDT w c k s v x) := by
  generalize hQ9 : (fun (r : qV) (_ : qW) (_ : Nat) => ∃ x, r = (0, x) ∧ HDT w c k s v x) = Q9
  obtain ⟨d, rfl⟩ : ∃ d9, d = d9 + 1 := ⟨d - 1, by omega⟩
  refine qG.blk 1 (pc' := 1) (ls' := [(2, 1), (0, c), (0, k), (0, s), (0, v)]) (st' := [(0, c)]) (w' := w) (n' := 142) rfl ?_
  refine qG.call (t := 198) (na := 1) (sk := 0) (md := 0) (ls1 := [(0, c)]) (r1 := []) rfl rfl rfl rfl rfl (K_X11_isChest (Nat.zero_le _) _ _) ?_
  rintro _ w7 _ ⟨rfl, hw7, rfl⟩
  rw [hw7]
  show qG none (d + 1) 174 4 [(2, 1), (0, c), (0, k), (0, s), (0, v)] [(0, isInV c 0 2)] w 142 Q9
  refine qG.br (P := isInV c 0 2 = 0) (pc1 := 21) (pc2 := 7) (st1 := []) rfl (fun hc0 => ?_) (fun hc0 => ?_)
  · skip
    refine qG.blk 1 (pc' := 22) (ls' := [(2, 1), (0, c), (0, k), (0, s), (0, v)]) (st' := [(0, (-1))]) (w' := w) (n' := 142) rfl ?_
    refine qG.ret rfl rfl ?_
    subst hQ9
    exact ⟨_, rfl, .inl ⟨by first | exact .inl hc0 | exact .inr (.inl hk0) | exact .inr (.inr (.inl hs0)) | exact .inr (.inr (.inr hv0)), rfl⟩⟩
  · skip
    obtain ⟨c9, rfl, hlc9, huc9⟩ := isIn_n (by decide) hc0
    refine qG.blk 1 (pc' := 8) (ls' := [(2, 1), (0, ((c9 : Nat) : Int)), (0, k), (0, s), (0, v)]) (st' := [(0, k)]) (w' := w) (n' := 142) rfl ?_
    refine qG.call (t := 199) (na := 1) (sk := 0) (md := 0) (ls1 := [(0, k)]) (r1 := []) rfl rfl rfl rfl rfl (K_X11_isShow (Nat.zero_le _) _ _) ?_
    rintro _ w7 _ ⟨rfl, hw7, rfl⟩
    rw [hw7]
    show qG none (d + 1) 174 11 [(2, 1), (0, ((c9 : Nat) : Int)), (0, k), (0, s), (0, v)] [(0, isInV k 0 3)] w 142 Q9
    refine qG.br (P := isInV k 0 3 = 0) (pc1 := 21) (pc2 := 14) (st1 := []) rfl (fun hk0 => ?_) (fun hk0 => ?_)
    · skip
      refine qG.blk 1 (pc' := 22) (ls' := [(2, 1), (0, ((c9 : Nat) : Int)), (0, k), (0, s), (0, v)]) (st' := [(0, (-1))]) (w' := w) (n' := 142) rfl ?_
      refine qG.ret rfl rfl ?_
      subst hQ9
      exact ⟨_, rfl, .inl ⟨by first | exact .inl hc0 | exact .inr (.inl hk0) | exact .inr (.inr (.inl hs0)) | exact .inr (.inr (.inr hv0)), rfl⟩⟩
    · skip
      obtain ⟨k9, rfl, hlk9, huk9⟩ := isIn_n (by decide) hk0
      refine qG.blk 1 (pc' := 15) (ls' := [(2, 1), (0, ((c9 : Nat) : Int)), (0, ((k9 : Nat) : Int)), (0, s), (0, v)]) (st' := [(0, s)]) (w' := w) (n' := 142) rfl ?_
      refine qG.call (t := 200) (na := 1) (sk := 0) (md := 0) (ls1 := [(0, s)]) (r1 := []) rfl rfl rfl rfl rfl (K_X11_isSize2 (Nat.zero_le _) _ _) ?_
      rintro _ w7 _ ⟨rfl, hw7, rfl⟩
      rw [hw7]
      show qG none (d + 1) 174 18 [(2, 1), (0, ((c9 : Nat) : Int)), (0, ((k9 : Nat) : Int)), (0, s), (0, v)] [(0, isInV s 1 4)] w 142 Q9
      refine qG.br (P := isInV s 1 4 = 0) (pc1 := 21) (pc2 := 23) (st1 := []) rfl (fun hs0 => ?_) (fun hs0 => ?_)
      · skip
        refine qG.blk 1 (pc' := 22) (ls' := [(2, 1), (0, ((c9 : Nat) : Int)), (0, ((k9 : Nat) : Int)), (0, s), (0, v)]) (st' := [(0, (-1))]) (w' := w) (n' := 142) rfl ?_
        refine qG.ret rfl rfl ?_
        subst hQ9
        exact ⟨_, rfl, .inl ⟨by first | exact .inl hc0 | exact .inr (.inl hk0) | exact .inr (.inr (.inl hs0)) | exact .inr (.inr (.inr hv0)), rfl⟩⟩
      · skip
        obtain ⟨s9, rfl, hls9, hus9⟩ := isIn_n (by decide) hs0
        subst hQ9
        refine qG.mono (K_hideC (by omega) c9 k9 s9 (by omega) (by omega) (by omega) (by omega) v n w hI hJ hE hR) ?_
        rintro _ w9 _ ⟨x, rfl, hx⟩
        refine ⟨x, rfl, ?_⟩
        by_cases hv : isInV v 0 2 = 0
        · obtain ⟨fl, cn, e, -⟩ := hx
          exact .inl ⟨.inr (.inr (.inr hv)), e.trans (hoV_n hv)⟩
        · exact .inr ⟨fun z => z.elim hc0 (fun z => z.elim hk0 (fun z => z.elim hs0 hv)), by rw [Int.toNat_natCast, Int.toNat_natCast, Int.toNat_natCast]; exact hx⟩
theorem K_X12_hideA {d : Nat} (hd : 8 ≤ d) (c k s v : Int) (w : qW) (hI : yInv zgf zga zra zSp w) (hS1 : Sp1 w) (hS : S3 w) : qG none d 258 0 [(2, 95), (0, c), (0, k), (0, s), (0, v), (9, 0)] [] w 142 (fun (r : qV) (_ : qW) (_ : Nat) => ∃ x, r = (0, x) ∧ HDT w c k s v x) := by
  generalize hQ9 : (fun (r : qV) (_ : qW) (_ : Nat) => ∃ x, r = (0, x) ∧ HDT w c k s v x) = Q9
  obtain ⟨d, rfl⟩ : ∃ d9, d = d9 + 1 := ⟨d - 1, by omega⟩
  refine qG.blk 1 (pc' := 1) (ls' := [(2, 95), (0, c), (0, k), (0, s), (0, v), (9, 0)]) (st' := [(0, c)]) (w' := w) (n' := 142) rfl ?_
  refine qG.call (t := 207) (na := 1) (sk := 0) (md := 0) (ls1 := [(0, c)]) (r1 := []) rfl rfl rfl rfl rfl (K_isChest (by omega) _ _) ?_
  rintro _ w7 _ ⟨rfl, hw7, rfl⟩
  rw [hw7]
  show qG none (d + 1) 258 4 [(2, 95), (0, c), (0, k), (0, s), (0, v), (9, 0)] [(0, isInV c 0 2)] w 142 Q9
  refine qG.br (P := isInV c 0 2 = 0) (pc1 := 31) (pc2 := 7) (st1 := []) rfl (fun hc0 => ?_) (fun hc0 => ?_)
  · skip
    refine qG.blk 1 (pc' := 32) (ls' := [(2, 95), (0, c), (0, k), (0, s), (0, v), (9, 0)]) (st' := [(0, (-1))]) (w' := w) (n' := 142) rfl ?_
    refine qG.ret rfl rfl ?_
    subst hQ9
    exact ⟨_, rfl, .inl ⟨by first | exact .inl hc0 | exact .inr (.inl hk0) | exact .inr (.inr (.inl hs0)) | exact .inr (.inr (.inr hv0)), rfl⟩⟩
  · skip
    obtain ⟨c9, rfl, hlc9, huc9⟩ := isIn_n (by decide) hc0
    refine qG.blk 1 (pc' := 8) (ls' := [(2, 95), (0, ((c9 : Nat) : Int)), (0, k), (0, s), (0, v), (9, 0)]) (st' := [(0, k)]) (w' := w) (n' := 142) rfl ?_
    refine qG.call (t := 209) (na := 1) (sk := 0) (md := 0) (ls1 := [(0, k)]) (r1 := []) rfl rfl rfl rfl rfl (K_isShow (by omega) _ _) ?_
    rintro _ w7 _ ⟨rfl, hw7, rfl⟩
    rw [hw7]
    show qG none (d + 1) 258 11 [(2, 95), (0, ((c9 : Nat) : Int)), (0, k), (0, s), (0, v), (9, 0)] [(0, isInV k 0 3)] w 142 Q9
    refine qG.br (P := isInV k 0 3 = 0) (pc1 := 31) (pc2 := 14) (st1 := []) rfl (fun hk0 => ?_) (fun hk0 => ?_)
    · skip
      refine qG.blk 1 (pc' := 32) (ls' := [(2, 95), (0, ((c9 : Nat) : Int)), (0, k), (0, s), (0, v), (9, 0)]) (st' := [(0, (-1))]) (w' := w) (n' := 142) rfl ?_
      refine qG.ret rfl rfl ?_
      subst hQ9
      exact ⟨_, rfl, .inl ⟨by first | exact .inl hc0 | exact .inr (.inl hk0) | exact .inr (.inr (.inl hs0)) | exact .inr (.inr (.inr hv0)), rfl⟩⟩
    · skip
      obtain ⟨k9, rfl, hlk9, huk9⟩ := isIn_n (by decide) hk0
      refine qG.blk 1 (pc' := 15) (ls' := [(2, 95), (0, ((c9 : Nat) : Int)), (0, ((k9 : Nat) : Int)), (0, s), (0, v), (9, 0)]) (st' := [(0, s)]) (w' := w) (n' := 142) rfl ?_
      refine qG.call (t := 210) (na := 1) (sk := 0) (md := 0) (ls1 := [(0, s)]) (r1 := []) rfl rfl rfl rfl rfl (K_isSize (by omega) _ _) ?_
      rintro _ w7 _ ⟨rfl, hw7, rfl⟩
      rw [hw7]
      show qG none (d + 1) 258 18 [(2, 95), (0, ((c9 : Nat) : Int)), (0, ((k9 : Nat) : Int)), (0, s), (0, v), (9, 0)] [(0, isInV s 1 4)] w 142 Q9
      refine qG.br (P := isInV s 1 4 = 0) (pc1 := 31) (pc2 := 21) (st1 := []) rfl (fun hs0 => ?_) (fun hs0 => ?_)
      · skip
        refine qG.blk 1 (pc' := 32) (ls' := [(2, 95), (0, ((c9 : Nat) : Int)), (0, ((k9 : Nat) : Int)), (0, s), (0, v), (9, 0)]) (st' := [(0, (-1))]) (w' := w) (n' := 142) rfl ?_
        refine qG.ret rfl rfl ?_
        subst hQ9
        exact ⟨_, rfl, .inl ⟨by first | exact .inl hc0 | exact .inr (.inl hk0) | exact .inr (.inr (.inl hs0)) | exact .inr (.inr (.inr hv0)), rfl⟩⟩
      · skip
        obtain ⟨s9, rfl, hls9, hus9⟩ := isIn_n (by decide) hs0
        refine qG.blk 3 (pc' := 25) (ls' := [(2, 95), (0, ((c9 : Nat) : Int)), (0, ((k9 : Nat) : Int)), (0, ((s9 : Nat) : Int)), (0, v), (9, 0)]) (st' := [(0, 2), (0, 0), (0, v)]) (w' := w) (n' := 142) rfl ?_
        refine qG.call (t := 206) (na := 3) (sk := 0) (md := 0) (ls1 := [(0, v), (0, 0), (0, 2)]) (r1 := []) rfl rfl rfl rfl rfl (K_isIn (Nat.zero_le _) _ _ _ _) ?_
        rintro _ w7 _ ⟨rfl, hw7, rfl⟩
        rw [hw7]
        show qG none (d + 1) 258 28 [(2, 95), (0, ((c9 : Nat) : Int)), (0, ((k9 : Nat) : Int)), (0, ((s9 : Nat) : Int)), (0, v), (9, 0)] [(0, isInV (v) (0) (2))] w 142 Q9
        refine qG.br (P := isInV (v) (0) (2) = 0) (pc1 := 31) (pc2 := 33) (st1 := []) rfl (fun hv0 => ?_) (fun hv0 => ?_)
        · skip
          refine qG.blk 1 (pc' := 32) (ls' := [(2, 95), (0, ((c9 : Nat) : Int)), (0, ((k9 : Nat) : Int)), (0, ((s9 : Nat) : Int)), (0, v), (9, 0)]) (st' := [(0, (-1))]) (w' := w) (n' := 142) rfl ?_
          refine qG.ret rfl rfl ?_
          subst hQ9
          exact ⟨_, rfl, .inl ⟨by first | exact .inl hc0 | exact .inr (.inl hk0) | exact .inr (.inr (.inl hs0)) | exact .inr (.inr (.inr hv0)), rfl⟩⟩
        · skip
          refine qG.blk 3 (pc' := 36) (ls' := [(2, 95), (0, ((c9 : Nat) : Int)), (0, ((k9 : Nat) : Int)), (0, ((s9 : Nat) : Int)), (0, v), (9, 0)]) (st' := [(0, ((k9 : Nat) : Int)), (0, ((c9 : Nat) : Int)), (2, 95)]) (w' := w) (n' := 142) rfl ?_
          refine qG.call (t := 253) (na := 3) (sk := 1) (md := 1) (ls1 := [(2, 95), (0, ((c9 : Nat) : Int)), (0, ((k9 : Nat) : Int)), (9, 0)]) (r1 := []) rfl rfl rfl rfl rfl (K_shows (by omega) c9 k9 (by omega) (by omega) w hI hS1) ?_
          rintro _ ws _ ⟨rfl, rfl, rfl⟩
          have hAs := (sh_aw (c := c9) (k := k9) (by omega) hI hS1).1
          have hSs := sh_s3 (c := c9) (k := k9) (by omega) hI hS1 hS
          obtain ⟨-, -, -, -, -, -, s37, s116⟩ := shW_P (w := w) (c := c9) (k := k9) (w 106 k9).toNat
          generalize shW w c9 k9 (w 106 k9).toNat = ws at *
          show qG none (d + 1) 258 39 [(2, 95), (0, ((c9 : Nat) : Int)), (0, ((k9 : Nat) : Int)), (0, ((s9 : Nat) : Int)), (0, v), (9, 0)] [] ws 142 Q9
          refine qG.blk 3 (pc' := 42) (ls' := [(2, 95), (0, ((c9 : Nat) : Int)), (0, ((k9 : Nat) : Int)), (0, ((s9 : Nat) : Int)), (0, v), (9, 0)]) (st' := [(0, ((s9 : Nat) : Int)), (0, ((c9 : Nat) : Int)), (2, 95)]) (w' := ws) (n' := 142) rfl ?_
          refine qG.call (t := 257) (na := 3) (sk := 1) (md := 1) (ls1 := [(2, 95), (0, ((c9 : Nat) : Int)), (0, ((s9 : Nat) : Int)), (9, 0), (9, 0), (9, 0), (9, 0)]) (r1 := []) rfl rfl rfl rfl rfl (K_hidesF (by omega) c9 s9 (by omega) (by omega) (by omega) ws hAs.1 hSs) ?_
          rintro _ wh _ ⟨rfl, w0, hfp, hA0, hS0, hdw, N, S, t, hN, hSS, htS, rfl, hts, h46, hmin⟩
          have hTB := hS0.2 c9 s9 (by omega) (by omega) (by omega) hfp.at9
          have hsp := hidesF_sp hA0.1 hTB hN htS rfl hts h46 hmin
          have e96 : ∀ i, w0 96 i = w 96 i := fun i => (hA0.2 96 i (fun _ => ymo_far (by decide) (by decide) i)).trans (hAs.2 96 i (fun _ => ymo_far (by decide) (by decide) i))
          have e99 : ∀ i, w0 99 i = w 99 i := fun i => (hA0.2 99 i (fun _ => ymo_far (by decide) (by decide) i)).trans (hAs.2 99 i (fun _ => ymo_far (by decide) (by decide) i))
          obtain ⟨z1, z2, z3⟩ := pz_cg (w := w) (w1 := w0) e96 e99 c9 s9
          rw [z1, z2, z3] at hsp
          have eS : S = scF (fun i => w 104 (40 * k9 + i)) (fun i => w 105 (40 * k9 + i)) (w 106 k9).toNat := by have z := hA0.2 95 37 (fun _ => rfl); omega
          have hsp2 := HSP.cg (V := fun t => siF w c9 (rK w k9) (rN w k9) (w 106 k9).toNat t) hsp (fun _ _ => rfl) (fun _ _ _ _ => rfl) (fun t ht => ((hA0.2 116 t (fun _ => ymo_far (by decide) (by decide) t)).trans (s116 t (by omega))))
          rw [eS] at hsp2
          generalize ((cntF (cF w0 t) N : Nat) : Int) = cn at *
          show qG none (d + 1) 258 45 [(2, 95), (0, ((c9 : Nat) : Int)), (0, ((k9 : Nat) : Int)), (0, ((s9 : Nat) : Int)), (0, v), (9, 0)] [(0, cn)] wh 142 Q9
          refine qG.blk 2 (pc' := 49) (ls' := [(2, 95), (0, ((c9 : Nat) : Int)), (0, ((k9 : Nat) : Int)), (0, ((s9 : Nat) : Int)), (0, v), (0, cn)]) (st' := [(0, v)]) (w' := wh) (n' := 142) rfl ?_
          refine qG.br (P := v = 0) (pc1 := 52) (pc2 := 65) (st1 := []) rfl (fun hv1 => ?_) (fun hv1 => ?_)
          · skip
            refine qG.blk 1 (pc' := 54) (ls' := [(2, 95), (0, ((c9 : Nat) : Int)), (0, ((k9 : Nat) : Int)), (0, ((s9 : Nat) : Int)), (0, v), (0, cn)]) (st' := [(0, cn)]) (w' := wh) (n' := 142) rfl ?_
            refine qG.br (P := 0 < cn) (pc1 := 57) (pc2 := 61) (st1 := []) rfl (fun hcn => ?_) (fun hcn => ?_)
            · skip
              refine qG.blk 2 (pc' := 80) (ls' := [(2, 95), (0, ((c9 : Nat) : Int)), (0, ((k9 : Nat) : Int)), (0, ((s9 : Nat) : Int)), (0, v), (0, cn)]) (st' := [(0, 1)]) (w' := wh) (n' := 142) rfl ?_
              refine qG.ret rfl rfl ?_
              subst hQ9
              refine ⟨_, rfl, .inr ⟨fun z => z.elim hc0 (fun z => z.elim hk0 (fun z => z.elim hs0 hv0)), ?_⟩⟩
              rw [Int.toNat_natCast, Int.toNat_natCast, Int.toNat_natCast]
              refine ⟨_, cn, ?_, hsp2⟩
              unfold isInV at hv0; unfold hoV; (repeat' split at hv0) <;> (repeat' split) <;> first | rfl | (exfalso; omega) | omega
            · skip
              refine qG.blk 2 (pc' := 80) (ls' := [(2, 95), (0, ((c9 : Nat) : Int)), (0, ((k9 : Nat) : Int)), (0, ((s9 : Nat) : Int)), (0, v), (0, cn)]) (st' := [(0, 0)]) (w' := wh) (n' := 142) rfl ?_
              refine qG.ret rfl rfl ?_
              subst hQ9
              refine ⟨_, rfl, .inr ⟨fun z => z.elim hc0 (fun z => z.elim hk0 (fun z => z.elim hs0 hv0)), ?_⟩⟩
              rw [Int.toNat_natCast, Int.toNat_natCast, Int.toNat_natCast]
              refine ⟨_, cn, ?_, hsp2⟩
              unfold isInV at hv0; unfold hoV; (repeat' split at hv0) <;> (repeat' split) <;> first | rfl | (exfalso; omega) | omega
          · skip
            refine qG.blk 2 (pc' := 68) (ls' := [(2, 95), (0, ((c9 : Nat) : Int)), (0, ((k9 : Nat) : Int)), (0, ((s9 : Nat) : Int)), (0, v), (0, cn)]) (st' := [(0, 1), (0, v)]) (w' := wh) (n' := 142) rfl ?_
            refine qG.br (P := v = 1) (pc1 := 71) (pc2 := 78) (st1 := []) rfl (fun hv2 => ?_) (fun hv2 => ?_)
            · skip
              refine qG.blk 3 (pc' := 80) (ls' := [(2, 95), (0, ((c9 : Nat) : Int)), (0, ((k9 : Nat) : Int)), (0, ((s9 : Nat) : Int)), (0, v), (0, cn)]) (st' := [(0, wh 95 46)]) (w' := wh) (n' := 142) rfl ?_
              refine qG.ret rfl rfl ?_
              subst hQ9
              refine ⟨_, rfl, .inr ⟨fun z => z.elim hc0 (fun z => z.elim hk0 (fun z => z.elim hs0 hv0)), ?_⟩⟩
              rw [Int.toNat_natCast, Int.toNat_natCast, Int.toNat_natCast]
              refine ⟨_, cn, ?_, hsp2⟩
              unfold isInV at hv0; unfold hoV; (repeat' split at hv0) <;> (repeat' split) <;> first | rfl | (exfalso; omega) | omega
            · skip
              refine qG.blk 1 (pc' := 80) (ls' := [(2, 95), (0, ((c9 : Nat) : Int)), (0, ((k9 : Nat) : Int)), (0, ((s9 : Nat) : Int)), (0, v), (0, cn)]) (st' := [(0, cn)]) (w' := wh) (n' := 142) rfl ?_
              refine qG.ret rfl rfl ?_
              subst hQ9
              refine ⟨_, rfl, .inr ⟨fun z => z.elim hc0 (fun z => z.elim hk0 (fun z => z.elim hs0 hv0)), ?_⟩⟩
              rw [Int.toNat_natCast, Int.toNat_natCast, Int.toNat_natCast]
              refine ⟨_, cn, ?_, hsp2⟩
              unfold isInV at hv0; unfold hoV; (repeat' split at hv0) <;> (repeat' split) <;> first | rfl | (exfalso; omega) | omega
