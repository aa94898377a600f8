/-! hide on both sides -/
theorem pz_180 {w : qW} {c k : Nat} (hk1 : 1 ≤ k) (hk2 : k ≤ 4) : pzN w c k ≤ 180 := by
  have key : ∀ {k nn mm : Nat}, k ≤ 4 → gosC k nn mm = true → binm 16 k = nn → budH nn mm 180 = true → pzN w c k ≤ 180 := fun {k nn mm} h4 hg hN hb => by
    have q := fp_180 (w := w) (c := c) hg hN h4 hb nn (Nat.le_refl _)
    unfold pzN
    rw [fp_sets (w := w) (c := c) hg hN]
    exact q
  rcases (show k = 1 ∨ k = 2 ∨ k = 3 ∨ k = 4 by omega) with rfl | rfl | rfl | rfl
  · exact key (by decide) gos_1 (by decide +kernel) bud_1
  · exact key (by decide) gos_2 (by decide +kernel) bud_2
  · exact key (by decide) gos_3 (by decide +kernel) bud_3
  · exact key (by decide) gos_4 (by decide +kernel) bud_4
theorem TX.ctb {w : qW} {c k : Nat} (hk1 : 1 ≤ k) (hk2 : k ≤ 4) (h : TX 65536 w c k) : CTB (pzN w c k) (pzP w c k) (pzM w c k) w := ⟨pz_180 hk1 hk2, h.1, fun j hj => h.2.1 j hj, fun i j hi hj => h.2.2 i j hi hj⟩
/-- the shows' views, by the second -/
theorem siF_vw {w : qW} {c : Nat} {K N : Nat → Int} {L g u : Nat} (hg : g < L) (hu : u < dN (K g) (N g)) : siF w c K N L (scF K N g + u) = vwF w c K N g := by
  have e : scF K N (g + 1) = scF K N g + dN (K g) (N g) := rfl
  rw [siF_up (show scF K N g + u < scF K N (g + 1) by omega) L (by omega), siF_at (by omega)]
noncomputable def rK (w : qW) (k i : Nat) : Int := w 104 (40 * k + i)
noncomputable def rN (w : qW) (k i : Nat) : Int := w 105 (40 * k + i)
/-- what hide answers -/
noncomputable def HDR (w : qW) (c k s : Nat) (v x : Int) : Prop := ∃ fl cn, x = hoV fl cn v ∧ HSP (pzN w c s) (pzP w c s) (pzM w c s) (fun t => siF w c (rK w k) (rN w k) (w 106 k).toNat t) (scF (rK w k) (rN w k) (w 106 k).toNat) fl cn
noncomputable def HDT (w : qW) (c k s v x : Int) : Prop := ((isInV c 0 2 = 0 ∨ isInV k 0 3 = 0 ∨ isInV s 1 4 = 0 ∨ isInV v 0 2 = 0) ∧ x = -1) ∨ (¬ (isInV c 0 2 = 0 ∨ isInV k 0 3 = 0 ∨ isInV s 1 4 = 0 ∨ isInV v 0 2 = 0) ∧ HDR w c.toNat k.toNat s.toNat v x)
theorem HDT.uniq {w : qW} {c k s v x y : Int} (h : HDT w c k s v x) (h2 : HDT w c k s v y) : x = y := by
  rcases h with ⟨a, b⟩ | ⟨a, fl, cn, b, e⟩
  · rcases h2 with ⟨-, b2⟩ | ⟨a2, -⟩
    · rw [b, b2]
    · exact absurd a a2
  · rcases h2 with ⟨a2, -⟩ | ⟨-, fl2, cn2, b2, e2⟩
    · exact absurd a2 a
    · obtain ⟨e3, e4⟩ := e.uniq e2
      rw [b, b2, e3, e4]
noncomputable def RRh (w w1 : qW) : Prop := RRe w w1 ∧ ∀ i, w1 99 i = w 99 i
theorem rK_cg {w w1 : qW} (h : RwM w w1) (k : Nat) : rK w1 k = rK w k ∧ rN w1 k = rN w k ∧ w1 106 k = w 106 k := ⟨funext fun i => (h _).1, funext fun i => (h _).2.1, (h k).2.2⟩
theorem HDT.cg {w w1 : qW} (h : RRh w w1) {c k s v x : Int} (hd : HDT w1 c k s v x) : HDT w c k s v x := by
  rcases hd with q | ⟨a, fl, cn, b, e⟩
  · exact .inl q
  · obtain ⟨⟨⟨h96, h97, h98, h100⟩, hr⟩, h99⟩ := h
    obtain ⟨e1, e2, e3⟩ := pz_cg h96 h99 c.toNat s.toNat
    obtain ⟨k1, k2, k3⟩ := rK_cg hr k.toNat
    rw [e1, e2, e3, k1, k2, k3] at e
    refine .inr ⟨a, fl, cn, b, e.cg (fun i _ => rfl) (fun i j _ _ => rfl) (fun t _ => ?_)⟩
    exact siF_cg h96 h97 h98 h100 _ _ _ t _
noncomputable def rrhM (m : List Nat) : Bool := rreM m && m.all (fun e => !Nat.beq (e % 1000) 99)
theorem RRh.aw {m : List Nat} {w w1 : qW} (a : AW m w w1) (hm : rrhM m = true) : RRh w w1 := by
  unfold rrhM at hm
  rw [Bool.and_eq_true] at hm
  exact ⟨RRe.aw a hm.1, fun i => a.a (by decide) hm.2 i⟩
theorem HSP.kn {Nn : Nat} {P : Nat → Int} {M : Nat → Nat → Bool} {w : qW} {c L : Nat} {K N K2 N2 : Nat → Int} {fl cn : Int} (h : KN K N K2 N2 L) (hs : HSP Nn P M (fun t => siF w c K N L t) (scF K N L) fl cn) : HSP Nn P M (fun t => siF w c K2 N2 L t) (scF K2 N2 L) fl cn := by
  rw [← (h.st L (Nat.le_refl _)).2.2.2.2.1]
  exact hs.cg (fun _ _ => rfl) (fun _ _ _ _ => rfl) (fun t _ => h.si w c t L (Nat.le_refl _))
theorem qG.sw3 {sc : Option (Nat × (Nat → Int))} {d k pc n : Nat} {ls st : List qV} {w : qW} {Q : qV → qW → Nat → Prop} {x : Int} {a0 a1 a2 : Option qC} {pc' n' : Nat} {ls' st' : List qV} {w' : qW} (h : qone sc k pc ls st w n = if x = 0 then a0 else if x = 1 then a1 else if x = 2 then a2 else some (pc', ls', st', w', n')) (hx : x < 0 ∨ 2 < x) (g : qG sc d k pc' ls' st' w' n' Q) : qG sc d k pc ls st w n Q := by
  rw [if_neg (by omega), if_neg (by omega), if_neg (by omega)] at h
  exact qG.one h g
theorem K_X11_isSize2 {d : Nat} (hd : 0 ≤ d) (c : Int) (w : qW) : qG none d 200 0 [(0, c)] [] w 142 (fun (r : qV) (w1 : qW) (n1 : Nat) => r = (0, isInV c 1 4) ∧ w1 = w ∧ n1 = 142) := by
  generalize hQ9 : (fun (r : qV) (w1 : qW) (n1 : Nat) => r = (0, isInV c 1 4) ∧ w1 = w ∧ n1 = 142) = Q9
  refine qG.blk 2 (pc' := 2) (ls' := [(0, c)]) (st' := [(0, 1), (0, c)]) (w' := w) (n' := 142) rfl ?_
  refine qG.br (P := c < 1) (pc1 := 14) (pc2 := 5) (st1 := []) rfl (fun h1 => ?_) (fun h1 => ?_)
  · skip
    refine qG.blk 1 (pc' := 15) (ls' := [(0, c)]) (st' := [(0, 0)]) (w' := w) (n' := 142) rfl ?_
    refine qG.ret rfl (by first | rfl | exact decide_eq_true (by omega)) ?_
    subst hQ9
    exact ⟨by unfold isInV; split <;> (try split) <;> first | rfl | (exfalso; omega), rfl, rfl⟩
  · skip
    refine qG.blk 2 (pc' := 7) (ls' := [(0, c)]) (st' := [(0, 4), (0, c)]) (w' := w) (n' := 142) rfl ?_
    refine qG.br (P := 4 < c) (pc1 := 14) (pc2 := 10) (st1 := []) rfl (fun h2 => ?_) (fun h2 => ?_)
    · skip
      refine qG.blk 1 (pc' := 15) (ls' := [(0, c)]) (st' := [(0, 0)]) (w' := w) (n' := 142) rfl ?_
      refine qG.ret rfl (by first | rfl | exact decide_eq_true (by omega)) ?_
      subst hQ9
      exact ⟨by unfold isInV; split <;> (try split) <;> first | rfl | (exfalso; omega), rfl, rfl⟩
    · skip
      refine qG.blk 2 (pc' := 15) (ls' := [(0, c)]) (st' := [(0, 1)]) (w' := w) (n' := 142) rfl ?_
      refine qG.ret rfl (by first | rfl | exact decide_eq_true (by omega)) ?_
      subst hQ9
      exact ⟨by unfold isInV; split <;> (try split) <;> first | rfl | (exfalso; omega), rfl, rfl⟩
