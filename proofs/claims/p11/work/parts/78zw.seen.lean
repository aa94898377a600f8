/-! seen and run, on both sides -/
theorem qG.sw4 {sc : Option (Nat × (Nat → Int))} {d k pc n : Nat} {ls st : List qV} {w : qW} {Q : qV → qW → Nat → Prop} {x : Int} {a0 a1 a2 a3 : Option qC} {pc' n' : Nat} {ls' st' : List qV} {w' : qW} (h : qone sc k pc ls st w n = if x = 0 then a0 else if x = 1 then a1 else if x = 2 then a2 else if x = 3 then a3 else some (pc', ls', st', w', n')) (hx : x < 0 ∨ 3 < x) (g : qG sc d k pc' ls' st' w' n' Q) : qG sc d k pc ls st w n Q := by
  rw [if_neg (by omega), if_neg (by omega), if_neg (by omega), if_neg (by omega)] at h
  exact qG.one h g
theorem vwF_cg {w w1 : qW} (h96 : ∀ i, w1 96 i = w 96 i) (h97 : ∀ i, w1 97 i = w 97 i) (h98 : ∀ i, w1 98 i = w 98 i) (h100 : ∀ i, w1 100 i = w 100 i) (c : Nat) (K N : Nat → Int) (i : Nat) : vwF w1 c K N i = vwF w c K N i := seG_cg h96 h97 h98 h100 c _ _ _ 10
theorem asF_cg {w w1 : qW} (h96 : ∀ i, w1 96 i = w 96 i) (h97 : ∀ i, w1 97 i = w 97 i) (h98 : ∀ i, w1 98 i = w 98 i) (h100 : ∀ i, w1 100 i = w 100 i) (c : Nat) (K N : Nat → Int) : ∀ i, asF w1 c K N i = asF w c K N i
  | 0 => rfl
  | i + 1 => by
    show qor _ _ = qor _ _
    rw [asF_cg h96 h97 h98 h100 c K N i, vwF_cg h96 h97 h98 h100]
def rnV (w : qW) (c : Nat) (K N : Nat → Int) (L : Nat) (v : Int) : Int := fcV ((scF K N L : Nat) : Int) (asF w c K N L) (moF K N L) (tuF K L) v
theorem rnV_kn {w : qW} {c : Nat} {K N K2 N2 : Nat → Int} {L : Nat} (h : KN K N K2 N2 L) (v : Int) : rnV w c K N L v = rnV w c K2 N2 L v := by
  obtain ⟨-, -, -, a, b, m⟩ := h.st L (Nat.le_refl _)
  unfold rnV
  rw [a, b, m, h.al w c L (Nat.le_refl _)]
def rnR (w : qW) (c k : Nat) (v : Int) : Int := rnV w c (fun i => w 104 (40 * k + i)) (fun i => w 105 (40 * k + i)) (w 106 k).toNat v
def rnA (w : qW) (c k v : Int) : Int := if isInV c 0 2 = 0 then -1 else if isInV k 0 3 = 0 then -1 else rnR w c.toNat k.toNat v
/-- the rows that a show run reads -/
def RRe (w w1 : qW) : Prop := ((∀ i, w1 96 i = w 96 i) ∧ (∀ i, w1 97 i = w 97 i) ∧ (∀ i, w1 98 i = w 98 i) ∧ ∀ i, w1 100 i = w 100 i) ∧ RwM w w1
theorem rnR_cg {w w1 : qW} (h : RRe w w1) (c k : Nat) (v : Int) : rnR w1 c k v = rnR w c k v := by
  obtain ⟨⟨a, b, c9, d⟩, r⟩ := h
  unfold rnR rnV
  rw [show (fun i => w1 104 (40 * k + i)) = (fun i => w 104 (40 * k + i)) from funext fun i => (r _).1, show (fun i => w1 105 (40 * k + i)) = (fun i => w 105 (40 * k + i)) from funext fun i => (r _).2.1, (r k).2.2, asF_cg a b c9 d]
theorem rnA_cg {w w1 : qW} (h : RRe w w1) (c k v : Int) : rnA w1 c k v = rnA w c k v := by
  unfold rnA; rw [rnR_cg h]
def rreM (m : List Nat) : Bool := [96, 97, 98, 100, 104, 105, 106].all (fun p => m.all (fun e => !Nat.beq (e % 1000) p))
theorem RRe.aw {m : List Nat} {w w1 : qW} (a : AW m w w1) (hm : rreM m = true) : RRe w w1 := by
  have r : ∀ p ∈ ([96, 97, 98, 100, 104, 105, 106] : List Nat), ∀ j, w1 p j = w p j := fun p hp j => a.a (show p < 1000 by (have q : ∀ p ∈ ([96, 97, 98, 100, 104, 105, 106] : List Nat), p < 1000 := by decide); exact q p hp) (List.all_eq_true.mp hm p hp) j
  exact ⟨⟨r 96 (by decide), r 97 (by decide), r 98 (by decide), r 100 (by decide)⟩, fun q => ⟨r 104 (by decide) q, r 105 (by decide) q, r 106 (by decide) q⟩⟩
theorem CHP.row {p c : Nat} {w w1 : qW} {K N : Nat → Int} {i : Nat} (hp : SHOWP p) (h : CHP p c w K N i w1) : w1 (p + 1) = w (p + 1) ∧ w1 (p + 2) = w (p + 2) ∧ w1 p 2 = w p 2 ∧ ∀ q j, q < 4 ∨ 24 ≤ q ∧ q < 79 → w1 q j = w q j := by
  obtain ⟨-, -, -, -, -, -, -, e⟩ := h
  unfold SHOWP at hp
  exact ⟨funext fun j => e _ j (by omega) (by omega), funext fun j => e _ j (by omega) (by omega), e p 2 (by omega) (by omega), fun q j hq => e q j (by omega) (by omega)⟩
theorem K_factN4 {d : Nat} (hd : 2 ≤ d) (v : Int) (L : Nat) (hL : L ≤ 40) (w : qW) (hI : yInv zgf zga zra zSp w) (hs : w 4 2 = (L : Int)) (hKW : KNw (w 5) (w 6) L) : qG none d 118 0 [(2, 4), (0, v)] [] w 142 (fun (r : qV) (w1 : qW) (n1 : Nat) => r = (0, fcV ((scF (w 5) (w 6) L : Nat) : Int) (w 4 7) (w 4 8) (w 4 9) v) ∧ w1 = w ∧ n1 = 142) := by
  by_cases e0 : v = 0
  · rw [e0]; exact K_fact4_0 hd L hL w hI hs hKW
  by_cases e1 : v = 1
  · rw [e1]; exact K_fact4_1 hd L hL w hI hs hKW
  by_cases e2 : v = 2
  · rw [e2]; exact K_fact4_2 hd L hL w hI hs hKW
  by_cases e3 : v = 3
  · rw [e3]; exact K_fact4_3 hd L hL w hI hs hKW
  refine qG.blk 1 (pc' := 1) (ls' := [(2, 4), (0, v)]) (st' := [(0, v)]) (w' := w) (n' := 142) rfl ?_
  refine qG.sw4 (x := v) (pc' := 52) (ls' := [(2, 4), (0, v)]) (st' := []) (w' := w) (n' := 142) rfl (by omega) ?_
  refine qG.blk 1 (pc' := 53) (ls' := [(2, 4), (0, v)]) (st' := [(0, -1)]) (w' := w) (n' := 142) rfl ?_
  refine qG.ret rfl rfl ?_
  exact ⟨congrArg (Prod.mk 0) (fcV_n (by omega)), rfl, rfl⟩
theorem K_factN79 {d : Nat} (hd : 2 ≤ d) (v : Int) (L : Nat) (hL : L ≤ 40) (w : qW) (hI : yInv zgf zga zra zSp w) (hs : w 79 2 = (L : Int)) (hKW : KNw (w 80) (w 81) L) : qG none d 118 0 [(2, 79), (0, v)] [] w 142 (fun (r : qV) (w1 : qW) (n1 : Nat) => r = (0, fcV ((scF (w 80) (w 81) L : Nat) : Int) (w 79 7) (w 79 8) (w 79 9) v) ∧ w1 = w ∧ n1 = 142) := by
  by_cases e0 : v = 0
  · rw [e0]; exact K_fact79_0 hd L hL w hI hs hKW
  by_cases e1 : v = 1
  · rw [e1]; exact K_fact79_1 hd L hL w hI hs hKW
  by_cases e2 : v = 2
  · rw [e2]; exact K_fact79_2 hd L hL w hI hs hKW
  by_cases e3 : v = 3
  · rw [e3]; exact K_fact79_3 hd L hL w hI hs hKW
  refine qG.blk 1 (pc' := 1) (ls' := [(2, 79), (0, v)]) (st' := [(0, v)]) (w' := w) (n' := 142) rfl ?_
  refine qG.sw4 (x := v) (pc' := 52) (ls' := [(2, 79), (0, v)]) (st' := []) (w' := w) (n' := 142) rfl (by omega) ?_
  refine qG.blk 1 (pc' := 53) (ls' := [(2, 79), (0, v)]) (st' := [(0, -1)]) (w' := w) (n' := 142) rfl ?_
  refine qG.ret rfl rfl ?_
  exact ⟨congrArg (Prod.mk 0) (fcV_n (by omega)), rfl, rfl⟩
theorem K_factN83 {d : Nat} (hd : 2 ≤ d) (v : Int) (L : Nat) (hL : L ≤ 40) (w : qW) (hI : yInv zgf zga zra zSp w) (hs : w 83 2 = (L : Int)) (hKW : KNw (w 84) (w 85) L) : qG none d 118 0 [(2, 83), (0, v)] [] w 142 (fun (r : qV) (w1 : qW) (n1 : Nat) => r = (0, fcV ((scF (w 84) (w 85) L : Nat) : Int) (w 83 7) (w 83 8) (w 83 9) v) ∧ w1 = w ∧ n1 = 142) := by
  by_cases e0 : v = 0
  · rw [e0]; exact K_fact83_0 hd L hL w hI hs hKW
  by_cases e1 : v = 1
  · rw [e1]; exact K_fact83_1 hd L hL w hI hs hKW
  by_cases e2 : v = 2
  · rw [e2]; exact K_fact83_2 hd L hL w hI hs hKW
  by_cases e3 : v = 3
  · rw [e3]; exact K_fact83_3 hd L hL w hI hs hKW
  refine qG.blk 1 (pc' := 1) (ls' := [(2, 83), (0, v)]) (st' := [(0, v)]) (w' := w) (n' := 142) rfl ?_
  refine qG.sw4 (x := v) (pc' := 52) (ls' := [(2, 83), (0, v)]) (st' := []) (w' := w) (n' := 142) rfl (by omega) ?_
  refine qG.blk 1 (pc' := 53) (ls' := [(2, 83), (0, v)]) (st' := [(0, -1)]) (w' := w) (n' := 142) rfl ?_
  refine qG.ret rfl rfl ?_
  exact ⟨congrArg (Prod.mk 0) (fcV_n (by omega)), rfl, rfl⟩
theorem K_factN87 {d : Nat} (hd : 2 ≤ d) (v : Int) (L : Nat) (hL : L ≤ 40) (w : qW) (hI : yInv zgf zga zra zSp w) (hs : w 87 2 = (L : Int)) (hKW : KNw (w 88) (w 89) L) : qG none d 118 0 [(2, 87), (0, v)] [] w 142 (fun (r : qV) (w1 : qW) (n1 : Nat) => r = (0, fcV ((scF (w 88) (w 89) L : Nat) : Int) (w 87 7) (w 87 8) (w 87 9) v) ∧ w1 = w ∧ n1 = 142) := by
  by_cases e0 : v = 0
  · rw [e0]; exact K_fact87_0 hd L hL w hI hs hKW
  by_cases e1 : v = 1
  · rw [e1]; exact K_fact87_1 hd L hL w hI hs hKW
  by_cases e2 : v = 2
  · rw [e2]; exact K_fact87_2 hd L hL w hI hs hKW
  by_cases e3 : v = 3
  · rw [e3]; exact K_fact87_3 hd L hL w hI hs hKW
  refine qG.blk 1 (pc' := 1) (ls' := [(2, 87), (0, v)]) (st' := [(0, v)]) (w' := w) (n' := 142) rfl ?_
  refine qG.sw4 (x := v) (pc' := 52) (ls' := [(2, 87), (0, v)]) (st' := []) (w' := w) (n' := 142) rfl (by omega) ?_
  refine qG.blk 1 (pc' := 53) (ls' := [(2, 87), (0, v)]) (st' := [(0, -1)]) (w' := w) (n' := 142) rfl ?_
  refine qG.ret rfl rfl ?_
  exact ⟨congrArg (Prod.mk 0) (fcV_n (by omega)), rfl, rfl⟩
theorem K_factN91 {d : Nat} (hd : 2 ≤ d) (v : Int) (L : Nat) (hL : L ≤ 40) (w : qW) (hI : yInv zgf zga zra zSp w) (hs : w 91 2 = (L : Int)) (hKW : KNw (w 92) (w 93) L) : qG none d 118 0 [(2, 91), (0, v)] [] w 142 (fun (r : qV) (w1 : qW) (n1 : Nat) => r = (0, fcV ((scF (w 92) (w 93) L : Nat) : Int) (w 91 7) (w 91 8) (w 91 9) v) ∧ w1 = w ∧ n1 = 142) := by
  by_cases e0 : v = 0
  · rw [e0]; exact K_fact91_0 hd L hL w hI hs hKW
  by_cases e1 : v = 1
  · rw [e1]; exact K_fact91_1 hd L hL w hI hs hKW
  by_cases e2 : v = 2
  · rw [e2]; exact K_fact91_2 hd L hL w hI hs hKW
  by_cases e3 : v = 3
  · rw [e3]; exact K_fact91_3 hd L hL w hI hs hKW
  refine qG.blk 1 (pc' := 1) (ls' := [(2, 91), (0, v)]) (st' := [(0, v)]) (w' := w) (n' := 142) rfl ?_
  refine qG.sw4 (x := v) (pc' := 52) (ls' := [(2, 91), (0, v)]) (st' := []) (w' := w) (n' := 142) rfl (by omega) ?_
  refine qG.blk 1 (pc' := 53) (ls' := [(2, 91), (0, v)]) (st' := [(0, -1)]) (w' := w) (n' := 142) rfl ?_
  refine qG.ret rfl rfl ?_
  exact ⟨congrArg (Prod.mk 0) (fcV_n (by omega)), rfl, rfl⟩
theorem K_runB4_64 {d : Nat} (hd : 3 ≤ d) (k : Nat) (hk : k < 4) (v : Int) (L : Nat) (hL : L ≤ 40) (w : qW) (hI : yInv zgf zga zra zSp w) (h3 : w 3 k = 4) (hs : w 4 2 = (L : Int)) (hKN : KNr (w 5) (w 6) L) (hKW : KNw (w 5) (w 6) L) (hK : w 64 0 = w 96 0) (hE : JE w) : qG none d 173 16 [(2, 1), (0, 0), (0, ((k : Nat) : Int)), (0, v)] [] w 142 (fun (r : qV) (_ : qW) (_ : Nat) => r = (0, rnV w 0 (w 5) (w 6) L v)) := by
  generalize hQ9 : (fun (r : qV) (_ : qW) (_ : Nat) => r = (0, rnV w 0 (w 5) (w 6) L v)) = Q9
  obtain ⟨d, rfl⟩ : ∃ d9, d = d9 + 1 := ⟨d - 1, by omega⟩
  refine qG.blk 2 (pc' := 20) (ls' := [(2, 1), (0, 0), (0, ((k : Nat) : Int)), (0, v)]) (st' := [(2, w 1 1)]) (w' := w) (n' := 142) rfl ?_
  rw [show w 1 1 = 3 from zref hI rfl rfl]
  refine qG.blk 1 (pc' := 21) (ls' := [(2, 1), (0, 0), (0, ((k : Nat) : Int)), (0, v)]) (st' := [(0, ((k : Nat) : Int)), (2, 3)]) (w' := w) (n' := 142) rfl ?_
  refine qG.ar (P := 0 ≤ ((k : Nat) : Int) ∧ ((k : Nat) : Int) < ((4 : Nat) : Int)) (P2 := 0 < (3 : Int) ∧ (3 : Int) ≤ ((142 : Nat) : Int)) (pc' := 22) (ls' := [(2, 1), (0, 0), (0, ((k : Nat) : Int)), (0, v)]) (st' := [(2, w 3 k)]) (w' := w) (n' := 142) rfl (by omega) (by decide) ?_
  rw [show w 3 k = 4 from h3]
  refine qG.blk 2 (pc' := 26) (ls' := [(2, 1), (0, 0), (0, ((k : Nat) : Int)), (0, v)]) (st' := [(2, w 1 0), (2, 4)]) (w' := w) (n' := 142) rfl ?_
  rw [show w 1 0 = 2 from zref hI rfl rfl]
  refine qG.blk 1 (pc' := 27) (ls' := [(2, 1), (0, 0), (0, ((k : Nat) : Int)), (0, v)]) (st' := [(0, 0), (2, 2), (2, 4)]) (w' := w) (n' := 142) rfl ?_
  refine qG.ar (P := 0 ≤ 0 ∧ 0 < ((3 : Nat) : Int)) (P2 := 0 < (2 : Int) ∧ (2 : Int) ≤ ((142 : Nat) : Int)) (pc' := 28) (ls' := [(2, 1), (0, 0), (0, ((k : Nat) : Int)), (0, v)]) (st' := [(2, w 2 0), (2, 4)]) (w' := w) (n' := 142) rfl (by omega) (by decide) ?_
  rw [show w 2 0 = 64 from zref hI rfl rfl]
  refine qG.call (t := 111) (na := 2) (sk := 1) (md := 1) (ls1 := [(2, 4), (2, 64), (9, 0)]) (r1 := []) rfl rfl rfl rfl rfl (K_perf4_64 (by omega) L hL w hI hs hKN hK hE) ?_
  rintro _ w1 _ ⟨rfl, rfl, hI1, hC⟩
  obtain ⟨e1, e2, e3, hfr⟩ := hC.row (by unfold SHOWP; omega)
  obtain ⟨c4, c5, c6, c7, c8, c9, cv, -⟩ := hC
  have hs1 : w1 4 2 = (L : Int) := e3.trans hs
  have hKW1 : KNw (w1 5) (w1 6) L := by rw [e1, e2]; exact hKW
  show qG none (d + 1) 173 31 [(2, 1), (0, 0), (0, ((k : Nat) : Int)), (0, v)] [] w1 142 Q9
  refine qG.blk 2 (pc' := 35) (ls' := [(2, 1), (0, 0), (0, ((k : Nat) : Int)), (0, v)]) (st' := [(2, w1 1 1)]) (w' := w1) (n' := 142) rfl ?_
  rw [show w1 1 1 = 3 from (hfr 1 1 (by omega)).trans (zref hI rfl rfl)]
  refine qG.blk 1 (pc' := 36) (ls' := [(2, 1), (0, 0), (0, ((k : Nat) : Int)), (0, v)]) (st' := [(0, ((k : Nat) : Int)), (2, 3)]) (w' := w1) (n' := 142) rfl ?_
  refine qG.ar (P := 0 ≤ ((k : Nat) : Int) ∧ ((k : Nat) : Int) < ((4 : Nat) : Int)) (P2 := 0 < (3 : Int) ∧ (3 : Int) ≤ ((142 : Nat) : Int)) (pc' := 37) (ls' := [(2, 1), (0, 0), (0, ((k : Nat) : Int)), (0, v)]) (st' := [(2, w1 3 k)]) (w' := w1) (n' := 142) rfl (by omega) (by decide) ?_
  rw [show w1 3 k = 4 from (hfr 3 k (by omega)).trans h3]
  refine qG.blk 1 (pc' := 38) (ls' := [(2, 1), (0, 0), (0, ((k : Nat) : Int)), (0, v)]) (st' := [(0, v), (2, 4)]) (w' := w1) (n' := 142) rfl ?_
  refine qG.call (t := 118) (na := 2) (sk := 1) (md := 1) (ls1 := [(2, 4), (0, v)]) (r1 := []) rfl rfl rfl rfl rfl (K_factN4 (by omega) v L hL w1 hI1 hs1 hKW1) ?_
  rw [e1, e2]
  rintro _ w7 _ ⟨rfl, hw7, rfl⟩
  rw [hw7]
  show qG none (d + 1) 173 41 [(2, 1), (0, 0), (0, ((k : Nat) : Int)), (0, v)] [(0, fcV ((scF (w 5) (w 6) L : Nat) : Int) (w1 4 7) (w1 4 8) (w1 4 9) v)] w1 142 Q9
  refine qG.ret rfl rfl ?_
  subst hQ9
  exact congrArg (Prod.mk 0) (by unfold rnV; rw [c7, c8, c9])
theorem K_runB4_69 {d : Nat} (hd : 3 ≤ d) (k : Nat) (hk : k < 4) (v : Int) (L : Nat) (hL : L ≤ 40) (w : qW) (hI : yInv zgf zga zra zSp w) (h3 : w 3 k = 4) (hs : w 4 2 = (L : Int)) (hKN : KNr (w 5) (w 6) L) (hKW : KNw (w 5) (w 6) L) (hK : w 69 0 = w 96 1) (hE : JE w) : qG none d 173 16 [(2, 1), (0, 1), (0, ((k : Nat) : Int)), (0, v)] [] w 142 (fun (r : qV) (_ : qW) (_ : Nat) => r = (0, rnV w 1 (w 5) (w 6) L v)) := by
  generalize hQ9 : (fun (r : qV) (_ : qW) (_ : Nat) => r = (0, rnV w 1 (w 5) (w 6) L v)) = Q9
  obtain ⟨d, rfl⟩ : ∃ d9, d = d9 + 1 := ⟨d - 1, by omega⟩
  refine qG.blk 2 (pc' := 20) (ls' := [(2, 1), (0, 1), (0, ((k : Nat) : Int)), (0, v)]) (st' := [(2, w 1 1)]) (w' := w) (n' := 142) rfl ?_
  rw [show w 1 1 = 3 from zref hI rfl rfl]
  refine qG.blk 1 (pc' := 21) (ls' := [(2, 1), (0, 1), (0, ((k : Nat) : Int)), (0, v)]) (st' := [(0, ((k : Nat) : Int)), (2, 3)]) (w' := w) (n' := 142) rfl ?_
  refine qG.ar (P := 0 ≤ ((k : Nat) : Int) ∧ ((k : Nat) : Int) < ((4 : Nat) : Int)) (P2 := 0 < (3 : Int) ∧ (3 : Int) ≤ ((142 : Nat) : Int)) (pc' := 22) (ls' := [(2, 1), (0, 1), (0, ((k : Nat) : Int)), (0, v)]) (st' := [(2, w 3 k)]) (w' := w) (n' := 142) rfl (by omega) (by decide) ?_
  rw [show w 3 k = 4 from h3]
  refine qG.blk 2 (pc' := 26) (ls' := [(2, 1), (0, 1), (0, ((k : Nat) : Int)), (0, v)]) (st' := [(2, w 1 0), (2, 4)]) (w' := w) (n' := 142) rfl ?_
  rw [show w 1 0 = 2 from zref hI rfl rfl]
  refine qG.blk 1 (pc' := 27) (ls' := [(2, 1), (0, 1), (0, ((k : Nat) : Int)), (0, v)]) (st' := [(0, 1), (2, 2), (2, 4)]) (w' := w) (n' := 142) rfl ?_
  refine qG.ar (P := 0 ≤ 1 ∧ 1 < ((3 : Nat) : Int)) (P2 := 0 < (2 : Int) ∧ (2 : Int) ≤ ((142 : Nat) : Int)) (pc' := 28) (ls' := [(2, 1), (0, 1), (0, ((k : Nat) : Int)), (0, v)]) (st' := [(2, w 2 1), (2, 4)]) (w' := w) (n' := 142) rfl (by omega) (by decide) ?_
  rw [show w 2 1 = 69 from zref hI rfl rfl]
  refine qG.call (t := 111) (na := 2) (sk := 1) (md := 1) (ls1 := [(2, 4), (2, 69), (9, 0)]) (r1 := []) rfl rfl rfl rfl rfl (K_perf4_69 (by omega) L hL w hI hs hKN hK hE) ?_
  rintro _ w1 _ ⟨rfl, rfl, hI1, hC⟩
  obtain ⟨e1, e2, e3, hfr⟩ := hC.row (by unfold SHOWP; omega)
  obtain ⟨c4, c5, c6, c7, c8, c9, cv, -⟩ := hC
  have hs1 : w1 4 2 = (L : Int) := e3.trans hs
  have hKW1 : KNw (w1 5) (w1 6) L := by rw [e1, e2]; exact hKW
  show qG none (d + 1) 173 31 [(2, 1), (0, 1), (0, ((k : Nat) : Int)), (0, v)] [] w1 142 Q9
  refine qG.blk 2 (pc' := 35) (ls' := [(2, 1), (0, 1), (0, ((k : Nat) : Int)), (0, v)]) (st' := [(2, w1 1 1)]) (w' := w1) (n' := 142) rfl ?_
  rw [show w1 1 1 = 3 from (hfr 1 1 (by omega)).trans (zref hI rfl rfl)]
  refine qG.blk 1 (pc' := 36) (ls' := [(2, 1), (0, 1), (0, ((k : Nat) : Int)), (0, v)]) (st' := [(0, ((k : Nat) : Int)), (2, 3)]) (w' := w1) (n' := 142) rfl ?_
  refine qG.ar (P := 0 ≤ ((k : Nat) : Int) ∧ ((k : Nat) : Int) < ((4 : Nat) : Int)) (P2 := 0 < (3 : Int) ∧ (3 : Int) ≤ ((142 : Nat) : Int)) (pc' := 37) (ls' := [(2, 1), (0, 1), (0, ((k : Nat) : Int)), (0, v)]) (st' := [(2, w1 3 k)]) (w' := w1) (n' := 142) rfl (by omega) (by decide) ?_
  rw [show w1 3 k = 4 from (hfr 3 k (by omega)).trans h3]
  refine qG.blk 1 (pc' := 38) (ls' := [(2, 1), (0, 1), (0, ((k : Nat) : Int)), (0, v)]) (st' := [(0, v), (2, 4)]) (w' := w1) (n' := 142) rfl ?_
  refine qG.call (t := 118) (na := 2) (sk := 1) (md := 1) (ls1 := [(2, 4), (0, v)]) (r1 := []) rfl rfl rfl rfl rfl (K_factN4 (by omega) v L hL w1 hI1 hs1 hKW1) ?_
  rw [e1, e2]
  rintro _ w7 _ ⟨rfl, hw7, rfl⟩
  rw [hw7]
  show qG none (d + 1) 173 41 [(2, 1), (0, 1), (0, ((k : Nat) : Int)), (0, v)] [(0, fcV ((scF (w 5) (w 6) L : Nat) : Int) (w1 4 7) (w1 4 8) (w1 4 9) v)] w1 142 Q9
  refine qG.ret rfl rfl ?_
  subst hQ9
  exact congrArg (Prod.mk 0) (by unfold rnV; rw [c7, c8, c9])
theorem K_runB4_74 {d : Nat} (hd : 3 ≤ d) (k : Nat) (hk : k < 4) (v : Int) (L : Nat) (hL : L ≤ 40) (w : qW) (hI : yInv zgf zga zra zSp w) (h3 : w 3 k = 4) (hs : w 4 2 = (L : Int)) (hKN : KNr (w 5) (w 6) L) (hKW : KNw (w 5) (w 6) L) (hK : w 74 0 = w 96 2) (hE : JE w) : qG none d 173 16 [(2, 1), (0, 2), (0, ((k : Nat) : Int)), (0, v)] [] w 142 (fun (r : qV) (_ : qW) (_ : Nat) => r = (0, rnV w 2 (w 5) (w 6) L v)) := by
  generalize hQ9 : (fun (r : qV) (_ : qW) (_ : Nat) => r = (0, rnV w 2 (w 5) (w 6) L v)) = Q9
  obtain ⟨d, rfl⟩ : ∃ d9, d = d9 + 1 := ⟨d - 1, by omega⟩
  refine qG.blk 2 (pc' := 20) (ls' := [(2, 1), (0, 2), (0, ((k : Nat) : Int)), (0, v)]) (st' := [(2, w 1 1)]) (w' := w) (n' := 142) rfl ?_
  rw [show w 1 1 = 3 from zref hI rfl rfl]
  refine qG.blk 1 (pc' := 21) (ls' := [(2, 1), (0, 2), (0, ((k : Nat) : Int)), (0, v)]) (st' := [(0, ((k : Nat) : Int)), (2, 3)]) (w' := w) (n' := 142) rfl ?_
  refine qG.ar (P := 0 ≤ ((k : Nat) : Int) ∧ ((k : Nat) : Int) < ((4 : Nat) : Int)) (P2 := 0 < (3 : Int) ∧ (3 : Int) ≤ ((142 : Nat) : Int)) (pc' := 22) (ls' := [(2, 1), (0, 2), (0, ((k : Nat) : Int)), (0, v)]) (st' := [(2, w 3 k)]) (w' := w) (n' := 142) rfl (by omega) (by decide) ?_
  rw [show w 3 k = 4 from h3]
  refine qG.blk 2 (pc' := 26) (ls' := [(2, 1), (0, 2), (0, ((k : Nat) : Int)), (0, v)]) (st' := [(2, w 1 0), (2, 4)]) (w' := w) (n' := 142) rfl ?_
  rw [show w 1 0 = 2 from zref hI rfl rfl]
  refine qG.blk 1 (pc' := 27) (ls' := [(2, 1), (0, 2), (0, ((k : Nat) : Int)), (0, v)]) (st' := [(0, 2), (2, 2), (2, 4)]) (w' := w) (n' := 142) rfl ?_
  refine qG.ar (P := 0 ≤ 2 ∧ 2 < ((3 : Nat) : Int)) (P2 := 0 < (2 : Int) ∧ (2 : Int) ≤ ((142 : Nat) : Int)) (pc' := 28) (ls' := [(2, 1), (0, 2), (0, ((k : Nat) : Int)), (0, v)]) (st' := [(2, w 2 2), (2, 4)]) (w' := w) (n' := 142) rfl (by omega) (by decide) ?_
  rw [show w 2 2 = 74 from zref hI rfl rfl]
  refine qG.call (t := 111) (na := 2) (sk := 1) (md := 1) (ls1 := [(2, 4), (2, 74), (9, 0)]) (r1 := []) rfl rfl rfl rfl rfl (K_perf4_74 (by omega) L hL w hI hs hKN hK hE) ?_
  rintro _ w1 _ ⟨rfl, rfl, hI1, hC⟩
  obtain ⟨e1, e2, e3, hfr⟩ := hC.row (by unfold SHOWP; omega)
  obtain ⟨c4, c5, c6, c7, c8, c9, cv, -⟩ := hC
  have hs1 : w1 4 2 = (L : Int) := e3.trans hs
  have hKW1 : KNw (w1 5) (w1 6) L := by rw [e1, e2]; exact hKW
  show qG none (d + 1) 173 31 [(2, 1), (0, 2), (0, ((k : Nat) : Int)), (0, v)] [] w1 142 Q9
  refine qG.blk 2 (pc' := 35) (ls' := [(2, 1), (0, 2), (0, ((k : Nat) : Int)), (0, v)]) (st' := [(2, w1 1 1)]) (w' := w1) (n' := 142) rfl ?_
  rw [show w1 1 1 = 3 from (hfr 1 1 (by omega)).trans (zref hI rfl rfl)]
  refine qG.blk 1 (pc' := 36) (ls' := [(2, 1), (0, 2), (0, ((k : Nat) : Int)), (0, v)]) (st' := [(0, ((k : Nat) : Int)), (2, 3)]) (w' := w1) (n' := 142) rfl ?_
  refine qG.ar (P := 0 ≤ ((k : Nat) : Int) ∧ ((k : Nat) : Int) < ((4 : Nat) : Int)) (P2 := 0 < (3 : Int) ∧ (3 : Int) ≤ ((142 : Nat) : Int)) (pc' := 37) (ls' := [(2, 1), (0, 2), (0, ((k : Nat) : Int)), (0, v)]) (st' := [(2, w1 3 k)]) (w' := w1) (n' := 142) rfl (by omega) (by decide) ?_
  rw [show w1 3 k = 4 from (hfr 3 k (by omega)).trans h3]
  refine qG.blk 1 (pc' := 38) (ls' := [(2, 1), (0, 2), (0, ((k : Nat) : Int)), (0, v)]) (st' := [(0, v), (2, 4)]) (w' := w1) (n' := 142) rfl ?_
  refine qG.call (t := 118) (na := 2) (sk := 1) (md := 1) (ls1 := [(2, 4), (0, v)]) (r1 := []) rfl rfl rfl rfl rfl (K_factN4 (by omega) v L hL w1 hI1 hs1 hKW1) ?_
  rw [e1, e2]
  rintro _ w7 _ ⟨rfl, hw7, rfl⟩
  rw [hw7]
  show qG none (d + 1) 173 41 [(2, 1), (0, 2), (0, ((k : Nat) : Int)), (0, v)] [(0, fcV ((scF (w 5) (w 6) L : Nat) : Int) (w1 4 7) (w1 4 8) (w1 4 9) v)] w1 142 Q9
  refine qG.ret rfl rfl ?_
  subst hQ9
  exact congrArg (Prod.mk 0) (by unfold rnV; rw [c7, c8, c9])
theorem K_runB79_64 {d : Nat} (hd : 3 ≤ d) (k : Nat) (hk : k < 4) (v : Int) (L : Nat) (hL : L ≤ 40) (w : qW) (hI : yInv zgf zga zra zSp w) (h3 : w 3 k = 79) (hs : w 79 2 = (L : Int)) (hKN : KNr (w 80) (w 81) L) (hKW : KNw (w 80) (w 81) L) (hK : w 64 0 = w 96 0) (hE : JE w) : qG none d 173 16 [(2, 1), (0, 0), (0, ((k : Nat) : Int)), (0, v)] [] w 142 (fun (r : qV) (_ : qW) (_ : Nat) => r = (0, rnV w 0 (w 80) (w 81) L v)) := by
  generalize hQ9 : (fun (r : qV) (_ : qW) (_ : Nat) => r = (0, rnV w 0 (w 80) (w 81) L v)) = Q9
  obtain ⟨d, rfl⟩ : ∃ d9, d = d9 + 1 := ⟨d - 1, by omega⟩
  refine qG.blk 2 (pc' := 20) (ls' := [(2, 1), (0, 0), (0, ((k : Nat) : Int)), (0, v)]) (st' := [(2, w 1 1)]) (w' := w) (n' := 142) rfl ?_
  rw [show w 1 1 = 3 from zref hI rfl rfl]
  refine qG.blk 1 (pc' := 21) (ls' := [(2, 1), (0, 0), (0, ((k : Nat) : Int)), (0, v)]) (st' := [(0, ((k : Nat) : Int)), (2, 3)]) (w' := w) (n' := 142) rfl ?_
  refine qG.ar (P := 0 ≤ ((k : Nat) : Int) ∧ ((k : Nat) : Int) < ((4 : Nat) : Int)) (P2 := 0 < (3 : Int) ∧ (3 : Int) ≤ ((142 : Nat) : Int)) (pc' := 22) (ls' := [(2, 1), (0, 0), (0, ((k : Nat) : Int)), (0, v)]) (st' := [(2, w 3 k)]) (w' := w) (n' := 142) rfl (by omega) (by decide) ?_
  rw [show w 3 k = 79 from h3]
  refine qG.blk 2 (pc' := 26) (ls' := [(2, 1), (0, 0), (0, ((k : Nat) : Int)), (0, v)]) (st' := [(2, w 1 0), (2, 79)]) (w' := w) (n' := 142) rfl ?_
  rw [show w 1 0 = 2 from zref hI rfl rfl]
  refine qG.blk 1 (pc' := 27) (ls' := [(2, 1), (0, 0), (0, ((k : Nat) : Int)), (0, v)]) (st' := [(0, 0), (2, 2), (2, 79)]) (w' := w) (n' := 142) rfl ?_
  refine qG.ar (P := 0 ≤ 0 ∧ 0 < ((3 : Nat) : Int)) (P2 := 0 < (2 : Int) ∧ (2 : Int) ≤ ((142 : Nat) : Int)) (pc' := 28) (ls' := [(2, 1), (0, 0), (0, ((k : Nat) : Int)), (0, v)]) (st' := [(2, w 2 0), (2, 79)]) (w' := w) (n' := 142) rfl (by omega) (by decide) ?_
  rw [show w 2 0 = 64 from zref hI rfl rfl]
  refine qG.call (t := 111) (na := 2) (sk := 1) (md := 1) (ls1 := [(2, 79), (2, 64), (9, 0)]) (r1 := []) rfl rfl rfl rfl rfl (K_perf79_64 (by omega) L hL w hI hs hKN hK hE) ?_
  rintro _ w1 _ ⟨rfl, rfl, hI1, hC⟩
  obtain ⟨e1, e2, e3, hfr⟩ := hC.row (by unfold SHOWP; omega)
  obtain ⟨c4, c5, c6, c7, c8, c9, cv, -⟩ := hC
  have hs1 : w1 79 2 = (L : Int) := e3.trans hs
  have hKW1 : KNw (w1 80) (w1 81) L := by rw [e1, e2]; exact hKW
  show qG none (d + 1) 173 31 [(2, 1), (0, 0), (0, ((k : Nat) : Int)), (0, v)] [] w1 142 Q9
  refine qG.blk 2 (pc' := 35) (ls' := [(2, 1), (0, 0), (0, ((k : Nat) : Int)), (0, v)]) (st' := [(2, w1 1 1)]) (w' := w1) (n' := 142) rfl ?_
  rw [show w1 1 1 = 3 from (hfr 1 1 (by omega)).trans (zref hI rfl rfl)]
  refine qG.blk 1 (pc' := 36) (ls' := [(2, 1), (0, 0), (0, ((k : Nat) : Int)), (0, v)]) (st' := [(0, ((k : Nat) : Int)), (2, 3)]) (w' := w1) (n' := 142) rfl ?_
  refine qG.ar (P := 0 ≤ ((k : Nat) : Int) ∧ ((k : Nat) : Int) < ((4 : Nat) : Int)) (P2 := 0 < (3 : Int) ∧ (3 : Int) ≤ ((142 : Nat) : Int)) (pc' := 37) (ls' := [(2, 1), (0, 0), (0, ((k : Nat) : Int)), (0, v)]) (st' := [(2, w1 3 k)]) (w' := w1) (n' := 142) rfl (by omega) (by decide) ?_
  rw [show w1 3 k = 79 from (hfr 3 k (by omega)).trans h3]
  refine qG.blk 1 (pc' := 38) (ls' := [(2, 1), (0, 0), (0, ((k : Nat) : Int)), (0, v)]) (st' := [(0, v), (2, 79)]) (w' := w1) (n' := 142) rfl ?_
  refine qG.call (t := 118) (na := 2) (sk := 1) (md := 1) (ls1 := [(2, 79), (0, v)]) (r1 := []) rfl rfl rfl rfl rfl (K_factN79 (by omega) v L hL w1 hI1 hs1 hKW1) ?_
  rw [e1, e2]
  rintro _ w7 _ ⟨rfl, hw7, rfl⟩
  rw [hw7]
  show qG none (d + 1) 173 41 [(2, 1), (0, 0), (0, ((k : Nat) : Int)), (0, v)] [(0, fcV ((scF (w 80) (w 81) L : Nat) : Int) (w1 79 7) (w1 79 8) (w1 79 9) v)] w1 142 Q9
  refine qG.ret rfl rfl ?_
  subst hQ9
  exact congrArg (Prod.mk 0) (by unfold rnV; rw [c7, c8, c9])
theorem K_runB79_69 {d : Nat} (hd : 3 ≤ d) (k : Nat) (hk : k < 4) (v : Int) (L : Nat) (hL : L ≤ 40) (w : qW) (hI : yInv zgf zga zra zSp w) (h3 : w 3 k = 79) (hs : w 79 2 = (L : Int)) (hKN : KNr (w 80) (w 81) L) (hKW : KNw (w 80) (w 81) L) (hK : w 69 0 = w 96 1) (hE : JE w) : qG none d 173 16 [(2, 1), (0, 1), (0, ((k : Nat) : Int)), (0, v)] [] w 142 (fun (r : qV) (_ : qW) (_ : Nat) => r = (0, rnV w 1 (w 80) (w 81) L v)) := by
  generalize hQ9 : (fun (r : qV) (_ : qW) (_ : Nat) => r = (0, rnV w 1 (w 80) (w 81) L v)) = Q9
  obtain ⟨d, rfl⟩ : ∃ d9, d = d9 + 1 := ⟨d - 1, by omega⟩
  refine qG.blk 2 (pc' := 20) (ls' := [(2, 1), (0, 1), (0, ((k : Nat) : Int)), (0, v)]) (st' := [(2, w 1 1)]) (w' := w) (n' := 142) rfl ?_
  rw [show w 1 1 = 3 from zref hI rfl rfl]
  refine qG.blk 1 (pc' := 21) (ls' := [(2, 1), (0, 1), (0, ((k : Nat) : Int)), (0, v)]) (st' := [(0, ((k : Nat) : Int)), (2, 3)]) (w' := w) (n' := 142) rfl ?_
  refine qG.ar (P := 0 ≤ ((k : Nat) : Int) ∧ ((k : Nat) : Int) < ((4 : Nat) : Int)) (P2 := 0 < (3 : Int) ∧ (3 : Int) ≤ ((142 : Nat) : Int)) (pc' := 22) (ls' := [(2, 1), (0, 1), (0, ((k : Nat) : Int)), (0, v)]) (st' := [(2, w 3 k)]) (w' := w) (n' := 142) rfl (by omega) (by decide) ?_
  rw [show w 3 k = 79 from h3]
  refine qG.blk 2 (pc' := 26) (ls' := [(2, 1), (0, 1), (0, ((k : Nat) : Int)), (0, v)]) (st' := [(2, w 1 0), (2, 79)]) (w' := w) (n' := 142) rfl ?_
  rw [show w 1 0 = 2 from zref hI rfl rfl]
  refine qG.blk 1 (pc' := 27) (ls' := [(2, 1), (0, 1), (0, ((k : Nat) : Int)), (0, v)]) (st' := [(0, 1), (2, 2), (2, 79)]) (w' := w) (n' := 142) rfl ?_
  refine qG.ar (P := 0 ≤ 1 ∧ 1 < ((3 : Nat) : Int)) (P2 := 0 < (2 : Int) ∧ (2 : Int) ≤ ((142 : Nat) : Int)) (pc' := 28) (ls' := [(2, 1), (0, 1), (0, ((k : Nat) : Int)), (0, v)]) (st' := [(2, w 2 1), (2, 79)]) (w' := w) (n' := 142) rfl (by omega) (by decide) ?_
  rw [show w 2 1 = 69 from zref hI rfl rfl]
  refine qG.call (t := 111) (na := 2) (sk := 1) (md := 1) (ls1 := [(2, 79), (2, 69), (9, 0)]) (r1 := []) rfl rfl rfl rfl rfl (K_perf79_69 (by omega) L hL w hI hs hKN hK hE) ?_
  rintro _ w1 _ ⟨rfl, rfl, hI1, hC⟩
  obtain ⟨e1, e2, e3, hfr⟩ := hC.row (by unfold SHOWP; omega)
  obtain ⟨c4, c5, c6, c7, c8, c9, cv, -⟩ := hC
  have hs1 : w1 79 2 = (L : Int) := e3.trans hs
  have hKW1 : KNw (w1 80) (w1 81) L := by rw [e1, e2]; exact hKW
  show qG none (d + 1) 173 31 [(2, 1), (0, 1), (0, ((k : Nat) : Int)), (0, v)] [] w1 142 Q9
  refine qG.blk 2 (pc' := 35) (ls' := [(2, 1), (0, 1), (0, ((k : Nat) : Int)), (0, v)]) (st' := [(2, w1 1 1)]) (w' := w1) (n' := 142) rfl ?_
  rw [show w1 1 1 = 3 from (hfr 1 1 (by omega)).trans (zref hI rfl rfl)]
  refine qG.blk 1 (pc' := 36) (ls' := [(2, 1), (0, 1), (0, ((k : Nat) : Int)), (0, v)]) (st' := [(0, ((k : Nat) : Int)), (2, 3)]) (w' := w1) (n' := 142) rfl ?_
  refine qG.ar (P := 0 ≤ ((k : Nat) : Int) ∧ ((k : Nat) : Int) < ((4 : Nat) : Int)) (P2 := 0 < (3 : Int) ∧ (3 : Int) ≤ ((142 : Nat) : Int)) (pc' := 37) (ls' := [(2, 1), (0, 1), (0, ((k : Nat) : Int)), (0, v)]) (st' := [(2, w1 3 k)]) (w' := w1) (n' := 142) rfl (by omega) (by decide) ?_
  rw [show w1 3 k = 79 from (hfr 3 k (by omega)).trans h3]
  refine qG.blk 1 (pc' := 38) (ls' := [(2, 1), (0, 1), (0, ((k : Nat) : Int)), (0, v)]) (st' := [(0, v), (2, 79)]) (w' := w1) (n' := 142) rfl ?_
  refine qG.call (t := 118) (na := 2) (sk := 1) (md := 1) (ls1 := [(2, 79), (0, v)]) (r1 := []) rfl rfl rfl rfl rfl (K_factN79 (by omega) v L hL w1 hI1 hs1 hKW1) ?_
  rw [e1, e2]
  rintro _ w7 _ ⟨rfl, hw7, rfl⟩
  rw [hw7]
  show qG none (d + 1) 173 41 [(2, 1), (0, 1), (0, ((k : Nat) : Int)), (0, v)] [(0, fcV ((scF (w 80) (w 81) L : Nat) : Int) (w1 79 7) (w1 79 8) (w1 79 9) v)] w1 142 Q9
  refine qG.ret rfl rfl ?_
  subst hQ9
  exact congrArg (Prod.mk 0) (by unfold rnV; rw [c7, c8, c9])
theorem K_runB79_74 {d : Nat} (hd : 3 ≤ d) (k : Nat) (hk : k < 4) (v : Int) (L : Nat) (hL : L ≤ 40) (w : qW) (hI : yInv zgf zga zra zSp w) (h3 : w 3 k = 79) (hs : w 79 2 = (L : Int)) (hKN : KNr (w 80) (w 81) L) (hKW : KNw (w 80) (w 81) L) (hK : w 74 0 = w 96 2) (hE : JE w) : qG none d 173 16 [(2, 1), (0, 2), (0, ((k : Nat) : Int)), (0, v)] [] w 142 (fun (r : qV) (_ : qW) (_ : Nat) => r = (0, rnV w 2 (w 80) (w 81) L v)) := by
  generalize hQ9 : (fun (r : qV) (_ : qW) (_ : Nat) => r = (0, rnV w 2 (w 80) (w 81) L v)) = Q9
  obtain ⟨d, rfl⟩ : ∃ d9, d = d9 + 1 := ⟨d - 1, by omega⟩
  refine qG.blk 2 (pc' := 20) (ls' := [(2, 1), (0, 2), (0, ((k : Nat) : Int)), (0, v)]) (st' := [(2, w 1 1)]) (w' := w) (n' := 142) rfl ?_
  rw [show w 1 1 = 3 from zref hI rfl rfl]
  refine qG.blk 1 (pc' := 21) (ls' := [(2, 1), (0, 2), (0, ((k : Nat) : Int)), (0, v)]) (st' := [(0, ((k : Nat) : Int)), (2, 3)]) (w' := w) (n' := 142) rfl ?_
  refine qG.ar (P := 0 ≤ ((k : Nat) : Int) ∧ ((k : Nat) : Int) < ((4 : Nat) : Int)) (P2 := 0 < (3 : Int) ∧ (3 : Int) ≤ ((142 : Nat) : Int)) (pc' := 22) (ls' := [(2, 1), (0, 2), (0, ((k : Nat) : Int)), (0, v)]) (st' := [(2, w 3 k)]) (w' := w) (n' := 142) rfl (by omega) (by decide) ?_
  rw [show w 3 k = 79 from h3]
  refine qG.blk 2 (pc' := 26) (ls' := [(2, 1), (0, 2), (0, ((k : Nat) : Int)), (0, v)]) (st' := [(2, w 1 0), (2, 79)]) (w' := w) (n' := 142) rfl ?_
  rw [show w 1 0 = 2 from zref hI rfl rfl]
  refine qG.blk 1 (pc' := 27) (ls' := [(2, 1), (0, 2), (0, ((k : Nat) : Int)), (0, v)]) (st' := [(0, 2), (2, 2), (2, 79)]) (w' := w) (n' := 142) rfl ?_
  refine qG.ar (P := 0 ≤ 2 ∧ 2 < ((3 : Nat) : Int)) (P2 := 0 < (2 : Int) ∧ (2 : Int) ≤ ((142 : Nat) : Int)) (pc' := 28) (ls' := [(2, 1), (0, 2), (0, ((k : Nat) : Int)), (0, v)]) (st' := [(2, w 2 2), (2, 79)]) (w' := w) (n' := 142) rfl (by omega) (by decide) ?_
  rw [show w 2 2 = 74 from zref hI rfl rfl]
  refine qG.call (t := 111) (na := 2) (sk := 1) (md := 1) (ls1 := [(2, 79), (2, 74), (9, 0)]) (r1 := []) rfl rfl rfl rfl rfl (K_perf79_74 (by omega) L hL w hI hs hKN hK hE) ?_
  rintro _ w1 _ ⟨rfl, rfl, hI1, hC⟩
  obtain ⟨e1, e2, e3, hfr⟩ := hC.row (by unfold SHOWP; omega)
  obtain ⟨c4, c5, c6, c7, c8, c9, cv, -⟩ := hC
  have hs1 : w1 79 2 = (L : Int) := e3.trans hs
  have hKW1 : KNw (w1 80) (w1 81) L := by rw [e1, e2]; exact hKW
  show qG none (d + 1) 173 31 [(2, 1), (0, 2), (0, ((k : Nat) : Int)), (0, v)] [] w1 142 Q9
  refine qG.blk 2 (pc' := 35) (ls' := [(2, 1), (0, 2), (0, ((k : Nat) : Int)), (0, v)]) (st' := [(2, w1 1 1)]) (w' := w1) (n' := 142) rfl ?_
  rw [show w1 1 1 = 3 from (hfr 1 1 (by omega)).trans (zref hI rfl rfl)]
  refine qG.blk 1 (pc' := 36) (ls' := [(2, 1), (0, 2), (0, ((k : Nat) : Int)), (0, v)]) (st' := [(0, ((k : Nat) : Int)), (2, 3)]) (w' := w1) (n' := 142) rfl ?_
  refine qG.ar (P := 0 ≤ ((k : Nat) : Int) ∧ ((k : Nat) : Int) < ((4 : Nat) : Int)) (P2 := 0 < (3 : Int) ∧ (3 : Int) ≤ ((142 : Nat) : Int)) (pc' := 37) (ls' := [(2, 1), (0, 2), (0, ((k : Nat) : Int)), (0, v)]) (st' := [(2, w1 3 k)]) (w' := w1) (n' := 142) rfl (by omega) (by decide) ?_
  rw [show w1 3 k = 79 from (hfr 3 k (by omega)).trans h3]
  refine qG.blk 1 (pc' := 38) (ls' := [(2, 1), (0, 2), (0, ((k : Nat) : Int)), (0, v)]) (st' := [(0, v), (2, 79)]) (w' := w1) (n' := 142) rfl ?_
  refine qG.call (t := 118) (na := 2) (sk := 1) (md := 1) (ls1 := [(2, 79), (0, v)]) (r1 := []) rfl rfl rfl rfl rfl (K_factN79 (by omega) v L hL w1 hI1 hs1 hKW1) ?_
  rw [e1, e2]
  rintro _ w7 _ ⟨rfl, hw7, rfl⟩
  rw [hw7]
  show qG none (d + 1) 173 41 [(2, 1), (0, 2), (0, ((k : Nat) : Int)), (0, v)] [(0, fcV ((scF (w 80) (w 81) L : Nat) : Int) (w1 79 7) (w1 79 8) (w1 79 9) v)] w1 142 Q9
  refine qG.ret rfl rfl ?_
  subst hQ9
  exact congrArg (Prod.mk 0) (by unfold rnV; rw [c7, c8, c9])
theorem K_runB83_64 {d : Nat} (hd : 3 ≤ d) (k : Nat) (hk : k < 4) (v : Int) (L : Nat) (hL : L ≤ 40) (w : qW) (hI : yInv zgf zga zra zSp w) (h3 : w 3 k = 83) (hs : w 83 2 = (L : Int)) (hKN : KNr (w 84) (w 85) L) (hKW : KNw (w 84) (w 85) L) (hK : w 64 0 = w 96 0) (hE : JE w) : qG none d 173 16 [(2, 1), (0, 0), (0, ((k : Nat) : Int)), (0, v)] [] w 142 (fun (r : qV) (_ : qW) (_ : Nat) => r = (0, rnV w 0 (w 84) (w 85) L v)) := by
  generalize hQ9 : (fun (r : qV) (_ : qW) (_ : Nat) => r = (0, rnV w 0 (w 84) (w 85) L v)) = Q9
  obtain ⟨d, rfl⟩ : ∃ d9, d = d9 + 1 := ⟨d - 1, by omega⟩
  refine qG.blk 2 (pc' := 20) (ls' := [(2, 1), (0, 0), (0, ((k : Nat) : Int)), (0, v)]) (st' := [(2, w 1 1)]) (w' := w) (n' := 142) rfl ?_
  rw [show w 1 1 = 3 from zref hI rfl rfl]
  refine qG.blk 1 (pc' := 21) (ls' := [(2, 1), (0, 0), (0, ((k : Nat) : Int)), (0, v)]) (st' := [(0, ((k : Nat) : Int)), (2, 3)]) (w' := w) (n' := 142) rfl ?_
  refine qG.ar (P := 0 ≤ ((k : Nat) : Int) ∧ ((k : Nat) : Int) < ((4 : Nat) : Int)) (P2 := 0 < (3 : Int) ∧ (3 : Int) ≤ ((142 : Nat) : Int)) (pc' := 22) (ls' := [(2, 1), (0, 0), (0, ((k : Nat) : Int)), (0, v)]) (st' := [(2, w 3 k)]) (w' := w) (n' := 142) rfl (by omega) (by decide) ?_
  rw [show w 3 k = 83 from h3]
  refine qG.blk 2 (pc' := 26) (ls' := [(2, 1), (0, 0), (0, ((k : Nat) : Int)), (0, v)]) (st' := [(2, w 1 0), (2, 83)]) (w' := w) (n' := 142) rfl ?_
  rw [show w 1 0 = 2 from zref hI rfl rfl]
  refine qG.blk 1 (pc' := 27) (ls' := [(2, 1), (0, 0), (0, ((k : Nat) : Int)), (0, v)]) (st' := [(0, 0), (2, 2), (2, 83)]) (w' := w) (n' := 142) rfl ?_
  refine qG.ar (P := 0 ≤ 0 ∧ 0 < ((3 : Nat) : Int)) (P2 := 0 < (2 : Int) ∧ (2 : Int) ≤ ((142 : Nat) : Int)) (pc' := 28) (ls' := [(2, 1), (0, 0), (0, ((k : Nat) : Int)), (0, v)]) (st' := [(2, w 2 0), (2, 83)]) (w' := w) (n' := 142) rfl (by omega) (by decide) ?_
  rw [show w 2 0 = 64 from zref hI rfl rfl]
  refine qG.call (t := 111) (na := 2) (sk := 1) (md := 1) (ls1 := [(2, 83), (2, 64), (9, 0)]) (r1 := []) rfl rfl rfl rfl rfl (K_perf83_64 (by omega) L hL w hI hs hKN hK hE) ?_
  rintro _ w1 _ ⟨rfl, rfl, hI1, hC⟩
  obtain ⟨e1, e2, e3, hfr⟩ := hC.row (by unfold SHOWP; omega)
  obtain ⟨c4, c5, c6, c7, c8, c9, cv, -⟩ := hC
  have hs1 : w1 83 2 = (L : Int) := e3.trans hs
  have hKW1 : KNw (w1 84) (w1 85) L := by rw [e1, e2]; exact hKW
  show qG none (d + 1) 173 31 [(2, 1), (0, 0), (0, ((k : Nat) : Int)), (0, v)] [] w1 142 Q9
  refine qG.blk 2 (pc' := 35) (ls' := [(2, 1), (0, 0), (0, ((k : Nat) : Int)), (0, v)]) (st' := [(2, w1 1 1)]) (w' := w1) (n' := 142) rfl ?_
  rw [show w1 1 1 = 3 from (hfr 1 1 (by omega)).trans (zref hI rfl rfl)]
  refine qG.blk 1 (pc' := 36) (ls' := [(2, 1), (0, 0), (0, ((k : Nat) : Int)), (0, v)]) (st' := [(0, ((k : Nat) : Int)), (2, 3)]) (w' := w1) (n' := 142) rfl ?_
  refine qG.ar (P := 0 ≤ ((k : Nat) : Int) ∧ ((k : Nat) : Int) < ((4 : Nat) : Int)) (P2 := 0 < (3 : Int) ∧ (3 : Int) ≤ ((142 : Nat) : Int)) (pc' := 37) (ls' := [(2, 1), (0, 0), (0, ((k : Nat) : Int)), (0, v)]) (st' := [(2, w1 3 k)]) (w' := w1) (n' := 142) rfl (by omega) (by decide) ?_
  rw [show w1 3 k = 83 from (hfr 3 k (by omega)).trans h3]
  refine qG.blk 1 (pc' := 38) (ls' := [(2, 1), (0, 0), (0, ((k : Nat) : Int)), (0, v)]) (st' := [(0, v), (2, 83)]) (w' := w1) (n' := 142) rfl ?_
  refine qG.call (t := 118) (na := 2) (sk := 1) (md := 1) (ls1 := [(2, 83), (0, v)]) (r1 := []) rfl rfl rfl rfl rfl (K_factN83 (by omega) v L hL w1 hI1 hs1 hKW1) ?_
  rw [e1, e2]
  rintro _ w7 _ ⟨rfl, hw7, rfl⟩
  rw [hw7]
  show qG none (d + 1) 173 41 [(2, 1), (0, 0), (0, ((k : Nat) : Int)), (0, v)] [(0, fcV ((scF (w 84) (w 85) L : Nat) : Int) (w1 83 7) (w1 83 8) (w1 83 9) v)] w1 142 Q9
  refine qG.ret rfl rfl ?_
  subst hQ9
  exact congrArg (Prod.mk 0) (by unfold rnV; rw [c7, c8, c9])
theorem K_runB83_69 {d : Nat} (hd : 3 ≤ d) (k : Nat) (hk : k < 4) (v : Int) (L : Nat) (hL : L ≤ 40) (w : qW) (hI : yInv zgf zga zra zSp w) (h3 : w 3 k = 83) (hs : w 83 2 = (L : Int)) (hKN : KNr (w 84) (w 85) L) (hKW : KNw (w 84) (w 85) L) (hK : w 69 0 = w 96 1) (hE : JE w) : qG none d 173 16 [(2, 1), (0, 1), (0, ((k : Nat) : Int)), (0, v)] [] w 142 (fun (r : qV) (_ : qW) (_ : Nat) => r = (0, rnV w 1 (w 84) (w 85) L v)) := by
  generalize hQ9 : (fun (r : qV) (_ : qW) (_ : Nat) => r = (0, rnV w 1 (w 84) (w 85) L v)) = Q9
  obtain ⟨d, rfl⟩ : ∃ d9, d = d9 + 1 := ⟨d - 1, by omega⟩
  refine qG.blk 2 (pc' := 20) (ls' := [(2, 1), (0, 1), (0, ((k : Nat) : Int)), (0, v)]) (st' := [(2, w 1 1)]) (w' := w) (n' := 142) rfl ?_
  rw [show w 1 1 = 3 from zref hI rfl rfl]
  refine qG.blk 1 (pc' := 21) (ls' := [(2, 1), (0, 1), (0, ((k : Nat) : Int)), (0, v)]) (st' := [(0, ((k : Nat) : Int)), (2, 3)]) (w' := w) (n' := 142) rfl ?_
  refine qG.ar (P := 0 ≤ ((k : Nat) : Int) ∧ ((k : Nat) : Int) < ((4 : Nat) : Int)) (P2 := 0 < (3 : Int) ∧ (3 : Int) ≤ ((142 : Nat) : Int)) (pc' := 22) (ls' := [(2, 1), (0, 1), (0, ((k : Nat) : Int)), (0, v)]) (st' := [(2, w 3 k)]) (w' := w) (n' := 142) rfl (by omega) (by decide) ?_
  rw [show w 3 k = 83 from h3]
  refine qG.blk 2 (pc' := 26) (ls' := [(2, 1), (0, 1), (0, ((k : Nat) : Int)), (0, v)]) (st' := [(2, w 1 0), (2, 83)]) (w' := w) (n' := 142) rfl ?_
  rw [show w 1 0 = 2 from zref hI rfl rfl]
  refine qG.blk 1 (pc' := 27) (ls' := [(2, 1), (0, 1), (0, ((k : Nat) : Int)), (0, v)]) (st' := [(0, 1), (2, 2), (2, 83)]) (w' := w) (n' := 142) rfl ?_
  refine qG.ar (P := 0 ≤ 1 ∧ 1 < ((3 : Nat) : Int)) (P2 := 0 < (2 : Int) ∧ (2 : Int) ≤ ((142 : Nat) : Int)) (pc' := 28) (ls' := [(2, 1), (0, 1), (0, ((k : Nat) : Int)), (0, v)]) (st' := [(2, w 2 1), (2, 83)]) (w' := w) (n' := 142) rfl (by omega) (by decide) ?_
  rw [show w 2 1 = 69 from zref hI rfl rfl]
  refine qG.call (t := 111) (na := 2) (sk := 1) (md := 1) (ls1 := [(2, 83), (2, 69), (9, 0)]) (r1 := []) rfl rfl rfl rfl rfl (K_perf83_69 (by omega) L hL w hI hs hKN hK hE) ?_
  rintro _ w1 _ ⟨rfl, rfl, hI1, hC⟩
  obtain ⟨e1, e2, e3, hfr⟩ := hC.row (by unfold SHOWP; omega)
  obtain ⟨c4, c5, c6, c7, c8, c9, cv, -⟩ := hC
  have hs1 : w1 83 2 = (L : Int) := e3.trans hs
  have hKW1 : KNw (w1 84) (w1 85) L := by rw [e1, e2]; exact hKW
  show qG none (d + 1) 173 31 [(2, 1), (0, 1), (0, ((k : Nat) : Int)), (0, v)] [] w1 142 Q9
  refine qG.blk 2 (pc' := 35) (ls' := [(2, 1), (0, 1), (0, ((k : Nat) : Int)), (0, v)]) (st' := [(2, w1 1 1)]) (w' := w1) (n' := 142) rfl ?_
  rw [show w1 1 1 = 3 from (hfr 1 1 (by omega)).trans (zref hI rfl rfl)]
  refine qG.blk 1 (pc' := 36) (ls' := [(2, 1), (0, 1), (0, ((k : Nat) : Int)), (0, v)]) (st' := [(0, ((k : Nat) : Int)), (2, 3)]) (w' := w1) (n' := 142) rfl ?_
  refine qG.ar (P := 0 ≤ ((k : Nat) : Int) ∧ ((k : Nat) : Int) < ((4 : Nat) : Int)) (P2 := 0 < (3 : Int) ∧ (3 : Int) ≤ ((142 : Nat) : Int)) (pc' := 37) (ls' := [(2, 1), (0, 1), (0, ((k : Nat) : Int)), (0, v)]) (st' := [(2, w1 3 k)]) (w' := w1) (n' := 142) rfl (by omega) (by decide) ?_
  rw [show w1 3 k = 83 from (hfr 3 k (by omega)).trans h3]
  refine qG.blk 1 (pc' := 38) (ls' := [(2, 1), (0, 1), (0, ((k : Nat) : Int)), (0, v)]) (st' := [(0, v), (2, 83)]) (w' := w1) (n' := 142) rfl ?_
  refine qG.call (t := 118) (na := 2) (sk := 1) (md := 1) (ls1 := [(2, 83), (0, v)]) (r1 := []) rfl rfl rfl rfl rfl (K_factN83 (by omega) v L hL w1 hI1 hs1 hKW1) ?_
  rw [e1, e2]
  rintro _ w7 _ ⟨rfl, hw7, rfl⟩
  rw [hw7]
  show qG none (d + 1) 173 41 [(2, 1), (0, 1), (0, ((k : Nat) : Int)), (0, v)] [(0, fcV ((scF (w 84) (w 85) L : Nat) : Int) (w1 83 7) (w1 83 8) (w1 83 9) v)] w1 142 Q9
  refine qG.ret rfl rfl ?_
  subst hQ9
  exact congrArg (Prod.mk 0) (by unfold rnV; rw [c7, c8, c9])
theorem K_runB83_74 {d : Nat} (hd : 3 ≤ d) (k : Nat) (hk : k < 4) (v : Int) (L : Nat) (hL : L ≤ 40) (w : qW) (hI : yInv zgf zga zra zSp w) (h3 : w 3 k = 83) (hs : w 83 2 = (L : Int)) (hKN : KNr (w 84) (w 85) L) (hKW : KNw (w 84) (w 85) L) (hK : w 74 0 = w 96 2) (hE : JE w) : qG none d 173 16 [(2, 1), (0, 2), (0, ((k : Nat) : Int)), (0, v)] [] w 142 (fun (r : qV) (_ : qW) (_ : Nat) => r = (0, rnV w 2 (w 84) (w 85) L v)) := by
  generalize hQ9 : (fun (r : qV) (_ : qW) (_ : Nat) => r = (0, rnV w 2 (w 84) (w 85) L v)) = Q9
  obtain ⟨d, rfl⟩ : ∃ d9, d = d9 + 1 := ⟨d - 1, by omega⟩
  refine qG.blk 2 (pc' := 20) (ls' := [(2, 1), (0, 2), (0, ((k : Nat) : Int)), (0, v)]) (st' := [(2, w 1 1)]) (w' := w) (n' := 142) rfl ?_
  rw [show w 1 1 = 3 from zref hI rfl rfl]
  refine qG.blk 1 (pc' := 21) (ls' := [(2, 1), (0, 2), (0, ((k : Nat) : Int)), (0, v)]) (st' := [(0, ((k : Nat) : Int)), (2, 3)]) (w' := w) (n' := 142) rfl ?_
  refine qG.ar (P := 0 ≤ ((k : Nat) : Int) ∧ ((k : Nat) : Int) < ((4 : Nat) : Int)) (P2 := 0 < (3 : Int) ∧ (3 : Int) ≤ ((142 : Nat) : Int)) (pc' := 22) (ls' := [(2, 1), (0, 2), (0, ((k : Nat) : Int)), (0, v)]) (st' := [(2, w 3 k)]) (w' := w) (n' := 142) rfl (by omega) (by decide) ?_
  rw [show w 3 k = 83 from h3]
  refine qG.blk 2 (pc' := 26) (ls' := [(2, 1), (0, 2), (0, ((k : Nat) : Int)), (0, v)]) (st' := [(2, w 1 0), (2, 83)]) (w' := w) (n' := 142) rfl ?_
  rw [show w 1 0 = 2 from zref hI rfl rfl]
  refine qG.blk 1 (pc' := 27) (ls' := [(2, 1), (0, 2), (0, ((k : Nat) : Int)), (0, v)]) (st' := [(0, 2), (2, 2), (2, 83)]) (w' := w) (n' := 142) rfl ?_
  refine qG.ar (P := 0 ≤ 2 ∧ 2 < ((3 : Nat) : Int)) (P2 := 0 < (2 : Int) ∧ (2 : Int) ≤ ((142 : Nat) : Int)) (pc' := 28) (ls' := [(2, 1), (0, 2), (0, ((k : Nat) : Int)), (0, v)]) (st' := [(2, w 2 2), (2, 83)]) (w' := w) (n' := 142) rfl (by omega) (by decide) ?_
  rw [show w 2 2 = 74 from zref hI rfl rfl]
  refine qG.call (t := 111) (na := 2) (sk := 1) (md := 1) (ls1 := [(2, 83), (2, 74), (9, 0)]) (r1 := []) rfl rfl rfl rfl rfl (K_perf83_74 (by omega) L hL w hI hs hKN hK hE) ?_
  rintro _ w1 _ ⟨rfl, rfl, hI1, hC⟩
  obtain ⟨e1, e2, e3, hfr⟩ := hC.row (by unfold SHOWP; omega)
  obtain ⟨c4, c5, c6, c7, c8, c9, cv, -⟩ := hC
  have hs1 : w1 83 2 = (L : Int) := e3.trans hs
  have hKW1 : KNw (w1 84) (w1 85) L := by rw [e1, e2]; exact hKW
  show qG none (d + 1) 173 31 [(2, 1), (0, 2), (0, ((k : Nat) : Int)), (0, v)] [] w1 142 Q9
  refine qG.blk 2 (pc' := 35) (ls' := [(2, 1), (0, 2), (0, ((k : Nat) : Int)), (0, v)]) (st' := [(2, w1 1 1)]) (w' := w1) (n' := 142) rfl ?_
  rw [show w1 1 1 = 3 from (hfr 1 1 (by omega)).trans (zref hI rfl rfl)]
  refine qG.blk 1 (pc' := 36) (ls' := [(2, 1), (0, 2), (0, ((k : Nat) : Int)), (0, v)]) (st' := [(0, ((k : Nat) : Int)), (2, 3)]) (w' := w1) (n' := 142) rfl ?_
  refine qG.ar (P := 0 ≤ ((k : Nat) : Int) ∧ ((k : Nat) : Int) < ((4 : Nat) : Int)) (P2 := 0 < (3 : Int) ∧ (3 : Int) ≤ ((142 : Nat) : Int)) (pc' := 37) (ls' := [(2, 1), (0, 2), (0, ((k : Nat) : Int)), (0, v)]) (st' := [(2, w1 3 k)]) (w' := w1) (n' := 142) rfl (by omega) (by decide) ?_
  rw [show w1 3 k = 83 from (hfr 3 k (by omega)).trans h3]
  refine qG.blk 1 (pc' := 38) (ls' := [(2, 1), (0, 2), (0, ((k : Nat) : Int)), (0, v)]) (st' := [(0, v), (2, 83)]) (w' := w1) (n' := 142) rfl ?_
  refine qG.call (t := 118) (na := 2) (sk := 1) (md := 1) (ls1 := [(2, 83), (0, v)]) (r1 := []) rfl rfl rfl rfl rfl (K_factN83 (by omega) v L hL w1 hI1 hs1 hKW1) ?_
  rw [e1, e2]
  rintro _ w7 _ ⟨rfl, hw7, rfl⟩
  rw [hw7]
  show qG none (d + 1) 173 41 [(2, 1), (0, 2), (0, ((k : Nat) : Int)), (0, v)] [(0, fcV ((scF (w 84) (w 85) L : Nat) : Int) (w1 83 7) (w1 83 8) (w1 83 9) v)] w1 142 Q9
  refine qG.ret rfl rfl ?_
  subst hQ9
  exact congrArg (Prod.mk 0) (by unfold rnV; rw [c7, c8, c9])
theorem K_runB87_64 {d : Nat} (hd : 3 ≤ d) (k : Nat) (hk : k < 4) (v : Int) (L : Nat) (hL : L ≤ 40) (w : qW) (hI : yInv zgf zga zra zSp w) (h3 : w 3 k = 87) (hs : w 87 2 = (L : Int)) (hKN : KNr (w 88) (w 89) L) (hKW : KNw (w 88) (w 89) L) (hK : w 64 0 = w 96 0) (hE : JE w) : qG none d 173 16 [(2, 1), (0, 0), (0, ((k : Nat) : Int)), (0, v)] [] w 142 (fun (r : qV) (_ : qW) (_ : Nat) => r = (0, rnV w 0 (w 88) (w 89) L v)) := by
  generalize hQ9 : (fun (r : qV) (_ : qW) (_ : Nat) => r = (0, rnV w 0 (w 88) (w 89) L v)) = Q9
  obtain ⟨d, rfl⟩ : ∃ d9, d = d9 + 1 := ⟨d - 1, by omega⟩
  refine qG.blk 2 (pc' := 20) (ls' := [(2, 1), (0, 0), (0, ((k : Nat) : Int)), (0, v)]) (st' := [(2, w 1 1)]) (w' := w) (n' := 142) rfl ?_
  rw [show w 1 1 = 3 from zref hI rfl rfl]
  refine qG.blk 1 (pc' := 21) (ls' := [(2, 1), (0, 0), (0, ((k : Nat) : Int)), (0, v)]) (st' := [(0, ((k : Nat) : Int)), (2, 3)]) (w' := w) (n' := 142) rfl ?_
  refine qG.ar (P := 0 ≤ ((k : Nat) : Int) ∧ ((k : Nat) : Int) < ((4 : Nat) : Int)) (P2 := 0 < (3 : Int) ∧ (3 : Int) ≤ ((142 : Nat) : Int)) (pc' := 22) (ls' := [(2, 1), (0, 0), (0, ((k : Nat) : Int)), (0, v)]) (st' := [(2, w 3 k)]) (w' := w) (n' := 142) rfl (by omega) (by decide) ?_
  rw [show w 3 k = 87 from h3]
  refine qG.blk 2 (pc' := 26) (ls' := [(2, 1), (0, 0), (0, ((k : Nat) : Int)), (0, v)]) (st' := [(2, w 1 0), (2, 87)]) (w' := w) (n' := 142) rfl ?_
  rw [show w 1 0 = 2 from zref hI rfl rfl]
  refine qG.blk 1 (pc' := 27) (ls' := [(2, 1), (0, 0), (0, ((k : Nat) : Int)), (0, v)]) (st' := [(0, 0), (2, 2), (2, 87)]) (w' := w) (n' := 142) rfl ?_
  refine qG.ar (P := 0 ≤ 0 ∧ 0 < ((3 : Nat) : Int)) (P2 := 0 < (2 : Int) ∧ (2 : Int) ≤ ((142 : Nat) : Int)) (pc' := 28) (ls' := [(2, 1), (0, 0), (0, ((k : Nat) : Int)), (0, v)]) (st' := [(2, w 2 0), (2, 87)]) (w' := w) (n' := 142) rfl (by omega) (by decide) ?_
  rw [show w 2 0 = 64 from zref hI rfl rfl]
  refine qG.call (t := 111) (na := 2) (sk := 1) (md := 1) (ls1 := [(2, 87), (2, 64), (9, 0)]) (r1 := []) rfl rfl rfl rfl rfl (K_perf87_64 (by omega) L hL w hI hs hKN hK hE) ?_
  rintro _ w1 _ ⟨rfl, rfl, hI1, hC⟩
  obtain ⟨e1, e2, e3, hfr⟩ := hC.row (by unfold SHOWP; omega)
  obtain ⟨c4, c5, c6, c7, c8, c9, cv, -⟩ := hC
  have hs1 : w1 87 2 = (L : Int) := e3.trans hs
  have hKW1 : KNw (w1 88) (w1 89) L := by rw [e1, e2]; exact hKW
  show qG none (d + 1) 173 31 [(2, 1), (0, 0), (0, ((k : Nat) : Int)), (0, v)] [] w1 142 Q9
  refine qG.blk 2 (pc' := 35) (ls' := [(2, 1), (0, 0), (0, ((k : Nat) : Int)), (0, v)]) (st' := [(2, w1 1 1)]) (w' := w1) (n' := 142) rfl ?_
  rw [show w1 1 1 = 3 from (hfr 1 1 (by omega)).trans (zref hI rfl rfl)]
  refine qG.blk 1 (pc' := 36) (ls' := [(2, 1), (0, 0), (0, ((k : Nat) : Int)), (0, v)]) (st' := [(0, ((k : Nat) : Int)), (2, 3)]) (w' := w1) (n' := 142) rfl ?_
  refine qG.ar (P := 0 ≤ ((k : Nat) : Int) ∧ ((k : Nat) : Int) < ((4 : Nat) : Int)) (P2 := 0 < (3 : Int) ∧ (3 : Int) ≤ ((142 : Nat) : Int)) (pc' := 37) (ls' := [(2, 1), (0, 0), (0, ((k : Nat) : Int)), (0, v)]) (st' := [(2, w1 3 k)]) (w' := w1) (n' := 142) rfl (by omega) (by decide) ?_
  rw [show w1 3 k = 87 from (hfr 3 k (by omega)).trans h3]
  refine qG.blk 1 (pc' := 38) (ls' := [(2, 1), (0, 0), (0, ((k : Nat) : Int)), (0, v)]) (st' := [(0, v), (2, 87)]) (w' := w1) (n' := 142) rfl ?_
  refine qG.call (t := 118) (na := 2) (sk := 1) (md := 1) (ls1 := [(2, 87), (0, v)]) (r1 := []) rfl rfl rfl rfl rfl (K_factN87 (by omega) v L hL w1 hI1 hs1 hKW1) ?_
  rw [e1, e2]
  rintro _ w7 _ ⟨rfl, hw7, rfl⟩
  rw [hw7]
  show qG none (d + 1) 173 41 [(2, 1), (0, 0), (0, ((k : Nat) : Int)), (0, v)] [(0, fcV ((scF (w 88) (w 89) L : Nat) : Int) (w1 87 7) (w1 87 8) (w1 87 9) v)] w1 142 Q9
  refine qG.ret rfl rfl ?_
  subst hQ9
  exact congrArg (Prod.mk 0) (by unfold rnV; rw [c7, c8, c9])
theorem K_runB87_69 {d : Nat} (hd : 3 ≤ d) (k : Nat) (hk : k < 4) (v : Int) (L : Nat) (hL : L ≤ 40) (w : qW) (hI : yInv zgf zga zra zSp w) (h3 : w 3 k = 87) (hs : w 87 2 = (L : Int)) (hKN : KNr (w 88) (w 89) L) (hKW : KNw (w 88) (w 89) L) (hK : w 69 0 = w 96 1) (hE : JE w) : qG none d 173 16 [(2, 1), (0, 1), (0, ((k : Nat) : Int)), (0, v)] [] w 142 (fun (r : qV) (_ : qW) (_ : Nat) => r = (0, rnV w 1 (w 88) (w 89) L v)) := by
  generalize hQ9 : (fun (r : qV) (_ : qW) (_ : Nat) => r = (0, rnV w 1 (w 88) (w 89) L v)) = Q9
  obtain ⟨d, rfl⟩ : ∃ d9, d = d9 + 1 := ⟨d - 1, by omega⟩
  refine qG.blk 2 (pc' := 20) (ls' := [(2, 1), (0, 1), (0, ((k : Nat) : Int)), (0, v)]) (st' := [(2, w 1 1)]) (w' := w) (n' := 142) rfl ?_
  rw [show w 1 1 = 3 from zref hI rfl rfl]
  refine qG.blk 1 (pc' := 21) (ls' := [(2, 1), (0, 1), (0, ((k : Nat) : Int)), (0, v)]) (st' := [(0, ((k : Nat) : Int)), (2, 3)]) (w' := w) (n' := 142) rfl ?_
  refine qG.ar (P := 0 ≤ ((k : Nat) : Int) ∧ ((k : Nat) : Int) < ((4 : Nat) : Int)) (P2 := 0 < (3 : Int) ∧ (3 : Int) ≤ ((142 : Nat) : Int)) (pc' := 22) (ls' := [(2, 1), (0, 1), (0, ((k : Nat) : Int)), (0, v)]) (st' := [(2, w 3 k)]) (w' := w) (n' := 142) rfl (by omega) (by decide) ?_
  rw [show w 3 k = 87 from h3]
  refine qG.blk 2 (pc' := 26) (ls' := [(2, 1), (0, 1), (0, ((k : Nat) : Int)), (0, v)]) (st' := [(2, w 1 0), (2, 87)]) (w' := w) (n' := 142) rfl ?_
  rw [show w 1 0 = 2 from zref hI rfl rfl]
  refine qG.blk 1 (pc' := 27) (ls' := [(2, 1), (0, 1), (0, ((k : Nat) : Int)), (0, v)]) (st' := [(0, 1), (2, 2), (2, 87)]) (w' := w) (n' := 142) rfl ?_
  refine qG.ar (P := 0 ≤ 1 ∧ 1 < ((3 : Nat) : Int)) (P2 := 0 < (2 : Int) ∧ (2 : Int) ≤ ((142 : Nat) : Int)) (pc' := 28) (ls' := [(2, 1), (0, 1), (0, ((k : Nat) : Int)), (0, v)]) (st' := [(2, w 2 1), (2, 87)]) (w' := w) (n' := 142) rfl (by omega) (by decide) ?_
  rw [show w 2 1 = 69 from zref hI rfl rfl]
  refine qG.call (t := 111) (na := 2) (sk := 1) (md := 1) (ls1 := [(2, 87), (2, 69), (9, 0)]) (r1 := []) rfl rfl rfl rfl rfl (K_perf87_69 (by omega) L hL w hI hs hKN hK hE) ?_
  rintro _ w1 _ ⟨rfl, rfl, hI1, hC⟩
  obtain ⟨e1, e2, e3, hfr⟩ := hC.row (by unfold SHOWP; omega)
  obtain ⟨c4, c5, c6, c7, c8, c9, cv, -⟩ := hC
  have hs1 : w1 87 2 = (L : Int) := e3.trans hs
  have hKW1 : KNw (w1 88) (w1 89) L := by rw [e1, e2]; exact hKW
  show qG none (d + 1) 173 31 [(2, 1), (0, 1), (0, ((k : Nat) : Int)), (0, v)] [] w1 142 Q9
  refine qG.blk 2 (pc' := 35) (ls' := [(2, 1), (0, 1), (0, ((k : Nat) : Int)), (0, v)]) (st' := [(2, w1 1 1)]) (w' := w1) (n' := 142) rfl ?_
  rw [show w1 1 1 = 3 from (hfr 1 1 (by omega)).trans (zref hI rfl rfl)]
  refine qG.blk 1 (pc' := 36) (ls' := [(2, 1), (0, 1), (0, ((k : Nat) : Int)), (0, v)]) (st' := [(0, ((k : Nat) : Int)), (2, 3)]) (w' := w1) (n' := 142) rfl ?_
  refine qG.ar (P := 0 ≤ ((k : Nat) : Int) ∧ ((k : Nat) : Int) < ((4 : Nat) : Int)) (P2 := 0 < (3 : Int) ∧ (3 : Int) ≤ ((142 : Nat) : Int)) (pc' := 37) (ls' := [(2, 1), (0, 1), (0, ((k : Nat) : Int)), (0, v)]) (st' := [(2, w1 3 k)]) (w' := w1) (n' := 142) rfl (by omega) (by decide) ?_
  rw [show w1 3 k = 87 from (hfr 3 k (by omega)).trans h3]
  refine qG.blk 1 (pc' := 38) (ls' := [(2, 1), (0, 1), (0, ((k : Nat) : Int)), (0, v)]) (st' := [(0, v), (2, 87)]) (w' := w1) (n' := 142) rfl ?_
  refine qG.call (t := 118) (na := 2) (sk := 1) (md := 1) (ls1 := [(2, 87), (0, v)]) (r1 := []) rfl rfl rfl rfl rfl (K_factN87 (by omega) v L hL w1 hI1 hs1 hKW1) ?_
  rw [e1, e2]
  rintro _ w7 _ ⟨rfl, hw7, rfl⟩
  rw [hw7]
  show qG none (d + 1) 173 41 [(2, 1), (0, 1), (0, ((k : Nat) : Int)), (0, v)] [(0, fcV ((scF (w 88) (w 89) L : Nat) : Int) (w1 87 7) (w1 87 8) (w1 87 9) v)] w1 142 Q9
  refine qG.ret rfl rfl ?_
  subst hQ9
  exact congrArg (Prod.mk 0) (by unfold rnV; rw [c7, c8, c9])
theorem K_runB87_74 {d : Nat} (hd : 3 ≤ d) (k : Nat) (hk : k < 4) (v : Int) (L : Nat) (hL : L ≤ 40) (w : qW) (hI : yInv zgf zga zra zSp w) (h3 : w 3 k = 87) (hs : w 87 2 = (L : Int)) (hKN : KNr (w 88) (w 89) L) (hKW : KNw (w 88) (w 89) L) (hK : w 74 0 = w 96 2) (hE : JE w) : qG none d 173 16 [(2, 1), (0, 2), (0, ((k : Nat) : Int)), (0, v)] [] w 142 (fun (r : qV) (_ : qW) (_ : Nat) => r = (0, rnV w 2 (w 88) (w 89) L v)) := by
  generalize hQ9 : (fun (r : qV) (_ : qW) (_ : Nat) => r = (0, rnV w 2 (w 88) (w 89) L v)) = Q9
  obtain ⟨d, rfl⟩ : ∃ d9, d = d9 + 1 := ⟨d - 1, by omega⟩
  refine qG.blk 2 (pc' := 20) (ls' := [(2, 1), (0, 2), (0, ((k : Nat) : Int)), (0, v)]) (st' := [(2, w 1 1)]) (w' := w) (n' := 142) rfl ?_
  rw [show w 1 1 = 3 from zref hI rfl rfl]
  refine qG.blk 1 (pc' := 21) (ls' := [(2, 1), (0, 2), (0, ((k : Nat) : Int)), (0, v)]) (st' := [(0, ((k : Nat) : Int)), (2, 3)]) (w' := w) (n' := 142) rfl ?_
  refine qG.ar (P := 0 ≤ ((k : Nat) : Int) ∧ ((k : Nat) : Int) < ((4 : Nat) : Int)) (P2 := 0 < (3 : Int) ∧ (3 : Int) ≤ ((142 : Nat) : Int)) (pc' := 22) (ls' := [(2, 1), (0, 2), (0, ((k : Nat) : Int)), (0, v)]) (st' := [(2, w 3 k)]) (w' := w) (n' := 142) rfl (by omega) (by decide) ?_
  rw [show w 3 k = 87 from h3]
  refine qG.blk 2 (pc' := 26) (ls' := [(2, 1), (0, 2), (0, ((k : Nat) : Int)), (0, v)]) (st' := [(2, w 1 0), (2, 87)]) (w' := w) (n' := 142) rfl ?_
  rw [show w 1 0 = 2 from zref hI rfl rfl]
  refine qG.blk 1 (pc' := 27) (ls' := [(2, 1), (0, 2), (0, ((k : Nat) : Int)), (0, v)]) (st' := [(0, 2), (2, 2), (2, 87)]) (w' := w) (n' := 142) rfl ?_
  refine qG.ar (P := 0 ≤ 2 ∧ 2 < ((3 : Nat) : Int)) (P2 := 0 < (2 : Int) ∧ (2 : Int) ≤ ((142 : Nat) : Int)) (pc' := 28) (ls' := [(2, 1), (0, 2), (0, ((k : Nat) : Int)), (0, v)]) (st' := [(2, w 2 2), (2, 87)]) (w' := w) (n' := 142) rfl (by omega) (by decide) ?_
  rw [show w 2 2 = 74 from zref hI rfl rfl]
  refine qG.call (t := 111) (na := 2) (sk := 1) (md := 1) (ls1 := [(2, 87), (2, 74), (9, 0)]) (r1 := []) rfl rfl rfl rfl rfl (K_perf87_74 (by omega) L hL w hI hs hKN hK hE) ?_
  rintro _ w1 _ ⟨rfl, rfl, hI1, hC⟩
  obtain ⟨e1, e2, e3, hfr⟩ := hC.row (by unfold SHOWP; omega)
  obtain ⟨c4, c5, c6, c7, c8, c9, cv, -⟩ := hC
  have hs1 : w1 87 2 = (L : Int) := e3.trans hs
  have hKW1 : KNw (w1 88) (w1 89) L := by rw [e1, e2]; exact hKW
  show qG none (d + 1) 173 31 [(2, 1), (0, 2), (0, ((k : Nat) : Int)), (0, v)] [] w1 142 Q9
  refine qG.blk 2 (pc' := 35) (ls' := [(2, 1), (0, 2), (0, ((k : Nat) : Int)), (0, v)]) (st' := [(2, w1 1 1)]) (w' := w1) (n' := 142) rfl ?_
  rw [show w1 1 1 = 3 from (hfr 1 1 (by omega)).trans (zref hI rfl rfl)]
  refine qG.blk 1 (pc' := 36) (ls' := [(2, 1), (0, 2), (0, ((k : Nat) : Int)), (0, v)]) (st' := [(0, ((k : Nat) : Int)), (2, 3)]) (w' := w1) (n' := 142) rfl ?_
  refine qG.ar (P := 0 ≤ ((k : Nat) : Int) ∧ ((k : Nat) : Int) < ((4 : Nat) : Int)) (P2 := 0 < (3 : Int) ∧ (3 : Int) ≤ ((142 : Nat) : Int)) (pc' := 37) (ls' := [(2, 1), (0, 2), (0, ((k : Nat) : Int)), (0, v)]) (st' := [(2, w1 3 k)]) (w' := w1) (n' := 142) rfl (by omega) (by decide) ?_
  rw [show w1 3 k = 87 from (hfr 3 k (by omega)).trans h3]
  refine qG.blk 1 (pc' := 38) (ls' := [(2, 1), (0, 2), (0, ((k : Nat) : Int)), (0, v)]) (st' := [(0, v), (2, 87)]) (w' := w1) (n' := 142) rfl ?_
  refine qG.call (t := 118) (na := 2) (sk := 1) (md := 1) (ls1 := [(2, 87), (0, v)]) (r1 := []) rfl rfl rfl rfl rfl (K_factN87 (by omega) v L hL w1 hI1 hs1 hKW1) ?_
  rw [e1, e2]
  rintro _ w7 _ ⟨rfl, hw7, rfl⟩
  rw [hw7]
  show qG none (d + 1) 173 41 [(2, 1), (0, 2), (0, ((k : Nat) : Int)), (0, v)] [(0, fcV ((scF (w 88) (w 89) L : Nat) : Int) (w1 87 7) (w1 87 8) (w1 87 9) v)] w1 142 Q9
  refine qG.ret rfl rfl ?_
  subst hQ9
  exact congrArg (Prod.mk 0) (by unfold rnV; rw [c7, c8, c9])
theorem K_runB91_64 {d : Nat} (hd : 3 ≤ d) (k : Nat) (hk : k < 4) (v : Int) (L : Nat) (hL : L ≤ 40) (w : qW) (hI : yInv zgf zga zra zSp w) (h3 : w 3 k = 91) (hs : w 91 2 = (L : Int)) (hKN : KNr (w 92) (w 93) L) (hKW : KNw (w 92) (w 93) L) (hK : w 64 0 = w 96 0) (hE : JE w) : qG none d 173 16 [(2, 1), (0, 0), (0, ((k : Nat) : Int)), (0, v)] [] w 142 (fun (r : qV) (_ : qW) (_ : Nat) => r = (0, rnV w 0 (w 92) (w 93) L v)) := by
  generalize hQ9 : (fun (r : qV) (_ : qW) (_ : Nat) => r = (0, rnV w 0 (w 92) (w 93) L v)) = Q9
  obtain ⟨d, rfl⟩ : ∃ d9, d = d9 + 1 := ⟨d - 1, by omega⟩
  refine qG.blk 2 (pc' := 20) (ls' := [(2, 1), (0, 0), (0, ((k : Nat) : Int)), (0, v)]) (st' := [(2, w 1 1)]) (w' := w) (n' := 142) rfl ?_
  rw [show w 1 1 = 3 from zref hI rfl rfl]
  refine qG.blk 1 (pc' := 21) (ls' := [(2, 1), (0, 0), (0, ((k : Nat) : Int)), (0, v)]) (st' := [(0, ((k : Nat) : Int)), (2, 3)]) (w' := w) (n' := 142) rfl ?_
  refine qG.ar (P := 0 ≤ ((k : Nat) : Int) ∧ ((k : Nat) : Int) < ((4 : Nat) : Int)) (P2 := 0 < (3 : Int) ∧ (3 : Int) ≤ ((142 : Nat) : Int)) (pc' := 22) (ls' := [(2, 1), (0, 0), (0, ((k : Nat) : Int)), (0, v)]) (st' := [(2, w 3 k)]) (w' := w) (n' := 142) rfl (by omega) (by decide) ?_
  rw [show w 3 k = 91 from h3]
  refine qG.blk 2 (pc' := 26) (ls' := [(2, 1), (0, 0), (0, ((k : Nat) : Int)), (0, v)]) (st' := [(2, w 1 0), (2, 91)]) (w' := w) (n' := 142) rfl ?_
  rw [show w 1 0 = 2 from zref hI rfl rfl]
  refine qG.blk 1 (pc' := 27) (ls' := [(2, 1), (0, 0), (0, ((k : Nat) : Int)), (0, v)]) (st' := [(0, 0), (2, 2), (2, 91)]) (w' := w) (n' := 142) rfl ?_
  refine qG.ar (P := 0 ≤ 0 ∧ 0 < ((3 : Nat) : Int)) (P2 := 0 < (2 : Int) ∧ (2 : Int) ≤ ((142 : Nat) : Int)) (pc' := 28) (ls' := [(2, 1), (0, 0), (0, ((k : Nat) : Int)), (0, v)]) (st' := [(2, w 2 0), (2, 91)]) (w' := w) (n' := 142) rfl (by omega) (by decide) ?_
  rw [show w 2 0 = 64 from zref hI rfl rfl]
  refine qG.call (t := 111) (na := 2) (sk := 1) (md := 1) (ls1 := [(2, 91), (2, 64), (9, 0)]) (r1 := []) rfl rfl rfl rfl rfl (K_perf91_64 (by omega) L hL w hI hs hKN hK hE) ?_
  rintro _ w1 _ ⟨rfl, rfl, hI1, hC⟩
  obtain ⟨e1, e2, e3, hfr⟩ := hC.row (by unfold SHOWP; omega)
  obtain ⟨c4, c5, c6, c7, c8, c9, cv, -⟩ := hC
  have hs1 : w1 91 2 = (L : Int) := e3.trans hs
  have hKW1 : KNw (w1 92) (w1 93) L := by rw [e1, e2]; exact hKW
  show qG none (d + 1) 173 31 [(2, 1), (0, 0), (0, ((k : Nat) : Int)), (0, v)] [] w1 142 Q9
  refine qG.blk 2 (pc' := 35) (ls' := [(2, 1), (0, 0), (0, ((k : Nat) : Int)), (0, v)]) (st' := [(2, w1 1 1)]) (w' := w1) (n' := 142) rfl ?_
  rw [show w1 1 1 = 3 from (hfr 1 1 (by omega)).trans (zref hI rfl rfl)]
  refine qG.blk 1 (pc' := 36) (ls' := [(2, 1), (0, 0), (0, ((k : Nat) : Int)), (0, v)]) (st' := [(0, ((k : Nat) : Int)), (2, 3)]) (w' := w1) (n' := 142) rfl ?_
  refine qG.ar (P := 0 ≤ ((k : Nat) : Int) ∧ ((k : Nat) : Int) < ((4 : Nat) : Int)) (P2 := 0 < (3 : Int) ∧ (3 : Int) ≤ ((142 : Nat) : Int)) (pc' := 37) (ls' := [(2, 1), (0, 0), (0, ((k : Nat) : Int)), (0, v)]) (st' := [(2, w1 3 k)]) (w' := w1) (n' := 142) rfl (by omega) (by decide) ?_
  rw [show w1 3 k = 91 from (hfr 3 k (by omega)).trans h3]
  refine qG.blk 1 (pc' := 38) (ls' := [(2, 1), (0, 0), (0, ((k : Nat) : Int)), (0, v)]) (st' := [(0, v), (2, 91)]) (w' := w1) (n' := 142) rfl ?_
  refine qG.call (t := 118) (na := 2) (sk := 1) (md := 1) (ls1 := [(2, 91), (0, v)]) (r1 := []) rfl rfl rfl rfl rfl (K_factN91 (by omega) v L hL w1 hI1 hs1 hKW1) ?_
  rw [e1, e2]
  rintro _ w7 _ ⟨rfl, hw7, rfl⟩
  rw [hw7]
  show qG none (d + 1) 173 41 [(2, 1), (0, 0), (0, ((k : Nat) : Int)), (0, v)] [(0, fcV ((scF (w 92) (w 93) L : Nat) : Int) (w1 91 7) (w1 91 8) (w1 91 9) v)] w1 142 Q9
  refine qG.ret rfl rfl ?_
  subst hQ9
  exact congrArg (Prod.mk 0) (by unfold rnV; rw [c7, c8, c9])
theorem K_runB91_69 {d : Nat} (hd : 3 ≤ d) (k : Nat) (hk : k < 4) (v : Int) (L : Nat) (hL : L ≤ 40) (w : qW) (hI : yInv zgf zga zra zSp w) (h3 : w 3 k = 91) (hs : w 91 2 = (L : Int)) (hKN : KNr (w 92) (w 93) L) (hKW : KNw (w 92) (w 93) L) (hK : w 69 0 = w 96 1) (hE : JE w) : qG none d 173 16 [(2, 1), (0, 1), (0, ((k : Nat) : Int)), (0, v)] [] w 142 (fun (r : qV) (_ : qW) (_ : Nat) => r = (0, rnV w 1 (w 92) (w 93) L v)) := by
  generalize hQ9 : (fun (r : qV) (_ : qW) (_ : Nat) => r = (0, rnV w 1 (w 92) (w 93) L v)) = Q9
  obtain ⟨d, rfl⟩ : ∃ d9, d = d9 + 1 := ⟨d - 1, by omega⟩
  refine qG.blk 2 (pc' := 20) (ls' := [(2, 1), (0, 1), (0, ((k : Nat) : Int)), (0, v)]) (st' := [(2, w 1 1)]) (w' := w) (n' := 142) rfl ?_
  rw [show w 1 1 = 3 from zref hI rfl rfl]
  refine qG.blk 1 (pc' := 21) (ls' := [(2, 1), (0, 1), (0, ((k : Nat) : Int)), (0, v)]) (st' := [(0, ((k : Nat) : Int)), (2, 3)]) (w' := w) (n' := 142) rfl ?_
  refine qG.ar (P := 0 ≤ ((k : Nat) : Int) ∧ ((k : Nat) : Int) < ((4 : Nat) : Int)) (P2 := 0 < (3 : Int) ∧ (3 : Int) ≤ ((142 : Nat) : Int)) (pc' := 22) (ls' := [(2, 1), (0, 1), (0, ((k : Nat) : Int)), (0, v)]) (st' := [(2, w 3 k)]) (w' := w) (n' := 142) rfl (by omega) (by decide) ?_
  rw [show w 3 k = 91 from h3]
  refine qG.blk 2 (pc' := 26) (ls' := [(2, 1), (0, 1), (0, ((k : Nat) : Int)), (0, v)]) (st' := [(2, w 1 0), (2, 91)]) (w' := w) (n' := 142) rfl ?_
  rw [show w 1 0 = 2 from zref hI rfl rfl]
  refine qG.blk 1 (pc' := 27) (ls' := [(2, 1), (0, 1), (0, ((k : Nat) : Int)), (0, v)]) (st' := [(0, 1), (2, 2), (2, 91)]) (w' := w) (n' := 142) rfl ?_
  refine qG.ar (P := 0 ≤ 1 ∧ 1 < ((3 : Nat) : Int)) (P2 := 0 < (2 : Int) ∧ (2 : Int) ≤ ((142 : Nat) : Int)) (pc' := 28) (ls' := [(2, 1), (0, 1), (0, ((k : Nat) : Int)), (0, v)]) (st' := [(2, w 2 1), (2, 91)]) (w' := w) (n' := 142) rfl (by omega) (by decide) ?_
  rw [show w 2 1 = 69 from zref hI rfl rfl]
  refine qG.call (t := 111) (na := 2) (sk := 1) (md := 1) (ls1 := [(2, 91), (2, 69), (9, 0)]) (r1 := []) rfl rfl rfl rfl rfl (K_perf91_69 (by omega) L hL w hI hs hKN hK hE) ?_
  rintro _ w1 _ ⟨rfl, rfl, hI1, hC⟩
  obtain ⟨e1, e2, e3, hfr⟩ := hC.row (by unfold SHOWP; omega)
  obtain ⟨c4, c5, c6, c7, c8, c9, cv, -⟩ := hC
  have hs1 : w1 91 2 = (L : Int) := e3.trans hs
  have hKW1 : KNw (w1 92) (w1 93) L := by rw [e1, e2]; exact hKW
  show qG none (d + 1) 173 31 [(2, 1), (0, 1), (0, ((k : Nat) : Int)), (0, v)] [] w1 142 Q9
  refine qG.blk 2 (pc' := 35) (ls' := [(2, 1), (0, 1), (0, ((k : Nat) : Int)), (0, v)]) (st' := [(2, w1 1 1)]) (w' := w1) (n' := 142) rfl ?_
  rw [show w1 1 1 = 3 from (hfr 1 1 (by omega)).trans (zref hI rfl rfl)]
  refine qG.blk 1 (pc' := 36) (ls' := [(2, 1), (0, 1), (0, ((k : Nat) : Int)), (0, v)]) (st' := [(0, ((k : Nat) : Int)), (2, 3)]) (w' := w1) (n' := 142) rfl ?_
  refine qG.ar (P := 0 ≤ ((k : Nat) : Int) ∧ ((k : Nat) : Int) < ((4 : Nat) : Int)) (P2 := 0 < (3 : Int) ∧ (3 : Int) ≤ ((142 : Nat) : Int)) (pc' := 37) (ls' := [(2, 1), (0, 1), (0, ((k : Nat) : Int)), (0, v)]) (st' := [(2, w1 3 k)]) (w' := w1) (n' := 142) rfl (by omega) (by decide) ?_
  rw [show w1 3 k = 91 from (hfr 3 k (by omega)).trans h3]
  refine qG.blk 1 (pc' := 38) (ls' := [(2, 1), (0, 1), (0, ((k : Nat) : Int)), (0, v)]) (st' := [(0, v), (2, 91)]) (w' := w1) (n' := 142) rfl ?_
  refine qG.call (t := 118) (na := 2) (sk := 1) (md := 1) (ls1 := [(2, 91), (0, v)]) (r1 := []) rfl rfl rfl rfl rfl (K_factN91 (by omega) v L hL w1 hI1 hs1 hKW1) ?_
  rw [e1, e2]
  rintro _ w7 _ ⟨rfl, hw7, rfl⟩
  rw [hw7]
  show qG none (d + 1) 173 41 [(2, 1), (0, 1), (0, ((k : Nat) : Int)), (0, v)] [(0, fcV ((scF (w 92) (w 93) L : Nat) : Int) (w1 91 7) (w1 91 8) (w1 91 9) v)] w1 142 Q9
  refine qG.ret rfl rfl ?_
  subst hQ9
  exact congrArg (Prod.mk 0) (by unfold rnV; rw [c7, c8, c9])
theorem K_runB91_74 {d : Nat} (hd : 3 ≤ d) (k : Nat) (hk : k < 4) (v : Int) (L : Nat) (hL : L ≤ 40) (w : qW) (hI : yInv zgf zga zra zSp w) (h3 : w 3 k = 91) (hs : w 91 2 = (L : Int)) (hKN : KNr (w 92) (w 93) L) (hKW : KNw (w 92) (w 93) L) (hK : w 74 0 = w 96 2) (hE : JE w) : qG none d 173 16 [(2, 1), (0, 2), (0, ((k : Nat) : Int)), (0, v)] [] w 142 (fun (r : qV) (_ : qW) (_ : Nat) => r = (0, rnV w 2 (w 92) (w 93) L v)) := by
  generalize hQ9 : (fun (r : qV) (_ : qW) (_ : Nat) => r = (0, rnV w 2 (w 92) (w 93) L v)) = Q9
  obtain ⟨d, rfl⟩ : ∃ d9, d = d9 + 1 := ⟨d - 1, by omega⟩
  refine qG.blk 2 (pc' := 20) (ls' := [(2, 1), (0, 2), (0, ((k : Nat) : Int)), (0, v)]) (st' := [(2, w 1 1)]) (w' := w) (n' := 142) rfl ?_
  rw [show w 1 1 = 3 from zref hI rfl rfl]
  refine qG.blk 1 (pc' := 21) (ls' := [(2, 1), (0, 2), (0, ((k : Nat) : Int)), (0, v)]) (st' := [(0, ((k : Nat) : Int)), (2, 3)]) (w' := w) (n' := 142) rfl ?_
  refine qG.ar (P := 0 ≤ ((k : Nat) : Int) ∧ ((k : Nat) : Int) < ((4 : Nat) : Int)) (P2 := 0 < (3 : Int) ∧ (3 : Int) ≤ ((142 : Nat) : Int)) (pc' := 22) (ls' := [(2, 1), (0, 2), (0, ((k : Nat) : Int)), (0, v)]) (st' := [(2, w 3 k)]) (w' := w) (n' := 142) rfl (by omega) (by decide) ?_
  rw [show w 3 k = 91 from h3]
  refine qG.blk 2 (pc' := 26) (ls' := [(2, 1), (0, 2), (0, ((k : Nat) : Int)), (0, v)]) (st' := [(2, w 1 0), (2, 91)]) (w' := w) (n' := 142) rfl ?_
  rw [show w 1 0 = 2 from zref hI rfl rfl]
  refine qG.blk 1 (pc' := 27) (ls' := [(2, 1), (0, 2), (0, ((k : Nat) : Int)), (0, v)]) (st' := [(0, 2), (2, 2), (2, 91)]) (w' := w) (n' := 142) rfl ?_
  refine qG.ar (P := 0 ≤ 2 ∧ 2 < ((3 : Nat) : Int)) (P2 := 0 < (2 : Int) ∧ (2 : Int) ≤ ((142 : Nat) : Int)) (pc' := 28) (ls' := [(2, 1), (0, 2), (0, ((k : Nat) : Int)), (0, v)]) (st' := [(2, w 2 2), (2, 91)]) (w' := w) (n' := 142) rfl (by omega) (by decide) ?_
  rw [show w 2 2 = 74 from zref hI rfl rfl]
  refine qG.call (t := 111) (na := 2) (sk := 1) (md := 1) (ls1 := [(2, 91), (2, 74), (9, 0)]) (r1 := []) rfl rfl rfl rfl rfl (K_perf91_74 (by omega) L hL w hI hs hKN hK hE) ?_
  rintro _ w1 _ ⟨rfl, rfl, hI1, hC⟩
  obtain ⟨e1, e2, e3, hfr⟩ := hC.row (by unfold SHOWP; omega)
  obtain ⟨c4, c5, c6, c7, c8, c9, cv, -⟩ := hC
  have hs1 : w1 91 2 = (L : Int) := e3.trans hs
  have hKW1 : KNw (w1 92) (w1 93) L := by rw [e1, e2]; exact hKW
  show qG none (d + 1) 173 31 [(2, 1), (0, 2), (0, ((k : Nat) : Int)), (0, v)] [] w1 142 Q9
  refine qG.blk 2 (pc' := 35) (ls' := [(2, 1), (0, 2), (0, ((k : Nat) : Int)), (0, v)]) (st' := [(2, w1 1 1)]) (w' := w1) (n' := 142) rfl ?_
  rw [show w1 1 1 = 3 from (hfr 1 1 (by omega)).trans (zref hI rfl rfl)]
  refine qG.blk 1 (pc' := 36) (ls' := [(2, 1), (0, 2), (0, ((k : Nat) : Int)), (0, v)]) (st' := [(0, ((k : Nat) : Int)), (2, 3)]) (w' := w1) (n' := 142) rfl ?_
  refine qG.ar (P := 0 ≤ ((k : Nat) : Int) ∧ ((k : Nat) : Int) < ((4 : Nat) : Int)) (P2 := 0 < (3 : Int) ∧ (3 : Int) ≤ ((142 : Nat) : Int)) (pc' := 37) (ls' := [(2, 1), (0, 2), (0, ((k : Nat) : Int)), (0, v)]) (st' := [(2, w1 3 k)]) (w' := w1) (n' := 142) rfl (by omega) (by decide) ?_
  rw [show w1 3 k = 91 from (hfr 3 k (by omega)).trans h3]
  refine qG.blk 1 (pc' := 38) (ls' := [(2, 1), (0, 2), (0, ((k : Nat) : Int)), (0, v)]) (st' := [(0, v), (2, 91)]) (w' := w1) (n' := 142) rfl ?_
  refine qG.call (t := 118) (na := 2) (sk := 1) (md := 1) (ls1 := [(2, 91), (0, v)]) (r1 := []) rfl rfl rfl rfl rfl (K_factN91 (by omega) v L hL w1 hI1 hs1 hKW1) ?_
  rw [e1, e2]
  rintro _ w7 _ ⟨rfl, hw7, rfl⟩
  rw [hw7]
  show qG none (d + 1) 173 41 [(2, 1), (0, 2), (0, ((k : Nat) : Int)), (0, v)] [(0, fcV ((scF (w 92) (w 93) L : Nat) : Int) (w1 91 7) (w1 91 8) (w1 91 9) v)] w1 142 Q9
  refine qG.ret rfl rfl ?_
  subst hQ9
  exact congrArg (Prod.mk 0) (by unfold rnV; rw [c7, c8, c9])
theorem K_runC {d : Nat} (hd : 3 ≤ d) (c k : Nat) (hc : c < 3) (hk : k < 4) (v : Int) (w : qW) (hI : yInv zgf zga zra zSp w) (hK : JK w) (hE : JE w) (hR : JR w) : qG none d 173 16 [(2, 1), (0, ((c : Nat) : Int)), (0, ((k : Nat) : Int)), (0, v)] [] w 142 (fun (r : qV) (_ : qW) (_ : Nat) => r = (0, rnR w c k v)) := by
  obtain ⟨f, a1, a2, a3, a4, a5⟩ := hR
  obtain ⟨L, hL, hs, hs6, hkn, hKN, hKW⟩ := a5 k hk
  have h3 := a3 k hk
  have hp := a1 k (by omega)
  have hk0 := hK c hc
  unfold SHOWP at hp
  unfold rnR
  rw [hs6, Int.toNat_natCast, ← rnV_kn hkn]
  generalize f k = p at *
  rcases hp with rfl | rfl | rfl | rfl | rfl <;> rcases (show c = 0 ∨ c = 1 ∨ c = 2 by omega) with rfl | rfl | rfl
  · exact K_runB4_64 hd k hk v L hL w hI h3 hs hKN hKW hk0 hE
  · exact K_runB4_69 hd k hk v L hL w hI h3 hs hKN hKW hk0 hE
  · exact K_runB4_74 hd k hk v L hL w hI h3 hs hKN hKW hk0 hE
  · exact K_runB79_64 hd k hk v L hL w hI h3 hs hKN hKW hk0 hE
  · exact K_runB79_69 hd k hk v L hL w hI h3 hs hKN hKW hk0 hE
  · exact K_runB79_74 hd k hk v L hL w hI h3 hs hKN hKW hk0 hE
  · exact K_runB83_64 hd k hk v L hL w hI h3 hs hKN hKW hk0 hE
  · exact K_runB83_69 hd k hk v L hL w hI h3 hs hKN hKW hk0 hE
  · exact K_runB83_74 hd k hk v L hL w hI h3 hs hKN hKW hk0 hE
  · exact K_runB87_64 hd k hk v L hL w hI h3 hs hKN hKW hk0 hE
  · exact K_runB87_69 hd k hk v L hL w hI h3 hs hKN hKW hk0 hE
  · exact K_runB87_74 hd k hk v L hL w hI h3 hs hKN hKW hk0 hE
  · exact K_runB91_64 hd k hk v L hL w hI h3 hs hKN hKW hk0 hE
  · exact K_runB91_69 hd k hk v L hL w hI h3 hs hKN hKW hk0 hE
  · exact K_runB91_74 hd k hk v L hL w hI h3 hs hKN hKW hk0 hE
theorem K_X11_runA {d : Nat} (hd : 4 ≤ d) (c k v : Int) (w : qW) (hI : yInv zgf zga zra zSp w) (hK : JK w) (hE : JE w) (hR : JR w) : qG none d 173 0 [(2, 1), (0, c), (0, k), (0, v)] [] w 142 (fun (r : qV) (_ : qW) (_ : Nat) => r = (0, rnA w c k v)) := by
  generalize hQ9 : (fun (r : qV) (_ : qW) (_ : Nat) => r = (0, rnA w c k v)) = Q9
  obtain ⟨d, rfl⟩ : ∃ d9, d = d9 + 1 := ⟨d - 1, by omega⟩
  refine qG.blk 1 (pc' := 1) (ls' := [(2, 1), (0, c), (0, k), (0, v)]) (st' := [(0, c)]) (w' := w) (n' := 142) rfl ?_
  refine qG.call (t := 198) (na := 1) (sk := 0) (md := 0) (ls1 := [(0, c)]) (r1 := []) rfl rfl rfl rfl rfl (K_X11_isChest (Nat.zero_le _) _ _) ?_
  rintro _ w7 _ ⟨rfl, hw7, rfl⟩
  rw [hw7]
  show qG none (d + 1) 173 4 [(2, 1), (0, c), (0, k), (0, v)] [(0, isInV c 0 2)] w 142 Q9
  refine qG.br (P := isInV c 0 2 = 0) (pc1 := 14) (pc2 := 7) (st1 := []) rfl (fun hc0 => ?_) (fun hc0 => ?_)
  · skip
    refine qG.blk 1 (pc' := 15) (ls' := [(2, 1), (0, c), (0, k), (0, v)]) (st' := [(0, (-1))]) (w' := w) (n' := 142) rfl ?_
    refine qG.ret rfl rfl ?_
    subst hQ9
    unfold rnA; first | (rw [if_pos hc0]; done) | (rw [if_neg hc0, if_pos hk0]; done)
  · skip
    obtain ⟨c9, rfl, hlc9, huc9⟩ := isIn_n (by decide) hc0
    refine qG.blk 1 (pc' := 8) (ls' := [(2, 1), (0, ((c9 : Nat) : Int)), (0, k), (0, v)]) (st' := [(0, k)]) (w' := w) (n' := 142) rfl ?_
    refine qG.call (t := 199) (na := 1) (sk := 0) (md := 0) (ls1 := [(0, k)]) (r1 := []) rfl rfl rfl rfl rfl (K_X11_isShow (Nat.zero_le _) _ _) ?_
    rintro _ w7 _ ⟨rfl, hw7, rfl⟩
    rw [hw7]
    show qG none (d + 1) 173 11 [(2, 1), (0, ((c9 : Nat) : Int)), (0, k), (0, v)] [(0, isInV k 0 3)] w 142 Q9
    refine qG.br (P := isInV k 0 3 = 0) (pc1 := 14) (pc2 := 16) (st1 := []) rfl (fun hk0 => ?_) (fun hk0 => ?_)
    · skip
      refine qG.blk 1 (pc' := 15) (ls' := [(2, 1), (0, ((c9 : Nat) : Int)), (0, k), (0, v)]) (st' := [(0, (-1))]) (w' := w) (n' := 142) rfl ?_
      refine qG.ret rfl rfl ?_
      subst hQ9
      unfold rnA; first | (rw [if_pos hc0]; done) | (rw [if_neg hc0, if_pos hk0]; done)
    · skip
      obtain ⟨k9, rfl, hlk9, huk9⟩ := isIn_n (by decide) hk0
      subst hQ9
      unfold rnA
      rw [if_neg hc0, if_neg hk0, Int.toNat_natCast, Int.toNat_natCast]
      exact K_runC (by omega) c9 k9 (by omega) (by omega) v w hI hK hE hR
theorem K_X12_runA {d : Nat} (hd : 6 ≤ d) (c k v : Int) (w : qW) (hI : yInv zgf zga zra zSp w) (hS1 : Sp1 w) : qG none d 255 0 [(2, 95), (0, c), (0, k), (0, v)] [] w 142 (fun (r : qV) (_ : qW) (_ : Nat) => r = (0, rnA w c k v)) := by
  generalize hQ9 : (fun (r : qV) (_ : qW) (_ : Nat) => r = (0, rnA w c k v)) = Q9
  obtain ⟨d, rfl⟩ : ∃ d9, d = d9 + 1 := ⟨d - 1, by omega⟩
  refine qG.blk 1 (pc' := 1) (ls' := [(2, 95), (0, c), (0, k), (0, v)]) (st' := [(0, c)]) (w' := w) (n' := 142) rfl ?_
  refine qG.call (t := 207) (na := 1) (sk := 0) (md := 0) (ls1 := [(0, c)]) (r1 := []) rfl rfl rfl rfl rfl (K_isChest (by omega) _ _) ?_
  rintro _ w7 _ ⟨rfl, hw7, rfl⟩
  rw [hw7]
  show qG none (d + 1) 255 4 [(2, 95), (0, c), (0, k), (0, v)] [(0, isInV c 0 2)] w 142 Q9
  refine qG.br (P := isInV c 0 2 = 0) (pc1 := 14) (pc2 := 7) (st1 := []) rfl (fun hc0 => ?_) (fun hc0 => ?_)
  · skip
    refine qG.blk 1 (pc' := 15) (ls' := [(2, 95), (0, c), (0, k), (0, v)]) (st' := [(0, (-1))]) (w' := w) (n' := 142) rfl ?_
    refine qG.ret rfl rfl ?_
    subst hQ9
    unfold rnA; first | (exact congrArg (Prod.mk 0) (if_pos hc0).symm) | (exact congrArg (Prod.mk 0) ((if_neg hc0).trans (if_pos hk0)).symm)
  · skip
    obtain ⟨c9, rfl, hlc9, huc9⟩ := isIn_n (by decide) hc0
    refine qG.blk 1 (pc' := 8) (ls' := [(2, 95), (0, ((c9 : Nat) : Int)), (0, k), (0, v)]) (st' := [(0, k)]) (w' := w) (n' := 142) rfl ?_
    refine qG.call (t := 209) (na := 1) (sk := 0) (md := 0) (ls1 := [(0, k)]) (r1 := []) rfl rfl rfl rfl rfl (K_isShow (by omega) _ _) ?_
    rintro _ w7 _ ⟨rfl, hw7, rfl⟩
    rw [hw7]
    show qG none (d + 1) 255 11 [(2, 95), (0, ((c9 : Nat) : Int)), (0, k), (0, v)] [(0, isInV k 0 3)] w 142 Q9
    refine qG.br (P := isInV k 0 3 = 0) (pc1 := 14) (pc2 := 16) (st1 := []) rfl (fun hk0 => ?_) (fun hk0 => ?_)
    · skip
      refine qG.blk 1 (pc' := 15) (ls' := [(2, 95), (0, ((c9 : Nat) : Int)), (0, k), (0, v)]) (st' := [(0, (-1))]) (w' := w) (n' := 142) rfl ?_
      refine qG.ret rfl rfl ?_
      subst hQ9
      unfold rnA; first | (exact congrArg (Prod.mk 0) (if_pos hc0).symm) | (exact congrArg (Prod.mk 0) ((if_neg hc0).trans (if_pos hk0)).symm)
    · skip
      obtain ⟨k9, rfl, hlk9, huk9⟩ := isIn_n (by decide) hk0
      refine qG.blk 3 (pc' := 19) (ls' := [(2, 95), (0, ((c9 : Nat) : Int)), (0, ((k9 : Nat) : Int)), (0, v)]) (st' := [(0, ((k9 : Nat) : Int)), (0, ((c9 : Nat) : Int)), (2, 95)]) (w' := w) (n' := 142) rfl ?_
      refine qG.call (t := 253) (na := 3) (sk := 1) (md := 1) (ls1 := [(2, 95), (0, ((c9 : Nat) : Int)), (0, ((k9 : Nat) : Int)), (9, 0)]) (r1 := []) rfl rfl rfl rfl rfl (K_shows (by omega) c9 k9 (by omega) (by omega) w hI hS1) ?_
      rintro _ ws _ ⟨rfl, rfl, rfl⟩
      have hAs := (sh_aw (c := c9) (k := k9) (by omega) hI hS1).1
      obtain ⟨s41, s42, s43, s40, s38, s39, s37, s116⟩ := shW_P (w := w) (c := c9) (k := k9) (w 106 k9).toNat
      generalize shW w c9 k9 (w 106 k9).toNat = ws at *
      have h37 := zfld hAs.1 (j := 37) (b := (0, 800)) rfl
      have a37 : (0 : Int) ≤ ws 95 37 := h37.1
      have b37 : ws 95 37 ≤ (800 : Int) := h37.2
      show qG none (d + 1) 255 22 [(2, 95), (0, ((c9 : Nat) : Int)), (0, ((k9 : Nat) : Int)), (0, v)] [] ws 142 Q9
      refine qG.blk 1 (pc' := 23) (ls' := [(2, 95), (0, ((c9 : Nat) : Int)), (0, ((k9 : Nat) : Int)), (0, v)]) (st' := [(0, v)]) (w' := ws) (n' := 142) rfl ?_
      refine qG.br (P := v = 0) (pc1 := 26) (pc2 := 33) (st1 := []) rfl (fun hv0 => ?_) (fun hv0 => ?_)
      · skip
        refine qG.blk 3 (pc' := 70) (ls' := [(2, 95), (0, ((c9 : Nat) : Int)), (0, ((k9 : Nat) : Int)), (0, v)]) (st' := [(0, ws 95 37)]) (w' := ws) (n' := 142) rfl ?_
        refine qG.ret rfl rfl ?_
        subst hQ9
        unfold rnA; rw [if_neg hc0, if_neg hk0, Int.toNat_natCast, Int.toNat_natCast]; unfold rnR rnV
        exact congrArg (Prod.mk 0) (s37.trans (fcV_0 hv0))
      · skip
        refine qG.blk 2 (pc' := 35) (ls' := [(2, 95), (0, ((c9 : Nat) : Int)), (0, ((k9 : Nat) : Int)), (0, v)]) (st' := [(0, 1), (0, v)]) (w' := ws) (n' := 142) rfl ?_
        refine qG.br (P := v = 1) (pc1 := 38) (pc2 := 45) (st1 := []) rfl (fun hv1 => ?_) (fun hv1 => ?_)
        · skip
          refine qG.blk 3 (pc' := 70) (ls' := [(2, 95), (0, ((c9 : Nat) : Int)), (0, ((k9 : Nat) : Int)), (0, v)]) (st' := [(0, ws 95 38)]) (w' := ws) (n' := 142) rfl ?_
          refine qG.ret rfl rfl ?_
          subst hQ9
          unfold rnA; rw [if_neg hc0, if_neg hk0, Int.toNat_natCast, Int.toNat_natCast]; unfold rnR rnV
          exact congrArg (Prod.mk 0) (s38.trans (fcV_1 hv1))
        · skip
          refine qG.blk 2 (pc' := 47) (ls' := [(2, 95), (0, ((c9 : Nat) : Int)), (0, ((k9 : Nat) : Int)), (0, v)]) (st' := [(0, 2), (0, v)]) (w' := ws) (n' := 142) rfl ?_
          refine qG.br (P := v = 2) (pc1 := 50) (pc2 := 57) (st1 := []) rfl (fun hv2 => ?_) (fun hv2 => ?_)
          · skip
            refine qG.blk 3 (pc' := 70) (ls' := [(2, 95), (0, ((c9 : Nat) : Int)), (0, ((k9 : Nat) : Int)), (0, v)]) (st' := [(0, ws 95 39)]) (w' := ws) (n' := 142) rfl ?_
            refine qG.ret rfl rfl ?_
            subst hQ9
            unfold rnA; rw [if_neg hc0, if_neg hk0, Int.toNat_natCast, Int.toNat_natCast]; unfold rnR rnV
            exact congrArg (Prod.mk 0) (s39.trans (fcV_2 hv2))
          · skip
            refine qG.blk 2 (pc' := 59) (ls' := [(2, 95), (0, ((c9 : Nat) : Int)), (0, ((k9 : Nat) : Int)), (0, v)]) (st' := [(0, 3), (0, v)]) (w' := ws) (n' := 142) rfl ?_
            refine qG.br (P := v = 3) (pc1 := 62) (pc2 := 69) (st1 := []) rfl (fun hv3 => ?_) (fun hv3 => ?_)
            · skip
              refine qG.blk 3 (pc' := 70) (ls' := [(2, 95), (0, ((c9 : Nat) : Int)), (0, ((k9 : Nat) : Int)), (0, v)]) (st' := [(0, ws 95 40)]) (w' := ws) (n' := 142) rfl ?_
              refine qG.ret rfl rfl ?_
              subst hQ9
              unfold rnA; rw [if_neg hc0, if_neg hk0, Int.toNat_natCast, Int.toNat_natCast]; unfold rnR rnV
              exact congrArg (Prod.mk 0) (s40.trans (fcV_3 hv3))
            · skip
              refine qG.blk 1 (pc' := 70) (ls' := [(2, 95), (0, ((c9 : Nat) : Int)), (0, ((k9 : Nat) : Int)), (0, v)]) (st' := [(0, (-1))]) (w' := ws) (n' := 142) rfl ?_
              refine qG.ret rfl rfl ?_
              subst hQ9
              unfold rnA; rw [if_neg hc0, if_neg hk0, Int.toNat_natCast, Int.toNat_natCast]; unfold rnR rnV
              exact congrArg (Prod.mk 0) (by unfold fcV; rw [if_neg hv0, if_neg hv1, if_neg hv2, if_neg hv3])
/-- what holds between the calls of the rows of shows -/
def JSh (n : Nat) (w : qW) : Prop := JP n w ∧ JM w ∧ JR w
def jtM (m : List Nat) : Bool := jpM m && (jmM m && jrM m)
theorem JSh.up {n m : Nat} {w : qW} (h : JSh n w) (hm : n ≤ m) : JSh m w := ⟨h.1.up hm, h.2⟩
theorem JSh.aw {n : Nat} {m : List Nat} {w w1 : qW} (h : JSh n w) (a : AW m w w1) (hm : jtM m = true) : JSh n w1 := by
  unfold jtM at hm
  simp only [Bool.and_eq_true] at hm
  exact ⟨h.1.aw a hm.1, h.2.1.aw a hm.2.1, h.2.2.aw a hm.2.2⟩
def jt2M (m : List Nat) : Bool := jmM m && jrM m
theorem JSh.aw2 {n : Nat} {m : List Nat} {w w1 : qW} (h : JSh n w) (a : AW m w w1) (hm : jt2M m = true) : JM w1 ∧ JR w1 := by
  unfold jt2M at hm
  simp only [Bool.and_eq_true] at hm
  exact ⟨h.2.1.aw a hm.1, h.2.2.aw a hm.2⟩
