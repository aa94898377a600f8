/-! all tokens of a tape -/
noncomputable def sbl (w : qW) (u : Nat) : Prop := sgV w u = 32 ∨ sgV w u = 10
/-- the first t tokens stand in the rows; the one ahead of token j ends at E j -/
noncomputable def CHc (w : qW) (l l2 : List Int) (n : Nat) (w9 : qW) (t : Nat) (E : Nat → Nat) : Prop := E 0 = 0 ∧ ∀ j, j < t → ∃ a : Nat, w9 11 j = (a : Int) ∧ E j ≤ a ∧ a < n ∧ (∀ u, E j ≤ u → u < a → sbl w u) ∧ ¬ sbl w a ∧ TKc w l l2 n a (w9 10 j) (E (j + 1)) ∧ a < E (j + 1) ∧ E (j + 1) ≤ n
theorem TKc.lt {w : qW} {l l2 : List Int} {n a e : Nat} {v : Int} (h : TKc w l l2 n a v e) (ha : a < n) : a < e ∧ e ≤ n := by
  rcases h with ⟨h1, h2, -⟩ | ⟨-, h1, h2, -⟩ | ⟨-, -, h2, -⟩
  · refine ⟨?_, h2.2.1⟩
    have := h2.1
    by_cases q : a = e
    · exact absurd (q ▸ h1) h2.2.2.2
    · omega
  · refine ⟨?_, h2.2.1⟩
    have := h2.1
    by_cases q : a = e
    · exact absurd (q ▸ h1) h2.2.2.2
    · omega
  · omega
theorem sg_cg {w w1 : qW} (h9 : ∀ k, w1 9 k = w 9 k) (h8 : w1 8 1 = w 8 1) (k : Nat) : sgV w1 k = sgV w k := by unfold sgV; rw [h9, h8]
theorem TK_cg {w w1 : qW} (h9 : ∀ k, w1 9 k = w 9 k) (h8 : w1 8 1 = w 8 1) {l l2 : List Int} {n a e : Nat} {v : Int} (h : TKc w1 l l2 n a v e) : TKc w l l2 n a v e := by
  have s := sg_cg h9 h8
  have nm : ∀ k, nmF w1 a k = nmF w a k := fun k => by
    induction k with
    | zero => rfl
    | succ k ih => unfold nmF; rw [ih, s]
  unfold TKc CL wcP WM at h ⊢
  simp only [s, nm, h9] at h ⊢
  exact h
noncomputable def upE (E : Nat → Nat) (k e j : Nat) : Nat := if j = k then e else E j
theorem upE_y {E : Nat → Nat} {k e : Nat} : upE E k e k = e := if_pos rfl
theorem upE_n {E : Nat → Nat} {k e j : Nat} (h : j ≠ k) : upE E k e j = E j := if_neg h
theorem CHc.up {w : qW} {l l2 : List Int} {n : Nat} {w9 : qW} {t : Nat} {E : Nat → Nat} {a e : Nat} {v : Int} (h : CHc w l l2 n w9 t E) (hE : E t ≤ a) (ha : a < n) (hb : ∀ u, E t ≤ u → u < a → sbl w u) (hn : ¬ sbl w a) (hT : TKc w l l2 n a v e) : CHc w l l2 n (adW w9 t v (a : Int)) (t + 1) (upE E (t + 1) e) := by
  refine ⟨by rw [upE_n (by omega)]; exact h.1, fun j hj => ?_⟩
  by_cases q : j = t
  · subst q
    have e1 : adW w9 j v (a : Int) 11 j = (a : Int) := by unfold adW; rw [qup_ne (by decide), qup_k]
    have e2 : adW w9 j v (a : Int) 10 j = v := by unfold adW; rw [qup_ne (by decide), qup_ne (by decide), qup_k]
    have := hT.lt ha
    refine ⟨a, e1, ?_, ha, ?_, hn, ?_, ?_, ?_⟩
    · rw [upE_n (by omega)]; exact hE
    · rw [upE_n (by omega)]; exact hb
    · rw [e2, upE_y]; exact hT
    · rw [upE_y]; exact this.1
    · rw [upE_y]; exact this.2
  · obtain ⟨a2, c1, c2, c3, c4, c5, c6, c7, c8⟩ := h.2 j (by omega)
    have e1 : adW w9 t v (a : Int) 11 j = w9 11 j := by unfold adW; rw [qup_ne (by decide), qup_j q, qup_ne (by decide)]
    have e2 : adW w9 t v (a : Int) 10 j = w9 10 j := by unfold adW; rw [qup_ne (by decide), qup_ne (by decide), qup_j q]
    refine ⟨a2, e1.trans c1, ?_, c3, ?_, c5, ?_, ?_, ?_⟩
    · rw [upE_n (by omega)]; exact c2
    · rw [upE_n (by omega)]; exact c4
    · rw [e2, upE_n (by omega)]; exact c6
    · rw [upE_n (by omega)]; exact c7
    · rw [upE_n (by omega)]; exact c8
/-- what readTokens leaves -/
noncomputable def TKA (w : qW) (l l2 : List Int) (n : Nat) (w1 : qW) : Prop := yInv zgf zga zra zSp w1 ∧ ∃ (t : Nat) (E : Nat → Nat), t ≤ n ∧ w1 8 4 = ((t + 1 : Nat) : Int) ∧ w1 8 5 = 0 ∧ CHc w l l2 n w1 t E ∧ E t ≤ n ∧ (∀ u, E t ≤ u → u < n → sbl w u) ∧ w1 10 t = -2 ∧ w1 11 t = (n : Int) ∧ ∀ q k, q ≠ 10 → q ≠ 11 → ¬ (q = 8 ∧ (k = 4 ∨ k = 5)) → w1 q k = w q k
/-- the loop over the places -/
noncomputable def TKI (w : qW) (l l2 : List Int) (n p b : Nat) (w9 : qW) : Prop := ∃ (t : Nat) (E : Nat → Nat), w9 8 4 = (t : Int) ∧ t ≤ E t ∧ E t ≤ b ∧ p ≤ b ∧ b ≤ n ∧ (∀ u, E t ≤ u → u < b → sbl w u) ∧ CHc w l l2 n w9 t E ∧ w9 8 5 = 0 ∧ (∀ q k, q ≠ 10 → q ≠ 11 → ¬ (q = 8 ∧ (k = 4 ∨ k = 5)) → w9 q k = w q k) ∧ yInv zgf zga zra zSp w9
theorem adW_I {w : qW} {t : Nat} {v q : Int} (hI : yInv zgf zga zra zSp w) (ht : t ≤ 600) (hv : -2147483648 ≤ v ∧ v ≤ 2147483647) (hq : -2147483648 ≤ q ∧ q ≤ 2147483647) : yInv zgf zga zra zSp (adW w t v q) := zup_f (zup_a (zup_a hI (b := (-2147483648, 2147483647)) rfl rfl hv) (b := (-2147483648, 2147483647)) rfl rfl hq) (b := (0, 601)) rfl rfl rfl ⟨by show (0 : Int) ≤ _; omega, by show _ ≤ (601 : Int); omega⟩
theorem TKc.in {w : qW} {l l2 : List Int} {n a e : Nat} {v : Int} (h : TKc w l l2 n a v e) (hn : n ≤ 600) (hl : l.length ≤ 600) : -2147483648 ≤ v ∧ v ≤ 2147483647 := by
  rcases h with ⟨-, -, h⟩ | ⟨-, -, h2, rfl⟩ | ⟨-, -, -, rfl⟩
  · rcases h with ⟨i, hi, -, rfl⟩ | ⟨-, rfl⟩
    · have : ∀ i, wkF l i ≤ i := fun i => by
        induction i with
        | zero => exact Nat.le_refl 0
        | succ i ih => unfold wkF; split <;> omega
      have := this i
      omega
    · omega
  · have := h2.2.1
    split
    · rename_i h4
      have q := nm_in (w := w) (a := a) (b := e) h2.2.2.1 (e - a) h4 (by have := h2.1; omega)
      omega
    · omega
  · have := sgV_in w a
    split <;> omega
theorem TKI.st {w : qW} {l l2 : List Int} {n : Nat} {wz : qW} (hI : yInv zgf zga zra zSp wz) (h84 : wz 8 4 = 0) (h85 : wz 8 5 = 0) (hf : ∀ q k, q ≠ 10 → q ≠ 11 → ¬ (q = 8 ∧ (k = 4 ∨ k = 5)) → wz q k = w q k) : TKI w l l2 n 0 0 wz := ⟨0, fun _ => 0, h84, Nat.le_refl 0, Nat.le_refl 0, Nat.le_refl 0, Nat.zero_le _, fun u _ h => absurd h (Nat.not_lt_zero u), ⟨rfl, fun j hj => absurd hj (Nat.not_lt_zero j)⟩, h85, hf, hI⟩
theorem TKI.skip {w : qW} {l l2 : List Int} {n p b : Nat} {w9 : qW} (h : TKI w l l2 n p b w9) (hp : p < b) : TKI w l l2 n (p + 1) b w9 := by
  obtain ⟨t, E, a1, a2, a3, a4, a5, a6⟩ := h
  exact ⟨t, E, a1, a2, a3, hp, a5, a6⟩
theorem TKI.blank {w : qW} {l l2 : List Int} {n p : Nat} {w9 : qW} (h : TKI w l l2 n p p w9) (hp : p < n) (hb : sbl w p) : TKI w l l2 n (p + 1) (p + 1) w9 := by
  obtain ⟨t, E, a1, a2, a3, a4, a5, a6, a7⟩ := h
  refine ⟨t, E, a1, a2, by omega, Nat.le_refl _, hp, fun u h1 h2 => ?_, a7⟩
  by_cases e : u = p
  · rw [e]; exact hb
  · exact a6 u h1 (by omega)
theorem TKI.tok {w : qW} {l l2 : List Int} {n p e t : Nat} {v : Int} {w9 : qW} (h : TKI w l l2 n p p w9) (ht : w9 8 4 = (t : Int)) (hn6 : n ≤ 600) (hl6 : l.length ≤ 600) (hp : p < n) (hb : ¬ sbl w p) (hT : TKc w l l2 n p v e) : TKI w l l2 n (p + 1) e (adW w9 t v (p : Int)) := by
  obtain ⟨t2, E, a1, a2, a3, a4, a5, a6, a7, a8, a9, a10⟩ := h
  obtain rfl : t2 = t := by omega
  have q := hT.lt hp
  refine ⟨t2 + 1, upE E (t2 + 1) e, by unfold adW; exact qup_k, ?_, ?_, by omega, q.2, fun u h1 h2 => ?_, a7.up a3 hp a6 hb hT, ?_, fun q k h1 h2 h3 => ?_, adW_I a10 (by omega) (hT.in hn6 hl6) (by omega)⟩
  · rw [upE_y]; omega
  · rw [upE_y]; exact Nat.le_refl _
  · exfalso
    rw [upE_y] at h1
    omega
  · unfold adW
    rw [qup_j (by decide), qup_ne (by decide), qup_ne (by decide)]; exact a8
  · unfold adW
    rw [qup_f (fun z => h3 ⟨z.1, .inl z.2⟩), qup_ne h2, qup_ne h1]
    exact a9 q k h1 h2 h3
theorem TKI.fin {w : qW} {l l2 : List Int} {n p b t : Nat} {w9 : qW} (h : TKI w l l2 n p b w9) (ht : w9 8 4 = (t : Int)) (hn6 : n ≤ 600) (hp : n ≤ p) : TKA w l l2 n (adW w9 t (-2) (n : Int)) := by
  obtain ⟨t2, E, a1, a2, a3, a4, a5, a6, a7, a8, a9, a10⟩ := h
  obtain rfl : t2 = t := by omega
  refine ⟨adW_I a10 (by omega) (by decide) (by omega), t2, E, by omega, by unfold adW; exact qup_k, ?_, ⟨a7.1, fun j hj => ?_⟩, by omega, fun u h1 h2 => a6 u h1 (by omega), ?_, ?_, fun q k h1 h2 h3 => ?_⟩
  · unfold adW
    rw [qup_j (by decide), qup_ne (by decide), qup_ne (by decide)]; exact a8
  · obtain ⟨a, c1, c2⟩ := a7.2 j hj
    have e1 : adW w9 t2 (-2) (n : Int) 11 j = w9 11 j := by unfold adW; rw [qup_ne (by decide), qup_j (by omega), qup_ne (by decide)]
    have e2 : adW w9 t2 (-2) (n : Int) 10 j = w9 10 j := by unfold adW; rw [qup_ne (by decide), qup_ne (by decide), qup_j (by omega)]
    rw [e2]
    exact ⟨a, e1.trans c1, c2⟩
  · unfold adW; rw [qup_ne (by decide), qup_ne (by decide), qup_k]
  · unfold adW; rw [qup_ne (by decide), qup_k]
  · unfold adW
    rw [qup_f (fun z => h3 ⟨z.1, .inl z.2⟩), qup_ne h2, qup_ne h1]
    exact a9 q k h1 h2 h3
theorem TKI.t {w : qW} {l l2 : List Int} {n p b : Nat} {w9 : qW} (h : TKI w l l2 n p b w9) : ∃ t : Nat, w9 8 4 = (t : Int) ∧ t ≤ b ∧ p ≤ b ∧ b ≤ n ∧ yInv zgf zga zra zSp w9 ∧ (∀ k, w9 9 k = w 9 k) ∧ w9 8 1 = w 8 1 := by
  obtain ⟨t2, E, a1, a2, a3, a4, a5, a6, a7, a8, a9, a10⟩ := h
  exact ⟨t2, a1, by omega, a4, a5, a10, fun k => a9 9 k (by decide) (by decide) (fun z => by cases z.1), a9 8 1 (by decide) (by decide) (by decide)⟩
theorem K_cToks3 {d : Nat} (hd : 7 ≤ d) (l l2 : List Int) (hl : qtxb 3 = some l) (hl2 : qtxb 4 = some l2) (hl6 : l.length ≤ 600) (n : Nat) (hn9 : n ≤ 600) (w : qW) (hI : yInv zgf zga zra zSp w) (hn : w 8 1 = (n : Int)) : qG none d 134 0 [(2, 8), (3, 3), (3, 4), (9, 0), (9, 0)] [] w 142 (fun (r : qV) (w1 : qW) (n1 : Nat) => n1 = 142 ∧ r = (9, 0) ∧ TKA w l l2 n w1) := by
  generalize hQ9 : (fun (r : qV) (w1 : qW) (n1 : Nat) => n1 = 142 ∧ r = (9, 0) ∧ TKA w l l2 n w1) = Q9
  obtain ⟨d, rfl⟩ : ∃ d9, d = d9 + 1 := ⟨d - 1, by omega⟩
  refine qG.blk 10 (pc' := 15) (ls' := [(2, 8), (3, 3), (3, 4), (0, 0), (0, 0)]) (st' := []) (w' := (qup (qup w 8 4 0) 8 5 0)) (n' := 142) rfl ?_
  have L15 : ∀ (m9 : Nat) (p b : Nat) (w9 : qW), n - p = m9 → (p ≤ n ∧ TKI w l l2 n p b w9) → qG none (d + 1) 134 15 [(2, 8), (3, 3), (3, 4), (0, ((b : Nat) : Int)), (0, ((p : Nat) : Int))] [] w9 142 Q9 := by
    intro m9
    induction m9 using Nat.strongRecOn with
    | ind m9 ih15 =>
    intro p b w9 hm15 hI15
    obtain ⟨hpn, hT9⟩ := hI15
    obtain ⟨t9, ht9, htb, hpb, hbn, hI9, h9, h81⟩ := hT9.t
    rw [hn] at h81
    refine qG.blk 3 (pc' := 21) (ls' := [(2, 8), (3, 3), (3, 4), (0, ((b : Nat) : Int)), (0, ((p : Nat) : Int))]) (st' := [(0, w9 8 1), (0, ((p : Nat) : Int))]) (w' := w9) (n' := 142) rfl ?_
    rw [show w9 8 1 = ((n : Nat) : Int) from h81]
    refine qG.br (P := ((p : Nat) : Int) < ((n : Nat) : Int)) (pc1 := 24) (pc2 := 45) (st1 := []) rfl (fun h21 => ?_) (fun h21 => ?_)
    · skip
      refine qG.blk 2 (pc' := 27) (ls' := [(2, 8), (3, 3), (3, 4), (0, ((b : Nat) : Int)), (0, ((p : Nat) : Int))]) (st' := [(0, ((b : Nat) : Int)), (0, ((p : Nat) : Int))]) (w' := w9) (n' := 142) rfl ?_
      refine qG.br (P := ((p : Nat) : Int) < ((b : Nat) : Int)) (pc1 := 39) (pc2 := 30) (st1 := []) rfl (fun h27 => ?_) (fun h27 => ?_)
      · skip
        refine qG.blk 1 (pc' := 42) (ls' := [(2, 8), (3, 3), (3, 4), (0, ((b : Nat) : Int)), (0, wrp (((p : Nat) : Int) + 1))]) (st' := []) (w' := w9) (n' := 142) rfl ?_
        rw [show wrp (((p : Nat) : Int) + 1) = ((p + 1 : Nat) : Int) from wrp_id (by omega) (by omega)]
        refine qG.blk 1 (pc' := 15) (ls' := [(2, 8), (3, 3), (3, 4), (0, ((b : Nat) : Int)), (0, ((p + 1 : Nat) : Int))]) (st' := []) (w' := w9) (n' := 142) rfl ?_
        exact ih15 _ (by omega) (p + 1) (b) (w9) rfl (⟨by omega, hT9.skip (by omega)⟩)
      · skip
        refine qG.blk 4 (pc' := 35) (ls' := [(2, 8), (3, 3), (3, 4), (0, ((b : Nat) : Int)), (0, ((p : Nat) : Int))]) (st' := [(3, 4), (3, 3), (0, ((p : Nat) : Int)), (2, 8)]) (w' := w9) (n' := 142) rfl ?_
        have hbp : b = p := by omega
        have hT9p : TKI w l l2 n p p w9 := by rw [hbp] at hT9; exact hT9
        have sb9 : (sgV w9 p = 32 ∨ sgV w9 p = 10) ↔ sbl w p := by unfold sbl; rw [sg_cg h9 (h81.trans hn.symm)]
        refine qG.call (t := 135) (na := 4) (sk := 1) (md := 1) (ls1 := [(2, 8), (0, ((p : Nat) : Int)), (3, 3), (3, 4), (9, 0), (9, 0)]) (r1 := []) rfl rfl rfl rfl rfl (K_cTok (by omega) 3 4 l l2 hl hl2 p t9 (by omega) n hn9 w9 hI9 h81 (by omega) ht9) ?_
        rintro ⟨_, x9⟩ w7 _ ⟨rfl, hT⟩; rcases hT with ⟨hbl, hx9, hw7⟩ | ⟨hbl, e, v, hTK, hx9, hw7⟩ <;> obtain ⟨rfl, rfl⟩ := Prod.mk.inj hx9 <;> have hw7 := hw7.symm <;> subst hw7
        · skip
          show qG none (d + 1) 134 38 [(2, 8), (3, 3), (3, 4), (0, ((b : Nat) : Int)), (0, ((p : Nat) : Int))] [(0, ((p + 1 : Nat) : Int))] w9 142 Q9
          refine qG.blk 2 (pc' := 42) (ls' := [(2, 8), (3, 3), (3, 4), (0, ((p + 1 : Nat) : Int)), (0, wrp (((p : Nat) : Int) + 1))]) (st' := []) (w' := w9) (n' := 142) rfl ?_
          rw [show wrp (((p : Nat) : Int) + 1) = ((p + 1 : Nat) : Int) from wrp_id (by omega) (by omega)]
          refine qG.blk 1 (pc' := 15) (ls' := [(2, 8), (3, 3), (3, 4), (0, ((p + 1 : Nat) : Int)), (0, ((p + 1 : Nat) : Int))]) (st' := []) (w' := w9) (n' := 142) rfl ?_
          exact ih15 _ (by omega) (p + 1) (p + 1) (w9) rfl (⟨by omega, hT9p.blank (by omega) (sb9.mp hbl)⟩)
        · skip
          show qG none (d + 1) 134 38 [(2, 8), (3, 3), (3, 4), (0, ((b : Nat) : Int)), (0, ((p : Nat) : Int))] [(0, ((e : Nat) : Int))] (adW w9 t9 v ((p : Nat) : Int)) 142 Q9
          refine qG.blk 2 (pc' := 42) (ls' := [(2, 8), (3, 3), (3, 4), (0, ((e : Nat) : Int)), (0, wrp (((p : Nat) : Int) + 1))]) (st' := []) (w' := (adW w9 t9 v ((p : Nat) : Int))) (n' := 142) rfl ?_
          rw [show wrp (((p : Nat) : Int) + 1) = ((p + 1 : Nat) : Int) from wrp_id (by omega) (by omega)]
          refine qG.blk 1 (pc' := 15) (ls' := [(2, 8), (3, 3), (3, 4), (0, ((e : Nat) : Int)), (0, ((p + 1 : Nat) : Int))]) (st' := []) (w' := (adW w9 t9 v ((p : Nat) : Int))) (n' := 142) rfl ?_
          exact ih15 _ (by omega) (p + 1) (e) ((adW w9 t9 v ((p : Nat) : Int))) rfl (⟨by omega, hT9p.tok ht9 hn9 hl6 (by omega) (fun z => hbl (sb9.mpr z)) (TK_cg h9 (h81.trans hn.symm) hTK)⟩)
    · skip
      refine qG.blk 4 (pc' := 52) (ls' := [(2, 8), (3, 3), (3, 4), (0, ((b : Nat) : Int)), (0, ((p : Nat) : Int))]) (st' := [(0, w9 8 1), (0, (-2)), (2, 8)]) (w' := w9) (n' := 142) rfl ?_
      rw [show w9 8 1 = ((n : Nat) : Int) from h81]
      refine qG.call (t := 144) (na := 3) (sk := 1) (md := 1) (ls1 := [(2, 8), (0, (-2)), (0, ((n : Nat) : Int))]) (r1 := []) rfl rfl rfl rfl rfl (K_cAdd (by omega) (-2) ((n : Nat) : Int) t9 (by omega) n hn9 w9 hI9 h81 ht9) ?_
      rintro _ w7 _ ⟨rfl, rfl, hw7⟩
      rw [hw7]
      rw [show qup (qup (qup w9 10 t9 (-2)) 11 t9 ((n : Nat) : Int)) 8 4 ((t9 + 1 : Nat) : Int) = adW w9 t9 (-2) ((n : Nat) : Int) from rfl]
      show qG none (d + 1) 134 55 [(2, 8), (3, 3), (3, 4), (0, ((b : Nat) : Int)), (0, ((p : Nat) : Int))] [] (adW w9 t9 (-2) ((n : Nat) : Int)) 142 Q9
      refine qG.retv rfl rfl ?_
      subst hQ9
      exact ⟨rfl, rfl, hT9.fin ht9 hn9 (by omega)⟩
  exact L15 _ (0) (0) ((qup (qup w 8 4 0) 8 5 0)) rfl (⟨Nat.zero_le _, TKI.st (zup_f (zup_f hI (b := (0, 601)) rfl rfl rfl ⟨by decide, by decide⟩) (b := (-2147483648, 2147483647)) rfl rfl rfl ⟨by decide, by decide⟩) (by rw [qup_j (by decide), qup_k]) qup_k (fun q k h1 h2 h3 => by rw [qup_f (fun z => h3 ⟨z.1, .inr z.2⟩), qup_f (fun z => h3 ⟨z.1, .inl z.2⟩)])⟩)
theorem K_cToks1 {d : Nat} (hd : 7 ≤ d) (l l2 : List Int) (hl : qtxb 1 = some l) (hl2 : qtxb 2 = some l2) (hl6 : l.length ≤ 600) (n : Nat) (hn9 : n ≤ 600) (w : qW) (hI : yInv zgf zga zra zSp w) (hn : w 8 1 = (n : Int)) : qG none d 134 0 [(2, 8), (3, 1), (3, 2), (9, 0), (9, 0)] [] w 142 (fun (r : qV) (w1 : qW) (n1 : Nat) => n1 = 142 ∧ r = (9, 0) ∧ TKA w l l2 n w1) := by
  generalize hQ9 : (fun (r : qV) (w1 : qW) (n1 : Nat) => n1 = 142 ∧ r = (9, 0) ∧ TKA w l l2 n w1) = Q9
  obtain ⟨d, rfl⟩ : ∃ d9, d = d9 + 1 := ⟨d - 1, by omega⟩
  refine qG.blk 10 (pc' := 15) (ls' := [(2, 8), (3, 1), (3, 2), (0, 0), (0, 0)]) (st' := []) (w' := (qup (qup w 8 4 0) 8 5 0)) (n' := 142) rfl ?_
  have L15 : ∀ (m9 : Nat) (p b : Nat) (w9 : qW), n - p = m9 → (p ≤ n ∧ TKI w l l2 n p b w9) → qG none (d + 1) 134 15 [(2, 8), (3, 1), (3, 2), (0, ((b : Nat) : Int)), (0, ((p : Nat) : Int))] [] w9 142 Q9 := by
    intro m9
    induction m9 using Nat.strongRecOn with
    | ind m9 ih15 =>
    intro p b w9 hm15 hI15
    obtain ⟨hpn, hT9⟩ := hI15
    obtain ⟨t9, ht9, htb, hpb, hbn, hI9, h9, h81⟩ := hT9.t
    rw [hn] at h81
    refine qG.blk 3 (pc' := 21) (ls' := [(2, 8), (3, 1), (3, 2), (0, ((b : Nat) : Int)), (0, ((p : Nat) : Int))]) (st' := [(0, w9 8 1), (0, ((p : Nat) : Int))]) (w' := w9) (n' := 142) rfl ?_
    rw [show w9 8 1 = ((n : Nat) : Int) from h81]
    refine qG.br (P := ((p : Nat) : Int) < ((n : Nat) : Int)) (pc1 := 24) (pc2 := 45) (st1 := []) rfl (fun h21 => ?_) (fun h21 => ?_)
    · skip
      refine qG.blk 2 (pc' := 27) (ls' := [(2, 8), (3, 1), (3, 2), (0, ((b : Nat) : Int)), (0, ((p : Nat) : Int))]) (st' := [(0, ((b : Nat) : Int)), (0, ((p : Nat) : Int))]) (w' := w9) (n' := 142) rfl ?_
      refine qG.br (P := ((p : Nat) : Int) < ((b : Nat) : Int)) (pc1 := 39) (pc2 := 30) (st1 := []) rfl (fun h27 => ?_) (fun h27 => ?_)
      · skip
        refine qG.blk 1 (pc' := 42) (ls' := [(2, 8), (3, 1), (3, 2), (0, ((b : Nat) : Int)), (0, wrp (((p : Nat) : Int) + 1))]) (st' := []) (w' := w9) (n' := 142) rfl ?_
        rw [show wrp (((p : Nat) : Int) + 1) = ((p + 1 : Nat) : Int) from wrp_id (by omega) (by omega)]
        refine qG.blk 1 (pc' := 15) (ls' := [(2, 8), (3, 1), (3, 2), (0, ((b : Nat) : Int)), (0, ((p + 1 : Nat) : Int))]) (st' := []) (w' := w9) (n' := 142) rfl ?_
        exact ih15 _ (by omega) (p + 1) (b) (w9) rfl (⟨by omega, hT9.skip (by omega)⟩)
      · skip
        refine qG.blk 4 (pc' := 35) (ls' := [(2, 8), (3, 1), (3, 2), (0, ((b : Nat) : Int)), (0, ((p : Nat) : Int))]) (st' := [(3, 2), (3, 1), (0, ((p : Nat) : Int)), (2, 8)]) (w' := w9) (n' := 142) rfl ?_
        have hbp : b = p := by omega
        have hT9p : TKI w l l2 n p p w9 := by rw [hbp] at hT9; exact hT9
        have sb9 : (sgV w9 p = 32 ∨ sgV w9 p = 10) ↔ sbl w p := by unfold sbl; rw [sg_cg h9 (h81.trans hn.symm)]
        refine qG.call (t := 135) (na := 4) (sk := 1) (md := 1) (ls1 := [(2, 8), (0, ((p : Nat) : Int)), (3, 1), (3, 2), (9, 0), (9, 0)]) (r1 := []) rfl rfl rfl rfl rfl (K_cTok (by omega) 1 2 l l2 hl hl2 p t9 (by omega) n hn9 w9 hI9 h81 (by omega) ht9) ?_
        rintro ⟨_, x9⟩ w7 _ ⟨rfl, hT⟩; rcases hT with ⟨hbl, hx9, hw7⟩ | ⟨hbl, e, v, hTK, hx9, hw7⟩ <;> obtain ⟨rfl, rfl⟩ := Prod.mk.inj hx9 <;> have hw7 := hw7.symm <;> subst hw7
        · skip
          show qG none (d + 1) 134 38 [(2, 8), (3, 1), (3, 2), (0, ((b : Nat) : Int)), (0, ((p : Nat) : Int))] [(0, ((p + 1 : Nat) : Int))] w9 142 Q9
          refine qG.blk 2 (pc' := 42) (ls' := [(2, 8), (3, 1), (3, 2), (0, ((p + 1 : Nat) : Int)), (0, wrp (((p : Nat) : Int) + 1))]) (st' := []) (w' := w9) (n' := 142) rfl ?_
          rw [show wrp (((p : Nat) : Int) + 1) = ((p + 1 : Nat) : Int) from wrp_id (by omega) (by omega)]
          refine qG.blk 1 (pc' := 15) (ls' := [(2, 8), (3, 1), (3, 2), (0, ((p + 1 : Nat) : Int)), (0, ((p + 1 : Nat) : Int))]) (st' := []) (w' := w9) (n' := 142) rfl ?_
          exact ih15 _ (by omega) (p + 1) (p + 1) (w9) rfl (⟨by omega, hT9p.blank (by omega) (sb9.mp hbl)⟩)
        · skip
          show qG none (d + 1) 134 38 [(2, 8), (3, 1), (3, 2), (0, ((b : Nat) : Int)), (0, ((p : Nat) : Int))] [(0, ((e : Nat) : Int))] (adW w9 t9 v ((p : Nat) : Int)) 142 Q9
          refine qG.blk 2 (pc' := 42) (ls' := [(2, 8), (3, 1), (3, 2), (0, ((e : Nat) : Int)), (0, wrp (((p : Nat) : Int) + 1))]) (st' := []) (w' := (adW w9 t9 v ((p : Nat) : Int))) (n' := 142) rfl ?_
          rw [show wrp (((p : Nat) : Int) + 1) = ((p + 1 : Nat) : Int) from wrp_id (by omega) (by omega)]
          refine qG.blk 1 (pc' := 15) (ls' := [(2, 8), (3, 1), (3, 2), (0, ((e : Nat) : Int)), (0, ((p + 1 : Nat) : Int))]) (st' := []) (w' := (adW w9 t9 v ((p : Nat) : Int))) (n' := 142) rfl ?_
          exact ih15 _ (by omega) (p + 1) (e) ((adW w9 t9 v ((p : Nat) : Int))) rfl (⟨by omega, hT9p.tok ht9 hn9 hl6 (by omega) (fun z => hbl (sb9.mpr z)) (TK_cg h9 (h81.trans hn.symm) hTK)⟩)
    · skip
      refine qG.blk 4 (pc' := 52) (ls' := [(2, 8), (3, 1), (3, 2), (0, ((b : Nat) : Int)), (0, ((p : Nat) : Int))]) (st' := [(0, w9 8 1), (0, (-2)), (2, 8)]) (w' := w9) (n' := 142) rfl ?_
      rw [show w9 8 1 = ((n : Nat) : Int) from h81]
      refine qG.call (t := 144) (na := 3) (sk := 1) (md := 1) (ls1 := [(2, 8), (0, (-2)), (0, ((n : Nat) : Int))]) (r1 := []) rfl rfl rfl rfl rfl (K_cAdd (by omega) (-2) ((n : Nat) : Int) t9 (by omega) n hn9 w9 hI9 h81 ht9) ?_
      rintro _ w7 _ ⟨rfl, rfl, hw7⟩
      rw [hw7]
      rw [show qup (qup (qup w9 10 t9 (-2)) 11 t9 ((n : Nat) : Int)) 8 4 ((t9 + 1 : Nat) : Int) = adW w9 t9 (-2) ((n : Nat) : Int) from rfl]
      show qG none (d + 1) 134 55 [(2, 8), (3, 1), (3, 2), (0, ((b : Nat) : Int)), (0, ((p : Nat) : Int))] [] (adW w9 t9 (-2) ((n : Nat) : Int)) 142 Q9
      refine qG.retv rfl rfl ?_
      subst hQ9
      exact ⟨rfl, rfl, hT9.fin ht9 hn9 (by omega)⟩
  exact L15 _ (0) (0) ((qup (qup w 8 4 0) 8 5 0)) rfl (⟨Nat.zero_le _, TKI.st (zup_f (zup_f hI (b := (0, 601)) rfl rfl rfl ⟨by decide, by decide⟩) (b := (-2147483648, 2147483647)) rfl rfl rfl ⟨by decide, by decide⟩) (by rw [qup_j (by decide), qup_k]) qup_k (fun q k h1 h2 h3 => by rw [qup_f (fun z => h3 ⟨z.1, .inr z.2⟩), qup_f (fun z => h3 ⟨z.1, .inl z.2⟩)])⟩)
