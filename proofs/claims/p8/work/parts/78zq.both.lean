/-! text and fault, on both sides -/
theorem K_X11_textA {d : Nat} (hd : 30 ≤ d) (k : Int) (n : Nat) (hn9 : n ≤ 600) (w : qW) (hI : yInv zgf zga zra zSp w) (hn : w 8 1 = (n : Int)) : qG none d 169 0 (qini 169 [(2, 1), (0, k)]) [] w 142 (fun (r : qV) (w1 : qW) (_ : Nat) => TEX k w n r w1) := by
  obtain ⟨l, hl, hl6⟩ : ∃ l, qtxb 3 = some l ∧ l.length ≤ 600 := ⟨_, rfl, by decide⟩
  obtain ⟨l2, hl2⟩ : ∃ l, qtxb 4 = some l := ⟨_, rfl⟩
  obtain ⟨l3, hl3, hl36⟩ : ∃ l, qtxb 1 = some l ∧ l.length ≤ 600 := ⟨_, rfl, by decide⟩
  obtain ⟨l4, hl4⟩ : ∃ l, qtxb 2 = some l := ⟨_, rfl⟩
  have hm : w 1 2 ∈ ([4, 79, 83, 87, 91] : List Int) := hI.2.2.1 1 2 (by decide) rfl
  rcases List.mem_cons.mp hm with h | hm
  · exact K_X11_textE4 hd k l l2 hl hl2 hl6 l3 l4 hl3 hl4 hl36 n hn9 w hI hn h
  rcases List.mem_cons.mp hm with h | hm
  · exact K_X11_textE79 hd k l l2 hl hl2 hl6 l3 l4 hl3 hl4 hl36 n hn9 w hI hn h
  rcases List.mem_cons.mp hm with h | hm
  · exact K_X11_textE83 hd k l l2 hl hl2 hl6 l3 l4 hl3 hl4 hl36 n hn9 w hI hn h
  rcases List.mem_cons.mp hm with h | hm
  · exact K_X11_textE87 hd k l l2 hl hl2 hl6 l3 l4 hl3 hl4 hl36 n hn9 w hI hn h
  · exact K_X11_textE91 hd k l l2 hl hl2 hl6 l3 l4 hl3 hl4 hl36 n hn9 w hI hn (List.mem_singleton.mp hm)
theorem TXF.eq {s : Int × Nat × Nat} {wT : qW} {r r2 : qV} {w1 w2 : qW} (h : TXF s wT r w1) (h2 : TXR (plF wT) s r2 w2) : r2 = r ∧ w2 95 32 = w1 8 6 ∧ w2 95 34 = w1 8 7 := by
  rcases h with ⟨c, j, e, a1, a2, a3⟩ | ⟨k, c, j, e, hk, a1, a2, a3⟩
  · rcases h2 with ⟨c', j', e', b1, b2, b3⟩ | ⟨k', c', j', e', hk', -⟩
    · rw [e] at e'; cases e'
      exact ⟨b1.trans a1.symm, b2.trans a2.symm, b3.trans a3.symm⟩
    · rw [e] at e'; cases e'; omega
  · rcases h2 with ⟨c', j', e', b1, b2, b3⟩ | ⟨k', c', j', e', hk', b1, b2, b3⟩
    · rw [e] at e'; cases e'; omega
    · rw [e] at e'; cases e'
      exact ⟨b1.trans a1.symm, b2.trans a2.symm, b3.trans a3.symm⟩
/-- what the reference's text does behind the class's -/
theorem TEX.ref {d : Nat} (hd : 42 ≤ d) {k : Int} {w w1 : qW} {n : Nat} {r : qV} (hI : yInv zgf zga zra zSp w) (hI1 : yInv zgf zga zra zSp w1) (hJ : JM w) (hn9 : n ≤ 600) (hn : w 8 1 = (n : Int)) (h25 : w1 95 25 = w 95 25) (h114 : ∀ j, w1 114 j = w 114 j) (h : TEX k w n r w1) : qG none d 245 0 [(2, 95), (0, k), (9, 0)] [] w1 142 (fun (r2 : qV) (w2 : qW) (_ : Nat) => r2 = r ∧ w2 95 32 = w1 8 6 ∧ w2 95 34 = w1 8 7) := by
  have hpos : ∀ j, 0 ≤ w1 114 j := fun j => (hI1.2.1 114 j _ rfl rfl).1
  rcases h with ⟨a, b, c, e6, e7⟩ | ⟨a, l, l2, wT, hl, hl2, hB, hF⟩ | ⟨a, l, l2, wT, hl, hl2, hB, hF⟩
  · have hk : k < 0 ∨ 4 < k := by unfold isInV at a; (repeat' split at a) <;> omega
    refine qG.mono (K_textXX hd k hk w1 hI1) ?_
    rintro r2 w2 _ ⟨h1, h2, h3⟩
    exact ⟨h1.trans c.symm, h2.trans e6.symm, h3.trans e7.symm⟩
  · obtain ⟨t, E, hT⟩ := hB.s hI hJ hn hn9 hl hl2
    obtain ⟨m, rfl, hm1, hm2⟩ := isIn_n (by decide) a
    refine qG.mono (K_textSX hd m (by omega) w1 hI1 hpos (hT.cg h25 h114)) ?_
    rintro r2 w2 _ h2
    exact hF.eq h2
  · subst a
    obtain ⟨t, E, hT⟩ := hB.p hI hJ hn hn9 hl hl2
    refine qG.mono (K_textPX hd w1 hI1 hpos (hT.cg h25 h114)) ?_
    rintro r2 w2 _ h2
    exact hF.eq h2
/-- the tapes and the faults are alike -/
noncomputable def JF (w : qW) : Prop := JM w ∧ w 8 6 = w 95 32 ∧ w 8 7 = w 95 34
noncomputable def jfM (m : List Nat) : Bool := jmM m && (!ymo 8 6 m && (!ymo 8 7 m && (!ymo 95 32 m && !ymo 95 34 m)))
theorem JF.aw {m : List Nat} {w w1 : qW} (h : JF w) (a : AW m w w1) (hm : jfM m = true) : JF w1 := by
  unfold jfM at hm
  simp only [Bool.and_eq_true, Bool.not_eq_true'] at hm
  obtain ⟨m1, m2, m3, m4, m5⟩ := hm
  exact ⟨h.1.aw a m1, by rw [a.2 8 6 (fun _ => m2), a.2 95 32 (fun _ => m4)]; exact h.2.1, by rw [a.2 8 7 (fun _ => m3), a.2 95 34 (fun _ => m5)]; exact h.2.2⟩
theorem JM.len {w : qW} (h : JM w) : w 8 1 = w 95 25 := h.1
theorem JF.len {w : qW} (h : JF w) : w 8 1 = w 95 25 := h.1.1
theorem JF.feed {w w1 w2 : qW} {a b c e f : Int} {n : Nat} {r r2 : qV} (h : JF w) (hn : w 8 1 = (n : Int)) (hX : fbX a b c e f n w r w1) (hR : fbR a b c e f n w1 r2 w2) : JF w2 ∧ r = r2 := by
  obtain ⟨hM, hr⟩ := h.1.feed hn hX hR
  have fx : ∀ q k, q ≠ 9 → ¬ (q = 8 ∧ k = 1) → w1 q k = w q k := fun q k h1 h2 => by
    rcases hX with ⟨-, -, e⟩ | ⟨-, -, -, -, x3⟩
    · rw [e]
    · exact x3 q k (fun z => h1 z.1) h2
  have fr : ∀ q k, q ≠ 114 → ¬ (q = 95 ∧ k = 25) → w2 q k = w1 q k := fun q k h1 h2 => by
    rcases hR with ⟨-, -, e⟩ | ⟨-, -, -, -, x3⟩
    · rw [e]
    · exact x3 q k (fun z => h1 z.1) h2
  refine ⟨⟨hM, ?_, ?_⟩, hr⟩
  · rw [fr 8 6 (by decide) (by decide), fx 8 6 (by decide) (by decide), fr 95 32 (by decide) (by decide), fx 95 32 (by decide) (by decide)]; exact h.2.1
  · rw [fr 8 7 (by decide) (by decide), fx 8 7 (by decide) (by decide), fr 95 34 (by decide) (by decide), fx 95 34 (by decide) (by decide)]; exact h.2.2
theorem JF.fin {w w1 w2 : qW} {v : Int} {n : Nat} {r r2 : qV} (h : JF w) (hn : w 8 1 = (n : Int)) (hX : enX v n w r w1) (hR : enR v n w1 r2 w2) : JF w2 ∧ r = r2 := by
  obtain ⟨hM, hr⟩ := h.1.fin hn hX hR
  have fx : ∀ q k, ¬ (q = 8 ∧ k = 1) → w1 q k = w q k := fun q k h2 => by
    rcases hX with ⟨-, -, e⟩ | ⟨-, -, e⟩
    · rw [e]
    · rw [e]; exact qup_f h2
  have fr : ∀ q k, ¬ (q = 95 ∧ k = 25) → w2 q k = w1 q k := fun q k h2 => by
    rcases hR with ⟨-, -, e⟩ | ⟨-, -, e⟩
    · rw [e]
    · rw [e]; exact qup_f h2
  refine ⟨⟨hM, ?_, ?_⟩, hr⟩
  · rw [fr 8 6 (by decide), fx 8 6 (by decide), fr 95 32 (by decide), fx 95 32 (by decide)]; exact h.2.1
  · rw [fr 8 7 (by decide), fx 8 7 (by decide), fr 95 34 (by decide), fx 95 34 (by decide)]; exact h.2.2
noncomputable def faV (a b v : Int) : Int := if v = 0 then a else if v = 1 then b else -1
theorem faV_0 {a b v : Int} (h : v = 0) : a = faV a b v := (if_pos h).symm
theorem faV_1 {a b v : Int} (h : ¬ v = 0) (h2 : v = 1) : b = faV a b v := by unfold faV; rw [if_neg h, if_pos h2]
theorem faV_n {a b v : Int} (h : ¬ v = 0) (h2 : ¬ v = 1) : (-1 : Int) = faV a b v := by unfold faV; rw [if_neg h, if_neg h2]
theorem K_faultOf {d : Nat} (hd : 0 ≤ d) (v : Int) (w : qW) : qG none d 133 0 [(2, 8), (0, v)] [] w 142 (fun (r : qV) (w1 : qW) (n1 : Nat) => r = (0, faV (w 8 6) (w 8 7) v) ∧ w1 = w ∧ n1 = 142) := by
  generalize hQ9 : (fun (r : qV) (w1 : qW) (n1 : Nat) => r = (0, faV (w 8 6) (w 8 7) v) ∧ w1 = w ∧ n1 = 142) = Q9
  refine qG.blk 1 (pc' := 1) (ls' := [(2, 8), (0, v)]) (st' := [(0, v)]) (w' := w) (n' := 142) rfl ?_
  refine qG.br (P := v = 0) (pc1 := 4) (pc2 := 11) (st1 := []) rfl (fun hq1 => ?_) (fun hq1 => ?_)
  · skip
    refine qG.blk 3 (pc' := 24) (ls' := [(2, 8), (0, v)]) (st' := [(0, w 8 6)]) (w' := w) (n' := 142) rfl ?_
    refine qG.ret rfl rfl ?_
    subst hQ9
    first | exact ⟨congrArg (Prod.mk 0) (faV_0 (by omega)), rfl, rfl⟩ | exact ⟨congrArg (Prod.mk 0) (faV_1 (by omega) (by omega)), rfl, rfl⟩ | exact ⟨congrArg (Prod.mk 0) (faV_n (by omega) (by omega)), rfl, rfl⟩
  · skip
    refine qG.blk 2 (pc' := 13) (ls' := [(2, 8), (0, v)]) (st' := [(0, 1), (0, v)]) (w' := w) (n' := 142) rfl ?_
    refine qG.br (P := v = 1) (pc1 := 16) (pc2 := 23) (st1 := []) rfl (fun hq13 => ?_) (fun hq13 => ?_)
    · skip
      refine qG.blk 3 (pc' := 24) (ls' := [(2, 8), (0, v)]) (st' := [(0, w 8 7)]) (w' := w) (n' := 142) rfl ?_
      refine qG.ret rfl rfl ?_
      subst hQ9
      first | exact ⟨congrArg (Prod.mk 0) (faV_0 (by omega)), rfl, rfl⟩ | exact ⟨congrArg (Prod.mk 0) (faV_1 (by omega) (by omega)), rfl, rfl⟩ | exact ⟨congrArg (Prod.mk 0) (faV_n (by omega) (by omega)), rfl, rfl⟩
    · skip
      refine qG.blk 1 (pc' := 24) (ls' := [(2, 8), (0, v)]) (st' := [(0, (-1))]) (w' := w) (n' := 142) rfl ?_
      refine qG.ret rfl rfl ?_
      subst hQ9
      first | exact ⟨congrArg (Prod.mk 0) (faV_0 (by omega)), rfl, rfl⟩ | exact ⟨congrArg (Prod.mk 0) (faV_1 (by omega) (by omega)), rfl, rfl⟩ | exact ⟨congrArg (Prod.mk 0) (faV_n (by omega) (by omega)), rfl, rfl⟩
theorem K_X12_faultQ {d : Nat} (hd : 0 ≤ d) (v : Int) (w : qW) (hI : yInv zgf zga zra zSp w) : qG none d 248 0 [(2, 95), (0, v)] [] w 142 (fun (r : qV) (w1 : qW) (_ : Nat) => r = (0, faV (w 95 32) (w 95 34) v)) := by
  generalize hQ9 : (fun (r : qV) (w1 : qW) (_ : Nat) => r = (0, faV (w 95 32) (w 95 34) v)) = Q9
  refine qG.blk 1 (pc' := 1) (ls' := [(2, 95), (0, v)]) (st' := [(0, v)]) (w' := w) (n' := 142) rfl ?_
  refine qG.br (P := v = 0) (pc1 := 4) (pc2 := 11) (st1 := []) rfl (fun hq1 => ?_) (fun hq1 => ?_)
  · skip
    refine qG.blk 3 (pc' := 24) (ls' := [(2, 95), (0, v)]) (st' := [(0, w 95 32)]) (w' := w) (n' := 142) rfl ?_
    refine qG.ret rfl rfl ?_
    subst hQ9
    first | exact congrArg (Prod.mk 0) (faV_0 (by omega)) | exact congrArg (Prod.mk 0) (faV_1 (by omega) (by omega)) | exact congrArg (Prod.mk 0) (faV_n (by omega) (by omega))
  · skip
    refine qG.blk 2 (pc' := 13) (ls' := [(2, 95), (0, v)]) (st' := [(0, 1), (0, v)]) (w' := w) (n' := 142) rfl ?_
    refine qG.br (P := v = 1) (pc1 := 16) (pc2 := 23) (st1 := []) rfl (fun hq13 => ?_) (fun hq13 => ?_)
    · skip
      refine qG.blk 3 (pc' := 24) (ls' := [(2, 95), (0, v)]) (st' := [(0, w 95 34)]) (w' := w) (n' := 142) rfl ?_
      refine qG.ret rfl rfl ?_
      subst hQ9
      first | exact congrArg (Prod.mk 0) (faV_0 (by omega)) | exact congrArg (Prod.mk 0) (faV_1 (by omega) (by omega)) | exact congrArg (Prod.mk 0) (faV_n (by omega) (by omega))
    · skip
      refine qG.blk 1 (pc' := 24) (ls' := [(2, 95), (0, v)]) (st' := [(0, (-1))]) (w' := w) (n' := 142) rfl ?_
      refine qG.ret rfl rfl ?_
      subst hQ9
      first | exact congrArg (Prod.mk 0) (faV_0 (by omega)) | exact congrArg (Prod.mk 0) (faV_1 (by omega) (by omega)) | exact congrArg (Prod.mk 0) (faV_n (by omega) (by omega))
theorem K_X11_faultQ {d : Nat} (hd : 1 ≤ d) (v : Int) (w : qW) (hI : yInv zgf zga zra zSp w) : qG none d 170 0 [(2, 1), (0, v)] [] w 142 (fun (r : qV) (w1 : qW) (_ : Nat) => r = (0, faV (w 8 6) (w 8 7) v)) := by
  generalize hQ9 : (fun (r : qV) (w1 : qW) (_ : Nat) => r = (0, faV (w 8 6) (w 8 7) v)) = Q9
  obtain ⟨d, rfl⟩ : ∃ d9, d = d9 + 1 := ⟨d - 1, by omega⟩
  refine qG.blk 2 (pc' := 4) (ls' := [(2, 1), (0, v)]) (st' := [(2, w 1 3)]) (w' := w) (n' := 142) rfl ?_
  rw [show w 1 3 = 8 from zref hI rfl rfl]
  refine qG.blk 1 (pc' := 5) (ls' := [(2, 1), (0, v)]) (st' := [(0, v), (2, 8)]) (w' := w) (n' := 142) rfl ?_
  refine qG.call (t := 133) (na := 2) (sk := 1) (md := 1) (ls1 := [(2, 8), (0, v)]) (r1 := []) rfl rfl rfl rfl rfl (K_faultOf (Nat.zero_le _) v w) ?_
  rintro _ w7 _ ⟨rfl, hw7, rfl⟩
  rw [hw7]
  show qG none (d + 1) 170 8 [(2, 1), (0, v)] [(0, faV (w 8 6) (w 8 7) v)] w 142 Q9
  refine qG.ret rfl rfl ?_
  subst hQ9
  exact rfl
