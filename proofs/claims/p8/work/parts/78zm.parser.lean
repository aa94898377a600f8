/-! the reference's parser, walked by the grammar -/
theorem sNum_r {C : Nat → Int} {a b : Int} {i j : Nat} (h : sNum C a b i = (0, j)) : a ≤ C i ∧ C i ≤ b ∧ 0 ≤ C i ∧ C i < 10000 ∧ j = i + 1 := by
  unfold sNum at h
  split at h
  · cases h
  · split at h
    · cases h
    · cases h; omega
theorem isIn_b9 {c a b : Int} : isInV c a b = 0 ↔ ¬ (a ≤ c ∧ c ≤ b) := by unfold isInV; (repeat' split) <;> omega
theorem isIn_p9 {c a b : Int} : (¬ isInV c a b = 0) ↔ (a ≤ c ∧ c ≤ b) := by rw [isIn_b9]; exact Decidable.not_not
theorem tmp_2 : ∀ c tk, TMP c tk → (tk = 2 ↔ 0 ≤ c ∧ c < 10000) := fun c tk h => by unfold TMP at h; omega
theorem tms_2 : ∀ c tk, TMS c tk → (tk = 2 ↔ 0 ≤ c ∧ c < 10000) := fun c tk h => by unfold TMS at h; omega
theorem tmp_v (t v : Int) (h : (t = 3 ∧ v = 10002) ∨ (t = 141 ∧ v = 20041) ∨ (t = 159 ∧ v = 20059)) : ∀ c tk, TMP c tk → (tk = t ↔ c = v) := fun c tk q => by unfold TMP at q; omega
theorem tms_v : ∀ c tk, TMS c tk → (tk = 159 ↔ c = 20059) := fun c tk q => by unfold TMS at q; omega
theorem K_needX {d : Nat} (hd : 8 ≤ d) {S : Nat → qW → Prop} {C P : Nat → Int} {TM : Int → Int → Prop} (hO : SO S C P TM) (t v : Int) (ht : t ≠ 0) (htv : ∀ c tk, TM c tk → (tk = t ↔ c = v)) (w : qW) (hP : PI w) (i0 : Nat) (hJ0 : S i0 w) : qG none d 233 0 [(2, 95), (0, t)] [] w 142 (fun (r : qV) (w1 : qW) (n1 : Nat) => n1 = 142 ∧ ((∃ k j, sNeed C v i0 = (k, j) ∧ (k = 1 ∨ k = 2 ∨ k = 3) ∧ r = (0, 0) ∧ AW PM w w1 ∧ w1 95 30 = k ∧ w1 95 31 = P j) ∨ (∃ j, sNeed C v i0 = (0, j) ∧ r = (0, 1) ∧ PS 0 0 1 0 w w1 ∧ S j w1))) := by
  generalize hQ9 : (fun (r : qV) (w1 : qW) (n1 : Nat) => n1 = 142 ∧ ((∃ k j, sNeed C v i0 = (k, j) ∧ (k = 1 ∨ k = 2 ∨ k = 3) ∧ r = (0, 0) ∧ AW PM w w1 ∧ w1 95 30 = k ∧ w1 95 31 = P j) ∨ (∃ j, sNeed C v i0 = (0, j) ∧ r = (0, 1) ∧ PS 0 0 1 0 w w1 ∧ S j w1))) = Q9
  have hb0 := hP.b
  have ht0 := (hO.2.1 _ _ hJ0).1
  obtain ⟨d, rfl⟩ : ∃ d9, d = d9 + 1 := ⟨d - 1, by omega⟩
  refine qG.blk 3 (pc' := 5) (ls' := [(2, 95), (0, t)]) (st' := [(0, t), (0, w 95 27)]) (w' := w) (n' := 142) rfl ?_
  refine qG.br (P := w 95 27 = t) (pc1 := 14) (pc2 := 8) (st1 := []) rfl (fun h5 => ?_) (fun h5 => ?_)
  · skip
    refine qG.blk 1 (pc' := 15) (ls' := [(2, 95), (0, t)]) (st' := [(2, 95)]) (w' := w) (n' := 142) rfl ?_
    refine qG.call (t := 231) (na := 1) (sk := 1) (md := 1) (ls1 := [(2, 95), (9, 0)]) (r1 := []) rfl rfl rfl rfl rfl (K_next0 (by omega) w hP.1) ?_
    rintro _ w1 _ ⟨rfl, rfl, hX1⟩
    have hn1 := PS.next hP (by omega) hX1
    have hP1 := PS.tr (PS.rf hP) hn1.1 (by omega)
    have hI1 : PI w1 := hn1.1.2.2.1
    have hg1 := hn1.2
    have hb1 := hI1.b
    have hq1 := hP1.fs
    have hd1 := hP1.2.2.2.2.2.1
    have hJ1 := hO.1 _ _ _ hJ0 hP.1 hX1
    show qG none (d + 1) 233 18 [(2, 95), (0, t)] [] w1 142 Q9
    refine qG.blk 1 (pc' := 19) (ls' := [(2, 95), (0, t)]) (st' := [(0, 1)]) (w' := w1) (n' := 142) rfl ?_
    refine qG.ret rfl (by first | rfl | exact decide_eq_true (by omega)) ?_
    subst hQ9
    exact ⟨rfl, .inr ⟨(i0 + 1), if_pos ((htv _ _ ht0).mp h5), rfl, hP1.cast (by omega) (by omega) (by omega) (by omega), hJ1⟩⟩
  · skip
    refine qG.blk 2 (pc' := 10) (ls' := [(2, 95), (0, t)]) (st' := [(0, 1), (2, 95)]) (w' := w) (n' := 142) rfl ?_
    refine qG.call (t := 232) (na := 2) (sk := 1) (md := 1) (ls1 := [(2, 95), (0, 1)]) (r1 := []) rfl rfl rfl rfl rfl (K_bad (by omega) 1 w hP.1 (by decide) (by decide)) ?_
    rintro _ _ _ ⟨rfl, rfl, rfl⟩
    show qG none (d + 1) 233 13 [(2, 95), (0, t)] [(0, 0)] (qup (qup w 95 30 1) 95 31 (w 95 28)) 142 Q9
    refine qG.ret rfl (by first | rfl | exact decide_eq_true (by omega)) ?_
    subst hQ9
    exact ⟨rfl, .inl ⟨1, i0, if_neg (fun z => h5 ((htv _ _ ht0).mpr z)), .inl rfl, rfl, AW.bad (PS.rf hP).2.1 (by decide) (by decide), by rw [qup_j (by decide), qup_k], by rw [qup_k]; exact (hO.2.1 _ _ hJ0).2.1⟩⟩
theorem K_numberX {d : Nat} (hd : 8 ≤ d) {S : Nat → qW → Prop} {C P : Nat → Int} {TM : Int → Int → Prop} (hO : SO S C P TM) (hnum : ∀ c tk, TM c tk → (tk = 2 ↔ 0 ≤ c ∧ c < 10000)) (a b : Int) (w : qW) (hP : PI w) (i0 : Nat) (hJ0 : S i0 w) : qG none d 234 0 [(2, 95), (0, a), (0, b)] [] w 142 (fun (r : qV) (w1 : qW) (n1 : Nat) => n1 = 142 ∧ ((∃ k j, sNum C a b i0 = (k, j) ∧ (k = 1 ∨ k = 2 ∨ k = 3) ∧ r = (0, 0) ∧ AW PM w w1 ∧ w1 95 30 = k ∧ w1 95 31 = P j) ∨ (∃ j, sNum C a b i0 = (0, j) ∧ r = (0, 1) ∧ PS 0 0 1 0 w w1 ∧ S j w1))) := by
  generalize hQ9 : (fun (r : qV) (w1 : qW) (n1 : Nat) => n1 = 142 ∧ ((∃ k j, sNum C a b i0 = (k, j) ∧ (k = 1 ∨ k = 2 ∨ k = 3) ∧ r = (0, 0) ∧ AW PM w w1 ∧ w1 95 30 = k ∧ w1 95 31 = P j) ∨ (∃ j, sNum C a b i0 = (0, j) ∧ r = (0, 1) ∧ PS 0 0 1 0 w w1 ∧ S j w1))) = Q9
  have hb0 := hP.b
  have ht0 := (hO.2.1 _ _ hJ0).1
  obtain ⟨d, rfl⟩ : ∃ d9, d = d9 + 1 := ⟨d - 1, by omega⟩
  refine qG.blk 3 (pc' := 5) (ls' := [(2, 95), (0, a), (0, b)]) (st' := [(0, 2), (0, w 95 27)]) (w' := w) (n' := 142) rfl ?_
  refine qG.br (P := w 95 27 = 2) (pc1 := 14) (pc2 := 8) (st1 := []) rfl (fun h5 => ?_) (fun h5 => ?_)
  · skip
    have hnn := (hnum _ _ ht0).mp h5
    have hvv := (hO.2.1 _ _ hJ0).2.2 hnn.1 hnn.2
    refine qG.blk 4 (pc' := 20) (ls' := [(2, 95), (0, a), (0, b)]) (st' := [(0, b), (0, a), (0, w 95 29)]) (w' := w) (n' := 142) rfl ?_
    refine qG.call (t := 206) (na := 3) (sk := 0) (md := 0) (ls1 := [(0, w 95 29), (0, a), (0, b)]) (r1 := []) rfl rfl rfl rfl rfl (K_isIn (by omega) _ _ _ _) ?_
    rintro _ w7 _ ⟨rfl, hw7, rfl⟩
    rw [hw7]
    show qG none (d + 1) 234 23 [(2, 95), (0, a), (0, b)] [(0, isInV (w 95 29) a b)] w 142 Q9
    refine qG.br (P := isInV (w 95 29) a b = 0) (pc1 := 26) (pc2 := 32) (st1 := []) rfl (fun hin => ?_) (fun hin => ?_)
    · skip
      refine qG.blk 2 (pc' := 28) (ls' := [(2, 95), (0, a), (0, b)]) (st' := [(0, 2), (2, 95)]) (w' := w) (n' := 142) rfl ?_
      refine qG.call (t := 232) (na := 2) (sk := 1) (md := 1) (ls1 := [(2, 95), (0, 2)]) (r1 := []) rfl rfl rfl rfl rfl (K_bad (by omega) 2 w hP.1 (by decide) (by decide)) ?_
      rintro _ _ _ ⟨rfl, rfl, rfl⟩
      show qG none (d + 1) 234 31 [(2, 95), (0, a), (0, b)] [(0, 0)] (qup (qup w 95 30 2) 95 31 (w 95 28)) 142 Q9
      refine qG.ret rfl (by first | rfl | exact decide_eq_true (by omega)) ?_
      subst hQ9
      exact ⟨rfl, .inl ⟨2, i0, sNum_2 (by omega) (by rw [isIn_b9] at hin; omega), .inr (.inl rfl), rfl, AW.bad (PS.rf hP).2.1 (by decide) (by decide), by rw [qup_j (by decide), qup_k], by rw [qup_k]; exact (hO.2.1 _ _ hJ0).2.1⟩⟩
    · skip
      refine qG.blk 1 (pc' := 33) (ls' := [(2, 95), (0, a), (0, b)]) (st' := [(2, 95)]) (w' := w) (n' := 142) rfl ?_
      refine qG.call (t := 231) (na := 1) (sk := 1) (md := 1) (ls1 := [(2, 95), (9, 0)]) (r1 := []) rfl rfl rfl rfl rfl (K_next0 (by omega) w hP.1) ?_
      rintro _ w1 _ ⟨rfl, rfl, hX1⟩
      have hn1 := PS.next hP (by omega) hX1
      have hP1 := PS.tr (PS.rf hP) hn1.1 (by omega)
      have hI1 : PI w1 := hn1.1.2.2.1
      have hg1 := hn1.2
      have hb1 := hI1.b
      have hq1 := hP1.fs
      have hd1 := hP1.2.2.2.2.2.1
      have hJ1 := hO.1 _ _ _ hJ0 hP.1 hX1
      show qG none (d + 1) 234 36 [(2, 95), (0, a), (0, b)] [] w1 142 Q9
      refine qG.blk 1 (pc' := 37) (ls' := [(2, 95), (0, a), (0, b)]) (st' := [(0, 1)]) (w' := w1) (n' := 142) rfl ?_
      refine qG.ret rfl (by first | rfl | exact decide_eq_true (by omega)) ?_
      subst hQ9
      exact ⟨rfl, .inr ⟨(i0 + 1), sNum_0 (by omega) (by rw [isIn_p9] at hin; omega), rfl, hP1.cast (by omega) (by omega) (by omega) (by omega), hJ1⟩⟩
  · skip
    refine qG.blk 2 (pc' := 10) (ls' := [(2, 95), (0, a), (0, b)]) (st' := [(0, 1), (2, 95)]) (w' := w) (n' := 142) rfl ?_
    refine qG.call (t := 232) (na := 2) (sk := 1) (md := 1) (ls1 := [(2, 95), (0, 1)]) (r1 := []) rfl rfl rfl rfl rfl (K_bad (by omega) 1 w hP.1 (by decide) (by decide)) ?_
    rintro _ _ _ ⟨rfl, rfl, rfl⟩
    show qG none (d + 1) 234 13 [(2, 95), (0, a), (0, b)] [(0, 0)] (qup (qup w 95 30 1) 95 31 (w 95 28)) 142 Q9
    refine qG.ret rfl (by first | rfl | exact decide_eq_true (by omega)) ?_
    subst hQ9
    exact ⟨rfl, .inl ⟨1, i0, sNum_1 (by have q := hnum _ _ ht0; omega), .inl rfl, rfl, AW.bad (PS.rf hP).2.1 (by decide) (by decide), by rw [qup_j (by decide), qup_k], by rw [qup_k]; exact (hO.2.1 _ _ hJ0).2.1⟩⟩
theorem K_opensX {d : Nat} (hd : 8 ≤ d) {S : Nat → qW → Prop} {C P : Nat → Int} {TM : Int → Int → Prop} (hO : SO S C P TM) (w : qW) (ht : w 95 27 ≠ 0) (hP : PI w) (i0 : Nat) (hJ0 : S i0 w) : qG none d 236 0 [(2, 95)] [] w 142 (fun (r : qV) (w1 : qW) (n1 : Nat) => n1 = 142 ∧ ((∃ k j, (if w 95 33 = 8 then ((3 : Int), i0) else (0, i0 + 1)) = (k, j) ∧ (k = 1 ∨ k = 2 ∨ k = 3) ∧ r = (0, 0) ∧ AW PM w w1 ∧ w1 95 30 = k ∧ w1 95 31 = P j) ∨ (∃ j, (if w 95 33 = 8 then ((3 : Int), i0) else (0, i0 + 1)) = (0, j) ∧ r = (0, 1) ∧ PS 0 0 1 1 w w1 ∧ S j w1))) := by
  generalize hQ9 : (fun (r : qV) (w1 : qW) (n1 : Nat) => n1 = 142 ∧ ((∃ k j, (if w 95 33 = 8 then ((3 : Int), i0) else (0, i0 + 1)) = (k, j) ∧ (k = 1 ∨ k = 2 ∨ k = 3) ∧ r = (0, 0) ∧ AW PM w w1 ∧ w1 95 30 = k ∧ w1 95 31 = P j) ∨ (∃ j, (if w 95 33 = 8 then ((3 : Int), i0) else (0, i0 + 1)) = (0, j) ∧ r = (0, 1) ∧ PS 0 0 1 1 w w1 ∧ S j w1))) = Q9
  have hb0 := hP.b
  have ht0 := (hO.2.1 _ _ hJ0).1
  obtain ⟨d, rfl⟩ : ∃ d9, d = d9 + 1 := ⟨d - 1, by omega⟩
  refine qG.blk 3 (pc' := 6) (ls' := [(2, 95)]) (st' := [(0, 8), (0, w 95 33)]) (w' := w) (n' := 142) rfl ?_
  refine qG.br (P := w 95 33 = 8) (pc1 := 9) (pc2 := 15) (st1 := []) rfl (fun h6 => ?_) (fun h6 => ?_)
  · skip
    refine qG.blk 2 (pc' := 11) (ls' := [(2, 95)]) (st' := [(0, 3), (2, 95)]) (w' := w) (n' := 142) rfl ?_
    refine qG.call (t := 232) (na := 2) (sk := 1) (md := 1) (ls1 := [(2, 95), (0, 3)]) (r1 := []) rfl rfl rfl rfl rfl (K_bad (by omega) 3 w hP.1 (by decide) (by decide)) ?_
    rintro _ _ _ ⟨rfl, rfl, rfl⟩
    show qG none (d + 1) 236 14 [(2, 95)] [(0, 0)] (qup (qup w 95 30 3) 95 31 (w 95 28)) 142 Q9
    refine qG.ret rfl (by first | rfl | exact decide_eq_true (by omega)) ?_
    subst hQ9
    exact ⟨rfl, .inl ⟨3, i0, if_pos h6, .inr (.inr rfl), rfl, AW.bad (PS.rf hP).2.1 (by decide) (by decide), by rw [qup_j (by decide), qup_k], by rw [qup_k]; exact (hO.2.1 _ _ hJ0).2.1⟩⟩
  · skip
    refine qG.blk 5 (pc' := 22) (ls' := [(2, 95)]) (st' := [(0, wrp ((w 95 33) + 1)), (2, 95)]) (w' := w) (n' := 142) rfl ?_
    rw [show wrp ((w 95 33) + 1) = w 95 33 + 1 from wrp_id (by omega) (by omega)]
    refine qG.blk 2 (pc' := 26) (ls' := [(2, 95)]) (st' := [(2, 95)]) (w' := (qup w 95 33 (w 95 33 + 1))) (n' := 142) rfl ?_
    refine qG.call (t := 231) (na := 1) (sk := 1) (md := 1) (ls1 := [(2, 95), (9, 0)]) (r1 := []) rfl rfl rfl rfl rfl (K_next0 (by omega) (qup w 95 33 (w 95 33 + 1)) (PS.dep (d' := 1) (PS.rf hP) (v := w 95 33 + 1) (by omega) (by omega) (by omega)).2.2.1.1) ?_
    rintro _ w1 _ ⟨rfl, rfl, hX1⟩
    have hn1 := PS.next (PS.dep (d' := 1) (PS.rf hP) (v := w 95 33 + 1) (by omega) (by omega) (by omega)).2.2.1 (by rw [qup_j (by decide)]; omega) hX1
    have hP1 := PS.tr (PS.dep (d' := 1) (PS.rf hP) (v := w 95 33 + 1) (by omega) (by omega) (by omega)) hn1.1 (by omega)
    have hI1 : PI w1 := hn1.1.2.2.1
    have hg1 := hn1.2
    have hb1 := hI1.b
    have hq1 := hP1.fs
    have hd1 := hP1.2.2.2.2.2.1
    have hJ1 := hO.1 _ _ _ (hO.fld hJ0 (.inl rfl)) (PS.dep (d' := 1) (PS.rf hP) (v := w 95 33 + 1) (by omega) (by omega) (by omega)).2.2.1.1 hX1
    show qG none (d + 1) 236 29 [(2, 95)] [] w1 142 Q9
    refine qG.blk 1 (pc' := 30) (ls' := [(2, 95)]) (st' := [(0, 1)]) (w' := w1) (n' := 142) rfl ?_
    refine qG.ret rfl (by first | rfl | exact decide_eq_true (by omega)) ?_
    subst hQ9
    exact ⟨rfl, .inr ⟨(i0 + 1), if_neg h6, rfl, hP1.cast (by omega) (by omega) (by omega) (by omega), hJ1⟩⟩
theorem K_unitX {d : Nat} (hd : 9 ≤ d) {S : Nat → qW → Prop} {C P : Nat → Int} (hO : SO S C P TMP) (w : qW) (hP : PI w) (hD : w 95 24 ≤ w 95 28) (i0 : Nat) (hJ0 : S i0 w) : qG none d 239 0 [(2, 95), (9, 0), (9, 0)] [] w 142 (fun (r : qV) (w1 : qW) (n1 : Nat) => n1 = 142 ∧ ((∃ k j, sUnit C i0 = (k, j) ∧ (k = 1 ∨ k = 2 ∨ k = 3) ∧ r = (0, 0) ∧ AW PM w w1 ∧ w1 95 30 = k ∧ w1 95 31 = P j) ∨ (∃ j, sUnit C i0 = (0, j) ∧ r = (0, 1) ∧ PS 0 1 0 0 w w1 ∧ S j w1))) := by
  generalize hQ9 : (fun (r : qV) (w1 : qW) (n1 : Nat) => n1 = 142 ∧ ((∃ k j, sUnit C i0 = (k, j) ∧ (k = 1 ∨ k = 2 ∨ k = 3) ∧ r = (0, 0) ∧ AW PM w w1 ∧ w1 95 30 = k ∧ w1 95 31 = P j) ∨ (∃ j, sUnit C i0 = (0, j) ∧ r = (0, 1) ∧ PS 0 1 0 0 w w1 ∧ S j w1))) = Q9
  have hb0 := hP.b
  have ht0 := (hO.2.1 _ _ hJ0).1
  obtain ⟨d, rfl⟩ : ∃ d9, d = d9 + 1 := ⟨d - 1, by omega⟩
  refine qG.blk 5 (pc' := 7) (ls' := [(2, 95), (0, w 95 27), (9, 0)]) (st' := [(0, 2), (0, w 95 27)]) (w' := w) (n' := 142) rfl ?_
  unfold TMP at ht0
  refine qG.br (P := w 95 27 = 2) (pc1 := 10) (pc2 := 25) (st1 := []) rfl (fun ht2 => ?_) (fun ht2 => ?_)
  · skip
    refine qG.blk 4 (pc' := 16) (ls' := [(2, 95), (0, w 95 27), (9, 0)]) (st' := [(0, w 95 29), (0, 0), (2, 95)]) (w' := w) (n' := 142) rfl ?_
    refine qG.call (t := 235) (na := 3) (sk := 1) (md := 1) (ls1 := [(2, 95), (0, 0), (0, w 95 29)]) (r1 := []) rfl rfl rfl rfl rfl (K_lay (by omega) 0 (w 95 29) w hP.1 (by first | omega | (rw [qup_j (by decide)]; omega))) ?_
    rintro _ _ _ ⟨rfl, rfl, rfl⟩
    have hl1 := PS.lay (n := 0) (m := 1) hP (by first | omega | (rw [qup_j (by decide)]; omega)) (k := 0) (v := w 95 29) ⟨by show (-2147483648 : Int) ≤ _; omega, by show _ ≤ (2147483647 : Int); omega⟩ ⟨by show (-2147483648 : Int) ≤ _; omega, by show _ ≤ (2147483647 : Int); omega⟩ (fun h => by unfold stepH; rw [if_pos (by omega)])
    have hP1 := PS.tr (PS.rf hP) hl1 (by omega)
    have hI1 : PI (layW w 0 (w 95 29)) := hl1.2.2.1
    have hb1 := hI1.b
    have hq1 := hP1.fs
    have hd1 := hP1.2.2.2.2.2.1
    have hm1 := hl1.2.2.2.1
    show qG none (d + 1) 239 19 [(2, 95), (0, w 95 27), (9, 0)] [] (layW w 0 (w 95 29)) 142 Q9
    refine qG.blk 1 (pc' := 20) (ls' := [(2, 95), (0, w 95 27), (9, 0)]) (st' := [(2, 95)]) (w' := (layW w 0 (w 95 29))) (n' := 142) rfl ?_
    refine qG.call (t := 231) (na := 1) (sk := 1) (md := 1) (ls1 := [(2, 95), (9, 0)]) (r1 := []) rfl rfl rfl rfl rfl (K_next0 (by omega) (layW w 0 (w 95 29)) hI1.1) ?_
    rintro _ w2 _ ⟨rfl, rfl, hX2⟩
    have hn2 := PS.next hI1 (by unfold layW; rw [qup_j (by decide), qup_ne (by decide), qup_ne (by decide)]; omega) hX2
    have hP2 := PS.tr hP1 hn2.1 (by omega)
    have hI2 : PI w2 := hn2.1.2.2.1
    have hg2 := hn2.2
    have hb2 := hI2.b
    have hq2 := hP2.fs
    have hd2 := hP2.2.2.2.2.2.1
    have hJ2 := hO.1 _ _ _ (hO.lay hJ0) hI1.1 hX2
    show qG none (d + 1) 239 23 [(2, 95), (0, w 95 27), (9, 0)] [] w2 142 Q9
    refine qG.blk 1 (pc' := 24) (ls' := [(2, 95), (0, w 95 27), (9, 0)]) (st' := [(0, 1)]) (w' := w2) (n' := 142) rfl ?_
    refine qG.ret rfl (by first | rfl | exact decide_eq_true (by omega)) ?_
    subst hQ9
    exact ⟨rfl, .inr ⟨(i0 + 1), (unit_c (by omega) (by omega)).trans (sNum_0 (by omega) (by omega)), rfl, hP2.cast (by omega) (by omega) (by omega) (by omega), hJ2⟩⟩
  · skip
    refine qG.blk 3 (pc' := 30) (ls' := [(2, 95), (0, w 95 27), (9, 0)]) (st' := [(0, 47), (0, 41), (0, w 95 27)]) (w' := w) (n' := 142) rfl ?_
    refine qG.call (t := 206) (na := 3) (sk := 0) (md := 0) (ls1 := [(0, w 95 27), (0, 41), (0, 47)]) (r1 := []) rfl rfl rfl rfl rfl (K_isIn (by omega) _ _ _ _) ?_
    rintro _ w7 _ ⟨rfl, hw7, rfl⟩
    rw [hw7]
    show qG none (d + 1) 239 33 [(2, 95), (0, w 95 27), (9, 0)] [(0, isInV (w 95 27) 41 47)] w 142 Q9
    refine qG.br (P := isInV (w 95 27) 41 47 = 0) (pc1 := 36) (pc2 := 42) (st1 := []) rfl (fun hin => ?_) (fun hin => ?_)
    · skip
      have hin3 : ¬ (41 ≤ w 95 27 ∧ w 95 27 ≤ 47) := by rw [isIn_b9] at hin; exact hin
      refine qG.blk 2 (pc' := 38) (ls' := [(2, 95), (0, w 95 27), (9, 0)]) (st' := [(0, 1), (2, 95)]) (w' := w) (n' := 142) rfl ?_
      refine qG.call (t := 232) (na := 2) (sk := 1) (md := 1) (ls1 := [(2, 95), (0, 1)]) (r1 := []) rfl rfl rfl rfl rfl (K_bad (by omega) 1 w hP.1 (by decide) (by decide)) ?_
      rintro _ _ _ ⟨rfl, rfl, rfl⟩
      show qG none (d + 1) 239 41 [(2, 95), (0, w 95 27), (9, 0)] [(0, 0)] (qup (qup w 95 30 1) 95 31 (w 95 28)) 142 Q9
      refine qG.ret rfl (by first | rfl | exact decide_eq_true (by omega)) ?_
      subst hQ9
      exact ⟨rfl, .inl ⟨1, i0, (unit_c (by omega) (by omega)).trans (sNum_1 (by omega)), .inl rfl, rfl, AW.bad (PS.rf hP).2.1 (by decide) (by decide), by rw [qup_j (by decide), qup_k], by rw [qup_k]; exact (hO.2.1 _ _ hJ0).2.1⟩⟩
    · skip
      have hin2 : 41 ≤ w 95 27 ∧ w 95 27 ≤ 47 := by rw [isIn_p9] at hin; exact hin
      refine qG.blk 1 (pc' := 43) (ls' := [(2, 95), (0, w 95 27), (9, 0)]) (st' := [(2, 95)]) (w' := w) (n' := 142) rfl ?_
      refine qG.call (t := 231) (na := 1) (sk := 1) (md := 1) (ls1 := [(2, 95), (9, 0)]) (r1 := []) rfl rfl rfl rfl rfl (K_next0 (by omega) w hP.1) ?_
      rintro _ w3 _ ⟨rfl, rfl, hX3⟩
      have hn3 := PS.next hP (by omega) hX3
      have hP3 := PS.tr (PS.rf hP) hn3.1 (by omega)
      have hI3 : PI w3 := hn3.1.2.2.1
      have hg3 := hn3.2
      have hb3 := hI3.b
      have hq3 := hP3.fs
      have hd3 := hP3.2.2.2.2.2.1
      have hJ3 := hO.1 _ _ _ hJ0 hP.1 hX3
      show qG none (d + 1) 239 46 [(2, 95), (0, w 95 27), (9, 0)] [] w3 142 Q9
      refine qG.blk 5 (pc' := 54) (ls' := [(2, 95), (0, w 95 27), (0, w3 95 29)]) (st' := [(0, 43), (0, w 95 27)]) (w' := w3) (n' := 142) rfl ?_
      refine qG.br (P := w 95 27 < 43) (pc1 := 57) (pc2 := 69) (st1 := []) rfl (fun ht43 => ?_) (fun ht43 => ?_)
      · skip
        refine qG.blk 3 (pc' := 61) (ls' := [(2, 95), (0, w 95 27), (0, w3 95 29)]) (st' := [(0, 15), (0, 0), (2, 95)]) (w' := w3) (n' := 142) rfl ?_
        refine qG.call (t := 234) (na := 3) (sk := 1) (md := 1) (ls1 := [(2, 95), (0, 0), (0, 15)]) (r1 := []) rfl rfl rfl rfl rfl (K_numberX (by omega) hO tmp_2 0 15 w3 hI3 (i0 + 1) hJ3) ?_
        rintro _ w4 _ ⟨rfl, ⟨k61, j61, hs61, hk61, rfl, hA4, hf61, hg61⟩ | ⟨j61, hs61, rfl, hS4, hJ4⟩⟩
        · skip
          show qG none (d + 1) 239 64 [(2, 95), (0, w 95 27), (0, w3 95 29)] [(0, 0)] w4 142 Q9
          have hBAD := hP3.2.1.tr hA4 (by decide +kernel)
          refine qG.br (P := (0 : Int) = 0) (pc1 := 67) (pc2 := 69) (st1 := []) rfl (fun h5 => ?_) (fun h5 => ?_)
          · skip
            refine qG.blk 1 (pc' := 68) (ls' := [(2, 95), (0, w 95 27), (0, w3 95 29)]) (st' := [(0, 0)]) (w' := w4) (n' := 142) rfl ?_
            refine qG.ret rfl (by first | rfl | exact decide_eq_true (by omega)) ?_
            subst hQ9
            first | exact ⟨rfl, .inl ⟨k61, j61, (unit_a (by omega)).trans hs61, hk61, rfl, hBAD, hf61, hg61⟩⟩
          · exact absurd h5 (by decide)
        · skip
          show qG none (d + 1) 239 64 [(2, 95), (0, w 95 27), (0, w3 95 29)] [(0, 1)] w4 142 Q9
          have hP4 := PS.tr hP3 hS4 (by omega)
          have hI4 : PI w4 := hS4.2.2.1
          have hb4 := hI4.b
          have hq4 := hP4.fs
          have hd4 := hP4.2.2.2.2.2.1
          have hm4 := hS4.2.2.2.1
          refine qG.br (P := (1 : Int) = 0) (pc1 := 67) (pc2 := 69) (st1 := []) rfl (fun h6 => ?_) (fun h6 => ?_)
          · exact absurd h6 (by decide)
          · skip
            refine qG.blk 4 (pc' := 74) (ls' := [(2, 95), (0, w 95 27), (0, w3 95 29)]) (st' := [(0, wrp ((w 95 27) - 40)), (2, 95)]) (w' := w4) (n' := 142) rfl ?_
            rw [show wrp ((w 95 27) - 40) = w 95 27 - 40 from wrp_id (by omega) (by omega)]
            refine qG.blk 1 (pc' := 75) (ls' := [(2, 95), (0, w 95 27), (0, w3 95 29)]) (st' := [(0, w3 95 29), (0, w 95 27 - 40), (2, 95)]) (w' := w4) (n' := 142) rfl ?_
            refine qG.call (t := 235) (na := 3) (sk := 1) (md := 1) (ls1 := [(2, 95), (0, w 95 27 - 40), (0, w3 95 29)]) (r1 := []) rfl rfl rfl rfl rfl (K_lay (by omega) (w 95 27 - 40) (w3 95 29) w4 hI4.1 (by first | omega | (rw [qup_j (by decide)]; omega))) ?_
            rintro _ _ _ ⟨rfl, rfl, rfl⟩
            have hl7 := PS.lay (n := 0) (m := 1) hI4 (by first | omega | (rw [qup_j (by decide)]; omega)) (k := w 95 27 - 40) (v := w3 95 29) ⟨by show (-2147483648 : Int) ≤ _; omega, by show _ ≤ (2147483647 : Int); omega⟩ ⟨by show (-2147483648 : Int) ≤ _; omega, by show _ ≤ (2147483647 : Int); omega⟩ (fun h => by unfold stepH; rw [if_pos (by omega)])
            have hP7 := PS.tr hP4 hl7 (by omega)
            have hI7 : PI (layW w4 (w 95 27 - 40) (w3 95 29)) := hl7.2.2.1
            have hb7 := hI7.b
            have hq7 := hP7.fs
            have hd7 := hP7.2.2.2.2.2.1
            have hm7 := hl7.2.2.2.1
            show qG none (d + 1) 239 78 [(2, 95), (0, w 95 27), (0, w3 95 29)] [] (layW w4 (w 95 27 - 40) (w3 95 29)) 142 Q9
            refine qG.blk 1 (pc' := 79) (ls' := [(2, 95), (0, w 95 27), (0, w3 95 29)]) (st' := [(0, 1)]) (w' := (layW w4 (w 95 27 - 40) (w3 95 29))) (n' := 142) rfl ?_
            refine qG.ret rfl (by first | rfl | exact decide_eq_true (by omega)) ?_
            subst hQ9
            exact ⟨rfl, .inr ⟨j61, (unit_a (by omega)).trans hs61, rfl, hP7.cast (by omega) (by omega) (by omega) (by omega), (hO.lay hJ4)⟩⟩
      · skip
        refine qG.blk 4 (pc' := 74) (ls' := [(2, 95), (0, w 95 27), (0, w3 95 29)]) (st' := [(0, wrp ((w 95 27) - 40)), (2, 95)]) (w' := w3) (n' := 142) rfl ?_
        rw [show wrp ((w 95 27) - 40) = w 95 27 - 40 from wrp_id (by omega) (by omega)]
        refine qG.blk 1 (pc' := 75) (ls' := [(2, 95), (0, w 95 27), (0, w3 95 29)]) (st' := [(0, w3 95 29), (0, w 95 27 - 40), (2, 95)]) (w' := w3) (n' := 142) rfl ?_
        refine qG.call (t := 235) (na := 3) (sk := 1) (md := 1) (ls1 := [(2, 95), (0, w 95 27 - 40), (0, w3 95 29)]) (r1 := []) rfl rfl rfl rfl rfl (K_lay (by omega) (w 95 27 - 40) (w3 95 29) w3 hI3.1 (by first | omega | (rw [qup_j (by decide)]; omega))) ?_
        rintro _ _ _ ⟨rfl, rfl, rfl⟩
        have hl8 := PS.lay (n := 0) (m := 1) hI3 (by first | omega | (rw [qup_j (by decide)]; omega)) (k := w 95 27 - 40) (v := w3 95 29) ⟨by show (-2147483648 : Int) ≤ _; omega, by show _ ≤ (2147483647 : Int); omega⟩ ⟨by show (-2147483648 : Int) ≤ _; omega, by show _ ≤ (2147483647 : Int); omega⟩ (fun h => by unfold stepH; rw [if_pos (by omega)])
        have hP8 := PS.tr hP3 hl8 (by omega)
        have hI8 : PI (layW w3 (w 95 27 - 40) (w3 95 29)) := hl8.2.2.1
        have hb8 := hI8.b
        have hq8 := hP8.fs
        have hd8 := hP8.2.2.2.2.2.1
        have hm8 := hl8.2.2.2.1
        show qG none (d + 1) 239 78 [(2, 95), (0, w 95 27), (0, w3 95 29)] [] (layW w3 (w 95 27 - 40) (w3 95 29)) 142 Q9
        refine qG.blk 1 (pc' := 79) (ls' := [(2, 95), (0, w 95 27), (0, w3 95 29)]) (st' := [(0, 1)]) (w' := (layW w3 (w 95 27 - 40) (w3 95 29))) (n' := 142) rfl ?_
        refine qG.ret rfl (by first | rfl | exact decide_eq_true (by omega)) ?_
        subst hQ9
        exact ⟨rfl, .inr ⟨(i0 + 1), (unit_b (by omega) (by omega)), rfl, hP8.cast (by omega) (by omega) (by omega) (by omega), (hO.lay hJ3)⟩⟩
theorem K_productX {d : Nat} (hd : 10 ≤ d) {S : Nat → qW → Prop} {C P : Nat → Int} (hO : SO S C P TMP) (w : qW) (hP : PI w) (hD : w 95 24 ≤ w 95 28) (i0 : Nat) (hJ0 : S i0 w) : qG none d 238 0 [(2, 95), (9, 0), (9, 0)] [] w 142 (fun (r : qV) (w1 : qW) (n1 : Nat) => n1 = 142 ∧ ((∃ k j, sProd C 601 i0 = (k, j) ∧ (k = 1 ∨ k = 2 ∨ k = 3) ∧ r = (0, 0) ∧ AW PM w w1 ∧ w1 95 30 = k ∧ w1 95 31 = P j) ∨ (∃ j, sProd C 601 i0 = (0, j) ∧ r = (0, 1) ∧ PS 0 1 0 0 w w1 ∧ S j w1))) := by
  generalize hQ9 : (fun (r : qV) (w1 : qW) (n1 : Nat) => n1 = 142 ∧ ((∃ k j, sProd C 601 i0 = (k, j) ∧ (k = 1 ∨ k = 2 ∨ k = 3) ∧ r = (0, 0) ∧ AW PM w w1 ∧ w1 95 30 = k ∧ w1 95 31 = P j) ∨ (∃ j, sProd C 601 i0 = (0, j) ∧ r = (0, 1) ∧ PS 0 1 0 0 w w1 ∧ S j w1))) = Q9
  have hb0 := hP.b
  have ht0 := (hO.2.1 _ _ hJ0).1
  obtain ⟨d, rfl⟩ : ∃ d9, d = d9 + 1 := ⟨d - 1, by omega⟩
  refine qG.blk 1 (pc' := 1) (ls' := [(2, 95), (9, 0), (9, 0)]) (st' := [(2, 95)]) (w' := w) (n' := 142) rfl ?_
  refine qG.call (t := 239) (na := 1) (sk := 1) (md := 1) (ls1 := [(2, 95), (9, 0), (9, 0)]) (r1 := []) rfl rfl rfl rfl rfl (K_unitX (by omega) hO w hP (by omega) i0 hJ0) ?_
  rintro _ w1 _ ⟨rfl, ⟨k1, j1, hs1, hk1, rfl, hA1, hf1, hg1⟩ | ⟨j1, hs1, rfl, hS1, hJ1⟩⟩
  · skip
    show qG none (d + 1) 238 4 [(2, 95), (9, 0), (9, 0)] [(0, 0)] w1 142 Q9
    have hBAD := (PS.rf hP).2.1.tr hA1 (by decide +kernel)
    refine qG.br (P := (0 : Int) = 0) (pc1 := 7) (pc2 := 9) (st1 := []) rfl (fun h2 => ?_) (fun h2 => ?_)
    · skip
      refine qG.blk 1 (pc' := 8) (ls' := [(2, 95), (9, 0), (9, 0)]) (st' := [(0, 0)]) (w' := w1) (n' := 142) rfl ?_
      refine qG.ret rfl (by first | rfl | exact decide_eq_true (by omega)) ?_
      subst hQ9
      first | exact ⟨rfl, .inl ⟨k1, j1, bnd_k hs1 hk1, hk1, rfl, hBAD, hf1, hg1⟩⟩
    · exact absurd h2 (by decide)
  · skip
    show qG none (d + 1) 238 4 [(2, 95), (9, 0), (9, 0)] [(0, 1)] w1 142 Q9
    have hP1 := PS.tr (PS.rf hP) hS1 (by omega)
    have hI1 : PI w1 := hS1.2.2.1
    have hb1 := hI1.b
    have hq1 := hP1.fs
    have hd1 := hP1.2.2.2.2.2.1
    have hm1 := hS1.2.2.2.1
    refine qG.br (P := (1 : Int) = 0) (pc1 := 7) (pc2 := 9) (st1 := []) rfl (fun h3 => ?_) (fun h3 => ?_)
    · exact absurd h3 (by decide)
    · skip
      have L9 : ∀ (m9 : Nat) (q1 : qV) (q2 : qV) (c9 i9 : Nat) (wL : qW), (600 - wL 95 28).toNat = m9 → (PS 0 1 0 0 w wL ∧ S i9 wL ∧ c9 ≤ i9 ∧ sProd C 601 i0 = sProdL C (601 - c9) i9) → qG none (d + 1) 238 9 [(2, 95), q1, q2] [] wL 142 Q9 := by
        intro m9
        induction m9 using Nat.strongRecOn with
        | ind m9 ih9 =>
        intro q1 q2 c9 i9 wL hm9 hI9
        obtain ⟨hPL, hJL, hci, hSp⟩ := hI9
        have hIL : PI wL := hPL.2.2.1
        have hbL := hIL.b
        have hqL := hPL.fs
        have hdL := hPL.2.2.2.2.2.1
        have htL := (hO.2.1 _ _ hJL).1
        have h6L := hO.2.2.2 i9
        unfold TMP at htL
        refine qG.blk 3 (pc' := 16) (ls' := [(2, 95), q1, q2]) (st' := [(0, 142), (0, wL 95 27)]) (w' := wL) (n' := 142) rfl ?_
        refine qG.br (P := wL 95 27 = 142) (pc1 := 29) (pc2 := 19) (st1 := []) rfl (fun h4 => ?_) (fun h4 => ?_)
        · skip
          refine qG.blk 3 (pc' := 36) (ls' := [(2, 95), q1, q2]) (st' := [(0, 147), (0, wL 95 27)]) (w' := wL) (n' := 142) rfl ?_
          refine qG.br (P := wL 95 27 = 147) (pc1 := 39) (pc2 := 43) (st1 := []) rfl (fun h5 => ?_) (fun h5 => ?_)
          · skip
            refine qG.blk 4 (pc' := 46) (ls' := [(2, 95), (0, 1), q2]) (st' := [(2, 95)]) (w' := wL) (n' := 142) rfl ?_
            refine qG.call (t := 231) (na := 1) (sk := 1) (md := 1) (ls1 := [(2, 95), (9, 0)]) (r1 := []) rfl rfl rfl rfl rfl (K_next0 (by omega) wL hIL.1) ?_
            rintro _ w6 _ ⟨rfl, rfl, hX6⟩
            have hn6 := PS.next hIL (by omega) hX6
            have hP6 := PS.tr hPL hn6.1 (by omega)
            have hI6 : PI w6 := hn6.1.2.2.1
            have hg6 := hn6.2
            have hb6 := hI6.b
            have hq6 := hP6.fs
            have hd6 := hP6.2.2.2.2.2.1
            have hJ6 := hO.1 _ _ _ hJL hIL.1 hX6
            show qG none (d + 1) 238 49 [(2, 95), (0, 1), q2] [] w6 142 Q9
            refine qG.blk 1 (pc' := 50) (ls' := [(2, 95), (0, 1), q2]) (st' := [(0, 1)]) (w' := w6) (n' := 142) rfl ?_
            refine qG.br (P := (1 : Int) = 0) (pc1 := 81) (pc2 := 53) (st1 := []) rfl (fun h7 => ?_) (fun h7 => ?_)
            · exact absurd h7 (by decide)
            · skip
              refine qG.blk 6 (pc' := 63) (ls' := [(2, 95), (0, 1), (0, w6 95 29)]) (st' := [(0, 9999), (0, 1), (2, 95)]) (w' := w6) (n' := 142) rfl ?_
              refine qG.call (t := 234) (na := 3) (sk := 1) (md := 1) (ls1 := [(2, 95), (0, 1), (0, 9999)]) (r1 := []) rfl rfl rfl rfl rfl (K_numberX (by omega) hO tmp_2 1 9999 w6 hI6 (i9 + 1) hJ6) ?_
              rintro _ w8 _ ⟨rfl, ⟨k63, j63, hs63, hk63, rfl, hA8, hf63, hg63⟩ | ⟨j63, hs63, rfl, hS8, hJ8⟩⟩
              · skip
                show qG none (d + 1) 238 66 [(2, 95), (0, 1), (0, w6 95 29)] [(0, 0)] w8 142 Q9
                have hBAD := hP6.2.1.tr hA8 (by decide +kernel)
                refine qG.br (P := (0 : Int) = 0) (pc1 := 69) (pc2 := 71) (st1 := []) rfl (fun h9 => ?_) (fun h9 => ?_)
                · skip
                  refine qG.blk 1 (pc' := 70) (ls' := [(2, 95), (0, 1), (0, w6 95 29)]) (st' := [(0, 0)]) (w' := w8) (n' := 142) rfl ?_
                  refine qG.ret rfl (by first | rfl | exact decide_eq_true (by omega)) ?_
                  subst hQ9
                  first | exact ⟨rfl, .inl ⟨k63, j63, hSp.trans (by rw [show 601 - c9 = (601 - (c9 + 1)) + 1 by omega]; exact (pL_s (by omega)).trans (bnd_k hs63 hk63)), hk63, rfl, hBAD, hf63, hg63⟩⟩
                · exact absurd h9 (by decide)
              · skip
                show qG none (d + 1) 238 66 [(2, 95), (0, 1), (0, w6 95 29)] [(0, 1)] w8 142 Q9
                have hP8 := PS.tr hP6 hS8 (by omega)
                have hI8 : PI w8 := hS8.2.2.1
                have hb8 := hI8.b
                have hq8 := hP8.fs
                have hd8 := hP8.2.2.2.2.2.1
                have hm8 := hS8.2.2.2.1
                refine qG.br (P := (1 : Int) = 0) (pc1 := 69) (pc2 := 71) (st1 := []) rfl (fun h10 => ?_) (fun h10 => ?_)
                · exact absurd h10 (by decide)
                · skip
                  refine qG.blk 3 (pc' := 75) (ls' := [(2, 95), (0, 1), (0, w6 95 29)]) (st' := [(0, w6 95 29), (0, 11), (2, 95)]) (w' := w8) (n' := 142) rfl ?_
                  refine qG.call (t := 235) (na := 3) (sk := 1) (md := 1) (ls1 := [(2, 95), (0, 11), (0, w6 95 29)]) (r1 := []) rfl rfl rfl rfl rfl (K_lay (by omega) 11 (w6 95 29) w8 hI8.1 (by first | omega | (rw [qup_j (by decide)]; omega))) ?_
                  rintro _ _ _ ⟨rfl, rfl, rfl⟩
                  have hl11 := PS.lay (n := 1) (m := 1) hI8 (by first | omega | (rw [qup_j (by decide)]; omega)) (k := 11) (v := w6 95 29) ⟨by show (-2147483648 : Int) ≤ _; omega, by show _ ≤ (2147483647 : Int); omega⟩ ⟨by show (-2147483648 : Int) ≤ _; omega, by show _ ≤ (2147483647 : Int); omega⟩ (fun h => by unfold stepH; rw [if_neg (by decide), if_pos rfl, if_pos ⟨by omega, (by have q := sNum_r hs63; have q2 := (hO.2.1 _ _ hJ6).2.2 (by omega) (by omega); omega)⟩])
                  have hP11 := PS.tr hP8 hl11 (by omega)
                  have hI11 : PI (layW w8 11 (w6 95 29)) := hl11.2.2.1
                  have hb11 := hI11.b
                  have hq11 := hP11.fs
                  have hd11 := hP11.2.2.2.2.2.1
                  have hm11 := hl11.2.2.2.1
                  show qG none (d + 1) 238 78 [(2, 95), (0, 1), (0, w6 95 29)] [] (layW w8 11 (w6 95 29)) 142 Q9
                  refine qG.blk 2 (pc' := 9) (ls' := [(2, 95), (0, 1), (0, w6 95 29)]) (st' := []) (w' := (layW w8 11 (w6 95 29))) (n' := 142) rfl ?_
                  have hst9 : 601 - c9 = (601 - (c9 + 1)) + 1 := by omega
                  exact ih9 _ (by omega) ((0, 1)) ((0, w6 95 29)) (c9 + 1) j63 ((layW w8 11 (w6 95 29))) rfl ⟨hP11.cast (by omega) (by omega) (by omega) (by omega), (hO.lay hJ8), (by have := num_lt hs63; omega), hSp.trans (by rw [hst9]; exact (pL_s (by omega)).trans (bnd_y hs63))⟩
          · skip
            refine qG.blk 3 (pc' := 46) (ls' := [(2, 95), (0, 0), q2]) (st' := [(2, 95)]) (w' := wL) (n' := 142) rfl ?_
            refine qG.call (t := 231) (na := 1) (sk := 1) (md := 1) (ls1 := [(2, 95), (9, 0)]) (r1 := []) rfl rfl rfl rfl rfl (K_next0 (by omega) wL hIL.1) ?_
            rintro _ w12 _ ⟨rfl, rfl, hX12⟩
            have hn12 := PS.next hIL (by omega) hX12
            have hP12 := PS.tr hPL hn12.1 (by omega)
            have hI12 : PI w12 := hn12.1.2.2.1
            have hg12 := hn12.2
            have hb12 := hI12.b
            have hq12 := hP12.fs
            have hd12 := hP12.2.2.2.2.2.1
            have hJ12 := hO.1 _ _ _ hJL hIL.1 hX12
            show qG none (d + 1) 238 49 [(2, 95), (0, 0), q2] [] w12 142 Q9
            refine qG.blk 1 (pc' := 50) (ls' := [(2, 95), (0, 0), q2]) (st' := [(0, 0)]) (w' := w12) (n' := 142) rfl ?_
            refine qG.br (P := (0 : Int) = 0) (pc1 := 81) (pc2 := 53) (st1 := []) rfl (fun h13 => ?_) (fun h13 => ?_)
            · skip
              refine qG.blk 1 (pc' := 82) (ls' := [(2, 95), (0, 0), q2]) (st' := [(2, 95)]) (w' := w12) (n' := 142) rfl ?_
              refine qG.call (t := 239) (na := 1) (sk := 1) (md := 1) (ls1 := [(2, 95), (9, 0), (9, 0)]) (r1 := []) rfl rfl rfl rfl rfl (K_unitX (by omega) hO w12 hI12 (by omega) (i9 + 1) hJ12) ?_
              rintro _ w14 _ ⟨rfl, ⟨k82, j82, hs82, hk82, rfl, hA14, hf82, hg82⟩ | ⟨j82, hs82, rfl, hS14, hJ14⟩⟩
              · skip
                show qG none (d + 1) 238 85 [(2, 95), (0, 0), q2] [(0, 0)] w14 142 Q9
                have hBAD := hP12.2.1.tr hA14 (by decide +kernel)
                refine qG.br (P := (0 : Int) = 0) (pc1 := 88) (pc2 := 90) (st1 := []) rfl (fun h15 => ?_) (fun h15 => ?_)
                · skip
                  refine qG.blk 1 (pc' := 89) (ls' := [(2, 95), (0, 0), q2]) (st' := [(0, 0)]) (w' := w14) (n' := 142) rfl ?_
                  refine qG.ret rfl (by first | rfl | exact decide_eq_true (by omega)) ?_
                  subst hQ9
                  first | exact ⟨rfl, .inl ⟨k82, j82, hSp.trans (by rw [show 601 - c9 = (601 - (c9 + 1)) + 1 by omega]; exact (pL_u (by omega)).trans (bnd_k hs82 hk82)), hk82, rfl, hBAD, hf82, hg82⟩⟩
                · exact absurd h15 (by decide)
              · skip
                show qG none (d + 1) 238 85 [(2, 95), (0, 0), q2] [(0, 1)] w14 142 Q9
                have hP14 := PS.tr hP12 hS14 (by omega)
                have hI14 : PI w14 := hS14.2.2.1
                have hb14 := hI14.b
                have hq14 := hP14.fs
                have hd14 := hP14.2.2.2.2.2.1
                have hm14 := hS14.2.2.2.1
                refine qG.br (P := (1 : Int) = 0) (pc1 := 88) (pc2 := 90) (st1 := []) rfl (fun h16 => ?_) (fun h16 => ?_)
                · exact absurd h16 (by decide)
                · skip
                  refine qG.blk 3 (pc' := 94) (ls' := [(2, 95), (0, 0), q2]) (st' := [(0, 0), (0, 10), (2, 95)]) (w' := w14) (n' := 142) rfl ?_
                  refine qG.call (t := 235) (na := 3) (sk := 1) (md := 1) (ls1 := [(2, 95), (0, 10), (0, 0)]) (r1 := []) rfl rfl rfl rfl rfl (K_lay (by omega) 10 0 w14 hI14.1 (by first | omega | (rw [qup_j (by decide)]; omega))) ?_
                  rintro _ _ _ ⟨rfl, rfl, rfl⟩
                  have hl17 := PS.lay (n := 2) (m := 1) hI14 (by first | omega | (rw [qup_j (by decide)]; omega)) (k := 10) (v := 0) ⟨by show (-2147483648 : Int) ≤ _; omega, by show _ ≤ (2147483647 : Int); omega⟩ ⟨by show (-2147483648 : Int) ≤ _; omega, by show _ ≤ (2147483647 : Int); omega⟩ (fun h => by unfold stepH; rw [if_neg (by omega), if_neg (by omega), if_neg (by omega), if_pos (by omega)]; rfl)
                  have hP17 := PS.tr hP14 hl17 (by omega)
                  have hI17 : PI (layW w14 10 0) := hl17.2.2.1
                  have hb17 := hI17.b
                  have hq17 := hP17.fs
                  have hd17 := hP17.2.2.2.2.2.1
                  have hm17 := hl17.2.2.2.1
                  show qG none (d + 1) 238 97 [(2, 95), (0, 0), q2] [] (layW w14 10 0) 142 Q9
                  refine qG.blk 1 (pc' := 9) (ls' := [(2, 95), (0, 0), q2]) (st' := []) (w' := (layW w14 10 0)) (n' := 142) rfl ?_
                  have hst9 : 601 - c9 = (601 - (c9 + 1)) + 1 := by omega
                  exact ih9 _ (by omega) ((0, 0)) (q2) (c9 + 1) j82 ((layW w14 10 0)) rfl ⟨hP17.cast (by omega) (by omega) (by omega) (by omega), (hO.lay hJ14), (by have := unit_lt hs82; omega), hSp.trans (by rw [hst9]; exact (pL_u (by omega)).trans (bnd_y hs82))⟩
            · exact absurd h13 (by decide)
        · skip
          refine qG.blk 3 (pc' := 26) (ls' := [(2, 95), q1, q2]) (st' := [(0, 147), (0, wL 95 27)]) (w' := wL) (n' := 142) rfl ?_
          refine qG.br (P := wL 95 27 = 147) (pc1 := 29) (pc2 := 100) (st1 := []) rfl (fun h18 => ?_) (fun h18 => ?_)
          · skip
            refine qG.blk 3 (pc' := 36) (ls' := [(2, 95), q1, q2]) (st' := [(0, 147), (0, wL 95 27)]) (w' := wL) (n' := 142) rfl ?_
            refine qG.br (P := wL 95 27 = 147) (pc1 := 39) (pc2 := 43) (st1 := []) rfl (fun h19 => ?_) (fun h19 => ?_)
            · skip
              refine qG.blk 4 (pc' := 46) (ls' := [(2, 95), (0, 1), q2]) (st' := [(2, 95)]) (w' := wL) (n' := 142) rfl ?_
              refine qG.call (t := 231) (na := 1) (sk := 1) (md := 1) (ls1 := [(2, 95), (9, 0)]) (r1 := []) rfl rfl rfl rfl rfl (K_next0 (by omega) wL hIL.1) ?_
              rintro _ w20 _ ⟨rfl, rfl, hX20⟩
              have hn20 := PS.next hIL (by omega) hX20
              have hP20 := PS.tr hPL hn20.1 (by omega)
              have hI20 : PI w20 := hn20.1.2.2.1
              have hg20 := hn20.2
              have hb20 := hI20.b
              have hq20 := hP20.fs
              have hd20 := hP20.2.2.2.2.2.1
              have hJ20 := hO.1 _ _ _ hJL hIL.1 hX20
              show qG none (d + 1) 238 49 [(2, 95), (0, 1), q2] [] w20 142 Q9
              refine qG.blk 1 (pc' := 50) (ls' := [(2, 95), (0, 1), q2]) (st' := [(0, 1)]) (w' := w20) (n' := 142) rfl ?_
              refine qG.br (P := (1 : Int) = 0) (pc1 := 81) (pc2 := 53) (st1 := []) rfl (fun h21 => ?_) (fun h21 => ?_)
              · exact absurd h21 (by decide)
              · skip
                refine qG.blk 6 (pc' := 63) (ls' := [(2, 95), (0, 1), (0, w20 95 29)]) (st' := [(0, 9999), (0, 1), (2, 95)]) (w' := w20) (n' := 142) rfl ?_
                refine qG.call (t := 234) (na := 3) (sk := 1) (md := 1) (ls1 := [(2, 95), (0, 1), (0, 9999)]) (r1 := []) rfl rfl rfl rfl rfl (K_numberX (by omega) hO tmp_2 1 9999 w20 hI20 (i9 + 1) hJ20) ?_
                rintro _ w22 _ ⟨rfl, ⟨k63, j63, hs63, hk63, rfl, hA22, hf63, hg63⟩ | ⟨j63, hs63, rfl, hS22, hJ22⟩⟩
                · skip
                  show qG none (d + 1) 238 66 [(2, 95), (0, 1), (0, w20 95 29)] [(0, 0)] w22 142 Q9
                  have hBAD := hP20.2.1.tr hA22 (by decide +kernel)
                  refine qG.br (P := (0 : Int) = 0) (pc1 := 69) (pc2 := 71) (st1 := []) rfl (fun h23 => ?_) (fun h23 => ?_)
                  · skip
                    refine qG.blk 1 (pc' := 70) (ls' := [(2, 95), (0, 1), (0, w20 95 29)]) (st' := [(0, 0)]) (w' := w22) (n' := 142) rfl ?_
                    refine qG.ret rfl (by first | rfl | exact decide_eq_true (by omega)) ?_
                    subst hQ9
                    first | exact ⟨rfl, .inl ⟨k63, j63, hSp.trans (by rw [show 601 - c9 = (601 - (c9 + 1)) + 1 by omega]; exact (pL_s (by omega)).trans (bnd_k hs63 hk63)), hk63, rfl, hBAD, hf63, hg63⟩⟩
                  · exact absurd h23 (by decide)
                · skip
                  show qG none (d + 1) 238 66 [(2, 95), (0, 1), (0, w20 95 29)] [(0, 1)] w22 142 Q9
                  have hP22 := PS.tr hP20 hS22 (by omega)
                  have hI22 : PI w22 := hS22.2.2.1
                  have hb22 := hI22.b
                  have hq22 := hP22.fs
                  have hd22 := hP22.2.2.2.2.2.1
                  have hm22 := hS22.2.2.2.1
                  refine qG.br (P := (1 : Int) = 0) (pc1 := 69) (pc2 := 71) (st1 := []) rfl (fun h24 => ?_) (fun h24 => ?_)
                  · exact absurd h24 (by decide)
                  · skip
                    refine qG.blk 3 (pc' := 75) (ls' := [(2, 95), (0, 1), (0, w20 95 29)]) (st' := [(0, w20 95 29), (0, 11), (2, 95)]) (w' := w22) (n' := 142) rfl ?_
                    refine qG.call (t := 235) (na := 3) (sk := 1) (md := 1) (ls1 := [(2, 95), (0, 11), (0, w20 95 29)]) (r1 := []) rfl rfl rfl rfl rfl (K_lay (by omega) 11 (w20 95 29) w22 hI22.1 (by first | omega | (rw [qup_j (by decide)]; omega))) ?_
                    rintro _ _ _ ⟨rfl, rfl, rfl⟩
                    have hl25 := PS.lay (n := 1) (m := 1) hI22 (by first | omega | (rw [qup_j (by decide)]; omega)) (k := 11) (v := w20 95 29) ⟨by show (-2147483648 : Int) ≤ _; omega, by show _ ≤ (2147483647 : Int); omega⟩ ⟨by show (-2147483648 : Int) ≤ _; omega, by show _ ≤ (2147483647 : Int); omega⟩ (fun h => by unfold stepH; rw [if_neg (by decide), if_pos rfl, if_pos ⟨by omega, (by have q := sNum_r hs63; have q2 := (hO.2.1 _ _ hJ20).2.2 (by omega) (by omega); omega)⟩])
                    have hP25 := PS.tr hP22 hl25 (by omega)
                    have hI25 : PI (layW w22 11 (w20 95 29)) := hl25.2.2.1
                    have hb25 := hI25.b
                    have hq25 := hP25.fs
                    have hd25 := hP25.2.2.2.2.2.1
                    have hm25 := hl25.2.2.2.1
                    show qG none (d + 1) 238 78 [(2, 95), (0, 1), (0, w20 95 29)] [] (layW w22 11 (w20 95 29)) 142 Q9
                    refine qG.blk 2 (pc' := 9) (ls' := [(2, 95), (0, 1), (0, w20 95 29)]) (st' := []) (w' := (layW w22 11 (w20 95 29))) (n' := 142) rfl ?_
                    have hst9 : 601 - c9 = (601 - (c9 + 1)) + 1 := by omega
                    exact ih9 _ (by omega) ((0, 1)) ((0, w20 95 29)) (c9 + 1) j63 ((layW w22 11 (w20 95 29))) rfl ⟨hP25.cast (by omega) (by omega) (by omega) (by omega), (hO.lay hJ22), (by have := num_lt hs63; omega), hSp.trans (by rw [hst9]; exact (pL_s (by omega)).trans (bnd_y hs63))⟩
            · skip
              refine qG.blk 3 (pc' := 46) (ls' := [(2, 95), (0, 0), q2]) (st' := [(2, 95)]) (w' := wL) (n' := 142) rfl ?_
              refine qG.call (t := 231) (na := 1) (sk := 1) (md := 1) (ls1 := [(2, 95), (9, 0)]) (r1 := []) rfl rfl rfl rfl rfl (K_next0 (by omega) wL hIL.1) ?_
              rintro _ w26 _ ⟨rfl, rfl, hX26⟩
              have hn26 := PS.next hIL (by omega) hX26
              have hP26 := PS.tr hPL hn26.1 (by omega)
              have hI26 : PI w26 := hn26.1.2.2.1
              have hg26 := hn26.2
              have hb26 := hI26.b
              have hq26 := hP26.fs
              have hd26 := hP26.2.2.2.2.2.1
              have hJ26 := hO.1 _ _ _ hJL hIL.1 hX26
              show qG none (d + 1) 238 49 [(2, 95), (0, 0), q2] [] w26 142 Q9
              refine qG.blk 1 (pc' := 50) (ls' := [(2, 95), (0, 0), q2]) (st' := [(0, 0)]) (w' := w26) (n' := 142) rfl ?_
              refine qG.br (P := (0 : Int) = 0) (pc1 := 81) (pc2 := 53) (st1 := []) rfl (fun h27 => ?_) (fun h27 => ?_)
              · skip
                refine qG.blk 1 (pc' := 82) (ls' := [(2, 95), (0, 0), q2]) (st' := [(2, 95)]) (w' := w26) (n' := 142) rfl ?_
                refine qG.call (t := 239) (na := 1) (sk := 1) (md := 1) (ls1 := [(2, 95), (9, 0), (9, 0)]) (r1 := []) rfl rfl rfl rfl rfl (K_unitX (by omega) hO w26 hI26 (by omega) (i9 + 1) hJ26) ?_
                rintro _ w28 _ ⟨rfl, ⟨k82, j82, hs82, hk82, rfl, hA28, hf82, hg82⟩ | ⟨j82, hs82, rfl, hS28, hJ28⟩⟩
                · skip
                  show qG none (d + 1) 238 85 [(2, 95), (0, 0), q2] [(0, 0)] w28 142 Q9
                  have hBAD := hP26.2.1.tr hA28 (by decide +kernel)
                  refine qG.br (P := (0 : Int) = 0) (pc1 := 88) (pc2 := 90) (st1 := []) rfl (fun h29 => ?_) (fun h29 => ?_)
                  · skip
                    refine qG.blk 1 (pc' := 89) (ls' := [(2, 95), (0, 0), q2]) (st' := [(0, 0)]) (w' := w28) (n' := 142) rfl ?_
                    refine qG.ret rfl (by first | rfl | exact decide_eq_true (by omega)) ?_
                    subst hQ9
                    first | exact ⟨rfl, .inl ⟨k82, j82, hSp.trans (by rw [show 601 - c9 = (601 - (c9 + 1)) + 1 by omega]; exact (pL_u (by omega)).trans (bnd_k hs82 hk82)), hk82, rfl, hBAD, hf82, hg82⟩⟩
                  · exact absurd h29 (by decide)
                · skip
                  show qG none (d + 1) 238 85 [(2, 95), (0, 0), q2] [(0, 1)] w28 142 Q9
                  have hP28 := PS.tr hP26 hS28 (by omega)
                  have hI28 : PI w28 := hS28.2.2.1
                  have hb28 := hI28.b
                  have hq28 := hP28.fs
                  have hd28 := hP28.2.2.2.2.2.1
                  have hm28 := hS28.2.2.2.1
                  refine qG.br (P := (1 : Int) = 0) (pc1 := 88) (pc2 := 90) (st1 := []) rfl (fun h30 => ?_) (fun h30 => ?_)
                  · exact absurd h30 (by decide)
                  · skip
                    refine qG.blk 3 (pc' := 94) (ls' := [(2, 95), (0, 0), q2]) (st' := [(0, 0), (0, 10), (2, 95)]) (w' := w28) (n' := 142) rfl ?_
                    refine qG.call (t := 235) (na := 3) (sk := 1) (md := 1) (ls1 := [(2, 95), (0, 10), (0, 0)]) (r1 := []) rfl rfl rfl rfl rfl (K_lay (by omega) 10 0 w28 hI28.1 (by first | omega | (rw [qup_j (by decide)]; omega))) ?_
                    rintro _ _ _ ⟨rfl, rfl, rfl⟩
                    have hl31 := PS.lay (n := 2) (m := 1) hI28 (by first | omega | (rw [qup_j (by decide)]; omega)) (k := 10) (v := 0) ⟨by show (-2147483648 : Int) ≤ _; omega, by show _ ≤ (2147483647 : Int); omega⟩ ⟨by show (-2147483648 : Int) ≤ _; omega, by show _ ≤ (2147483647 : Int); omega⟩ (fun h => by unfold stepH; rw [if_neg (by omega), if_neg (by omega), if_neg (by omega), if_pos (by omega)]; rfl)
                    have hP31 := PS.tr hP28 hl31 (by omega)
                    have hI31 : PI (layW w28 10 0) := hl31.2.2.1
                    have hb31 := hI31.b
                    have hq31 := hP31.fs
                    have hd31 := hP31.2.2.2.2.2.1
                    have hm31 := hl31.2.2.2.1
                    show qG none (d + 1) 238 97 [(2, 95), (0, 0), q2] [] (layW w28 10 0) 142 Q9
                    refine qG.blk 1 (pc' := 9) (ls' := [(2, 95), (0, 0), q2]) (st' := []) (w' := (layW w28 10 0)) (n' := 142) rfl ?_
                    have hst9 : 601 - c9 = (601 - (c9 + 1)) + 1 := by omega
                    exact ih9 _ (by omega) ((0, 0)) (q2) (c9 + 1) j82 ((layW w28 10 0)) rfl ⟨hP31.cast (by omega) (by omega) (by omega) (by omega), (hO.lay hJ28), (by have := unit_lt hs82; omega), hSp.trans (by rw [hst9]; exact (pL_u (by omega)).trans (bnd_y hs82))⟩
              · exact absurd h27 (by decide)
          · skip
            refine qG.blk 1 (pc' := 101) (ls' := [(2, 95), q1, q2]) (st' := [(0, 1)]) (w' := wL) (n' := 142) rfl ?_
            refine qG.ret rfl (by first | rfl | exact decide_eq_true (by omega)) ?_
            subst hQ9
            exact ⟨rfl, .inr ⟨i9, hSp.trans (pL_e (by omega) (by omega) _), rfl, hPL.cast (by omega) (by omega) (by omega) (by omega), hJL⟩⟩
      exact L9 _ ((9, 0)) ((9, 0)) (0) (j1) (w1) rfl (⟨hP1.cast (by omega) (by omega) (by omega) (by omega), hJ1, by omega, bnd_y hs1⟩)
theorem K_sumUpX {d : Nat} (hd : 11 ≤ d) {S : Nat → qW → Prop} {C P : Nat → Int} (hO : SO S C P TMP) (w : qW) (hP : PI w) (hD : w 95 24 ≤ w 95 28) (i0 : Nat) (hJ0 : S i0 w) : qG none d 237 0 [(2, 95), (9, 0)] [] w 142 (fun (r : qV) (w1 : qW) (n1 : Nat) => n1 = 142 ∧ ((∃ k j, sAdd C 601 i0 = (k, j) ∧ (k = 1 ∨ k = 2 ∨ k = 3) ∧ r = (0, 0) ∧ AW PM w w1 ∧ w1 95 30 = k ∧ w1 95 31 = P j) ∨ (∃ j, sAdd C 601 i0 = (0, j) ∧ r = (0, 1) ∧ PS 0 1 0 0 w w1 ∧ S j w1))) := by
  generalize hQ9 : (fun (r : qV) (w1 : qW) (n1 : Nat) => n1 = 142 ∧ ((∃ k j, sAdd C 601 i0 = (k, j) ∧ (k = 1 ∨ k = 2 ∨ k = 3) ∧ r = (0, 0) ∧ AW PM w w1 ∧ w1 95 30 = k ∧ w1 95 31 = P j) ∨ (∃ j, sAdd C 601 i0 = (0, j) ∧ r = (0, 1) ∧ PS 0 1 0 0 w w1 ∧ S j w1))) = Q9
  have hb0 := hP.b
  have ht0 := (hO.2.1 _ _ hJ0).1
  obtain ⟨d, rfl⟩ : ∃ d9, d = d9 + 1 := ⟨d - 1, by omega⟩
  refine qG.blk 1 (pc' := 1) (ls' := [(2, 95), (9, 0)]) (st' := [(2, 95)]) (w' := w) (n' := 142) rfl ?_
  refine qG.call (t := 238) (na := 1) (sk := 1) (md := 1) (ls1 := [(2, 95), (9, 0), (9, 0)]) (r1 := []) rfl rfl rfl rfl rfl (K_productX (by omega) hO w hP (by omega) i0 hJ0) ?_
  rintro _ w1 _ ⟨rfl, ⟨k1, j1, hs1, hk1, rfl, hA1, hf1, hg1⟩ | ⟨j1, hs1, rfl, hS1, hJ1⟩⟩
  · skip
    show qG none (d + 1) 237 4 [(2, 95), (9, 0)] [(0, 0)] w1 142 Q9
    have hBAD := (PS.rf hP).2.1.tr hA1 (by decide +kernel)
    refine qG.br (P := (0 : Int) = 0) (pc1 := 7) (pc2 := 9) (st1 := []) rfl (fun h2 => ?_) (fun h2 => ?_)
    · skip
      refine qG.blk 1 (pc' := 8) (ls' := [(2, 95), (9, 0)]) (st' := [(0, 0)]) (w' := w1) (n' := 142) rfl ?_
      refine qG.ret rfl (by first | rfl | exact decide_eq_true (by omega)) ?_
      subst hQ9
      first | exact ⟨rfl, .inl ⟨k1, j1, bnd_k hs1 hk1, hk1, rfl, hBAD, hf1, hg1⟩⟩
    · exact absurd h2 (by decide)
  · skip
    show qG none (d + 1) 237 4 [(2, 95), (9, 0)] [(0, 1)] w1 142 Q9
    have hP1 := PS.tr (PS.rf hP) hS1 (by omega)
    have hI1 : PI w1 := hS1.2.2.1
    have hb1 := hI1.b
    have hq1 := hP1.fs
    have hd1 := hP1.2.2.2.2.2.1
    have hm1 := hS1.2.2.2.1
    refine qG.br (P := (1 : Int) = 0) (pc1 := 7) (pc2 := 9) (st1 := []) rfl (fun h3 => ?_) (fun h3 => ?_)
    · exact absurd h3 (by decide)
    · skip
      have L9 : ∀ (m9 : Nat) (q1 : qV) (c9 i9 : Nat) (wL : qW), (600 - wL 95 28).toNat = m9 → (PS 0 1 0 0 w wL ∧ S i9 wL ∧ c9 ≤ i9 ∧ sAdd C 601 i0 = sAddL C 601 (601 - c9) i9) → qG none (d + 1) 237 9 [(2, 95), q1] [] wL 142 Q9 := by
        intro m9
        induction m9 using Nat.strongRecOn with
        | ind m9 ih9 =>
        intro q1 c9 i9 wL hm9 hI9
        obtain ⟨hPL, hJL, hci, hSp⟩ := hI9
        have hIL : PI wL := hPL.2.2.1
        have hbL := hIL.b
        have hqL := hPL.fs
        have hdL := hPL.2.2.2.2.2.1
        have htL := (hO.2.1 _ _ hJL).1
        have h6L := hO.2.2.2 i9
        unfold TMP at htL
        refine qG.blk 3 (pc' := 16) (ls' := [(2, 95), q1]) (st' := [(0, 143), (0, wL 95 27)]) (w' := wL) (n' := 142) rfl ?_
        refine qG.br (P := wL 95 27 = 143) (pc1 := 29) (pc2 := 19) (st1 := []) rfl (fun h4 => ?_) (fun h4 => ?_)
        · skip
          refine qG.blk 3 (pc' := 36) (ls' := [(2, 95), q1]) (st' := [(0, 143), (0, wL 95 27)]) (w' := wL) (n' := 142) rfl ?_
          refine qG.br (P := wL 95 27 = 143) (pc1 := 39) (pc2 := 44) (st1 := []) rfl (fun h5 => ?_) (fun h5 => ?_)
          · skip
            refine qG.blk 4 (pc' := 48) (ls' := [(2, 95), (0, 8)]) (st' := [(2, 95)]) (w' := wL) (n' := 142) rfl ?_
            refine qG.call (t := 231) (na := 1) (sk := 1) (md := 1) (ls1 := [(2, 95), (9, 0)]) (r1 := []) rfl rfl rfl rfl rfl (K_next0 (by omega) wL hIL.1) ?_
            rintro _ w6 _ ⟨rfl, rfl, hX6⟩
            have hn6 := PS.next hIL (by omega) hX6
            have hP6 := PS.tr hPL hn6.1 (by omega)
            have hI6 : PI w6 := hn6.1.2.2.1
            have hg6 := hn6.2
            have hb6 := hI6.b
            have hq6 := hP6.fs
            have hd6 := hP6.2.2.2.2.2.1
            have hJ6 := hO.1 _ _ _ hJL hIL.1 hX6
            show qG none (d + 1) 237 51 [(2, 95), (0, 8)] [] w6 142 Q9
            refine qG.blk 1 (pc' := 52) (ls' := [(2, 95), (0, 8)]) (st' := [(2, 95)]) (w' := w6) (n' := 142) rfl ?_
            refine qG.call (t := 238) (na := 1) (sk := 1) (md := 1) (ls1 := [(2, 95), (9, 0), (9, 0)]) (r1 := []) rfl rfl rfl rfl rfl (K_productX (by omega) hO w6 hI6 (by omega) (i9 + 1) hJ6) ?_
            rintro _ w7 _ ⟨rfl, ⟨k52, j52, hs52, hk52, rfl, hA7, hf52, hg52⟩ | ⟨j52, hs52, rfl, hS7, hJ7⟩⟩
            · skip
              show qG none (d + 1) 237 55 [(2, 95), (0, 8)] [(0, 0)] w7 142 Q9
              have hBAD := hP6.2.1.tr hA7 (by decide +kernel)
              refine qG.br (P := (0 : Int) = 0) (pc1 := 58) (pc2 := 60) (st1 := []) rfl (fun h8 => ?_) (fun h8 => ?_)
              · skip
                refine qG.blk 1 (pc' := 59) (ls' := [(2, 95), (0, 8)]) (st' := [(0, 0)]) (w' := w7) (n' := 142) rfl ?_
                refine qG.ret rfl (by first | rfl | exact decide_eq_true (by omega)) ?_
                subst hQ9
                first | exact ⟨rfl, .inl ⟨k52, j52, hSp.trans (by rw [show 601 - c9 = (601 - (c9 + 1)) + 1 by omega]; exact (aL_y (by omega)).trans (bnd_k hs52 hk52)), hk52, rfl, hBAD, hf52, hg52⟩⟩
              · exact absurd h8 (by decide)
            · skip
              show qG none (d + 1) 237 55 [(2, 95), (0, 8)] [(0, 1)] w7 142 Q9
              have hP7 := PS.tr hP6 hS7 (by omega)
              have hI7 : PI w7 := hS7.2.2.1
              have hb7 := hI7.b
              have hq7 := hP7.fs
              have hd7 := hP7.2.2.2.2.2.1
              have hm7 := hS7.2.2.2.1
              refine qG.br (P := (1 : Int) = 0) (pc1 := 58) (pc2 := 60) (st1 := []) rfl (fun h9 => ?_) (fun h9 => ?_)
              · exact absurd h9 (by decide)
              · skip
                refine qG.blk 3 (pc' := 63) (ls' := [(2, 95), (0, 8)]) (st' := [(0, 0), (0, 8), (2, 95)]) (w' := w7) (n' := 142) rfl ?_
                refine qG.call (t := 235) (na := 3) (sk := 1) (md := 1) (ls1 := [(2, 95), (0, 8), (0, 0)]) (r1 := []) rfl rfl rfl rfl rfl (K_lay (by omega) 8 0 w7 hI7.1 (by first | omega | (rw [qup_j (by decide)]; omega))) ?_
                rintro _ _ _ ⟨rfl, rfl, rfl⟩
                have hl10 := PS.lay (n := 2) (m := 1) hI7 (by first | omega | (rw [qup_j (by decide)]; omega)) (k := 8) (v := 0) ⟨by show (-2147483648 : Int) ≤ _; omega, by show _ ≤ (2147483647 : Int); omega⟩ ⟨by show (-2147483648 : Int) ≤ _; omega, by show _ ≤ (2147483647 : Int); omega⟩ (fun h => by unfold stepH; rw [if_neg (by omega), if_neg (by omega), if_neg (by omega), if_pos (by omega)]; rfl)
                have hP10 := PS.tr hP7 hl10 (by omega)
                have hI10 : PI (layW w7 8 0) := hl10.2.2.1
                have hb10 := hI10.b
                have hq10 := hP10.fs
                have hd10 := hP10.2.2.2.2.2.1
                have hm10 := hl10.2.2.2.1
                show qG none (d + 1) 237 66 [(2, 95), (0, 8)] [] (layW w7 8 0) 142 Q9
                refine qG.blk 1 (pc' := 9) (ls' := [(2, 95), (0, 8)]) (st' := []) (w' := (layW w7 8 0)) (n' := 142) rfl ?_
                have hst9 : 601 - c9 = (601 - (c9 + 1)) + 1 := by omega
                exact ih9 _ (by omega) ((0, 8)) (c9 + 1) j52 ((layW w7 8 0)) rfl ⟨hP10.cast (by omega) (by omega) (by omega) (by omega), (hO.lay hJ7), (by have := prod_lt hs52; omega), hSp.trans (by rw [hst9]; exact (aL_y (by omega)).trans (bnd_y hs52))⟩
          · skip
            refine qG.blk 3 (pc' := 48) (ls' := [(2, 95), (0, 9)]) (st' := [(2, 95)]) (w' := wL) (n' := 142) rfl ?_
            refine qG.call (t := 231) (na := 1) (sk := 1) (md := 1) (ls1 := [(2, 95), (9, 0)]) (r1 := []) rfl rfl rfl rfl rfl (K_next0 (by omega) wL hIL.1) ?_
            rintro _ w11 _ ⟨rfl, rfl, hX11⟩
            have hn11 := PS.next hIL (by omega) hX11
            have hP11 := PS.tr hPL hn11.1 (by omega)
            have hI11 : PI w11 := hn11.1.2.2.1
            have hg11 := hn11.2
            have hb11 := hI11.b
            have hq11 := hP11.fs
            have hd11 := hP11.2.2.2.2.2.1
            have hJ11 := hO.1 _ _ _ hJL hIL.1 hX11
            show qG none (d + 1) 237 51 [(2, 95), (0, 9)] [] w11 142 Q9
            refine qG.blk 1 (pc' := 52) (ls' := [(2, 95), (0, 9)]) (st' := [(2, 95)]) (w' := w11) (n' := 142) rfl ?_
            refine qG.call (t := 238) (na := 1) (sk := 1) (md := 1) (ls1 := [(2, 95), (9, 0), (9, 0)]) (r1 := []) rfl rfl rfl rfl rfl (K_productX (by omega) hO w11 hI11 (by omega) (i9 + 1) hJ11) ?_
            rintro _ w12 _ ⟨rfl, ⟨k52, j52, hs52, hk52, rfl, hA12, hf52, hg52⟩ | ⟨j52, hs52, rfl, hS12, hJ12⟩⟩
            · skip
              show qG none (d + 1) 237 55 [(2, 95), (0, 9)] [(0, 0)] w12 142 Q9
              have hBAD := hP11.2.1.tr hA12 (by decide +kernel)
              refine qG.br (P := (0 : Int) = 0) (pc1 := 58) (pc2 := 60) (st1 := []) rfl (fun h13 => ?_) (fun h13 => ?_)
              · skip
                refine qG.blk 1 (pc' := 59) (ls' := [(2, 95), (0, 9)]) (st' := [(0, 0)]) (w' := w12) (n' := 142) rfl ?_
                refine qG.ret rfl (by first | rfl | exact decide_eq_true (by omega)) ?_
                subst hQ9
                first | exact ⟨rfl, .inl ⟨k52, j52, hSp.trans (by rw [show 601 - c9 = (601 - (c9 + 1)) + 1 by omega]; exact (aL_y (by omega)).trans (bnd_k hs52 hk52)), hk52, rfl, hBAD, hf52, hg52⟩⟩
              · exact absurd h13 (by decide)
            · skip
              show qG none (d + 1) 237 55 [(2, 95), (0, 9)] [(0, 1)] w12 142 Q9
              have hP12 := PS.tr hP11 hS12 (by omega)
              have hI12 : PI w12 := hS12.2.2.1
              have hb12 := hI12.b
              have hq12 := hP12.fs
              have hd12 := hP12.2.2.2.2.2.1
              have hm12 := hS12.2.2.2.1
              refine qG.br (P := (1 : Int) = 0) (pc1 := 58) (pc2 := 60) (st1 := []) rfl (fun h14 => ?_) (fun h14 => ?_)
              · exact absurd h14 (by decide)
              · skip
                refine qG.blk 3 (pc' := 63) (ls' := [(2, 95), (0, 9)]) (st' := [(0, 0), (0, 9), (2, 95)]) (w' := w12) (n' := 142) rfl ?_
                refine qG.call (t := 235) (na := 3) (sk := 1) (md := 1) (ls1 := [(2, 95), (0, 9), (0, 0)]) (r1 := []) rfl rfl rfl rfl rfl (K_lay (by omega) 9 0 w12 hI12.1 (by first | omega | (rw [qup_j (by decide)]; omega))) ?_
                rintro _ _ _ ⟨rfl, rfl, rfl⟩
                have hl15 := PS.lay (n := 2) (m := 1) hI12 (by first | omega | (rw [qup_j (by decide)]; omega)) (k := 9) (v := 0) ⟨by show (-2147483648 : Int) ≤ _; omega, by show _ ≤ (2147483647 : Int); omega⟩ ⟨by show (-2147483648 : Int) ≤ _; omega, by show _ ≤ (2147483647 : Int); omega⟩ (fun h => by unfold stepH; rw [if_neg (by omega), if_neg (by omega), if_neg (by omega), if_pos (by omega)]; rfl)
                have hP15 := PS.tr hP12 hl15 (by omega)
                have hI15 : PI (layW w12 9 0) := hl15.2.2.1
                have hb15 := hI15.b
                have hq15 := hP15.fs
                have hd15 := hP15.2.2.2.2.2.1
                have hm15 := hl15.2.2.2.1
                show qG none (d + 1) 237 66 [(2, 95), (0, 9)] [] (layW w12 9 0) 142 Q9
                refine qG.blk 1 (pc' := 9) (ls' := [(2, 95), (0, 9)]) (st' := []) (w' := (layW w12 9 0)) (n' := 142) rfl ?_
                have hst9 : 601 - c9 = (601 - (c9 + 1)) + 1 := by omega
                exact ih9 _ (by omega) ((0, 9)) (c9 + 1) j52 ((layW w12 9 0)) rfl ⟨hP15.cast (by omega) (by omega) (by omega) (by omega), (hO.lay hJ12), (by have := prod_lt hs52; omega), hSp.trans (by rw [hst9]; exact (aL_y (by omega)).trans (bnd_y hs52))⟩
        · skip
          refine qG.blk 3 (pc' := 26) (ls' := [(2, 95), q1]) (st' := [(0, 145), (0, wL 95 27)]) (w' := wL) (n' := 142) rfl ?_
          refine qG.br (P := wL 95 27 = 145) (pc1 := 29) (pc2 := 69) (st1 := []) rfl (fun h16 => ?_) (fun h16 => ?_)
          · skip
            refine qG.blk 3 (pc' := 36) (ls' := [(2, 95), q1]) (st' := [(0, 143), (0, wL 95 27)]) (w' := wL) (n' := 142) rfl ?_
            refine qG.br (P := wL 95 27 = 143) (pc1 := 39) (pc2 := 44) (st1 := []) rfl (fun h17 => ?_) (fun h17 => ?_)
            · skip
              refine qG.blk 4 (pc' := 48) (ls' := [(2, 95), (0, 8)]) (st' := [(2, 95)]) (w' := wL) (n' := 142) rfl ?_
              refine qG.call (t := 231) (na := 1) (sk := 1) (md := 1) (ls1 := [(2, 95), (9, 0)]) (r1 := []) rfl rfl rfl rfl rfl (K_next0 (by omega) wL hIL.1) ?_
              rintro _ w18 _ ⟨rfl, rfl, hX18⟩
              have hn18 := PS.next hIL (by omega) hX18
              have hP18 := PS.tr hPL hn18.1 (by omega)
              have hI18 : PI w18 := hn18.1.2.2.1
              have hg18 := hn18.2
              have hb18 := hI18.b
              have hq18 := hP18.fs
              have hd18 := hP18.2.2.2.2.2.1
              have hJ18 := hO.1 _ _ _ hJL hIL.1 hX18
              show qG none (d + 1) 237 51 [(2, 95), (0, 8)] [] w18 142 Q9
              refine qG.blk 1 (pc' := 52) (ls' := [(2, 95), (0, 8)]) (st' := [(2, 95)]) (w' := w18) (n' := 142) rfl ?_
              refine qG.call (t := 238) (na := 1) (sk := 1) (md := 1) (ls1 := [(2, 95), (9, 0), (9, 0)]) (r1 := []) rfl rfl rfl rfl rfl (K_productX (by omega) hO w18 hI18 (by omega) (i9 + 1) hJ18) ?_
              rintro _ w19 _ ⟨rfl, ⟨k52, j52, hs52, hk52, rfl, hA19, hf52, hg52⟩ | ⟨j52, hs52, rfl, hS19, hJ19⟩⟩
              · skip
                show qG none (d + 1) 237 55 [(2, 95), (0, 8)] [(0, 0)] w19 142 Q9
                have hBAD := hP18.2.1.tr hA19 (by decide +kernel)
                refine qG.br (P := (0 : Int) = 0) (pc1 := 58) (pc2 := 60) (st1 := []) rfl (fun h20 => ?_) (fun h20 => ?_)
                · skip
                  refine qG.blk 1 (pc' := 59) (ls' := [(2, 95), (0, 8)]) (st' := [(0, 0)]) (w' := w19) (n' := 142) rfl ?_
                  refine qG.ret rfl (by first | rfl | exact decide_eq_true (by omega)) ?_
                  subst hQ9
                  first | exact ⟨rfl, .inl ⟨k52, j52, hSp.trans (by rw [show 601 - c9 = (601 - (c9 + 1)) + 1 by omega]; exact (aL_y (by omega)).trans (bnd_k hs52 hk52)), hk52, rfl, hBAD, hf52, hg52⟩⟩
                · exact absurd h20 (by decide)
              · skip
                show qG none (d + 1) 237 55 [(2, 95), (0, 8)] [(0, 1)] w19 142 Q9
                have hP19 := PS.tr hP18 hS19 (by omega)
                have hI19 : PI w19 := hS19.2.2.1
                have hb19 := hI19.b
                have hq19 := hP19.fs
                have hd19 := hP19.2.2.2.2.2.1
                have hm19 := hS19.2.2.2.1
                refine qG.br (P := (1 : Int) = 0) (pc1 := 58) (pc2 := 60) (st1 := []) rfl (fun h21 => ?_) (fun h21 => ?_)
                · exact absurd h21 (by decide)
                · skip
                  refine qG.blk 3 (pc' := 63) (ls' := [(2, 95), (0, 8)]) (st' := [(0, 0), (0, 8), (2, 95)]) (w' := w19) (n' := 142) rfl ?_
                  refine qG.call (t := 235) (na := 3) (sk := 1) (md := 1) (ls1 := [(2, 95), (0, 8), (0, 0)]) (r1 := []) rfl rfl rfl rfl rfl (K_lay (by omega) 8 0 w19 hI19.1 (by first | omega | (rw [qup_j (by decide)]; omega))) ?_
                  rintro _ _ _ ⟨rfl, rfl, rfl⟩
                  have hl22 := PS.lay (n := 2) (m := 1) hI19 (by first | omega | (rw [qup_j (by decide)]; omega)) (k := 8) (v := 0) ⟨by show (-2147483648 : Int) ≤ _; omega, by show _ ≤ (2147483647 : Int); omega⟩ ⟨by show (-2147483648 : Int) ≤ _; omega, by show _ ≤ (2147483647 : Int); omega⟩ (fun h => by unfold stepH; rw [if_neg (by omega), if_neg (by omega), if_neg (by omega), if_pos (by omega)]; rfl)
                  have hP22 := PS.tr hP19 hl22 (by omega)
                  have hI22 : PI (layW w19 8 0) := hl22.2.2.1
                  have hb22 := hI22.b
                  have hq22 := hP22.fs
                  have hd22 := hP22.2.2.2.2.2.1
                  have hm22 := hl22.2.2.2.1
                  show qG none (d + 1) 237 66 [(2, 95), (0, 8)] [] (layW w19 8 0) 142 Q9
                  refine qG.blk 1 (pc' := 9) (ls' := [(2, 95), (0, 8)]) (st' := []) (w' := (layW w19 8 0)) (n' := 142) rfl ?_
                  have hst9 : 601 - c9 = (601 - (c9 + 1)) + 1 := by omega
                  exact ih9 _ (by omega) ((0, 8)) (c9 + 1) j52 ((layW w19 8 0)) rfl ⟨hP22.cast (by omega) (by omega) (by omega) (by omega), (hO.lay hJ19), (by have := prod_lt hs52; omega), hSp.trans (by rw [hst9]; exact (aL_y (by omega)).trans (bnd_y hs52))⟩
            · skip
              refine qG.blk 3 (pc' := 48) (ls' := [(2, 95), (0, 9)]) (st' := [(2, 95)]) (w' := wL) (n' := 142) rfl ?_
              refine qG.call (t := 231) (na := 1) (sk := 1) (md := 1) (ls1 := [(2, 95), (9, 0)]) (r1 := []) rfl rfl rfl rfl rfl (K_next0 (by omega) wL hIL.1) ?_
              rintro _ w23 _ ⟨rfl, rfl, hX23⟩
              have hn23 := PS.next hIL (by omega) hX23
              have hP23 := PS.tr hPL hn23.1 (by omega)
              have hI23 : PI w23 := hn23.1.2.2.1
              have hg23 := hn23.2
              have hb23 := hI23.b
              have hq23 := hP23.fs
              have hd23 := hP23.2.2.2.2.2.1
              have hJ23 := hO.1 _ _ _ hJL hIL.1 hX23
              show qG none (d + 1) 237 51 [(2, 95), (0, 9)] [] w23 142 Q9
              refine qG.blk 1 (pc' := 52) (ls' := [(2, 95), (0, 9)]) (st' := [(2, 95)]) (w' := w23) (n' := 142) rfl ?_
              refine qG.call (t := 238) (na := 1) (sk := 1) (md := 1) (ls1 := [(2, 95), (9, 0), (9, 0)]) (r1 := []) rfl rfl rfl rfl rfl (K_productX (by omega) hO w23 hI23 (by omega) (i9 + 1) hJ23) ?_
              rintro _ w24 _ ⟨rfl, ⟨k52, j52, hs52, hk52, rfl, hA24, hf52, hg52⟩ | ⟨j52, hs52, rfl, hS24, hJ24⟩⟩
              · skip
                show qG none (d + 1) 237 55 [(2, 95), (0, 9)] [(0, 0)] w24 142 Q9
                have hBAD := hP23.2.1.tr hA24 (by decide +kernel)
                refine qG.br (P := (0 : Int) = 0) (pc1 := 58) (pc2 := 60) (st1 := []) rfl (fun h25 => ?_) (fun h25 => ?_)
                · skip
                  refine qG.blk 1 (pc' := 59) (ls' := [(2, 95), (0, 9)]) (st' := [(0, 0)]) (w' := w24) (n' := 142) rfl ?_
                  refine qG.ret rfl (by first | rfl | exact decide_eq_true (by omega)) ?_
                  subst hQ9
                  first | exact ⟨rfl, .inl ⟨k52, j52, hSp.trans (by rw [show 601 - c9 = (601 - (c9 + 1)) + 1 by omega]; exact (aL_y (by omega)).trans (bnd_k hs52 hk52)), hk52, rfl, hBAD, hf52, hg52⟩⟩
                · exact absurd h25 (by decide)
              · skip
                show qG none (d + 1) 237 55 [(2, 95), (0, 9)] [(0, 1)] w24 142 Q9
                have hP24 := PS.tr hP23 hS24 (by omega)
                have hI24 : PI w24 := hS24.2.2.1
                have hb24 := hI24.b
                have hq24 := hP24.fs
                have hd24 := hP24.2.2.2.2.2.1
                have hm24 := hS24.2.2.2.1
                refine qG.br (P := (1 : Int) = 0) (pc1 := 58) (pc2 := 60) (st1 := []) rfl (fun h26 => ?_) (fun h26 => ?_)
                · exact absurd h26 (by decide)
                · skip
                  refine qG.blk 3 (pc' := 63) (ls' := [(2, 95), (0, 9)]) (st' := [(0, 0), (0, 9), (2, 95)]) (w' := w24) (n' := 142) rfl ?_
                  refine qG.call (t := 235) (na := 3) (sk := 1) (md := 1) (ls1 := [(2, 95), (0, 9), (0, 0)]) (r1 := []) rfl rfl rfl rfl rfl (K_lay (by omega) 9 0 w24 hI24.1 (by first | omega | (rw [qup_j (by decide)]; omega))) ?_
                  rintro _ _ _ ⟨rfl, rfl, rfl⟩
                  have hl27 := PS.lay (n := 2) (m := 1) hI24 (by first | omega | (rw [qup_j (by decide)]; omega)) (k := 9) (v := 0) ⟨by show (-2147483648 : Int) ≤ _; omega, by show _ ≤ (2147483647 : Int); omega⟩ ⟨by show (-2147483648 : Int) ≤ _; omega, by show _ ≤ (2147483647 : Int); omega⟩ (fun h => by unfold stepH; rw [if_neg (by omega), if_neg (by omega), if_neg (by omega), if_pos (by omega)]; rfl)
                  have hP27 := PS.tr hP24 hl27 (by omega)
                  have hI27 : PI (layW w24 9 0) := hl27.2.2.1
                  have hb27 := hI27.b
                  have hq27 := hP27.fs
                  have hd27 := hP27.2.2.2.2.2.1
                  have hm27 := hl27.2.2.2.1
                  show qG none (d + 1) 237 66 [(2, 95), (0, 9)] [] (layW w24 9 0) 142 Q9
                  refine qG.blk 1 (pc' := 9) (ls' := [(2, 95), (0, 9)]) (st' := []) (w' := (layW w24 9 0)) (n' := 142) rfl ?_
                  have hst9 : 601 - c9 = (601 - (c9 + 1)) + 1 := by omega
                  exact ih9 _ (by omega) ((0, 9)) (c9 + 1) j52 ((layW w24 9 0)) rfl ⟨hP27.cast (by omega) (by omega) (by omega) (by omega), (hO.lay hJ24), (by have := prod_lt hs52; omega), hSp.trans (by rw [hst9]; exact (aL_y (by omega)).trans (bnd_y hs52))⟩
          · skip
            refine qG.blk 1 (pc' := 70) (ls' := [(2, 95), q1]) (st' := [(0, 1)]) (w' := wL) (n' := 142) rfl ?_
            refine qG.ret rfl (by first | rfl | exact decide_eq_true (by omega)) ?_
            subst hQ9
            exact ⟨rfl, .inr ⟨i9, hSp.trans (aL_e (by omega) _), rfl, hPL.cast (by omega) (by omega) (by omega) (by omega), hJL⟩⟩
      exact L9 _ ((9, 0)) (0) (j1) (w1) rfl (⟨hP1.cast (by omega) (by omega) (by omega) (by omega), hJ1, by omega, bnd_y hs1⟩)
theorem op_f {x k : Int} {i j : Nat} (h : (if x = 8 then ((3 : Int), i) else (0, i + 1)) = (k, j)) (hk : k = 1 ∨ k = 2 ∨ k = 3) : x = 8 ∧ k = 3 ∧ j = i := by
  by_cases e : x = 8
  · rw [if_pos e] at h; cases h; exact ⟨e, rfl, rfl⟩
  · rw [if_neg e] at h; cases h; omega
theorem op_y {x : Int} {i j : Nat} (h : (if x = 8 then ((3 : Int), i) else (0, i + 1)) = (0, j)) : ¬ x = 8 ∧ j = i + 1 := by
  by_cases e : x = 8
  · rw [if_pos e] at h; cases h
  · rw [if_neg e] at h; cases h; exact ⟨e, rfl⟩
theorem one_3 {C : Nat → Int} {n q i : Nat} (hq : q = 0) (h : C i = 10005 ∨ C i = 20040) : sOne C n q i = (3, i) := by subst hq; exact if_pos h
theorem one_n {C : Nat → Int} {n q i j : Nat} (hq : 0 < q) (h : C i = 10005) (hj : j = i + 1) : sOne C n q i = sOne C n (q - 1) j := by
  obtain ⟨p, rfl⟩ : ∃ p, q = p + 1 := ⟨q - 1, by omega⟩
  rw [hj]; exact if_pos h
theorem one_p {C : Nat → Int} {n q i j : Nat} (hq : 0 < q) (h : C i = 20040) (hj : j = i + 1) : sOne C n q i = bnd (sAn C n (sOne C n (q - 1)) j) (sNeed C 20041) := by
  obtain ⟨p, rfl⟩ : ∃ p, q = p + 1 := ⟨q - 1, by omega⟩
  rw [hj]
  show (if C i = 10005 then _ else _) = _
  rw [if_neg (by omega), if_pos h]; rfl
theorem one_a {C : Nat → Int} {n q i : Nat} (h : ¬ C i = 10005) (h2 : ¬ C i = 20040) : sOne C n q i = sAtoR C n i := by
  cases q with
  | zero => exact if_neg (fun z => z.elim h h2)
  | succ p =>
    show (if C i = 10005 then _ else _) = _
    rw [if_neg h, if_neg h2]
theorem atoR_1 {C : Nat → Int} {n i j : Nat} {k : Int} (h : sAdd C n i = (k, j)) (hk : k = 1 ∨ k = 2 ∨ k = 3) : sAtoR C n i = (k, j) := bnd_k (bnd_k h hk) hk
theorem atoR_2 {C : Nat → Int} {n i a : Nat} (h : sAdd C n i = (0, a)) (h2 : ¬ (C a = 20060 ∨ C a = 20061 ∨ C a = 20062)) : sAtoR C n i = (1, a) := bnd_k ((bnd_y h).trans (if_neg h2)) (.inl rfl)
theorem atoR_3 {C : Nat → Int} {n i a : Nat} (h : sAdd C n i = (0, a)) (h2 : C a = 20060 ∨ C a = 20061 ∨ C a = 20062) : sAtoR C n i = sAdd C n (a + 1) := by
  unfold sAtoR
  rw [h, bnd_0, show sCmp C a = (0, a + 1) from if_pos h2, bnd_0]
noncomputable def Q_one (S : Nat → qW → Prop) (C P : Nat → Int) (q : Nat) : Prop := ∀ (d : Nat) (w : qW) (i0 : Nat), 12 + 3 * q ≤ d → PI w → w 95 24 ≤ w 95 28 → w 95 33 + (q : Int) = 8 → S i0 w → qG none d 242 0 [(2, 95), (9, 0)] [] w 142 (fun (r : qV) (w1 : qW) (n1 : Nat) => n1 = 142 ∧ ((∃ k j, sOne C 601 q i0 = (k, j) ∧ (k = 1 ∨ k = 2 ∨ k = 3) ∧ r = (0, 0) ∧ AW PM w w1 ∧ w1 95 30 = k ∧ w1 95 31 = P j) ∨ (∃ j, sOne C 601 q i0 = (0, j) ∧ r = (0, 1) ∧ PS 0 1 0 0 w w1 ∧ S j w1)))
noncomputable def Q_every (S : Nat → qW → Prop) (C P : Nat → Int) (q : Nat) : Prop := ∀ (d : Nat) (w : qW) (i0 : Nat), 13 + 3 * q ≤ d → PI w → w 95 24 ≤ w 95 28 → w 95 33 + (q : Int) = 8 → S i0 w → qG none d 241 0 [(2, 95)] [] w 142 (fun (r : qV) (w1 : qW) (n1 : Nat) => n1 = 142 ∧ ((∃ k j, sEv C 601 (sOne C 601 q) i0 = (k, j) ∧ (k = 1 ∨ k = 2 ∨ k = 3) ∧ r = (0, 0) ∧ AW PM w w1 ∧ w1 95 30 = k ∧ w1 95 31 = P j) ∨ (∃ j, sEv C 601 (sOne C 601 q) i0 = (0, j) ∧ r = (0, 1) ∧ PS 0 1 0 0 w w1 ∧ S j w1)))
noncomputable def Q_any (S : Nat → qW → Prop) (C P : Nat → Int) (q : Nat) : Prop := ∀ (d : Nat) (w : qW) (i0 : Nat), 14 + 3 * q ≤ d → PI w → w 95 24 ≤ w 95 28 → w 95 33 + (q : Int) = 8 → S i0 w → qG none d 240 0 [(2, 95)] [] w 142 (fun (r : qV) (w1 : qW) (n1 : Nat) => n1 = 142 ∧ ((∃ k j, sAn C 601 (sOne C 601 q) i0 = (k, j) ∧ (k = 1 ∨ k = 2 ∨ k = 3) ∧ r = (0, 0) ∧ AW PM w w1 ∧ w1 95 30 = k ∧ w1 95 31 = P j) ∨ (∃ j, sAn C 601 (sOne C 601 q) i0 = (0, j) ∧ r = (0, 1) ∧ PS 0 1 0 0 w w1 ∧ S j w1)))
theorem K_oneX (q : Nat) {d : Nat} (hd : 12 + 3 * q ≤ d) {S : Nat → qW → Prop} {C P : Nat → Int} (hO : SO S C P TMP) (w : qW) (hP : PI w) (hD : w 95 24 ≤ w 95 28) (hq0 : w 95 33 + (q : Int) = 8) (i0 : Nat) (hJ0 : S i0 w) (hrec : ∀ q9, q9 < q → Q_one S C P q9 ∧ Q_any S C P q9) : qG none d 242 0 [(2, 95), (9, 0)] [] w 142 (fun (r : qV) (w1 : qW) (n1 : Nat) => n1 = 142 ∧ ((∃ k j, sOne C 601 q i0 = (k, j) ∧ (k = 1 ∨ k = 2 ∨ k = 3) ∧ r = (0, 0) ∧ AW PM w w1 ∧ w1 95 30 = k ∧ w1 95 31 = P j) ∨ (∃ j, sOne C 601 q i0 = (0, j) ∧ r = (0, 1) ∧ PS 0 1 0 0 w w1 ∧ S j w1))) := by
  generalize hQ9 : (fun (r : qV) (w1 : qW) (n1 : Nat) => n1 = 142 ∧ ((∃ k j, sOne C 601 q i0 = (k, j) ∧ (k = 1 ∨ k = 2 ∨ k = 3) ∧ r = (0, 0) ∧ AW PM w w1 ∧ w1 95 30 = k ∧ w1 95 31 = P j) ∨ (∃ j, sOne C 601 q i0 = (0, j) ∧ r = (0, 1) ∧ PS 0 1 0 0 w w1 ∧ S j w1))) = Q9
  have hb0 := hP.b
  have ht0 := (hO.2.1 _ _ hJ0).1
  obtain ⟨d, rfl⟩ : ∃ d9, d = d9 + 1 := ⟨d - 1, by omega⟩
  refine qG.blk 3 (pc' := 6) (ls' := [(2, 95), (9, 0)]) (st' := [(0, 6), (0, w 95 27)]) (w' := w) (n' := 142) rfl ?_
  unfold TMP at ht0
  refine qG.br (P := w 95 27 = 6) (pc1 := 9) (pc2 := 44) (st1 := []) rfl (fun h1 => ?_) (fun h1 => ?_)
  · skip
    refine qG.blk 1 (pc' := 10) (ls' := [(2, 95), (9, 0)]) (st' := [(2, 95)]) (w' := w) (n' := 142) rfl ?_
    refine qG.call (t := 236) (na := 1) (sk := 1) (md := 1) (ls1 := [(2, 95)]) (r1 := []) rfl rfl rfl rfl rfl (K_opensX (by omega) hO w (by omega) hP i0 hJ0) ?_
    rintro _ w2 _ ⟨rfl, ⟨k10, j10, hs10, hk10, rfl, hA2, hf10, hg10⟩ | ⟨j10, hs10, rfl, hS2, hJ2⟩⟩
    · skip
      show qG none (d + 1) 242 13 [(2, 95), (9, 0)] [(0, 0)] w2 142 Q9
      have hBAD := (PS.rf hP).2.1.tr hA2 (by decide +kernel)
      refine qG.br (P := (0 : Int) = 0) (pc1 := 23) (pc2 := 16) (st1 := []) rfl (fun h3 => ?_) (fun h3 => ?_)
      · skip
        refine qG.blk 1 (pc' := 24) (ls' := [(2, 95), (9, 0)]) (st' := [(0, 0)]) (w' := w2) (n' := 142) rfl ?_
        refine qG.ret rfl (by first | rfl | exact decide_eq_true (by omega)) ?_
        subst hQ9
        first | (obtain ⟨a1, a2, a3⟩ := op_f hs10 hk10; exact ⟨rfl, .inl ⟨k10, j10, (by rw [a2, a3]; exact one_3 (by omega) (by omega)), hk10, rfl, hBAD, hf10, hg10⟩⟩) | (obtain ⟨a1, a3⟩ := op_y hs10; exact ⟨rfl, .inl ⟨k17, j17, (one_n (by omega) (by omega) a3).trans hs17, hk17, rfl, hBAD, hf17, hg17⟩⟩)
      · exact absurd h3 (by decide)
    · skip
      show qG none (d + 1) 242 13 [(2, 95), (9, 0)] [(0, 1)] w2 142 Q9
      have hP2 := PS.tr (PS.rf hP) hS2 (by omega)
      have hI2 : PI w2 := hS2.2.2.1
      have hb2 := hI2.b
      have hq2 := hP2.fs
      have hd2 := hP2.2.2.2.2.2.1
      have hm2 := hS2.2.2.2.1
      refine qG.br (P := (1 : Int) = 0) (pc1 := 23) (pc2 := 16) (st1 := []) rfl (fun h4 => ?_) (fun h4 => ?_)
      · exact absurd h4 (by decide)
      · skip
        refine qG.blk 1 (pc' := 17) (ls' := [(2, 95), (9, 0)]) (st' := [(2, 95)]) (w' := w2) (n' := 142) rfl ?_
        refine qG.call (t := 242) (na := 1) (sk := 1) (md := 1) (ls1 := [(2, 95), (9, 0)]) (r1 := []) rfl rfl rfl rfl rfl ((hrec (q - 1) (by omega)).1 d w2 j10 (by omega) hI2 (by omega) (by omega) hJ2) ?_
        rintro _ w5 _ ⟨rfl, ⟨k17, j17, hs17, hk17, rfl, hA5, hf17, hg17⟩ | ⟨j17, hs17, rfl, hS5, hJ5⟩⟩
        · skip
          show qG none (d + 1) 242 20 [(2, 95), (9, 0)] [(0, 0)] w5 142 Q9
          have hBAD := hP2.2.1.tr hA5 (by decide +kernel)
          refine qG.br (P := (0 : Int) = 0) (pc1 := 23) (pc2 := 25) (st1 := []) rfl (fun h6 => ?_) (fun h6 => ?_)
          · skip
            refine qG.blk 1 (pc' := 24) (ls' := [(2, 95), (9, 0)]) (st' := [(0, 0)]) (w' := w5) (n' := 142) rfl ?_
            refine qG.ret rfl (by first | rfl | exact decide_eq_true (by omega)) ?_
            subst hQ9
            first | (obtain ⟨a1, a2, a3⟩ := op_f hs10 hk10; exact ⟨rfl, .inl ⟨k10, j10, (by rw [a2, a3]; exact one_3 (by omega) (by omega)), hk10, rfl, hBAD, hf10, hg10⟩⟩) | (obtain ⟨a1, a3⟩ := op_y hs10; exact ⟨rfl, .inl ⟨k17, j17, (one_n (by omega) (by omega) a3).trans hs17, hk17, rfl, hBAD, hf17, hg17⟩⟩)
          · exact absurd h6 (by decide)
        · skip
          show qG none (d + 1) 242 20 [(2, 95), (9, 0)] [(0, 1)] w5 142 Q9
          have hP5 := PS.tr hP2 hS5 (by omega)
          have hI5 : PI w5 := hS5.2.2.1
          have hb5 := hI5.b
          have hq5 := hP5.fs
          have hd5 := hP5.2.2.2.2.2.1
          have hm5 := hS5.2.2.2.1
          refine qG.br (P := (1 : Int) = 0) (pc1 := 23) (pc2 := 25) (st1 := []) rfl (fun h7 => ?_) (fun h7 => ?_)
          · exact absurd h7 (by decide)
          · skip
            refine qG.blk 5 (pc' := 32) (ls' := [(2, 95), (9, 0)]) (st' := [(0, wrp ((w5 95 33) - 1)), (2, 95)]) (w' := w5) (n' := 142) rfl ?_
            rw [show wrp ((w5 95 33) - 1) = (w5 95 33) - 1 from wrp_id (by omega) (by omega)]
            refine qG.blk 4 (pc' := 39) (ls' := [(2, 95), (9, 0)]) (st' := [(0, 0), (0, 15), (2, 95)]) (w' := (qup w5 95 33 ((w5 95 33) - 1))) (n' := 142) rfl ?_
            refine qG.call (t := 235) (na := 3) (sk := 1) (md := 1) (ls1 := [(2, 95), (0, 15), (0, 0)]) (r1 := []) rfl rfl rfl rfl rfl (K_lay (by omega) 15 0 (qup w5 95 33 ((w5 95 33) - 1)) (PS.dep (d' := 0) hP5 (v := (w5 95 33) - 1) (by omega) (by omega) (by omega)).2.2.1.1 (by first | omega | (rw [qup_j (by decide)]; omega))) ?_
            rintro _ _ _ ⟨rfl, rfl, rfl⟩
            have hl8 := PS.lay (n := 1) (m := 1) (PS.dep (d' := 0) hP5 (v := (w5 95 33) - 1) (by omega) (by omega) (by omega)).2.2.1 (by first | omega | (rw [qup_j (by decide)]; omega)) (k := 15) (v := 0) ⟨by show (-2147483648 : Int) ≤ _; omega, by show _ ≤ (2147483647 : Int); omega⟩ ⟨by show (-2147483648 : Int) ≤ _; omega, by show _ ≤ (2147483647 : Int); omega⟩ (fun h => by unfold stepH; rw [if_neg (by decide), if_neg (by decide), if_pos rfl, if_pos (by omega)])
            have hP8 := PS.tr (PS.dep (d' := 0) hP5 (v := (w5 95 33) - 1) (by omega) (by omega) (by omega)) hl8 (by omega)
            have hI8 : PI (layW (qup w5 95 33 ((w5 95 33) - 1)) 15 0) := hl8.2.2.1
            have hb8 := hI8.b
            have hq8 := hP8.fs
            have hd8 := hP8.2.2.2.2.2.1
            have hm8 := hl8.2.2.2.1
            show qG none (d + 1) 242 42 [(2, 95), (9, 0)] [] (layW (qup w5 95 33 ((w5 95 33) - 1)) 15 0) 142 Q9
            refine qG.blk 1 (pc' := 43) (ls' := [(2, 95), (9, 0)]) (st' := [(0, 1)]) (w' := (layW (qup w5 95 33 ((w5 95 33) - 1)) 15 0)) (n' := 142) rfl ?_
            refine qG.ret rfl (by first | rfl | exact decide_eq_true (by omega)) ?_
            subst hQ9
            obtain ⟨a1, a3⟩ := op_y hs10
            exact ⟨rfl, .inr ⟨j17, (one_n (by omega) (by omega) a3).trans hs17, rfl, hP8.cast (by omega) (by omega) (by omega) (by omega), (hO.lay (hO.fld hJ5 (.inl rfl)))⟩⟩
  · skip
    refine qG.blk 3 (pc' := 51) (ls' := [(2, 95), (9, 0)]) (st' := [(0, 140), (0, w 95 27)]) (w' := w) (n' := 142) rfl ?_
    refine qG.br (P := w 95 27 = 140) (pc1 := 54) (pc2 := 92) (st1 := []) rfl (fun h9 => ?_) (fun h9 => ?_)
    · skip
      refine qG.blk 1 (pc' := 55) (ls' := [(2, 95), (9, 0)]) (st' := [(2, 95)]) (w' := w) (n' := 142) rfl ?_
      refine qG.call (t := 236) (na := 1) (sk := 1) (md := 1) (ls1 := [(2, 95)]) (r1 := []) rfl rfl rfl rfl rfl (K_opensX (by omega) hO w (by omega) hP i0 hJ0) ?_
      rintro _ w10 _ ⟨rfl, ⟨k55, j55, hs55, hk55, rfl, hA10, hf55, hg55⟩ | ⟨j55, hs55, rfl, hS10, hJ10⟩⟩
      · skip
        show qG none (d + 1) 242 58 [(2, 95), (9, 0)] [(0, 0)] w10 142 Q9
        have hBAD := (PS.rf hP).2.1.tr hA10 (by decide +kernel)
        refine qG.br (P := (0 : Int) = 0) (pc1 := 78) (pc2 := 61) (st1 := []) rfl (fun h11 => ?_) (fun h11 => ?_)
        · skip
          refine qG.blk 1 (pc' := 79) (ls' := [(2, 95), (9, 0)]) (st' := [(0, 0)]) (w' := w10) (n' := 142) rfl ?_
          refine qG.ret rfl (by first | rfl | exact decide_eq_true (by omega)) ?_
          subst hQ9
          first | (obtain ⟨a1, a2, a3⟩ := op_f hs55 hk55; exact ⟨rfl, .inl ⟨k55, j55, (by rw [a2, a3]; exact one_3 (by omega) (by omega)), hk55, rfl, hBAD, hf55, hg55⟩⟩) | (obtain ⟨a1, a3⟩ := op_y hs55; exact ⟨rfl, .inl ⟨k62, j62, (one_p (by omega) (by omega) a3).trans (bnd_k hs62 hk62), hk62, rfl, hBAD, hf62, hg62⟩⟩) | (obtain ⟨a1, a3⟩ := op_y hs55; exact ⟨rfl, .inl ⟨k72, j72, (one_p (by omega) (by omega) a3).trans ((bnd_y hs62).trans hs72), hk72, rfl, hBAD, hf72, hg72⟩⟩)
        · exact absurd h11 (by decide)
      · skip
        show qG none (d + 1) 242 58 [(2, 95), (9, 0)] [(0, 1)] w10 142 Q9
        have hP10 := PS.tr (PS.rf hP) hS10 (by omega)
        have hI10 : PI w10 := hS10.2.2.1
        have hb10 := hI10.b
        have hq10 := hP10.fs
        have hd10 := hP10.2.2.2.2.2.1
        have hm10 := hS10.2.2.2.1
        refine qG.br (P := (1 : Int) = 0) (pc1 := 78) (pc2 := 61) (st1 := []) rfl (fun h12 => ?_) (fun h12 => ?_)
        · exact absurd h12 (by decide)
        · skip
          refine qG.blk 1 (pc' := 62) (ls' := [(2, 95), (9, 0)]) (st' := [(2, 95)]) (w' := w10) (n' := 142) rfl ?_
          refine qG.call (t := 240) (na := 1) (sk := 1) (md := 1) (ls1 := [(2, 95)]) (r1 := []) rfl rfl rfl rfl rfl ((hrec (q - 1) (by omega)).2 d w10 j55 (by omega) hI10 (by omega) (by omega) hJ10) ?_
          rintro _ w13 _ ⟨rfl, ⟨k62, j62, hs62, hk62, rfl, hA13, hf62, hg62⟩ | ⟨j62, hs62, rfl, hS13, hJ13⟩⟩
          · skip
            show qG none (d + 1) 242 65 [(2, 95), (9, 0)] [(0, 0)] w13 142 Q9
            have hBAD := hP10.2.1.tr hA13 (by decide +kernel)
            refine qG.br (P := (0 : Int) = 0) (pc1 := 78) (pc2 := 68) (st1 := []) rfl (fun h14 => ?_) (fun h14 => ?_)
            · skip
              refine qG.blk 1 (pc' := 79) (ls' := [(2, 95), (9, 0)]) (st' := [(0, 0)]) (w' := w13) (n' := 142) rfl ?_
              refine qG.ret rfl (by first | rfl | exact decide_eq_true (by omega)) ?_
              subst hQ9
              first | (obtain ⟨a1, a2, a3⟩ := op_f hs55 hk55; exact ⟨rfl, .inl ⟨k55, j55, (by rw [a2, a3]; exact one_3 (by omega) (by omega)), hk55, rfl, hBAD, hf55, hg55⟩⟩) | (obtain ⟨a1, a3⟩ := op_y hs55; exact ⟨rfl, .inl ⟨k62, j62, (one_p (by omega) (by omega) a3).trans (bnd_k hs62 hk62), hk62, rfl, hBAD, hf62, hg62⟩⟩) | (obtain ⟨a1, a3⟩ := op_y hs55; exact ⟨rfl, .inl ⟨k72, j72, (one_p (by omega) (by omega) a3).trans ((bnd_y hs62).trans hs72), hk72, rfl, hBAD, hf72, hg72⟩⟩)
            · exact absurd h14 (by decide)
          · skip
            show qG none (d + 1) 242 65 [(2, 95), (9, 0)] [(0, 1)] w13 142 Q9
            have hP13 := PS.tr hP10 hS13 (by omega)
            have hI13 : PI w13 := hS13.2.2.1
            have hb13 := hI13.b
            have hq13 := hP13.fs
            have hd13 := hP13.2.2.2.2.2.1
            have hm13 := hS13.2.2.2.1
            refine qG.br (P := (1 : Int) = 0) (pc1 := 78) (pc2 := 68) (st1 := []) rfl (fun h15 => ?_) (fun h15 => ?_)
            · exact absurd h15 (by decide)
            · skip
              refine qG.blk 2 (pc' := 72) (ls' := [(2, 95), (9, 0)]) (st' := [(0, 141), (2, 95)]) (w' := w13) (n' := 142) rfl ?_
              refine qG.call (t := 233) (na := 2) (sk := 1) (md := 1) (ls1 := [(2, 95), (0, 141)]) (r1 := []) rfl rfl rfl rfl rfl (K_needX (by omega) hO 141 20041 (by decide) (tmp_v _ _ (by decide)) w13 hI13 j62 hJ13) ?_
              rintro _ w16 _ ⟨rfl, ⟨k72, j72, hs72, hk72, rfl, hA16, hf72, hg72⟩ | ⟨j72, hs72, rfl, hS16, hJ16⟩⟩
              · skip
                show qG none (d + 1) 242 75 [(2, 95), (9, 0)] [(0, 0)] w16 142 Q9
                have hBAD := hP13.2.1.tr hA16 (by decide +kernel)
                refine qG.br (P := (0 : Int) = 0) (pc1 := 78) (pc2 := 80) (st1 := []) rfl (fun h17 => ?_) (fun h17 => ?_)
                · skip
                  refine qG.blk 1 (pc' := 79) (ls' := [(2, 95), (9, 0)]) (st' := [(0, 0)]) (w' := w16) (n' := 142) rfl ?_
                  refine qG.ret rfl (by first | rfl | exact decide_eq_true (by omega)) ?_
                  subst hQ9
                  first | (obtain ⟨a1, a2, a3⟩ := op_f hs55 hk55; exact ⟨rfl, .inl ⟨k55, j55, (by rw [a2, a3]; exact one_3 (by omega) (by omega)), hk55, rfl, hBAD, hf55, hg55⟩⟩) | (obtain ⟨a1, a3⟩ := op_y hs55; exact ⟨rfl, .inl ⟨k62, j62, (one_p (by omega) (by omega) a3).trans (bnd_k hs62 hk62), hk62, rfl, hBAD, hf62, hg62⟩⟩) | (obtain ⟨a1, a3⟩ := op_y hs55; exact ⟨rfl, .inl ⟨k72, j72, (one_p (by omega) (by omega) a3).trans ((bnd_y hs62).trans hs72), hk72, rfl, hBAD, hf72, hg72⟩⟩)
                · exact absurd h17 (by decide)
              · skip
                show qG none (d + 1) 242 75 [(2, 95), (9, 0)] [(0, 1)] w16 142 Q9
                have hP16 := PS.tr hP13 hS16 (by omega)
                have hI16 : PI w16 := hS16.2.2.1
                have hb16 := hI16.b
                have hq16 := hP16.fs
                have hd16 := hP16.2.2.2.2.2.1
                have hm16 := hS16.2.2.2.1
                refine qG.br (P := (1 : Int) = 0) (pc1 := 78) (pc2 := 80) (st1 := []) rfl (fun h18 => ?_) (fun h18 => ?_)
                · exact absurd h18 (by decide)
                · skip
                  refine qG.blk 5 (pc' := 87) (ls' := [(2, 95), (9, 0)]) (st' := [(0, wrp ((w16 95 33) - 1)), (2, 95)]) (w' := w16) (n' := 142) rfl ?_
                  rw [show wrp ((w16 95 33) - 1) = (w16 95 33) - 1 from wrp_id (by omega) (by omega)]
                  refine qG.blk 2 (pc' := 91) (ls' := [(2, 95), (9, 0)]) (st' := [(0, 1)]) (w' := (qup w16 95 33 ((w16 95 33) - 1))) (n' := 142) rfl ?_
                  refine qG.ret rfl (by first | rfl | exact decide_eq_true (by omega)) ?_
                  subst hQ9
                  obtain ⟨a1, a3⟩ := op_y hs55
                  exact ⟨rfl, .inr ⟨j72, (one_p (by omega) (by omega) a3).trans ((bnd_y hs62).trans hs72), rfl, (PS.dep (d' := 0) hP16 (v := (w16 95 33) - 1) (by omega) (by omega) (by omega)).cast (by omega) (by omega) (by omega) (by omega), (hO.fld hJ16 (.inl rfl))⟩⟩
    · skip
      refine qG.blk 1 (pc' := 93) (ls' := [(2, 95), (9, 0)]) (st' := [(2, 95)]) (w' := w) (n' := 142) rfl ?_
      refine qG.call (t := 237) (na := 1) (sk := 1) (md := 1) (ls1 := [(2, 95), (9, 0)]) (r1 := []) rfl rfl rfl rfl rfl (K_sumUpX (by omega) hO w hP (by omega) i0 hJ0) ?_
      rintro _ w19 _ ⟨rfl, ⟨k93, j93, hs93, hk93, rfl, hA19, hf93, hg93⟩ | ⟨j93, hs93, rfl, hS19, hJ19⟩⟩
      · skip
        show qG none (d + 1) 242 96 [(2, 95), (9, 0)] [(0, 0)] w19 142 Q9
        have hBAD := (PS.rf hP).2.1.tr hA19 (by decide +kernel)
        refine qG.br (P := (0 : Int) = 0) (pc1 := 99) (pc2 := 101) (st1 := []) rfl (fun h20 => ?_) (fun h20 => ?_)
        · skip
          refine qG.blk 1 (pc' := 100) (ls' := [(2, 95), (9, 0)]) (st' := [(0, 0)]) (w' := w19) (n' := 142) rfl ?_
          refine qG.ret rfl (by first | rfl | exact decide_eq_true (by omega)) ?_
          subst hQ9
          first | exact ⟨rfl, .inl ⟨k93, j93, (one_a (by omega) (by omega)).trans (atoR_1 hs93 hk93), hk93, rfl, hBAD, hf93, hg93⟩⟩
        · exact absurd h20 (by decide)
      · skip
        show qG none (d + 1) 242 96 [(2, 95), (9, 0)] [(0, 1)] w19 142 Q9
        have hP19 := PS.tr (PS.rf hP) hS19 (by omega)
        have hI19 : PI w19 := hS19.2.2.1
        have hb19 := hI19.b
        have hq19 := hP19.fs
        have hd19 := hP19.2.2.2.2.2.1
        have hm19 := hS19.2.2.2.1
        have htc := (hO.2.1 _ _ hJ19).1
        unfold TMP at htc
        refine qG.br (P := (1 : Int) = 0) (pc1 := 99) (pc2 := 101) (st1 := []) rfl (fun h21 => ?_) (fun h21 => ?_)
        · exact absurd h21 (by decide)
        · skip
          refine qG.blk 3 (pc' := 108) (ls' := [(2, 95), (9, 0)]) (st' := [(0, 160), (0, w19 95 27)]) (w' := w19) (n' := 142) rfl ?_
          refine qG.br (P := w19 95 27 = 160) (pc1 := 111) (pc2 := 116) (st1 := []) rfl (fun h22 => ?_) (fun h22 => ?_)
          · skip
            refine qG.blk 5 (pc' := 150) (ls' := [(2, 95), (0, 12)]) (st' := [(0, (-1)), (0, 12)]) (w' := w19) (n' := 142) rfl ?_
            refine qG.br (P := (12 : Int) = (-1)) (pc1 := 153) (pc2 := 159) (st1 := []) rfl (fun h23 => ?_) (fun h23 => ?_)
            · exact absurd h23 (by decide)
            · skip
              refine qG.blk 1 (pc' := 160) (ls' := [(2, 95), (0, 12)]) (st' := [(2, 95)]) (w' := w19) (n' := 142) rfl ?_
              refine qG.call (t := 231) (na := 1) (sk := 1) (md := 1) (ls1 := [(2, 95), (9, 0)]) (r1 := []) rfl rfl rfl rfl rfl (K_next0 (by omega) w19 hI19.1) ?_
              rintro _ w24 _ ⟨rfl, rfl, hX24⟩
              have hn24 := PS.next hI19 (by omega) hX24
              have hP24 := PS.tr hP19 hn24.1 (by omega)
              have hI24 : PI w24 := hn24.1.2.2.1
              have hg24 := hn24.2
              have hb24 := hI24.b
              have hq24 := hP24.fs
              have hd24 := hP24.2.2.2.2.2.1
              have hJ24 := hO.1 _ _ _ hJ19 hI19.1 hX24
              show qG none (d + 1) 242 163 [(2, 95), (0, 12)] [] w24 142 Q9
              refine qG.blk 1 (pc' := 164) (ls' := [(2, 95), (0, 12)]) (st' := [(2, 95)]) (w' := w24) (n' := 142) rfl ?_
              refine qG.call (t := 237) (na := 1) (sk := 1) (md := 1) (ls1 := [(2, 95), (9, 0)]) (r1 := []) rfl rfl rfl rfl rfl (K_sumUpX (by omega) hO w24 hI24 (by omega) (j93 + 1) hJ24) ?_
              rintro _ w25 _ ⟨rfl, ⟨k164, j164, hs164, hk164, rfl, hA25, hf164, hg164⟩ | ⟨j164, hs164, rfl, hS25, hJ25⟩⟩
              · skip
                show qG none (d + 1) 242 167 [(2, 95), (0, 12)] [(0, 0)] w25 142 Q9
                have hBAD := hP24.2.1.tr hA25 (by decide +kernel)
                refine qG.br (P := (0 : Int) = 0) (pc1 := 170) (pc2 := 172) (st1 := []) rfl (fun h26 => ?_) (fun h26 => ?_)
                · skip
                  refine qG.blk 1 (pc' := 171) (ls' := [(2, 95), (0, 12)]) (st' := [(0, 0)]) (w' := w25) (n' := 142) rfl ?_
                  refine qG.ret rfl (by first | rfl | exact decide_eq_true (by omega)) ?_
                  subst hQ9
                  first | exact ⟨rfl, .inl ⟨k164, j164, (one_a (by omega) (by omega)).trans ((atoR_3 hs93 (by omega)).trans hs164), hk164, rfl, hBAD, hf164, hg164⟩⟩
                · exact absurd h26 (by decide)
              · skip
                show qG none (d + 1) 242 167 [(2, 95), (0, 12)] [(0, 1)] w25 142 Q9
                have hP25 := PS.tr hP24 hS25 (by omega)
                have hI25 : PI w25 := hS25.2.2.1
                have hb25 := hI25.b
                have hq25 := hP25.fs
                have hd25 := hP25.2.2.2.2.2.1
                have hm25 := hS25.2.2.2.1
                refine qG.br (P := (1 : Int) = 0) (pc1 := 170) (pc2 := 172) (st1 := []) rfl (fun h27 => ?_) (fun h27 => ?_)
                · exact absurd h27 (by decide)
                · skip
                  refine qG.blk 3 (pc' := 175) (ls' := [(2, 95), (0, 12)]) (st' := [(0, 0), (0, 12), (2, 95)]) (w' := w25) (n' := 142) rfl ?_
                  refine qG.call (t := 235) (na := 3) (sk := 1) (md := 1) (ls1 := [(2, 95), (0, 12), (0, 0)]) (r1 := []) rfl rfl rfl rfl rfl (K_lay (by omega) 12 0 w25 hI25.1 (by first | omega | (rw [qup_j (by decide)]; omega))) ?_
                  rintro _ _ _ ⟨rfl, rfl, rfl⟩
                  have hl28 := PS.lay (n := 2) (m := 1) hI25 (by first | omega | (rw [qup_j (by decide)]; omega)) (k := 12) (v := 0) ⟨by show (-2147483648 : Int) ≤ _; omega, by show _ ≤ (2147483647 : Int); omega⟩ ⟨by show (-2147483648 : Int) ≤ _; omega, by show _ ≤ (2147483647 : Int); omega⟩ (fun h => by unfold stepH; rw [if_neg (by omega), if_neg (by omega), if_neg (by omega), if_pos (by omega)]; rfl)
                  have hP28 := PS.tr hP25 hl28 (by omega)
                  have hI28 : PI (layW w25 12 0) := hl28.2.2.1
                  have hb28 := hI28.b
                  have hq28 := hP28.fs
                  have hd28 := hP28.2.2.2.2.2.1
                  have hm28 := hl28.2.2.2.1
                  show qG none (d + 1) 242 178 [(2, 95), (0, 12)] [] (layW w25 12 0) 142 Q9
                  refine qG.blk 1 (pc' := 179) (ls' := [(2, 95), (0, 12)]) (st' := [(0, 1)]) (w' := (layW w25 12 0)) (n' := 142) rfl ?_
                  refine qG.ret rfl (by first | rfl | exact decide_eq_true (by omega)) ?_
                  subst hQ9
                  exact ⟨rfl, .inr ⟨j164, (one_a (by omega) (by omega)).trans ((atoR_3 hs93 (by omega)).trans hs164), rfl, hP28.cast (by omega) (by omega) (by omega) (by omega), (hO.lay hJ25)⟩⟩
          · skip
            refine qG.blk 3 (pc' := 123) (ls' := [(2, 95), (9, 0)]) (st' := [(0, 161), (0, w19 95 27)]) (w' := w19) (n' := 142) rfl ?_
            refine qG.br (P := w19 95 27 = 161) (pc1 := 126) (pc2 := 131) (st1 := []) rfl (fun h29 => ?_) (fun h29 => ?_)
            · skip
              refine qG.blk 5 (pc' := 150) (ls' := [(2, 95), (0, 13)]) (st' := [(0, (-1)), (0, 13)]) (w' := w19) (n' := 142) rfl ?_
              refine qG.br (P := (13 : Int) = (-1)) (pc1 := 153) (pc2 := 159) (st1 := []) rfl (fun h30 => ?_) (fun h30 => ?_)
              · exact absurd h30 (by decide)
              · skip
                refine qG.blk 1 (pc' := 160) (ls' := [(2, 95), (0, 13)]) (st' := [(2, 95)]) (w' := w19) (n' := 142) rfl ?_
                refine qG.call (t := 231) (na := 1) (sk := 1) (md := 1) (ls1 := [(2, 95), (9, 0)]) (r1 := []) rfl rfl rfl rfl rfl (K_next0 (by omega) w19 hI19.1) ?_
                rintro _ w31 _ ⟨rfl, rfl, hX31⟩
                have hn31 := PS.next hI19 (by omega) hX31
                have hP31 := PS.tr hP19 hn31.1 (by omega)
                have hI31 : PI w31 := hn31.1.2.2.1
                have hg31 := hn31.2
                have hb31 := hI31.b
                have hq31 := hP31.fs
                have hd31 := hP31.2.2.2.2.2.1
                have hJ31 := hO.1 _ _ _ hJ19 hI19.1 hX31
                show qG none (d + 1) 242 163 [(2, 95), (0, 13)] [] w31 142 Q9
                refine qG.blk 1 (pc' := 164) (ls' := [(2, 95), (0, 13)]) (st' := [(2, 95)]) (w' := w31) (n' := 142) rfl ?_
                refine qG.call (t := 237) (na := 1) (sk := 1) (md := 1) (ls1 := [(2, 95), (9, 0)]) (r1 := []) rfl rfl rfl rfl rfl (K_sumUpX (by omega) hO w31 hI31 (by omega) (j93 + 1) hJ31) ?_
                rintro _ w32 _ ⟨rfl, ⟨k164, j164, hs164, hk164, rfl, hA32, hf164, hg164⟩ | ⟨j164, hs164, rfl, hS32, hJ32⟩⟩
                · skip
                  show qG none (d + 1) 242 167 [(2, 95), (0, 13)] [(0, 0)] w32 142 Q9
                  have hBAD := hP31.2.1.tr hA32 (by decide +kernel)
                  refine qG.br (P := (0 : Int) = 0) (pc1 := 170) (pc2 := 172) (st1 := []) rfl (fun h33 => ?_) (fun h33 => ?_)
                  · skip
                    refine qG.blk 1 (pc' := 171) (ls' := [(2, 95), (0, 13)]) (st' := [(0, 0)]) (w' := w32) (n' := 142) rfl ?_
                    refine qG.ret rfl (by first | rfl | exact decide_eq_true (by omega)) ?_
                    subst hQ9
                    first | exact ⟨rfl, .inl ⟨k164, j164, (one_a (by omega) (by omega)).trans ((atoR_3 hs93 (by omega)).trans hs164), hk164, rfl, hBAD, hf164, hg164⟩⟩
                  · exact absurd h33 (by decide)
                · skip
                  show qG none (d + 1) 242 167 [(2, 95), (0, 13)] [(0, 1)] w32 142 Q9
                  have hP32 := PS.tr hP31 hS32 (by omega)
                  have hI32 : PI w32 := hS32.2.2.1
                  have hb32 := hI32.b
                  have hq32 := hP32.fs
                  have hd32 := hP32.2.2.2.2.2.1
                  have hm32 := hS32.2.2.2.1
                  refine qG.br (P := (1 : Int) = 0) (pc1 := 170) (pc2 := 172) (st1 := []) rfl (fun h34 => ?_) (fun h34 => ?_)
                  · exact absurd h34 (by decide)
                  · skip
                    refine qG.blk 3 (pc' := 175) (ls' := [(2, 95), (0, 13)]) (st' := [(0, 0), (0, 13), (2, 95)]) (w' := w32) (n' := 142) rfl ?_
                    refine qG.call (t := 235) (na := 3) (sk := 1) (md := 1) (ls1 := [(2, 95), (0, 13), (0, 0)]) (r1 := []) rfl rfl rfl rfl rfl (K_lay (by omega) 13 0 w32 hI32.1 (by first | omega | (rw [qup_j (by decide)]; omega))) ?_
                    rintro _ _ _ ⟨rfl, rfl, rfl⟩
                    have hl35 := PS.lay (n := 2) (m := 1) hI32 (by first | omega | (rw [qup_j (by decide)]; omega)) (k := 13) (v := 0) ⟨by show (-2147483648 : Int) ≤ _; omega, by show _ ≤ (2147483647 : Int); omega⟩ ⟨by show (-2147483648 : Int) ≤ _; omega, by show _ ≤ (2147483647 : Int); omega⟩ (fun h => by unfold stepH; rw [if_neg (by omega), if_neg (by omega), if_neg (by omega), if_pos (by omega)]; rfl)
                    have hP35 := PS.tr hP32 hl35 (by omega)
                    have hI35 : PI (layW w32 13 0) := hl35.2.2.1
                    have hb35 := hI35.b
                    have hq35 := hP35.fs
                    have hd35 := hP35.2.2.2.2.2.1
                    have hm35 := hl35.2.2.2.1
                    show qG none (d + 1) 242 178 [(2, 95), (0, 13)] [] (layW w32 13 0) 142 Q9
                    refine qG.blk 1 (pc' := 179) (ls' := [(2, 95), (0, 13)]) (st' := [(0, 1)]) (w' := (layW w32 13 0)) (n' := 142) rfl ?_
                    refine qG.ret rfl (by first | rfl | exact decide_eq_true (by omega)) ?_
                    subst hQ9
                    exact ⟨rfl, .inr ⟨j164, (one_a (by omega) (by omega)).trans ((atoR_3 hs93 (by omega)).trans hs164), rfl, hP35.cast (by omega) (by omega) (by omega) (by omega), (hO.lay hJ32)⟩⟩
            · skip
              refine qG.blk 3 (pc' := 138) (ls' := [(2, 95), (9, 0)]) (st' := [(0, 162), (0, w19 95 27)]) (w' := w19) (n' := 142) rfl ?_
              refine qG.br (P := w19 95 27 = 162) (pc1 := 141) (pc2 := 146) (st1 := []) rfl (fun h36 => ?_) (fun h36 => ?_)
              · skip
                refine qG.blk 5 (pc' := 150) (ls' := [(2, 95), (0, 14)]) (st' := [(0, (-1)), (0, 14)]) (w' := w19) (n' := 142) rfl ?_
                refine qG.br (P := (14 : Int) = (-1)) (pc1 := 153) (pc2 := 159) (st1 := []) rfl (fun h37 => ?_) (fun h37 => ?_)
                · exact absurd h37 (by decide)
                · skip
                  refine qG.blk 1 (pc' := 160) (ls' := [(2, 95), (0, 14)]) (st' := [(2, 95)]) (w' := w19) (n' := 142) rfl ?_
                  refine qG.call (t := 231) (na := 1) (sk := 1) (md := 1) (ls1 := [(2, 95), (9, 0)]) (r1 := []) rfl rfl rfl rfl rfl (K_next0 (by omega) w19 hI19.1) ?_
                  rintro _ w38 _ ⟨rfl, rfl, hX38⟩
                  have hn38 := PS.next hI19 (by omega) hX38
                  have hP38 := PS.tr hP19 hn38.1 (by omega)
                  have hI38 : PI w38 := hn38.1.2.2.1
                  have hg38 := hn38.2
                  have hb38 := hI38.b
                  have hq38 := hP38.fs
                  have hd38 := hP38.2.2.2.2.2.1
                  have hJ38 := hO.1 _ _ _ hJ19 hI19.1 hX38
                  show qG none (d + 1) 242 163 [(2, 95), (0, 14)] [] w38 142 Q9
                  refine qG.blk 1 (pc' := 164) (ls' := [(2, 95), (0, 14)]) (st' := [(2, 95)]) (w' := w38) (n' := 142) rfl ?_
                  refine qG.call (t := 237) (na := 1) (sk := 1) (md := 1) (ls1 := [(2, 95), (9, 0)]) (r1 := []) rfl rfl rfl rfl rfl (K_sumUpX (by omega) hO w38 hI38 (by omega) (j93 + 1) hJ38) ?_
                  rintro _ w39 _ ⟨rfl, ⟨k164, j164, hs164, hk164, rfl, hA39, hf164, hg164⟩ | ⟨j164, hs164, rfl, hS39, hJ39⟩⟩
                  · skip
                    show qG none (d + 1) 242 167 [(2, 95), (0, 14)] [(0, 0)] w39 142 Q9
                    have hBAD := hP38.2.1.tr hA39 (by decide +kernel)
                    refine qG.br (P := (0 : Int) = 0) (pc1 := 170) (pc2 := 172) (st1 := []) rfl (fun h40 => ?_) (fun h40 => ?_)
                    · skip
                      refine qG.blk 1 (pc' := 171) (ls' := [(2, 95), (0, 14)]) (st' := [(0, 0)]) (w' := w39) (n' := 142) rfl ?_
                      refine qG.ret rfl (by first | rfl | exact decide_eq_true (by omega)) ?_
                      subst hQ9
                      first | exact ⟨rfl, .inl ⟨k164, j164, (one_a (by omega) (by omega)).trans ((atoR_3 hs93 (by omega)).trans hs164), hk164, rfl, hBAD, hf164, hg164⟩⟩
                    · exact absurd h40 (by decide)
                  · skip
                    show qG none (d + 1) 242 167 [(2, 95), (0, 14)] [(0, 1)] w39 142 Q9
                    have hP39 := PS.tr hP38 hS39 (by omega)
                    have hI39 : PI w39 := hS39.2.2.1
                    have hb39 := hI39.b
                    have hq39 := hP39.fs
                    have hd39 := hP39.2.2.2.2.2.1
                    have hm39 := hS39.2.2.2.1
                    refine qG.br (P := (1 : Int) = 0) (pc1 := 170) (pc2 := 172) (st1 := []) rfl (fun h41 => ?_) (fun h41 => ?_)
                    · exact absurd h41 (by decide)
                    · skip
                      refine qG.blk 3 (pc' := 175) (ls' := [(2, 95), (0, 14)]) (st' := [(0, 0), (0, 14), (2, 95)]) (w' := w39) (n' := 142) rfl ?_
                      refine qG.call (t := 235) (na := 3) (sk := 1) (md := 1) (ls1 := [(2, 95), (0, 14), (0, 0)]) (r1 := []) rfl rfl rfl rfl rfl (K_lay (by omega) 14 0 w39 hI39.1 (by first | omega | (rw [qup_j (by decide)]; omega))) ?_
                      rintro _ _ _ ⟨rfl, rfl, rfl⟩
                      have hl42 := PS.lay (n := 2) (m := 1) hI39 (by first | omega | (rw [qup_j (by decide)]; omega)) (k := 14) (v := 0) ⟨by show (-2147483648 : Int) ≤ _; omega, by show _ ≤ (2147483647 : Int); omega⟩ ⟨by show (-2147483648 : Int) ≤ _; omega, by show _ ≤ (2147483647 : Int); omega⟩ (fun h => by unfold stepH; rw [if_neg (by omega), if_neg (by omega), if_neg (by omega), if_pos (by omega)]; rfl)
                      have hP42 := PS.tr hP39 hl42 (by omega)
                      have hI42 : PI (layW w39 14 0) := hl42.2.2.1
                      have hb42 := hI42.b
                      have hq42 := hP42.fs
                      have hd42 := hP42.2.2.2.2.2.1
                      have hm42 := hl42.2.2.2.1
                      show qG none (d + 1) 242 178 [(2, 95), (0, 14)] [] (layW w39 14 0) 142 Q9
                      refine qG.blk 1 (pc' := 179) (ls' := [(2, 95), (0, 14)]) (st' := [(0, 1)]) (w' := (layW w39 14 0)) (n' := 142) rfl ?_
                      refine qG.ret rfl (by first | rfl | exact decide_eq_true (by omega)) ?_
                      subst hQ9
                      exact ⟨rfl, .inr ⟨j164, (one_a (by omega) (by omega)).trans ((atoR_3 hs93 (by omega)).trans hs164), rfl, hP42.cast (by omega) (by omega) (by omega) (by omega), (hO.lay hJ39)⟩⟩
              · skip
                refine qG.blk 4 (pc' := 150) (ls' := [(2, 95), (0, (-1))]) (st' := [(0, (-1)), (0, (-1))]) (w' := w19) (n' := 142) rfl ?_
                refine qG.br (P := ((-1) : Int) = (-1)) (pc1 := 153) (pc2 := 159) (st1 := []) rfl (fun h43 => ?_) (fun h43 => ?_)
                · skip
                  refine qG.blk 2 (pc' := 155) (ls' := [(2, 95), (0, (-1))]) (st' := [(0, 1), (2, 95)]) (w' := w19) (n' := 142) rfl ?_
                  refine qG.call (t := 232) (na := 2) (sk := 1) (md := 1) (ls1 := [(2, 95), (0, 1)]) (r1 := []) rfl rfl rfl rfl rfl (K_bad (by omega) 1 w19 hI19.1 (by decide) (by decide)) ?_
                  rintro _ _ _ ⟨rfl, rfl, rfl⟩
                  show qG none (d + 1) 242 158 [(2, 95), (0, (-1))] [(0, 0)] (qup (qup w19 95 30 1) 95 31 (w19 95 28)) 142 Q9
                  refine qG.ret rfl (by first | rfl | exact decide_eq_true (by omega)) ?_
                  subst hQ9
                  have htb := (hO.2.1 _ _ hJ19).1
                  unfold TMP at htb
                  exact ⟨rfl, .inl ⟨1, j93, (one_a (by omega) (by omega)).trans (atoR_2 hs93 (by omega)), .inl rfl, rfl, AW.bad hP19.2.1 (by decide) (by decide), by rw [qup_j (by decide), qup_k], by rw [qup_k]; exact (hO.2.1 _ _ hJ19).2.1⟩⟩
                · exact absurd h43 (by decide)
theorem K_everyX (q : Nat) {d : Nat} (hd : 13 + 3 * q ≤ d) {S : Nat → qW → Prop} {C P : Nat → Int} (hO : SO S C P TMP) (w : qW) (hP : PI w) (hD : w 95 24 ≤ w 95 28) (hq0 : w 95 33 + (q : Int) = 8) (i0 : Nat) (hJ0 : S i0 w) (hone : Q_one S C P q) : qG none d 241 0 [(2, 95)] [] w 142 (fun (r : qV) (w1 : qW) (n1 : Nat) => n1 = 142 ∧ ((∃ k j, sEv C 601 (sOne C 601 q) i0 = (k, j) ∧ (k = 1 ∨ k = 2 ∨ k = 3) ∧ r = (0, 0) ∧ AW PM w w1 ∧ w1 95 30 = k ∧ w1 95 31 = P j) ∨ (∃ j, sEv C 601 (sOne C 601 q) i0 = (0, j) ∧ r = (0, 1) ∧ PS 0 1 0 0 w w1 ∧ S j w1))) := by
  generalize hQ9 : (fun (r : qV) (w1 : qW) (n1 : Nat) => n1 = 142 ∧ ((∃ k j, sEv C 601 (sOne C 601 q) i0 = (k, j) ∧ (k = 1 ∨ k = 2 ∨ k = 3) ∧ r = (0, 0) ∧ AW PM w w1 ∧ w1 95 30 = k ∧ w1 95 31 = P j) ∨ (∃ j, sEv C 601 (sOne C 601 q) i0 = (0, j) ∧ r = (0, 1) ∧ PS 0 1 0 0 w w1 ∧ S j w1))) = Q9
  have hb0 := hP.b
  have ht0 := (hO.2.1 _ _ hJ0).1
  obtain ⟨d, rfl⟩ : ∃ d9, d = d9 + 1 := ⟨d - 1, by omega⟩
  refine qG.blk 1 (pc' := 1) (ls' := [(2, 95)]) (st' := [(2, 95)]) (w' := w) (n' := 142) rfl ?_
  refine qG.call (t := 242) (na := 1) (sk := 1) (md := 1) (ls1 := [(2, 95), (9, 0)]) (r1 := []) rfl rfl rfl rfl rfl (hone d w i0 (by omega) hP (by omega) (by omega) hJ0) ?_
  rintro _ w1 _ ⟨rfl, ⟨k1, j1, hs1, hk1, rfl, hA1, hf1, hg1⟩ | ⟨j1, hs1, rfl, hS1, hJ1⟩⟩
  · skip
    show qG none (d + 1) 241 4 [(2, 95)] [(0, 0)] w1 142 Q9
    have hBAD := (PS.rf hP).2.1.tr hA1 (by decide +kernel)
    refine qG.br (P := (0 : Int) = 0) (pc1 := 7) (pc2 := 9) (st1 := []) rfl (fun h2 => ?_) (fun h2 => ?_)
    · skip
      refine qG.blk 1 (pc' := 8) (ls' := [(2, 95)]) (st' := [(0, 0)]) (w' := w1) (n' := 142) rfl ?_
      refine qG.ret rfl (by first | rfl | exact decide_eq_true (by omega)) ?_
      subst hQ9
      first | exact ⟨rfl, .inl ⟨k1, j1, bnd_k hs1 hk1, hk1, rfl, hBAD, hf1, hg1⟩⟩
    · exact absurd h2 (by decide)
  · skip
    show qG none (d + 1) 241 4 [(2, 95)] [(0, 1)] w1 142 Q9
    have hP1 := PS.tr (PS.rf hP) hS1 (by omega)
    have hI1 : PI w1 := hS1.2.2.1
    have hb1 := hI1.b
    have hq1 := hP1.fs
    have hd1 := hP1.2.2.2.2.2.1
    have hm1 := hS1.2.2.2.1
    refine qG.br (P := (1 : Int) = 0) (pc1 := 7) (pc2 := 9) (st1 := []) rfl (fun h3 => ?_) (fun h3 => ?_)
    · exact absurd h3 (by decide)
    · skip
      have L9 : ∀ (m9 : Nat)  (c9 i9 : Nat) (wL : qW), (600 - wL 95 28).toNat = m9 → (PS 0 1 0 0 w wL ∧ S i9 wL ∧ c9 ≤ i9 ∧ sEv C 601 (sOne C 601 q) i0 = sEvL C (sOne C 601 q) (601 - c9) i9) → qG none (d + 1) 241 9 [(2, 95)] [] wL 142 Q9 := by
        intro m9
        induction m9 using Nat.strongRecOn with
        | ind m9 ih9 =>
        intro c9 i9 wL hm9 hI9
        obtain ⟨hPL, hJL, hci, hSp⟩ := hI9
        have hIL : PI wL := hPL.2.2.1
        have hbL := hIL.b
        have hqL := hPL.fs
        have hdL := hPL.2.2.2.2.2.1
        have htL := (hO.2.1 _ _ hJL).1
        have h6L := hO.2.2.2 i9
        unfold TMP at htL
        refine qG.blk 3 (pc' := 14) (ls' := [(2, 95)]) (st' := [(0, 5), (0, wL 95 27)]) (w' := wL) (n' := 142) rfl ?_
        refine qG.br (P := wL 95 27 = 5) (pc1 := 17) (pc2 := 40) (st1 := []) rfl (fun h4 => ?_) (fun h4 => ?_)
        · skip
          refine qG.blk 1 (pc' := 18) (ls' := [(2, 95)]) (st' := [(2, 95)]) (w' := wL) (n' := 142) rfl ?_
          refine qG.call (t := 231) (na := 1) (sk := 1) (md := 1) (ls1 := [(2, 95), (9, 0)]) (r1 := []) rfl rfl rfl rfl rfl (K_next0 (by omega) wL hIL.1) ?_
          rintro _ w5 _ ⟨rfl, rfl, hX5⟩
          have hn5 := PS.next hIL (by omega) hX5
          have hP5 := PS.tr hPL hn5.1 (by omega)
          have hI5 : PI w5 := hn5.1.2.2.1
          have hg5 := hn5.2
          have hb5 := hI5.b
          have hq5 := hP5.fs
          have hd5 := hP5.2.2.2.2.2.1
          have hJ5 := hO.1 _ _ _ hJL hIL.1 hX5
          show qG none (d + 1) 241 21 [(2, 95)] [] w5 142 Q9
          refine qG.blk 1 (pc' := 22) (ls' := [(2, 95)]) (st' := [(2, 95)]) (w' := w5) (n' := 142) rfl ?_
          refine qG.call (t := 242) (na := 1) (sk := 1) (md := 1) (ls1 := [(2, 95), (9, 0)]) (r1 := []) rfl rfl rfl rfl rfl (hone d w5 (i9 + 1) (by omega) hI5 (by omega) (by omega) hJ5) ?_
          rintro _ w6 _ ⟨rfl, ⟨k22, j22, hs22, hk22, rfl, hA6, hf22, hg22⟩ | ⟨j22, hs22, rfl, hS6, hJ6⟩⟩
          · skip
            show qG none (d + 1) 241 25 [(2, 95)] [(0, 0)] w6 142 Q9
            have hBAD := hP5.2.1.tr hA6 (by decide +kernel)
            refine qG.br (P := (0 : Int) = 0) (pc1 := 28) (pc2 := 30) (st1 := []) rfl (fun h7 => ?_) (fun h7 => ?_)
            · skip
              refine qG.blk 1 (pc' := 29) (ls' := [(2, 95)]) (st' := [(0, 0)]) (w' := w6) (n' := 142) rfl ?_
              refine qG.ret rfl (by first | rfl | exact decide_eq_true (by omega)) ?_
              subst hQ9
              first | exact ⟨rfl, .inl ⟨k22, j22, hSp.trans (by rw [show 601 - c9 = (601 - (c9 + 1)) + 1 by omega]; exact (eL_y (by omega)).trans (bnd_k hs22 hk22)), hk22, rfl, hBAD, hf22, hg22⟩⟩
            · exact absurd h7 (by decide)
          · skip
            show qG none (d + 1) 241 25 [(2, 95)] [(0, 1)] w6 142 Q9
            have hP6 := PS.tr hP5 hS6 (by omega)
            have hI6 : PI w6 := hS6.2.2.1
            have hb6 := hI6.b
            have hq6 := hP6.fs
            have hd6 := hP6.2.2.2.2.2.1
            have hm6 := hS6.2.2.2.1
            refine qG.br (P := (1 : Int) = 0) (pc1 := 28) (pc2 := 30) (st1 := []) rfl (fun h8 => ?_) (fun h8 => ?_)
            · exact absurd h8 (by decide)
            · skip
              refine qG.blk 3 (pc' := 34) (ls' := [(2, 95)]) (st' := [(0, 0), (0, 16), (2, 95)]) (w' := w6) (n' := 142) rfl ?_
              refine qG.call (t := 235) (na := 3) (sk := 1) (md := 1) (ls1 := [(2, 95), (0, 16), (0, 0)]) (r1 := []) rfl rfl rfl rfl rfl (K_lay (by omega) 16 0 w6 hI6.1 (by first | omega | (rw [qup_j (by decide)]; omega))) ?_
              rintro _ _ _ ⟨rfl, rfl, rfl⟩
              have hl9 := PS.lay (n := 2) (m := 1) hI6 (by first | omega | (rw [qup_j (by decide)]; omega)) (k := 16) (v := 0) ⟨by show (-2147483648 : Int) ≤ _; omega, by show _ ≤ (2147483647 : Int); omega⟩ ⟨by show (-2147483648 : Int) ≤ _; omega, by show _ ≤ (2147483647 : Int); omega⟩ (fun h => by unfold stepH; rw [if_neg (by omega), if_neg (by omega), if_neg (by omega), if_pos (by omega)]; rfl)
              have hP9 := PS.tr hP6 hl9 (by omega)
              have hI9 : PI (layW w6 16 0) := hl9.2.2.1
              have hb9 := hI9.b
              have hq9 := hP9.fs
              have hd9 := hP9.2.2.2.2.2.1
              have hm9 := hl9.2.2.2.1
              show qG none (d + 1) 241 37 [(2, 95)] [] (layW w6 16 0) 142 Q9
              refine qG.blk 1 (pc' := 9) (ls' := [(2, 95)]) (st' := []) (w' := (layW w6 16 0)) (n' := 142) rfl ?_
              have hst9 : 601 - c9 = (601 - (c9 + 1)) + 1 := by omega
              exact ih9 _ (by omega)  (c9 + 1) j22 ((layW w6 16 0)) rfl ⟨hP9.cast (by omega) (by omega) (by omega) (by omega), (hO.lay hJ6), (by have := one_lt _ _ _ hs22; omega), hSp.trans (by rw [hst9]; exact (eL_y (by omega)).trans (bnd_y hs22))⟩
        · skip
          refine qG.blk 1 (pc' := 41) (ls' := [(2, 95)]) (st' := [(0, 1)]) (w' := wL) (n' := 142) rfl ?_
          refine qG.ret rfl (by first | rfl | exact decide_eq_true (by omega)) ?_
          subst hQ9
          exact ⟨rfl, .inr ⟨i9, hSp.trans (eL_e (by omega) _), rfl, hPL.cast (by omega) (by omega) (by omega) (by omega), hJL⟩⟩
      exact L9 _ (0) (j1) (w1) rfl (⟨hP1.cast (by omega) (by omega) (by omega) (by omega), hJ1, by omega, bnd_y hs1⟩)
theorem K_anyX (q : Nat) {d : Nat} (hd : 14 + 3 * q ≤ d) {S : Nat → qW → Prop} {C P : Nat → Int} (hO : SO S C P TMP) (w : qW) (hP : PI w) (hD : w 95 24 ≤ w 95 28) (hq0 : w 95 33 + (q : Int) = 8) (i0 : Nat) (hJ0 : S i0 w) (hev : Q_every S C P q) : qG none d 240 0 [(2, 95)] [] w 142 (fun (r : qV) (w1 : qW) (n1 : Nat) => n1 = 142 ∧ ((∃ k j, sAn C 601 (sOne C 601 q) i0 = (k, j) ∧ (k = 1 ∨ k = 2 ∨ k = 3) ∧ r = (0, 0) ∧ AW PM w w1 ∧ w1 95 30 = k ∧ w1 95 31 = P j) ∨ (∃ j, sAn C 601 (sOne C 601 q) i0 = (0, j) ∧ r = (0, 1) ∧ PS 0 1 0 0 w w1 ∧ S j w1))) := by
  generalize hQ9 : (fun (r : qV) (w1 : qW) (n1 : Nat) => n1 = 142 ∧ ((∃ k j, sAn C 601 (sOne C 601 q) i0 = (k, j) ∧ (k = 1 ∨ k = 2 ∨ k = 3) ∧ r = (0, 0) ∧ AW PM w w1 ∧ w1 95 30 = k ∧ w1 95 31 = P j) ∨ (∃ j, sAn C 601 (sOne C 601 q) i0 = (0, j) ∧ r = (0, 1) ∧ PS 0 1 0 0 w w1 ∧ S j w1))) = Q9
  have hb0 := hP.b
  have ht0 := (hO.2.1 _ _ hJ0).1
  obtain ⟨d, rfl⟩ : ∃ d9, d = d9 + 1 := ⟨d - 1, by omega⟩
  refine qG.blk 1 (pc' := 1) (ls' := [(2, 95)]) (st' := [(2, 95)]) (w' := w) (n' := 142) rfl ?_
  refine qG.call (t := 241) (na := 1) (sk := 1) (md := 1) (ls1 := [(2, 95)]) (r1 := []) rfl rfl rfl rfl rfl (hev d w i0 (by omega) hP (by omega) (by omega) hJ0) ?_
  rintro _ w1 _ ⟨rfl, ⟨k1, j1, hs1, hk1, rfl, hA1, hf1, hg1⟩ | ⟨j1, hs1, rfl, hS1, hJ1⟩⟩
  · skip
    show qG none (d + 1) 240 4 [(2, 95)] [(0, 0)] w1 142 Q9
    have hBAD := (PS.rf hP).2.1.tr hA1 (by decide +kernel)
    refine qG.br (P := (0 : Int) = 0) (pc1 := 7) (pc2 := 9) (st1 := []) rfl (fun h2 => ?_) (fun h2 => ?_)
    · skip
      refine qG.blk 1 (pc' := 8) (ls' := [(2, 95)]) (st' := [(0, 0)]) (w' := w1) (n' := 142) rfl ?_
      refine qG.ret rfl (by first | rfl | exact decide_eq_true (by omega)) ?_
      subst hQ9
      first | exact ⟨rfl, .inl ⟨k1, j1, bnd_k hs1 hk1, hk1, rfl, hBAD, hf1, hg1⟩⟩
    · exact absurd h2 (by decide)
  · skip
    show qG none (d + 1) 240 4 [(2, 95)] [(0, 1)] w1 142 Q9
    have hP1 := PS.tr (PS.rf hP) hS1 (by omega)
    have hI1 : PI w1 := hS1.2.2.1
    have hb1 := hI1.b
    have hq1 := hP1.fs
    have hd1 := hP1.2.2.2.2.2.1
    have hm1 := hS1.2.2.2.1
    refine qG.br (P := (1 : Int) = 0) (pc1 := 7) (pc2 := 9) (st1 := []) rfl (fun h3 => ?_) (fun h3 => ?_)
    · exact absurd h3 (by decide)
    · skip
      have L9 : ∀ (m9 : Nat)  (c9 i9 : Nat) (wL : qW), (600 - wL 95 28).toNat = m9 → (PS 0 1 0 0 w wL ∧ S i9 wL ∧ c9 ≤ i9 ∧ sAn C 601 (sOne C 601 q) i0 = sAnL C (sEv C 601 (sOne C 601 q)) (601 - c9) i9) → qG none (d + 1) 240 9 [(2, 95)] [] wL 142 Q9 := by
        intro m9
        induction m9 using Nat.strongRecOn with
        | ind m9 ih9 =>
        intro c9 i9 wL hm9 hI9
        obtain ⟨hPL, hJL, hci, hSp⟩ := hI9
        have hIL : PI wL := hPL.2.2.1
        have hbL := hIL.b
        have hqL := hPL.fs
        have hdL := hPL.2.2.2.2.2.1
        have htL := (hO.2.1 _ _ hJL).1
        have h6L := hO.2.2.2 i9
        unfold TMP at htL
        refine qG.blk 3 (pc' := 14) (ls' := [(2, 95)]) (st' := [(0, 4), (0, wL 95 27)]) (w' := wL) (n' := 142) rfl ?_
        refine qG.br (P := wL 95 27 = 4) (pc1 := 17) (pc2 := 40) (st1 := []) rfl (fun h4 => ?_) (fun h4 => ?_)
        · skip
          refine qG.blk 1 (pc' := 18) (ls' := [(2, 95)]) (st' := [(2, 95)]) (w' := wL) (n' := 142) rfl ?_
          refine qG.call (t := 231) (na := 1) (sk := 1) (md := 1) (ls1 := [(2, 95), (9, 0)]) (r1 := []) rfl rfl rfl rfl rfl (K_next0 (by omega) wL hIL.1) ?_
          rintro _ w5 _ ⟨rfl, rfl, hX5⟩
          have hn5 := PS.next hIL (by omega) hX5
          have hP5 := PS.tr hPL hn5.1 (by omega)
          have hI5 : PI w5 := hn5.1.2.2.1
          have hg5 := hn5.2
          have hb5 := hI5.b
          have hq5 := hP5.fs
          have hd5 := hP5.2.2.2.2.2.1
          have hJ5 := hO.1 _ _ _ hJL hIL.1 hX5
          show qG none (d + 1) 240 21 [(2, 95)] [] w5 142 Q9
          refine qG.blk 1 (pc' := 22) (ls' := [(2, 95)]) (st' := [(2, 95)]) (w' := w5) (n' := 142) rfl ?_
          refine qG.call (t := 241) (na := 1) (sk := 1) (md := 1) (ls1 := [(2, 95)]) (r1 := []) rfl rfl rfl rfl rfl (hev d w5 (i9 + 1) (by omega) hI5 (by omega) (by omega) hJ5) ?_
          rintro _ w6 _ ⟨rfl, ⟨k22, j22, hs22, hk22, rfl, hA6, hf22, hg22⟩ | ⟨j22, hs22, rfl, hS6, hJ6⟩⟩
          · skip
            show qG none (d + 1) 240 25 [(2, 95)] [(0, 0)] w6 142 Q9
            have hBAD := hP5.2.1.tr hA6 (by decide +kernel)
            refine qG.br (P := (0 : Int) = 0) (pc1 := 28) (pc2 := 30) (st1 := []) rfl (fun h7 => ?_) (fun h7 => ?_)
            · skip
              refine qG.blk 1 (pc' := 29) (ls' := [(2, 95)]) (st' := [(0, 0)]) (w' := w6) (n' := 142) rfl ?_
              refine qG.ret rfl (by first | rfl | exact decide_eq_true (by omega)) ?_
              subst hQ9
              first | exact ⟨rfl, .inl ⟨k22, j22, hSp.trans (by rw [show 601 - c9 = (601 - (c9 + 1)) + 1 by omega]; exact (nL_y (by omega)).trans (bnd_k hs22 hk22)), hk22, rfl, hBAD, hf22, hg22⟩⟩
            · exact absurd h7 (by decide)
          · skip
            show qG none (d + 1) 240 25 [(2, 95)] [(0, 1)] w6 142 Q9
            have hP6 := PS.tr hP5 hS6 (by omega)
            have hI6 : PI w6 := hS6.2.2.1
            have hb6 := hI6.b
            have hq6 := hP6.fs
            have hd6 := hP6.2.2.2.2.2.1
            have hm6 := hS6.2.2.2.1
            refine qG.br (P := (1 : Int) = 0) (pc1 := 28) (pc2 := 30) (st1 := []) rfl (fun h8 => ?_) (fun h8 => ?_)
            · exact absurd h8 (by decide)
            · skip
              refine qG.blk 3 (pc' := 34) (ls' := [(2, 95)]) (st' := [(0, 0), (0, 17), (2, 95)]) (w' := w6) (n' := 142) rfl ?_
              refine qG.call (t := 235) (na := 3) (sk := 1) (md := 1) (ls1 := [(2, 95), (0, 17), (0, 0)]) (r1 := []) rfl rfl rfl rfl rfl (K_lay (by omega) 17 0 w6 hI6.1 (by first | omega | (rw [qup_j (by decide)]; omega))) ?_
              rintro _ _ _ ⟨rfl, rfl, rfl⟩
              have hl9 := PS.lay (n := 2) (m := 1) hI6 (by first | omega | (rw [qup_j (by decide)]; omega)) (k := 17) (v := 0) ⟨by show (-2147483648 : Int) ≤ _; omega, by show _ ≤ (2147483647 : Int); omega⟩ ⟨by show (-2147483648 : Int) ≤ _; omega, by show _ ≤ (2147483647 : Int); omega⟩ (fun h => by unfold stepH; rw [if_neg (by omega), if_neg (by omega), if_neg (by omega), if_pos (by omega)]; rfl)
              have hP9 := PS.tr hP6 hl9 (by omega)
              have hI9 : PI (layW w6 17 0) := hl9.2.2.1
              have hb9 := hI9.b
              have hq9 := hP9.fs
              have hd9 := hP9.2.2.2.2.2.1
              have hm9 := hl9.2.2.2.1
              show qG none (d + 1) 240 37 [(2, 95)] [] (layW w6 17 0) 142 Q9
              refine qG.blk 1 (pc' := 9) (ls' := [(2, 95)]) (st' := []) (w' := (layW w6 17 0)) (n' := 142) rfl ?_
              have hst9 : 601 - c9 = (601 - (c9 + 1)) + 1 := by omega
              exact ih9 _ (by omega)  (c9 + 1) j22 ((layW w6 17 0)) rfl ⟨hP9.cast (by omega) (by omega) (by omega) (by omega), (hO.lay hJ6), (by have := ev_lt (fun i j => one_lt q i j) hs22; omega), hSp.trans (by rw [hst9]; exact (nL_y (by omega)).trans (bnd_y hs22))⟩
        · skip
          refine qG.blk 1 (pc' := 41) (ls' := [(2, 95)]) (st' := [(0, 1)]) (w' := wL) (n' := 142) rfl ?_
          refine qG.ret rfl (by first | rfl | exact decide_eq_true (by omega)) ?_
          subst hQ9
          exact ⟨rfl, .inr ⟨i9, hSp.trans (nL_e (by omega) _), rfl, hPL.cast (by omega) (by omega) (by omega) (by omega), hJL⟩⟩
      exact L9 _ (0) (j1) (w1) rfl (⟨hP1.cast (by omega) (by omega) (by omega) (by omega), hJ1, by omega, bnd_y hs1⟩)
theorem Q_all {S : Nat → qW → Prop} {C P : Nat → Int} (hO : SO S C P TMP) : ∀ q : Nat, Q_one S C P q ∧ Q_every S C P q ∧ Q_any S C P q := by
  intro q
  induction q using Nat.strongRecOn with
  | ind q ih =>
    have h1 : Q_one S C P q := fun d w i0 hd hP hD h8 hJ => K_oneX q hd hO w hP hD h8 i0 hJ (fun q9 h9 => ⟨(ih q9 h9).1, (ih q9 h9).2.2⟩)
    have h2 : Q_every S C P q := fun d w i0 hd hP hD h8 hJ => K_everyX q hd hO w hP hD h8 i0 hJ h1
    exact ⟨h1, h2, fun d w i0 hd hP hD h8 hJ => K_anyX q hd hO w hP hD h8 i0 hJ h2⟩
