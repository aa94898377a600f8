/-! the reference's tokens, exactly -/
section TX
variable {sc : Option (Nat × (Nat → Int))} {d k pc n : Nat} {ls r : List qV} {w : qW} {Q : qV → qW → Nat → Prop}
theorem qG.tlen {x : Int} {l : List Int} (hl : qtxb x = some l) (hq : qcq k pc = some (906, 1, 1, 1)) (h8 : Nat.ble (qcat r) 8 = true) (hd : 3 ≤ d) (g : qG sc (d + 1) k (pc + 3) ls ((0, (l.length : Int)) :: r) w n Q) : qG sc (d + 1) k pc ls ((3, x) :: r) w n Q := by
  refine qG.mth (t := 906) (na := 1) hq rfl ?_ h8 (pc' := pc + 3) (ls' := ls) (st' := (0, (l.length : Int)) :: r) (w' := w) (n' := n) ?_ g
  · show (Nat.beq 1 1 && Nat.ble 4 (d + 1)) = true
    rw [Nat.ble_eq_true_of_le (show 4 ≤ d + 1 by omega)]; rfl
  · show (match qtxb x with
      | some l => some (pc + 3, ls, ((0, (l.length : Int)) : qV) :: r, w, n)
      | none => none) = _
    rw [hl]
theorem qG.tch {x i : Int} {l : List Int} (hl : qtxb x = some l) (hq : qcq k pc = some (907, 2, 1, 1)) (h8 : Nat.ble (qcat r) 8 = true) (hd : 3 ≤ d) (hi : 0 ≤ i ∧ i < (l.length : Int)) (g : qG sc (d + 1) k (pc + 3) ls ((0, l.getD i.toNat 0) :: r) w n Q) : qG sc (d + 1) k pc ls ((0, i) :: (3, x) :: r) w n Q := by
  refine qG.mth (t := 907) (na := 2) hq rfl ?_ h8 (pc' := pc + 3) (ls' := ls) (st' := (0, l.getD i.toNat 0) :: r) (w' := w) (n' := n) ?_ g
  · show (Nat.beq 1 1 && Nat.ble 4 (d + 1)) = true
    rw [Nat.ble_eq_true_of_le (show 4 ≤ d + 1 by omega)]; rfl
  · show (match qtxb x with
      | some l => if 0 ≤ i ∧ i < (l.length : Int) then some (pc + 3, ls, ((0, l.getD i.toNat 0) : qV) :: r, w, n) else none
      | none => none) = _
    rw [hl]
    exact if_pos hi
end TX
noncomputable def isInV (v a b : Int) : Int := if v < a then 0 else if b < v then 0 else 1
noncomputable def letV (c : Int) : Int := if isInV c 97 122 = 0 then isInV c 65 90 else 1
noncomputable def digV (c : Int) : Int := isInV c 48 57
theorem isInV_01 (v a b : Int) : isInV v a b = 0 ∨ isInV v a b = 1 := by unfold isInV; (repeat' split) <;> omega
theorem letV_01 (c : Int) : letV c = 0 ∨ letV c = 1 := by unfold letV; split; exact isInV_01 _ _ _; exact .inr rfl
theorem digV_1 {c : Int} : digV c = 1 ↔ 48 ≤ c ∧ c ≤ 57 := by unfold digV isInV; (repeat' split) <;> omega
noncomputable def seeV (w : qW) (k : Nat) : Int := if (k : Int) < w 95 25 then w 114 k else -1
theorem seeV_in {w : qW} (hI : yInv zgf zga zra zSp w) (k : Nat) : -1 ≤ seeV w k ∧ seeV w k ≤ 255 := by
  have h := hI.2.1 114 k (0, 255) rfl rfl
  have h1 : (0 : Int) ≤ w 114 k := h.1
  have h2 : w 114 k ≤ (255 : Int) := h.2
  unfold seeV; split <;> omega
theorem seeV_lt {w : qW} (hI : yInv zgf zga zra zSp w) {k : Nat} (h : seeV w k ≠ -1) : (k : Int) < w 95 25 ∧ k < 600 := by
  have h25 := zfld hI (j := 25) (b := (0, 600)) rfl
  have h1 : w 95 25 ≤ (600 : Int) := h25.2
  unfold seeV at h
  split at h
  · rename_i c; exact ⟨c, by omega⟩
  · exact absurd rfl h
theorem seeV_up {w : qW} {j : Nat} {v : Int} (hj : j ≠ 25) (k : Nat) : seeV (qup w 95 j v) k = seeV w k := by
  unfold seeV
  rw [qup_j (fun z => hj z.symm), qup_ne (by decide)]
theorem K_isIn {d : Nat} (hd : 0 ≤ d) (v a b : Int) (w : qW) : qG none d 206 0 [(0, v), (0, a), (0, b)] [] w 142 (fun (r : qV) (w1 : qW) (n1 : Nat) => r = (0, isInV v a b) ∧ w1 = w ∧ n1 = 142) := by
  generalize hQ9 : (fun (r : qV) (w1 : qW) (n1 : Nat) => r = (0, isInV v a b) ∧ w1 = w ∧ n1 = 142) = Q9
  refine qG.blk 2 (pc' := 2) (ls' := [(0, v), (0, a), (0, b)]) (st' := [(0, a), (0, v)]) (w' := w) (n' := 142) rfl ?_
  refine qG.br (P := v < a) (pc1 := 14) (pc2 := 5) (st1 := []) rfl (fun h1 => ?_) (fun h1 => ?_)
  · skip
    refine qG.blk 1 (pc' := 15) (ls' := [(0, v), (0, a), (0, b)]) (st' := [(0, 0)]) (w' := w) (n' := 142) rfl ?_
    refine qG.ret rfl (by first | rfl | exact decide_eq_true (by omega)) ?_
    subst hQ9
    exact ⟨by first | rfl | (simp only [isInV]; (repeat' split) <;> first | rfl | (exfalso; omega)), rfl, rfl⟩
  · skip
    refine qG.blk 2 (pc' := 7) (ls' := [(0, v), (0, a), (0, b)]) (st' := [(0, b), (0, v)]) (w' := w) (n' := 142) rfl ?_
    refine qG.br (P := b < v) (pc1 := 14) (pc2 := 10) (st1 := []) rfl (fun h2 => ?_) (fun h2 => ?_)
    · skip
      refine qG.blk 1 (pc' := 15) (ls' := [(0, v), (0, a), (0, b)]) (st' := [(0, 0)]) (w' := w) (n' := 142) rfl ?_
      refine qG.ret rfl (by first | rfl | exact decide_eq_true (by omega)) ?_
      subst hQ9
      exact ⟨by first | rfl | (simp only [isInV]; (repeat' split) <;> first | rfl | (exfalso; omega)), rfl, rfl⟩
    · skip
      refine qG.blk 2 (pc' := 15) (ls' := [(0, v), (0, a), (0, b)]) (st' := [(0, 1)]) (w' := w) (n' := 142) rfl ?_
      refine qG.ret rfl (by first | rfl | exact decide_eq_true (by omega)) ?_
      subst hQ9
      exact ⟨by first | rfl | (simp only [isInV]; (repeat' split) <;> first | rfl | (exfalso; omega)), rfl, rfl⟩
theorem K_isLetter {d : Nat} (hd : 1 ≤ d) (c : Int) (w : qW) : qG none d 225 0 [(0, c)] [] w 142 (fun (r : qV) (w1 : qW) (n1 : Nat) => r = (0, letV c) ∧ w1 = w ∧ n1 = 142) := by
  generalize hQ9 : (fun (r : qV) (w1 : qW) (n1 : Nat) => r = (0, letV c) ∧ w1 = w ∧ n1 = 142) = Q9
  obtain ⟨d, rfl⟩ : ∃ d9, d = d9 + 1 := ⟨d - 1, by omega⟩
  refine qG.blk 3 (pc' := 5) (ls' := [(0, c)]) (st' := [(0, 122), (0, 97), (0, c)]) (w' := w) (n' := 142) rfl ?_
  refine qG.call (t := 206) (na := 3) (sk := 0) (md := 0) (ls1 := [(0, c), (0, 97), (0, 122)]) (r1 := []) rfl rfl rfl rfl rfl (K_isIn (by omega) _ _ _ _) ?_
  rintro _ w7 _ ⟨rfl, hw7, rfl⟩
  rw [hw7]
  show qG none (d + 1) 225 8 [(0, c)] [(0, isInV (c) (97) (122))] w 142 Q9
  refine qG.br (P := isInV (c) (97) (122) = 0) (pc1 := 11) (pc2 := 22) (st1 := []) rfl (fun h1 => ?_) (fun h1 => ?_)
  · skip
    refine qG.blk 3 (pc' := 16) (ls' := [(0, c)]) (st' := [(0, 90), (0, 65), (0, c)]) (w' := w) (n' := 142) rfl ?_
    refine qG.call (t := 206) (na := 3) (sk := 0) (md := 0) (ls1 := [(0, c), (0, 65), (0, 90)]) (r1 := []) rfl rfl rfl rfl rfl (K_isIn (by omega) _ _ _ _) ?_
    rintro _ w7 _ ⟨rfl, hw7, rfl⟩
    rw [hw7]
    show qG none (d + 1) 225 19 [(0, c)] [(0, isInV (c) (65) (90))] w 142 Q9
    refine qG.br (P := isInV (c) (65) (90) = 0) (pc1 := 26) (pc2 := 22) (st1 := []) rfl (fun h2 => ?_) (fun h2 => ?_)
    · skip
      refine qG.blk 1 (pc' := 27) (ls' := [(0, c)]) (st' := [(0, 0)]) (w' := w) (n' := 142) rfl ?_
      refine qG.ret rfl (by first | rfl | exact decide_eq_true (by omega)) ?_
      subst hQ9
      exact ⟨by first | (unfold letV; simp only [*, if_true, if_false]; done) | (have q1 := isInV_01 c 97 122; have q2 := isInV_01 c 65 90; unfold letV; (repeat' split) <;> first | rfl | (exfalso; omega) | (congr 1; omega)), rfl, rfl⟩
    · skip
      refine qG.blk 2 (pc' := 27) (ls' := [(0, c)]) (st' := [(0, 1)]) (w' := w) (n' := 142) rfl ?_
      refine qG.ret rfl (by first | rfl | exact decide_eq_true (by omega)) ?_
      subst hQ9
      exact ⟨by first | (unfold letV; simp only [*, if_true, if_false]; done) | (have q1 := isInV_01 c 97 122; have q2 := isInV_01 c 65 90; unfold letV; (repeat' split) <;> first | rfl | (exfalso; omega) | (congr 1; omega)), rfl, rfl⟩
  · skip
    refine qG.blk 2 (pc' := 27) (ls' := [(0, c)]) (st' := [(0, 1)]) (w' := w) (n' := 142) rfl ?_
    refine qG.ret rfl (by first | rfl | exact decide_eq_true (by omega)) ?_
    subst hQ9
    exact ⟨by first | (unfold letV; simp only [*, if_true, if_false]; done) | (have q1 := isInV_01 c 97 122; have q2 := isInV_01 c 65 90; unfold letV; (repeat' split) <;> first | rfl | (exfalso; omega) | (congr 1; omega)), rfl, rfl⟩
theorem K_isDigit {d : Nat} (hd : 1 ≤ d) (c : Int) (w : qW) : qG none d 226 0 [(0, c)] [] w 142 (fun (r : qV) (w1 : qW) (n1 : Nat) => r = (0, digV c) ∧ w1 = w ∧ n1 = 142) := by
  generalize hQ9 : (fun (r : qV) (w1 : qW) (n1 : Nat) => r = (0, digV c) ∧ w1 = w ∧ n1 = 142) = Q9
  obtain ⟨d, rfl⟩ : ∃ d9, d = d9 + 1 := ⟨d - 1, by omega⟩
  refine qG.blk 3 (pc' := 5) (ls' := [(0, c)]) (st' := [(0, 57), (0, 48), (0, c)]) (w' := w) (n' := 142) rfl ?_
  refine qG.call (t := 206) (na := 3) (sk := 0) (md := 0) (ls1 := [(0, c), (0, 48), (0, 57)]) (r1 := []) rfl rfl rfl rfl rfl (K_isIn (by omega) _ _ _ _) ?_
  rintro _ w7 _ ⟨rfl, hw7, rfl⟩
  rw [hw7]
  show qG none (d + 1) 226 8 [(0, c)] [(0, isInV (c) (48) (57))] w 142 Q9
  refine qG.ret rfl (by have q9 := isInV_01 c 48 57; exact decide_eq_true (by omega)) ?_
  subst hQ9
  exact ⟨rfl, rfl, rfl⟩
theorem K_see {d : Nat} (hd : 0 ≤ d) (k : Nat) (hk : k ≤ 600) (w : qW) (hI : yInv zgf zga zra zSp w) : qG none d 224 0 [(2, 95), (0, ((k : Nat) : Int))] [] w 142 (fun (r : qV) (w1 : qW) (n1 : Nat) => r = (0, seeV w k) ∧ w1 = w ∧ n1 = 142) := by
  generalize hQ9 : (fun (r : qV) (w1 : qW) (n1 : Nat) => r = (0, seeV w k) ∧ w1 = w ∧ n1 = 142) = Q9
  have h25 := zfld hI (j := 25) (b := (0, 600)) rfl
  have a25 : w 95 25 ≤ (600 : Int) := h25.2
  refine qG.blk 3 (pc' := 5) (ls' := [(2, 95), (0, ((k : Nat) : Int))]) (st' := [(0, w 95 25), (0, ((k : Nat) : Int))]) (w' := w) (n' := 142) rfl ?_
  refine qG.br (P := ((k : Nat) : Int) < w 95 25) (pc1 := 8) (pc2 := 17) (st1 := []) rfl (fun hlt => ?_) (fun hlt => ?_)
  · skip
    refine qG.blk 2 (pc' := 12) (ls' := [(2, 95), (0, ((k : Nat) : Int))]) (st' := [(2, w 95 20)]) (w' := w) (n' := 142) rfl ?_
    rw [show w 95 20 = 114 from zref hI rfl rfl]
    refine qG.blk 1 (pc' := 13) (ls' := [(2, 95), (0, ((k : Nat) : Int))]) (st' := [(0, ((k : Nat) : Int)), (2, 114)]) (w' := w) (n' := 142) rfl ?_
    refine qG.ild (m := 600) rfl rfl (by omega) (by decide) ?_
    show qG none d 224 14 [(2, 95), (0, ((k : Nat) : Int))] [(0, w 114 k)] w 142 Q9
    refine qG.blk 1 (pc' := 18) (ls' := [(2, 95), (0, ((k : Nat) : Int))]) (st' := [(0, w 114 k)]) (w' := w) (n' := 142) rfl ?_
    refine qG.ret rfl rfl ?_
    subst hQ9
    exact ⟨by unfold seeV; simp only [*, if_true, if_false], rfl, rfl⟩
  · skip
    refine qG.blk 1 (pc' := 18) (ls' := [(2, 95), (0, ((k : Nat) : Int))]) (st' := [(0, (-1))]) (w' := w) (n' := 142) rfl ?_
    refine qG.ret rfl rfl ?_
    subst hQ9
    exact ⟨by unfold seeV; simp only [*, if_true, if_false], rfl, rfl⟩
noncomputable def isK (w : qW) (l : List Int) : Nat → Int
  | 0 => if w 95 26 - w 95 28 = (l.length : Int) then 1 else 0
  | j + 1 => if isK w l j = 0 then 0 else if w 114 ((w 95 28).toNat + j) = l.getD j 0 then 1 else 0
theorem isK_01 (w : qW) (l : List Int) : ∀ j, isK w l j = 0 ∨ isK w l j = 1
  | 0 => by unfold isK; split <;> omega
  | j + 1 => by unfold isK; (repeat' split) <;> omega
theorem isK_0 {w : qW} {l : List Int} {j : Nat} (h : isK w l j = 0) : ∀ n, isK w l (j + n) = 0
  | 0 => h
  | n + 1 => by show isK w l (j + n + 1) = 0; unfold isK; rw [if_pos (isK_0 h n)]
theorem isK_len {w : qW} {l : List Int} : ∀ {j : Nat}, isK w l j ≠ 0 → w 95 26 - w 95 28 = (l.length : Int)
  | 0, h => by unfold isK at h; split at h; assumption; exact absurd rfl h
  | j + 1, h => isK_len (j := j) (fun z => h (isK_0 z 1))
/-- the word just read is the text -/
noncomputable def isV (w : qW) (x : Int) : Int := isK w ((qtxb x).getD []) ((qtxb x).getD []).length
theorem K_is {d : Nat} (hd : 4 ≤ d) (x : Int) (l : List Int) (hl : qtxb x = some l) (w : qW) (hI : yInv zgf zga zra zSp w) : qG none d 227 0 [(2, 95), (3, x), (9, 0), (9, 0)] [] w 142 (fun (r : qV) (w1 : qW) (n1 : Nat) => r = (0, isV w x) ∧ w1 = w ∧ n1 = 142) := by
  generalize hQ9 : (fun (r : qV) (w1 : qW) (n1 : Nat) => r = (0, isV w x) ∧ w1 = w ∧ n1 = 142) = Q9
  have hv9 : isV w x = isK w l l.length := by unfold isV; rw [hl]; rfl
  have h26 := zfld hI (j := 26) (b := (0, 600)) rfl
  have a26 : (0 : Int) ≤ w 95 26 := h26.1
  have b26 : w 95 26 ≤ (600 : Int) := h26.2
  have h28 := zfld hI (j := 28) (b := (0, 600)) rfl
  have a28 : (0 : Int) ≤ w 95 28 := h28.1
  have b28 : w 95 28 ≤ (600 : Int) := h28.2
  have hlen9 : l.length < 100 := (qtc_in (qtxb_in hl).2).1
  obtain ⟨d, rfl⟩ : ∃ d9, d = d9 + 1 := ⟨d - 1, by omega⟩
  refine qG.blk 5 (pc' := 9) (ls' := [(2, 95), (3, x), (9, 0), (9, 0)]) (st' := [(0, wrp ((w 95 26) - (w 95 28)))]) (w' := w) (n' := 142) rfl ?_
  rw [show wrp ((w 95 26) - (w 95 28)) = w 95 26 - w 95 28 from wrp_id (by omega) (by omega)]
  refine qG.blk 1 (pc' := 10) (ls' := [(2, 95), (3, x), (9, 0), (9, 0)]) (st' := [(3, x), (0, w 95 26 - w 95 28)]) (w' := w) (n' := 142) rfl ?_
  refine qG.tlen hl rfl rfl (by omega) ?_
  show qG none (d + 1) 227 13 [(2, 95), (3, x), (9, 0), (9, 0)] [(0, ((l.length : Nat) : Int)), (0, w 95 26 - w 95 28)] w 142 Q9
  refine qG.br (P := w 95 26 - w 95 28 = ((l.length : Nat) : Int)) (pc1 := 16) (pc2 := 20) (st1 := []) rfl (fun hle => ?_) (fun hle => ?_)
  · skip
    refine qG.blk 5 (pc' := 24) (ls' := [(2, 95), (3, x), (0, 1), (0, 0)]) (st' := []) (w' := w) (n' := 142) rfl ?_
    have e8 : isK w l 0 = 1 := by unfold isK; simp only [*, if_true, if_false]
    rw [show qG none (d + 1) 227 24 [(2, 95), (3, x), (0, 1), (0, 0)] [] w 142 Q9 = qG none (d + 1) 227 24 [(2, 95), (3, x), (0, isK w l 0), (0, 0)] [] w 142 Q9 from by rw [e8]]
    have L24 : ∀ (m9 : Nat) (j : Nat), l.length - j = m9 → (j ≤ l.length) → qG none (d + 1) 227 24 [(2, 95), (3, x), (0, isK w l j), (0, ((j : Nat) : Int))] [] w 142 Q9 := by
      intro m9
      induction m9 using Nat.strongRecOn with
      | ind m9 ih24 =>
      intro j hm24 hI24
      refine qG.blk 2 (pc' := 26) (ls' := [(2, 95), (3, x), (0, isK w l j), (0, ((j : Nat) : Int))]) (st' := [(3, x), (0, ((j : Nat) : Int))]) (w' := w) (n' := 142) rfl ?_
      refine qG.tlen hl rfl rfl (by omega) ?_
      show qG none (d + 1) 227 29 [(2, 95), (3, x), (0, isK w l j), (0, ((j : Nat) : Int))] [(0, ((l.length : Nat) : Int)), (0, ((j : Nat) : Int))] w 142 Q9
      refine qG.br (P := ((j : Nat) : Int) < ((l.length : Nat) : Int)) (pc1 := 32) (pc2 := 67) (st1 := []) rfl (fun hj => ?_) (fun hj => ?_)
      · skip
        refine qG.blk 1 (pc' := 33) (ls' := [(2, 95), (3, x), (0, isK w l j), (0, ((j : Nat) : Int))]) (st' := [(0, isK w l j)]) (w' := w) (n' := 142) rfl ?_
        refine qG.br (P := isK w l j = 0) (pc1 := 67) (pc2 := 36) (st1 := []) rfl (fun hsame => ?_) (fun hsame => ?_)
        · skip
          refine qG.blk 1 (pc' := 68) (ls' := [(2, 95), (3, x), (0, isK w l j), (0, ((j : Nat) : Int))]) (st' := [(0, isK w l j)]) (w' := w) (n' := 142) rfl ?_
          refine qG.ret rfl (by have q9 := isK_01 w l j; exact decide_eq_true (by omega)) ?_
          subst hQ9
          exact ⟨by rw [hv9]; first | rw [show j = l.length by omega] | (rw [hsame, show l.length = j + (l.length - j) by omega, isK_0 hsame]), rfl, rfl⟩
        · skip
          have hlen8 := isK_len hsame
          refine qG.blk 2 (pc' := 40) (ls' := [(2, 95), (3, x), (0, isK w l j), (0, ((j : Nat) : Int))]) (st' := [(2, w 95 20)]) (w' := w) (n' := 142) rfl ?_
          rw [show w 95 20 = 114 from zref hI rfl rfl]
          refine qG.blk 4 (pc' := 46) (ls' := [(2, 95), (3, x), (0, isK w l j), (0, ((j : Nat) : Int))]) (st' := [(0, wrp ((w 95 28) + ((j : Nat) : Int))), (2, 114)]) (w' := w) (n' := 142) rfl ?_
          rw [show wrp ((w 95 28) + ((j : Nat) : Int)) = (((w 95 28).toNat + j : Nat) : Int) from by rw [wrp_id (by omega) (by omega)]; omega]
          refine qG.ild (m := 600) rfl rfl (by omega) (by decide) ?_
          show qG none (d + 1) 227 47 [(2, 95), (3, x), (0, isK w l j), (0, ((j : Nat) : Int))] [(0, w 114 ((w 95 28).toNat + j))] w 142 Q9
          refine qG.blk 2 (pc' := 49) (ls' := [(2, 95), (3, x), (0, isK w l j), (0, ((j : Nat) : Int))]) (st' := [(0, ((j : Nat) : Int)), (3, x), (0, w 114 ((w 95 28).toNat + j))]) (w' := w) (n' := 142) rfl ?_
          refine qG.tch hl rfl rfl (by omega) (by exact ⟨by omega, by omega⟩) ?_
          show qG none (d + 1) 227 52 [(2, 95), (3, x), (0, isK w l j), (0, ((j : Nat) : Int))] [(0, l.getD j 0), (0, w 114 ((w 95 28).toNat + j))] w 142 Q9
          refine qG.br (P := w 114 ((w 95 28).toNat + j) = l.getD j 0) (pc1 := 55) (pc2 := 59) (st1 := []) rfl (fun hch => ?_) (fun hch => ?_)
          · skip
            refine qG.blk 4 (pc' := 64) (ls' := [(2, 95), (3, x), (0, 1), (0, wrp (((j : Nat) : Int) + 1))]) (st' := []) (w' := w) (n' := 142) rfl ?_
            rw [show wrp (((j : Nat) : Int) + 1) = ((j + 1 : Nat) : Int) from wrp_id (by omega) (by omega)]
            refine qG.blk 1 (pc' := 24) (ls' := [(2, 95), (3, x), (0, 1), (0, ((j + 1 : Nat) : Int))]) (st' := []) (w' := w) (n' := 142) rfl ?_
            have e9 : isK w l (j + 1) = 1 := by show (if isK w l j = 0 then 0 else if w 114 ((w 95 28).toNat + j) = l.getD j 0 then 1 else 0) = _; rw [if_neg hsame]; first | rw [if_pos hch] | rw [if_neg hch]
            exact e9 ▸ ih24 _ (by omega) (j + 1) rfl (by omega)
          · skip
            refine qG.blk 3 (pc' := 64) (ls' := [(2, 95), (3, x), (0, 0), (0, wrp (((j : Nat) : Int) + 1))]) (st' := []) (w' := w) (n' := 142) rfl ?_
            rw [show wrp (((j : Nat) : Int) + 1) = ((j + 1 : Nat) : Int) from wrp_id (by omega) (by omega)]
            refine qG.blk 1 (pc' := 24) (ls' := [(2, 95), (3, x), (0, 0), (0, ((j + 1 : Nat) : Int))]) (st' := []) (w' := w) (n' := 142) rfl ?_
            have e9 : isK w l (j + 1) = 0 := by show (if isK w l j = 0 then 0 else if w 114 ((w 95 28).toNat + j) = l.getD j 0 then 1 else 0) = _; rw [if_neg hsame]; first | rw [if_pos hch] | rw [if_neg hch]
            exact e9 ▸ ih24 _ (by omega) (j + 1) rfl (by omega)
      · skip
        refine qG.blk 1 (pc' := 68) (ls' := [(2, 95), (3, x), (0, isK w l j), (0, ((j : Nat) : Int))]) (st' := [(0, isK w l j)]) (w' := w) (n' := 142) rfl ?_
        refine qG.ret rfl (by have q9 := isK_01 w l j; exact decide_eq_true (by omega)) ?_
        subst hQ9
        exact ⟨by rw [hv9]; first | rw [show j = l.length by omega] | (rw [hsame, show l.length = j + (l.length - j) by omega, isK_0 hsame]), rfl, rfl⟩
    exact L24 _ (0) rfl (by omega)
  · skip
    refine qG.blk 4 (pc' := 24) (ls' := [(2, 95), (3, x), (0, 0), (0, 0)]) (st' := []) (w' := w) (n' := 142) rfl ?_
    have e8 : isK w l 0 = 0 := by unfold isK; simp only [*, if_true, if_false]
    rw [show qG none (d + 1) 227 24 [(2, 95), (3, x), (0, 0), (0, 0)] [] w 142 Q9 = qG none (d + 1) 227 24 [(2, 95), (3, x), (0, isK w l 0), (0, 0)] [] w 142 Q9 from by rw [e8]]
    have L24_1 : ∀ (m9 : Nat) (j : Nat), l.length - j = m9 → (j ≤ l.length) → qG none (d + 1) 227 24 [(2, 95), (3, x), (0, isK w l j), (0, ((j : Nat) : Int))] [] w 142 Q9 := by
      intro m9
      induction m9 using Nat.strongRecOn with
      | ind m9 ih24 =>
      intro j hm24 hI24
      refine qG.blk 2 (pc' := 26) (ls' := [(2, 95), (3, x), (0, isK w l j), (0, ((j : Nat) : Int))]) (st' := [(3, x), (0, ((j : Nat) : Int))]) (w' := w) (n' := 142) rfl ?_
      refine qG.tlen hl rfl rfl (by omega) ?_
      show qG none (d + 1) 227 29 [(2, 95), (3, x), (0, isK w l j), (0, ((j : Nat) : Int))] [(0, ((l.length : Nat) : Int)), (0, ((j : Nat) : Int))] w 142 Q9
      refine qG.br (P := ((j : Nat) : Int) < ((l.length : Nat) : Int)) (pc1 := 32) (pc2 := 67) (st1 := []) rfl (fun hj => ?_) (fun hj => ?_)
      · skip
        refine qG.blk 1 (pc' := 33) (ls' := [(2, 95), (3, x), (0, isK w l j), (0, ((j : Nat) : Int))]) (st' := [(0, isK w l j)]) (w' := w) (n' := 142) rfl ?_
        refine qG.br (P := isK w l j = 0) (pc1 := 67) (pc2 := 36) (st1 := []) rfl (fun hsame => ?_) (fun hsame => ?_)
        · skip
          refine qG.blk 1 (pc' := 68) (ls' := [(2, 95), (3, x), (0, isK w l j), (0, ((j : Nat) : Int))]) (st' := [(0, isK w l j)]) (w' := w) (n' := 142) rfl ?_
          refine qG.ret rfl (by have q9 := isK_01 w l j; exact decide_eq_true (by omega)) ?_
          subst hQ9
          exact ⟨by rw [hv9]; first | rw [show j = l.length by omega] | (rw [hsame, show l.length = j + (l.length - j) by omega, isK_0 hsame]), rfl, rfl⟩
        · skip
          have hlen8 := isK_len hsame
          refine qG.blk 2 (pc' := 40) (ls' := [(2, 95), (3, x), (0, isK w l j), (0, ((j : Nat) : Int))]) (st' := [(2, w 95 20)]) (w' := w) (n' := 142) rfl ?_
          rw [show w 95 20 = 114 from zref hI rfl rfl]
          refine qG.blk 4 (pc' := 46) (ls' := [(2, 95), (3, x), (0, isK w l j), (0, ((j : Nat) : Int))]) (st' := [(0, wrp ((w 95 28) + ((j : Nat) : Int))), (2, 114)]) (w' := w) (n' := 142) rfl ?_
          rw [show wrp ((w 95 28) + ((j : Nat) : Int)) = (((w 95 28).toNat + j : Nat) : Int) from by rw [wrp_id (by omega) (by omega)]; omega]
          refine qG.ild (m := 600) rfl rfl (by omega) (by decide) ?_
          show qG none (d + 1) 227 47 [(2, 95), (3, x), (0, isK w l j), (0, ((j : Nat) : Int))] [(0, w 114 ((w 95 28).toNat + j))] w 142 Q9
          refine qG.blk 2 (pc' := 49) (ls' := [(2, 95), (3, x), (0, isK w l j), (0, ((j : Nat) : Int))]) (st' := [(0, ((j : Nat) : Int)), (3, x), (0, w 114 ((w 95 28).toNat + j))]) (w' := w) (n' := 142) rfl ?_
          refine qG.tch hl rfl rfl (by omega) (by exact ⟨by omega, by omega⟩) ?_
          show qG none (d + 1) 227 52 [(2, 95), (3, x), (0, isK w l j), (0, ((j : Nat) : Int))] [(0, l.getD j 0), (0, w 114 ((w 95 28).toNat + j))] w 142 Q9
          refine qG.br (P := w 114 ((w 95 28).toNat + j) = l.getD j 0) (pc1 := 55) (pc2 := 59) (st1 := []) rfl (fun hch => ?_) (fun hch => ?_)
          · skip
            refine qG.blk 4 (pc' := 64) (ls' := [(2, 95), (3, x), (0, 1), (0, wrp (((j : Nat) : Int) + 1))]) (st' := []) (w' := w) (n' := 142) rfl ?_
            rw [show wrp (((j : Nat) : Int) + 1) = ((j + 1 : Nat) : Int) from wrp_id (by omega) (by omega)]
            refine qG.blk 1 (pc' := 24) (ls' := [(2, 95), (3, x), (0, 1), (0, ((j + 1 : Nat) : Int))]) (st' := []) (w' := w) (n' := 142) rfl ?_
            have e9 : isK w l (j + 1) = 1 := by show (if isK w l j = 0 then 0 else if w 114 ((w 95 28).toNat + j) = l.getD j 0 then 1 else 0) = _; rw [if_neg hsame]; first | rw [if_pos hch] | rw [if_neg hch]
            exact e9 ▸ ih24 _ (by omega) (j + 1) rfl (by omega)
          · skip
            refine qG.blk 3 (pc' := 64) (ls' := [(2, 95), (3, x), (0, 0), (0, wrp (((j : Nat) : Int) + 1))]) (st' := []) (w' := w) (n' := 142) rfl ?_
            rw [show wrp (((j : Nat) : Int) + 1) = ((j + 1 : Nat) : Int) from wrp_id (by omega) (by omega)]
            refine qG.blk 1 (pc' := 24) (ls' := [(2, 95), (3, x), (0, 0), (0, ((j + 1 : Nat) : Int))]) (st' := []) (w' := w) (n' := 142) rfl ?_
            have e9 : isK w l (j + 1) = 0 := by show (if isK w l j = 0 then 0 else if w 114 ((w 95 28).toNat + j) = l.getD j 0 then 1 else 0) = _; rw [if_neg hsame]; first | rw [if_pos hch] | rw [if_neg hch]
            exact e9 ▸ ih24 _ (by omega) (j + 1) rfl (by omega)
      · skip
        refine qG.blk 1 (pc' := 68) (ls' := [(2, 95), (3, x), (0, isK w l j), (0, ((j : Nat) : Int))]) (st' := [(0, isK w l j)]) (w' := w) (n' := 142) rfl ?_
        refine qG.ret rfl (by have q9 := isK_01 w l j; exact decide_eq_true (by omega)) ?_
        subst hQ9
        exact ⟨by rw [hv9]; first | rw [show j = l.length by omega] | (rw [hsame, show l.length = j + (l.length - j) by omega, isK_0 hsame]), rfl, rfl⟩
    exact L24_1 _ (0) rfl (by omega)
noncomputable def showV (w : qW) : Int := if ¬ isV w 5 = 0 then 20 else if ¬ isV w 6 = 0 then 21 else if ¬ isV w 7 = 0 then 22 else if ¬ isV w 8 = 0 then 23 else if ¬ isV w 9 = 0 then 24 else if ¬ isV w 10 = 0 then 25 else 1
noncomputable def wordV (w : qW) : Int := if ¬ w 95 35 = 0 then showV w else if ¬ isV w 11 = 0 then 7 else if ¬ isV w 12 = 0 then 8 else if ¬ isV w 13 = 0 then 3 else if ¬ isV w 14 = 0 then 4 else if ¬ isV w 15 = 0 then 5 else if ¬ isV w 16 = 0 then 6 else if ¬ isV w 17 = 0 then 41 else if ¬ isV w 18 = 0 then 42 else if ¬ isV w 19 = 0 then 43 else if ¬ isV w 20 = 0 then 44 else if ¬ isV w 21 = 0 then 45 else if ¬ isV w 22 = 0 then 46 else if ¬ isV w 23 = 0 then 47 else 1
theorem showV_in (w : qW) : 1 ≤ showV w ∧ showV w ≤ 47 := by unfold showV; (repeat' split) <;> omega
theorem wordV_in (w : qW) : 1 ≤ wordV w ∧ wordV w ≤ 47 := by
  have := showV_in w
  unfold wordV; (repeat' split) <;> omega
theorem K_showWord {d : Nat} (hd : 5 ≤ d) (w : qW) (hI : yInv zgf zga zra zSp w) : qG none d 228 0 [(2, 95)] [] w 142 (fun (r : qV) (w1 : qW) (n1 : Nat) => r = (0, showV w) ∧ w1 = w ∧ n1 = 142) := by
  generalize hQ9 : (fun (r : qV) (w1 : qW) (n1 : Nat) => r = (0, showV w) ∧ w1 = w ∧ n1 = 142) = Q9
  obtain ⟨d, rfl⟩ : ∃ d9, d = d9 + 1 := ⟨d - 1, by omega⟩
  refine qG.blk 2 (pc' := 3) (ls' := [(2, 95)]) (st' := [(3, 5), (2, 95)]) (w' := w) (n' := 142) rfl ?_
  refine qG.call (t := 227) (na := 2) (sk := 1) (md := 1) (ls1 := [(2, 95), (3, 5), (9, 0), (9, 0)]) (r1 := []) rfl rfl rfl rfl rfl (K_is (by omega) 5 _ rfl w hI) ?_
  rintro _ w7 _ ⟨rfl, hw7, rfl⟩
  rw [hw7]
  show qG none (d + 1) 228 6 [(2, 95)] [(0, isV w 5)] w 142 Q9
  refine qG.br (P := isV w 5 = 0) (pc1 := 12) (pc2 := 9) (st1 := []) rfl (fun h1 => ?_) (fun h1 => ?_)
  · skip
    refine qG.blk 2 (pc' := 15) (ls' := [(2, 95)]) (st' := [(3, 6), (2, 95)]) (w' := w) (n' := 142) rfl ?_
    refine qG.call (t := 227) (na := 2) (sk := 1) (md := 1) (ls1 := [(2, 95), (3, 6), (9, 0), (9, 0)]) (r1 := []) rfl rfl rfl rfl rfl (K_is (by omega) 6 _ rfl w hI) ?_
    rintro _ w7 _ ⟨rfl, hw7, rfl⟩
    rw [hw7]
    show qG none (d + 1) 228 18 [(2, 95)] [(0, isV w 6)] w 142 Q9
    refine qG.br (P := isV w 6 = 0) (pc1 := 24) (pc2 := 21) (st1 := []) rfl (fun h2 => ?_) (fun h2 => ?_)
    · skip
      refine qG.blk 2 (pc' := 27) (ls' := [(2, 95)]) (st' := [(3, 7), (2, 95)]) (w' := w) (n' := 142) rfl ?_
      refine qG.call (t := 227) (na := 2) (sk := 1) (md := 1) (ls1 := [(2, 95), (3, 7), (9, 0), (9, 0)]) (r1 := []) rfl rfl rfl rfl rfl (K_is (by omega) 7 _ rfl w hI) ?_
      rintro _ w7 _ ⟨rfl, hw7, rfl⟩
      rw [hw7]
      show qG none (d + 1) 228 30 [(2, 95)] [(0, isV w 7)] w 142 Q9
      refine qG.br (P := isV w 7 = 0) (pc1 := 36) (pc2 := 33) (st1 := []) rfl (fun h3 => ?_) (fun h3 => ?_)
      · skip
        refine qG.blk 2 (pc' := 39) (ls' := [(2, 95)]) (st' := [(3, 8), (2, 95)]) (w' := w) (n' := 142) rfl ?_
        refine qG.call (t := 227) (na := 2) (sk := 1) (md := 1) (ls1 := [(2, 95), (3, 8), (9, 0), (9, 0)]) (r1 := []) rfl rfl rfl rfl rfl (K_is (by omega) 8 _ rfl w hI) ?_
        rintro _ w7 _ ⟨rfl, hw7, rfl⟩
        rw [hw7]
        show qG none (d + 1) 228 42 [(2, 95)] [(0, isV w 8)] w 142 Q9
        refine qG.br (P := isV w 8 = 0) (pc1 := 48) (pc2 := 45) (st1 := []) rfl (fun h4 => ?_) (fun h4 => ?_)
        · skip
          refine qG.blk 2 (pc' := 51) (ls' := [(2, 95)]) (st' := [(3, 9), (2, 95)]) (w' := w) (n' := 142) rfl ?_
          refine qG.call (t := 227) (na := 2) (sk := 1) (md := 1) (ls1 := [(2, 95), (3, 9), (9, 0), (9, 0)]) (r1 := []) rfl rfl rfl rfl rfl (K_is (by omega) 9 _ rfl w hI) ?_
          rintro _ w7 _ ⟨rfl, hw7, rfl⟩
          rw [hw7]
          show qG none (d + 1) 228 54 [(2, 95)] [(0, isV w 9)] w 142 Q9
          refine qG.br (P := isV w 9 = 0) (pc1 := 60) (pc2 := 57) (st1 := []) rfl (fun h5 => ?_) (fun h5 => ?_)
          · skip
            refine qG.blk 2 (pc' := 63) (ls' := [(2, 95)]) (st' := [(3, 10), (2, 95)]) (w' := w) (n' := 142) rfl ?_
            refine qG.call (t := 227) (na := 2) (sk := 1) (md := 1) (ls1 := [(2, 95), (3, 10), (9, 0), (9, 0)]) (r1 := []) rfl rfl rfl rfl rfl (K_is (by omega) 10 _ rfl w hI) ?_
            rintro _ w7 _ ⟨rfl, hw7, rfl⟩
            rw [hw7]
            show qG none (d + 1) 228 66 [(2, 95)] [(0, isV w 10)] w 142 Q9
            refine qG.br (P := isV w 10 = 0) (pc1 := 74) (pc2 := 69) (st1 := []) rfl (fun h6 => ?_) (fun h6 => ?_)
            · skip
              refine qG.blk 1 (pc' := 75) (ls' := [(2, 95)]) (st' := [(0, 1)]) (w' := w) (n' := 142) rfl ?_
              refine qG.ret rfl rfl ?_
              subst hQ9
              exact ⟨by unfold showV; simp only [*, if_true, if_false, not_true, not_false_iff], rfl, rfl⟩
            · skip
              refine qG.blk 2 (pc' := 75) (ls' := [(2, 95)]) (st' := [(0, 25)]) (w' := w) (n' := 142) rfl ?_
              refine qG.ret rfl rfl ?_
              subst hQ9
              exact ⟨by unfold showV; simp only [*, if_true, if_false, not_true, not_false_iff], rfl, rfl⟩
          · skip
            refine qG.blk 1 (pc' := 59) (ls' := [(2, 95)]) (st' := [(0, 24)]) (w' := w) (n' := 142) rfl ?_
            refine qG.ret rfl rfl ?_
            subst hQ9
            exact ⟨by unfold showV; simp only [*, if_true, if_false, not_true, not_false_iff], rfl, rfl⟩
        · skip
          refine qG.blk 1 (pc' := 47) (ls' := [(2, 95)]) (st' := [(0, 23)]) (w' := w) (n' := 142) rfl ?_
          refine qG.ret rfl rfl ?_
          subst hQ9
          exact ⟨by unfold showV; simp only [*, if_true, if_false, not_true, not_false_iff], rfl, rfl⟩
      · skip
        refine qG.blk 1 (pc' := 35) (ls' := [(2, 95)]) (st' := [(0, 22)]) (w' := w) (n' := 142) rfl ?_
        refine qG.ret rfl rfl ?_
        subst hQ9
        exact ⟨by unfold showV; simp only [*, if_true, if_false, not_true, not_false_iff], rfl, rfl⟩
    · skip
      refine qG.blk 1 (pc' := 23) (ls' := [(2, 95)]) (st' := [(0, 21)]) (w' := w) (n' := 142) rfl ?_
      refine qG.ret rfl rfl ?_
      subst hQ9
      exact ⟨by unfold showV; simp only [*, if_true, if_false, not_true, not_false_iff], rfl, rfl⟩
  · skip
    refine qG.blk 1 (pc' := 11) (ls' := [(2, 95)]) (st' := [(0, 20)]) (w' := w) (n' := 142) rfl ?_
    refine qG.ret rfl rfl ?_
    subst hQ9
    exact ⟨by unfold showV; simp only [*, if_true, if_false, not_true, not_false_iff], rfl, rfl⟩
theorem K_word {d : Nat} (hd : 6 ≤ d) (w : qW) (hI : yInv zgf zga zra zSp w) : qG none d 229 0 [(2, 95)] [] w 142 (fun (r : qV) (w1 : qW) (n1 : Nat) => r = (0, wordV w) ∧ w1 = w ∧ n1 = 142) := by
  generalize hQ9 : (fun (r : qV) (w1 : qW) (n1 : Nat) => r = (0, wordV w) ∧ w1 = w ∧ n1 = 142) = Q9
  obtain ⟨d, rfl⟩ : ∃ d9, d = d9 + 1 := ⟨d - 1, by omega⟩
  refine qG.blk 2 (pc' := 4) (ls' := [(2, 95)]) (st' := [(0, w 95 35)]) (w' := w) (n' := 142) rfl ?_
  refine qG.br (P := w 95 35 = 0) (pc1 := 12) (pc2 := 7) (st1 := []) rfl (fun h1 => ?_) (fun h1 => ?_)
  · skip
    refine qG.blk 2 (pc' := 15) (ls' := [(2, 95)]) (st' := [(3, 11), (2, 95)]) (w' := w) (n' := 142) rfl ?_
    refine qG.call (t := 227) (na := 2) (sk := 1) (md := 1) (ls1 := [(2, 95), (3, 11), (9, 0), (9, 0)]) (r1 := []) rfl rfl rfl rfl rfl (K_is (by omega) 11 _ rfl w hI) ?_
    rintro _ w7 _ ⟨rfl, hw7, rfl⟩
    rw [hw7]
    show qG none (d + 1) 229 18 [(2, 95)] [(0, isV w 11)] w 142 Q9
    refine qG.br (P := isV w 11 = 0) (pc1 := 24) (pc2 := 21) (st1 := []) rfl (fun h2 => ?_) (fun h2 => ?_)
    · skip
      refine qG.blk 2 (pc' := 27) (ls' := [(2, 95)]) (st' := [(3, 12), (2, 95)]) (w' := w) (n' := 142) rfl ?_
      refine qG.call (t := 227) (na := 2) (sk := 1) (md := 1) (ls1 := [(2, 95), (3, 12), (9, 0), (9, 0)]) (r1 := []) rfl rfl rfl rfl rfl (K_is (by omega) 12 _ rfl w hI) ?_
      rintro _ w7 _ ⟨rfl, hw7, rfl⟩
      rw [hw7]
      show qG none (d + 1) 229 30 [(2, 95)] [(0, isV w 12)] w 142 Q9
      refine qG.br (P := isV w 12 = 0) (pc1 := 36) (pc2 := 33) (st1 := []) rfl (fun h3 => ?_) (fun h3 => ?_)
      · skip
        refine qG.blk 2 (pc' := 40) (ls' := [(2, 95)]) (st' := [(3, 13), (2, 95)]) (w' := w) (n' := 142) rfl ?_
        refine qG.call (t := 227) (na := 2) (sk := 1) (md := 1) (ls1 := [(2, 95), (3, 13), (9, 0), (9, 0)]) (r1 := []) rfl rfl rfl rfl rfl (K_is (by omega) 13 _ rfl w hI) ?_
        rintro _ w7 _ ⟨rfl, hw7, rfl⟩
        rw [hw7]
        show qG none (d + 1) 229 43 [(2, 95)] [(0, isV w 13)] w 142 Q9
        refine qG.br (P := isV w 13 = 0) (pc1 := 48) (pc2 := 46) (st1 := []) rfl (fun h4 => ?_) (fun h4 => ?_)
        · skip
          refine qG.blk 2 (pc' := 52) (ls' := [(2, 95)]) (st' := [(3, 14), (2, 95)]) (w' := w) (n' := 142) rfl ?_
          refine qG.call (t := 227) (na := 2) (sk := 1) (md := 1) (ls1 := [(2, 95), (3, 14), (9, 0), (9, 0)]) (r1 := []) rfl rfl rfl rfl rfl (K_is (by omega) 14 _ rfl w hI) ?_
          rintro _ w7 _ ⟨rfl, hw7, rfl⟩
          rw [hw7]
          show qG none (d + 1) 229 55 [(2, 95)] [(0, isV w 14)] w 142 Q9
          refine qG.br (P := isV w 14 = 0) (pc1 := 60) (pc2 := 58) (st1 := []) rfl (fun h5 => ?_) (fun h5 => ?_)
          · skip
            refine qG.blk 2 (pc' := 64) (ls' := [(2, 95)]) (st' := [(3, 15), (2, 95)]) (w' := w) (n' := 142) rfl ?_
            refine qG.call (t := 227) (na := 2) (sk := 1) (md := 1) (ls1 := [(2, 95), (3, 15), (9, 0), (9, 0)]) (r1 := []) rfl rfl rfl rfl rfl (K_is (by omega) 15 _ rfl w hI) ?_
            rintro _ w7 _ ⟨rfl, hw7, rfl⟩
            rw [hw7]
            show qG none (d + 1) 229 67 [(2, 95)] [(0, isV w 15)] w 142 Q9
            refine qG.br (P := isV w 15 = 0) (pc1 := 72) (pc2 := 70) (st1 := []) rfl (fun h6 => ?_) (fun h6 => ?_)
            · skip
              refine qG.blk 2 (pc' := 76) (ls' := [(2, 95)]) (st' := [(3, 16), (2, 95)]) (w' := w) (n' := 142) rfl ?_
              refine qG.call (t := 227) (na := 2) (sk := 1) (md := 1) (ls1 := [(2, 95), (3, 16), (9, 0), (9, 0)]) (r1 := []) rfl rfl rfl rfl rfl (K_is (by omega) 16 _ rfl w hI) ?_
              rintro _ w7 _ ⟨rfl, hw7, rfl⟩
              rw [hw7]
              show qG none (d + 1) 229 79 [(2, 95)] [(0, isV w 16)] w 142 Q9
              refine qG.br (P := isV w 16 = 0) (pc1 := 85) (pc2 := 82) (st1 := []) rfl (fun h7 => ?_) (fun h7 => ?_)
              · skip
                refine qG.blk 2 (pc' := 89) (ls' := [(2, 95)]) (st' := [(3, 17), (2, 95)]) (w' := w) (n' := 142) rfl ?_
                refine qG.call (t := 227) (na := 2) (sk := 1) (md := 1) (ls1 := [(2, 95), (3, 17), (9, 0), (9, 0)]) (r1 := []) rfl rfl rfl rfl rfl (K_is (by omega) 17 _ rfl w hI) ?_
                rintro _ w7 _ ⟨rfl, hw7, rfl⟩
                rw [hw7]
                show qG none (d + 1) 229 92 [(2, 95)] [(0, isV w 17)] w 142 Q9
                refine qG.br (P := isV w 17 = 0) (pc1 := 98) (pc2 := 95) (st1 := []) rfl (fun h8 => ?_) (fun h8 => ?_)
                · skip
                  refine qG.blk 2 (pc' := 102) (ls' := [(2, 95)]) (st' := [(3, 18), (2, 95)]) (w' := w) (n' := 142) rfl ?_
                  refine qG.call (t := 227) (na := 2) (sk := 1) (md := 1) (ls1 := [(2, 95), (3, 18), (9, 0), (9, 0)]) (r1 := []) rfl rfl rfl rfl rfl (K_is (by omega) 18 _ rfl w hI) ?_
                  rintro _ w7 _ ⟨rfl, hw7, rfl⟩
                  rw [hw7]
                  show qG none (d + 1) 229 105 [(2, 95)] [(0, isV w 18)] w 142 Q9
                  refine qG.br (P := isV w 18 = 0) (pc1 := 111) (pc2 := 108) (st1 := []) rfl (fun h9 => ?_) (fun h9 => ?_)
                  · skip
                    refine qG.blk 2 (pc' := 115) (ls' := [(2, 95)]) (st' := [(3, 19), (2, 95)]) (w' := w) (n' := 142) rfl ?_
                    refine qG.call (t := 227) (na := 2) (sk := 1) (md := 1) (ls1 := [(2, 95), (3, 19), (9, 0), (9, 0)]) (r1 := []) rfl rfl rfl rfl rfl (K_is (by omega) 19 _ rfl w hI) ?_
                    rintro _ w7 _ ⟨rfl, hw7, rfl⟩
                    rw [hw7]
                    show qG none (d + 1) 229 118 [(2, 95)] [(0, isV w 19)] w 142 Q9
                    refine qG.br (P := isV w 19 = 0) (pc1 := 124) (pc2 := 121) (st1 := []) rfl (fun h10 => ?_) (fun h10 => ?_)
                    · skip
                      refine qG.blk 2 (pc' := 128) (ls' := [(2, 95)]) (st' := [(3, 20), (2, 95)]) (w' := w) (n' := 142) rfl ?_
                      refine qG.call (t := 227) (na := 2) (sk := 1) (md := 1) (ls1 := [(2, 95), (3, 20), (9, 0), (9, 0)]) (r1 := []) rfl rfl rfl rfl rfl (K_is (by omega) 20 _ rfl w hI) ?_
                      rintro _ w7 _ ⟨rfl, hw7, rfl⟩
                      rw [hw7]
                      show qG none (d + 1) 229 131 [(2, 95)] [(0, isV w 20)] w 142 Q9
                      refine qG.br (P := isV w 20 = 0) (pc1 := 137) (pc2 := 134) (st1 := []) rfl (fun h11 => ?_) (fun h11 => ?_)
                      · skip
                        refine qG.blk 2 (pc' := 141) (ls' := [(2, 95)]) (st' := [(3, 21), (2, 95)]) (w' := w) (n' := 142) rfl ?_
                        refine qG.call (t := 227) (na := 2) (sk := 1) (md := 1) (ls1 := [(2, 95), (3, 21), (9, 0), (9, 0)]) (r1 := []) rfl rfl rfl rfl rfl (K_is (by omega) 21 _ rfl w hI) ?_
                        rintro _ w7 _ ⟨rfl, hw7, rfl⟩
                        rw [hw7]
                        show qG none (d + 1) 229 144 [(2, 95)] [(0, isV w 21)] w 142 Q9
                        refine qG.br (P := isV w 21 = 0) (pc1 := 150) (pc2 := 147) (st1 := []) rfl (fun h12 => ?_) (fun h12 => ?_)
                        · skip
                          refine qG.blk 2 (pc' := 154) (ls' := [(2, 95)]) (st' := [(3, 22), (2, 95)]) (w' := w) (n' := 142) rfl ?_
                          refine qG.call (t := 227) (na := 2) (sk := 1) (md := 1) (ls1 := [(2, 95), (3, 22), (9, 0), (9, 0)]) (r1 := []) rfl rfl rfl rfl rfl (K_is (by omega) 22 _ rfl w hI) ?_
                          rintro _ w7 _ ⟨rfl, hw7, rfl⟩
                          rw [hw7]
                          show qG none (d + 1) 229 157 [(2, 95)] [(0, isV w 22)] w 142 Q9
                          refine qG.br (P := isV w 22 = 0) (pc1 := 163) (pc2 := 160) (st1 := []) rfl (fun h13 => ?_) (fun h13 => ?_)
                          · skip
                            refine qG.blk 2 (pc' := 167) (ls' := [(2, 95)]) (st' := [(3, 23), (2, 95)]) (w' := w) (n' := 142) rfl ?_
                            refine qG.call (t := 227) (na := 2) (sk := 1) (md := 1) (ls1 := [(2, 95), (3, 23), (9, 0), (9, 0)]) (r1 := []) rfl rfl rfl rfl rfl (K_is (by omega) 23 _ rfl w hI) ?_
                            rintro _ w7 _ ⟨rfl, hw7, rfl⟩
                            rw [hw7]
                            show qG none (d + 1) 229 170 [(2, 95)] [(0, isV w 23)] w 142 Q9
                            refine qG.br (P := isV w 23 = 0) (pc1 := 178) (pc2 := 173) (st1 := []) rfl (fun h14 => ?_) (fun h14 => ?_)
                            · skip
                              refine qG.blk 1 (pc' := 179) (ls' := [(2, 95)]) (st' := [(0, 1)]) (w' := w) (n' := 142) rfl ?_
                              refine qG.ret rfl rfl ?_
                              subst hQ9
                              exact ⟨by unfold wordV; simp only [*, if_true, if_false, not_true, not_false_iff], rfl, rfl⟩
                            · skip
                              refine qG.blk 2 (pc' := 179) (ls' := [(2, 95)]) (st' := [(0, 47)]) (w' := w) (n' := 142) rfl ?_
                              refine qG.ret rfl rfl ?_
                              subst hQ9
                              exact ⟨by unfold wordV; simp only [*, if_true, if_false, not_true, not_false_iff], rfl, rfl⟩
                          · skip
                            refine qG.blk 1 (pc' := 162) (ls' := [(2, 95)]) (st' := [(0, 46)]) (w' := w) (n' := 142) rfl ?_
                            refine qG.ret rfl rfl ?_
                            subst hQ9
                            exact ⟨by unfold wordV; simp only [*, if_true, if_false, not_true, not_false_iff], rfl, rfl⟩
                        · skip
                          refine qG.blk 1 (pc' := 149) (ls' := [(2, 95)]) (st' := [(0, 45)]) (w' := w) (n' := 142) rfl ?_
                          refine qG.ret rfl rfl ?_
                          subst hQ9
                          exact ⟨by unfold wordV; simp only [*, if_true, if_false, not_true, not_false_iff], rfl, rfl⟩
                      · skip
                        refine qG.blk 1 (pc' := 136) (ls' := [(2, 95)]) (st' := [(0, 44)]) (w' := w) (n' := 142) rfl ?_
                        refine qG.ret rfl rfl ?_
                        subst hQ9
                        exact ⟨by unfold wordV; simp only [*, if_true, if_false, not_true, not_false_iff], rfl, rfl⟩
                    · skip
                      refine qG.blk 1 (pc' := 123) (ls' := [(2, 95)]) (st' := [(0, 43)]) (w' := w) (n' := 142) rfl ?_
                      refine qG.ret rfl rfl ?_
                      subst hQ9
                      exact ⟨by unfold wordV; simp only [*, if_true, if_false, not_true, not_false_iff], rfl, rfl⟩
                  · skip
                    refine qG.blk 1 (pc' := 110) (ls' := [(2, 95)]) (st' := [(0, 42)]) (w' := w) (n' := 142) rfl ?_
                    refine qG.ret rfl rfl ?_
                    subst hQ9
                    exact ⟨by unfold wordV; simp only [*, if_true, if_false, not_true, not_false_iff], rfl, rfl⟩
                · skip
                  refine qG.blk 1 (pc' := 97) (ls' := [(2, 95)]) (st' := [(0, 41)]) (w' := w) (n' := 142) rfl ?_
                  refine qG.ret rfl rfl ?_
                  subst hQ9
                  exact ⟨by unfold wordV; simp only [*, if_true, if_false, not_true, not_false_iff], rfl, rfl⟩
              · skip
                refine qG.blk 1 (pc' := 84) (ls' := [(2, 95)]) (st' := [(0, 6)]) (w' := w) (n' := 142) rfl ?_
                refine qG.ret rfl rfl ?_
                subst hQ9
                exact ⟨by unfold wordV; simp only [*, if_true, if_false, not_true, not_false_iff], rfl, rfl⟩
            · skip
              refine qG.blk 1 (pc' := 71) (ls' := [(2, 95)]) (st' := [(0, 5)]) (w' := w) (n' := 142) rfl ?_
              refine qG.ret rfl rfl ?_
              subst hQ9
              exact ⟨by unfold wordV; simp only [*, if_true, if_false, not_true, not_false_iff], rfl, rfl⟩
          · skip
            refine qG.blk 1 (pc' := 59) (ls' := [(2, 95)]) (st' := [(0, 4)]) (w' := w) (n' := 142) rfl ?_
            refine qG.ret rfl rfl ?_
            subst hQ9
            exact ⟨by unfold wordV; simp only [*, if_true, if_false, not_true, not_false_iff], rfl, rfl⟩
        · skip
          refine qG.blk 1 (pc' := 47) (ls' := [(2, 95)]) (st' := [(0, 3)]) (w' := w) (n' := 142) rfl ?_
          refine qG.ret rfl rfl ?_
          subst hQ9
          exact ⟨by unfold wordV; simp only [*, if_true, if_false, not_true, not_false_iff], rfl, rfl⟩
      · skip
        refine qG.blk 1 (pc' := 35) (ls' := [(2, 95)]) (st' := [(0, 8)]) (w' := w) (n' := 142) rfl ?_
        refine qG.ret rfl rfl ?_
        subst hQ9
        exact ⟨by unfold wordV; simp only [*, if_true, if_false, not_true, not_false_iff], rfl, rfl⟩
    · skip
      refine qG.blk 1 (pc' := 23) (ls' := [(2, 95)]) (st' := [(0, 7)]) (w' := w) (n' := 142) rfl ?_
      refine qG.ret rfl rfl ?_
      subst hQ9
      exact ⟨by unfold wordV; simp only [*, if_true, if_false, not_true, not_false_iff], rfl, rfl⟩
  · skip
    refine qG.blk 1 (pc' := 8) (ls' := [(2, 95)]) (st' := [(2, 95)]) (w' := w) (n' := 142) rfl ?_
    refine qG.call (t := 228) (na := 1) (sk := 1) (md := 1) (ls1 := [(2, 95)]) (r1 := []) rfl rfl rfl rfl rfl (K_showWord (by omega) w hI) ?_
    rintro _ w7 _ ⟨rfl, hw7, rfl⟩
    rw [hw7]
    show qG none (d + 1) 229 11 [(2, 95)] [(0, showV w)] w 142 Q9
    refine qG.ret rfl rfl ?_
    subst hQ9
    exact ⟨by unfold wordV; simp only [*, if_true, if_false, not_true, not_false_iff], rfl, rfl⟩
noncomputable def sgnV (w : qW) (c : Int) : Int := if c = 59 then 1 else if ¬ w 95 35 = 0 then 0 else if c = 43 ∨ c = 45 ∨ c = 42 ∨ c = 47 ∨ c = 40 ∨ c = 41 ∨ c = 60 ∨ c = 61 ∨ c = 62 then 1 else 0
theorem K_isSign {d : Nat} (hd : 0 ≤ d) (c : Int) (w : qW) : qG none d 230 0 [(2, 95), (0, c)] [] w 142 (fun (r : qV) (w1 : qW) (n1 : Nat) => r = (0, sgnV w c) ∧ w1 = w ∧ n1 = 142) := by
  generalize hQ9 : (fun (r : qV) (w1 : qW) (n1 : Nat) => r = (0, sgnV w c) ∧ w1 = w ∧ n1 = 142) = Q9
  refine qG.blk 2 (pc' := 3) (ls' := [(2, 95), (0, c)]) (st' := [(0, 59), (0, c)]) (w' := w) (n' := 142) rfl ?_
  refine qG.br (P := c = 59) (pc1 := 67) (pc2 := 6) (st1 := []) rfl (fun h1 => ?_) (fun h1 => ?_)
  · skip
    refine qG.blk 2 (pc' := 72) (ls' := [(2, 95), (0, c)]) (st' := [(0, 1)]) (w' := w) (n' := 142) rfl ?_
    refine qG.ret rfl (by first | rfl | exact decide_eq_true (by omega)) ?_
    subst hQ9
    exact ⟨by unfold sgnV; (repeat' split) <;> first | rfl | (exfalso; omega), rfl, rfl⟩
  · skip
    refine qG.blk 2 (pc' := 10) (ls' := [(2, 95), (0, c)]) (st' := [(0, w 95 35)]) (w' := w) (n' := 142) rfl ?_
    refine qG.br (P := w 95 35 = 0) (pc1 := 13) (pc2 := 71) (st1 := []) rfl (fun h2 => ?_) (fun h2 => ?_)
    · skip
      refine qG.blk 2 (pc' := 16) (ls' := [(2, 95), (0, c)]) (st' := [(0, 43), (0, c)]) (w' := w) (n' := 142) rfl ?_
      refine qG.br (P := c = 43) (pc1 := 67) (pc2 := 19) (st1 := []) rfl (fun h3 => ?_) (fun h3 => ?_)
      · skip
        refine qG.blk 2 (pc' := 72) (ls' := [(2, 95), (0, c)]) (st' := [(0, 1)]) (w' := w) (n' := 142) rfl ?_
        refine qG.ret rfl (by first | rfl | exact decide_eq_true (by omega)) ?_
        subst hQ9
        exact ⟨by unfold sgnV; (repeat' split) <;> first | rfl | (exfalso; omega), rfl, rfl⟩
      · skip
        refine qG.blk 2 (pc' := 22) (ls' := [(2, 95), (0, c)]) (st' := [(0, 45), (0, c)]) (w' := w) (n' := 142) rfl ?_
        refine qG.br (P := c = 45) (pc1 := 67) (pc2 := 25) (st1 := []) rfl (fun h4 => ?_) (fun h4 => ?_)
        · skip
          refine qG.blk 2 (pc' := 72) (ls' := [(2, 95), (0, c)]) (st' := [(0, 1)]) (w' := w) (n' := 142) rfl ?_
          refine qG.ret rfl (by first | rfl | exact decide_eq_true (by omega)) ?_
          subst hQ9
          exact ⟨by unfold sgnV; (repeat' split) <;> first | rfl | (exfalso; omega), rfl, rfl⟩
        · skip
          refine qG.blk 2 (pc' := 28) (ls' := [(2, 95), (0, c)]) (st' := [(0, 42), (0, c)]) (w' := w) (n' := 142) rfl ?_
          refine qG.br (P := c = 42) (pc1 := 67) (pc2 := 31) (st1 := []) rfl (fun h5 => ?_) (fun h5 => ?_)
          · skip
            refine qG.blk 2 (pc' := 72) (ls' := [(2, 95), (0, c)]) (st' := [(0, 1)]) (w' := w) (n' := 142) rfl ?_
            refine qG.ret rfl (by first | rfl | exact decide_eq_true (by omega)) ?_
            subst hQ9
            exact ⟨by unfold sgnV; (repeat' split) <;> first | rfl | (exfalso; omega), rfl, rfl⟩
          · skip
            refine qG.blk 2 (pc' := 34) (ls' := [(2, 95), (0, c)]) (st' := [(0, 47), (0, c)]) (w' := w) (n' := 142) rfl ?_
            refine qG.br (P := c = 47) (pc1 := 67) (pc2 := 37) (st1 := []) rfl (fun h6 => ?_) (fun h6 => ?_)
            · skip
              refine qG.blk 2 (pc' := 72) (ls' := [(2, 95), (0, c)]) (st' := [(0, 1)]) (w' := w) (n' := 142) rfl ?_
              refine qG.ret rfl (by first | rfl | exact decide_eq_true (by omega)) ?_
              subst hQ9
              exact ⟨by unfold sgnV; (repeat' split) <;> first | rfl | (exfalso; omega), rfl, rfl⟩
            · skip
              refine qG.blk 2 (pc' := 40) (ls' := [(2, 95), (0, c)]) (st' := [(0, 40), (0, c)]) (w' := w) (n' := 142) rfl ?_
              refine qG.br (P := c = 40) (pc1 := 67) (pc2 := 43) (st1 := []) rfl (fun h7 => ?_) (fun h7 => ?_)
              · skip
                refine qG.blk 2 (pc' := 72) (ls' := [(2, 95), (0, c)]) (st' := [(0, 1)]) (w' := w) (n' := 142) rfl ?_
                refine qG.ret rfl (by first | rfl | exact decide_eq_true (by omega)) ?_
                subst hQ9
                exact ⟨by unfold sgnV; (repeat' split) <;> first | rfl | (exfalso; omega), rfl, rfl⟩
              · skip
                refine qG.blk 2 (pc' := 46) (ls' := [(2, 95), (0, c)]) (st' := [(0, 41), (0, c)]) (w' := w) (n' := 142) rfl ?_
                refine qG.br (P := c = 41) (pc1 := 67) (pc2 := 49) (st1 := []) rfl (fun h8 => ?_) (fun h8 => ?_)
                · skip
                  refine qG.blk 2 (pc' := 72) (ls' := [(2, 95), (0, c)]) (st' := [(0, 1)]) (w' := w) (n' := 142) rfl ?_
                  refine qG.ret rfl (by first | rfl | exact decide_eq_true (by omega)) ?_
                  subst hQ9
                  exact ⟨by unfold sgnV; (repeat' split) <;> first | rfl | (exfalso; omega), rfl, rfl⟩
                · skip
                  refine qG.blk 2 (pc' := 52) (ls' := [(2, 95), (0, c)]) (st' := [(0, 60), (0, c)]) (w' := w) (n' := 142) rfl ?_
                  refine qG.br (P := c = 60) (pc1 := 67) (pc2 := 55) (st1 := []) rfl (fun h9 => ?_) (fun h9 => ?_)
                  · skip
                    refine qG.blk 2 (pc' := 72) (ls' := [(2, 95), (0, c)]) (st' := [(0, 1)]) (w' := w) (n' := 142) rfl ?_
                    refine qG.ret rfl (by first | rfl | exact decide_eq_true (by omega)) ?_
                    subst hQ9
                    exact ⟨by unfold sgnV; (repeat' split) <;> first | rfl | (exfalso; omega), rfl, rfl⟩
                  · skip
                    refine qG.blk 2 (pc' := 58) (ls' := [(2, 95), (0, c)]) (st' := [(0, 61), (0, c)]) (w' := w) (n' := 142) rfl ?_
                    refine qG.br (P := c = 61) (pc1 := 67) (pc2 := 61) (st1 := []) rfl (fun h10 => ?_) (fun h10 => ?_)
                    · skip
                      refine qG.blk 2 (pc' := 72) (ls' := [(2, 95), (0, c)]) (st' := [(0, 1)]) (w' := w) (n' := 142) rfl ?_
                      refine qG.ret rfl (by first | rfl | exact decide_eq_true (by omega)) ?_
                      subst hQ9
                      exact ⟨by unfold sgnV; (repeat' split) <;> first | rfl | (exfalso; omega), rfl, rfl⟩
                    · skip
                      refine qG.blk 2 (pc' := 64) (ls' := [(2, 95), (0, c)]) (st' := [(0, 62), (0, c)]) (w' := w) (n' := 142) rfl ?_
                      refine qG.br (P := c = 62) (pc1 := 67) (pc2 := 71) (st1 := []) rfl (fun h11 => ?_) (fun h11 => ?_)
                      · skip
                        refine qG.blk 2 (pc' := 72) (ls' := [(2, 95), (0, c)]) (st' := [(0, 1)]) (w' := w) (n' := 142) rfl ?_
                        refine qG.ret rfl (by first | rfl | exact decide_eq_true (by omega)) ?_
                        subst hQ9
                        exact ⟨by unfold sgnV; (repeat' split) <;> first | rfl | (exfalso; omega), rfl, rfl⟩
                      · skip
                        refine qG.blk 1 (pc' := 72) (ls' := [(2, 95), (0, c)]) (st' := [(0, 0)]) (w' := w) (n' := 142) rfl ?_
                        refine qG.ret rfl (by first | rfl | exact decide_eq_true (by omega)) ?_
                        subst hQ9
                        exact ⟨by unfold sgnV; (repeat' split) <;> first | rfl | (exfalso; omega), rfl, rfl⟩
    · skip
      refine qG.blk 1 (pc' := 72) (ls' := [(2, 95), (0, c)]) (st' := [(0, 0)]) (w' := w) (n' := 142) rfl ?_
      refine qG.ret rfl (by first | rfl | exact decide_eq_true (by omega)) ?_
      subst hQ9
      exact ⟨by unfold sgnV; (repeat' split) <;> first | rfl | (exfalso; omega), rfl, rfl⟩
noncomputable def BL (w : qW) (a b : Nat) : Prop := a ≤ b ∧ (∀ j, a ≤ j → j < b → seeV w j = 32 ∨ seeV w j = 10) ∧ ¬ (seeV w b = 32 ∨ seeV w b = 10)
noncomputable def LT (w : qW) (a b : Nat) : Prop := a ≤ b ∧ (∀ j, a ≤ j → j < b → letV (seeV w j) = 1) ∧ ¬ letV (seeV w b) = 1
noncomputable def DG (w : qW) (a b : Nat) : Prop := a ≤ b ∧ (∀ j, a ≤ j → j < b → digV (seeV w j) = 1) ∧ ¬ digV (seeV w b) = 1
/-- the number that n digits from a on are (four count) -/
noncomputable def valF (w : qW) (a : Nat) : Nat → Int
  | 0 => 0
  | n + 1 => if n < 4 then 10 * valF w a n + seeV w (a + n) - 48 else valF w a n
theorem valF_s {w : qW} {a n : Nat} : valF w a (n + 1) = if n < 4 then 10 * valF w a n + seeV w (a + n) - 48 else valF w a n := rfl
theorem valF_in {w : qW} {a b : Nat} (h : ∀ j, a ≤ j → j < b → digV (seeV w j) = 1) : ∀ n, a + n ≤ b → 0 ≤ valF w a n ∧ valF w a n ≤ 9999 ∧ (n = 0 → valF w a n ≤ 0) ∧ (n = 1 → valF w a n ≤ 9) ∧ (n = 2 → valF w a n ≤ 99) ∧ (n = 3 → valF w a n ≤ 999)
  | 0, _ => ⟨Int.le_refl 0, by show (0 : Int) ≤ _; decide, fun _ => Int.le_refl 0, fun z => by omega, fun z => by omega, fun z => by omega⟩
  | n + 1, hn => by
    obtain ⟨h1, h2, h3, h4, h5, h6⟩ := valF_in h n (by omega)
    have hd := digV_1.mp (h (a + n) (by omega) (by omega))
    unfold valF
    split
    · refine ⟨by omega, ?_, fun z => by omega, fun z => ?_, fun z => ?_, fun z => ?_⟩
      · rcases (show n = 0 ∨ n = 1 ∨ n = 2 ∨ n = 3 by omega) with e | e | e | e
        · have := h3 e; omega
        · have := h4 e; omega
        · have := h5 e; omega
        · have := h6 e; omega
      · have := h3 (by omega); omega
      · have := h4 (by omega); omega
      · have := h5 (by omega); omega
    · exact ⟨h1, h2, fun z => by omega, fun z => by omega, fun z => by omega, fun z => by omega⟩
/-- the state with the place of reading -/
noncomputable def atW (w : qW) (a : Nat) : qW := qup w 95 26 (a : Int)
theorem atW_id {w : qW} {a : Nat} (h : w 95 26 = (a : Int)) : w = atW w a := funext fun p => funext fun j => by
  unfold atW
  by_cases hp : p = 95
  · subst hp
    by_cases hj : j = 26
    · subst hj; rw [qup_k, h]
    · rw [qup_j hj]
  · rw [qup_ne hp]
theorem atW_at {w : qW} {a : Nat} : atW w a 95 26 = (a : Int) := qup_k
theorem atW_o {w : qW} {a p j : Nat} (h : ¬ (p = 95 ∧ j = 26)) : atW w a p j = w p j := by
  unfold atW
  by_cases hp : p = 95
  · subst hp; exact qup_j (fun z => h ⟨rfl, z⟩)
  · rw [qup_ne hp]
theorem atW_up {w : qW} {a b : Nat} : qup (atW w a) 95 26 (b : Int) = atW w b := by
  unfold atW
  funext p j
  by_cases hp : p = 95
  · subst hp
    by_cases hj : j = 26
    · subst hj; rw [qup_k, qup_k]
    · rw [qup_j hj, qup_j hj, qup_j hj]
  · rw [qup_ne hp, qup_ne hp, qup_ne hp]
theorem atW_I {w : qW} {a : Nat} (hI : yInv zgf zga zra zSp w) (ha : a ≤ 600) : yInv zgf zga zra zSp (atW w a) := zup_f hI (b := (0, 600)) rfl rfl rfl ⟨by show (0 : Int) ≤ _; omega, by show _ ≤ (600 : Int); omega⟩
theorem seeV_at {w : qW} {a k : Nat} : seeV (atW w a) k = seeV w k := seeV_up (by decide) k
noncomputable def tkW (w : qW) (a : Nat) : qW := qup (atW w a) 95 28 (a : Int)
noncomputable def dgW (t : qW) (b : Nat) (v : Int) : qW := qup (atW t b) 95 29 v
theorem tkW_at {w : qW} {a : Nat} : tkW w a 95 26 = (a : Int) := by unfold tkW; rw [qup_j (by decide), atW_at]
theorem tkW_tk {w : qW} {a : Nat} : tkW w a 95 28 = (a : Int) := qup_k
theorem tkW_I {w : qW} {a : Nat} (hI : yInv zgf zga zra zSp w) (ha : a ≤ 600) : yInv zgf zga zra zSp (tkW w a) := zup_f (atW_I hI ha) (b := (0, 600)) rfl rfl rfl ⟨by show (0 : Int) ≤ _; omega, by show _ ≤ (600 : Int); omega⟩
theorem seeV_tk {w : qW} {a k : Nat} : seeV (tkW w a) k = seeV w k := (seeV_up (by decide) k).trans seeV_at
theorem dgW_at {t : qW} {b : Nat} {v : Int} : dgW t b v 95 26 = (b : Int) := by unfold dgW; rw [qup_j (by decide), atW_at]
theorem dgW_val {t : qW} {b : Nat} {v : Int} : dgW t b v 95 29 = v := qup_k
theorem dgW_I {t : qW} {b : Nat} {v : Int} (hI : yInv zgf zga zra zSp t) (hb : b ≤ 600) (h0 : 0 ≤ v) (h1 : v ≤ 9999) : yInv zgf zga zra zSp (dgW t b v) := zup_f (atW_I hI hb) (b := (0, 9999)) rfl rfl rfl ⟨h0, h1⟩
theorem seeV_dg {t : qW} {b k : Nat} {v : Int} : seeV (dgW t b v) k = seeV t k := (seeV_up (by decide) k).trans seeV_at
theorem dgW_o {t : qW} {b p j : Nat} {v : Int} (h : ¬ (p = 95 ∧ (j = 26 ∨ j = 29))) : dgW t b v p j = t p j := by
  unfold dgW
  by_cases hp : p = 95
  · subst hp; rw [qup_j (fun z => h ⟨rfl, .inr z⟩), atW_o (fun z => h ⟨rfl, .inl z.2⟩)]
  · rw [qup_ne hp, atW_o (fun z => hp z.1)]
theorem dgW_up {t : qW} {b c : Nat} {v v' : Int} : qup (qup (dgW t b v) 95 29 v') 95 26 (c : Int) = dgW t c v' := by
  unfold dgW atW
  funext p j
  by_cases hp : p = 95
  · subst hp
    by_cases hj : j = 26
    · subst hj; rw [qup_k, qup_j (by decide), qup_k]
    · by_cases hk : j = 29
      · subst hk; rw [qup_j hj, qup_k, qup_k]
      · simp only [qup_j hj, qup_j hk]
  · simp only [qup_ne hp]
theorem dgW_up1 {t : qW} {b c : Nat} {v : Int} : qup (dgW t b v) 95 26 (c : Int) = dgW t c v := by
  unfold dgW atW
  funext p j
  by_cases hp : p = 95
  · subst hp
    by_cases hj : j = 26
    · subst hj; rw [qup_k, qup_j (by decide), qup_k]
    · by_cases hk : j = 29
      · subst hk; rw [qup_j hj, qup_k, qup_k]
      · simp only [qup_j hj, qup_j hk]
  · simp only [qup_ne hp]
/-- what next0 does from place a on, the blanks behind it -/
noncomputable def NB (w : qW) (a : Nat) (w' : qW) : Prop :=
  (seeV w a = -1 ∧ w' = qup (tkW w a) 95 27 0) ∨ (seeV w a ≠ -1 ∧ letV (seeV w a) = 1 ∧ ∃ b, LT w a b ∧ b ≤ 600 ∧ w' = qup (atW (tkW w a) b) 95 27 (wordV (atW (tkW w a) b))) ∨
  (seeV w a ≠ -1 ∧ ¬ letV (seeV w a) = 1 ∧ digV (seeV w a) = 1 ∧ ∃ b, DG w a b ∧ b ≤ 600 ∧ w' = qup (dgW (tkW w a) b (valF w a (b - a))) 95 27 (if b - a < 5 then 2 else 1)) ∨
  (seeV w a ≠ -1 ∧ ¬ letV (seeV w a) = 1 ∧ ¬ digV (seeV w a) = 1 ∧ a < 600 ∧ w' = qup (atW (tkW w a) (a + 1)) 95 27 (if sgnV w (seeV w a) = 0 then 1 else 100 + seeV w a))
noncomputable def NX (w w' : qW) : Prop := ∃ a, BL w (w 95 26).toNat a ∧ a ≤ 600 ∧ NB w a w'
theorem K_next0B {d : Nat} (hd : 7 ≤ d) (w : qW) (a : Nat) (ha6 : a ≤ 600) (hI : yInv zgf zga zra zSp w) : qG none d 231 47 [(2, 95), (9, 0)] [] (tkW w a) 142 (fun (r : qV) (w1 : qW) (n1 : Nat) => r = (9, 0) ∧ n1 = 142 ∧ NB w a w1) := by
  generalize hQ9 : (fun (r : qV) (w1 : qW) (n1 : Nat) => r = (9, 0) ∧ n1 = 142 ∧ NB w a w1) = Q9
  obtain ⟨d, rfl⟩ : ∃ d9, d = d9 + 1 := ⟨d - 1, by omega⟩
  have hIT := tkW_I hI ha6
  have hsa := seeV_in hI a
  have hlet01 := letV_01 (seeV w a)
  refine qG.blk 3 (pc' := 52) (ls' := [(2, 95), (9, 0)]) (st' := [(0, (tkW w a) 95 26), (2, 95)]) (w' := (tkW w a)) (n' := 142) rfl ?_
  rw [show (tkW w a) 95 26 = ((a : Nat) : Int) from tkW_at]
  refine qG.call (t := 224) (na := 2) (sk := 1) (md := 1) (ls1 := [(2, 95), (0, ((a : Nat) : Int))]) (r1 := []) rfl rfl rfl rfl rfl (K_see (by omega) a (by omega) (tkW w a) hIT) ?_
  rintro _ w7 _ ⟨rfl, hw7, rfl⟩
  rw [hw7, show seeV (tkW w a) a = seeV w a from seeV_tk]
  show qG none (d + 1) 231 55 [(2, 95), (9, 0)] [(0, seeV w a)] (tkW w a) 142 Q9
  refine qG.blk 3 (pc' := 58) (ls' := [(2, 95), (0, seeV w a)]) (st' := [(0, (-1)), (0, seeV w a)]) (w' := (tkW w a)) (n' := 142) rfl ?_
  refine qG.br (P := seeV w a = (-1)) (pc1 := 61) (pc2 := 69) (st1 := []) rfl (fun hend => ?_) (fun hend => ?_)
  · skip
    refine qG.blk 4 (pc' := 244) (ls' := [(2, 95), (0, seeV w a)]) (st' := []) (w' := (qup (tkW w a) 95 27 0)) (n' := 142) rfl ?_
    refine qG.retv rfl rfl ?_
    subst hQ9
    refine ⟨rfl, rfl, ?_⟩
    first
      | exact .inl ⟨hend, rfl⟩
      | exact .inr (.inl ⟨hend, (letV_01 _).resolve_left hlet, b, ⟨hab, hall, fun z => by rw [z] at hlt; exact absurd hlt (by decide)⟩, hb6, by rw [hwS]⟩)
      | exact .inr (.inr (.inl ⟨hend, (fun z => by rw [z] at hlet; exact absurd hlet (by decide)), (isInV_01 (seeV w a) 48 57).resolve_left hdig, b, ⟨hab, hall, fun z => by rw [show digV (seeV w b) = 1 from z] at hdg0; exact absurd hdg0 (by decide)⟩, hb6, by rw [hwS]; congr 1; first | (rw [if_pos (by omega)]; done) | (rw [if_neg (by omega)]; done)⟩))
      | exact .inr (.inr (.inr ⟨hend, (fun z => by rw [z] at hlet; exact absurd hlet (by decide)), (fun z => by rw [z] at hdig; exact absurd hdig (by decide)), (seeV_lt hI hend).2, by unfold atW; first | (rw [if_pos hsg]; done) | (rw [if_neg hsg]; done)⟩))
  · skip
    refine qG.blk 1 (pc' := 70) (ls' := [(2, 95), (0, seeV w a)]) (st' := [(0, seeV w a)]) (w' := (tkW w a)) (n' := 142) rfl ?_
    refine qG.call (t := 225) (na := 1) (sk := 0) (md := 0) (ls1 := [(0, seeV w a)]) (r1 := []) rfl rfl rfl rfl rfl (K_isLetter (by omega) _ _) ?_
    rintro _ w7 _ ⟨rfl, hw7, rfl⟩
    rw [hw7]
    show qG none (d + 1) 231 73 [(2, 95), (0, seeV w a)] [(0, letV (seeV w a))] (tkW w a) 142 Q9
    refine qG.br (P := letV (seeV w a) = 0) (pc1 := 114) (pc2 := 76) (st1 := []) rfl (fun hlet => ?_) (fun hlet => ?_)
    · skip
      refine qG.blk 1 (pc' := 115) (ls' := [(2, 95), (0, seeV w a)]) (st' := [(0, seeV w a)]) (w' := (tkW w a)) (n' := 142) rfl ?_
      refine qG.call (t := 226) (na := 1) (sk := 0) (md := 0) (ls1 := [(0, seeV w a)]) (r1 := []) rfl rfl rfl rfl rfl (K_isDigit (by omega) _ _) ?_
      rintro _ w7 _ ⟨rfl, hw7, rfl⟩
      rw [hw7]
      show qG none (d + 1) 231 118 [(2, 95), (0, seeV w a)] [(0, digV (seeV w a))] (tkW w a) 142 Q9
      refine qG.br (P := digV (seeV w a) = 0) (pc1 := 214) (pc2 := 121) (st1 := []) rfl (fun hdig => ?_) (fun hdig => ?_)
      · skip
        refine qG.blk 3 (pc' := 219) (ls' := [(2, 95), (0, seeV w a)]) (st' := [(0, (tkW w a) 95 26), (2, 95)]) (w' := (tkW w a)) (n' := 142) rfl ?_
        rw [show (tkW w a) 95 26 = ((a : Nat) : Int) from tkW_at]
        refine qG.blk 2 (pc' := 221) (ls' := [(2, 95), (0, seeV w a)]) (st' := [(0, wrp (((a : Nat) : Int) + 1)), (2, 95)]) (w' := (tkW w a)) (n' := 142) rfl ?_
        rw [show wrp (((a : Nat) : Int) + 1) = ((a + 1 : Nat) : Int) from by rw [wrp_id (by omega) (by omega)]; omega]
        refine qG.blk 4 (pc' := 227) (ls' := [(2, 95), (0, seeV w a)]) (st' := [(0, seeV w a), (2, 95), (2, 95)]) (w' := (qup (tkW w a) 95 26 ((a + 1 : Nat) : Int))) (n' := 142) rfl ?_
        refine qG.call (t := 230) (na := 2) (sk := 1) (md := 1) (ls1 := [(2, 95), (0, seeV w a)]) (r1 := [(2, 95)]) rfl rfl rfl rfl rfl (K_isSign (by omega) _ _) ?_
        rintro _ w7 _ ⟨rfl, hw7, rfl⟩
        rw [hw7, show sgnV (qup (tkW w a) 95 26 ((a + 1 : Nat) : Int)) (seeV w a) = sgnV w (seeV w a) from by unfold sgnV; rw [show (qup (tkW w a) 95 26 ((a + 1 : Nat) : Int)) 95 35 = w 95 35 from by rw [qup_j (by decide)]; unfold tkW; rw [qup_j (by decide), atW_o (by decide)]]]
        show qG none (d + 1) 231 230 [(2, 95), (0, seeV w a)] [(0, sgnV w (seeV w a)), (2, 95)] (qup (tkW w a) 95 26 ((a + 1 : Nat) : Int)) 142 Q9
        refine qG.br (P := sgnV w (seeV w a) = 0) (pc1 := 240) (pc2 := 233) (st1 := [(2, 95)]) rfl (fun hsg => ?_) (fun hsg => ?_)
        · skip
          refine qG.blk 2 (pc' := 244) (ls' := [(2, 95), (0, seeV w a)]) (st' := []) (w' := (qup (qup (tkW w a) 95 26 ((a + 1 : Nat) : Int)) 95 27 1)) (n' := 142) rfl ?_
          refine qG.retv rfl rfl ?_
          subst hQ9
          refine ⟨rfl, rfl, ?_⟩
          first
            | exact .inl ⟨hend, rfl⟩
            | exact .inr (.inl ⟨hend, (letV_01 _).resolve_left hlet, b, ⟨hab, hall, fun z => by rw [z] at hlt; exact absurd hlt (by decide)⟩, hb6, by rw [hwS]⟩)
            | exact .inr (.inr (.inl ⟨hend, (fun z => by rw [z] at hlet; exact absurd hlet (by decide)), (isInV_01 (seeV w a) 48 57).resolve_left hdig, b, ⟨hab, hall, fun z => by rw [show digV (seeV w b) = 1 from z] at hdg0; exact absurd hdg0 (by decide)⟩, hb6, by rw [hwS]; congr 1; first | (rw [if_pos (by omega)]; done) | (rw [if_neg (by omega)]; done)⟩))
            | exact .inr (.inr (.inr ⟨hend, (fun z => by rw [z] at hlet; exact absurd hlet (by decide)), (fun z => by rw [z] at hdig; exact absurd hdig (by decide)), (seeV_lt hI hend).2, by unfold atW; first | (rw [if_pos hsg]; done) | (rw [if_neg hsg]; done)⟩))
        · skip
          refine qG.blk 3 (pc' := 237) (ls' := [(2, 95), (0, seeV w a)]) (st' := [(0, wrp (100 + (seeV w a))), (2, 95)]) (w' := (qup (tkW w a) 95 26 ((a + 1 : Nat) : Int))) (n' := 142) rfl ?_
          rw [show wrp (100 + (seeV w a)) = 100 + (seeV w a) from wrp_id (by omega) (by omega)]
          refine qG.blk 2 (pc' := 244) (ls' := [(2, 95), (0, seeV w a)]) (st' := []) (w' := (qup (qup (tkW w a) 95 26 ((a + 1 : Nat) : Int)) 95 27 (100 + (seeV w a)))) (n' := 142) rfl ?_
          refine qG.retv rfl rfl ?_
          subst hQ9
          refine ⟨rfl, rfl, ?_⟩
          first
            | exact .inl ⟨hend, rfl⟩
            | exact .inr (.inl ⟨hend, (letV_01 _).resolve_left hlet, b, ⟨hab, hall, fun z => by rw [z] at hlt; exact absurd hlt (by decide)⟩, hb6, by rw [hwS]⟩)
            | exact .inr (.inr (.inl ⟨hend, (fun z => by rw [z] at hlet; exact absurd hlet (by decide)), (isInV_01 (seeV w a) 48 57).resolve_left hdig, b, ⟨hab, hall, fun z => by rw [show digV (seeV w b) = 1 from z] at hdg0; exact absurd hdg0 (by decide)⟩, hb6, by rw [hwS]; congr 1; first | (rw [if_pos (by omega)]; done) | (rw [if_neg (by omega)]; done)⟩))
            | exact .inr (.inr (.inr ⟨hend, (fun z => by rw [z] at hlet; exact absurd hlet (by decide)), (fun z => by rw [z] at hdig; exact absurd hdig (by decide)), (seeV_lt hI hend).2, by unfold atW; first | (rw [if_pos hsg]; done) | (rw [if_neg hsg]; done)⟩))
      · skip
        refine qG.blk 3 (pc' := 126) (ls' := [(2, 95), (0, seeV w a)]) (st' := []) (w' := (qup (tkW w a) 95 29 0)) (n' := 142) rfl ?_
        have L126 : ∀ (m9 : Nat) (b : Nat) (wS : qW), 601 - b = m9 → (a ≤ b ∧ b ≤ 600 ∧ wS = dgW (tkW w a) b (valF w a (b - a)) ∧ ∀ j, a ≤ j → j < b → digV (seeV w j) = 1) → qG none (d + 1) 231 126 [(2, 95), (0, seeV w a)] [] wS 142 Q9 := by
          intro m9
          induction m9 using Nat.strongRecOn with
          | ind m9 ih126 =>
          intro b wS hm126 hI126
          obtain ⟨hab, hb6, hwS, hall⟩ := hI126
          have hvf := valF_in hall (b - a) (by omega)
          have hIS : yInv zgf zga zra zSp wS := hwS ▸ dgW_I hIT hb6 hvf.1 hvf.2.1
          refine qG.blk 3 (pc' := 131) (ls' := [(2, 95), (0, seeV w a)]) (st' := [(0, wS 95 26), (2, 95)]) (w' := wS) (n' := 142) rfl ?_
          rw [show wS 95 26 = ((b : Nat) : Int) from (congrFun (congrFun hwS 95) 26).trans dgW_at]
          refine qG.call (t := 224) (na := 2) (sk := 1) (md := 1) (ls1 := [(2, 95), (0, ((b : Nat) : Int))]) (r1 := []) rfl rfl rfl rfl rfl (K_see (by omega) b (by omega) wS hIS) ?_
          rintro _ w7 _ ⟨rfl, hw7, rfl⟩
          rw [hw7, show seeV wS b = seeV w b from by rw [hwS]; first | exact seeV_at.trans seeV_tk | exact seeV_dg.trans seeV_tk]
          show qG none (d + 1) 231 134 [(2, 95), (0, seeV w a)] [(0, seeV w b)] wS 142 Q9
          refine qG.call (t := 226) (na := 1) (sk := 0) (md := 0) (ls1 := [(0, seeV w b)]) (r1 := []) rfl rfl rfl rfl rfl (K_isDigit (by omega) _ _) ?_
          rintro _ w7 _ ⟨rfl, hw7, rfl⟩
          rw [hw7]
          show qG none (d + 1) 231 137 [(2, 95), (0, seeV w a)] [(0, digV (seeV w b))] wS 142 Q9
          refine qG.br (P := digV (seeV w b) = 0) (pc1 := 189) (pc2 := 140) (st1 := []) rfl (fun hdg0 => ?_) (fun hdg0 => ?_)
          · skip
            refine qG.blk 3 (pc' := 194) (ls' := [(2, 95), (0, seeV w a)]) (st' := [(0, wS 95 26), (2, 95)]) (w' := wS) (n' := 142) rfl ?_
            rw [show wS 95 26 = ((b : Nat) : Int) from (congrFun (congrFun hwS 95) 26).trans dgW_at]
            refine qG.blk 2 (pc' := 198) (ls' := [(2, 95), (0, seeV w a)]) (st' := [(0, wS 95 28), (0, ((b : Nat) : Int)), (2, 95)]) (w' := wS) (n' := 142) rfl ?_
            rw [show wS 95 28 = ((a : Nat) : Int) from (congrFun (congrFun hwS 95) 28).trans ((dgW_o (by omega)).trans tkW_tk)]
            refine qG.blk 1 (pc' := 199) (ls' := [(2, 95), (0, seeV w a)]) (st' := [(0, wrp (((b : Nat) : Int) - ((a : Nat) : Int))), (2, 95)]) (w' := wS) (n' := 142) rfl ?_
            rw [show wrp (((b : Nat) : Int) - ((a : Nat) : Int)) = ((b : Nat) : Int) - ((a : Nat) : Int) from wrp_id (by omega) (by omega)]
            refine qG.blk 1 (pc' := 200) (ls' := [(2, 95), (0, seeV w a)]) (st' := [(0, 5), (0, ((b : Nat) : Int) - ((a : Nat) : Int)), (2, 95)]) (w' := wS) (n' := 142) rfl ?_
            refine qG.br (P := ((b : Nat) : Int) - ((a : Nat) : Int) < 5) (pc1 := 203) (pc2 := 207) (st1 := [(2, 95)]) rfl (fun h5 => ?_) (fun h5 => ?_)
            · skip
              refine qG.blk 4 (pc' := 244) (ls' := [(2, 95), (0, seeV w a)]) (st' := []) (w' := (qup wS 95 27 2)) (n' := 142) rfl ?_
              refine qG.retv rfl rfl ?_
              subst hQ9
              refine ⟨rfl, rfl, ?_⟩
              first
                | exact .inl ⟨hend, rfl⟩
                | exact .inr (.inl ⟨hend, (letV_01 _).resolve_left hlet, b, ⟨hab, hall, fun z => by rw [z] at hlt; exact absurd hlt (by decide)⟩, hb6, by rw [hwS]⟩)
                | exact .inr (.inr (.inl ⟨hend, (fun z => by rw [z] at hlet; exact absurd hlet (by decide)), (isInV_01 (seeV w a) 48 57).resolve_left hdig, b, ⟨hab, hall, fun z => by rw [show digV (seeV w b) = 1 from z] at hdg0; exact absurd hdg0 (by decide)⟩, hb6, by rw [hwS]; congr 1; first | (rw [if_pos (by omega)]; done) | (rw [if_neg (by omega)]; done)⟩))
                | exact .inr (.inr (.inr ⟨hend, (fun z => by rw [z] at hlet; exact absurd hlet (by decide)), (fun z => by rw [z] at hdig; exact absurd hdig (by decide)), (seeV_lt hI hend).2, by unfold atW; first | (rw [if_pos hsg]; done) | (rw [if_neg hsg]; done)⟩))
            · skip
              refine qG.blk 3 (pc' := 244) (ls' := [(2, 95), (0, seeV w a)]) (st' := []) (w' := (qup wS 95 27 1)) (n' := 142) rfl ?_
              refine qG.retv rfl rfl ?_
              subst hQ9
              refine ⟨rfl, rfl, ?_⟩
              first
                | exact .inl ⟨hend, rfl⟩
                | exact .inr (.inl ⟨hend, (letV_01 _).resolve_left hlet, b, ⟨hab, hall, fun z => by rw [z] at hlt; exact absurd hlt (by decide)⟩, hb6, by rw [hwS]⟩)
                | exact .inr (.inr (.inl ⟨hend, (fun z => by rw [z] at hlet; exact absurd hlet (by decide)), (isInV_01 (seeV w a) 48 57).resolve_left hdig, b, ⟨hab, hall, fun z => by rw [show digV (seeV w b) = 1 from z] at hdg0; exact absurd hdg0 (by decide)⟩, hb6, by rw [hwS]; congr 1; first | (rw [if_pos (by omega)]; done) | (rw [if_neg (by omega)]; done)⟩))
                | exact .inr (.inr (.inr ⟨hend, (fun z => by rw [z] at hlet; exact absurd hlet (by decide)), (fun z => by rw [z] at hdig; exact absurd hdig (by decide)), (seeV_lt hI hend).2, by unfold atW; first | (rw [if_pos hsg]; done) | (rw [if_neg hsg]; done)⟩))
          · skip
            have hdg := digV_1.mp ((letV_01 0).elim (fun _ => (isInV_01 (seeV w b) 48 57).resolve_left hdg0) (fun _ => (isInV_01 (seeV w b) 48 57).resolve_left hdg0))
            have hb7 : b < 600 := (seeV_lt hI (k := b) (by omega)).2
            refine qG.blk 2 (pc' := 144) (ls' := [(2, 95), (0, seeV w a)]) (st' := [(0, wS 95 26)]) (w' := wS) (n' := 142) rfl ?_
            rw [show wS 95 26 = ((b : Nat) : Int) from (congrFun (congrFun hwS 95) 26).trans dgW_at]
            refine qG.blk 2 (pc' := 148) (ls' := [(2, 95), (0, seeV w a)]) (st' := [(0, wS 95 28), (0, ((b : Nat) : Int))]) (w' := wS) (n' := 142) rfl ?_
            rw [show wS 95 28 = ((a : Nat) : Int) from (congrFun (congrFun hwS 95) 28).trans ((dgW_o (by omega)).trans tkW_tk)]
            refine qG.blk 2 (pc' := 150) (ls' := [(2, 95), (0, seeV w a)]) (st' := [(0, wrp (((a : Nat) : Int) + 4)), (0, ((b : Nat) : Int))]) (w' := wS) (n' := 142) rfl ?_
            rw [show wrp (((a : Nat) : Int) + 4) = ((a + 4 : Nat) : Int) from by rw [wrp_id (by omega) (by omega)]; omega]
            refine qG.br (P := ((b : Nat) : Int) < ((a + 4 : Nat) : Int)) (pc1 := 153) (pc2 := 176) (st1 := []) rfl (fun h4 => ?_) (fun h4 => ?_)
            · skip
              refine qG.blk 4 (pc' := 160) (ls' := [(2, 95), (0, seeV w a)]) (st' := [(0, wS 95 29), (0, 10), (2, 95)]) (w' := wS) (n' := 142) rfl ?_
              rw [show wS 95 29 = valF w a (b - a) from (congrFun (congrFun hwS 95) 29).trans dgW_val]
              refine qG.blk 1 (pc' := 161) (ls' := [(2, 95), (0, seeV w a)]) (st' := [(0, wrp (10 * (valF w a (b - a)))), (2, 95)]) (w' := wS) (n' := 142) rfl ?_
              rw [show wrp (10 * (valF w a (b - a))) = 10 * valF w a (b - a) from wrp_id (by omega) (by omega)]
              refine qG.blk 3 (pc' := 166) (ls' := [(2, 95), (0, seeV w a)]) (st' := [(0, wS 95 26), (2, 95), (0, 10 * valF w a (b - a)), (2, 95)]) (w' := wS) (n' := 142) rfl ?_
              rw [show wS 95 26 = ((b : Nat) : Int) from (congrFun (congrFun hwS 95) 26).trans dgW_at]
              refine qG.call (t := 224) (na := 2) (sk := 1) (md := 1) (ls1 := [(2, 95), (0, ((b : Nat) : Int))]) (r1 := [(0, 10 * valF w a (b - a)), (2, 95)]) rfl rfl rfl rfl rfl (K_see (by omega) b (by omega) wS hIS) ?_
              rintro _ w7 _ ⟨rfl, hw7, rfl⟩
              rw [hw7, show seeV wS b = seeV w b from by rw [hwS]; first | exact seeV_at.trans seeV_tk | exact seeV_dg.trans seeV_tk]
              show qG none (d + 1) 231 169 [(2, 95), (0, seeV w a)] [(0, seeV w b), (0, 10 * valF w a (b - a)), (2, 95)] wS 142 Q9
              refine qG.blk 1 (pc' := 170) (ls' := [(2, 95), (0, seeV w a)]) (st' := [(0, wrp ((10 * valF w a (b - a)) + (seeV w b))), (2, 95)]) (w' := wS) (n' := 142) rfl ?_
              rw [show wrp ((10 * valF w a (b - a)) + (seeV w b)) = 10 * valF w a (b - a) + seeV w b from wrp_id (by omega) (by omega)]
              refine qG.blk 2 (pc' := 173) (ls' := [(2, 95), (0, seeV w a)]) (st' := [(0, wrp ((10 * valF w a (b - a) + seeV w b) - 48)), (2, 95)]) (w' := wS) (n' := 142) rfl ?_
              rw [show wrp ((10 * valF w a (b - a) + seeV w b) - 48) = 10 * valF w a (b - a) + seeV w b - 48 from wrp_id (by omega) (by omega)]
              refine qG.blk 4 (pc' := 181) (ls' := [(2, 95), (0, seeV w a)]) (st' := [(0, wS 95 26), (2, 95)]) (w' := (qup wS 95 29 (10 * valF w a (b - a) + seeV w b - 48))) (n' := 142) rfl ?_
              rw [show wS 95 26 = ((b : Nat) : Int) from (congrFun (congrFun hwS 95) 26).trans dgW_at]
              refine qG.blk 2 (pc' := 183) (ls' := [(2, 95), (0, seeV w a)]) (st' := [(0, wrp (((b : Nat) : Int) + 1)), (2, 95)]) (w' := (qup wS 95 29 (10 * valF w a (b - a) + seeV w b - 48))) (n' := 142) rfl ?_
              rw [show wrp (((b : Nat) : Int) + 1) = ((b + 1 : Nat) : Int) from by rw [wrp_id (by omega) (by omega)]; omega]
              refine qG.blk 2 (pc' := 126) (ls' := [(2, 95), (0, seeV w a)]) (st' := []) (w' := (qup (qup wS 95 29 (10 * valF w a (b - a) + seeV w b - 48)) 95 26 ((b + 1 : Nat) : Int))) (n' := 142) rfl ?_
              exact ih126 _ (by omega) (b + 1) ((qup (qup wS 95 29 (10 * valF w a (b - a) + seeV w b - 48)) 95 26 ((b + 1 : Nat) : Int))) rfl (⟨by omega, by omega, by rw [hwS, dgW_up]; congr 1; rw [show b + 1 - a = (b - a) + 1 by omega]; rw [valF_s]; first | (rw [if_pos (by omega), show a + (b - a) = b by omega]; done) | (rw [if_neg (by omega)]; done), fun j h1 h2 => by rcases (show j < b ∨ j = b by omega) with q | rfl; exact hall j h1 q; exact (digV_1.mpr hdg)⟩)
            · skip
              refine qG.blk 3 (pc' := 181) (ls' := [(2, 95), (0, seeV w a)]) (st' := [(0, wS 95 26), (2, 95)]) (w' := wS) (n' := 142) rfl ?_
              rw [show wS 95 26 = ((b : Nat) : Int) from (congrFun (congrFun hwS 95) 26).trans dgW_at]
              refine qG.blk 2 (pc' := 183) (ls' := [(2, 95), (0, seeV w a)]) (st' := [(0, wrp (((b : Nat) : Int) + 1)), (2, 95)]) (w' := wS) (n' := 142) rfl ?_
              rw [show wrp (((b : Nat) : Int) + 1) = ((b + 1 : Nat) : Int) from by rw [wrp_id (by omega) (by omega)]; omega]
              refine qG.blk 2 (pc' := 126) (ls' := [(2, 95), (0, seeV w a)]) (st' := []) (w' := (qup wS 95 26 ((b + 1 : Nat) : Int))) (n' := 142) rfl ?_
              exact ih126 _ (by omega) (b + 1) ((qup wS 95 26 ((b + 1 : Nat) : Int))) rfl (⟨by omega, by omega, by rw [hwS, dgW_up1]; congr 1; rw [show b + 1 - a = (b - a) + 1 by omega]; rw [valF_s]; first | (rw [if_pos (by omega), show a + (b - a) = b by omega]; done) | (rw [if_neg (by omega)]; done), fun j h1 h2 => by rcases (show j < b ∨ j = b by omega) with q | rfl; exact hall j h1 q; exact (digV_1.mpr hdg)⟩)
        exact L126 _ (a) ((qup (tkW w a) 95 29 0)) rfl (⟨Nat.le_refl _, ha6, by unfold dgW; rw [← atW_id tkW_at, Nat.sub_self]; rfl, fun j h1 h2 => by omega⟩)
    · skip
      have L76 : ∀ (m9 : Nat) (b : Nat) (wS : qW), 601 - b = m9 → (a ≤ b ∧ b ≤ 600 ∧ wS = atW (tkW w a) b ∧ ∀ j, a ≤ j → j < b → letV (seeV w j) = 1) → qG none (d + 1) 231 76 [(2, 95), (0, seeV w a)] [] wS 142 Q9 := by
        intro m9
        induction m9 using Nat.strongRecOn with
        | ind m9 ih76 =>
        intro b wS hm76 hI76
        obtain ⟨hab, hb6, hwS, hall⟩ := hI76
        have hIS : yInv zgf zga zra zSp wS := hwS ▸ atW_I hIT hb6
        refine qG.blk 3 (pc' := 81) (ls' := [(2, 95), (0, seeV w a)]) (st' := [(0, wS 95 26), (2, 95)]) (w' := wS) (n' := 142) rfl ?_
        rw [show wS 95 26 = ((b : Nat) : Int) from (congrFun (congrFun hwS 95) 26).trans atW_at]
        refine qG.call (t := 224) (na := 2) (sk := 1) (md := 1) (ls1 := [(2, 95), (0, ((b : Nat) : Int))]) (r1 := []) rfl rfl rfl rfl rfl (K_see (by omega) b (by omega) wS hIS) ?_
        rintro _ w7 _ ⟨rfl, hw7, rfl⟩
        rw [hw7, show seeV wS b = seeV w b from by rw [hwS]; first | exact seeV_at.trans seeV_tk | exact seeV_dg.trans seeV_tk]
        show qG none (d + 1) 231 84 [(2, 95), (0, seeV w a)] [(0, seeV w b)] wS 142 Q9
        refine qG.call (t := 225) (na := 1) (sk := 0) (md := 0) (ls1 := [(0, seeV w b)]) (r1 := []) rfl rfl rfl rfl rfl (K_isLetter (by omega) _ _) ?_
        rintro _ w7 _ ⟨rfl, hw7, rfl⟩
        rw [hw7]
        show qG none (d + 1) 231 87 [(2, 95), (0, seeV w a)] [(0, letV (seeV w b))] wS 142 Q9
        refine qG.br (P := letV (seeV w b) = 0) (pc1 := 103) (pc2 := 90) (st1 := []) rfl (fun hlt => ?_) (fun hlt => ?_)
        · skip
          refine qG.blk 2 (pc' := 105) (ls' := [(2, 95), (0, seeV w a)]) (st' := [(2, 95), (2, 95)]) (w' := wS) (n' := 142) rfl ?_
          refine qG.call (t := 229) (na := 1) (sk := 1) (md := 1) (ls1 := [(2, 95)]) (r1 := [(2, 95)]) rfl rfl rfl rfl rfl (K_word (by omega) wS hIS) ?_
          rintro _ w7 _ ⟨rfl, hw7, rfl⟩
          rw [hw7]
          show qG none (d + 1) 231 108 [(2, 95), (0, seeV w a)] [(0, wordV wS), (2, 95)] wS 142 Q9
          refine qG.blk 2 (pc' := 244) (ls' := [(2, 95), (0, seeV w a)]) (st' := []) (w' := (qup wS 95 27 (wordV wS))) (n' := 142) rfl ?_
          refine qG.retv rfl rfl ?_
          subst hQ9
          refine ⟨rfl, rfl, ?_⟩
          first
            | exact .inl ⟨hend, rfl⟩
            | exact .inr (.inl ⟨hend, (letV_01 _).resolve_left hlet, b, ⟨hab, hall, fun z => by rw [z] at hlt; exact absurd hlt (by decide)⟩, hb6, by rw [hwS]⟩)
            | exact .inr (.inr (.inl ⟨hend, (fun z => by rw [z] at hlet; exact absurd hlet (by decide)), (isInV_01 (seeV w a) 48 57).resolve_left hdig, b, ⟨hab, hall, fun z => by rw [show digV (seeV w b) = 1 from z] at hdg0; exact absurd hdg0 (by decide)⟩, hb6, by rw [hwS]; congr 1; first | (rw [if_pos (by omega)]; done) | (rw [if_neg (by omega)]; done)⟩))
            | exact .inr (.inr (.inr ⟨hend, (fun z => by rw [z] at hlet; exact absurd hlet (by decide)), (fun z => by rw [z] at hdig; exact absurd hdig (by decide)), (seeV_lt hI hend).2, by unfold atW; first | (rw [if_pos hsg]; done) | (rw [if_neg hsg]; done)⟩))
        · skip
          refine qG.blk 3 (pc' := 95) (ls' := [(2, 95), (0, seeV w a)]) (st' := [(0, wS 95 26), (2, 95)]) (w' := wS) (n' := 142) rfl ?_
          rw [show wS 95 26 = ((b : Nat) : Int) from (congrFun (congrFun hwS 95) 26).trans atW_at]
          refine qG.blk 2 (pc' := 97) (ls' := [(2, 95), (0, seeV w a)]) (st' := [(0, wrp (((b : Nat) : Int) + 1)), (2, 95)]) (w' := wS) (n' := 142) rfl ?_
          rw [show wrp (((b : Nat) : Int) + 1) = ((b + 1 : Nat) : Int) from by rw [wrp_id (by omega) (by omega)]; omega]
          refine qG.blk 2 (pc' := 76) (ls' := [(2, 95), (0, seeV w a)]) (st' := []) (w' := (qup wS 95 26 ((b + 1 : Nat) : Int))) (n' := 142) rfl ?_
          exact ih76 _ (by omega) (b + 1) ((qup wS 95 26 ((b + 1 : Nat) : Int))) rfl (⟨by omega, by have := seeV_lt hI (k := b) (fun z => by rw [z] at hlt; exact hlt (by decide)); omega, by rw [hwS, atW_up], fun j h1 h2 => by rcases (show j < b ∨ j = b by omega) with q | rfl; exact hall j h1 q; exact (letV_01 _).resolve_left hlt⟩)
      exact L76 _ (a) ((tkW w a)) rfl (⟨Nat.le_refl _, ha6, atW_id tkW_at, fun j h1 h2 => by omega⟩)
theorem K_next0 {d : Nat} (hd : 7 ≤ d) (w : qW) (hI : yInv zgf zga zra zSp w) : qG none d 231 0 [(2, 95), (9, 0)] [] w 142 (fun (r : qV) (w1 : qW) (n1 : Nat) => r = (9, 0) ∧ n1 = 142 ∧ NX w w1) := by
  generalize hQ9 : (fun (r : qV) (w1 : qW) (n1 : Nat) => r = (9, 0) ∧ n1 = 142 ∧ NX w w1) = Q9
  have h26 := zfld hI (j := 26) (b := (0, 600)) rfl
  have a26 : (0 : Int) ≤ w 95 26 := h26.1
  have b26 : w 95 26 ≤ (600 : Int) := h26.2
  obtain ⟨a0, ha0e⟩ : ∃ a0 : Nat, a0 = (w 95 26).toNat := ⟨_, rfl⟩
  have hat : w 95 26 = (a0 : Int) := by omega
  have hat0 : (w 95 26).toNat = a0 := ha0e.symm
  have ha0 : a0 ≤ 600 := by omega
  obtain ⟨d, rfl⟩ : ∃ d9, d = d9 + 1 := ⟨d - 1, by omega⟩
  have L0 : ∀ (m9 : Nat) (a : Nat) (wS : qW), 601 - a = m9 → (a0 ≤ a ∧ a ≤ 600 ∧ wS = atW w a ∧ ∀ j, a0 ≤ j → j < a → seeV w j = 32 ∨ seeV w j = 10) → qG none (d + 1) 231 0 [(2, 95), (9, 0)] [] wS 142 Q9 := by
    intro m9
    induction m9 using Nat.strongRecOn with
    | ind m9 ih0 =>
    intro a wS hm0 hI0
    obtain ⟨haa, ha6, hwS, hall⟩ := hI0
    have hIS : yInv zgf zga zra zSp wS := hwS ▸ atW_I hI ha6
    refine qG.blk 3 (pc' := 5) (ls' := [(2, 95), (9, 0)]) (st' := [(0, wS 95 26), (2, 95)]) (w' := wS) (n' := 142) rfl ?_
    rw [show wS 95 26 = ((a : Nat) : Int) from (congrFun (congrFun hwS 95) 26).trans atW_at]
    refine qG.call (t := 224) (na := 2) (sk := 1) (md := 1) (ls1 := [(2, 95), (0, ((a : Nat) : Int))]) (r1 := []) rfl rfl rfl rfl rfl (K_see (by omega) a (by omega) wS hIS) ?_
    rintro _ w7 _ ⟨rfl, hw7, rfl⟩
    rw [hw7, show seeV wS a = seeV w a from by rw [hwS]; exact seeV_at]
    show qG none (d + 1) 231 8 [(2, 95), (9, 0)] [(0, seeV w a)] wS 142 Q9
    refine qG.blk 1 (pc' := 10) (ls' := [(2, 95), (9, 0)]) (st' := [(0, 32), (0, seeV w a)]) (w' := wS) (n' := 142) rfl ?_
    refine qG.br (P := seeV w a = 32) (pc1 := 26) (pc2 := 13) (st1 := []) rfl (fun hb1 => ?_) (fun hb1 => ?_)
    · skip
      refine qG.blk 3 (pc' := 31) (ls' := [(2, 95), (9, 0)]) (st' := [(0, wS 95 26), (2, 95)]) (w' := wS) (n' := 142) rfl ?_
      rw [show wS 95 26 = ((a : Nat) : Int) from (congrFun (congrFun hwS 95) 26).trans atW_at]
      refine qG.blk 2 (pc' := 33) (ls' := [(2, 95), (9, 0)]) (st' := [(0, wrp (((a : Nat) : Int) + 1)), (2, 95)]) (w' := wS) (n' := 142) rfl ?_
      rw [show wrp (((a : Nat) : Int) + 1) = ((a + 1 : Nat) : Int) from by rw [wrp_id (by omega) (by omega)]; omega]
      refine qG.blk 2 (pc' := 0) (ls' := [(2, 95), (9, 0)]) (st' := []) (w' := (qup wS 95 26 ((a + 1 : Nat) : Int))) (n' := 142) rfl ?_
      exact ih0 _ (by omega) (a + 1) ((qup wS 95 26 ((a + 1 : Nat) : Int))) rfl (⟨by omega, by have := seeV_lt hI (k := a) (by omega); omega, by rw [hwS, atW_up], fun j h1 h2 => by rcases (show j < a ∨ j = a by omega) with q | rfl; exact hall j h1 q; first | exact .inl hb1 | exact .inr hb2⟩)
    · skip
      refine qG.blk 3 (pc' := 18) (ls' := [(2, 95), (9, 0)]) (st' := [(0, wS 95 26), (2, 95)]) (w' := wS) (n' := 142) rfl ?_
      rw [show wS 95 26 = ((a : Nat) : Int) from (congrFun (congrFun hwS 95) 26).trans atW_at]
      refine qG.call (t := 224) (na := 2) (sk := 1) (md := 1) (ls1 := [(2, 95), (0, ((a : Nat) : Int))]) (r1 := []) rfl rfl rfl rfl rfl (K_see (by omega) a (by omega) wS hIS) ?_
      rintro _ w7 _ ⟨rfl, hw7, rfl⟩
      rw [hw7, show seeV wS a = seeV w a from by rw [hwS]; exact seeV_at]
      show qG none (d + 1) 231 21 [(2, 95), (9, 0)] [(0, seeV w a)] wS 142 Q9
      refine qG.blk 1 (pc' := 23) (ls' := [(2, 95), (9, 0)]) (st' := [(0, 10), (0, seeV w a)]) (w' := wS) (n' := 142) rfl ?_
      refine qG.br (P := seeV w a = 10) (pc1 := 26) (pc2 := 39) (st1 := []) rfl (fun hb2 => ?_) (fun hb2 => ?_)
      · skip
        refine qG.blk 3 (pc' := 31) (ls' := [(2, 95), (9, 0)]) (st' := [(0, wS 95 26), (2, 95)]) (w' := wS) (n' := 142) rfl ?_
        rw [show wS 95 26 = ((a : Nat) : Int) from (congrFun (congrFun hwS 95) 26).trans atW_at]
        refine qG.blk 2 (pc' := 33) (ls' := [(2, 95), (9, 0)]) (st' := [(0, wrp (((a : Nat) : Int) + 1)), (2, 95)]) (w' := wS) (n' := 142) rfl ?_
        rw [show wrp (((a : Nat) : Int) + 1) = ((a + 1 : Nat) : Int) from by rw [wrp_id (by omega) (by omega)]; omega]
        refine qG.blk 2 (pc' := 0) (ls' := [(2, 95), (9, 0)]) (st' := []) (w' := (qup wS 95 26 ((a + 1 : Nat) : Int))) (n' := 142) rfl ?_
        exact ih0 _ (by omega) (a + 1) ((qup wS 95 26 ((a + 1 : Nat) : Int))) rfl (⟨by omega, by have := seeV_lt hI (k := a) (by omega); omega, by rw [hwS, atW_up], fun j h1 h2 => by rcases (show j < a ∨ j = a by omega) with q | rfl; exact hall j h1 q; first | exact .inl hb1 | exact .inr hb2⟩)
      · skip
        refine qG.blk 3 (pc' := 44) (ls' := [(2, 95), (9, 0)]) (st' := [(0, wS 95 26), (2, 95)]) (w' := wS) (n' := 142) rfl ?_
        rw [show wS 95 26 = ((a : Nat) : Int) from (congrFun (congrFun hwS 95) 26).trans atW_at]
        refine qG.blk 1 (pc' := 47) (ls' := [(2, 95), (9, 0)]) (st' := []) (w' := (qup wS 95 28 ((a : Nat) : Int))) (n' := 142) rfl ?_
        rw [show qup wS 95 28 ((a : Nat) : Int) = tkW w a from by rw [hwS]; rfl]
        subst hQ9
        refine qG.mono (K_next0B (by omega) w a ha6 hI) ?_
        rintro _ w1 _ ⟨rfl, rfl, hNB⟩
        exact ⟨rfl, rfl, a, ⟨by rw [hat0]; exact haa, by rw [hat0]; exact hall, by omega⟩, ha6, hNB⟩
  exact L0 _ (a0) (w) rfl (⟨Nat.le_refl _, ha0, atW_id hat, fun j h1 h2 => by omega⟩)
