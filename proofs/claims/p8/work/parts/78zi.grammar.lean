/-! what a text says: the grammar as functions of the tokens' codes; the class's tokens -/
noncomputable def cdF (w : qW) (i : Nat) : Int := if (i : Int) < w 8 4 then w 10 i else -2
noncomputable def plF (w : qW) (i : Nat) : Int := if (i : Int) < w 8 4 then w 11 i else w 8 1
theorem cdF_y {w : qW} {i : Nat} (h : (i : Int) < w 8 4) : w 10 i = cdF w i := (if_pos h).symm
theorem cdF_n {w : qW} {i : Nat} (h : ¬ (i : Int) < w 8 4) : cdF w i = -2 := if_neg h
theorem plF_y {w : qW} {i : Nat} (h : (i : Int) < w 8 4) : w 11 i = plF w i := (if_pos h).symm
theorem plF_n {w : qW} {i : Nat} (h : ¬ (i : Int) < w 8 4) : w 8 1 = plF w i := (if_neg h).symm
noncomputable def axW (w : qW) (i : Nat) : qW := qup w 8 5 (i : Int)
noncomputable def axF (w : qW) (k : Int) (i : Nat) : qW := qup (qup (axW w i) 8 6 k) 8 7 (plF w i)
theorem axW_at {w : qW} {i : Nat} : axW w i 8 5 = (i : Int) := qup_k
theorem axW_o {w : qW} {i p j : Nat} (h : ¬ (p = 8 ∧ j = 5)) : axW w i p j = w p j := qup_f h
theorem axW_up {w : qW} {i k : Nat} : qup (axW w i) 8 5 (k : Int) = axW w k := funext fun p => funext fun j => by
  by_cases e : p = 8 ∧ j = 5
  · obtain ⟨rfl, rfl⟩ := e
    rw [qup_k, axW_at]
  · rw [qup_f e, axW_o e, axW_o e]
theorem axW_I {w : qW} (hI : yInv zgf zga zra zSp w) {i : Nat} (hi : i ≤ 100000) : yInv zgf zga zra zSp (axW w i) := zup_f hI (b := (-2147483648, 2147483647)) rfl rfl rfl ⟨by show (-2147483648 : Int) ≤ _; omega, by show _ ≤ (2147483647 : Int); omega⟩
/-- how far a text goes well: the fault (0: none) and the token where it stands then -/
noncomputable def RD (w : qW) (m : Nat) (s : Int × Nat) (r : qV) (w1 : qW) : Prop := (∃ j, s = (0, j) ∧ j ≤ m ∧ r = (0, 1) ∧ w1 = axW w j) ∨ (∃ k j, s = (k, j) ∧ (k = 1 ∨ k = 2 ∨ k = 3) ∧ j ≤ m ∧ r = (0, 0) ∧ w1 = axF w k j)
noncomputable def bnd (r : Int × Nat) (f : Nat → Int × Nat) : Int × Nat := if r.1 = 0 then f r.2 else r
theorem bnd_0 {j : Nat} {f : Nat → Int × Nat} : bnd (0, j) f = f j := rfl
theorem bnd_k {r : Int × Nat} {k : Int} {j : Nat} {f : Nat → Int × Nat} (h : r = (k, j)) (hk : k = 1 ∨ k = 2 ∨ k = 3) : bnd r f = (k, j) := by
  rw [h]
  exact if_neg (by show ¬ k = 0; omega)
theorem bnd_y {r : Int × Nat} {j : Nat} {f : Nat → Int × Nat} (h : r = (0, j)) : bnd r f = f j := by rw [h]; rfl
noncomputable def sNum (C : Nat → Int) (lo hi : Int) (i : Nat) : Int × Nat := if C i < 0 ∨ 10000 ≤ C i then (1, i) else if C i < lo ∨ hi < C i then (2, i) else (0, i + 1)
noncomputable def sNeed (C : Nat → Int) (v : Int) (i : Nat) : Int × Nat := if C i = v then (0, i + 1) else (1, i)
noncomputable def sUnit (C : Nat → Int) (i : Nat) : Int × Nat := if C i = 10006 ∨ C i = 10007 then sNum C 0 15 (i + 1) else if 10008 ≤ C i ∧ C i < 20000 then (0, i + 1) else sNum C 0 9999 i
noncomputable def sSumL (C : Nat → Int) : Nat → Nat → Int × Nat
  | 0, i => (0, i)
  | n + 1, i => if C i = 20047 then bnd (sNum C 1 9999 (i + 1)) (sSumL C n) else if C i = 20042 ∨ C i = 20043 ∨ C i = 20045 then bnd (sUnit C (i + 1)) (sSumL C n) else (0, i)
noncomputable def sSum (C : Nat → Int) (n i : Nat) : Int × Nat := bnd (sUnit C i) (sSumL C n)
noncomputable def sCmp (C : Nat → Int) (i : Nat) : Int × Nat := if C i = 20060 ∨ C i = 20061 ∨ C i = 20062 then (0, i + 1) else (1, i)
noncomputable def sChL (C : Nat → Int) (f : Nat → Int × Nat) : Nat → Nat → Int × Nat
  | 0, i => (0, i)
  | n + 1, i => if C i = 10003 ∨ C i = 10004 then bnd (f (i + 1)) (sChL C f n) else (0, i)
noncomputable def sCho (C : Nat → Int) (n : Nat) (f : Nat → Int × Nat) (i : Nat) : Int × Nat := bnd (f i) (sChL C f n)
noncomputable def sAtom (C : Nat → Int) (n i : Nat) : Int × Nat := bnd (bnd (sSum C n i) (sCmp C)) (sSum C n)
noncomputable def sCond (C : Nat → Int) (n : Nat) : Nat → Nat → Int × Nat
  | 0, i => if C i = 10005 ∨ C i = 20040 then (3, i) else sAtom C n i
  | q + 1, i => if C i = 10005 then sCond C n q (i + 1) else if C i = 20040 then bnd (sCho C n (sCond C n q) (i + 1)) (sNeed C 20041) else sAtom C n i
noncomputable def sReas (C : Nat → Int) (n c i : Nat) : Int × Nat := if ¬ (C i = 10000 ∨ C i = 10001) then (1, i) else if 20 ≤ c then (3, i) else bnd (bnd (sNeed C 10002 (i + 1)) (sCho C n (sCond C n 8))) (sNeed C 20059)
noncomputable def sStep (C : Nat → Int) (c i : Nat) : Int × Nat := if ¬ (10000 ≤ C i ∧ C i < 20000) then (1, i) else if 40 ≤ c then (3, i) else bnd (if C i = 10002 then sNum C 1 20 (i + 1) else if C i = 10000 ∨ C i = 10001 ∨ C i = 10003 then sNum C 0 9 (i + 1) else (0, i + 1)) (sNeed C 20059)
theorem unit_a {C : Nat → Int} {i : Nat} (h : C i = 10006 ∨ C i = 10007) : sUnit C i = sNum C 0 15 (i + 1) := if_pos h
theorem unit_b {C : Nat → Int} {i : Nat} (h : ¬ (C i = 10006 ∨ C i = 10007)) (h2 : 10008 ≤ C i ∧ C i < 20000) : sUnit C i = (0, i + 1) := by unfold sUnit; rw [if_neg h, if_pos h2]
theorem unit_c {C : Nat → Int} {i : Nat} (h : ¬ (C i = 10006 ∨ C i = 10007)) (h2 : ¬ (10008 ≤ C i ∧ C i < 20000)) : sUnit C i = sNum C 0 9999 i := by unfold sUnit; rw [if_neg h, if_neg h2]
theorem c0_a {C : Nat → Int} {n i : Nat} (h9 : ¬ C i = 10005) (h16 : ¬ C i = 20040) : sCond C n 0 i = sAtom C n i := if_neg (fun z => z.elim h9 h16)
theorem c0_3 {C : Nat → Int} {n i : Nat} (h : C i = 10005 ∨ C i = 20040) : sCond C n 0 i = (3, i) := if_pos h
theorem cS_a {C : Nat → Int} {n q i : Nat} (h9 : ¬ C i = 10005) (h16 : ¬ C i = 20040) : sCond C n (q + 1) i = sAtom C n i := by
  show (if C i = 10005 then _ else _) = _
  rw [if_neg h9, if_neg h16]
theorem cS_n {C : Nat → Int} {n q i : Nat} (h9 : C i = 10005) : sCond C n (q + 1) i = sCond C n q (i + 1) := if_pos h9
theorem cS_p {C : Nat → Int} {n q i : Nat} (h9 : ¬ C i = 10005) (h16 : C i = 20040) : sCond C n (q + 1) i = bnd (sCho C n (sCond C n q) (i + 1)) (sNeed C 20041) := by
  show (if C i = 10005 then _ else _) = _
  rw [if_neg h9, if_pos h16]
theorem sNum_1 {C : Nat → Int} {lo hi : Int} {i : Nat} (h : C i < 0 ∨ 10000 ≤ C i) : sNum C lo hi i = (1, i) := if_pos h
theorem sNum_2 {C : Nat → Int} {lo hi : Int} {i : Nat} (h : ¬ (C i < 0 ∨ 10000 ≤ C i)) (h2 : C i < lo ∨ hi < C i) : sNum C lo hi i = (2, i) := by unfold sNum; rw [if_neg h, if_pos h2]
theorem sNum_0 {C : Nat → Int} {lo hi : Int} {i : Nat} (h : ¬ (C i < 0 ∨ 10000 ≤ C i)) (h2 : ¬ (C i < lo ∨ hi < C i)) : sNum C lo hi i = (0, i + 1) := by unfold sNum; rw [if_neg h, if_neg h2]
theorem cd_lt {w : qW} {m i : Nat} (hm : w 8 4 = (m : Int)) (h : cdF w i ≠ -2) : i < m := by
  unfold cdF at h
  rw [hm] at h
  by_cases e : (i : Int) < (m : Int)
  · omega
  · rw [if_neg e] at h; exact absurd rfl h
theorem K_tCode {d : Nat} (hd : 0 ≤ d)  (m : Nat) (hm6 : m ≤ 601) (w : qW) (hI : yInv zgf zga zra zSp w) (hm : w 8 4 = (m : Int)) (i : Nat) (hi : i ≤ m) : qG none d 145 0 [(2, 8)] [] (axW w i) 142 (fun (r : qV) (w1 : qW) (n1 : Nat) => n1 = 142 ∧ r = (0, cdF w i) ∧ w1 = axW w i) := by
  generalize hQ9 : (fun (r : qV) (w1 : qW) (n1 : Nat) => n1 = 142 ∧ r = (0, cdF w i) ∧ w1 = axW w i) = Q9
  refine qG.blk 2 (pc' := 4) (ls' := [(2, 8)]) (st' := [(0, (axW w i) 8 5)]) (w' := (axW w i)) (n' := 142) rfl ?_
  rw [show (axW w i) 8 5 = ((i : Nat) : Int) from axW_at]
  refine qG.br (P := ((i : Nat) : Int) < 0) (pc1 := 30) (pc2 := 7) (st1 := []) rfl (fun h1 => ?_) (fun h1 => ?_)
  · skip
    refine qG.blk 1 (pc' := 32) (ls' := [(2, 8)]) (st' := [(0, (-2))]) (w' := (axW w i)) (n' := 142) rfl ?_
    refine qG.ret rfl rfl ?_
    subst hQ9
    first | exact ⟨rfl, congrArg (Prod.mk 0) ((axW_o (fun z => by cases z.1)).trans (cdF_y (by omega))), rfl⟩ | exact ⟨rfl, congrArg (Prod.mk 0) (cdF_n (by omega)).symm, rfl⟩
  · skip
    refine qG.blk 2 (pc' := 11) (ls' := [(2, 8)]) (st' := [(0, (axW w i) 8 5)]) (w' := (axW w i)) (n' := 142) rfl ?_
    rw [show (axW w i) 8 5 = ((i : Nat) : Int) from axW_at]
    refine qG.blk 2 (pc' := 15) (ls' := [(2, 8)]) (st' := [(0, (axW w i) 8 4), (0, ((i : Nat) : Int))]) (w' := (axW w i)) (n' := 142) rfl ?_
    rw [show (axW w i) 8 4 = ((m : Nat) : Int) from (axW_o (by decide)).trans (hm)]
    refine qG.br (P := ((i : Nat) : Int) < ((m : Nat) : Int)) (pc1 := 18) (pc2 := 30) (st1 := []) rfl (fun hl => ?_) (fun hl => ?_)
    · skip
      refine qG.blk 2 (pc' := 22) (ls' := [(2, 8)]) (st' := [(2, (axW w i) 8 2)]) (w' := (axW w i)) (n' := 142) rfl ?_
      rw [show (axW w i) 8 2 = 10 from (axW_o (by decide)).trans (zref hI rfl rfl)]
      refine qG.blk 2 (pc' := 26) (ls' := [(2, 8)]) (st' := [(0, (axW w i) 8 5), (2, 10)]) (w' := (axW w i)) (n' := 142) rfl ?_
      rw [show (axW w i) 8 5 = ((i : Nat) : Int) from axW_at]
      refine qG.ild (m := 601) rfl rfl (by omega) (by decide) ?_
      show qG none d 145 27 [(2, 8)] [(0, (axW w i) 10 i)] (axW w i) 142 Q9
      refine qG.blk 1 (pc' := 32) (ls' := [(2, 8)]) (st' := [(0, (axW w i) 10 i)]) (w' := (axW w i)) (n' := 142) rfl ?_
      refine qG.ret rfl rfl ?_
      subst hQ9
      first | exact ⟨rfl, congrArg (Prod.mk 0) ((axW_o (fun z => by cases z.1)).trans (cdF_y (by omega))), rfl⟩ | exact ⟨rfl, congrArg (Prod.mk 0) (cdF_n (by omega)).symm, rfl⟩
    · skip
      refine qG.blk 1 (pc' := 32) (ls' := [(2, 8)]) (st' := [(0, (-2))]) (w' := (axW w i)) (n' := 142) rfl ?_
      refine qG.ret rfl rfl ?_
      subst hQ9
      first | exact ⟨rfl, congrArg (Prod.mk 0) ((axW_o (fun z => by cases z.1)).trans (cdF_y (by omega))), rfl⟩ | exact ⟨rfl, congrArg (Prod.mk 0) (cdF_n (by omega)).symm, rfl⟩
theorem K_tNext {d : Nat} (hd : 0 ≤ d)  (m : Nat) (hm6 : m ≤ 601) (w : qW) (hI : yInv zgf zga zra zSp w) (hm : w 8 4 = (m : Int)) (i : Nat) (hi : i ≤ m) : qG none d 149 0 [(2, 8)] [] (axW w i) 142 (fun (r : qV) (w1 : qW) (n1 : Nat) => n1 = 142 ∧ r = (9, 0) ∧ w1 = axW w (i + 1)) := by
  generalize hQ9 : (fun (r : qV) (w1 : qW) (n1 : Nat) => n1 = 142 ∧ r = (9, 0) ∧ w1 = axW w (i + 1)) = Q9
  refine qG.blk 3 (pc' := 5) (ls' := [(2, 8)]) (st' := [(0, (axW w i) 8 5), (2, 8)]) (w' := (axW w i)) (n' := 142) rfl ?_
  rw [show (axW w i) 8 5 = ((i : Nat) : Int) from axW_at]
  refine qG.blk 2 (pc' := 7) (ls' := [(2, 8)]) (st' := [(0, wrp (((i : Nat) : Int) + 1)), (2, 8)]) (w' := (axW w i)) (n' := 142) rfl ?_
  rw [show wrp (((i : Nat) : Int) + 1) = ((i + 1 : Nat) : Int) from by rw [wrp_id (by omega) (by omega)]; omega]
  refine qG.blk 1 (pc' := 10) (ls' := [(2, 8)]) (st' := []) (w' := (qup (axW w i) 8 5 ((i + 1 : Nat) : Int))) (n' := 142) rfl ?_
  refine qG.retv rfl rfl ?_
  subst hQ9
  exact ⟨rfl, rfl, axW_up⟩
theorem K_tFail {d : Nat} (hd : 0 ≤ d) (k : Int) (m : Nat) (hm6 : m ≤ 601) (w : qW) (hI : yInv zgf zga zra zSp w) (hm : w 8 4 = (m : Int)) (i : Nat) (hi : i ≤ m) : qG none d 153 0 [(2, 8), (0, k)] [] (axW w i) 142 (fun (r : qV) (w1 : qW) (n1 : Nat) => n1 = 142 ∧ r = (0, 0) ∧ w1 = axF w k i) := by
  generalize hQ9 : (fun (r : qV) (w1 : qW) (n1 : Nat) => n1 = 142 ∧ r = (0, 0) ∧ w1 = axF w k i) = Q9
  refine qG.blk 6 (pc' := 10) (ls' := [(2, 8), (0, k)]) (st' := [(0, (axW w i) 8 5), (2, 8)]) (w' := (qup (axW w i) 8 6 k)) (n' := 142) rfl ?_
  rw [show (axW w i) 8 5 = ((i : Nat) : Int) from axW_at]
  refine qG.br (P := ((i : Nat) : Int) < 0) (pc1 := 36) (pc2 := 13) (st1 := [(2, 8)]) rfl (fun h1 => ?_) (fun h1 => ?_)
  · skip
    refine qG.blk 4 (pc' := 44) (ls' := [(2, 8), (0, k)]) (st' := [(0, 0)]) (w' := (qup (qup (axW w i) 8 6 k) 8 7 ((axW w i) 8 1))) (n' := 142) rfl ?_
    refine qG.ret rfl (by first | rfl | exact decide_eq_true (by omega)) ?_
    subst hQ9
    first | exact ⟨rfl, rfl, congrArg (qup (qup (axW w i) 8 6 k) 8 7) ((axW_o (fun z => by cases z.1)).trans (plF_y (by omega)))⟩ | exact ⟨rfl, rfl, congrArg (qup (qup (axW w i) 8 6 k) 8 7) ((axW_o (by decide)).trans (plF_n (by omega)))⟩
  · skip
    refine qG.blk 2 (pc' := 17) (ls' := [(2, 8), (0, k)]) (st' := [(0, (axW w i) 8 5), (2, 8)]) (w' := (qup (axW w i) 8 6 k)) (n' := 142) rfl ?_
    rw [show (axW w i) 8 5 = ((i : Nat) : Int) from axW_at]
    refine qG.blk 2 (pc' := 21) (ls' := [(2, 8), (0, k)]) (st' := [(0, (axW w i) 8 4), (0, ((i : Nat) : Int)), (2, 8)]) (w' := (qup (axW w i) 8 6 k)) (n' := 142) rfl ?_
    rw [show (axW w i) 8 4 = ((m : Nat) : Int) from (axW_o (by decide)).trans (hm)]
    refine qG.br (P := ((i : Nat) : Int) < ((m : Nat) : Int)) (pc1 := 24) (pc2 := 36) (st1 := [(2, 8)]) rfl (fun hl => ?_) (fun hl => ?_)
    · skip
      refine qG.blk 2 (pc' := 28) (ls' := [(2, 8), (0, k)]) (st' := [(2, (axW w i) 8 3), (2, 8)]) (w' := (qup (axW w i) 8 6 k)) (n' := 142) rfl ?_
      rw [show (axW w i) 8 3 = 11 from (axW_o (by decide)).trans (zref hI rfl rfl)]
      refine qG.blk 2 (pc' := 32) (ls' := [(2, 8), (0, k)]) (st' := [(0, (axW w i) 8 5), (2, 11), (2, 8)]) (w' := (qup (axW w i) 8 6 k)) (n' := 142) rfl ?_
      rw [show (axW w i) 8 5 = ((i : Nat) : Int) from axW_at]
      refine qG.ild (m := 601) rfl rfl (by omega) (by decide) ?_
      show qG none d 153 33 [(2, 8), (0, k)] [(0, (axW w i) 11 i), (2, 8)] (qup (axW w i) 8 6 k) 142 Q9
      refine qG.blk 3 (pc' := 44) (ls' := [(2, 8), (0, k)]) (st' := [(0, 0)]) (w' := (qup (qup (axW w i) 8 6 k) 8 7 ((axW w i) 11 i))) (n' := 142) rfl ?_
      refine qG.ret rfl (by first | rfl | exact decide_eq_true (by omega)) ?_
      subst hQ9
      first | exact ⟨rfl, rfl, congrArg (qup (qup (axW w i) 8 6 k) 8 7) ((axW_o (fun z => by cases z.1)).trans (plF_y (by omega)))⟩ | exact ⟨rfl, rfl, congrArg (qup (qup (axW w i) 8 6 k) 8 7) ((axW_o (by decide)).trans (plF_n (by omega)))⟩
    · skip
      refine qG.blk 4 (pc' := 44) (ls' := [(2, 8), (0, k)]) (st' := [(0, 0)]) (w' := (qup (qup (axW w i) 8 6 k) 8 7 ((axW w i) 8 1))) (n' := 142) rfl ?_
      refine qG.ret rfl (by first | rfl | exact decide_eq_true (by omega)) ?_
      subst hQ9
      first | exact ⟨rfl, rfl, congrArg (qup (qup (axW w i) 8 6 k) 8 7) ((axW_o (fun z => by cases z.1)).trans (plF_y (by omega)))⟩ | exact ⟨rfl, rfl, congrArg (qup (qup (axW w i) 8 6 k) 8 7) ((axW_o (by decide)).trans (plF_n (by omega)))⟩
theorem K_tTakes {d : Nat} (hd : 1 ≤ d) (v : Int) (hv : v ≠ -2) (m : Nat) (hm6 : m ≤ 601) (w : qW) (hI : yInv zgf zga zra zSp w) (hm : w 8 4 = (m : Int)) (i : Nat) (hi : i ≤ m) : qG none d 150 0 [(2, 8), (0, v)] [] (axW w i) 142 (fun (r : qV) (w1 : qW) (n1 : Nat) => n1 = 142 ∧ ((cdF w i = v ∧ i < m ∧ r = (0, 1) ∧ w1 = axW w (i + 1)) ∨ (¬ cdF w i = v ∧ r = (0, 0) ∧ w1 = axW w i))) := by
  generalize hQ9 : (fun (r : qV) (w1 : qW) (n1 : Nat) => n1 = 142 ∧ ((cdF w i = v ∧ i < m ∧ r = (0, 1) ∧ w1 = axW w (i + 1)) ∨ (¬ cdF w i = v ∧ r = (0, 0) ∧ w1 = axW w i))) = Q9
  obtain ⟨d, rfl⟩ : ∃ d9, d = d9 + 1 := ⟨d - 1, by omega⟩
  refine qG.blk 1 (pc' := 1) (ls' := [(2, 8), (0, v)]) (st' := [(2, 8)]) (w' := (axW w i)) (n' := 142) rfl ?_
  refine qG.call (t := 145) (na := 1) (sk := 1) (md := 1) (ls1 := [(2, 8)]) (r1 := []) rfl rfl rfl rfl rfl (K_tCode (by omega) m hm6 w hI hm i (by omega)) ?_
  rintro _ w7 _ ⟨rfl, rfl, hw7⟩
  rw [hw7]
  show qG none (d + 1) 150 4 [(2, 8), (0, v)] [(0, cdF w i)] (axW w i) 142 Q9
  refine qG.blk 1 (pc' := 5) (ls' := [(2, 8), (0, v)]) (st' := [(0, v), (0, cdF w i)]) (w' := (axW w i)) (n' := 142) rfl ?_
  refine qG.br (P := cdF w i = v) (pc1 := 10) (pc2 := 8) (st1 := []) rfl (fun hc => ?_) (fun hc => ?_)
  · skip
    have hlt : i < m := cd_lt hm (fun z => hv (hc.symm.trans z))
    refine qG.blk 1 (pc' := 11) (ls' := [(2, 8), (0, v)]) (st' := [(2, 8)]) (w' := (axW w i)) (n' := 142) rfl ?_
    refine qG.call (t := 149) (na := 1) (sk := 1) (md := 1) (ls1 := [(2, 8)]) (r1 := []) rfl rfl rfl rfl rfl (K_tNext (by omega) m hm6 w hI hm i (by omega)) ?_
    rintro _ w7 _ ⟨rfl, rfl, hw7⟩
    rw [hw7]
    show qG none (d + 1) 150 14 [(2, 8), (0, v)] [] (axW w (i + 1)) 142 Q9
    refine qG.blk 1 (pc' := 15) (ls' := [(2, 8), (0, v)]) (st' := [(0, 1)]) (w' := (axW w (i + 1))) (n' := 142) rfl ?_
    refine qG.ret rfl (by first | rfl | exact decide_eq_true (by omega)) ?_
    subst hQ9
    first | exact ⟨rfl, .inl ⟨hc, hlt, rfl, rfl⟩⟩ | exact ⟨rfl, .inr ⟨hc, rfl, rfl⟩⟩
  · skip
    refine qG.blk 1 (pc' := 9) (ls' := [(2, 8), (0, v)]) (st' := [(0, 0)]) (w' := (axW w i)) (n' := 142) rfl ?_
    refine qG.ret rfl (by first | rfl | exact decide_eq_true (by omega)) ?_
    subst hQ9
    first | exact ⟨rfl, .inl ⟨hc, hlt, rfl, rfl⟩⟩ | exact ⟨rfl, .inr ⟨hc, rfl, rfl⟩⟩
theorem K_tNeeds {d : Nat} (hd : 2 ≤ d) (v : Int) (hv : v ≠ -2) (m : Nat) (hm6 : m ≤ 601) (w : qW) (hI : yInv zgf zga zra zSp w) (hm : w 8 4 = (m : Int)) (i : Nat) (hi : i ≤ m) : qG none d 151 0 [(2, 8), (0, v)] [] (axW w i) 142 (fun (r : qV) (w1 : qW) (n1 : Nat) => n1 = 142 ∧ RD w m (sNeed (cdF w) v i) r w1) := by
  generalize hQ9 : (fun (r : qV) (w1 : qW) (n1 : Nat) => n1 = 142 ∧ RD w m (sNeed (cdF w) v i) r w1) = Q9
  obtain ⟨d, rfl⟩ : ∃ d9, d = d9 + 1 := ⟨d - 1, by omega⟩
  refine qG.blk 2 (pc' := 2) (ls' := [(2, 8), (0, v)]) (st' := [(0, v), (2, 8)]) (w' := (axW w i)) (n' := 142) rfl ?_
  refine qG.call (t := 150) (na := 2) (sk := 1) (md := 1) (ls1 := [(2, 8), (0, v)]) (r1 := []) rfl rfl rfl rfl rfl (K_tTakes (by omega) v hv m hm6 w hI hm i (by omega)) ?_
  rintro ⟨_, x9⟩ w7 _ ⟨rfl, hT⟩; rcases hT with ⟨hc2, hl2, hx9, rfl⟩ | ⟨hc2, hx9, rfl⟩ <;> obtain ⟨rfl, rfl⟩ := Prod.mk.inj hx9
  · skip
    show qG none (d + 1) 151 5 [(2, 8), (0, v)] [(0, 1)] (axW w (i + 1)) 142 Q9
    refine qG.br (P := (1 : Int) = 0) (pc1 := 8) (pc2 := 16) (st1 := []) rfl (fun h1 => ?_) (fun h1 => ?_)
    · exact absurd h1 (by decide)
    · skip
      refine qG.blk 2 (pc' := 21) (ls' := [(2, 8), (0, v)]) (st' := [(0, 1)]) (w' := (axW w (i + 1))) (n' := 142) rfl ?_
      refine qG.ret rfl (by first | rfl | exact decide_eq_true (by omega)) ?_
      subst hQ9
      first | exact ⟨rfl, .inl ⟨i + 1, if_pos hc2, by omega, rfl, rfl⟩⟩ | exact ⟨rfl, .inr ⟨1, i, if_neg hc2, .inl rfl, hi, rfl, rfl⟩⟩
  · skip
    show qG none (d + 1) 151 5 [(2, 8), (0, v)] [(0, 0)] (axW w i) 142 Q9
    refine qG.br (P := (0 : Int) = 0) (pc1 := 8) (pc2 := 16) (st1 := []) rfl (fun h2 => ?_) (fun h2 => ?_)
    · skip
      refine qG.blk 2 (pc' := 10) (ls' := [(2, 8), (0, v)]) (st' := [(0, 1), (2, 8)]) (w' := (axW w i)) (n' := 142) rfl ?_
      refine qG.call (t := 153) (na := 2) (sk := 1) (md := 1) (ls1 := [(2, 8), (0, 1)]) (r1 := []) rfl rfl rfl rfl rfl (K_tFail (by omega) 1 m hm6 w hI hm i (by omega)) ?_
      rintro _ w7 _ ⟨rfl, rfl, hw7⟩
      rw [hw7]
      show qG none (d + 1) 151 13 [(2, 8), (0, v)] [(0, 0)] (axF w 1 i) 142 Q9
      refine qG.br (P := (0 : Int) = 0) (pc1 := 20) (pc2 := 16) (st1 := []) rfl (fun h3 => ?_) (fun h3 => ?_)
      · skip
        refine qG.blk 1 (pc' := 21) (ls' := [(2, 8), (0, v)]) (st' := [(0, 0)]) (w' := (axF w 1 i)) (n' := 142) rfl ?_
        refine qG.ret rfl (by first | rfl | exact decide_eq_true (by omega)) ?_
        subst hQ9
        first | exact ⟨rfl, .inl ⟨i + 1, if_pos hc2, by omega, rfl, rfl⟩⟩ | exact ⟨rfl, .inr ⟨1, i, if_neg hc2, .inl rfl, hi, rfl, rfl⟩⟩
      · exact absurd h3 (by decide)
    · exact absurd h2 (by decide)
theorem K_tNum {d : Nat} (hd : 1 ≤ d) (lo hi2 : Int) (m : Nat) (hm6 : m ≤ 601) (w : qW) (hI : yInv zgf zga zra zSp w) (hm : w 8 4 = (m : Int)) (i : Nat) (hi : i ≤ m) : qG none d 152 0 [(2, 8), (0, lo), (0, hi2), (9, 0)] [] (axW w i) 142 (fun (r : qV) (w1 : qW) (n1 : Nat) => n1 = 142 ∧ RD w m (sNum (cdF w) lo hi2 i) r w1) := by
  generalize hQ9 : (fun (r : qV) (w1 : qW) (n1 : Nat) => n1 = 142 ∧ RD w m (sNum (cdF w) lo hi2 i) r w1) = Q9
  obtain ⟨d, rfl⟩ : ∃ d9, d = d9 + 1 := ⟨d - 1, by omega⟩
  refine qG.blk 1 (pc' := 1) (ls' := [(2, 8), (0, lo), (0, hi2), (9, 0)]) (st' := [(2, 8)]) (w' := (axW w i)) (n' := 142) rfl ?_
  refine qG.call (t := 145) (na := 1) (sk := 1) (md := 1) (ls1 := [(2, 8)]) (r1 := []) rfl rfl rfl rfl rfl (K_tCode (by omega) m hm6 w hI hm i (by omega)) ?_
  rintro _ w7 _ ⟨rfl, rfl, hw7⟩
  rw [hw7]
  show qG none (d + 1) 152 4 [(2, 8), (0, lo), (0, hi2), (9, 0)] [(0, cdF w i)] (axW w i) 142 Q9
  refine qG.blk 2 (pc' := 6) (ls' := [(2, 8), (0, lo), (0, hi2), (0, cdF w i)]) (st' := [(0, cdF w i)]) (w' := (axW w i)) (n' := 142) rfl ?_
  refine qG.br (P := cdF w i < 0) (pc1 := 16) (pc2 := 9) (st1 := []) rfl (fun h6 => ?_) (fun h6 => ?_)
  · skip
    refine qG.blk 2 (pc' := 18) (ls' := [(2, 8), (0, lo), (0, hi2), (0, cdF w i)]) (st' := [(0, 1), (2, 8)]) (w' := (axW w i)) (n' := 142) rfl ?_
    refine qG.call (t := 153) (na := 2) (sk := 1) (md := 1) (ls1 := [(2, 8), (0, 1)]) (r1 := []) rfl rfl rfl rfl rfl (K_tFail (by omega) 1 m hm6 w hI hm i (by omega)) ?_
    rintro _ w7 _ ⟨rfl, rfl, hw7⟩
    rw [hw7]
    show qG none (d + 1) 152 21 [(2, 8), (0, lo), (0, hi2), (0, cdF w i)] [(0, 0)] (axF w 1 i) 142 Q9
    refine qG.ret rfl (by first | rfl | exact decide_eq_true (by omega)) ?_
    subst hQ9
    first | exact ⟨rfl, .inr ⟨1, i, sNum_1 (.inl h6), .inl rfl, hi, rfl, rfl⟩⟩ | exact ⟨rfl, .inr ⟨1, i, sNum_1 (.inr (by omega)), .inl rfl, hi, rfl, rfl⟩⟩ | exact ⟨rfl, .inr ⟨2, i, sNum_2 (by omega) (by omega), .inr (.inl rfl), hi, rfl, rfl⟩⟩ | exact ⟨rfl, .inl ⟨i + 1, sNum_0 (by omega) (by omega), cd_lt hm (by omega), rfl, rfl⟩⟩
  · skip
    refine qG.blk 2 (pc' := 13) (ls' := [(2, 8), (0, lo), (0, hi2), (0, cdF w i)]) (st' := [(0, 10000), (0, cdF w i)]) (w' := (axW w i)) (n' := 142) rfl ?_
    refine qG.br (P := cdF w i < 10000) (pc1 := 22) (pc2 := 16) (st1 := []) rfl (fun h13 => ?_) (fun h13 => ?_)
    · skip
      refine qG.blk 2 (pc' := 24) (ls' := [(2, 8), (0, lo), (0, hi2), (0, cdF w i)]) (st' := [(0, lo), (0, cdF w i)]) (w' := (axW w i)) (n' := 142) rfl ?_
      refine qG.br (P := cdF w i < lo) (pc1 := 32) (pc2 := 27) (st1 := []) rfl (fun h24 => ?_) (fun h24 => ?_)
      · skip
        refine qG.blk 2 (pc' := 34) (ls' := [(2, 8), (0, lo), (0, hi2), (0, cdF w i)]) (st' := [(0, 2), (2, 8)]) (w' := (axW w i)) (n' := 142) rfl ?_
        refine qG.call (t := 153) (na := 2) (sk := 1) (md := 1) (ls1 := [(2, 8), (0, 2)]) (r1 := []) rfl rfl rfl rfl rfl (K_tFail (by omega) 2 m hm6 w hI hm i (by omega)) ?_
        rintro _ w7 _ ⟨rfl, rfl, hw7⟩
        rw [hw7]
        show qG none (d + 1) 152 37 [(2, 8), (0, lo), (0, hi2), (0, cdF w i)] [(0, 0)] (axF w 2 i) 142 Q9
        refine qG.ret rfl (by first | rfl | exact decide_eq_true (by omega)) ?_
        subst hQ9
        first | exact ⟨rfl, .inr ⟨1, i, sNum_1 (.inl h6), .inl rfl, hi, rfl, rfl⟩⟩ | exact ⟨rfl, .inr ⟨1, i, sNum_1 (.inr (by omega)), .inl rfl, hi, rfl, rfl⟩⟩ | exact ⟨rfl, .inr ⟨2, i, sNum_2 (by omega) (by omega), .inr (.inl rfl), hi, rfl, rfl⟩⟩ | exact ⟨rfl, .inl ⟨i + 1, sNum_0 (by omega) (by omega), cd_lt hm (by omega), rfl, rfl⟩⟩
      · skip
        refine qG.blk 2 (pc' := 29) (ls' := [(2, 8), (0, lo), (0, hi2), (0, cdF w i)]) (st' := [(0, hi2), (0, cdF w i)]) (w' := (axW w i)) (n' := 142) rfl ?_
        refine qG.br (P := hi2 < cdF w i) (pc1 := 32) (pc2 := 38) (st1 := []) rfl (fun h29 => ?_) (fun h29 => ?_)
        · skip
          refine qG.blk 2 (pc' := 34) (ls' := [(2, 8), (0, lo), (0, hi2), (0, cdF w i)]) (st' := [(0, 2), (2, 8)]) (w' := (axW w i)) (n' := 142) rfl ?_
          refine qG.call (t := 153) (na := 2) (sk := 1) (md := 1) (ls1 := [(2, 8), (0, 2)]) (r1 := []) rfl rfl rfl rfl rfl (K_tFail (by omega) 2 m hm6 w hI hm i (by omega)) ?_
          rintro _ w7 _ ⟨rfl, rfl, hw7⟩
          rw [hw7]
          show qG none (d + 1) 152 37 [(2, 8), (0, lo), (0, hi2), (0, cdF w i)] [(0, 0)] (axF w 2 i) 142 Q9
          refine qG.ret rfl (by first | rfl | exact decide_eq_true (by omega)) ?_
          subst hQ9
          first | exact ⟨rfl, .inr ⟨1, i, sNum_1 (.inl h6), .inl rfl, hi, rfl, rfl⟩⟩ | exact ⟨rfl, .inr ⟨1, i, sNum_1 (.inr (by omega)), .inl rfl, hi, rfl, rfl⟩⟩ | exact ⟨rfl, .inr ⟨2, i, sNum_2 (by omega) (by omega), .inr (.inl rfl), hi, rfl, rfl⟩⟩ | exact ⟨rfl, .inl ⟨i + 1, sNum_0 (by omega) (by omega), cd_lt hm (by omega), rfl, rfl⟩⟩
        · skip
          refine qG.blk 1 (pc' := 39) (ls' := [(2, 8), (0, lo), (0, hi2), (0, cdF w i)]) (st' := [(2, 8)]) (w' := (axW w i)) (n' := 142) rfl ?_
          refine qG.call (t := 149) (na := 1) (sk := 1) (md := 1) (ls1 := [(2, 8)]) (r1 := []) rfl rfl rfl rfl rfl (K_tNext (by omega) m hm6 w hI hm i (by omega)) ?_
          rintro _ w7 _ ⟨rfl, rfl, hw7⟩
          rw [hw7]
          show qG none (d + 1) 152 42 [(2, 8), (0, lo), (0, hi2), (0, cdF w i)] [] (axW w (i + 1)) 142 Q9
          refine qG.blk 1 (pc' := 43) (ls' := [(2, 8), (0, lo), (0, hi2), (0, cdF w i)]) (st' := [(0, 1)]) (w' := (axW w (i + 1))) (n' := 142) rfl ?_
          refine qG.ret rfl (by first | rfl | exact decide_eq_true (by omega)) ?_
          subst hQ9
          first | exact ⟨rfl, .inr ⟨1, i, sNum_1 (.inl h6), .inl rfl, hi, rfl, rfl⟩⟩ | exact ⟨rfl, .inr ⟨1, i, sNum_1 (.inr (by omega)), .inl rfl, hi, rfl, rfl⟩⟩ | exact ⟨rfl, .inr ⟨2, i, sNum_2 (by omega) (by omega), .inr (.inl rfl), hi, rfl, rfl⟩⟩ | exact ⟨rfl, .inl ⟨i + 1, sNum_0 (by omega) (by omega), cd_lt hm (by omega), rfl, rfl⟩⟩
    · skip
      refine qG.blk 2 (pc' := 18) (ls' := [(2, 8), (0, lo), (0, hi2), (0, cdF w i)]) (st' := [(0, 1), (2, 8)]) (w' := (axW w i)) (n' := 142) rfl ?_
      refine qG.call (t := 153) (na := 2) (sk := 1) (md := 1) (ls1 := [(2, 8), (0, 1)]) (r1 := []) rfl rfl rfl rfl rfl (K_tFail (by omega) 1 m hm6 w hI hm i (by omega)) ?_
      rintro _ w7 _ ⟨rfl, rfl, hw7⟩
      rw [hw7]
      show qG none (d + 1) 152 21 [(2, 8), (0, lo), (0, hi2), (0, cdF w i)] [(0, 0)] (axF w 1 i) 142 Q9
      refine qG.ret rfl (by first | rfl | exact decide_eq_true (by omega)) ?_
      subst hQ9
      first | exact ⟨rfl, .inr ⟨1, i, sNum_1 (.inl h6), .inl rfl, hi, rfl, rfl⟩⟩ | exact ⟨rfl, .inr ⟨1, i, sNum_1 (.inr (by omega)), .inl rfl, hi, rfl, rfl⟩⟩ | exact ⟨rfl, .inr ⟨2, i, sNum_2 (by omega) (by omega), .inr (.inl rfl), hi, rfl, rfl⟩⟩ | exact ⟨rfl, .inl ⟨i + 1, sNum_0 (by omega) (by omega), cd_lt hm (by omega), rfl, rfl⟩⟩
theorem K_tWord {d : Nat} (hd : 1 ≤ d)  (m : Nat) (hm6 : m ≤ 601) (w : qW) (hI : yInv zgf zga zra zSp w) (hm : w 8 4 = (m : Int)) (i : Nat) (hi : i ≤ m) : qG none d 148 0 [(2, 8), (9, 0)] [] (axW w i) 142 (fun (r : qV) (w1 : qW) (n1 : Nat) => n1 = 142 ∧ r = (0, if 10000 ≤ cdF w i ∧ cdF w i < 20000 then cdF w i - 10000 else -1) ∧ w1 = axW w i) := by
  generalize hQ9 : (fun (r : qV) (w1 : qW) (n1 : Nat) => n1 = 142 ∧ r = (0, if 10000 ≤ cdF w i ∧ cdF w i < 20000 then cdF w i - 10000 else -1) ∧ w1 = axW w i) = Q9
  obtain ⟨d, rfl⟩ : ∃ d9, d = d9 + 1 := ⟨d - 1, by omega⟩
  refine qG.blk 1 (pc' := 1) (ls' := [(2, 8), (9, 0)]) (st' := [(2, 8)]) (w' := (axW w i)) (n' := 142) rfl ?_
  refine qG.call (t := 145) (na := 1) (sk := 1) (md := 1) (ls1 := [(2, 8)]) (r1 := []) rfl rfl rfl rfl rfl (K_tCode (by omega) m hm6 w hI hm i (by omega)) ?_
  rintro _ w7 _ ⟨rfl, rfl, hw7⟩
  rw [hw7]
  show qG none (d + 1) 148 4 [(2, 8), (9, 0)] [(0, cdF w i)] (axW w i) 142 Q9
  refine qG.blk 3 (pc' := 9) (ls' := [(2, 8), (0, cdF w i)]) (st' := [(0, 10000), (0, cdF w i)]) (w' := (axW w i)) (n' := 142) rfl ?_
  refine qG.br (P := cdF w i < 10000) (pc1 := 27) (pc2 := 12) (st1 := []) rfl (fun h9 => ?_) (fun h9 => ?_)
  · skip
    refine qG.blk 1 (pc' := 28) (ls' := [(2, 8), (0, cdF w i)]) (st' := [(0, (-1))]) (w' := (axW w i)) (n' := 142) rfl ?_
    refine qG.ret rfl rfl ?_
    subst hQ9
    first | exact ⟨rfl, congrArg (Prod.mk 0) (if_pos (by omega)).symm, rfl⟩ | exact ⟨rfl, congrArg (Prod.mk 0) (if_neg (by omega)).symm, rfl⟩
  · skip
    refine qG.blk 2 (pc' := 16) (ls' := [(2, 8), (0, cdF w i)]) (st' := [(0, 20000), (0, cdF w i)]) (w' := (axW w i)) (n' := 142) rfl ?_
    refine qG.br (P := cdF w i < 20000) (pc1 := 19) (pc2 := 27) (st1 := []) rfl (fun h16 => ?_) (fun h16 => ?_)
    · skip
      refine qG.blk 3 (pc' := 24) (ls' := [(2, 8), (0, cdF w i)]) (st' := [(0, wrp ((cdF w i) - 10000))]) (w' := (axW w i)) (n' := 142) rfl ?_
      rw [show wrp ((cdF w i) - 10000) = (cdF w i) - 10000 from wrp_id (by omega) (by omega)]
      refine qG.blk 1 (pc' := 28) (ls' := [(2, 8), (0, cdF w i)]) (st' := [(0, (cdF w i) - 10000)]) (w' := (axW w i)) (n' := 142) rfl ?_
      refine qG.ret rfl rfl ?_
      subst hQ9
      first | exact ⟨rfl, congrArg (Prod.mk 0) (if_pos (by omega)).symm, rfl⟩ | exact ⟨rfl, congrArg (Prod.mk 0) (if_neg (by omega)).symm, rfl⟩
    · skip
      refine qG.blk 1 (pc' := 28) (ls' := [(2, 8), (0, cdF w i)]) (st' := [(0, (-1))]) (w' := (axW w i)) (n' := 142) rfl ?_
      refine qG.ret rfl rfl ?_
      subst hQ9
      first | exact ⟨rfl, congrArg (Prod.mk 0) (if_pos (by omega)).symm, rfl⟩ | exact ⟨rfl, congrArg (Prod.mk 0) (if_neg (by omega)).symm, rfl⟩
theorem K_pUnit {d : Nat} (hd : 3 ≤ d)  (m : Nat) (hm6 : m ≤ 601) (w : qW) (hI : yInv zgf zga zra zSp w) (hm : w 8 4 = (m : Int)) (i : Nat) (hi : i ≤ m) : qG none d 82 0 [(2, 8)] [] (axW w i) 142 (fun (r : qV) (w1 : qW) (n1 : Nat) => n1 = 142 ∧ RD w m (sUnit (cdF w) i) r w1) := by
  generalize hQ9 : (fun (r : qV) (w1 : qW) (n1 : Nat) => n1 = 142 ∧ RD w m (sUnit (cdF w) i) r w1) = Q9
  obtain ⟨d, rfl⟩ : ∃ d9, d = d9 + 1 := ⟨d - 1, by omega⟩
  refine qG.blk 2 (pc' := 4) (ls' := [(2, 8)]) (st' := [(0, 10006), (2, 8)]) (w' := (axW w i)) (n' := 142) rfl ?_
  refine qG.call (t := 150) (na := 2) (sk := 1) (md := 1) (ls1 := [(2, 8), (0, 10006)]) (r1 := []) rfl rfl rfl rfl rfl (K_tTakes (by omega) 10006 (by decide) m hm6 w hI hm i (by omega)) ?_
  rintro ⟨_, x9⟩ w7 _ ⟨rfl, hT⟩; rcases hT with ⟨hc4, hl4, hx9, rfl⟩ | ⟨hc4, hx9, rfl⟩ <;> obtain ⟨rfl, rfl⟩ := Prod.mk.inj hx9
  · skip
    show qG none (d + 1) 82 7 [(2, 8)] [(0, 1)] (axW w (i + 1)) 142 Q9
    refine qG.br (P := (1 : Int) = 0) (pc1 := 10) (pc2 := 20) (st1 := []) rfl (fun h1 => ?_) (fun h1 => ?_)
    · exact absurd h1 (by decide)
    · skip
      refine qG.blk 3 (pc' := 24) (ls' := [(2, 8)]) (st' := [(0, 15), (0, 0), (2, 8)]) (w' := (axW w (i + 1))) (n' := 142) rfl ?_
      refine qG.call (t := 152) (na := 3) (sk := 1) (md := 1) (ls1 := [(2, 8), (0, 0), (0, 15), (9, 0)]) (r1 := []) rfl rfl rfl rfl rfl (K_tNum (by omega) 0 15 m hm6 w hI hm (i + 1) (by omega)) ?_
      rintro ⟨_, x9⟩ w7 _ ⟨rfl, hT⟩; rcases hT with ⟨j24, hs24, hl24, hx9, rfl⟩ | ⟨k24, j24, hs24, hk24, hl24, hx9, rfl⟩ <;> obtain ⟨rfl, rfl⟩ := Prod.mk.inj hx9
      · skip
        show qG none (d + 1) 82 27 [(2, 8)] [(0, 1)] (axW w j24) 142 Q9
        refine qG.ret rfl (by first | rfl | exact decide_eq_true (by omega)) ?_
        subst hQ9
        first | exact ⟨rfl, .inl ⟨_, (unit_a (by first | exact .inl hc4 | exact .inr hc14)).trans hs24, hl24, rfl, rfl⟩⟩ | exact ⟨rfl, .inr ⟨_, _, (unit_a (by first | exact .inl hc4 | exact .inr hc14)).trans hs24, hk24, hl24, rfl, rfl⟩⟩
      · skip
        show qG none (d + 1) 82 27 [(2, 8)] [(0, 0)] (axF w k24 j24) 142 Q9
        refine qG.ret rfl (by first | rfl | exact decide_eq_true (by omega)) ?_
        subst hQ9
        first | exact ⟨rfl, .inl ⟨_, (unit_a (by first | exact .inl hc4 | exact .inr hc14)).trans hs24, hl24, rfl, rfl⟩⟩ | exact ⟨rfl, .inr ⟨_, _, (unit_a (by first | exact .inl hc4 | exact .inr hc14)).trans hs24, hk24, hl24, rfl, rfl⟩⟩
  · skip
    show qG none (d + 1) 82 7 [(2, 8)] [(0, 0)] (axW w i) 142 Q9
    refine qG.br (P := (0 : Int) = 0) (pc1 := 10) (pc2 := 20) (st1 := []) rfl (fun h2 => ?_) (fun h2 => ?_)
    · skip
      refine qG.blk 2 (pc' := 14) (ls' := [(2, 8)]) (st' := [(0, 10007), (2, 8)]) (w' := (axW w i)) (n' := 142) rfl ?_
      refine qG.call (t := 150) (na := 2) (sk := 1) (md := 1) (ls1 := [(2, 8), (0, 10007)]) (r1 := []) rfl rfl rfl rfl rfl (K_tTakes (by omega) 10007 (by decide) m hm6 w hI hm i (by omega)) ?_
      rintro ⟨_, x9⟩ w7 _ ⟨rfl, hT⟩; rcases hT with ⟨hc14, hl14, hx9, rfl⟩ | ⟨hc14, hx9, rfl⟩ <;> obtain ⟨rfl, rfl⟩ := Prod.mk.inj hx9
      · skip
        show qG none (d + 1) 82 17 [(2, 8)] [(0, 1)] (axW w (i + 1)) 142 Q9
        refine qG.br (P := (1 : Int) = 0) (pc1 := 28) (pc2 := 20) (st1 := []) rfl (fun h3 => ?_) (fun h3 => ?_)
        · exact absurd h3 (by decide)
        · skip
          refine qG.blk 3 (pc' := 24) (ls' := [(2, 8)]) (st' := [(0, 15), (0, 0), (2, 8)]) (w' := (axW w (i + 1))) (n' := 142) rfl ?_
          refine qG.call (t := 152) (na := 3) (sk := 1) (md := 1) (ls1 := [(2, 8), (0, 0), (0, 15), (9, 0)]) (r1 := []) rfl rfl rfl rfl rfl (K_tNum (by omega) 0 15 m hm6 w hI hm (i + 1) (by omega)) ?_
          rintro ⟨_, x9⟩ w7 _ ⟨rfl, hT⟩; rcases hT with ⟨j24, hs24, hl24, hx9, rfl⟩ | ⟨k24, j24, hs24, hk24, hl24, hx9, rfl⟩ <;> obtain ⟨rfl, rfl⟩ := Prod.mk.inj hx9
          · skip
            show qG none (d + 1) 82 27 [(2, 8)] [(0, 1)] (axW w j24) 142 Q9
            refine qG.ret rfl (by first | rfl | exact decide_eq_true (by omega)) ?_
            subst hQ9
            first | exact ⟨rfl, .inl ⟨_, (unit_a (by first | exact .inl hc4 | exact .inr hc14)).trans hs24, hl24, rfl, rfl⟩⟩ | exact ⟨rfl, .inr ⟨_, _, (unit_a (by first | exact .inl hc4 | exact .inr hc14)).trans hs24, hk24, hl24, rfl, rfl⟩⟩
          · skip
            show qG none (d + 1) 82 27 [(2, 8)] [(0, 0)] (axF w k24 j24) 142 Q9
            refine qG.ret rfl (by first | rfl | exact decide_eq_true (by omega)) ?_
            subst hQ9
            first | exact ⟨rfl, .inl ⟨_, (unit_a (by first | exact .inl hc4 | exact .inr hc14)).trans hs24, hl24, rfl, rfl⟩⟩ | exact ⟨rfl, .inr ⟨_, _, (unit_a (by first | exact .inl hc4 | exact .inr hc14)).trans hs24, hk24, hl24, rfl, rfl⟩⟩
      · skip
        show qG none (d + 1) 82 17 [(2, 8)] [(0, 0)] (axW w i) 142 Q9
        refine qG.br (P := (0 : Int) = 0) (pc1 := 28) (pc2 := 20) (st1 := []) rfl (fun h4 => ?_) (fun h4 => ?_)
        · skip
          refine qG.blk 1 (pc' := 29) (ls' := [(2, 8)]) (st' := [(2, 8)]) (w' := (axW w i)) (n' := 142) rfl ?_
          refine qG.call (t := 148) (na := 1) (sk := 1) (md := 1) (ls1 := [(2, 8), (9, 0)]) (r1 := []) rfl rfl rfl rfl rfl (K_tWord (by omega) m hm6 w hI hm i (by omega)) ?_
          rintro _ w7 _ ⟨rfl, rfl, hw7⟩
          rw [hw7]
          show qG none (d + 1) 82 32 [(2, 8)] [(0, (if 10000 ≤ cdF w i ∧ cdF w i < 20000 then cdF w i - 10000 else -1))] (axW w i) 142 Q9
          refine qG.blk 1 (pc' := 34) (ls' := [(2, 8)]) (st' := [(0, 8), (0, (if 10000 ≤ cdF w i ∧ cdF w i < 20000 then cdF w i - 10000 else -1))]) (w' := (axW w i)) (n' := 142) rfl ?_
          refine qG.br (P := (if 10000 ≤ cdF w i ∧ cdF w i < 20000 then cdF w i - 10000 else -1) < 8) (pc1 := 43) (pc2 := 37) (st1 := []) rfl (fun h34 => ?_) (fun h34 => ?_)
          · skip
            have hw8 : ¬ (10008 ≤ cdF w i ∧ cdF w i < 20000) := fun z => by rw [if_pos (by omega)] at h34; omega
            refine qG.blk 3 (pc' := 48) (ls' := [(2, 8)]) (st' := [(0, 9999), (0, 0), (2, 8)]) (w' := (axW w i)) (n' := 142) rfl ?_
            refine qG.call (t := 152) (na := 3) (sk := 1) (md := 1) (ls1 := [(2, 8), (0, 0), (0, 9999), (9, 0)]) (r1 := []) rfl rfl rfl rfl rfl (K_tNum (by omega) 0 9999 m hm6 w hI hm i (by omega)) ?_
            rintro ⟨_, x9⟩ w7 _ ⟨rfl, hT⟩; rcases hT with ⟨j48, hs48, hl48, hx9, rfl⟩ | ⟨k48, j48, hs48, hk48, hl48, hx9, rfl⟩ <;> obtain ⟨rfl, rfl⟩ := Prod.mk.inj hx9
            · skip
              show qG none (d + 1) 82 51 [(2, 8)] [(0, 1)] (axW w j48) 142 Q9
              refine qG.ret rfl (by first | rfl | exact decide_eq_true (by omega)) ?_
              subst hQ9
              first | exact ⟨rfl, .inl ⟨_, (unit_c (fun z => z.elim hc4 hc14) hw8).trans hs48, hl48, rfl, rfl⟩⟩ | exact ⟨rfl, .inr ⟨_, _, (unit_c (fun z => z.elim hc4 hc14) hw8).trans hs48, hk48, hl48, rfl, rfl⟩⟩
            · skip
              show qG none (d + 1) 82 51 [(2, 8)] [(0, 0)] (axF w k48 j48) 142 Q9
              refine qG.ret rfl (by first | rfl | exact decide_eq_true (by omega)) ?_
              subst hQ9
              first | exact ⟨rfl, .inl ⟨_, (unit_c (fun z => z.elim hc4 hc14) hw8).trans hs48, hl48, rfl, rfl⟩⟩ | exact ⟨rfl, .inr ⟨_, _, (unit_c (fun z => z.elim hc4 hc14) hw8).trans hs48, hk48, hl48, rfl, rfl⟩⟩
          · skip
            have hw8 : 10008 ≤ cdF w i ∧ cdF w i < 20000 := by split at h34 <;> omega
            refine qG.blk 1 (pc' := 38) (ls' := [(2, 8)]) (st' := [(2, 8)]) (w' := (axW w i)) (n' := 142) rfl ?_
            refine qG.call (t := 149) (na := 1) (sk := 1) (md := 1) (ls1 := [(2, 8)]) (r1 := []) rfl rfl rfl rfl rfl (K_tNext (by omega) m hm6 w hI hm i (by omega)) ?_
            rintro _ w7 _ ⟨rfl, rfl, hw7⟩
            rw [hw7]
            show qG none (d + 1) 82 41 [(2, 8)] [] (axW w (i + 1)) 142 Q9
            refine qG.blk 1 (pc' := 42) (ls' := [(2, 8)]) (st' := [(0, 1)]) (w' := (axW w (i + 1))) (n' := 142) rfl ?_
            refine qG.ret rfl (by first | rfl | exact decide_eq_true (by omega)) ?_
            subst hQ9
            exact ⟨rfl, .inl ⟨i + 1, unit_b (fun z => z.elim hc4 hc14) hw8, cd_lt hm (by omega), rfl, rfl⟩⟩
        · exact absurd h4 (by decide)
    · exact absurd h2 (by decide)
theorem sL_s {C : Nat → Int} {n i : Nat} (h : C i = 20047) : sSumL C (n + 1) i = bnd (sNum C 1 9999 (i + 1)) (sSumL C n) := if_pos h
theorem sL_u {C : Nat → Int} {n i : Nat} (h : ¬ C i = 20047) (h2 : C i = 20042 ∨ C i = 20043 ∨ C i = 20045) : sSumL C (n + 1) i = bnd (sUnit C (i + 1)) (sSumL C n) := by
  show (if C i = 20047 then _ else _) = _
  rw [if_neg h, if_pos h2]
theorem sL_e {C : Nat → Int} {n i : Nat} (h : ¬ C i = 20047) (h2 : ¬ (C i = 20042 ∨ C i = 20043 ∨ C i = 20045)) : sSumL C (n + 1) i = (0, i) := by
  show (if C i = 20047 then _ else _) = _
  rw [if_neg h, if_neg h2]
theorem K_pSum {d : Nat} (hd : 4 ≤ d)  (m : Nat) (hm6 : m ≤ 601) (w : qW) (hI : yInv zgf zga zra zSp w) (hm : w 8 4 = (m : Int)) (i : Nat) (hi : i ≤ m) : qG none d 81 0 [(2, 8), (9, 0), (9, 0), (9, 0)] [] (axW w i) 142 (fun (r : qV) (w1 : qW) (n1 : Nat) => n1 = 142 ∧ RD w m (sSum (cdF w) 601 i) r w1) := by
  generalize hQ9 : (fun (r : qV) (w1 : qW) (n1 : Nat) => n1 = 142 ∧ RD w m (sSum (cdF w) 601 i) r w1) = Q9
  obtain ⟨N6, hN6⟩ : ∃ N : Int, N = 601 := ⟨_, rfl⟩
  obtain ⟨d, rfl⟩ : ∃ d9, d = d9 + 1 := ⟨d - 1, by omega⟩
  refine qG.blk 1 (pc' := 1) (ls' := [(2, 8), (9, 0), (9, 0), (9, 0)]) (st' := [(2, 8)]) (w' := (axW w i)) (n' := 142) rfl ?_
  refine qG.call (t := 82) (na := 1) (sk := 0) (md := 0) (ls1 := [(2, 8)]) (r1 := []) rfl rfl rfl rfl rfl (K_pUnit (by omega) m hm6 w hI hm i (by omega)) ?_
  rintro ⟨_, x9⟩ w7 _ ⟨rfl, hT⟩; rcases hT with ⟨j1, hs1, hl1, hx9, rfl⟩ | ⟨k1, j1, hs1, hk1, hl1, hx9, rfl⟩ <;> obtain ⟨rfl, rfl⟩ := Prod.mk.inj hx9
  · skip
    show qG none (d + 1) 81 4 [(2, 8), (9, 0), (9, 0), (9, 0)] [(0, 1)] (axW w j1) 142 Q9
    refine qG.blk 5 (pc' := 9) (ls' := [(2, 8), (0, 1), (0, 1), (0, 0)]) (st' := []) (w' := (axW w j1)) (n' := 142) rfl ?_
    have L9 : ∀ (m9 : Nat) (t : Nat) (f g : Int) (w9 : qW), 601 - t = m9 → (t ≤ 601 ∧ ((f = 1 ∧ g = 1 ∧ ∃ j, j ≤ m ∧ w9 = axW w j ∧ sSum (cdF w) 601 i = sSumL (cdF w) (601 - t) j) ∨ (f = 1 ∧ g = 0 ∧ ∃ j, j ≤ m ∧ w9 = axW w j ∧ sSum (cdF w) 601 i = (0, j)) ∨ (f = 0 ∧ ∃ k j, sSum (cdF w) 601 i = (k, j) ∧ (k = 1 ∨ k = 2 ∨ k = 3) ∧ j ≤ m ∧ w9 = axF w k j))) → qG none (d + 1) 81 9 [(2, 8), (0, f), (0, g), (0, ((t : Nat) : Int))] [] w9 142 Q9 := by
      intro m9
      induction m9 using Nat.strongRecOn with
      | ind m9 ih9 =>
      intro t f g w9 hm9 hI9
      obtain ⟨ht9, hI9⟩ := hI9; rcases hI9 with ⟨rfl, rfl, j9, hj9, rfl, hJ9⟩ | ⟨rfl, rfl, j9, hj9, rfl, hJ9⟩ | ⟨rfl, k9, j9, hJ9, hk9, hj9, rfl⟩
      · skip
        refine qG.blk 2 (pc' := 13) (ls' := [(2, 8), (0, 1), (0, 1), (0, ((t : Nat) : Int))]) (st' := [(0, 601), (0, ((t : Nat) : Int))]) (w' := (axW w j9)) (n' := 142) rfl ?_
        rw [show (601 : Int) = N6 from hN6.symm]
        refine qG.br (P := ((t : Nat) : Int) < N6) (pc1 := 16) (pc2 := 92) (st1 := []) rfl (fun h13 => ?_) (fun h13 => ?_)
        · skip
          refine qG.blk 1 (pc' := 17) (ls' := [(2, 8), (0, 1), (0, 1), (0, ((t : Nat) : Int))]) (st' := [(0, 1)]) (w' := (axW w j9)) (n' := 142) rfl ?_
          refine qG.br (P := (1 : Int) = 0) (pc1 := 92) (pc2 := 20) (st1 := []) rfl (fun h1 => ?_) (fun h1 => ?_)
          · exact absurd h1 (by decide)
          · skip
            refine qG.blk 1 (pc' := 21) (ls' := [(2, 8), (0, 1), (0, 1), (0, ((t : Nat) : Int))]) (st' := [(0, 1)]) (w' := (axW w j9)) (n' := 142) rfl ?_
            refine qG.br (P := (1 : Int) = 0) (pc1 := 92) (pc2 := 24) (st1 := []) rfl (fun h2 => ?_) (fun h2 => ?_)
            · exact absurd h2 (by decide)
            · skip
              refine qG.blk 2 (pc' := 28) (ls' := [(2, 8), (0, 1), (0, 1), (0, ((t : Nat) : Int))]) (st' := [(0, 20047), (2, 8)]) (w' := (axW w j9)) (n' := 142) rfl ?_
              refine qG.call (t := 150) (na := 2) (sk := 1) (md := 1) (ls1 := [(2, 8), (0, 20047)]) (r1 := []) rfl rfl rfl rfl rfl (K_tTakes (by omega) 20047 (by decide) m hm6 w hI hm j9 (by omega)) ?_
              rintro ⟨_, x9⟩ w7 _ ⟨rfl, hT⟩; rcases hT with ⟨hc28, hl28, hx9, rfl⟩ | ⟨hc28, hx9, rfl⟩ <;> obtain ⟨rfl, rfl⟩ := Prod.mk.inj hx9
              · skip
                show qG none (d + 1) 81 31 [(2, 8), (0, 1), (0, 1), (0, ((t : Nat) : Int))] [(0, 1)] (axW w (j9 + 1)) 142 Q9
                refine qG.br (P := (1 : Int) = 0) (pc1 := 46) (pc2 := 34) (st1 := []) rfl (fun h3 => ?_) (fun h3 => ?_)
                · exact absurd h3 (by decide)
                · skip
                  refine qG.blk 3 (pc' := 39) (ls' := [(2, 8), (0, 1), (0, 1), (0, ((t : Nat) : Int))]) (st' := [(0, 9999), (0, 1), (2, 8)]) (w' := (axW w (j9 + 1))) (n' := 142) rfl ?_
                  refine qG.call (t := 152) (na := 3) (sk := 1) (md := 1) (ls1 := [(2, 8), (0, 1), (0, 9999), (9, 0)]) (r1 := []) rfl rfl rfl rfl rfl (K_tNum (by omega) 1 9999 m hm6 w hI hm (j9 + 1) (by omega)) ?_
                  rintro ⟨_, x9⟩ w7 _ ⟨rfl, hT⟩; rcases hT with ⟨j39, hs39, hl39, hx9, rfl⟩ | ⟨k39, j39, hs39, hk39, hl39, hx9, rfl⟩ <;> obtain ⟨rfl, rfl⟩ := Prod.mk.inj hx9
                  · skip
                    show qG none (d + 1) 81 42 [(2, 8), (0, 1), (0, 1), (0, ((t : Nat) : Int))] [(0, 1)] (axW w j39) 142 Q9
                    refine qG.blk 3 (pc' := 89) (ls' := [(2, 8), (0, 1), (0, 1), (0, wrp (((t : Nat) : Int) + 1))]) (st' := []) (w' := (axW w j39)) (n' := 142) rfl ?_
                    rw [show wrp (((t : Nat) : Int) + 1) = ((t + 1 : Nat) : Int) from wrp_id (by omega) (by omega)]
                    refine qG.blk 1 (pc' := 9) (ls' := [(2, 8), (0, 1), (0, 1), (0, ((t + 1 : Nat) : Int))]) (st' := []) (w' := (axW w j39)) (n' := 142) rfl ?_
                    exact ih9 _ (by omega) (t + 1) (1) (1) ((axW w j39)) rfl (⟨by omega, .inl ⟨rfl, rfl, j39, hl39, rfl, (by rw [hJ9, show 601 - t = (601 - (t + 1)) + 1 by omega]; exact (sL_s hc28).trans (bnd_y hs39))⟩⟩)
                  · skip
                    show qG none (d + 1) 81 42 [(2, 8), (0, 1), (0, 1), (0, ((t : Nat) : Int))] [(0, 0)] (axF w k39 j39) 142 Q9
                    refine qG.blk 3 (pc' := 89) (ls' := [(2, 8), (0, 0), (0, 1), (0, wrp (((t : Nat) : Int) + 1))]) (st' := []) (w' := (axF w k39 j39)) (n' := 142) rfl ?_
                    rw [show wrp (((t : Nat) : Int) + 1) = ((t + 1 : Nat) : Int) from wrp_id (by omega) (by omega)]
                    refine qG.blk 1 (pc' := 9) (ls' := [(2, 8), (0, 0), (0, 1), (0, ((t + 1 : Nat) : Int))]) (st' := []) (w' := (axF w k39 j39)) (n' := 142) rfl ?_
                    exact ih9 _ (by omega) (t + 1) (0) (1) ((axF w k39 j39)) rfl (⟨by omega, .inr (.inr ⟨rfl, k39, j39, (by rw [hJ9, show 601 - t = (601 - (t + 1)) + 1 by omega]; exact (sL_s hc28).trans (bnd_k hs39 hk39)), hk39, hl39, rfl⟩)⟩)
              · skip
                show qG none (d + 1) 81 31 [(2, 8), (0, 1), (0, 1), (0, ((t : Nat) : Int))] [(0, 0)] (axW w j9) 142 Q9
                refine qG.br (P := (0 : Int) = 0) (pc1 := 46) (pc2 := 34) (st1 := []) rfl (fun h4 => ?_) (fun h4 => ?_)
                · skip
                  refine qG.blk 2 (pc' := 50) (ls' := [(2, 8), (0, 1), (0, 1), (0, ((t : Nat) : Int))]) (st' := [(0, 20042), (2, 8)]) (w' := (axW w j9)) (n' := 142) rfl ?_
                  refine qG.call (t := 150) (na := 2) (sk := 1) (md := 1) (ls1 := [(2, 8), (0, 20042)]) (r1 := []) rfl rfl rfl rfl rfl (K_tTakes (by omega) 20042 (by decide) m hm6 w hI hm j9 (by omega)) ?_
                  rintro ⟨_, x9⟩ w7 _ ⟨rfl, hT⟩; rcases hT with ⟨hc50, hl50, hx9, rfl⟩ | ⟨hc50, hx9, rfl⟩ <;> obtain ⟨rfl, rfl⟩ := Prod.mk.inj hx9
                  · skip
                    show qG none (d + 1) 81 53 [(2, 8), (0, 1), (0, 1), (0, ((t : Nat) : Int))] [(0, 1)] (axW w (j9 + 1)) 142 Q9
                    refine qG.br (P := (1 : Int) = 0) (pc1 := 56) (pc2 := 76) (st1 := []) rfl (fun h5 => ?_) (fun h5 => ?_)
                    · exact absurd h5 (by decide)
                    · skip
                      refine qG.blk 1 (pc' := 77) (ls' := [(2, 8), (0, 1), (0, 1), (0, ((t : Nat) : Int))]) (st' := [(2, 8)]) (w' := (axW w (j9 + 1))) (n' := 142) rfl ?_
                      refine qG.call (t := 82) (na := 1) (sk := 0) (md := 0) (ls1 := [(2, 8)]) (r1 := []) rfl rfl rfl rfl rfl (K_pUnit (by omega) m hm6 w hI hm (j9 + 1) (by omega)) ?_
                      rintro ⟨_, x9⟩ w7 _ ⟨rfl, hT⟩; rcases hT with ⟨j77, hs77, hl77, hx9, rfl⟩ | ⟨k77, j77, hs77, hk77, hl77, hx9, rfl⟩ <;> obtain ⟨rfl, rfl⟩ := Prod.mk.inj hx9
                      · skip
                        show qG none (d + 1) 81 80 [(2, 8), (0, 1), (0, 1), (0, ((t : Nat) : Int))] [(0, 1)] (axW w j77) 142 Q9
                        refine qG.blk 3 (pc' := 89) (ls' := [(2, 8), (0, 1), (0, 1), (0, wrp (((t : Nat) : Int) + 1))]) (st' := []) (w' := (axW w j77)) (n' := 142) rfl ?_
                        rw [show wrp (((t : Nat) : Int) + 1) = ((t + 1 : Nat) : Int) from wrp_id (by omega) (by omega)]
                        refine qG.blk 1 (pc' := 9) (ls' := [(2, 8), (0, 1), (0, 1), (0, ((t + 1 : Nat) : Int))]) (st' := []) (w' := (axW w j77)) (n' := 142) rfl ?_
                        exact ih9 _ (by omega) (t + 1) (1) (1) ((axW w j77)) rfl (⟨by omega, .inl ⟨rfl, rfl, j77, hl77, rfl, (by rw [hJ9, show 601 - t = (601 - (t + 1)) + 1 by omega]; exact (sL_u hc28 (by first | exact .inl hc50 | exact .inr (.inl hc60) | exact .inr (.inr hc70))).trans (bnd_y hs77))⟩⟩)
                      · skip
                        show qG none (d + 1) 81 80 [(2, 8), (0, 1), (0, 1), (0, ((t : Nat) : Int))] [(0, 0)] (axF w k77 j77) 142 Q9
                        refine qG.blk 3 (pc' := 89) (ls' := [(2, 8), (0, 0), (0, 1), (0, wrp (((t : Nat) : Int) + 1))]) (st' := []) (w' := (axF w k77 j77)) (n' := 142) rfl ?_
                        rw [show wrp (((t : Nat) : Int) + 1) = ((t + 1 : Nat) : Int) from wrp_id (by omega) (by omega)]
                        refine qG.blk 1 (pc' := 9) (ls' := [(2, 8), (0, 0), (0, 1), (0, ((t + 1 : Nat) : Int))]) (st' := []) (w' := (axF w k77 j77)) (n' := 142) rfl ?_
                        exact ih9 _ (by omega) (t + 1) (0) (1) ((axF w k77 j77)) rfl (⟨by omega, .inr (.inr ⟨rfl, k77, j77, (by rw [hJ9, show 601 - t = (601 - (t + 1)) + 1 by omega]; exact (sL_u hc28 (by first | exact .inl hc50 | exact .inr (.inl hc60) | exact .inr (.inr hc70))).trans (bnd_k hs77 hk77)), hk77, hl77, rfl⟩)⟩)
                  · skip
                    show qG none (d + 1) 81 53 [(2, 8), (0, 1), (0, 1), (0, ((t : Nat) : Int))] [(0, 0)] (axW w j9) 142 Q9
                    refine qG.br (P := (0 : Int) = 0) (pc1 := 56) (pc2 := 76) (st1 := []) rfl (fun h6 => ?_) (fun h6 => ?_)
                    · skip
                      refine qG.blk 2 (pc' := 60) (ls' := [(2, 8), (0, 1), (0, 1), (0, ((t : Nat) : Int))]) (st' := [(0, 20043), (2, 8)]) (w' := (axW w j9)) (n' := 142) rfl ?_
                      refine qG.call (t := 150) (na := 2) (sk := 1) (md := 1) (ls1 := [(2, 8), (0, 20043)]) (r1 := []) rfl rfl rfl rfl rfl (K_tTakes (by omega) 20043 (by decide) m hm6 w hI hm j9 (by omega)) ?_
                      rintro ⟨_, x9⟩ w7 _ ⟨rfl, hT⟩; rcases hT with ⟨hc60, hl60, hx9, rfl⟩ | ⟨hc60, hx9, rfl⟩ <;> obtain ⟨rfl, rfl⟩ := Prod.mk.inj hx9
                      · skip
                        show qG none (d + 1) 81 63 [(2, 8), (0, 1), (0, 1), (0, ((t : Nat) : Int))] [(0, 1)] (axW w (j9 + 1)) 142 Q9
                        refine qG.br (P := (1 : Int) = 0) (pc1 := 66) (pc2 := 76) (st1 := []) rfl (fun h7 => ?_) (fun h7 => ?_)
                        · exact absurd h7 (by decide)
                        · skip
                          refine qG.blk 1 (pc' := 77) (ls' := [(2, 8), (0, 1), (0, 1), (0, ((t : Nat) : Int))]) (st' := [(2, 8)]) (w' := (axW w (j9 + 1))) (n' := 142) rfl ?_
                          refine qG.call (t := 82) (na := 1) (sk := 0) (md := 0) (ls1 := [(2, 8)]) (r1 := []) rfl rfl rfl rfl rfl (K_pUnit (by omega) m hm6 w hI hm (j9 + 1) (by omega)) ?_
                          rintro ⟨_, x9⟩ w7 _ ⟨rfl, hT⟩; rcases hT with ⟨j77, hs77, hl77, hx9, rfl⟩ | ⟨k77, j77, hs77, hk77, hl77, hx9, rfl⟩ <;> obtain ⟨rfl, rfl⟩ := Prod.mk.inj hx9
                          · skip
                            show qG none (d + 1) 81 80 [(2, 8), (0, 1), (0, 1), (0, ((t : Nat) : Int))] [(0, 1)] (axW w j77) 142 Q9
                            refine qG.blk 3 (pc' := 89) (ls' := [(2, 8), (0, 1), (0, 1), (0, wrp (((t : Nat) : Int) + 1))]) (st' := []) (w' := (axW w j77)) (n' := 142) rfl ?_
                            rw [show wrp (((t : Nat) : Int) + 1) = ((t + 1 : Nat) : Int) from wrp_id (by omega) (by omega)]
                            refine qG.blk 1 (pc' := 9) (ls' := [(2, 8), (0, 1), (0, 1), (0, ((t + 1 : Nat) : Int))]) (st' := []) (w' := (axW w j77)) (n' := 142) rfl ?_
                            exact ih9 _ (by omega) (t + 1) (1) (1) ((axW w j77)) rfl (⟨by omega, .inl ⟨rfl, rfl, j77, hl77, rfl, (by rw [hJ9, show 601 - t = (601 - (t + 1)) + 1 by omega]; exact (sL_u hc28 (by first | exact .inl hc50 | exact .inr (.inl hc60) | exact .inr (.inr hc70))).trans (bnd_y hs77))⟩⟩)
                          · skip
                            show qG none (d + 1) 81 80 [(2, 8), (0, 1), (0, 1), (0, ((t : Nat) : Int))] [(0, 0)] (axF w k77 j77) 142 Q9
                            refine qG.blk 3 (pc' := 89) (ls' := [(2, 8), (0, 0), (0, 1), (0, wrp (((t : Nat) : Int) + 1))]) (st' := []) (w' := (axF w k77 j77)) (n' := 142) rfl ?_
                            rw [show wrp (((t : Nat) : Int) + 1) = ((t + 1 : Nat) : Int) from wrp_id (by omega) (by omega)]
                            refine qG.blk 1 (pc' := 9) (ls' := [(2, 8), (0, 0), (0, 1), (0, ((t + 1 : Nat) : Int))]) (st' := []) (w' := (axF w k77 j77)) (n' := 142) rfl ?_
                            exact ih9 _ (by omega) (t + 1) (0) (1) ((axF w k77 j77)) rfl (⟨by omega, .inr (.inr ⟨rfl, k77, j77, (by rw [hJ9, show 601 - t = (601 - (t + 1)) + 1 by omega]; exact (sL_u hc28 (by first | exact .inl hc50 | exact .inr (.inl hc60) | exact .inr (.inr hc70))).trans (bnd_k hs77 hk77)), hk77, hl77, rfl⟩)⟩)
                      · skip
                        show qG none (d + 1) 81 63 [(2, 8), (0, 1), (0, 1), (0, ((t : Nat) : Int))] [(0, 0)] (axW w j9) 142 Q9
                        refine qG.br (P := (0 : Int) = 0) (pc1 := 66) (pc2 := 76) (st1 := []) rfl (fun h8 => ?_) (fun h8 => ?_)
                        · skip
                          refine qG.blk 2 (pc' := 70) (ls' := [(2, 8), (0, 1), (0, 1), (0, ((t : Nat) : Int))]) (st' := [(0, 20045), (2, 8)]) (w' := (axW w j9)) (n' := 142) rfl ?_
                          refine qG.call (t := 150) (na := 2) (sk := 1) (md := 1) (ls1 := [(2, 8), (0, 20045)]) (r1 := []) rfl rfl rfl rfl rfl (K_tTakes (by omega) 20045 (by decide) m hm6 w hI hm j9 (by omega)) ?_
                          rintro ⟨_, x9⟩ w7 _ ⟨rfl, hT⟩; rcases hT with ⟨hc70, hl70, hx9, rfl⟩ | ⟨hc70, hx9, rfl⟩ <;> obtain ⟨rfl, rfl⟩ := Prod.mk.inj hx9
                          · skip
                            show qG none (d + 1) 81 73 [(2, 8), (0, 1), (0, 1), (0, ((t : Nat) : Int))] [(0, 1)] (axW w (j9 + 1)) 142 Q9
                            refine qG.br (P := (1 : Int) = 0) (pc1 := 84) (pc2 := 76) (st1 := []) rfl (fun h9 => ?_) (fun h9 => ?_)
                            · exact absurd h9 (by decide)
                            · skip
                              refine qG.blk 1 (pc' := 77) (ls' := [(2, 8), (0, 1), (0, 1), (0, ((t : Nat) : Int))]) (st' := [(2, 8)]) (w' := (axW w (j9 + 1))) (n' := 142) rfl ?_
                              refine qG.call (t := 82) (na := 1) (sk := 0) (md := 0) (ls1 := [(2, 8)]) (r1 := []) rfl rfl rfl rfl rfl (K_pUnit (by omega) m hm6 w hI hm (j9 + 1) (by omega)) ?_
                              rintro ⟨_, x9⟩ w7 _ ⟨rfl, hT⟩; rcases hT with ⟨j77, hs77, hl77, hx9, rfl⟩ | ⟨k77, j77, hs77, hk77, hl77, hx9, rfl⟩ <;> obtain ⟨rfl, rfl⟩ := Prod.mk.inj hx9
                              · skip
                                show qG none (d + 1) 81 80 [(2, 8), (0, 1), (0, 1), (0, ((t : Nat) : Int))] [(0, 1)] (axW w j77) 142 Q9
                                refine qG.blk 3 (pc' := 89) (ls' := [(2, 8), (0, 1), (0, 1), (0, wrp (((t : Nat) : Int) + 1))]) (st' := []) (w' := (axW w j77)) (n' := 142) rfl ?_
                                rw [show wrp (((t : Nat) : Int) + 1) = ((t + 1 : Nat) : Int) from wrp_id (by omega) (by omega)]
                                refine qG.blk 1 (pc' := 9) (ls' := [(2, 8), (0, 1), (0, 1), (0, ((t + 1 : Nat) : Int))]) (st' := []) (w' := (axW w j77)) (n' := 142) rfl ?_
                                exact ih9 _ (by omega) (t + 1) (1) (1) ((axW w j77)) rfl (⟨by omega, .inl ⟨rfl, rfl, j77, hl77, rfl, (by rw [hJ9, show 601 - t = (601 - (t + 1)) + 1 by omega]; exact (sL_u hc28 (by first | exact .inl hc50 | exact .inr (.inl hc60) | exact .inr (.inr hc70))).trans (bnd_y hs77))⟩⟩)
                              · skip
                                show qG none (d + 1) 81 80 [(2, 8), (0, 1), (0, 1), (0, ((t : Nat) : Int))] [(0, 0)] (axF w k77 j77) 142 Q9
                                refine qG.blk 3 (pc' := 89) (ls' := [(2, 8), (0, 0), (0, 1), (0, wrp (((t : Nat) : Int) + 1))]) (st' := []) (w' := (axF w k77 j77)) (n' := 142) rfl ?_
                                rw [show wrp (((t : Nat) : Int) + 1) = ((t + 1 : Nat) : Int) from wrp_id (by omega) (by omega)]
                                refine qG.blk 1 (pc' := 9) (ls' := [(2, 8), (0, 0), (0, 1), (0, ((t + 1 : Nat) : Int))]) (st' := []) (w' := (axF w k77 j77)) (n' := 142) rfl ?_
                                exact ih9 _ (by omega) (t + 1) (0) (1) ((axF w k77 j77)) rfl (⟨by omega, .inr (.inr ⟨rfl, k77, j77, (by rw [hJ9, show 601 - t = (601 - (t + 1)) + 1 by omega]; exact (sL_u hc28 (by first | exact .inl hc50 | exact .inr (.inl hc60) | exact .inr (.inr hc70))).trans (bnd_k hs77 hk77)), hk77, hl77, rfl⟩)⟩)
                          · skip
                            show qG none (d + 1) 81 73 [(2, 8), (0, 1), (0, 1), (0, ((t : Nat) : Int))] [(0, 0)] (axW w j9) 142 Q9
                            refine qG.br (P := (0 : Int) = 0) (pc1 := 84) (pc2 := 76) (st1 := []) rfl (fun h10 => ?_) (fun h10 => ?_)
                            · skip
                              refine qG.blk 3 (pc' := 89) (ls' := [(2, 8), (0, 1), (0, 0), (0, wrp (((t : Nat) : Int) + 1))]) (st' := []) (w' := (axW w j9)) (n' := 142) rfl ?_
                              rw [show wrp (((t : Nat) : Int) + 1) = ((t + 1 : Nat) : Int) from wrp_id (by omega) (by omega)]
                              refine qG.blk 1 (pc' := 9) (ls' := [(2, 8), (0, 1), (0, 0), (0, ((t + 1 : Nat) : Int))]) (st' := []) (w' := (axW w j9)) (n' := 142) rfl ?_
                              exact ih9 _ (by omega) (t + 1) (1) (0) ((axW w j9)) rfl (⟨by omega, .inr (.inl ⟨rfl, rfl, j9, hj9, rfl, (by rw [hJ9, show 601 - t = (601 - (t + 1)) + 1 by omega]; exact sL_e hc28 (fun z => z.elim hc50 (fun z => z.elim hc60 hc70)))⟩)⟩)
                            · exact absurd h10 (by decide)
                        · exact absurd h8 (by decide)
                    · exact absurd h6 (by decide)
                · exact absurd h4 (by decide)
        · skip
          refine qG.blk 1 (pc' := 93) (ls' := [(2, 8), (0, 1), (0, 1), (0, ((t : Nat) : Int))]) (st' := [(0, 1)]) (w' := (axW w j9)) (n' := 142) rfl ?_
          refine qG.ret rfl (by first | rfl | exact decide_eq_true (by omega)) ?_
          subst hQ9
          first | exact ⟨rfl, .inl ⟨j9, hJ9.trans (by rw [show 601 - t = 0 by omega]; rfl), hj9, rfl, rfl⟩⟩ | exact ⟨rfl, .inl ⟨j9, hJ9, hj9, rfl, rfl⟩⟩ | exact ⟨rfl, .inr ⟨k9, j9, hJ9, hk9, hj9, rfl, rfl⟩⟩
      · skip
        refine qG.blk 2 (pc' := 13) (ls' := [(2, 8), (0, 1), (0, 0), (0, ((t : Nat) : Int))]) (st' := [(0, 601), (0, ((t : Nat) : Int))]) (w' := (axW w j9)) (n' := 142) rfl ?_
        rw [show (601 : Int) = N6 from hN6.symm]
        refine qG.br (P := ((t : Nat) : Int) < N6) (pc1 := 16) (pc2 := 92) (st1 := []) rfl (fun h13 => ?_) (fun h13 => ?_)
        · skip
          refine qG.blk 1 (pc' := 17) (ls' := [(2, 8), (0, 1), (0, 0), (0, ((t : Nat) : Int))]) (st' := [(0, 1)]) (w' := (axW w j9)) (n' := 142) rfl ?_
          refine qG.br (P := (1 : Int) = 0) (pc1 := 92) (pc2 := 20) (st1 := []) rfl (fun h11 => ?_) (fun h11 => ?_)
          · exact absurd h11 (by decide)
          · skip
            refine qG.blk 1 (pc' := 21) (ls' := [(2, 8), (0, 1), (0, 0), (0, ((t : Nat) : Int))]) (st' := [(0, 0)]) (w' := (axW w j9)) (n' := 142) rfl ?_
            refine qG.br (P := (0 : Int) = 0) (pc1 := 92) (pc2 := 24) (st1 := []) rfl (fun h12 => ?_) (fun h12 => ?_)
            · skip
              refine qG.blk 1 (pc' := 93) (ls' := [(2, 8), (0, 1), (0, 0), (0, ((t : Nat) : Int))]) (st' := [(0, 1)]) (w' := (axW w j9)) (n' := 142) rfl ?_
              refine qG.ret rfl (by first | rfl | exact decide_eq_true (by omega)) ?_
              subst hQ9
              first | exact ⟨rfl, .inl ⟨j9, hJ9.trans (by rw [show 601 - t = 0 by omega]; rfl), hj9, rfl, rfl⟩⟩ | exact ⟨rfl, .inl ⟨j9, hJ9, hj9, rfl, rfl⟩⟩ | exact ⟨rfl, .inr ⟨k9, j9, hJ9, hk9, hj9, rfl, rfl⟩⟩
            · exact absurd h12 (by decide)
        · skip
          refine qG.blk 1 (pc' := 93) (ls' := [(2, 8), (0, 1), (0, 0), (0, ((t : Nat) : Int))]) (st' := [(0, 1)]) (w' := (axW w j9)) (n' := 142) rfl ?_
          refine qG.ret rfl (by first | rfl | exact decide_eq_true (by omega)) ?_
          subst hQ9
          first | exact ⟨rfl, .inl ⟨j9, hJ9.trans (by rw [show 601 - t = 0 by omega]; rfl), hj9, rfl, rfl⟩⟩ | exact ⟨rfl, .inl ⟨j9, hJ9, hj9, rfl, rfl⟩⟩ | exact ⟨rfl, .inr ⟨k9, j9, hJ9, hk9, hj9, rfl, rfl⟩⟩
      · skip
        refine qG.blk 2 (pc' := 13) (ls' := [(2, 8), (0, 0), (0, g), (0, ((t : Nat) : Int))]) (st' := [(0, 601), (0, ((t : Nat) : Int))]) (w' := (axF w k9 j9)) (n' := 142) rfl ?_
        rw [show (601 : Int) = N6 from hN6.symm]
        refine qG.br (P := ((t : Nat) : Int) < N6) (pc1 := 16) (pc2 := 92) (st1 := []) rfl (fun h13 => ?_) (fun h13 => ?_)
        · skip
          refine qG.blk 1 (pc' := 17) (ls' := [(2, 8), (0, 0), (0, g), (0, ((t : Nat) : Int))]) (st' := [(0, 0)]) (w' := (axF w k9 j9)) (n' := 142) rfl ?_
          refine qG.br (P := (0 : Int) = 0) (pc1 := 92) (pc2 := 20) (st1 := []) rfl (fun h13 => ?_) (fun h13 => ?_)
          · skip
            refine qG.blk 1 (pc' := 93) (ls' := [(2, 8), (0, 0), (0, g), (0, ((t : Nat) : Int))]) (st' := [(0, 0)]) (w' := (axF w k9 j9)) (n' := 142) rfl ?_
            refine qG.ret rfl (by first | rfl | exact decide_eq_true (by omega)) ?_
            subst hQ9
            first | exact ⟨rfl, .inl ⟨j9, hJ9.trans (by rw [show 601 - t = 0 by omega]; rfl), hj9, rfl, rfl⟩⟩ | exact ⟨rfl, .inl ⟨j9, hJ9, hj9, rfl, rfl⟩⟩ | exact ⟨rfl, .inr ⟨k9, j9, hJ9, hk9, hj9, rfl, rfl⟩⟩
          · exact absurd h13 (by decide)
        · skip
          refine qG.blk 1 (pc' := 93) (ls' := [(2, 8), (0, 0), (0, g), (0, ((t : Nat) : Int))]) (st' := [(0, 0)]) (w' := (axF w k9 j9)) (n' := 142) rfl ?_
          refine qG.ret rfl (by first | rfl | exact decide_eq_true (by omega)) ?_
          subst hQ9
          first | exact ⟨rfl, .inl ⟨j9, hJ9.trans (by rw [show 601 - t = 0 by omega]; rfl), hj9, rfl, rfl⟩⟩ | exact ⟨rfl, .inl ⟨j9, hJ9, hj9, rfl, rfl⟩⟩ | exact ⟨rfl, .inr ⟨k9, j9, hJ9, hk9, hj9, rfl, rfl⟩⟩
    exact L9 _ (0) (1) (1) ((axW w j1)) rfl (⟨by omega, .inl ⟨rfl, rfl, j1, hl1, rfl, bnd_y hs1⟩⟩)
  · skip
    show qG none (d + 1) 81 4 [(2, 8), (9, 0), (9, 0), (9, 0)] [(0, 0)] (axF w k1 j1) 142 Q9
    refine qG.blk 5 (pc' := 9) (ls' := [(2, 8), (0, 0), (0, 1), (0, 0)]) (st' := []) (w' := (axF w k1 j1)) (n' := 142) rfl ?_
    have L9_1 : ∀ (m9 : Nat) (t : Nat) (f g : Int) (w9 : qW), 601 - t = m9 → (t ≤ 601 ∧ ((f = 1 ∧ g = 1 ∧ ∃ j, j ≤ m ∧ w9 = axW w j ∧ sSum (cdF w) 601 i = sSumL (cdF w) (601 - t) j) ∨ (f = 1 ∧ g = 0 ∧ ∃ j, j ≤ m ∧ w9 = axW w j ∧ sSum (cdF w) 601 i = (0, j)) ∨ (f = 0 ∧ ∃ k j, sSum (cdF w) 601 i = (k, j) ∧ (k = 1 ∨ k = 2 ∨ k = 3) ∧ j ≤ m ∧ w9 = axF w k j))) → qG none (d + 1) 81 9 [(2, 8), (0, f), (0, g), (0, ((t : Nat) : Int))] [] w9 142 Q9 := by
      intro m9
      induction m9 using Nat.strongRecOn with
      | ind m9 ih9 =>
      intro t f g w9 hm9 hI9
      obtain ⟨ht9, hI9⟩ := hI9; rcases hI9 with ⟨rfl, rfl, j9, hj9, rfl, hJ9⟩ | ⟨rfl, rfl, j9, hj9, rfl, hJ9⟩ | ⟨rfl, k9, j9, hJ9, hk9, hj9, rfl⟩
      · skip
        refine qG.blk 2 (pc' := 13) (ls' := [(2, 8), (0, 1), (0, 1), (0, ((t : Nat) : Int))]) (st' := [(0, 601), (0, ((t : Nat) : Int))]) (w' := (axW w j9)) (n' := 142) rfl ?_
        rw [show (601 : Int) = N6 from hN6.symm]
        refine qG.br (P := ((t : Nat) : Int) < N6) (pc1 := 16) (pc2 := 92) (st1 := []) rfl (fun h13 => ?_) (fun h13 => ?_)
        · skip
          refine qG.blk 1 (pc' := 17) (ls' := [(2, 8), (0, 1), (0, 1), (0, ((t : Nat) : Int))]) (st' := [(0, 1)]) (w' := (axW w j9)) (n' := 142) rfl ?_
          refine qG.br (P := (1 : Int) = 0) (pc1 := 92) (pc2 := 20) (st1 := []) rfl (fun h14 => ?_) (fun h14 => ?_)
          · exact absurd h14 (by decide)
          · skip
            refine qG.blk 1 (pc' := 21) (ls' := [(2, 8), (0, 1), (0, 1), (0, ((t : Nat) : Int))]) (st' := [(0, 1)]) (w' := (axW w j9)) (n' := 142) rfl ?_
            refine qG.br (P := (1 : Int) = 0) (pc1 := 92) (pc2 := 24) (st1 := []) rfl (fun h15 => ?_) (fun h15 => ?_)
            · exact absurd h15 (by decide)
            · skip
              refine qG.blk 2 (pc' := 28) (ls' := [(2, 8), (0, 1), (0, 1), (0, ((t : Nat) : Int))]) (st' := [(0, 20047), (2, 8)]) (w' := (axW w j9)) (n' := 142) rfl ?_
              refine qG.call (t := 150) (na := 2) (sk := 1) (md := 1) (ls1 := [(2, 8), (0, 20047)]) (r1 := []) rfl rfl rfl rfl rfl (K_tTakes (by omega) 20047 (by decide) m hm6 w hI hm j9 (by omega)) ?_
              rintro ⟨_, x9⟩ w7 _ ⟨rfl, hT⟩; rcases hT with ⟨hc28, hl28, hx9, rfl⟩ | ⟨hc28, hx9, rfl⟩ <;> obtain ⟨rfl, rfl⟩ := Prod.mk.inj hx9
              · skip
                show qG none (d + 1) 81 31 [(2, 8), (0, 1), (0, 1), (0, ((t : Nat) : Int))] [(0, 1)] (axW w (j9 + 1)) 142 Q9
                refine qG.br (P := (1 : Int) = 0) (pc1 := 46) (pc2 := 34) (st1 := []) rfl (fun h16 => ?_) (fun h16 => ?_)
                · exact absurd h16 (by decide)
                · skip
                  refine qG.blk 3 (pc' := 39) (ls' := [(2, 8), (0, 1), (0, 1), (0, ((t : Nat) : Int))]) (st' := [(0, 9999), (0, 1), (2, 8)]) (w' := (axW w (j9 + 1))) (n' := 142) rfl ?_
                  refine qG.call (t := 152) (na := 3) (sk := 1) (md := 1) (ls1 := [(2, 8), (0, 1), (0, 9999), (9, 0)]) (r1 := []) rfl rfl rfl rfl rfl (K_tNum (by omega) 1 9999 m hm6 w hI hm (j9 + 1) (by omega)) ?_
                  rintro ⟨_, x9⟩ w7 _ ⟨rfl, hT⟩; rcases hT with ⟨j39, hs39, hl39, hx9, rfl⟩ | ⟨k39, j39, hs39, hk39, hl39, hx9, rfl⟩ <;> obtain ⟨rfl, rfl⟩ := Prod.mk.inj hx9
                  · skip
                    show qG none (d + 1) 81 42 [(2, 8), (0, 1), (0, 1), (0, ((t : Nat) : Int))] [(0, 1)] (axW w j39) 142 Q9
                    refine qG.blk 3 (pc' := 89) (ls' := [(2, 8), (0, 1), (0, 1), (0, wrp (((t : Nat) : Int) + 1))]) (st' := []) (w' := (axW w j39)) (n' := 142) rfl ?_
                    rw [show wrp (((t : Nat) : Int) + 1) = ((t + 1 : Nat) : Int) from wrp_id (by omega) (by omega)]
                    refine qG.blk 1 (pc' := 9) (ls' := [(2, 8), (0, 1), (0, 1), (0, ((t + 1 : Nat) : Int))]) (st' := []) (w' := (axW w j39)) (n' := 142) rfl ?_
                    exact ih9 _ (by omega) (t + 1) (1) (1) ((axW w j39)) rfl (⟨by omega, .inl ⟨rfl, rfl, j39, hl39, rfl, (by rw [hJ9, show 601 - t = (601 - (t + 1)) + 1 by omega]; exact (sL_s hc28).trans (bnd_y hs39))⟩⟩)
                  · skip
                    show qG none (d + 1) 81 42 [(2, 8), (0, 1), (0, 1), (0, ((t : Nat) : Int))] [(0, 0)] (axF w k39 j39) 142 Q9
                    refine qG.blk 3 (pc' := 89) (ls' := [(2, 8), (0, 0), (0, 1), (0, wrp (((t : Nat) : Int) + 1))]) (st' := []) (w' := (axF w k39 j39)) (n' := 142) rfl ?_
                    rw [show wrp (((t : Nat) : Int) + 1) = ((t + 1 : Nat) : Int) from wrp_id (by omega) (by omega)]
                    refine qG.blk 1 (pc' := 9) (ls' := [(2, 8), (0, 0), (0, 1), (0, ((t + 1 : Nat) : Int))]) (st' := []) (w' := (axF w k39 j39)) (n' := 142) rfl ?_
                    exact ih9 _ (by omega) (t + 1) (0) (1) ((axF w k39 j39)) rfl (⟨by omega, .inr (.inr ⟨rfl, k39, j39, (by rw [hJ9, show 601 - t = (601 - (t + 1)) + 1 by omega]; exact (sL_s hc28).trans (bnd_k hs39 hk39)), hk39, hl39, rfl⟩)⟩)
              · skip
                show qG none (d + 1) 81 31 [(2, 8), (0, 1), (0, 1), (0, ((t : Nat) : Int))] [(0, 0)] (axW w j9) 142 Q9
                refine qG.br (P := (0 : Int) = 0) (pc1 := 46) (pc2 := 34) (st1 := []) rfl (fun h17 => ?_) (fun h17 => ?_)
                · skip
                  refine qG.blk 2 (pc' := 50) (ls' := [(2, 8), (0, 1), (0, 1), (0, ((t : Nat) : Int))]) (st' := [(0, 20042), (2, 8)]) (w' := (axW w j9)) (n' := 142) rfl ?_
                  refine qG.call (t := 150) (na := 2) (sk := 1) (md := 1) (ls1 := [(2, 8), (0, 20042)]) (r1 := []) rfl rfl rfl rfl rfl (K_tTakes (by omega) 20042 (by decide) m hm6 w hI hm j9 (by omega)) ?_
                  rintro ⟨_, x9⟩ w7 _ ⟨rfl, hT⟩; rcases hT with ⟨hc50, hl50, hx9, rfl⟩ | ⟨hc50, hx9, rfl⟩ <;> obtain ⟨rfl, rfl⟩ := Prod.mk.inj hx9
                  · skip
                    show qG none (d + 1) 81 53 [(2, 8), (0, 1), (0, 1), (0, ((t : Nat) : Int))] [(0, 1)] (axW w (j9 + 1)) 142 Q9
                    refine qG.br (P := (1 : Int) = 0) (pc1 := 56) (pc2 := 76) (st1 := []) rfl (fun h18 => ?_) (fun h18 => ?_)
                    · exact absurd h18 (by decide)
                    · skip
                      refine qG.blk 1 (pc' := 77) (ls' := [(2, 8), (0, 1), (0, 1), (0, ((t : Nat) : Int))]) (st' := [(2, 8)]) (w' := (axW w (j9 + 1))) (n' := 142) rfl ?_
                      refine qG.call (t := 82) (na := 1) (sk := 0) (md := 0) (ls1 := [(2, 8)]) (r1 := []) rfl rfl rfl rfl rfl (K_pUnit (by omega) m hm6 w hI hm (j9 + 1) (by omega)) ?_
                      rintro ⟨_, x9⟩ w7 _ ⟨rfl, hT⟩; rcases hT with ⟨j77, hs77, hl77, hx9, rfl⟩ | ⟨k77, j77, hs77, hk77, hl77, hx9, rfl⟩ <;> obtain ⟨rfl, rfl⟩ := Prod.mk.inj hx9
                      · skip
                        show qG none (d + 1) 81 80 [(2, 8), (0, 1), (0, 1), (0, ((t : Nat) : Int))] [(0, 1)] (axW w j77) 142 Q9
                        refine qG.blk 3 (pc' := 89) (ls' := [(2, 8), (0, 1), (0, 1), (0, wrp (((t : Nat) : Int) + 1))]) (st' := []) (w' := (axW w j77)) (n' := 142) rfl ?_
                        rw [show wrp (((t : Nat) : Int) + 1) = ((t + 1 : Nat) : Int) from wrp_id (by omega) (by omega)]
                        refine qG.blk 1 (pc' := 9) (ls' := [(2, 8), (0, 1), (0, 1), (0, ((t + 1 : Nat) : Int))]) (st' := []) (w' := (axW w j77)) (n' := 142) rfl ?_
                        exact ih9 _ (by omega) (t + 1) (1) (1) ((axW w j77)) rfl (⟨by omega, .inl ⟨rfl, rfl, j77, hl77, rfl, (by rw [hJ9, show 601 - t = (601 - (t + 1)) + 1 by omega]; exact (sL_u hc28 (by first | exact .inl hc50 | exact .inr (.inl hc60) | exact .inr (.inr hc70))).trans (bnd_y hs77))⟩⟩)
                      · skip
                        show qG none (d + 1) 81 80 [(2, 8), (0, 1), (0, 1), (0, ((t : Nat) : Int))] [(0, 0)] (axF w k77 j77) 142 Q9
                        refine qG.blk 3 (pc' := 89) (ls' := [(2, 8), (0, 0), (0, 1), (0, wrp (((t : Nat) : Int) + 1))]) (st' := []) (w' := (axF w k77 j77)) (n' := 142) rfl ?_
                        rw [show wrp (((t : Nat) : Int) + 1) = ((t + 1 : Nat) : Int) from wrp_id (by omega) (by omega)]
                        refine qG.blk 1 (pc' := 9) (ls' := [(2, 8), (0, 0), (0, 1), (0, ((t + 1 : Nat) : Int))]) (st' := []) (w' := (axF w k77 j77)) (n' := 142) rfl ?_
                        exact ih9 _ (by omega) (t + 1) (0) (1) ((axF w k77 j77)) rfl (⟨by omega, .inr (.inr ⟨rfl, k77, j77, (by rw [hJ9, show 601 - t = (601 - (t + 1)) + 1 by omega]; exact (sL_u hc28 (by first | exact .inl hc50 | exact .inr (.inl hc60) | exact .inr (.inr hc70))).trans (bnd_k hs77 hk77)), hk77, hl77, rfl⟩)⟩)
                  · skip
                    show qG none (d + 1) 81 53 [(2, 8), (0, 1), (0, 1), (0, ((t : Nat) : Int))] [(0, 0)] (axW w j9) 142 Q9
                    refine qG.br (P := (0 : Int) = 0) (pc1 := 56) (pc2 := 76) (st1 := []) rfl (fun h19 => ?_) (fun h19 => ?_)
                    · skip
                      refine qG.blk 2 (pc' := 60) (ls' := [(2, 8), (0, 1), (0, 1), (0, ((t : Nat) : Int))]) (st' := [(0, 20043), (2, 8)]) (w' := (axW w j9)) (n' := 142) rfl ?_
                      refine qG.call (t := 150) (na := 2) (sk := 1) (md := 1) (ls1 := [(2, 8), (0, 20043)]) (r1 := []) rfl rfl rfl rfl rfl (K_tTakes (by omega) 20043 (by decide) m hm6 w hI hm j9 (by omega)) ?_
                      rintro ⟨_, x9⟩ w7 _ ⟨rfl, hT⟩; rcases hT with ⟨hc60, hl60, hx9, rfl⟩ | ⟨hc60, hx9, rfl⟩ <;> obtain ⟨rfl, rfl⟩ := Prod.mk.inj hx9
                      · skip
                        show qG none (d + 1) 81 63 [(2, 8), (0, 1), (0, 1), (0, ((t : Nat) : Int))] [(0, 1)] (axW w (j9 + 1)) 142 Q9
                        refine qG.br (P := (1 : Int) = 0) (pc1 := 66) (pc2 := 76) (st1 := []) rfl (fun h20 => ?_) (fun h20 => ?_)
                        · exact absurd h20 (by decide)
                        · skip
                          refine qG.blk 1 (pc' := 77) (ls' := [(2, 8), (0, 1), (0, 1), (0, ((t : Nat) : Int))]) (st' := [(2, 8)]) (w' := (axW w (j9 + 1))) (n' := 142) rfl ?_
                          refine qG.call (t := 82) (na := 1) (sk := 0) (md := 0) (ls1 := [(2, 8)]) (r1 := []) rfl rfl rfl rfl rfl (K_pUnit (by omega) m hm6 w hI hm (j9 + 1) (by omega)) ?_
                          rintro ⟨_, x9⟩ w7 _ ⟨rfl, hT⟩; rcases hT with ⟨j77, hs77, hl77, hx9, rfl⟩ | ⟨k77, j77, hs77, hk77, hl77, hx9, rfl⟩ <;> obtain ⟨rfl, rfl⟩ := Prod.mk.inj hx9
                          · skip
                            show qG none (d + 1) 81 80 [(2, 8), (0, 1), (0, 1), (0, ((t : Nat) : Int))] [(0, 1)] (axW w j77) 142 Q9
                            refine qG.blk 3 (pc' := 89) (ls' := [(2, 8), (0, 1), (0, 1), (0, wrp (((t : Nat) : Int) + 1))]) (st' := []) (w' := (axW w j77)) (n' := 142) rfl ?_
                            rw [show wrp (((t : Nat) : Int) + 1) = ((t + 1 : Nat) : Int) from wrp_id (by omega) (by omega)]
                            refine qG.blk 1 (pc' := 9) (ls' := [(2, 8), (0, 1), (0, 1), (0, ((t + 1 : Nat) : Int))]) (st' := []) (w' := (axW w j77)) (n' := 142) rfl ?_
                            exact ih9 _ (by omega) (t + 1) (1) (1) ((axW w j77)) rfl (⟨by omega, .inl ⟨rfl, rfl, j77, hl77, rfl, (by rw [hJ9, show 601 - t = (601 - (t + 1)) + 1 by omega]; exact (sL_u hc28 (by first | exact .inl hc50 | exact .inr (.inl hc60) | exact .inr (.inr hc70))).trans (bnd_y hs77))⟩⟩)
                          · skip
                            show qG none (d + 1) 81 80 [(2, 8), (0, 1), (0, 1), (0, ((t : Nat) : Int))] [(0, 0)] (axF w k77 j77) 142 Q9
                            refine qG.blk 3 (pc' := 89) (ls' := [(2, 8), (0, 0), (0, 1), (0, wrp (((t : Nat) : Int) + 1))]) (st' := []) (w' := (axF w k77 j77)) (n' := 142) rfl ?_
                            rw [show wrp (((t : Nat) : Int) + 1) = ((t + 1 : Nat) : Int) from wrp_id (by omega) (by omega)]
                            refine qG.blk 1 (pc' := 9) (ls' := [(2, 8), (0, 0), (0, 1), (0, ((t + 1 : Nat) : Int))]) (st' := []) (w' := (axF w k77 j77)) (n' := 142) rfl ?_
                            exact ih9 _ (by omega) (t + 1) (0) (1) ((axF w k77 j77)) rfl (⟨by omega, .inr (.inr ⟨rfl, k77, j77, (by rw [hJ9, show 601 - t = (601 - (t + 1)) + 1 by omega]; exact (sL_u hc28 (by first | exact .inl hc50 | exact .inr (.inl hc60) | exact .inr (.inr hc70))).trans (bnd_k hs77 hk77)), hk77, hl77, rfl⟩)⟩)
                      · skip
                        show qG none (d + 1) 81 63 [(2, 8), (0, 1), (0, 1), (0, ((t : Nat) : Int))] [(0, 0)] (axW w j9) 142 Q9
                        refine qG.br (P := (0 : Int) = 0) (pc1 := 66) (pc2 := 76) (st1 := []) rfl (fun h21 => ?_) (fun h21 => ?_)
                        · skip
                          refine qG.blk 2 (pc' := 70) (ls' := [(2, 8), (0, 1), (0, 1), (0, ((t : Nat) : Int))]) (st' := [(0, 20045), (2, 8)]) (w' := (axW w j9)) (n' := 142) rfl ?_
                          refine qG.call (t := 150) (na := 2) (sk := 1) (md := 1) (ls1 := [(2, 8), (0, 20045)]) (r1 := []) rfl rfl rfl rfl rfl (K_tTakes (by omega) 20045 (by decide) m hm6 w hI hm j9 (by omega)) ?_
                          rintro ⟨_, x9⟩ w7 _ ⟨rfl, hT⟩; rcases hT with ⟨hc70, hl70, hx9, rfl⟩ | ⟨hc70, hx9, rfl⟩ <;> obtain ⟨rfl, rfl⟩ := Prod.mk.inj hx9
                          · skip
                            show qG none (d + 1) 81 73 [(2, 8), (0, 1), (0, 1), (0, ((t : Nat) : Int))] [(0, 1)] (axW w (j9 + 1)) 142 Q9
                            refine qG.br (P := (1 : Int) = 0) (pc1 := 84) (pc2 := 76) (st1 := []) rfl (fun h22 => ?_) (fun h22 => ?_)
                            · exact absurd h22 (by decide)
                            · skip
                              refine qG.blk 1 (pc' := 77) (ls' := [(2, 8), (0, 1), (0, 1), (0, ((t : Nat) : Int))]) (st' := [(2, 8)]) (w' := (axW w (j9 + 1))) (n' := 142) rfl ?_
                              refine qG.call (t := 82) (na := 1) (sk := 0) (md := 0) (ls1 := [(2, 8)]) (r1 := []) rfl rfl rfl rfl rfl (K_pUnit (by omega) m hm6 w hI hm (j9 + 1) (by omega)) ?_
                              rintro ⟨_, x9⟩ w7 _ ⟨rfl, hT⟩; rcases hT with ⟨j77, hs77, hl77, hx9, rfl⟩ | ⟨k77, j77, hs77, hk77, hl77, hx9, rfl⟩ <;> obtain ⟨rfl, rfl⟩ := Prod.mk.inj hx9
                              · skip
                                show qG none (d + 1) 81 80 [(2, 8), (0, 1), (0, 1), (0, ((t : Nat) : Int))] [(0, 1)] (axW w j77) 142 Q9
                                refine qG.blk 3 (pc' := 89) (ls' := [(2, 8), (0, 1), (0, 1), (0, wrp (((t : Nat) : Int) + 1))]) (st' := []) (w' := (axW w j77)) (n' := 142) rfl ?_
                                rw [show wrp (((t : Nat) : Int) + 1) = ((t + 1 : Nat) : Int) from wrp_id (by omega) (by omega)]
                                refine qG.blk 1 (pc' := 9) (ls' := [(2, 8), (0, 1), (0, 1), (0, ((t + 1 : Nat) : Int))]) (st' := []) (w' := (axW w j77)) (n' := 142) rfl ?_
                                exact ih9 _ (by omega) (t + 1) (1) (1) ((axW w j77)) rfl (⟨by omega, .inl ⟨rfl, rfl, j77, hl77, rfl, (by rw [hJ9, show 601 - t = (601 - (t + 1)) + 1 by omega]; exact (sL_u hc28 (by first | exact .inl hc50 | exact .inr (.inl hc60) | exact .inr (.inr hc70))).trans (bnd_y hs77))⟩⟩)
                              · skip
                                show qG none (d + 1) 81 80 [(2, 8), (0, 1), (0, 1), (0, ((t : Nat) : Int))] [(0, 0)] (axF w k77 j77) 142 Q9
                                refine qG.blk 3 (pc' := 89) (ls' := [(2, 8), (0, 0), (0, 1), (0, wrp (((t : Nat) : Int) + 1))]) (st' := []) (w' := (axF w k77 j77)) (n' := 142) rfl ?_
                                rw [show wrp (((t : Nat) : Int) + 1) = ((t + 1 : Nat) : Int) from wrp_id (by omega) (by omega)]
                                refine qG.blk 1 (pc' := 9) (ls' := [(2, 8), (0, 0), (0, 1), (0, ((t + 1 : Nat) : Int))]) (st' := []) (w' := (axF w k77 j77)) (n' := 142) rfl ?_
                                exact ih9 _ (by omega) (t + 1) (0) (1) ((axF w k77 j77)) rfl (⟨by omega, .inr (.inr ⟨rfl, k77, j77, (by rw [hJ9, show 601 - t = (601 - (t + 1)) + 1 by omega]; exact (sL_u hc28 (by first | exact .inl hc50 | exact .inr (.inl hc60) | exact .inr (.inr hc70))).trans (bnd_k hs77 hk77)), hk77, hl77, rfl⟩)⟩)
                          · skip
                            show qG none (d + 1) 81 73 [(2, 8), (0, 1), (0, 1), (0, ((t : Nat) : Int))] [(0, 0)] (axW w j9) 142 Q9
                            refine qG.br (P := (0 : Int) = 0) (pc1 := 84) (pc2 := 76) (st1 := []) rfl (fun h23 => ?_) (fun h23 => ?_)
                            · skip
                              refine qG.blk 3 (pc' := 89) (ls' := [(2, 8), (0, 1), (0, 0), (0, wrp (((t : Nat) : Int) + 1))]) (st' := []) (w' := (axW w j9)) (n' := 142) rfl ?_
                              rw [show wrp (((t : Nat) : Int) + 1) = ((t + 1 : Nat) : Int) from wrp_id (by omega) (by omega)]
                              refine qG.blk 1 (pc' := 9) (ls' := [(2, 8), (0, 1), (0, 0), (0, ((t + 1 : Nat) : Int))]) (st' := []) (w' := (axW w j9)) (n' := 142) rfl ?_
                              exact ih9 _ (by omega) (t + 1) (1) (0) ((axW w j9)) rfl (⟨by omega, .inr (.inl ⟨rfl, rfl, j9, hj9, rfl, (by rw [hJ9, show 601 - t = (601 - (t + 1)) + 1 by omega]; exact sL_e hc28 (fun z => z.elim hc50 (fun z => z.elim hc60 hc70)))⟩)⟩)
                            · exact absurd h23 (by decide)
                        · exact absurd h21 (by decide)
                    · exact absurd h19 (by decide)
                · exact absurd h17 (by decide)
        · skip
          refine qG.blk 1 (pc' := 93) (ls' := [(2, 8), (0, 1), (0, 1), (0, ((t : Nat) : Int))]) (st' := [(0, 1)]) (w' := (axW w j9)) (n' := 142) rfl ?_
          refine qG.ret rfl (by first | rfl | exact decide_eq_true (by omega)) ?_
          subst hQ9
          first | exact ⟨rfl, .inl ⟨j9, hJ9.trans (by rw [show 601 - t = 0 by omega]; rfl), hj9, rfl, rfl⟩⟩ | exact ⟨rfl, .inl ⟨j9, hJ9, hj9, rfl, rfl⟩⟩ | exact ⟨rfl, .inr ⟨k9, j9, hJ9, hk9, hj9, rfl, rfl⟩⟩
      · skip
        refine qG.blk 2 (pc' := 13) (ls' := [(2, 8), (0, 1), (0, 0), (0, ((t : Nat) : Int))]) (st' := [(0, 601), (0, ((t : Nat) : Int))]) (w' := (axW w j9)) (n' := 142) rfl ?_
        rw [show (601 : Int) = N6 from hN6.symm]
        refine qG.br (P := ((t : Nat) : Int) < N6) (pc1 := 16) (pc2 := 92) (st1 := []) rfl (fun h13 => ?_) (fun h13 => ?_)
        · skip
          refine qG.blk 1 (pc' := 17) (ls' := [(2, 8), (0, 1), (0, 0), (0, ((t : Nat) : Int))]) (st' := [(0, 1)]) (w' := (axW w j9)) (n' := 142) rfl ?_
          refine qG.br (P := (1 : Int) = 0) (pc1 := 92) (pc2 := 20) (st1 := []) rfl (fun h24 => ?_) (fun h24 => ?_)
          · exact absurd h24 (by decide)
          · skip
            refine qG.blk 1 (pc' := 21) (ls' := [(2, 8), (0, 1), (0, 0), (0, ((t : Nat) : Int))]) (st' := [(0, 0)]) (w' := (axW w j9)) (n' := 142) rfl ?_
            refine qG.br (P := (0 : Int) = 0) (pc1 := 92) (pc2 := 24) (st1 := []) rfl (fun h25 => ?_) (fun h25 => ?_)
            · skip
              refine qG.blk 1 (pc' := 93) (ls' := [(2, 8), (0, 1), (0, 0), (0, ((t : Nat) : Int))]) (st' := [(0, 1)]) (w' := (axW w j9)) (n' := 142) rfl ?_
              refine qG.ret rfl (by first | rfl | exact decide_eq_true (by omega)) ?_
              subst hQ9
              first | exact ⟨rfl, .inl ⟨j9, hJ9.trans (by rw [show 601 - t = 0 by omega]; rfl), hj9, rfl, rfl⟩⟩ | exact ⟨rfl, .inl ⟨j9, hJ9, hj9, rfl, rfl⟩⟩ | exact ⟨rfl, .inr ⟨k9, j9, hJ9, hk9, hj9, rfl, rfl⟩⟩
            · exact absurd h25 (by decide)
        · skip
          refine qG.blk 1 (pc' := 93) (ls' := [(2, 8), (0, 1), (0, 0), (0, ((t : Nat) : Int))]) (st' := [(0, 1)]) (w' := (axW w j9)) (n' := 142) rfl ?_
          refine qG.ret rfl (by first | rfl | exact decide_eq_true (by omega)) ?_
          subst hQ9
          first | exact ⟨rfl, .inl ⟨j9, hJ9.trans (by rw [show 601 - t = 0 by omega]; rfl), hj9, rfl, rfl⟩⟩ | exact ⟨rfl, .inl ⟨j9, hJ9, hj9, rfl, rfl⟩⟩ | exact ⟨rfl, .inr ⟨k9, j9, hJ9, hk9, hj9, rfl, rfl⟩⟩
      · skip
        refine qG.blk 2 (pc' := 13) (ls' := [(2, 8), (0, 0), (0, g), (0, ((t : Nat) : Int))]) (st' := [(0, 601), (0, ((t : Nat) : Int))]) (w' := (axF w k9 j9)) (n' := 142) rfl ?_
        rw [show (601 : Int) = N6 from hN6.symm]
        refine qG.br (P := ((t : Nat) : Int) < N6) (pc1 := 16) (pc2 := 92) (st1 := []) rfl (fun h13 => ?_) (fun h13 => ?_)
        · skip
          refine qG.blk 1 (pc' := 17) (ls' := [(2, 8), (0, 0), (0, g), (0, ((t : Nat) : Int))]) (st' := [(0, 0)]) (w' := (axF w k9 j9)) (n' := 142) rfl ?_
          refine qG.br (P := (0 : Int) = 0) (pc1 := 92) (pc2 := 20) (st1 := []) rfl (fun h26 => ?_) (fun h26 => ?_)
          · skip
            refine qG.blk 1 (pc' := 93) (ls' := [(2, 8), (0, 0), (0, g), (0, ((t : Nat) : Int))]) (st' := [(0, 0)]) (w' := (axF w k9 j9)) (n' := 142) rfl ?_
            refine qG.ret rfl (by first | rfl | exact decide_eq_true (by omega)) ?_
            subst hQ9
            first | exact ⟨rfl, .inl ⟨j9, hJ9.trans (by rw [show 601 - t = 0 by omega]; rfl), hj9, rfl, rfl⟩⟩ | exact ⟨rfl, .inl ⟨j9, hJ9, hj9, rfl, rfl⟩⟩ | exact ⟨rfl, .inr ⟨k9, j9, hJ9, hk9, hj9, rfl, rfl⟩⟩
          · exact absurd h26 (by decide)
        · skip
          refine qG.blk 1 (pc' := 93) (ls' := [(2, 8), (0, 0), (0, g), (0, ((t : Nat) : Int))]) (st' := [(0, 0)]) (w' := (axF w k9 j9)) (n' := 142) rfl ?_
          refine qG.ret rfl (by first | rfl | exact decide_eq_true (by omega)) ?_
          subst hQ9
          first | exact ⟨rfl, .inl ⟨j9, hJ9.trans (by rw [show 601 - t = 0 by omega]; rfl), hj9, rfl, rfl⟩⟩ | exact ⟨rfl, .inl ⟨j9, hJ9, hj9, rfl, rfl⟩⟩ | exact ⟨rfl, .inr ⟨k9, j9, hJ9, hk9, hj9, rfl, rfl⟩⟩
    exact L9_1 _ (0) (0) (1) ((axF w k1 j1)) rfl (⟨by omega, .inr (.inr ⟨rfl, k1, j1, bnd_k hs1 hk1, hk1, hl1, rfl⟩)⟩)
theorem cmp_3 {C : Nat → Int} {i : Nat} (h : ¬ C i = 20060) (h2 : ¬ C i = 20061) : sCmp C i = sNeed C 20062 i := by
  unfold sCmp sNeed
  by_cases e : C i = 20062
  · rw [if_pos (.inr (.inr e)), if_pos e]
  · rw [if_neg (fun z => z.elim h (fun z => z.elim h2 e)), if_neg e]
theorem K_pCmp {d : Nat} (hd : 3 ≤ d)  (m : Nat) (hm6 : m ≤ 601) (w : qW) (hI : yInv zgf zga zra zSp w) (hm : w 8 4 = (m : Int)) (i : Nat) (hi : i ≤ m) : qG none d 80 0 [(2, 8)] [] (axW w i) 142 (fun (r : qV) (w1 : qW) (n1 : Nat) => n1 = 142 ∧ RD w m (sCmp (cdF w) i) r w1) := by
  generalize hQ9 : (fun (r : qV) (w1 : qW) (n1 : Nat) => n1 = 142 ∧ RD w m (sCmp (cdF w) i) r w1) = Q9
  obtain ⟨d, rfl⟩ : ∃ d9, d = d9 + 1 := ⟨d - 1, by omega⟩
  refine qG.blk 2 (pc' := 4) (ls' := [(2, 8)]) (st' := [(0, 20060), (2, 8)]) (w' := (axW w i)) (n' := 142) rfl ?_
  refine qG.call (t := 150) (na := 2) (sk := 1) (md := 1) (ls1 := [(2, 8), (0, 20060)]) (r1 := []) rfl rfl rfl rfl rfl (K_tTakes (by omega) 20060 (by decide) m hm6 w hI hm i (by omega)) ?_
  rintro ⟨_, x9⟩ w7 _ ⟨rfl, hT⟩; rcases hT with ⟨hc4, hl4, hx9, rfl⟩ | ⟨hc4, hx9, rfl⟩ <;> obtain ⟨rfl, rfl⟩ := Prod.mk.inj hx9
  · skip
    show qG none (d + 1) 80 7 [(2, 8)] [(0, 1)] (axW w (i + 1)) 142 Q9
    refine qG.br (P := (1 : Int) = 0) (pc1 := 10) (pc2 := 30) (st1 := []) rfl (fun h1 => ?_) (fun h1 => ?_)
    · exact absurd h1 (by decide)
    · skip
      refine qG.blk 2 (pc' := 35) (ls' := [(2, 8)]) (st' := [(0, 1)]) (w' := (axW w (i + 1))) (n' := 142) rfl ?_
      refine qG.ret rfl (by first | rfl | exact decide_eq_true (by omega)) ?_
      subst hQ9
      first | exact ⟨rfl, .inl ⟨i + 1, if_pos (.inl hc4), hl4, rfl, rfl⟩⟩ | exact ⟨rfl, .inl ⟨i + 1, if_pos (.inr (.inl hc14)), hl14, rfl, rfl⟩⟩ | exact ⟨rfl, .inl ⟨j24, (cmp_3 hc4 hc14).trans hs24, hl24, rfl, rfl⟩⟩ | exact ⟨rfl, .inr ⟨k24, j24, (cmp_3 hc4 hc14).trans hs24, hk24, hl24, rfl, rfl⟩⟩
  · skip
    show qG none (d + 1) 80 7 [(2, 8)] [(0, 0)] (axW w i) 142 Q9
    refine qG.br (P := (0 : Int) = 0) (pc1 := 10) (pc2 := 30) (st1 := []) rfl (fun h2 => ?_) (fun h2 => ?_)
    · skip
      refine qG.blk 2 (pc' := 14) (ls' := [(2, 8)]) (st' := [(0, 20061), (2, 8)]) (w' := (axW w i)) (n' := 142) rfl ?_
      refine qG.call (t := 150) (na := 2) (sk := 1) (md := 1) (ls1 := [(2, 8), (0, 20061)]) (r1 := []) rfl rfl rfl rfl rfl (K_tTakes (by omega) 20061 (by decide) m hm6 w hI hm i (by omega)) ?_
      rintro ⟨_, x9⟩ w7 _ ⟨rfl, hT⟩; rcases hT with ⟨hc14, hl14, hx9, rfl⟩ | ⟨hc14, hx9, rfl⟩ <;> obtain ⟨rfl, rfl⟩ := Prod.mk.inj hx9
      · skip
        show qG none (d + 1) 80 17 [(2, 8)] [(0, 1)] (axW w (i + 1)) 142 Q9
        refine qG.br (P := (1 : Int) = 0) (pc1 := 20) (pc2 := 30) (st1 := []) rfl (fun h3 => ?_) (fun h3 => ?_)
        · exact absurd h3 (by decide)
        · skip
          refine qG.blk 2 (pc' := 35) (ls' := [(2, 8)]) (st' := [(0, 1)]) (w' := (axW w (i + 1))) (n' := 142) rfl ?_
          refine qG.ret rfl (by first | rfl | exact decide_eq_true (by omega)) ?_
          subst hQ9
          first | exact ⟨rfl, .inl ⟨i + 1, if_pos (.inl hc4), hl4, rfl, rfl⟩⟩ | exact ⟨rfl, .inl ⟨i + 1, if_pos (.inr (.inl hc14)), hl14, rfl, rfl⟩⟩ | exact ⟨rfl, .inl ⟨j24, (cmp_3 hc4 hc14).trans hs24, hl24, rfl, rfl⟩⟩ | exact ⟨rfl, .inr ⟨k24, j24, (cmp_3 hc4 hc14).trans hs24, hk24, hl24, rfl, rfl⟩⟩
      · skip
        show qG none (d + 1) 80 17 [(2, 8)] [(0, 0)] (axW w i) 142 Q9
        refine qG.br (P := (0 : Int) = 0) (pc1 := 20) (pc2 := 30) (st1 := []) rfl (fun h4 => ?_) (fun h4 => ?_)
        · skip
          refine qG.blk 2 (pc' := 24) (ls' := [(2, 8)]) (st' := [(0, 20062), (2, 8)]) (w' := (axW w i)) (n' := 142) rfl ?_
          refine qG.call (t := 151) (na := 2) (sk := 1) (md := 1) (ls1 := [(2, 8), (0, 20062)]) (r1 := []) rfl rfl rfl rfl rfl (K_tNeeds (by omega) 20062 (by decide) m hm6 w hI hm i (by omega)) ?_
          rintro ⟨_, x9⟩ w7 _ ⟨rfl, hT⟩; rcases hT with ⟨j24, hs24, hl24, hx9, rfl⟩ | ⟨k24, j24, hs24, hk24, hl24, hx9, rfl⟩ <;> obtain ⟨rfl, rfl⟩ := Prod.mk.inj hx9
          · skip
            show qG none (d + 1) 80 27 [(2, 8)] [(0, 1)] (axW w j24) 142 Q9
            refine qG.br (P := (1 : Int) = 0) (pc1 := 34) (pc2 := 30) (st1 := []) rfl (fun h5 => ?_) (fun h5 => ?_)
            · exact absurd h5 (by decide)
            · skip
              refine qG.blk 2 (pc' := 35) (ls' := [(2, 8)]) (st' := [(0, 1)]) (w' := (axW w j24)) (n' := 142) rfl ?_
              refine qG.ret rfl (by first | rfl | exact decide_eq_true (by omega)) ?_
              subst hQ9
              first | exact ⟨rfl, .inl ⟨i + 1, if_pos (.inl hc4), hl4, rfl, rfl⟩⟩ | exact ⟨rfl, .inl ⟨i + 1, if_pos (.inr (.inl hc14)), hl14, rfl, rfl⟩⟩ | exact ⟨rfl, .inl ⟨j24, (cmp_3 hc4 hc14).trans hs24, hl24, rfl, rfl⟩⟩ | exact ⟨rfl, .inr ⟨k24, j24, (cmp_3 hc4 hc14).trans hs24, hk24, hl24, rfl, rfl⟩⟩
          · skip
            show qG none (d + 1) 80 27 [(2, 8)] [(0, 0)] (axF w k24 j24) 142 Q9
            refine qG.br (P := (0 : Int) = 0) (pc1 := 34) (pc2 := 30) (st1 := []) rfl (fun h6 => ?_) (fun h6 => ?_)
            · skip
              refine qG.blk 1 (pc' := 35) (ls' := [(2, 8)]) (st' := [(0, 0)]) (w' := (axF w k24 j24)) (n' := 142) rfl ?_
              refine qG.ret rfl (by first | rfl | exact decide_eq_true (by omega)) ?_
              subst hQ9
              first | exact ⟨rfl, .inl ⟨i + 1, if_pos (.inl hc4), hl4, rfl, rfl⟩⟩ | exact ⟨rfl, .inl ⟨i + 1, if_pos (.inr (.inl hc14)), hl14, rfl, rfl⟩⟩ | exact ⟨rfl, .inl ⟨j24, (cmp_3 hc4 hc14).trans hs24, hl24, rfl, rfl⟩⟩ | exact ⟨rfl, .inr ⟨k24, j24, (cmp_3 hc4 hc14).trans hs24, hk24, hl24, rfl, rfl⟩⟩
            · exact absurd h6 (by decide)
        · exact absurd h4 (by decide)
    · exact absurd h2 (by decide)
noncomputable def P_cond (q : Nat) : Prop := ∀ (d : Nat), 6 + 2 * q ≤ d → ∀ (m : Nat), m ≤ 601 → ∀ (w : qW), yInv zgf zga zra zSp w → w 8 4 = (m : Int) → ∀ (i : Nat), i ≤ m → qG none d 79 0 [(2, 8), (0, ((8 - q : Nat) : Int)), (9, 0)] [] (axW w i) 142 (fun (r : qV) (w1 : qW) (n1 : Nat) => n1 = 142 ∧ RD w m (sCond (cdF w) 601 q i) r w1)
noncomputable def P_cho (q : Nat) : Prop := ∀ (d : Nat), 7 + 2 * q ≤ d → ∀ (m : Nat), m ≤ 601 → ∀ (w : qW), yInv zgf zga zra zSp w → w 8 4 = (m : Int) → ∀ (i : Nat), i ≤ m → qG none d 78 0 [(2, 8), (0, ((8 - q : Nat) : Int)), (9, 0), (9, 0)] [] (axW w i) 142 (fun (r : qV) (w1 : qW) (n1 : Nat) => n1 = 142 ∧ RD w m (sCho (cdF w) 601 (sCond (cdF w) 601 q) i) r w1)
theorem chL_y {C : Nat → Int} {f : Nat → Int × Nat} {n i : Nat} (h : C i = 10003 ∨ C i = 10004) : sChL C f (n + 1) i = bnd (f (i + 1)) (sChL C f n) := if_pos h
theorem chL_e {C : Nat → Int} {f : Nat → Int × Nat} {n i : Nat} (h : ¬ (C i = 10003 ∨ C i = 10004)) : sChL C f (n + 1) i = (0, i) := if_neg h
theorem K_pCho {d : Nat} (q : Nat) (hd : 7 + 2 * q ≤ d) (hq : q ≤ 8) (hc : P_cond q) (m : Nat) (hm6 : m ≤ 601) (w : qW) (hI : yInv zgf zga zra zSp w) (hm : w 8 4 = (m : Int)) (i : Nat) (hi : i ≤ m) : qG none d 78 0 [(2, 8), (0, ((8 - q : Nat) : Int)), (9, 0), (9, 0)] [] (axW w i) 142 (fun (r : qV) (w1 : qW) (n1 : Nat) => n1 = 142 ∧ RD w m (sCho (cdF w) 601 (sCond (cdF w) 601 q) i) r w1) := by
  generalize hQ9 : (fun (r : qV) (w1 : qW) (n1 : Nat) => n1 = 142 ∧ RD w m (sCho (cdF w) 601 (sCond (cdF w) 601 q) i) r w1) = Q9
  obtain ⟨N6, hN6⟩ : ∃ N : Int, N = 601 := ⟨_, rfl⟩
  obtain ⟨d, rfl⟩ : ∃ d9, d = d9 + 1 := ⟨d - 1, by omega⟩
  refine qG.blk 2 (pc' := 2) (ls' := [(2, 8), (0, ((8 - q : Nat) : Int)), (9, 0), (9, 0)]) (st' := [(0, ((8 - q : Nat) : Int)), (2, 8)]) (w' := (axW w i)) (n' := 142) rfl ?_
  refine qG.call (t := 79) (na := 2) (sk := 0) (md := 0) (ls1 := [(2, 8), (0, ((8 - q : Nat) : Int)), (9, 0)]) (r1 := []) rfl rfl rfl rfl rfl (hc d (by omega) m hm6 w hI hm i (by omega)) ?_
  rintro ⟨_, x9⟩ w7 _ ⟨rfl, hT⟩; rcases hT with ⟨j2, hs2, hl2, hx9, rfl⟩ | ⟨k2, j2, hs2, hk2, hl2, hx9, rfl⟩ <;> obtain ⟨rfl, rfl⟩ := Prod.mk.inj hx9
  · skip
    show qG none (d + 1) 78 5 [(2, 8), (0, ((8 - q : Nat) : Int)), (9, 0), (9, 0)] [(0, 1)] (axW w j2) 142 Q9
    refine qG.blk 3 (pc' := 8) (ls' := [(2, 8), (0, ((8 - q : Nat) : Int)), (0, 1), (0, 0)]) (st' := []) (w' := (axW w j2)) (n' := 142) rfl ?_
    have L8 : ∀ (m9 : Nat) (t : Nat) (f : Int) (w9 : qW), 601 - t = m9 → (t ≤ 601 ∧ ((f = 1 ∧ ∃ j, j ≤ m ∧ w9 = axW w j ∧ sCho (cdF w) 601 (sCond (cdF w) 601 q) i = sChL (cdF w) (sCond (cdF w) 601 q) (601 - t) j) ∨ (f = 0 ∧ ∃ k j, sCho (cdF w) 601 (sCond (cdF w) 601 q) i = (k, j) ∧ (k = 1 ∨ k = 2 ∨ k = 3) ∧ j ≤ m ∧ w9 = axF w k j))) → qG none (d + 1) 78 8 [(2, 8), (0, ((8 - q : Nat) : Int)), (0, f), (0, ((t : Nat) : Int))] [] w9 142 Q9 := by
      intro m9
      induction m9 using Nat.strongRecOn with
      | ind m9 ih8 =>
      intro t f w9 hm8 hI8
      obtain ⟨ht9, hI9⟩ := hI8; rcases hI9 with ⟨rfl, j9, hj9, rfl, hJ9⟩ | ⟨rfl, k9, j9, hJ9, hk9, hj9, rfl⟩
      · skip
        refine qG.blk 2 (pc' := 12) (ls' := [(2, 8), (0, ((8 - q : Nat) : Int)), (0, 1), (0, ((t : Nat) : Int))]) (st' := [(0, 601), (0, ((t : Nat) : Int))]) (w' := (axW w j9)) (n' := 142) rfl ?_
        rw [show (601 : Int) = N6 from hN6.symm]
        refine qG.br (P := ((t : Nat) : Int) < N6) (pc1 := 15) (pc2 := 51) (st1 := []) rfl (fun h12 => ?_) (fun h12 => ?_)
        · skip
          refine qG.blk 1 (pc' := 16) (ls' := [(2, 8), (0, ((8 - q : Nat) : Int)), (0, 1), (0, ((t : Nat) : Int))]) (st' := [(0, 1)]) (w' := (axW w j9)) (n' := 142) rfl ?_
          refine qG.br (P := (1 : Int) = 0) (pc1 := 51) (pc2 := 19) (st1 := []) rfl (fun h1 => ?_) (fun h1 => ?_)
          · exact absurd h1 (by decide)
          · skip
            refine qG.blk 2 (pc' := 23) (ls' := [(2, 8), (0, ((8 - q : Nat) : Int)), (0, 1), (0, ((t : Nat) : Int))]) (st' := [(0, 10003), (2, 8)]) (w' := (axW w j9)) (n' := 142) rfl ?_
            refine qG.call (t := 150) (na := 2) (sk := 1) (md := 1) (ls1 := [(2, 8), (0, 10003)]) (r1 := []) rfl rfl rfl rfl rfl (K_tTakes (by omega) 10003 (by decide) m hm6 w hI hm j9 (by omega)) ?_
            rintro ⟨_, x9⟩ w7 _ ⟨rfl, hT⟩; rcases hT with ⟨hc23, hl23, hx9, rfl⟩ | ⟨hc23, hx9, rfl⟩ <;> obtain ⟨rfl, rfl⟩ := Prod.mk.inj hx9
            · skip
              show qG none (d + 1) 78 26 [(2, 8), (0, ((8 - q : Nat) : Int)), (0, 1), (0, ((t : Nat) : Int))] [(0, 1)] (axW w (j9 + 1)) 142 Q9
              refine qG.br (P := (1 : Int) = 0) (pc1 := 29) (pc2 := 39) (st1 := []) rfl (fun h2 => ?_) (fun h2 => ?_)
              · exact absurd h2 (by decide)
              · skip
                refine qG.blk 2 (pc' := 41) (ls' := [(2, 8), (0, ((8 - q : Nat) : Int)), (0, 1), (0, ((t : Nat) : Int))]) (st' := [(0, ((8 - q : Nat) : Int)), (2, 8)]) (w' := (axW w (j9 + 1))) (n' := 142) rfl ?_
                refine qG.call (t := 79) (na := 2) (sk := 0) (md := 0) (ls1 := [(2, 8), (0, ((8 - q : Nat) : Int)), (9, 0)]) (r1 := []) rfl rfl rfl rfl rfl (hc d (by omega) m hm6 w hI hm (j9 + 1) (by omega)) ?_
                rintro ⟨_, x9⟩ w7 _ ⟨rfl, hT⟩; rcases hT with ⟨j41, hs41, hl41, hx9, rfl⟩ | ⟨k41, j41, hs41, hk41, hl41, hx9, rfl⟩ <;> obtain ⟨rfl, rfl⟩ := Prod.mk.inj hx9
                · skip
                  show qG none (d + 1) 78 44 [(2, 8), (0, ((8 - q : Nat) : Int)), (0, 1), (0, ((t : Nat) : Int))] [(0, 1)] (axW w j41) 142 Q9
                  refine qG.blk 2 (pc' := 48) (ls' := [(2, 8), (0, ((8 - q : Nat) : Int)), (0, 1), (0, wrp (((t : Nat) : Int) + 1))]) (st' := []) (w' := (axW w j41)) (n' := 142) rfl ?_
                  rw [show wrp (((t : Nat) : Int) + 1) = ((t + 1 : Nat) : Int) from wrp_id (by omega) (by omega)]
                  refine qG.blk 1 (pc' := 8) (ls' := [(2, 8), (0, ((8 - q : Nat) : Int)), (0, 1), (0, ((t + 1 : Nat) : Int))]) (st' := []) (w' := (axW w j41)) (n' := 142) rfl ?_
                  exact ih8 _ (by omega) (t + 1) (1) ((axW w j41)) rfl (⟨by omega, .inl ⟨rfl, j41, hl41, rfl, (by rw [hJ9, show 601 - t = (601 - (t + 1)) + 1 by omega]; exact (chL_y (by first | exact .inl hc23 | exact .inr hc33)).trans (bnd_y hs41))⟩⟩)
                · skip
                  show qG none (d + 1) 78 44 [(2, 8), (0, ((8 - q : Nat) : Int)), (0, 1), (0, ((t : Nat) : Int))] [(0, 0)] (axF w k41 j41) 142 Q9
                  refine qG.blk 2 (pc' := 48) (ls' := [(2, 8), (0, ((8 - q : Nat) : Int)), (0, 0), (0, wrp (((t : Nat) : Int) + 1))]) (st' := []) (w' := (axF w k41 j41)) (n' := 142) rfl ?_
                  rw [show wrp (((t : Nat) : Int) + 1) = ((t + 1 : Nat) : Int) from wrp_id (by omega) (by omega)]
                  refine qG.blk 1 (pc' := 8) (ls' := [(2, 8), (0, ((8 - q : Nat) : Int)), (0, 0), (0, ((t + 1 : Nat) : Int))]) (st' := []) (w' := (axF w k41 j41)) (n' := 142) rfl ?_
                  exact ih8 _ (by omega) (t + 1) (0) ((axF w k41 j41)) rfl (⟨by omega, .inr (⟨rfl, k41, j41, (by rw [hJ9, show 601 - t = (601 - (t + 1)) + 1 by omega]; exact (chL_y (by first | exact .inl hc23 | exact .inr hc33)).trans (bnd_k hs41 hk41)), hk41, hl41, rfl⟩)⟩)
            · skip
              show qG none (d + 1) 78 26 [(2, 8), (0, ((8 - q : Nat) : Int)), (0, 1), (0, ((t : Nat) : Int))] [(0, 0)] (axW w j9) 142 Q9
              refine qG.br (P := (0 : Int) = 0) (pc1 := 29) (pc2 := 39) (st1 := []) rfl (fun h3 => ?_) (fun h3 => ?_)
              · skip
                refine qG.blk 2 (pc' := 33) (ls' := [(2, 8), (0, ((8 - q : Nat) : Int)), (0, 1), (0, ((t : Nat) : Int))]) (st' := [(0, 10004), (2, 8)]) (w' := (axW w j9)) (n' := 142) rfl ?_
                refine qG.call (t := 150) (na := 2) (sk := 1) (md := 1) (ls1 := [(2, 8), (0, 10004)]) (r1 := []) rfl rfl rfl rfl rfl (K_tTakes (by omega) 10004 (by decide) m hm6 w hI hm j9 (by omega)) ?_
                rintro ⟨_, x9⟩ w7 _ ⟨rfl, hT⟩; rcases hT with ⟨hc33, hl33, hx9, rfl⟩ | ⟨hc33, hx9, rfl⟩ <;> obtain ⟨rfl, rfl⟩ := Prod.mk.inj hx9
                · skip
                  show qG none (d + 1) 78 36 [(2, 8), (0, ((8 - q : Nat) : Int)), (0, 1), (0, ((t : Nat) : Int))] [(0, 1)] (axW w (j9 + 1)) 142 Q9
                  refine qG.br (P := (1 : Int) = 0) (pc1 := 51) (pc2 := 39) (st1 := []) rfl (fun h4 => ?_) (fun h4 => ?_)
                  · exact absurd h4 (by decide)
                  · skip
                    refine qG.blk 2 (pc' := 41) (ls' := [(2, 8), (0, ((8 - q : Nat) : Int)), (0, 1), (0, ((t : Nat) : Int))]) (st' := [(0, ((8 - q : Nat) : Int)), (2, 8)]) (w' := (axW w (j9 + 1))) (n' := 142) rfl ?_
                    refine qG.call (t := 79) (na := 2) (sk := 0) (md := 0) (ls1 := [(2, 8), (0, ((8 - q : Nat) : Int)), (9, 0)]) (r1 := []) rfl rfl rfl rfl rfl (hc d (by omega) m hm6 w hI hm (j9 + 1) (by omega)) ?_
                    rintro ⟨_, x9⟩ w7 _ ⟨rfl, hT⟩; rcases hT with ⟨j41, hs41, hl41, hx9, rfl⟩ | ⟨k41, j41, hs41, hk41, hl41, hx9, rfl⟩ <;> obtain ⟨rfl, rfl⟩ := Prod.mk.inj hx9
                    · skip
                      show qG none (d + 1) 78 44 [(2, 8), (0, ((8 - q : Nat) : Int)), (0, 1), (0, ((t : Nat) : Int))] [(0, 1)] (axW w j41) 142 Q9
                      refine qG.blk 2 (pc' := 48) (ls' := [(2, 8), (0, ((8 - q : Nat) : Int)), (0, 1), (0, wrp (((t : Nat) : Int) + 1))]) (st' := []) (w' := (axW w j41)) (n' := 142) rfl ?_
                      rw [show wrp (((t : Nat) : Int) + 1) = ((t + 1 : Nat) : Int) from wrp_id (by omega) (by omega)]
                      refine qG.blk 1 (pc' := 8) (ls' := [(2, 8), (0, ((8 - q : Nat) : Int)), (0, 1), (0, ((t + 1 : Nat) : Int))]) (st' := []) (w' := (axW w j41)) (n' := 142) rfl ?_
                      exact ih8 _ (by omega) (t + 1) (1) ((axW w j41)) rfl (⟨by omega, .inl ⟨rfl, j41, hl41, rfl, (by rw [hJ9, show 601 - t = (601 - (t + 1)) + 1 by omega]; exact (chL_y (by first | exact .inl hc23 | exact .inr hc33)).trans (bnd_y hs41))⟩⟩)
                    · skip
                      show qG none (d + 1) 78 44 [(2, 8), (0, ((8 - q : Nat) : Int)), (0, 1), (0, ((t : Nat) : Int))] [(0, 0)] (axF w k41 j41) 142 Q9
                      refine qG.blk 2 (pc' := 48) (ls' := [(2, 8), (0, ((8 - q : Nat) : Int)), (0, 0), (0, wrp (((t : Nat) : Int) + 1))]) (st' := []) (w' := (axF w k41 j41)) (n' := 142) rfl ?_
                      rw [show wrp (((t : Nat) : Int) + 1) = ((t + 1 : Nat) : Int) from wrp_id (by omega) (by omega)]
                      refine qG.blk 1 (pc' := 8) (ls' := [(2, 8), (0, ((8 - q : Nat) : Int)), (0, 0), (0, ((t + 1 : Nat) : Int))]) (st' := []) (w' := (axF w k41 j41)) (n' := 142) rfl ?_
                      exact ih8 _ (by omega) (t + 1) (0) ((axF w k41 j41)) rfl (⟨by omega, .inr (⟨rfl, k41, j41, (by rw [hJ9, show 601 - t = (601 - (t + 1)) + 1 by omega]; exact (chL_y (by first | exact .inl hc23 | exact .inr hc33)).trans (bnd_k hs41 hk41)), hk41, hl41, rfl⟩)⟩)
                · skip
                  show qG none (d + 1) 78 36 [(2, 8), (0, ((8 - q : Nat) : Int)), (0, 1), (0, ((t : Nat) : Int))] [(0, 0)] (axW w j9) 142 Q9
                  refine qG.br (P := (0 : Int) = 0) (pc1 := 51) (pc2 := 39) (st1 := []) rfl (fun h5 => ?_) (fun h5 => ?_)
                  · skip
                    refine qG.blk 1 (pc' := 52) (ls' := [(2, 8), (0, ((8 - q : Nat) : Int)), (0, 1), (0, ((t : Nat) : Int))]) (st' := [(0, 1)]) (w' := (axW w j9)) (n' := 142) rfl ?_
                    refine qG.ret rfl (by first | rfl | exact decide_eq_true (by omega)) ?_
                    subst hQ9
                    first | exact ⟨rfl, .inl ⟨j9, hJ9.trans (by rw [show 601 - t = 0 by omega]; rfl), hj9, rfl, rfl⟩⟩ | exact ⟨rfl, .inl ⟨j9, hJ9.trans (by rw [show 601 - t = (601 - (t + 1)) + 1 by omega]; exact chL_e (fun z => z.elim hc23 hc33)), hj9, rfl, rfl⟩⟩ | exact ⟨rfl, .inr ⟨k9, j9, hJ9, hk9, hj9, rfl, rfl⟩⟩
                  · exact absurd h5 (by decide)
              · exact absurd h3 (by decide)
        · skip
          refine qG.blk 1 (pc' := 52) (ls' := [(2, 8), (0, ((8 - q : Nat) : Int)), (0, 1), (0, ((t : Nat) : Int))]) (st' := [(0, 1)]) (w' := (axW w j9)) (n' := 142) rfl ?_
          refine qG.ret rfl (by first | rfl | exact decide_eq_true (by omega)) ?_
          subst hQ9
          first | exact ⟨rfl, .inl ⟨j9, hJ9.trans (by rw [show 601 - t = 0 by omega]; rfl), hj9, rfl, rfl⟩⟩ | exact ⟨rfl, .inl ⟨j9, hJ9.trans (by rw [show 601 - t = (601 - (t + 1)) + 1 by omega]; exact chL_e (fun z => z.elim hc23 hc33)), hj9, rfl, rfl⟩⟩ | exact ⟨rfl, .inr ⟨k9, j9, hJ9, hk9, hj9, rfl, rfl⟩⟩
      · skip
        refine qG.blk 2 (pc' := 12) (ls' := [(2, 8), (0, ((8 - q : Nat) : Int)), (0, 0), (0, ((t : Nat) : Int))]) (st' := [(0, 601), (0, ((t : Nat) : Int))]) (w' := (axF w k9 j9)) (n' := 142) rfl ?_
        rw [show (601 : Int) = N6 from hN6.symm]
        refine qG.br (P := ((t : Nat) : Int) < N6) (pc1 := 15) (pc2 := 51) (st1 := []) rfl (fun h12 => ?_) (fun h12 => ?_)
        · skip
          refine qG.blk 1 (pc' := 16) (ls' := [(2, 8), (0, ((8 - q : Nat) : Int)), (0, 0), (0, ((t : Nat) : Int))]) (st' := [(0, 0)]) (w' := (axF w k9 j9)) (n' := 142) rfl ?_
          refine qG.br (P := (0 : Int) = 0) (pc1 := 51) (pc2 := 19) (st1 := []) rfl (fun h6 => ?_) (fun h6 => ?_)
          · skip
            refine qG.blk 1 (pc' := 52) (ls' := [(2, 8), (0, ((8 - q : Nat) : Int)), (0, 0), (0, ((t : Nat) : Int))]) (st' := [(0, 0)]) (w' := (axF w k9 j9)) (n' := 142) rfl ?_
            refine qG.ret rfl (by first | rfl | exact decide_eq_true (by omega)) ?_
            subst hQ9
            first | exact ⟨rfl, .inl ⟨j9, hJ9.trans (by rw [show 601 - t = 0 by omega]; rfl), hj9, rfl, rfl⟩⟩ | exact ⟨rfl, .inl ⟨j9, hJ9.trans (by rw [show 601 - t = (601 - (t + 1)) + 1 by omega]; exact chL_e (fun z => z.elim hc23 hc33)), hj9, rfl, rfl⟩⟩ | exact ⟨rfl, .inr ⟨k9, j9, hJ9, hk9, hj9, rfl, rfl⟩⟩
          · exact absurd h6 (by decide)
        · skip
          refine qG.blk 1 (pc' := 52) (ls' := [(2, 8), (0, ((8 - q : Nat) : Int)), (0, 0), (0, ((t : Nat) : Int))]) (st' := [(0, 0)]) (w' := (axF w k9 j9)) (n' := 142) rfl ?_
          refine qG.ret rfl (by first | rfl | exact decide_eq_true (by omega)) ?_
          subst hQ9
          first | exact ⟨rfl, .inl ⟨j9, hJ9.trans (by rw [show 601 - t = 0 by omega]; rfl), hj9, rfl, rfl⟩⟩ | exact ⟨rfl, .inl ⟨j9, hJ9.trans (by rw [show 601 - t = (601 - (t + 1)) + 1 by omega]; exact chL_e (fun z => z.elim hc23 hc33)), hj9, rfl, rfl⟩⟩ | exact ⟨rfl, .inr ⟨k9, j9, hJ9, hk9, hj9, rfl, rfl⟩⟩
    exact L8 _ (0) (1) ((axW w j2)) rfl (⟨by omega, .inl ⟨rfl, j2, hl2, rfl, bnd_y hs2⟩⟩)
  · skip
    show qG none (d + 1) 78 5 [(2, 8), (0, ((8 - q : Nat) : Int)), (9, 0), (9, 0)] [(0, 0)] (axF w k2 j2) 142 Q9
    refine qG.blk 3 (pc' := 8) (ls' := [(2, 8), (0, ((8 - q : Nat) : Int)), (0, 0), (0, 0)]) (st' := []) (w' := (axF w k2 j2)) (n' := 142) rfl ?_
    have L8_1 : ∀ (m9 : Nat) (t : Nat) (f : Int) (w9 : qW), 601 - t = m9 → (t ≤ 601 ∧ ((f = 1 ∧ ∃ j, j ≤ m ∧ w9 = axW w j ∧ sCho (cdF w) 601 (sCond (cdF w) 601 q) i = sChL (cdF w) (sCond (cdF w) 601 q) (601 - t) j) ∨ (f = 0 ∧ ∃ k j, sCho (cdF w) 601 (sCond (cdF w) 601 q) i = (k, j) ∧ (k = 1 ∨ k = 2 ∨ k = 3) ∧ j ≤ m ∧ w9 = axF w k j))) → qG none (d + 1) 78 8 [(2, 8), (0, ((8 - q : Nat) : Int)), (0, f), (0, ((t : Nat) : Int))] [] w9 142 Q9 := by
      intro m9
      induction m9 using Nat.strongRecOn with
      | ind m9 ih8 =>
      intro t f w9 hm8 hI8
      obtain ⟨ht9, hI9⟩ := hI8; rcases hI9 with ⟨rfl, j9, hj9, rfl, hJ9⟩ | ⟨rfl, k9, j9, hJ9, hk9, hj9, rfl⟩
      · skip
        refine qG.blk 2 (pc' := 12) (ls' := [(2, 8), (0, ((8 - q : Nat) : Int)), (0, 1), (0, ((t : Nat) : Int))]) (st' := [(0, 601), (0, ((t : Nat) : Int))]) (w' := (axW w j9)) (n' := 142) rfl ?_
        rw [show (601 : Int) = N6 from hN6.symm]
        refine qG.br (P := ((t : Nat) : Int) < N6) (pc1 := 15) (pc2 := 51) (st1 := []) rfl (fun h12 => ?_) (fun h12 => ?_)
        · skip
          refine qG.blk 1 (pc' := 16) (ls' := [(2, 8), (0, ((8 - q : Nat) : Int)), (0, 1), (0, ((t : Nat) : Int))]) (st' := [(0, 1)]) (w' := (axW w j9)) (n' := 142) rfl ?_
          refine qG.br (P := (1 : Int) = 0) (pc1 := 51) (pc2 := 19) (st1 := []) rfl (fun h7 => ?_) (fun h7 => ?_)
          · exact absurd h7 (by decide)
          · skip
            refine qG.blk 2 (pc' := 23) (ls' := [(2, 8), (0, ((8 - q : Nat) : Int)), (0, 1), (0, ((t : Nat) : Int))]) (st' := [(0, 10003), (2, 8)]) (w' := (axW w j9)) (n' := 142) rfl ?_
            refine qG.call (t := 150) (na := 2) (sk := 1) (md := 1) (ls1 := [(2, 8), (0, 10003)]) (r1 := []) rfl rfl rfl rfl rfl (K_tTakes (by omega) 10003 (by decide) m hm6 w hI hm j9 (by omega)) ?_
            rintro ⟨_, x9⟩ w7 _ ⟨rfl, hT⟩; rcases hT with ⟨hc23, hl23, hx9, rfl⟩ | ⟨hc23, hx9, rfl⟩ <;> obtain ⟨rfl, rfl⟩ := Prod.mk.inj hx9
            · skip
              show qG none (d + 1) 78 26 [(2, 8), (0, ((8 - q : Nat) : Int)), (0, 1), (0, ((t : Nat) : Int))] [(0, 1)] (axW w (j9 + 1)) 142 Q9
              refine qG.br (P := (1 : Int) = 0) (pc1 := 29) (pc2 := 39) (st1 := []) rfl (fun h8 => ?_) (fun h8 => ?_)
              · exact absurd h8 (by decide)
              · skip
                refine qG.blk 2 (pc' := 41) (ls' := [(2, 8), (0, ((8 - q : Nat) : Int)), (0, 1), (0, ((t : Nat) : Int))]) (st' := [(0, ((8 - q : Nat) : Int)), (2, 8)]) (w' := (axW w (j9 + 1))) (n' := 142) rfl ?_
                refine qG.call (t := 79) (na := 2) (sk := 0) (md := 0) (ls1 := [(2, 8), (0, ((8 - q : Nat) : Int)), (9, 0)]) (r1 := []) rfl rfl rfl rfl rfl (hc d (by omega) m hm6 w hI hm (j9 + 1) (by omega)) ?_
                rintro ⟨_, x9⟩ w7 _ ⟨rfl, hT⟩; rcases hT with ⟨j41, hs41, hl41, hx9, rfl⟩ | ⟨k41, j41, hs41, hk41, hl41, hx9, rfl⟩ <;> obtain ⟨rfl, rfl⟩ := Prod.mk.inj hx9
                · skip
                  show qG none (d + 1) 78 44 [(2, 8), (0, ((8 - q : Nat) : Int)), (0, 1), (0, ((t : Nat) : Int))] [(0, 1)] (axW w j41) 142 Q9
                  refine qG.blk 2 (pc' := 48) (ls' := [(2, 8), (0, ((8 - q : Nat) : Int)), (0, 1), (0, wrp (((t : Nat) : Int) + 1))]) (st' := []) (w' := (axW w j41)) (n' := 142) rfl ?_
                  rw [show wrp (((t : Nat) : Int) + 1) = ((t + 1 : Nat) : Int) from wrp_id (by omega) (by omega)]
                  refine qG.blk 1 (pc' := 8) (ls' := [(2, 8), (0, ((8 - q : Nat) : Int)), (0, 1), (0, ((t + 1 : Nat) : Int))]) (st' := []) (w' := (axW w j41)) (n' := 142) rfl ?_
                  exact ih8 _ (by omega) (t + 1) (1) ((axW w j41)) rfl (⟨by omega, .inl ⟨rfl, j41, hl41, rfl, (by rw [hJ9, show 601 - t = (601 - (t + 1)) + 1 by omega]; exact (chL_y (by first | exact .inl hc23 | exact .inr hc33)).trans (bnd_y hs41))⟩⟩)
                · skip
                  show qG none (d + 1) 78 44 [(2, 8), (0, ((8 - q : Nat) : Int)), (0, 1), (0, ((t : Nat) : Int))] [(0, 0)] (axF w k41 j41) 142 Q9
                  refine qG.blk 2 (pc' := 48) (ls' := [(2, 8), (0, ((8 - q : Nat) : Int)), (0, 0), (0, wrp (((t : Nat) : Int) + 1))]) (st' := []) (w' := (axF w k41 j41)) (n' := 142) rfl ?_
                  rw [show wrp (((t : Nat) : Int) + 1) = ((t + 1 : Nat) : Int) from wrp_id (by omega) (by omega)]
                  refine qG.blk 1 (pc' := 8) (ls' := [(2, 8), (0, ((8 - q : Nat) : Int)), (0, 0), (0, ((t + 1 : Nat) : Int))]) (st' := []) (w' := (axF w k41 j41)) (n' := 142) rfl ?_
                  exact ih8 _ (by omega) (t + 1) (0) ((axF w k41 j41)) rfl (⟨by omega, .inr (⟨rfl, k41, j41, (by rw [hJ9, show 601 - t = (601 - (t + 1)) + 1 by omega]; exact (chL_y (by first | exact .inl hc23 | exact .inr hc33)).trans (bnd_k hs41 hk41)), hk41, hl41, rfl⟩)⟩)
            · skip
              show qG none (d + 1) 78 26 [(2, 8), (0, ((8 - q : Nat) : Int)), (0, 1), (0, ((t : Nat) : Int))] [(0, 0)] (axW w j9) 142 Q9
              refine qG.br (P := (0 : Int) = 0) (pc1 := 29) (pc2 := 39) (st1 := []) rfl (fun h9 => ?_) (fun h9 => ?_)
              · skip
                refine qG.blk 2 (pc' := 33) (ls' := [(2, 8), (0, ((8 - q : Nat) : Int)), (0, 1), (0, ((t : Nat) : Int))]) (st' := [(0, 10004), (2, 8)]) (w' := (axW w j9)) (n' := 142) rfl ?_
                refine qG.call (t := 150) (na := 2) (sk := 1) (md := 1) (ls1 := [(2, 8), (0, 10004)]) (r1 := []) rfl rfl rfl rfl rfl (K_tTakes (by omega) 10004 (by decide) m hm6 w hI hm j9 (by omega)) ?_
                rintro ⟨_, x9⟩ w7 _ ⟨rfl, hT⟩; rcases hT with ⟨hc33, hl33, hx9, rfl⟩ | ⟨hc33, hx9, rfl⟩ <;> obtain ⟨rfl, rfl⟩ := Prod.mk.inj hx9
                · skip
                  show qG none (d + 1) 78 36 [(2, 8), (0, ((8 - q : Nat) : Int)), (0, 1), (0, ((t : Nat) : Int))] [(0, 1)] (axW w (j9 + 1)) 142 Q9
                  refine qG.br (P := (1 : Int) = 0) (pc1 := 51) (pc2 := 39) (st1 := []) rfl (fun h10 => ?_) (fun h10 => ?_)
                  · exact absurd h10 (by decide)
                  · skip
                    refine qG.blk 2 (pc' := 41) (ls' := [(2, 8), (0, ((8 - q : Nat) : Int)), (0, 1), (0, ((t : Nat) : Int))]) (st' := [(0, ((8 - q : Nat) : Int)), (2, 8)]) (w' := (axW w (j9 + 1))) (n' := 142) rfl ?_
                    refine qG.call (t := 79) (na := 2) (sk := 0) (md := 0) (ls1 := [(2, 8), (0, ((8 - q : Nat) : Int)), (9, 0)]) (r1 := []) rfl rfl rfl rfl rfl (hc d (by omega) m hm6 w hI hm (j9 + 1) (by omega)) ?_
                    rintro ⟨_, x9⟩ w7 _ ⟨rfl, hT⟩; rcases hT with ⟨j41, hs41, hl41, hx9, rfl⟩ | ⟨k41, j41, hs41, hk41, hl41, hx9, rfl⟩ <;> obtain ⟨rfl, rfl⟩ := Prod.mk.inj hx9
                    · skip
                      show qG none (d + 1) 78 44 [(2, 8), (0, ((8 - q : Nat) : Int)), (0, 1), (0, ((t : Nat) : Int))] [(0, 1)] (axW w j41) 142 Q9
                      refine qG.blk 2 (pc' := 48) (ls' := [(2, 8), (0, ((8 - q : Nat) : Int)), (0, 1), (0, wrp (((t : Nat) : Int) + 1))]) (st' := []) (w' := (axW w j41)) (n' := 142) rfl ?_
                      rw [show wrp (((t : Nat) : Int) + 1) = ((t + 1 : Nat) : Int) from wrp_id (by omega) (by omega)]
                      refine qG.blk 1 (pc' := 8) (ls' := [(2, 8), (0, ((8 - q : Nat) : Int)), (0, 1), (0, ((t + 1 : Nat) : Int))]) (st' := []) (w' := (axW w j41)) (n' := 142) rfl ?_
                      exact ih8 _ (by omega) (t + 1) (1) ((axW w j41)) rfl (⟨by omega, .inl ⟨rfl, j41, hl41, rfl, (by rw [hJ9, show 601 - t = (601 - (t + 1)) + 1 by omega]; exact (chL_y (by first | exact .inl hc23 | exact .inr hc33)).trans (bnd_y hs41))⟩⟩)
                    · skip
                      show qG none (d + 1) 78 44 [(2, 8), (0, ((8 - q : Nat) : Int)), (0, 1), (0, ((t : Nat) : Int))] [(0, 0)] (axF w k41 j41) 142 Q9
                      refine qG.blk 2 (pc' := 48) (ls' := [(2, 8), (0, ((8 - q : Nat) : Int)), (0, 0), (0, wrp (((t : Nat) : Int) + 1))]) (st' := []) (w' := (axF w k41 j41)) (n' := 142) rfl ?_
                      rw [show wrp (((t : Nat) : Int) + 1) = ((t + 1 : Nat) : Int) from wrp_id (by omega) (by omega)]
                      refine qG.blk 1 (pc' := 8) (ls' := [(2, 8), (0, ((8 - q : Nat) : Int)), (0, 0), (0, ((t + 1 : Nat) : Int))]) (st' := []) (w' := (axF w k41 j41)) (n' := 142) rfl ?_
                      exact ih8 _ (by omega) (t + 1) (0) ((axF w k41 j41)) rfl (⟨by omega, .inr (⟨rfl, k41, j41, (by rw [hJ9, show 601 - t = (601 - (t + 1)) + 1 by omega]; exact (chL_y (by first | exact .inl hc23 | exact .inr hc33)).trans (bnd_k hs41 hk41)), hk41, hl41, rfl⟩)⟩)
                · skip
                  show qG none (d + 1) 78 36 [(2, 8), (0, ((8 - q : Nat) : Int)), (0, 1), (0, ((t : Nat) : Int))] [(0, 0)] (axW w j9) 142 Q9
                  refine qG.br (P := (0 : Int) = 0) (pc1 := 51) (pc2 := 39) (st1 := []) rfl (fun h11 => ?_) (fun h11 => ?_)
                  · skip
                    refine qG.blk 1 (pc' := 52) (ls' := [(2, 8), (0, ((8 - q : Nat) : Int)), (0, 1), (0, ((t : Nat) : Int))]) (st' := [(0, 1)]) (w' := (axW w j9)) (n' := 142) rfl ?_
                    refine qG.ret rfl (by first | rfl | exact decide_eq_true (by omega)) ?_
                    subst hQ9
                    first | exact ⟨rfl, .inl ⟨j9, hJ9.trans (by rw [show 601 - t = 0 by omega]; rfl), hj9, rfl, rfl⟩⟩ | exact ⟨rfl, .inl ⟨j9, hJ9.trans (by rw [show 601 - t = (601 - (t + 1)) + 1 by omega]; exact chL_e (fun z => z.elim hc23 hc33)), hj9, rfl, rfl⟩⟩ | exact ⟨rfl, .inr ⟨k9, j9, hJ9, hk9, hj9, rfl, rfl⟩⟩
                  · exact absurd h11 (by decide)
              · exact absurd h9 (by decide)
        · skip
          refine qG.blk 1 (pc' := 52) (ls' := [(2, 8), (0, ((8 - q : Nat) : Int)), (0, 1), (0, ((t : Nat) : Int))]) (st' := [(0, 1)]) (w' := (axW w j9)) (n' := 142) rfl ?_
          refine qG.ret rfl (by first | rfl | exact decide_eq_true (by omega)) ?_
          subst hQ9
          first | exact ⟨rfl, .inl ⟨j9, hJ9.trans (by rw [show 601 - t = 0 by omega]; rfl), hj9, rfl, rfl⟩⟩ | exact ⟨rfl, .inl ⟨j9, hJ9.trans (by rw [show 601 - t = (601 - (t + 1)) + 1 by omega]; exact chL_e (fun z => z.elim hc23 hc33)), hj9, rfl, rfl⟩⟩ | exact ⟨rfl, .inr ⟨k9, j9, hJ9, hk9, hj9, rfl, rfl⟩⟩
      · skip
        refine qG.blk 2 (pc' := 12) (ls' := [(2, 8), (0, ((8 - q : Nat) : Int)), (0, 0), (0, ((t : Nat) : Int))]) (st' := [(0, 601), (0, ((t : Nat) : Int))]) (w' := (axF w k9 j9)) (n' := 142) rfl ?_
        rw [show (601 : Int) = N6 from hN6.symm]
        refine qG.br (P := ((t : Nat) : Int) < N6) (pc1 := 15) (pc2 := 51) (st1 := []) rfl (fun h12 => ?_) (fun h12 => ?_)
        · skip
          refine qG.blk 1 (pc' := 16) (ls' := [(2, 8), (0, ((8 - q : Nat) : Int)), (0, 0), (0, ((t : Nat) : Int))]) (st' := [(0, 0)]) (w' := (axF w k9 j9)) (n' := 142) rfl ?_
          refine qG.br (P := (0 : Int) = 0) (pc1 := 51) (pc2 := 19) (st1 := []) rfl (fun h12 => ?_) (fun h12 => ?_)
          · skip
            refine qG.blk 1 (pc' := 52) (ls' := [(2, 8), (0, ((8 - q : Nat) : Int)), (0, 0), (0, ((t : Nat) : Int))]) (st' := [(0, 0)]) (w' := (axF w k9 j9)) (n' := 142) rfl ?_
            refine qG.ret rfl (by first | rfl | exact decide_eq_true (by omega)) ?_
            subst hQ9
            first | exact ⟨rfl, .inl ⟨j9, hJ9.trans (by rw [show 601 - t = 0 by omega]; rfl), hj9, rfl, rfl⟩⟩ | exact ⟨rfl, .inl ⟨j9, hJ9.trans (by rw [show 601 - t = (601 - (t + 1)) + 1 by omega]; exact chL_e (fun z => z.elim hc23 hc33)), hj9, rfl, rfl⟩⟩ | exact ⟨rfl, .inr ⟨k9, j9, hJ9, hk9, hj9, rfl, rfl⟩⟩
          · exact absurd h12 (by decide)
        · skip
          refine qG.blk 1 (pc' := 52) (ls' := [(2, 8), (0, ((8 - q : Nat) : Int)), (0, 0), (0, ((t : Nat) : Int))]) (st' := [(0, 0)]) (w' := (axF w k9 j9)) (n' := 142) rfl ?_
          refine qG.ret rfl (by first | rfl | exact decide_eq_true (by omega)) ?_
          subst hQ9
          first | exact ⟨rfl, .inl ⟨j9, hJ9.trans (by rw [show 601 - t = 0 by omega]; rfl), hj9, rfl, rfl⟩⟩ | exact ⟨rfl, .inl ⟨j9, hJ9.trans (by rw [show 601 - t = (601 - (t + 1)) + 1 by omega]; exact chL_e (fun z => z.elim hc23 hc33)), hj9, rfl, rfl⟩⟩ | exact ⟨rfl, .inr ⟨k9, j9, hJ9, hk9, hj9, rfl, rfl⟩⟩
    exact L8_1 _ (0) (0) ((axF w k2 j2)) rfl (⟨by omega, .inr (⟨rfl, k2, j2, bnd_k hs2 hk2, hk2, hl2, rfl⟩)⟩)
theorem atom_3 {C : Nat → Int} {n i a b : Nat} (h : sSum C n i = (0, a)) (h2 : sCmp C a = (0, b)) : sAtom C n i = sSum C n b := by
  unfold sAtom
  rw [h, bnd_0, h2, bnd_0]
theorem atom_1 {C : Nat → Int} {n i j : Nat} {k : Int} (h : sSum C n i = (k, j)) (hk : k = 1 ∨ k = 2 ∨ k = 3) : sAtom C n i = (k, j) := bnd_k (bnd_k h hk) hk
theorem atom_2 {C : Nat → Int} {n i a j : Nat} {k : Int} (h : sSum C n i = (0, a)) (h2 : sCmp C a = (k, j)) (hk : k = 1 ∨ k = 2 ∨ k = 3) : sAtom C n i = (k, j) := bnd_k ((bnd_y h).trans h2) hk
theorem K_pCond0 {d : Nat} (hd : 6 ≤ d) (m : Nat) (hm6 : m ≤ 601) (w : qW) (hI : yInv zgf zga zra zSp w) (hm : w 8 4 = (m : Int)) (i : Nat) (hi : i ≤ m) : qG none d 79 0 [(2, 8), (0, 8), (9, 0)] [] (axW w i) 142 (fun (r : qV) (w1 : qW) (n1 : Nat) => n1 = 142 ∧ RD w m (sCond (cdF w) 601 0 i) r w1) := by
  generalize hQ9 : (fun (r : qV) (w1 : qW) (n1 : Nat) => n1 = 142 ∧ RD w m (sCond (cdF w) 601 0 i) r w1) = Q9
  obtain ⟨d, rfl⟩ : ∃ d9, d = d9 + 1 := ⟨d - 1, by omega⟩
  refine qG.blk 1 (pc' := 1) (ls' := [(2, 8), (0, 8), (9, 0)]) (st' := [(2, 8)]) (w' := (axW w i)) (n' := 142) rfl ?_
  refine qG.call (t := 145) (na := 1) (sk := 1) (md := 1) (ls1 := [(2, 8)]) (r1 := []) rfl rfl rfl rfl rfl (K_tCode (by omega) m hm6 w hI hm i (by omega)) ?_
  rintro _ w7 _ ⟨rfl, rfl, hw7⟩
  rw [hw7]
  show qG none (d + 1) 79 4 [(2, 8), (0, 8), (9, 0)] [(0, cdF w i)] (axW w i) 142 Q9
  refine qG.blk 3 (pc' := 9) (ls' := [(2, 8), (0, 8), (0, cdF w i)]) (st' := [(0, 10005), (0, cdF w i)]) (w' := (axW w i)) (n' := 142) rfl ?_
  refine qG.br (P := cdF w i = 10005) (pc1 := 46) (pc2 := 12) (st1 := []) rfl (fun hq9 => ?_) (fun hq9 => ?_)
  · skip
    have hlt : i < m := cd_lt hm (by omega)
    refine qG.blk 2 (pc' := 49) (ls' := [(2, 8), (0, 8), (0, cdF w i)]) (st' := [(0, 8), (0, 8)]) (w' := (axW w i)) (n' := 142) rfl ?_
    refine qG.br (P := (8 : Int) < 8) (pc1 := 58) (pc2 := 52) (st1 := []) rfl (fun h1 => ?_) (fun h1 => ?_)
    · exact absurd h1 (by decide)
    · skip
      refine qG.blk 2 (pc' := 54) (ls' := [(2, 8), (0, 8), (0, cdF w i)]) (st' := [(0, 3), (2, 8)]) (w' := (axW w i)) (n' := 142) rfl ?_
      refine qG.call (t := 153) (na := 2) (sk := 1) (md := 1) (ls1 := [(2, 8), (0, 3)]) (r1 := []) rfl rfl rfl rfl rfl (K_tFail (by omega) 3 m hm6 w hI hm i (by omega)) ?_
      rintro _ w7 _ ⟨rfl, rfl, hw7⟩
      rw [hw7]
      show qG none (d + 1) 79 57 [(2, 8), (0, 8), (0, cdF w i)] [(0, 0)] (axF w 3 i) 142 Q9
      refine qG.ret rfl (by first | rfl | exact decide_eq_true (by omega)) ?_
      subst hQ9
      exact ⟨rfl, .inr ⟨3, i, c0_3 (by first | exact .inl hq9 | exact .inr hq16), .inr (.inr rfl), hi, rfl, rfl⟩⟩
  · skip
    refine qG.blk 2 (pc' := 16) (ls' := [(2, 8), (0, 8), (0, cdF w i)]) (st' := [(0, 20040), (0, cdF w i)]) (w' := (axW w i)) (n' := 142) rfl ?_
    refine qG.br (P := cdF w i = 20040) (pc1 := 46) (pc2 := 19) (st1 := []) rfl (fun hq16 => ?_) (fun hq16 => ?_)
    · skip
      have hlt : i < m := cd_lt hm (by omega)
      refine qG.blk 2 (pc' := 49) (ls' := [(2, 8), (0, 8), (0, cdF w i)]) (st' := [(0, 8), (0, 8)]) (w' := (axW w i)) (n' := 142) rfl ?_
      refine qG.br (P := (8 : Int) < 8) (pc1 := 58) (pc2 := 52) (st1 := []) rfl (fun h2 => ?_) (fun h2 => ?_)
      · exact absurd h2 (by decide)
      · skip
        refine qG.blk 2 (pc' := 54) (ls' := [(2, 8), (0, 8), (0, cdF w i)]) (st' := [(0, 3), (2, 8)]) (w' := (axW w i)) (n' := 142) rfl ?_
        refine qG.call (t := 153) (na := 2) (sk := 1) (md := 1) (ls1 := [(2, 8), (0, 3)]) (r1 := []) rfl rfl rfl rfl rfl (K_tFail (by omega) 3 m hm6 w hI hm i (by omega)) ?_
        rintro _ w7 _ ⟨rfl, rfl, hw7⟩
        rw [hw7]
        show qG none (d + 1) 79 57 [(2, 8), (0, 8), (0, cdF w i)] [(0, 0)] (axF w 3 i) 142 Q9
        refine qG.ret rfl (by first | rfl | exact decide_eq_true (by omega)) ?_
        subst hQ9
        exact ⟨rfl, .inr ⟨3, i, c0_3 (by first | exact .inl hq9 | exact .inr hq16), .inr (.inr rfl), hi, rfl, rfl⟩⟩
    · skip
      refine qG.blk 1 (pc' := 20) (ls' := [(2, 8), (0, 8), (0, cdF w i)]) (st' := [(2, 8)]) (w' := (axW w i)) (n' := 142) rfl ?_
      refine qG.call (t := 81) (na := 1) (sk := 0) (md := 0) (ls1 := [(2, 8), (9, 0), (9, 0), (9, 0)]) (r1 := []) rfl rfl rfl rfl rfl (K_pSum (by omega) m hm6 w hI hm i (by omega)) ?_
      rintro ⟨_, x9⟩ w7 _ ⟨rfl, hT⟩; rcases hT with ⟨j20, hs20, hl20, hx9, rfl⟩ | ⟨k20, j20, hs20, hk20, hl20, hx9, rfl⟩ <;> obtain ⟨rfl, rfl⟩ := Prod.mk.inj hx9
      · skip
        show qG none (d + 1) 79 23 [(2, 8), (0, 8), (0, cdF w i)] [(0, 1)] (axW w j20) 142 Q9
        refine qG.br (P := (1 : Int) = 0) (pc1 := 44) (pc2 := 26) (st1 := []) rfl (fun h3 => ?_) (fun h3 => ?_)
        · exact absurd h3 (by decide)
        · skip
          refine qG.blk 1 (pc' := 27) (ls' := [(2, 8), (0, 8), (0, cdF w i)]) (st' := [(2, 8)]) (w' := (axW w j20)) (n' := 142) rfl ?_
          refine qG.call (t := 80) (na := 1) (sk := 0) (md := 0) (ls1 := [(2, 8)]) (r1 := []) rfl rfl rfl rfl rfl (K_pCmp (by omega) m hm6 w hI hm j20 (by omega)) ?_
          rintro ⟨_, x9⟩ w7 _ ⟨rfl, hT⟩; rcases hT with ⟨j27, hs27, hl27, hx9, rfl⟩ | ⟨k27, j27, hs27, hk27, hl27, hx9, rfl⟩ <;> obtain ⟨rfl, rfl⟩ := Prod.mk.inj hx9
          · skip
            show qG none (d + 1) 79 30 [(2, 8), (0, 8), (0, cdF w i)] [(0, 1)] (axW w j27) 142 Q9
            refine qG.br (P := (1 : Int) = 0) (pc1 := 44) (pc2 := 33) (st1 := []) rfl (fun h4 => ?_) (fun h4 => ?_)
            · exact absurd h4 (by decide)
            · skip
              refine qG.blk 1 (pc' := 34) (ls' := [(2, 8), (0, 8), (0, cdF w i)]) (st' := [(2, 8)]) (w' := (axW w j27)) (n' := 142) rfl ?_
              refine qG.call (t := 81) (na := 1) (sk := 0) (md := 0) (ls1 := [(2, 8), (9, 0), (9, 0), (9, 0)]) (r1 := []) rfl rfl rfl rfl rfl (K_pSum (by omega) m hm6 w hI hm j27 (by omega)) ?_
              rintro ⟨_, x9⟩ w7 _ ⟨rfl, hT⟩; rcases hT with ⟨j34, hs34, hl34, hx9, rfl⟩ | ⟨k34, j34, hs34, hk34, hl34, hx9, rfl⟩ <;> obtain ⟨rfl, rfl⟩ := Prod.mk.inj hx9
              · skip
                show qG none (d + 1) 79 37 [(2, 8), (0, 8), (0, cdF w i)] [(0, 1)] (axW w j34) 142 Q9
                refine qG.br (P := (1 : Int) = 0) (pc1 := 44) (pc2 := 40) (st1 := []) rfl (fun h5 => ?_) (fun h5 => ?_)
                · exact absurd h5 (by decide)
                · skip
                  refine qG.blk 2 (pc' := 45) (ls' := [(2, 8), (0, 8), (0, cdF w i)]) (st' := [(0, 1)]) (w' := (axW w j34)) (n' := 142) rfl ?_
                  refine qG.ret rfl (by first | rfl | exact decide_eq_true (by omega)) ?_
                  subst hQ9
                  first | exact ⟨rfl, .inl ⟨j34, (c0_a hq9 hq16).trans ((atom_3 hs20 hs27).trans hs34), hl34, rfl, rfl⟩⟩ | exact ⟨rfl, .inr ⟨k34, j34, (c0_a hq9 hq16).trans ((atom_3 hs20 hs27).trans hs34), hk34, hl34, rfl, rfl⟩⟩ | exact ⟨rfl, .inr ⟨k27, j27, (c0_a hq9 hq16).trans (atom_2 hs20 hs27 hk27), hk27, hl27, rfl, rfl⟩⟩ | exact ⟨rfl, .inr ⟨k20, j20, (c0_a hq9 hq16).trans (atom_1 hs20 hk20), hk20, hl20, rfl, rfl⟩⟩
              · skip
                show qG none (d + 1) 79 37 [(2, 8), (0, 8), (0, cdF w i)] [(0, 0)] (axF w k34 j34) 142 Q9
                refine qG.br (P := (0 : Int) = 0) (pc1 := 44) (pc2 := 40) (st1 := []) rfl (fun h6 => ?_) (fun h6 => ?_)
                · skip
                  refine qG.blk 1 (pc' := 45) (ls' := [(2, 8), (0, 8), (0, cdF w i)]) (st' := [(0, 0)]) (w' := (axF w k34 j34)) (n' := 142) rfl ?_
                  refine qG.ret rfl (by first | rfl | exact decide_eq_true (by omega)) ?_
                  subst hQ9
                  first | exact ⟨rfl, .inl ⟨j34, (c0_a hq9 hq16).trans ((atom_3 hs20 hs27).trans hs34), hl34, rfl, rfl⟩⟩ | exact ⟨rfl, .inr ⟨k34, j34, (c0_a hq9 hq16).trans ((atom_3 hs20 hs27).trans hs34), hk34, hl34, rfl, rfl⟩⟩ | exact ⟨rfl, .inr ⟨k27, j27, (c0_a hq9 hq16).trans (atom_2 hs20 hs27 hk27), hk27, hl27, rfl, rfl⟩⟩ | exact ⟨rfl, .inr ⟨k20, j20, (c0_a hq9 hq16).trans (atom_1 hs20 hk20), hk20, hl20, rfl, rfl⟩⟩
                · exact absurd h6 (by decide)
          · skip
            show qG none (d + 1) 79 30 [(2, 8), (0, 8), (0, cdF w i)] [(0, 0)] (axF w k27 j27) 142 Q9
            refine qG.br (P := (0 : Int) = 0) (pc1 := 44) (pc2 := 33) (st1 := []) rfl (fun h7 => ?_) (fun h7 => ?_)
            · skip
              refine qG.blk 1 (pc' := 45) (ls' := [(2, 8), (0, 8), (0, cdF w i)]) (st' := [(0, 0)]) (w' := (axF w k27 j27)) (n' := 142) rfl ?_
              refine qG.ret rfl (by first | rfl | exact decide_eq_true (by omega)) ?_
              subst hQ9
              first | exact ⟨rfl, .inl ⟨j34, (c0_a hq9 hq16).trans ((atom_3 hs20 hs27).trans hs34), hl34, rfl, rfl⟩⟩ | exact ⟨rfl, .inr ⟨k34, j34, (c0_a hq9 hq16).trans ((atom_3 hs20 hs27).trans hs34), hk34, hl34, rfl, rfl⟩⟩ | exact ⟨rfl, .inr ⟨k27, j27, (c0_a hq9 hq16).trans (atom_2 hs20 hs27 hk27), hk27, hl27, rfl, rfl⟩⟩ | exact ⟨rfl, .inr ⟨k20, j20, (c0_a hq9 hq16).trans (atom_1 hs20 hk20), hk20, hl20, rfl, rfl⟩⟩
            · exact absurd h7 (by decide)
      · skip
        show qG none (d + 1) 79 23 [(2, 8), (0, 8), (0, cdF w i)] [(0, 0)] (axF w k20 j20) 142 Q9
        refine qG.br (P := (0 : Int) = 0) (pc1 := 44) (pc2 := 26) (st1 := []) rfl (fun h8 => ?_) (fun h8 => ?_)
        · skip
          refine qG.blk 1 (pc' := 45) (ls' := [(2, 8), (0, 8), (0, cdF w i)]) (st' := [(0, 0)]) (w' := (axF w k20 j20)) (n' := 142) rfl ?_
          refine qG.ret rfl (by first | rfl | exact decide_eq_true (by omega)) ?_
          subst hQ9
          first | exact ⟨rfl, .inl ⟨j34, (c0_a hq9 hq16).trans ((atom_3 hs20 hs27).trans hs34), hl34, rfl, rfl⟩⟩ | exact ⟨rfl, .inr ⟨k34, j34, (c0_a hq9 hq16).trans ((atom_3 hs20 hs27).trans hs34), hk34, hl34, rfl, rfl⟩⟩ | exact ⟨rfl, .inr ⟨k27, j27, (c0_a hq9 hq16).trans (atom_2 hs20 hs27 hk27), hk27, hl27, rfl, rfl⟩⟩ | exact ⟨rfl, .inr ⟨k20, j20, (c0_a hq9 hq16).trans (atom_1 hs20 hk20), hk20, hl20, rfl, rfl⟩⟩
        · exact absurd h8 (by decide)
theorem K_pCondS {d : Nat} (q : Nat) (hd : 8 + 2 * q ≤ d) (hq : q < 8) (hc : P_cond q) (hv : P_cho q) (m : Nat) (hm6 : m ≤ 601) (w : qW) (hI : yInv zgf zga zra zSp w) (hm : w 8 4 = (m : Int)) (i : Nat) (hi : i ≤ m) : qG none d 79 0 [(2, 8), (0, ((8 - (q + 1) : Nat) : Int)), (9, 0)] [] (axW w i) 142 (fun (r : qV) (w1 : qW) (n1 : Nat) => n1 = 142 ∧ RD w m (sCond (cdF w) 601 (q + 1) i) r w1) := by
  generalize hQ9 : (fun (r : qV) (w1 : qW) (n1 : Nat) => n1 = 142 ∧ RD w m (sCond (cdF w) 601 (q + 1) i) r w1) = Q9
  obtain ⟨d, rfl⟩ : ∃ d9, d = d9 + 1 := ⟨d - 1, by omega⟩
  refine qG.blk 1 (pc' := 1) (ls' := [(2, 8), (0, ((8 - (q + 1) : Nat) : Int)), (9, 0)]) (st' := [(2, 8)]) (w' := (axW w i)) (n' := 142) rfl ?_
  refine qG.call (t := 145) (na := 1) (sk := 1) (md := 1) (ls1 := [(2, 8)]) (r1 := []) rfl rfl rfl rfl rfl (K_tCode (by omega) m hm6 w hI hm i (by omega)) ?_
  rintro _ w7 _ ⟨rfl, rfl, hw7⟩
  rw [hw7]
  show qG none (d + 1) 79 4 [(2, 8), (0, ((8 - (q + 1) : Nat) : Int)), (9, 0)] [(0, cdF w i)] (axW w i) 142 Q9
  refine qG.blk 3 (pc' := 9) (ls' := [(2, 8), (0, ((8 - (q + 1) : Nat) : Int)), (0, cdF w i)]) (st' := [(0, 10005), (0, cdF w i)]) (w' := (axW w i)) (n' := 142) rfl ?_
  refine qG.br (P := cdF w i = 10005) (pc1 := 46) (pc2 := 12) (st1 := []) rfl (fun hq9 => ?_) (fun hq9 => ?_)
  · skip
    have hlt : i < m := cd_lt hm (by omega)
    refine qG.blk 2 (pc' := 49) (ls' := [(2, 8), (0, ((8 - (q + 1) : Nat) : Int)), (0, cdF w i)]) (st' := [(0, 8), (0, ((8 - (q + 1) : Nat) : Int))]) (w' := (axW w i)) (n' := 142) rfl ?_
    refine qG.br (P := ((8 - (q + 1) : Nat) : Int) < 8) (pc1 := 58) (pc2 := 52) (st1 := []) rfl (fun h49 => ?_) (fun h49 => ?_)
    · skip
      refine qG.blk 1 (pc' := 59) (ls' := [(2, 8), (0, ((8 - (q + 1) : Nat) : Int)), (0, cdF w i)]) (st' := [(2, 8)]) (w' := (axW w i)) (n' := 142) rfl ?_
      refine qG.call (t := 149) (na := 1) (sk := 1) (md := 1) (ls1 := [(2, 8)]) (r1 := []) rfl rfl rfl rfl rfl (K_tNext (by omega) m hm6 w hI hm i (by omega)) ?_
      rintro _ w7 _ ⟨rfl, rfl, hw7⟩
      rw [hw7]
      show qG none (d + 1) 79 62 [(2, 8), (0, ((8 - (q + 1) : Nat) : Int)), (0, cdF w i)] [] (axW w (i + 1)) 142 Q9
      refine qG.blk 2 (pc' := 66) (ls' := [(2, 8), (0, ((8 - (q + 1) : Nat) : Int)), (0, cdF w i)]) (st' := [(0, 10005), (0, cdF w i)]) (w' := (axW w (i + 1))) (n' := 142) rfl ?_
      refine qG.br (P := cdF w i = 10005) (pc1 := 69) (pc2 := 77) (st1 := []) rfl (fun h1 => ?_) (fun h1 => ?_)
      · skip
        refine qG.blk 4 (pc' := 73) (ls' := [(2, 8), (0, ((8 - (q + 1) : Nat) : Int)), (0, cdF w i)]) (st' := [(0, wrp (((8 - (q + 1) : Nat) : Int) + 1)), (2, 8)]) (w' := (axW w (i + 1))) (n' := 142) rfl ?_
        rw [show wrp (((8 - (q + 1) : Nat) : Int) + 1) = ((8 - q : Nat) : Int) from by rw [wrp_id (by omega) (by omega)]; omega]
        refine qG.call (t := 79) (na := 2) (sk := 0) (md := 0) (ls1 := [(2, 8), (0, ((8 - q : Nat) : Int)), (9, 0)]) (r1 := []) rfl rfl rfl rfl rfl (hc d (by omega) m hm6 w hI hm (i + 1) (by omega)) ?_
        rintro ⟨_, x9⟩ w7 _ ⟨rfl, hT⟩; rcases hT with ⟨j73, hs73, hl73, hx9, rfl⟩ | ⟨k73, j73, hs73, hk73, hl73, hx9, rfl⟩ <;> obtain ⟨rfl, rfl⟩ := Prod.mk.inj hx9
        · skip
          show qG none (d + 1) 79 76 [(2, 8), (0, ((8 - (q + 1) : Nat) : Int)), (0, cdF w i)] [(0, 1)] (axW w j73) 142 Q9
          refine qG.ret rfl (by first | rfl | exact decide_eq_true (by omega)) ?_
          subst hQ9
          first | exact ⟨rfl, .inl ⟨j73, (cS_n hq9).trans hs73, hl73, rfl, rfl⟩⟩ | exact ⟨rfl, .inr ⟨k73, j73, (cS_n hq9).trans hs73, hk73, hl73, rfl, rfl⟩⟩
        · skip
          show qG none (d + 1) 79 76 [(2, 8), (0, ((8 - (q + 1) : Nat) : Int)), (0, cdF w i)] [(0, 0)] (axF w k73 j73) 142 Q9
          refine qG.ret rfl (by first | rfl | exact decide_eq_true (by omega)) ?_
          subst hQ9
          first | exact ⟨rfl, .inl ⟨j73, (cS_n hq9).trans hs73, hl73, rfl, rfl⟩⟩ | exact ⟨rfl, .inr ⟨k73, j73, (cS_n hq9).trans hs73, hk73, hl73, rfl, rfl⟩⟩
      · exfalso; exact h1 hq9
    · exfalso; omega
  · skip
    refine qG.blk 2 (pc' := 16) (ls' := [(2, 8), (0, ((8 - (q + 1) : Nat) : Int)), (0, cdF w i)]) (st' := [(0, 20040), (0, cdF w i)]) (w' := (axW w i)) (n' := 142) rfl ?_
    refine qG.br (P := cdF w i = 20040) (pc1 := 46) (pc2 := 19) (st1 := []) rfl (fun hq16 => ?_) (fun hq16 => ?_)
    · skip
      have hlt : i < m := cd_lt hm (by omega)
      refine qG.blk 2 (pc' := 49) (ls' := [(2, 8), (0, ((8 - (q + 1) : Nat) : Int)), (0, cdF w i)]) (st' := [(0, 8), (0, ((8 - (q + 1) : Nat) : Int))]) (w' := (axW w i)) (n' := 142) rfl ?_
      refine qG.br (P := ((8 - (q + 1) : Nat) : Int) < 8) (pc1 := 58) (pc2 := 52) (st1 := []) rfl (fun h49 => ?_) (fun h49 => ?_)
      · skip
        refine qG.blk 1 (pc' := 59) (ls' := [(2, 8), (0, ((8 - (q + 1) : Nat) : Int)), (0, cdF w i)]) (st' := [(2, 8)]) (w' := (axW w i)) (n' := 142) rfl ?_
        refine qG.call (t := 149) (na := 1) (sk := 1) (md := 1) (ls1 := [(2, 8)]) (r1 := []) rfl rfl rfl rfl rfl (K_tNext (by omega) m hm6 w hI hm i (by omega)) ?_
        rintro _ w7 _ ⟨rfl, rfl, hw7⟩
        rw [hw7]
        show qG none (d + 1) 79 62 [(2, 8), (0, ((8 - (q + 1) : Nat) : Int)), (0, cdF w i)] [] (axW w (i + 1)) 142 Q9
        refine qG.blk 2 (pc' := 66) (ls' := [(2, 8), (0, ((8 - (q + 1) : Nat) : Int)), (0, cdF w i)]) (st' := [(0, 10005), (0, cdF w i)]) (w' := (axW w (i + 1))) (n' := 142) rfl ?_
        refine qG.br (P := cdF w i = 10005) (pc1 := 69) (pc2 := 77) (st1 := []) rfl (fun h2 => ?_) (fun h2 => ?_)
        · exfalso; exact hq9 h2
        · skip
          refine qG.blk 4 (pc' := 81) (ls' := [(2, 8), (0, ((8 - (q + 1) : Nat) : Int)), (0, cdF w i)]) (st' := [(0, wrp (((8 - (q + 1) : Nat) : Int) + 1)), (2, 8)]) (w' := (axW w (i + 1))) (n' := 142) rfl ?_
          rw [show wrp (((8 - (q + 1) : Nat) : Int) + 1) = ((8 - q : Nat) : Int) from by rw [wrp_id (by omega) (by omega)]; omega]
          refine qG.call (t := 78) (na := 2) (sk := 0) (md := 0) (ls1 := [(2, 8), (0, ((8 - q : Nat) : Int)), (9, 0), (9, 0)]) (r1 := []) rfl rfl rfl rfl rfl (hv d (by omega) m hm6 w hI hm (i + 1) (by omega)) ?_
          rintro ⟨_, x9⟩ w7 _ ⟨rfl, hT⟩; rcases hT with ⟨j81, hs81, hl81, hx9, rfl⟩ | ⟨k81, j81, hs81, hk81, hl81, hx9, rfl⟩ <;> obtain ⟨rfl, rfl⟩ := Prod.mk.inj hx9
          · skip
            show qG none (d + 1) 79 84 [(2, 8), (0, ((8 - (q + 1) : Nat) : Int)), (0, cdF w i)] [(0, 1)] (axW w j81) 142 Q9
            refine qG.br (P := (1 : Int) = 0) (pc1 := 101) (pc2 := 87) (st1 := []) rfl (fun h3 => ?_) (fun h3 => ?_)
            · exact absurd h3 (by decide)
            · skip
              refine qG.blk 2 (pc' := 91) (ls' := [(2, 8), (0, ((8 - (q + 1) : Nat) : Int)), (0, cdF w i)]) (st' := [(0, 20041), (2, 8)]) (w' := (axW w j81)) (n' := 142) rfl ?_
              refine qG.call (t := 151) (na := 2) (sk := 1) (md := 1) (ls1 := [(2, 8), (0, 20041)]) (r1 := []) rfl rfl rfl rfl rfl (K_tNeeds (by omega) 20041 (by decide) m hm6 w hI hm j81 (by omega)) ?_
              rintro ⟨_, x9⟩ w7 _ ⟨rfl, hT⟩; rcases hT with ⟨j91, hs91, hl91, hx9, rfl⟩ | ⟨k91, j91, hs91, hk91, hl91, hx9, rfl⟩ <;> obtain ⟨rfl, rfl⟩ := Prod.mk.inj hx9
              · skip
                show qG none (d + 1) 79 94 [(2, 8), (0, ((8 - (q + 1) : Nat) : Int)), (0, cdF w i)] [(0, 1)] (axW w j91) 142 Q9
                refine qG.br (P := (1 : Int) = 0) (pc1 := 101) (pc2 := 97) (st1 := []) rfl (fun h4 => ?_) (fun h4 => ?_)
                · exact absurd h4 (by decide)
                · skip
                  refine qG.blk 2 (pc' := 102) (ls' := [(2, 8), (0, ((8 - (q + 1) : Nat) : Int)), (0, cdF w i)]) (st' := [(0, 1)]) (w' := (axW w j91)) (n' := 142) rfl ?_
                  refine qG.ret rfl (by first | rfl | exact decide_eq_true (by omega)) ?_
                  subst hQ9
                  first | exact ⟨rfl, .inl ⟨j91, (cS_p hq9 hq16).trans ((bnd_y hs81).trans hs91), hl91, rfl, rfl⟩⟩ | exact ⟨rfl, .inr ⟨k91, j91, (cS_p hq9 hq16).trans ((bnd_y hs81).trans hs91), hk91, hl91, rfl, rfl⟩⟩ | exact ⟨rfl, .inr ⟨k81, j81, (cS_p hq9 hq16).trans (bnd_k hs81 hk81), hk81, hl81, rfl, rfl⟩⟩
              · skip
                show qG none (d + 1) 79 94 [(2, 8), (0, ((8 - (q + 1) : Nat) : Int)), (0, cdF w i)] [(0, 0)] (axF w k91 j91) 142 Q9
                refine qG.br (P := (0 : Int) = 0) (pc1 := 101) (pc2 := 97) (st1 := []) rfl (fun h5 => ?_) (fun h5 => ?_)
                · skip
                  refine qG.blk 1 (pc' := 102) (ls' := [(2, 8), (0, ((8 - (q + 1) : Nat) : Int)), (0, cdF w i)]) (st' := [(0, 0)]) (w' := (axF w k91 j91)) (n' := 142) rfl ?_
                  refine qG.ret rfl (by first | rfl | exact decide_eq_true (by omega)) ?_
                  subst hQ9
                  first | exact ⟨rfl, .inl ⟨j91, (cS_p hq9 hq16).trans ((bnd_y hs81).trans hs91), hl91, rfl, rfl⟩⟩ | exact ⟨rfl, .inr ⟨k91, j91, (cS_p hq9 hq16).trans ((bnd_y hs81).trans hs91), hk91, hl91, rfl, rfl⟩⟩ | exact ⟨rfl, .inr ⟨k81, j81, (cS_p hq9 hq16).trans (bnd_k hs81 hk81), hk81, hl81, rfl, rfl⟩⟩
                · exact absurd h5 (by decide)
          · skip
            show qG none (d + 1) 79 84 [(2, 8), (0, ((8 - (q + 1) : Nat) : Int)), (0, cdF w i)] [(0, 0)] (axF w k81 j81) 142 Q9
            refine qG.br (P := (0 : Int) = 0) (pc1 := 101) (pc2 := 87) (st1 := []) rfl (fun h6 => ?_) (fun h6 => ?_)
            · skip
              refine qG.blk 1 (pc' := 102) (ls' := [(2, 8), (0, ((8 - (q + 1) : Nat) : Int)), (0, cdF w i)]) (st' := [(0, 0)]) (w' := (axF w k81 j81)) (n' := 142) rfl ?_
              refine qG.ret rfl (by first | rfl | exact decide_eq_true (by omega)) ?_
              subst hQ9
              first | exact ⟨rfl, .inl ⟨j91, (cS_p hq9 hq16).trans ((bnd_y hs81).trans hs91), hl91, rfl, rfl⟩⟩ | exact ⟨rfl, .inr ⟨k91, j91, (cS_p hq9 hq16).trans ((bnd_y hs81).trans hs91), hk91, hl91, rfl, rfl⟩⟩ | exact ⟨rfl, .inr ⟨k81, j81, (cS_p hq9 hq16).trans (bnd_k hs81 hk81), hk81, hl81, rfl, rfl⟩⟩
            · exact absurd h6 (by decide)
      · exfalso; omega
    · skip
      refine qG.blk 1 (pc' := 20) (ls' := [(2, 8), (0, ((8 - (q + 1) : Nat) : Int)), (0, cdF w i)]) (st' := [(2, 8)]) (w' := (axW w i)) (n' := 142) rfl ?_
      refine qG.call (t := 81) (na := 1) (sk := 0) (md := 0) (ls1 := [(2, 8), (9, 0), (9, 0), (9, 0)]) (r1 := []) rfl rfl rfl rfl rfl (K_pSum (by omega) m hm6 w hI hm i (by omega)) ?_
      rintro ⟨_, x9⟩ w7 _ ⟨rfl, hT⟩; rcases hT with ⟨j20, hs20, hl20, hx9, rfl⟩ | ⟨k20, j20, hs20, hk20, hl20, hx9, rfl⟩ <;> obtain ⟨rfl, rfl⟩ := Prod.mk.inj hx9
      · skip
        show qG none (d + 1) 79 23 [(2, 8), (0, ((8 - (q + 1) : Nat) : Int)), (0, cdF w i)] [(0, 1)] (axW w j20) 142 Q9
        refine qG.br (P := (1 : Int) = 0) (pc1 := 44) (pc2 := 26) (st1 := []) rfl (fun h7 => ?_) (fun h7 => ?_)
        · exact absurd h7 (by decide)
        · skip
          refine qG.blk 1 (pc' := 27) (ls' := [(2, 8), (0, ((8 - (q + 1) : Nat) : Int)), (0, cdF w i)]) (st' := [(2, 8)]) (w' := (axW w j20)) (n' := 142) rfl ?_
          refine qG.call (t := 80) (na := 1) (sk := 0) (md := 0) (ls1 := [(2, 8)]) (r1 := []) rfl rfl rfl rfl rfl (K_pCmp (by omega) m hm6 w hI hm j20 (by omega)) ?_
          rintro ⟨_, x9⟩ w7 _ ⟨rfl, hT⟩; rcases hT with ⟨j27, hs27, hl27, hx9, rfl⟩ | ⟨k27, j27, hs27, hk27, hl27, hx9, rfl⟩ <;> obtain ⟨rfl, rfl⟩ := Prod.mk.inj hx9
          · skip
            show qG none (d + 1) 79 30 [(2, 8), (0, ((8 - (q + 1) : Nat) : Int)), (0, cdF w i)] [(0, 1)] (axW w j27) 142 Q9
            refine qG.br (P := (1 : Int) = 0) (pc1 := 44) (pc2 := 33) (st1 := []) rfl (fun h8 => ?_) (fun h8 => ?_)
            · exact absurd h8 (by decide)
            · skip
              refine qG.blk 1 (pc' := 34) (ls' := [(2, 8), (0, ((8 - (q + 1) : Nat) : Int)), (0, cdF w i)]) (st' := [(2, 8)]) (w' := (axW w j27)) (n' := 142) rfl ?_
              refine qG.call (t := 81) (na := 1) (sk := 0) (md := 0) (ls1 := [(2, 8), (9, 0), (9, 0), (9, 0)]) (r1 := []) rfl rfl rfl rfl rfl (K_pSum (by omega) m hm6 w hI hm j27 (by omega)) ?_
              rintro ⟨_, x9⟩ w7 _ ⟨rfl, hT⟩; rcases hT with ⟨j34, hs34, hl34, hx9, rfl⟩ | ⟨k34, j34, hs34, hk34, hl34, hx9, rfl⟩ <;> obtain ⟨rfl, rfl⟩ := Prod.mk.inj hx9
              · skip
                show qG none (d + 1) 79 37 [(2, 8), (0, ((8 - (q + 1) : Nat) : Int)), (0, cdF w i)] [(0, 1)] (axW w j34) 142 Q9
                refine qG.br (P := (1 : Int) = 0) (pc1 := 44) (pc2 := 40) (st1 := []) rfl (fun h9 => ?_) (fun h9 => ?_)
                · exact absurd h9 (by decide)
                · skip
                  refine qG.blk 2 (pc' := 45) (ls' := [(2, 8), (0, ((8 - (q + 1) : Nat) : Int)), (0, cdF w i)]) (st' := [(0, 1)]) (w' := (axW w j34)) (n' := 142) rfl ?_
                  refine qG.ret rfl (by first | rfl | exact decide_eq_true (by omega)) ?_
                  subst hQ9
                  first | exact ⟨rfl, .inl ⟨j34, (cS_a hq9 hq16).trans ((atom_3 hs20 hs27).trans hs34), hl34, rfl, rfl⟩⟩ | exact ⟨rfl, .inr ⟨k34, j34, (cS_a hq9 hq16).trans ((atom_3 hs20 hs27).trans hs34), hk34, hl34, rfl, rfl⟩⟩ | exact ⟨rfl, .inr ⟨k27, j27, (cS_a hq9 hq16).trans (atom_2 hs20 hs27 hk27), hk27, hl27, rfl, rfl⟩⟩ | exact ⟨rfl, .inr ⟨k20, j20, (cS_a hq9 hq16).trans (atom_1 hs20 hk20), hk20, hl20, rfl, rfl⟩⟩
              · skip
                show qG none (d + 1) 79 37 [(2, 8), (0, ((8 - (q + 1) : Nat) : Int)), (0, cdF w i)] [(0, 0)] (axF w k34 j34) 142 Q9
                refine qG.br (P := (0 : Int) = 0) (pc1 := 44) (pc2 := 40) (st1 := []) rfl (fun h10 => ?_) (fun h10 => ?_)
                · skip
                  refine qG.blk 1 (pc' := 45) (ls' := [(2, 8), (0, ((8 - (q + 1) : Nat) : Int)), (0, cdF w i)]) (st' := [(0, 0)]) (w' := (axF w k34 j34)) (n' := 142) rfl ?_
                  refine qG.ret rfl (by first | rfl | exact decide_eq_true (by omega)) ?_
                  subst hQ9
                  first | exact ⟨rfl, .inl ⟨j34, (cS_a hq9 hq16).trans ((atom_3 hs20 hs27).trans hs34), hl34, rfl, rfl⟩⟩ | exact ⟨rfl, .inr ⟨k34, j34, (cS_a hq9 hq16).trans ((atom_3 hs20 hs27).trans hs34), hk34, hl34, rfl, rfl⟩⟩ | exact ⟨rfl, .inr ⟨k27, j27, (cS_a hq9 hq16).trans (atom_2 hs20 hs27 hk27), hk27, hl27, rfl, rfl⟩⟩ | exact ⟨rfl, .inr ⟨k20, j20, (cS_a hq9 hq16).trans (atom_1 hs20 hk20), hk20, hl20, rfl, rfl⟩⟩
                · exact absurd h10 (by decide)
          · skip
            show qG none (d + 1) 79 30 [(2, 8), (0, ((8 - (q + 1) : Nat) : Int)), (0, cdF w i)] [(0, 0)] (axF w k27 j27) 142 Q9
            refine qG.br (P := (0 : Int) = 0) (pc1 := 44) (pc2 := 33) (st1 := []) rfl (fun h11 => ?_) (fun h11 => ?_)
            · skip
              refine qG.blk 1 (pc' := 45) (ls' := [(2, 8), (0, ((8 - (q + 1) : Nat) : Int)), (0, cdF w i)]) (st' := [(0, 0)]) (w' := (axF w k27 j27)) (n' := 142) rfl ?_
              refine qG.ret rfl (by first | rfl | exact decide_eq_true (by omega)) ?_
              subst hQ9
              first | exact ⟨rfl, .inl ⟨j34, (cS_a hq9 hq16).trans ((atom_3 hs20 hs27).trans hs34), hl34, rfl, rfl⟩⟩ | exact ⟨rfl, .inr ⟨k34, j34, (cS_a hq9 hq16).trans ((atom_3 hs20 hs27).trans hs34), hk34, hl34, rfl, rfl⟩⟩ | exact ⟨rfl, .inr ⟨k27, j27, (cS_a hq9 hq16).trans (atom_2 hs20 hs27 hk27), hk27, hl27, rfl, rfl⟩⟩ | exact ⟨rfl, .inr ⟨k20, j20, (cS_a hq9 hq16).trans (atom_1 hs20 hk20), hk20, hl20, rfl, rfl⟩⟩
            · exact absurd h11 (by decide)
      · skip
        show qG none (d + 1) 79 23 [(2, 8), (0, ((8 - (q + 1) : Nat) : Int)), (0, cdF w i)] [(0, 0)] (axF w k20 j20) 142 Q9
        refine qG.br (P := (0 : Int) = 0) (pc1 := 44) (pc2 := 26) (st1 := []) rfl (fun h12 => ?_) (fun h12 => ?_)
        · skip
          refine qG.blk 1 (pc' := 45) (ls' := [(2, 8), (0, ((8 - (q + 1) : Nat) : Int)), (0, cdF w i)]) (st' := [(0, 0)]) (w' := (axF w k20 j20)) (n' := 142) rfl ?_
          refine qG.ret rfl (by first | rfl | exact decide_eq_true (by omega)) ?_
          subst hQ9
          first | exact ⟨rfl, .inl ⟨j34, (cS_a hq9 hq16).trans ((atom_3 hs20 hs27).trans hs34), hl34, rfl, rfl⟩⟩ | exact ⟨rfl, .inr ⟨k34, j34, (cS_a hq9 hq16).trans ((atom_3 hs20 hs27).trans hs34), hk34, hl34, rfl, rfl⟩⟩ | exact ⟨rfl, .inr ⟨k27, j27, (cS_a hq9 hq16).trans (atom_2 hs20 hs27 hk27), hk27, hl27, rfl, rfl⟩⟩ | exact ⟨rfl, .inr ⟨k20, j20, (cS_a hq9 hq16).trans (atom_1 hs20 hk20), hk20, hl20, rfl, rfl⟩⟩
        · exact absurd h12 (by decide)
theorem P_pq : ∀ q : Nat, q ≤ 8 → P_cond q ∧ P_cho q
  | 0, _ => by
    have h : P_cond 0 := fun d hd m hm6 w hI hm i hi => K_pCond0 (by omega) m hm6 w hI hm i hi
    exact ⟨h, fun d hd m hm6 w hI hm i hi => K_pCho 0 (by omega) (by omega) h m hm6 w hI hm i hi⟩
  | q + 1, hq => by
    obtain ⟨h1, h2⟩ := P_pq q (by omega)
    have h : P_cond (q + 1) := fun d hd m hm6 w hI hm i hi => K_pCondS q (by omega) (by omega) h1 h2 m hm6 w hI hm i hi
    exact ⟨h, fun d hd m hm6 w hI hm i hi => K_pCho (q + 1) (by omega) (by omega) h m hm6 w hI hm i hi⟩
