/-! the class's sets: which it takes -/
def ntF (P : Nat → Int) (v : Int) : Nat → Int
  | 0 => 0
  | s + 1 => if qand (qush v (s : Int)) 1 = 0 then ntF P v s else qor (ntF P v s) (P s)
theorem ntF_y {P : Nat → Int} {v : Int} {s : Nat} (h : qand (qush v (s : Int)) 1 = 0) : ntF P v (s + 1) = ntF P v s := if_pos h
theorem ntF_n {P : Nat → Int} {v : Int} {s : Nat} (h : ¬ qand (qush v (s : Int)) 1 = 0) : ntF P v (s + 1) = qor (ntF P v s) (P s) := if_neg h
theorem ntF_c {P P' : Nat → Int} {v : Int} : ∀ s, (∀ j, j < s → P j = P' j) → ntF P v s = ntF P' v s
  | 0, _ => rfl
  | s + 1, h => by
    show (if _ then ntF P v s else qor (ntF P v s) (P s)) = (if _ then ntF P' v s else qor (ntF P' v s) (P' s))
    rw [ntF_c s (fun j hj => h j (by omega)), h s (by omega)]
def hxR (P : Nat → Int) (v : Int) : Nat → Int
  | 0 => qand v (wrp (-v))
  | j + 1 => qor (hxR P v j) (qand (ntF P (hxR P v j) 16) v)
theorem hxR_c {P P' : Nat → Int} {v : Int} (h : ∀ j, j < 16 → P j = P' j) : ∀ j, hxR P v j = hxR P' v j
  | 0 => rfl
  | j + 1 => by
    show qor (hxR P v j) (qand (ntF P (hxR P v j) 16) v) = qor (hxR P' v j) (qand (ntF P' (hxR P' v j) 16) v)
    rw [hxR_c h j, ntF_c 16 h]
def nz1 (p : Int × Int) : Int × Int := if 65536 < p.2 then (p.1 + 16, qush p.2 16) else p
def nz2 (p : Int × Int) : Int × Int := if 256 < p.2 then (p.1 + 8, qush p.2 8) else p
def nz3 (p : Int × Int) : Int × Int := if 16 < p.2 then (p.1 + 4, qush p.2 4) else p
def nz4 (p : Int × Int) : Int × Int := if 4 < p.2 then (p.1 + 2, qush p.2 2) else p
def nz5 (p : Int × Int) : Int := wrp (p.1 + qush p.2 1)
def nz0 (v : Int) : Int := qand (qxor v (-1)) (wrp (v - 1))
def NZ (v : Int) : Int := if 0 < nz0 v then nz5 (nz4 (nz3 (nz2 (nz1 (1, nz0 v))))) else qand (nz0 v) 32
theorem nz1_y {n x : Int} (h : 65536 < x) : nz1 (n, x) = (n + 16, qush x 16) := if_pos h
theorem nz1_n {n x : Int} (h : ¬ 65536 < x) : nz1 (n, x) = (n, x) := if_neg h
theorem nz2_y {n x : Int} (h : 256 < x) : nz2 (n, x) = (n + 8, qush x 8) := if_pos h
theorem nz2_n {n x : Int} (h : ¬ 256 < x) : nz2 (n, x) = (n, x) := if_neg h
theorem nz3_y {n x : Int} (h : 16 < x) : nz3 (n, x) = (n + 4, qush x 4) := if_pos h
theorem nz3_n {n x : Int} (h : ¬ 16 < x) : nz3 (n, x) = (n, x) := if_neg h
theorem nz4_y {n x : Int} (h : 4 < x) : nz4 (n, x) = (n + 2, qush x 2) := if_pos h
theorem nz4_n {n x : Int} (h : ¬ 4 < x) : nz4 (n, x) = (n, x) := if_neg h
def NX (v : Int) : Int := qor (wrp (v + qand v (wrp (-v)))) (qush (qxor v (wrp (v + qand v (wrp (-v))))) (wrp (2 + NZ v)))
theorem K_low {d : Nat} (hd : 0 ≤ d) (v : Int) (w : qW) : qG none d 300 0 [(0, v)] [] w 142 (fun (r : qV) (w1 : qW) (n1 : Nat) => r = (0, qand v (wrp (-v))) ∧ w1 = w ∧ n1 = 142) := by
  generalize hQ9 : (fun (r : qV) (w1 : qW) (n1 : Nat) => r = (0, qand v (wrp (-v))) ∧ w1 = w ∧ n1 = 142) = Q9
  refine qG.blk 4 (pc' := 4) (ls' := [(0, v)]) (st' := [(0, qand v (wrp (-v)))]) (w' := w) (n' := 142) rfl ?_
  refine qG.ret rfl rfl ?_
  subst hQ9
  exact ⟨rfl, rfl, rfl⟩
theorem K_NZ {d : Nat} (hd : 0 ≤ d) (v : Int) (w : qW) : qG none d 301 0 [(0, v), (9, 0)] [] w 142 (fun (r : qV) (w1 : qW) (n1 : Nat) => r = (0, NZ v) ∧ w1 = w ∧ n1 = 142) := by
  generalize hQ9 : (fun (r : qV) (w1 : qW) (n1 : Nat) => r = (0, NZ v) ∧ w1 = w ∧ n1 = 142) = Q9
  obtain ⟨N6, hN6⟩ : ∃ N : Int, N = 65536 := ⟨_, rfl⟩
  refine qG.blk 6 (pc' := 6) (ls' := [(0, v), (9, 0)]) (st' := [(0, wrp (v - 1)), (0, qxor v (-1))]) (w' := w) (n' := 142) rfl ?_
  refine qG.blk 1 (pc' := 7) (ls' := [(0, v), (9, 0)]) (st' := [(0, qand (qxor v (-1)) (wrp (v - 1)))]) (w' := w) (n' := 142) rfl ?_
  rw [show qand (qxor v (-1)) (wrp (v - 1)) = nz0 v from rfl]
  refine qG.blk 2 (pc' := 9) (ls' := [(0, nz0 v), (9, 0)]) (st' := [(0, nz0 v)]) (w' := w) (n' := 142) rfl ?_
  refine qG.br (P := 0 < nz0 v) (pc1 := 17) (pc2 := 12) (st1 := []) rfl (fun h1 => ?_) (fun h1 => ?_)
  · skip
    refine qG.blk 4 (pc' := 23) (ls' := [(0, nz0 v), (0, 1)]) (st' := [(0, 65536), (0, nz0 v)]) (w' := w) (n' := 142) rfl ?_
    rw [show (65536 : Int) = N6 from hN6.symm]
    refine qG.br (P := N6 < nz0 v) (pc1 := 26) (pc2 := 34) (st1 := []) rfl (fun h2 => ?_) (fun h2 => ?_)
    · skip
      rw [hN6] at h2
      refine qG.blk 1 (pc' := 29) (ls' := [(0, nz0 v), (0, wrp (1 + 16))]) (st' := []) (w' := w) (n' := 142) rfl ?_
      rw [show wrp (1 + 16) = 17 from wrp_id (by omega) (by omega)]
      refine qG.blk 6 (pc' := 38) (ls' := [(0, qush (nz0 v) 16), (0, 17)]) (st' := [(0, 256), (0, qush (nz0 v) 16)]) (w' := w) (n' := 142) rfl ?_
      refine qG.br (P := 256 < qush (nz0 v) 16) (pc1 := 41) (pc2 := 49) (st1 := []) rfl (fun h3 => ?_) (fun h3 => ?_)
      · skip
        refine qG.blk 1 (pc' := 44) (ls' := [(0, qush (nz0 v) 16), (0, wrp (17 + 8))]) (st' := []) (w' := w) (n' := 142) rfl ?_
        rw [show wrp (17 + 8) = 25 from wrp_id (by omega) (by omega)]
        refine qG.blk 6 (pc' := 52) (ls' := [(0, qush (qush (nz0 v) 16) 8), (0, 25)]) (st' := [(0, 16), (0, qush (qush (nz0 v) 16) 8)]) (w' := w) (n' := 142) rfl ?_
        refine qG.br (P := 16 < qush (qush (nz0 v) 16) 8) (pc1 := 55) (pc2 := 62) (st1 := []) rfl (fun h4 => ?_) (fun h4 => ?_)
        · skip
          refine qG.blk 1 (pc' := 58) (ls' := [(0, qush (qush (nz0 v) 16) 8), (0, wrp (25 + 4))]) (st' := []) (w' := w) (n' := 142) rfl ?_
          rw [show wrp (25 + 4) = 29 from wrp_id (by omega) (by omega)]
          refine qG.blk 6 (pc' := 64) (ls' := [(0, qush (qush (qush (nz0 v) 16) 8) 4), (0, 29)]) (st' := [(0, 4), (0, qush (qush (qush (nz0 v) 16) 8) 4)]) (w' := w) (n' := 142) rfl ?_
          refine qG.br (P := 4 < qush (qush (qush (nz0 v) 16) 8) 4) (pc1 := 67) (pc2 := 74) (st1 := []) rfl (fun h5 => ?_) (fun h5 => ?_)
          · skip
            refine qG.blk 1 (pc' := 70) (ls' := [(0, qush (qush (qush (nz0 v) 16) 8) 4), (0, wrp (29 + 2))]) (st' := []) (w' := w) (n' := 142) rfl ?_
            rw [show wrp (29 + 2) = 31 from wrp_id (by omega) (by omega)]
            refine qG.blk 9 (pc' := 79) (ls' := [(0, qush (qush (qush (qush (nz0 v) 16) 8) 4) 2), (0, 31)]) (st' := [(0, wrp (31 + (qush (qush (qush (qush (qush (nz0 v) 16) 8) 4) 2) 1)))]) (w' := w) (n' := 142) rfl ?_
            refine qG.ret rfl rfl ?_
            subst hQ9
            exact ⟨by unfold NZ; first | (rw [if_neg h1]; done) | (rw [if_pos h1]; (first | rw [nz1_y h2] | rw [nz1_n h2]); (first | rw [nz2_y h3] | rw [nz2_n h3]); (first | rw [nz3_y h4] | rw [nz3_n h4]); (first | rw [nz4_y h5] | rw [nz4_n h5]); rfl), rfl, rfl⟩
          · skip
            refine qG.blk 5 (pc' := 79) (ls' := [(0, qush (qush (qush (nz0 v) 16) 8) 4), (0, 29)]) (st' := [(0, wrp (29 + (qush (qush (qush (qush (nz0 v) 16) 8) 4) 1)))]) (w' := w) (n' := 142) rfl ?_
            refine qG.ret rfl rfl ?_
            subst hQ9
            exact ⟨by unfold NZ; first | (rw [if_neg h1]; done) | (rw [if_pos h1]; (first | rw [nz1_y h2] | rw [nz1_n h2]); (first | rw [nz2_y h3] | rw [nz2_n h3]); (first | rw [nz3_y h4] | rw [nz3_n h4]); (first | rw [nz4_y h5] | rw [nz4_n h5]); rfl), rfl, rfl⟩
        · skip
          refine qG.blk 2 (pc' := 64) (ls' := [(0, qush (qush (nz0 v) 16) 8), (0, 25)]) (st' := [(0, 4), (0, qush (qush (nz0 v) 16) 8)]) (w' := w) (n' := 142) rfl ?_
          refine qG.br (P := 4 < qush (qush (nz0 v) 16) 8) (pc1 := 67) (pc2 := 74) (st1 := []) rfl (fun h5 => ?_) (fun h5 => ?_)
          · skip
            refine qG.blk 1 (pc' := 70) (ls' := [(0, qush (qush (nz0 v) 16) 8), (0, wrp (25 + 2))]) (st' := []) (w' := w) (n' := 142) rfl ?_
            rw [show wrp (25 + 2) = 27 from wrp_id (by omega) (by omega)]
            refine qG.blk 9 (pc' := 79) (ls' := [(0, qush (qush (qush (nz0 v) 16) 8) 2), (0, 27)]) (st' := [(0, wrp (27 + (qush (qush (qush (qush (nz0 v) 16) 8) 2) 1)))]) (w' := w) (n' := 142) rfl ?_
            refine qG.ret rfl rfl ?_
            subst hQ9
            exact ⟨by unfold NZ; first | (rw [if_neg h1]; done) | (rw [if_pos h1]; (first | rw [nz1_y h2] | rw [nz1_n h2]); (first | rw [nz2_y h3] | rw [nz2_n h3]); (first | rw [nz3_y h4] | rw [nz3_n h4]); (first | rw [nz4_y h5] | rw [nz4_n h5]); rfl), rfl, rfl⟩
          · skip
            refine qG.blk 5 (pc' := 79) (ls' := [(0, qush (qush (nz0 v) 16) 8), (0, 25)]) (st' := [(0, wrp (25 + (qush (qush (qush (nz0 v) 16) 8) 1)))]) (w' := w) (n' := 142) rfl ?_
            refine qG.ret rfl rfl ?_
            subst hQ9
            exact ⟨by unfold NZ; first | (rw [if_neg h1]; done) | (rw [if_pos h1]; (first | rw [nz1_y h2] | rw [nz1_n h2]); (first | rw [nz2_y h3] | rw [nz2_n h3]); (first | rw [nz3_y h4] | rw [nz3_n h4]); (first | rw [nz4_y h5] | rw [nz4_n h5]); rfl), rfl, rfl⟩
      · skip
        refine qG.blk 2 (pc' := 52) (ls' := [(0, qush (nz0 v) 16), (0, 17)]) (st' := [(0, 16), (0, qush (nz0 v) 16)]) (w' := w) (n' := 142) rfl ?_
        refine qG.br (P := 16 < qush (nz0 v) 16) (pc1 := 55) (pc2 := 62) (st1 := []) rfl (fun h4 => ?_) (fun h4 => ?_)
        · skip
          refine qG.blk 1 (pc' := 58) (ls' := [(0, qush (nz0 v) 16), (0, wrp (17 + 4))]) (st' := []) (w' := w) (n' := 142) rfl ?_
          rw [show wrp (17 + 4) = 21 from wrp_id (by omega) (by omega)]
          refine qG.blk 6 (pc' := 64) (ls' := [(0, qush (qush (nz0 v) 16) 4), (0, 21)]) (st' := [(0, 4), (0, qush (qush (nz0 v) 16) 4)]) (w' := w) (n' := 142) rfl ?_
          refine qG.br (P := 4 < qush (qush (nz0 v) 16) 4) (pc1 := 67) (pc2 := 74) (st1 := []) rfl (fun h5 => ?_) (fun h5 => ?_)
          · skip
            refine qG.blk 1 (pc' := 70) (ls' := [(0, qush (qush (nz0 v) 16) 4), (0, wrp (21 + 2))]) (st' := []) (w' := w) (n' := 142) rfl ?_
            rw [show wrp (21 + 2) = 23 from wrp_id (by omega) (by omega)]
            refine qG.blk 9 (pc' := 79) (ls' := [(0, qush (qush (qush (nz0 v) 16) 4) 2), (0, 23)]) (st' := [(0, wrp (23 + (qush (qush (qush (qush (nz0 v) 16) 4) 2) 1)))]) (w' := w) (n' := 142) rfl ?_
            refine qG.ret rfl rfl ?_
            subst hQ9
            exact ⟨by unfold NZ; first | (rw [if_neg h1]; done) | (rw [if_pos h1]; (first | rw [nz1_y h2] | rw [nz1_n h2]); (first | rw [nz2_y h3] | rw [nz2_n h3]); (first | rw [nz3_y h4] | rw [nz3_n h4]); (first | rw [nz4_y h5] | rw [nz4_n h5]); rfl), rfl, rfl⟩
          · skip
            refine qG.blk 5 (pc' := 79) (ls' := [(0, qush (qush (nz0 v) 16) 4), (0, 21)]) (st' := [(0, wrp (21 + (qush (qush (qush (nz0 v) 16) 4) 1)))]) (w' := w) (n' := 142) rfl ?_
            refine qG.ret rfl rfl ?_
            subst hQ9
            exact ⟨by unfold NZ; first | (rw [if_neg h1]; done) | (rw [if_pos h1]; (first | rw [nz1_y h2] | rw [nz1_n h2]); (first | rw [nz2_y h3] | rw [nz2_n h3]); (first | rw [nz3_y h4] | rw [nz3_n h4]); (first | rw [nz4_y h5] | rw [nz4_n h5]); rfl), rfl, rfl⟩
        · skip
          refine qG.blk 2 (pc' := 64) (ls' := [(0, qush (nz0 v) 16), (0, 17)]) (st' := [(0, 4), (0, qush (nz0 v) 16)]) (w' := w) (n' := 142) rfl ?_
          refine qG.br (P := 4 < qush (nz0 v) 16) (pc1 := 67) (pc2 := 74) (st1 := []) rfl (fun h5 => ?_) (fun h5 => ?_)
          · skip
            refine qG.blk 1 (pc' := 70) (ls' := [(0, qush (nz0 v) 16), (0, wrp (17 + 2))]) (st' := []) (w' := w) (n' := 142) rfl ?_
            rw [show wrp (17 + 2) = 19 from wrp_id (by omega) (by omega)]
            refine qG.blk 9 (pc' := 79) (ls' := [(0, qush (qush (nz0 v) 16) 2), (0, 19)]) (st' := [(0, wrp (19 + (qush (qush (qush (nz0 v) 16) 2) 1)))]) (w' := w) (n' := 142) rfl ?_
            refine qG.ret rfl rfl ?_
            subst hQ9
            exact ⟨by unfold NZ; first | (rw [if_neg h1]; done) | (rw [if_pos h1]; (first | rw [nz1_y h2] | rw [nz1_n h2]); (first | rw [nz2_y h3] | rw [nz2_n h3]); (first | rw [nz3_y h4] | rw [nz3_n h4]); (first | rw [nz4_y h5] | rw [nz4_n h5]); rfl), rfl, rfl⟩
          · skip
            refine qG.blk 5 (pc' := 79) (ls' := [(0, qush (nz0 v) 16), (0, 17)]) (st' := [(0, wrp (17 + (qush (qush (nz0 v) 16) 1)))]) (w' := w) (n' := 142) rfl ?_
            refine qG.ret rfl rfl ?_
            subst hQ9
            exact ⟨by unfold NZ; first | (rw [if_neg h1]; done) | (rw [if_pos h1]; (first | rw [nz1_y h2] | rw [nz1_n h2]); (first | rw [nz2_y h3] | rw [nz2_n h3]); (first | rw [nz3_y h4] | rw [nz3_n h4]); (first | rw [nz4_y h5] | rw [nz4_n h5]); rfl), rfl, rfl⟩
    · skip
      rw [hN6] at h2
      refine qG.blk 2 (pc' := 38) (ls' := [(0, nz0 v), (0, 1)]) (st' := [(0, 256), (0, nz0 v)]) (w' := w) (n' := 142) rfl ?_
      refine qG.br (P := 256 < nz0 v) (pc1 := 41) (pc2 := 49) (st1 := []) rfl (fun h3 => ?_) (fun h3 => ?_)
      · skip
        refine qG.blk 1 (pc' := 44) (ls' := [(0, nz0 v), (0, wrp (1 + 8))]) (st' := []) (w' := w) (n' := 142) rfl ?_
        rw [show wrp (1 + 8) = 9 from wrp_id (by omega) (by omega)]
        refine qG.blk 6 (pc' := 52) (ls' := [(0, qush (nz0 v) 8), (0, 9)]) (st' := [(0, 16), (0, qush (nz0 v) 8)]) (w' := w) (n' := 142) rfl ?_
        refine qG.br (P := 16 < qush (nz0 v) 8) (pc1 := 55) (pc2 := 62) (st1 := []) rfl (fun h4 => ?_) (fun h4 => ?_)
        · skip
          refine qG.blk 1 (pc' := 58) (ls' := [(0, qush (nz0 v) 8), (0, wrp (9 + 4))]) (st' := []) (w' := w) (n' := 142) rfl ?_
          rw [show wrp (9 + 4) = 13 from wrp_id (by omega) (by omega)]
          refine qG.blk 6 (pc' := 64) (ls' := [(0, qush (qush (nz0 v) 8) 4), (0, 13)]) (st' := [(0, 4), (0, qush (qush (nz0 v) 8) 4)]) (w' := w) (n' := 142) rfl ?_
          refine qG.br (P := 4 < qush (qush (nz0 v) 8) 4) (pc1 := 67) (pc2 := 74) (st1 := []) rfl (fun h5 => ?_) (fun h5 => ?_)
          · skip
            refine qG.blk 1 (pc' := 70) (ls' := [(0, qush (qush (nz0 v) 8) 4), (0, wrp (13 + 2))]) (st' := []) (w' := w) (n' := 142) rfl ?_
            rw [show wrp (13 + 2) = 15 from wrp_id (by omega) (by omega)]
            refine qG.blk 9 (pc' := 79) (ls' := [(0, qush (qush (qush (nz0 v) 8) 4) 2), (0, 15)]) (st' := [(0, wrp (15 + (qush (qush (qush (qush (nz0 v) 8) 4) 2) 1)))]) (w' := w) (n' := 142) rfl ?_
            refine qG.ret rfl rfl ?_
            subst hQ9
            exact ⟨by unfold NZ; first | (rw [if_neg h1]; done) | (rw [if_pos h1]; (first | rw [nz1_y h2] | rw [nz1_n h2]); (first | rw [nz2_y h3] | rw [nz2_n h3]); (first | rw [nz3_y h4] | rw [nz3_n h4]); (first | rw [nz4_y h5] | rw [nz4_n h5]); rfl), rfl, rfl⟩
          · skip
            refine qG.blk 5 (pc' := 79) (ls' := [(0, qush (qush (nz0 v) 8) 4), (0, 13)]) (st' := [(0, wrp (13 + (qush (qush (qush (nz0 v) 8) 4) 1)))]) (w' := w) (n' := 142) rfl ?_
            refine qG.ret rfl rfl ?_
            subst hQ9
            exact ⟨by unfold NZ; first | (rw [if_neg h1]; done) | (rw [if_pos h1]; (first | rw [nz1_y h2] | rw [nz1_n h2]); (first | rw [nz2_y h3] | rw [nz2_n h3]); (first | rw [nz3_y h4] | rw [nz3_n h4]); (first | rw [nz4_y h5] | rw [nz4_n h5]); rfl), rfl, rfl⟩
        · skip
          refine qG.blk 2 (pc' := 64) (ls' := [(0, qush (nz0 v) 8), (0, 9)]) (st' := [(0, 4), (0, qush (nz0 v) 8)]) (w' := w) (n' := 142) rfl ?_
          refine qG.br (P := 4 < qush (nz0 v) 8) (pc1 := 67) (pc2 := 74) (st1 := []) rfl (fun h5 => ?_) (fun h5 => ?_)
          · skip
            refine qG.blk 1 (pc' := 70) (ls' := [(0, qush (nz0 v) 8), (0, wrp (9 + 2))]) (st' := []) (w' := w) (n' := 142) rfl ?_
            rw [show wrp (9 + 2) = 11 from wrp_id (by omega) (by omega)]
            refine qG.blk 9 (pc' := 79) (ls' := [(0, qush (qush (nz0 v) 8) 2), (0, 11)]) (st' := [(0, wrp (11 + (qush (qush (qush (nz0 v) 8) 2) 1)))]) (w' := w) (n' := 142) rfl ?_
            refine qG.ret rfl rfl ?_
            subst hQ9
            exact ⟨by unfold NZ; first | (rw [if_neg h1]; done) | (rw [if_pos h1]; (first | rw [nz1_y h2] | rw [nz1_n h2]); (first | rw [nz2_y h3] | rw [nz2_n h3]); (first | rw [nz3_y h4] | rw [nz3_n h4]); (first | rw [nz4_y h5] | rw [nz4_n h5]); rfl), rfl, rfl⟩
          · skip
            refine qG.blk 5 (pc' := 79) (ls' := [(0, qush (nz0 v) 8), (0, 9)]) (st' := [(0, wrp (9 + (qush (qush (nz0 v) 8) 1)))]) (w' := w) (n' := 142) rfl ?_
            refine qG.ret rfl rfl ?_
            subst hQ9
            exact ⟨by unfold NZ; first | (rw [if_neg h1]; done) | (rw [if_pos h1]; (first | rw [nz1_y h2] | rw [nz1_n h2]); (first | rw [nz2_y h3] | rw [nz2_n h3]); (first | rw [nz3_y h4] | rw [nz3_n h4]); (first | rw [nz4_y h5] | rw [nz4_n h5]); rfl), rfl, rfl⟩
      · skip
        refine qG.blk 2 (pc' := 52) (ls' := [(0, nz0 v), (0, 1)]) (st' := [(0, 16), (0, nz0 v)]) (w' := w) (n' := 142) rfl ?_
        refine qG.br (P := 16 < nz0 v) (pc1 := 55) (pc2 := 62) (st1 := []) rfl (fun h4 => ?_) (fun h4 => ?_)
        · skip
          refine qG.blk 1 (pc' := 58) (ls' := [(0, nz0 v), (0, wrp (1 + 4))]) (st' := []) (w' := w) (n' := 142) rfl ?_
          rw [show wrp (1 + 4) = 5 from wrp_id (by omega) (by omega)]
          refine qG.blk 6 (pc' := 64) (ls' := [(0, qush (nz0 v) 4), (0, 5)]) (st' := [(0, 4), (0, qush (nz0 v) 4)]) (w' := w) (n' := 142) rfl ?_
          refine qG.br (P := 4 < qush (nz0 v) 4) (pc1 := 67) (pc2 := 74) (st1 := []) rfl (fun h5 => ?_) (fun h5 => ?_)
          · skip
            refine qG.blk 1 (pc' := 70) (ls' := [(0, qush (nz0 v) 4), (0, wrp (5 + 2))]) (st' := []) (w' := w) (n' := 142) rfl ?_
            rw [show wrp (5 + 2) = 7 from wrp_id (by omega) (by omega)]
            refine qG.blk 9 (pc' := 79) (ls' := [(0, qush (qush (nz0 v) 4) 2), (0, 7)]) (st' := [(0, wrp (7 + (qush (qush (qush (nz0 v) 4) 2) 1)))]) (w' := w) (n' := 142) rfl ?_
            refine qG.ret rfl rfl ?_
            subst hQ9
            exact ⟨by unfold NZ; first | (rw [if_neg h1]; done) | (rw [if_pos h1]; (first | rw [nz1_y h2] | rw [nz1_n h2]); (first | rw [nz2_y h3] | rw [nz2_n h3]); (first | rw [nz3_y h4] | rw [nz3_n h4]); (first | rw [nz4_y h5] | rw [nz4_n h5]); rfl), rfl, rfl⟩
          · skip
            refine qG.blk 5 (pc' := 79) (ls' := [(0, qush (nz0 v) 4), (0, 5)]) (st' := [(0, wrp (5 + (qush (qush (nz0 v) 4) 1)))]) (w' := w) (n' := 142) rfl ?_
            refine qG.ret rfl rfl ?_
            subst hQ9
            exact ⟨by unfold NZ; first | (rw [if_neg h1]; done) | (rw [if_pos h1]; (first | rw [nz1_y h2] | rw [nz1_n h2]); (first | rw [nz2_y h3] | rw [nz2_n h3]); (first | rw [nz3_y h4] | rw [nz3_n h4]); (first | rw [nz4_y h5] | rw [nz4_n h5]); rfl), rfl, rfl⟩
        · skip
          refine qG.blk 2 (pc' := 64) (ls' := [(0, nz0 v), (0, 1)]) (st' := [(0, 4), (0, nz0 v)]) (w' := w) (n' := 142) rfl ?_
          refine qG.br (P := 4 < nz0 v) (pc1 := 67) (pc2 := 74) (st1 := []) rfl (fun h5 => ?_) (fun h5 => ?_)
          · skip
            refine qG.blk 1 (pc' := 70) (ls' := [(0, nz0 v), (0, wrp (1 + 2))]) (st' := []) (w' := w) (n' := 142) rfl ?_
            rw [show wrp (1 + 2) = 3 from wrp_id (by omega) (by omega)]
            refine qG.blk 9 (pc' := 79) (ls' := [(0, qush (nz0 v) 2), (0, 3)]) (st' := [(0, wrp (3 + (qush (qush (nz0 v) 2) 1)))]) (w' := w) (n' := 142) rfl ?_
            refine qG.ret rfl rfl ?_
            subst hQ9
            exact ⟨by unfold NZ; first | (rw [if_neg h1]; done) | (rw [if_pos h1]; (first | rw [nz1_y h2] | rw [nz1_n h2]); (first | rw [nz2_y h3] | rw [nz2_n h3]); (first | rw [nz3_y h4] | rw [nz3_n h4]); (first | rw [nz4_y h5] | rw [nz4_n h5]); rfl), rfl, rfl⟩
          · skip
            refine qG.blk 5 (pc' := 79) (ls' := [(0, nz0 v), (0, 1)]) (st' := [(0, wrp (1 + (qush (nz0 v) 1)))]) (w' := w) (n' := 142) rfl ?_
            refine qG.ret rfl rfl ?_
            subst hQ9
            exact ⟨by unfold NZ; first | (rw [if_neg h1]; done) | (rw [if_pos h1]; (first | rw [nz1_y h2] | rw [nz1_n h2]); (first | rw [nz2_y h3] | rw [nz2_n h3]); (first | rw [nz3_y h4] | rw [nz3_n h4]); (first | rw [nz4_y h5] | rw [nz4_n h5]); rfl), rfl, rfl⟩
  · skip
    refine qG.blk 3 (pc' := 16) (ls' := [(0, nz0 v), (9, 0)]) (st' := [(0, qand (nz0 v) 32)]) (w' := w) (n' := 142) rfl ?_
    refine qG.ret rfl rfl ?_
    subst hQ9
    exact ⟨by unfold NZ; first | (rw [if_neg h1]; done) | (rw [if_pos h1]; (first | rw [nz1_y h2] | rw [nz1_n h2]); (first | rw [nz2_y h3] | rw [nz2_n h3]); (first | rw [nz3_y h4] | rw [nz3_n h4]); (first | rw [nz4_y h5] | rw [nz4_n h5]); rfl), rfl, rfl⟩
theorem K_next {d : Nat} (hd : 1 ≤ d) (v : Int) (w : qW) : qG none d 96 0 [(0, v), (9, 0), (9, 0)] [] w 142 (fun (r : qV) (w1 : qW) (n1 : Nat) => r = (0, NX v) ∧ w1 = w ∧ n1 = 142) := by
  generalize hQ9 : (fun (r : qV) (w1 : qW) (n1 : Nat) => r = (0, NX v) ∧ w1 = w ∧ n1 = 142) = Q9
  obtain ⟨d, rfl⟩ : ∃ d9, d = d9 + 1 := ⟨d - 1, by omega⟩
  refine qG.blk 1 (pc' := 1) (ls' := [(0, v), (9, 0), (9, 0)]) (st' := [(0, v)]) (w' := w) (n' := 142) rfl ?_
  refine qG.call (t := 300) (na := 1) (sk := 0) (md := 0) (ls1 := [(0, v)]) (r1 := []) rfl rfl rfl rfl rfl (K_low (by omega) v w) ?_
  rintro _ w7 _ ⟨rfl, hw7, rfl⟩
  rw [hw7]
  show qG none (d + 1) 96 4 [(0, v), (9, 0), (9, 0)] [(0, qand v (wrp (-v)))] w 142 Q9
  refine qG.blk 4 (pc' := 8) (ls' := [(0, v), (0, qand v (wrp (-v))), (9, 0)]) (st' := [(0, wrp (v + (qand v (wrp (-v)))))]) (w' := w) (n' := 142) rfl ?_
  refine qG.blk 7 (pc' := 15) (ls' := [(0, v), (0, qand v (wrp (-v))), (0, wrp (v + (qand v (wrp (-v)))))]) (st' := [(0, v), (0, 2), (0, qxor v (wrp (v + (qand v (wrp (-v)))))), (0, wrp (v + (qand v (wrp (-v)))))]) (w' := w) (n' := 142) rfl ?_
  refine qG.call (t := 301) (na := 1) (sk := 0) (md := 0) (ls1 := [(0, v), (9, 0)]) (r1 := [(0, 2), (0, qxor v (wrp (v + (qand v (wrp (-v)))))), (0, wrp (v + (qand v (wrp (-v)))))]) rfl rfl rfl rfl rfl (K_NZ (by omega) v w) ?_
  rintro _ w7 _ ⟨rfl, hw7, rfl⟩
  rw [hw7]
  show qG none (d + 1) 96 18 [(0, v), (0, qand v (wrp (-v))), (0, wrp (v + (qand v (wrp (-v)))))] [(0, NZ v), (0, 2), (0, qxor v (wrp (v + (qand v (wrp (-v)))))), (0, wrp (v + (qand v (wrp (-v)))))] w 142 Q9
  refine qG.blk 1 (pc' := 19) (ls' := [(0, v), (0, qand v (wrp (-v))), (0, wrp (v + (qand v (wrp (-v)))))]) (st' := [(0, wrp (2 + (NZ v))), (0, qxor v (wrp (v + (qand v (wrp (-v)))))), (0, wrp (v + (qand v (wrp (-v)))))]) (w' := w) (n' := 142) rfl ?_
  refine qG.blk 2 (pc' := 21) (ls' := [(0, v), (0, qand v (wrp (-v))), (0, wrp (v + (qand v (wrp (-v)))))]) (st' := [(0, qor (wrp (v + (qand v (wrp (-v))))) (qush (qxor v (wrp (v + (qand v (wrp (-v)))))) (wrp (2 + (NZ v)))))]) (w' := w) (n' := 142) rfl ?_
  refine qG.ret rfl rfl ?_
  subst hQ9
  exact ⟨rfl, rfl, rfl⟩
def fsd (P : Nat → Int) (fr v : Int) : Bool := decide (qand v (qxor fr (-1)) = 0) && decide (hxR P v 3 = v)
def fcnt (P : Nat → Int) (fr : Int) : Nat → Int → Nat → Nat
  | 0, _, c => c
  | n + 1, v, c => if v ≤ 65535 then fcnt P fr n (NX v) (bif fsd P fr v && Nat.blt c 180 then c + 1 else c) else c
theorem fcnt_end {P : Nat → Int} {fr v : Int} {n c : Nat} (h : n = 0 ∨ ¬ v ≤ 65535) : fcnt P fr n v c = c := by
  rcases h with h | h
  · subst h; rfl
  · cases n
    · rfl
    · exact if_neg h
theorem fcnt_go {P : Nat → Int} {fr v : Int} {n c : Nat} (h : v ≤ 65535) : fcnt P fr (n + 1) v c = fcnt P fr n (NX v) (bif fsd P fr v && Nat.blt c 180 then c + 1 else c) := if_pos h
theorem fsd_n {P : Nat → Int} {fr v : Int} (h : ¬ qand v (qxor fr (-1)) = 0 ∨ ¬ hxR P v 3 = v) : fsd P fr v = false := by
  unfold fsd
  rcases h with h | h
  · rw [decide_eq_false h]; rfl
  · rw [decide_eq_false h, Bool.and_false]
theorem fsd_y {P : Nat → Int} {fr v : Int} (h : qand v (qxor fr (-1)) = 0) (h2 : hxR P v 3 = v) : fsd P fr v = true := by unfold fsd; rw [decide_eq_true h, decide_eq_true h2]; rfl
theorem fsd_c {P P' : Nat → Int} {fr v : Int} (h : ∀ j, j < 16 → P j = P' j) : fsd P fr v = fsd P' fr v := by unfold fsd; rw [hxR_c h 3]
theorem fcnt_c {P P' : Nat → Int} {fr : Int} (h : ∀ j, j < 16 → P j = P' j) : ∀ (n : Nat) (v : Int) (c : Nat), fcnt P fr n v c = fcnt P' fr n v c
  | 0, _, _ => rfl
  | n + 1, v, c => by
    by_cases z : v ≤ 65535
    · rw [fcnt_go z, fcnt_go z, fsd_c h, fcnt_c h n]
    · rw [fcnt_end (.inr z), fcnt_end (.inr z)]
theorem fs_nn {fr v : Int} (h1 : v ≤ 65535) (h2 : -2147483648 ≤ v) (h3 : 0 ≤ fr) (h4 : fr ≤ 65535) (h : qand v (qxor fr (-1)) = 0) : 0 ≤ v := by
  by_cases z : 0 ≤ v
  · exact z
  · exfalso
    have e := qxor_m1 (x := fr) (by omega) (by omega)
    rw [e] at h
    have := (yand_neg (x := v) (c := -1 - fr) (by omega) h2 (by omega) (by omega)).2
    rw [h] at this
    have : (0 : Int) ≤ -1 := this
    omega
theorem NX_in (v : Int) : -2147483648 ≤ NX v := (y32_i _).1
/-- the loop's state: set v, count c -/
def fsI (P : Nat → Int) (fr v0 : Int) (T : Nat) (w : qW) (i : Nat) (v : Int) (w9 : qW) : Prop := ∃ c : Nat, w9 24 3 = (c : Int) ∧ c ≤ 180 ∧ fcnt P fr (1820 - i) v c = T ∧ ((i = 0 ∧ v = v0 ∧ c = 0) ∨ (0 < c ∧ w9 25 0 = v0)) ∧ (∀ p j, p ≠ 25 → ¬ (p = 24 ∧ j = 3) → w9 p j = w p j) ∧ yInv zgf zga zra zSp w9 ∧ -2147483648 ≤ v
theorem fsI.init {P : Nat → Int} {fr v0 : Int} {T : Nat} {w : qW} (hI : yInv zgf zga zra zSp w) (hT : fcnt P fr 1820 v0 0 = T) (hv : -2147483648 ≤ v0) : fsI P fr v0 T w 0 v0 (qup w 24 3 0) := by
  refine ⟨0, rfl, by omega, hT, .inl ⟨rfl, rfl, rfl⟩, fun p j h1 h2 => ?_, zup_f hI (b := (0, 180)) rfl rfl rfl ⟨by decide, by decide⟩, hv⟩
  by_cases hp : p = 24
  · subst hp; rw [qup_j (fun z => h2 ⟨rfl, z⟩)]
  · rw [qup_ne hp]
theorem fsI.no {P : Nat → Int} {fr v0 v : Int} {T i cc : Nat} {w w9 : qW} (hi : i < 1820) (hcc : w9 24 3 = (cc : Int)) (hc : cc ≤ 180) (hT : fcnt P fr (1820 - i) v cc = T) (h0 : (i = 0 ∧ v = v0 ∧ cc = 0) ∨ (0 < cc ∧ w9 25 0 = v0)) (hfr : ∀ p j, p ≠ 25 → ¬ (p = 24 ∧ j = 3) → w9 p j = w p j) (hI : yInv zgf zga zra zSp w9) (hv : v ≤ 65535) (hD0 : fsd P fr v0 = true) (hd : fsd P fr v = false ∨ ¬ cc < 180) : fsI P fr v0 T w (i + 1) (NX v) w9 := by
  refine ⟨cc, hcc, hc, ?_, ?_, hfr, hI, NX_in v⟩
  · rw [show 1820 - i = (1820 - (i + 1)) + 1 by omega, fcnt_go hv] at hT
    have e : (bif fsd P fr v && Nat.blt cc 180 then cc + 1 else cc) = cc := by
      rcases hd with hd | hd
      · rw [hd]; rfl
      · rw [ybf (fun z => hd (Nat.blt_eq.mp z)), Bool.and_false]; rfl
    rw [e] at hT
    exact hT
  · rcases h0 with ⟨h1, h2, h3⟩ | h0
    · rcases hd with hd | hd
      · rw [h2, hD0] at hd; cases hd
      · omega
    · exact .inr h0
theorem fsI.yes {P : Nat → Int} {fr v0 v : Int} {T i cc : Nat} {w w9 : qW} (hi : i < 1820) (hT : fcnt P fr (1820 - i) v cc = T) (h0 : (i = 0 ∧ v = v0 ∧ cc = 0) ∨ (0 < cc ∧ w9 25 0 = v0)) (hfr : ∀ p j, p ≠ 25 → ¬ (p = 24 ∧ j = 3) → w9 p j = w p j) (hI : yInv zgf zga zra zSp w9) (hfrr : 0 ≤ fr ∧ fr ≤ 65535) (hv : v ≤ 65535) (hv2 : -2147483648 ≤ v) (hc : cc < 180) (hw0 : qand v (qxor fr (-1)) = 0) (hh : hxR P v 3 = v) : fsI P fr v0 T w (i + 1) (NX v) (qup (qup w9 25 cc v) 24 3 ((cc + 1 : Nat) : Int)) := by
  have hnn := fs_nn hv hv2 hfrr.1 hfrr.2 hw0
  refine ⟨cc + 1, rfl, by omega, ?_, ?_, fun p j h1 h2 => ?_, ?_, NX_in v⟩
  · rw [show 1820 - i = (1820 - (i + 1)) + 1 by omega, fcnt_go hv, fsd_y hw0 hh, Nat.blt_eq.mpr hc] at hT
    exact hT
  · refine .inr ⟨by omega, ?_⟩
    rw [qup_ne (by decide)]
    by_cases z : cc = 0
    · subst z
      rw [qup_k]
      rcases h0 with h0 | h0
      · exact h0.2.1
      · omega
    · rw [qup_j (fun y => z y.symm)]
      rcases h0 with h0 | h0
      · omega
      · exact h0.2
  · by_cases hp : p = 24
    · subst hp
      rw [qup_j (fun z => h2 ⟨rfl, z⟩), qup_ne (by decide)]
      exact hfr 24 j (by decide) h2
    · rw [qup_ne hp, qup_ne h1]; exact hfr p j h1 h2
  · exact zup_f (zup_a hI (b := (0, 65535)) rfl rfl ⟨hnn, hv⟩) (b := (0, 180)) rfl rfl rfl ⟨by show (0 : Int) ≤ _; omega, by show _ ≤ (180 : Int); omega⟩
theorem fsI.fin {P : Nat → Int} {fr v0 v : Int} {T i cc : Nat} {w9 : qW} (hcc : w9 24 3 = (cc : Int)) (hT : fcnt P fr (1820 - i) v cc = T) (h0 : (i = 0 ∧ v = v0 ∧ cc = 0) ∨ (0 < cc ∧ w9 25 0 = v0)) (he : 1820 - i = 0 ∨ ¬ v ≤ 65535) : w9 24 3 = (T : Int) ∧ (0 < T → w9 25 0 = v0) := by
  rw [fcnt_end he] at hT
  subst hT
  refine ⟨hcc, fun hp => ?_⟩
  rcases h0 with h0 | h0
  · omega
  · exact h0.2
theorem K_nextTo_64 {d : Nat} (hd : 0 ≤ d) (v : Int) (w : qW) (hI : yInv zgf zga zra zSp w) : qG none d 28 0 [(2, 64), (0, v), (9, 0), (9, 0)] [] w 142 (fun (r : qV) (w1 : qW) (n1 : Nat) => r = (0, ntF (fun s => w 65 s) v 16) ∧ w1 = w ∧ n1 = 142) := by
  generalize hQ9 : (fun (r : qV) (w1 : qW) (n1 : Nat) => r = (0, ntF (fun s => w 65 s) v 16) ∧ w1 = w ∧ n1 = 142) = Q9
  refine qG.blk 4 (pc' := 4) (ls' := [(2, 64), (0, v), (0, 0), (0, 0)]) (st' := []) (w' := w) (n' := 142) rfl ?_
  have L4 : ∀ (m9 : Nat) (s : Nat) (m : Int), 16 - s = m9 → (s ≤ 16 ∧ m = ntF (fun s => w 65 s) v s) → qG none d 28 4 [(2, 64), (0, v), (0, m), (0, ((s : Nat) : Int))] [] w 142 Q9 := by
    intro m9
    induction m9 using Nat.strongRecOn with
    | ind m9 ih4 =>
    intro s m hm4 hI4
    refine qG.blk 2 (pc' := 7) (ls' := [(2, 64), (0, v), (0, m), (0, ((s : Nat) : Int))]) (st' := [(0, 16), (0, ((s : Nat) : Int))]) (w' := w) (n' := 142) rfl ?_
    refine qG.br (P := ((s : Nat) : Int) < 16) (pc1 := 10) (pc2 := 33) (st1 := []) rfl (fun h1 => ?_) (fun h1 => ?_)
    · skip
      refine qG.blk 5 (pc' := 15) (ls' := [(2, 64), (0, v), (0, m), (0, ((s : Nat) : Int))]) (st' := [(0, qand (qush v ((s : Nat) : Int)) 1)]) (w' := w) (n' := 142) rfl ?_
      refine qG.br (P := qand (qush v ((s : Nat) : Int)) 1 = 0) (pc1 := 27) (pc2 := 18) (st1 := []) rfl (fun hb => ?_) (fun hb => ?_)
      · skip
        refine qG.blk 1 (pc' := 30) (ls' := [(2, 64), (0, v), (0, m), (0, wrp (((s : Nat) : Int) + 1))]) (st' := []) (w' := w) (n' := 142) rfl ?_
        rw [show wrp (((s : Nat) : Int) + 1) = ((s + 1 : Nat) : Int) from wrp_id (by omega) (by omega)]
        refine qG.blk 1 (pc' := 4) (ls' := [(2, 64), (0, v), (0, m), (0, ((s + 1 : Nat) : Int))]) (st' := []) (w' := w) (n' := 142) rfl ?_
        exact ih4 _ (by omega) (s + 1) (m) rfl (⟨by omega, by first | (rw [ntF_y hb]; exact hI4.2) | (rw [ntF_n hb, ← hI4.2])⟩)
      · skip
        refine qG.blk 3 (pc' := 23) (ls' := [(2, 64), (0, v), (0, m), (0, ((s : Nat) : Int))]) (st' := [(2, w 64 2), (0, m)]) (w' := w) (n' := 142) rfl ?_
        rw [show w 64 2 = 65 from zref hI rfl rfl]
        refine qG.blk 1 (pc' := 24) (ls' := [(2, 64), (0, v), (0, m), (0, ((s : Nat) : Int))]) (st' := [(0, ((s : Nat) : Int)), (2, 65), (0, m)]) (w' := w) (n' := 142) rfl ?_
        refine qG.ar (P := 0 ≤ ((s : Nat) : Int) ∧ ((s : Nat) : Int) < ((16 : Nat) : Int)) (P2 := 0 < (65 : Int) ∧ (65 : Int) ≤ ((142 : Nat) : Int)) (pc' := 25) (ls' := [(2, 64), (0, v), (0, m), (0, ((s : Nat) : Int))]) (st' := [(0, w 65 s), (0, m)]) (w' := w) (n' := 142) rfl (by omega) (by decide) ?_
        refine qG.blk 3 (pc' := 30) (ls' := [(2, 64), (0, v), (0, qor m (w 65 s)), (0, wrp (((s : Nat) : Int) + 1))]) (st' := []) (w' := w) (n' := 142) rfl ?_
        rw [show wrp (((s : Nat) : Int) + 1) = ((s + 1 : Nat) : Int) from wrp_id (by omega) (by omega)]
        refine qG.blk 1 (pc' := 4) (ls' := [(2, 64), (0, v), (0, qor m (w 65 s)), (0, ((s + 1 : Nat) : Int))]) (st' := []) (w' := w) (n' := 142) rfl ?_
        exact ih4 _ (by omega) (s + 1) (qor m (w 65 s)) rfl (⟨by omega, by first | (rw [ntF_y hb]; exact hI4.2) | (rw [ntF_n hb, ← hI4.2])⟩)
    · skip
      refine qG.blk 1 (pc' := 34) (ls' := [(2, 64), (0, v), (0, m), (0, ((s : Nat) : Int))]) (st' := [(0, m)]) (w' := w) (n' := 142) rfl ?_
      refine qG.ret rfl rfl ?_
      subst hQ9
      exact ⟨by rw [hI4.2, show s = 16 by omega], rfl, rfl⟩
  exact L4 _ (0) (0) rfl (⟨by omega, rfl⟩)
theorem K_hangT_64 {d : Nat} (hd : 1 ≤ d) (v : Int) (w : qW) (hI : yInv zgf zga zra zSp w) : qG none d 29 0 [(2, 64), (0, v), (9, 0), (9, 0)] [] w 142 (fun (r : qV) (w1 : qW) (n1 : Nat) => r = (0, if hxR (fun s => w 65 s) v 3 = v then 1 else 0) ∧ w1 = w ∧ n1 = 142) := by
  generalize hQ9 : (fun (r : qV) (w1 : qW) (n1 : Nat) => r = (0, if hxR (fun s => w 65 s) v 3 = v then 1 else 0) ∧ w1 = w ∧ n1 = 142) = Q9
  obtain ⟨d, rfl⟩ : ∃ d9, d = d9 + 1 := ⟨d - 1, by omega⟩
  refine qG.blk 1 (pc' := 1) (ls' := [(2, 64), (0, v), (9, 0), (9, 0)]) (st' := [(0, v)]) (w' := w) (n' := 142) rfl ?_
  refine qG.call (t := 300) (na := 1) (sk := 0) (md := 0) (ls1 := [(0, v)]) (r1 := []) rfl rfl rfl rfl rfl (K_low (by omega) v w) ?_
  rintro _ w7 _ ⟨rfl, hw7, rfl⟩
  rw [hw7]
  show qG none (d + 1) 29 4 [(2, 64), (0, v), (9, 0), (9, 0)] [(0, qand v (wrp (-v)))] w 142 Q9
  refine qG.blk 3 (pc' := 7) (ls' := [(2, 64), (0, v), (0, qand v (wrp (-v))), (0, 1)]) (st' := []) (w' := w) (n' := 142) rfl ?_
  have L7 : ∀ (m9 : Nat) (i : Nat) (m : Int), 4 - i = m9 → (1 ≤ i ∧ i ≤ 4 ∧ m = hxR (fun s => w 65 s) v (i - 1)) → qG none (d + 1) 29 7 [(2, 64), (0, v), (0, m), (0, ((i : Nat) : Int))] [] w 142 Q9 := by
    intro m9
    induction m9 using Nat.strongRecOn with
    | ind m9 ih7 =>
    intro i m hm7 hI7
    refine qG.blk 2 (pc' := 9) (ls' := [(2, 64), (0, v), (0, m), (0, ((i : Nat) : Int))]) (st' := [(0, 4), (0, ((i : Nat) : Int))]) (w' := w) (n' := 142) rfl ?_
    refine qG.br (P := ((i : Nat) : Int) < 4) (pc1 := 12) (pc2 := 28) (st1 := []) rfl (fun hi4 => ?_) (fun hi4 => ?_)
    · skip
      refine qG.blk 3 (pc' := 15) (ls' := [(2, 64), (0, v), (0, m), (0, ((i : Nat) : Int))]) (st' := [(0, m), (2, 64), (0, m)]) (w' := w) (n' := 142) rfl ?_
      refine qG.call (t := 28) (na := 2) (sk := 1) (md := 1) (ls1 := [(2, 64), (0, m), (9, 0), (9, 0)]) (r1 := [(0, m)]) rfl rfl rfl rfl rfl (K_nextTo_64 (by omega) m w hI) ?_
      rintro _ w7 _ ⟨rfl, hw7, rfl⟩
      rw [hw7]
      show qG none (d + 1) 29 18 [(2, 64), (0, v), (0, m), (0, ((i : Nat) : Int))] [(0, ntF (fun s => w 65 s) m 16), (0, m)] w 142 Q9
      refine qG.blk 5 (pc' := 25) (ls' := [(2, 64), (0, v), (0, qor m (qand (ntF (fun s => w 65 s) m 16) v)), (0, wrp (((i : Nat) : Int) + 1))]) (st' := []) (w' := w) (n' := 142) rfl ?_
      rw [show wrp (((i : Nat) : Int) + 1) = ((i + 1 : Nat) : Int) from wrp_id (by omega) (by omega)]
      refine qG.blk 1 (pc' := 7) (ls' := [(2, 64), (0, v), (0, qor m (qand (ntF (fun s => w 65 s) m 16) v)), (0, ((i + 1 : Nat) : Int))]) (st' := []) (w' := w) (n' := 142) rfl ?_
      exact ih7 _ (by omega) (i + 1) (qor m (qand (ntF (fun s => w 65 s) m 16) v)) rfl (⟨by omega, by omega, by rw [hI7.2.2, show i + 1 - 1 = (i - 1) + 1 by omega]; rfl⟩)
    · skip
      refine qG.blk 2 (pc' := 30) (ls' := [(2, 64), (0, v), (0, m), (0, ((i : Nat) : Int))]) (st' := [(0, v), (0, m)]) (w' := w) (n' := 142) rfl ?_
      refine qG.br (P := m = v) (pc1 := 33) (pc2 := 37) (st1 := []) rfl (fun hh => ?_) (fun hh => ?_)
      · skip
        refine qG.blk 2 (pc' := 38) (ls' := [(2, 64), (0, v), (0, m), (0, ((i : Nat) : Int))]) (st' := [(0, 1)]) (w' := w) (n' := 142) rfl ?_
        refine qG.ret rfl (by first | rfl | exact decide_eq_true (by omega)) ?_
        subst hQ9
        exact ⟨by rw [← (show m = hxR (fun s => w 65 s) v 3 from by rw [hI7.2.2, show i - 1 = 3 by omega])]; first | (rw [if_pos hh]; done) | (rw [if_neg hh]; done), rfl, rfl⟩
      · skip
        refine qG.blk 1 (pc' := 38) (ls' := [(2, 64), (0, v), (0, m), (0, ((i : Nat) : Int))]) (st' := [(0, 0)]) (w' := w) (n' := 142) rfl ?_
        refine qG.ret rfl (by first | rfl | exact decide_eq_true (by omega)) ?_
        subst hQ9
        exact ⟨by rw [← (show m = hxR (fun s => w 65 s) v 3 from by rw [hI7.2.2, show i - 1 = 3 by omega])]; first | (rw [if_pos hh]; done) | (rw [if_neg hh]; done), rfl, rfl⟩
  exact L7 _ (1) (qand v (wrp (-v))) rfl (⟨by omega, by omega, rfl⟩)
theorem K_free_64 {d : Nat} (hd : 0 ≤ d) (w : qW) : qG none d 25 0 [(2, 64)] [] w 142 (fun (r : qV) (w1 : qW) (n1 : Nat) => r = (0, qand 65535 (qxor (w 64 0) (-1))) ∧ w1 = w ∧ n1 = 142) := by
  generalize hQ9 : (fun (r : qV) (w1 : qW) (n1 : Nat) => r = (0, qand 65535 (qxor (w 64 0) (-1))) ∧ w1 = w ∧ n1 = 142) = Q9
  refine qG.blk 6 (pc' := 9) (ls' := [(2, 64)]) (st' := [(0, qand 65535 (qxor (w 64 0) (-1)))]) (w' := w) (n' := 142) rfl ?_
  refine qG.ret rfl rfl ?_
  subst hQ9
  exact ⟨rfl, rfl, rfl⟩
theorem K_hangT2_64 {P : Nat → Int} {d : Nat} (hd : 1 ≤ d) (v : Int) (w : qW) (hI : yInv zgf zga zra zSp w) (hP : ∀ s, s < 16 → w 65 s = P s) : qG none d 29 0 [(2, 64), (0, v), (9, 0), (9, 0)] [] w 142 (fun r w1 n1 => r = (0, if hxR P v 3 = v then 1 else 0) ∧ w1 = w ∧ n1 = 142) := by
  rw [← hxR_c (P := fun s => w 65 s) hP 3]; exact K_hangT_64 hd v w hI
theorem K_findSets_64 {d : Nat} (hd : 2 ≤ d) (k : Nat) (hk1 : 1 ≤ k) (hk2 : k ≤ 4) (w : qW) (hI : yInv zgf zga zra zSp w) (hk0 : w 24 1 = ((k : Nat) : Int)) (fr : Int) (hfr0 : qand 65535 (qxor (w 64 0) (-1)) = fr) (v0 : Int) (hv : wrp (qshl 1 ((k : Nat) : Int) - 1) = v0) (hv0 : -2147483648 ≤ v0) (T : Nat) (hT0 : fcnt (fun s => w 65 s) fr 1820 v0 0 = T) (hfrr : 0 ≤ fr ∧ fr ≤ 65535) (hv65 : v0 ≤ 65535) (hD0 : fsd (fun s => w 65 s) fr v0 = true) : qG none d 95 0 [(2, 24), (2, 64), (9, 0), (9, 0), (9, 0)] [] w 142 (fun (r : qV) (w1 : qW) (n1 : Nat) => r = (9, 0) ∧ n1 = 142 ∧ w1 24 3 = (T : Int) ∧ (0 < T → w1 25 0 = v0) ∧ (∀ p j, p ≠ 25 → ¬ (p = 24 ∧ j = 3) → w1 p j = w p j) ∧ yInv zgf zga zra zSp w1) := by
  generalize hQ9 : (fun (r : qV) (w1 : qW) (n1 : Nat) => r = (9, 0) ∧ n1 = 142 ∧ w1 24 3 = (T : Int) ∧ (0 < T → w1 25 0 = v0) ∧ (∀ p j, p ≠ 25 → ¬ (p = 24 ∧ j = 3) → w1 p j = w p j) ∧ yInv zgf zga zra zSp w1) = Q9
  obtain ⟨N1, hN1⟩ : ∃ N : Int, N = 180 := ⟨_, rfl⟩
  obtain ⟨N18, hN18⟩ : ∃ N : Int, N = 1820 := ⟨_, rfl⟩
  obtain ⟨N65, hN65⟩ : ∃ N : Int, N = 65535 := ⟨_, rfl⟩
  obtain ⟨d, rfl⟩ : ∃ d9, d = d9 + 1 := ⟨d - 1, by omega⟩
  refine qG.blk 4 (pc' := 6) (ls' := [(2, 24), (2, 64), (9, 0), (9, 0), (9, 0)]) (st' := [(2, 64)]) (w' := (qup w 24 3 0)) (n' := 142) rfl ?_
  refine qG.call (t := 25) (na := 1) (sk := 1) (md := 1) (ls1 := [(2, 64)]) (r1 := []) rfl rfl rfl rfl rfl (K_free_64 (by omega) (qup w 24 3 0)) ?_
  rintro _ w7 _ ⟨rfl, hw7, rfl⟩
  rw [hw7, show qand 65535 (qxor ((qup w 24 3 0) 64 0) (-1)) = fr from hfr0]
  show qG none (d + 1) 95 9 [(2, 24), (2, 64), (9, 0), (9, 0), (9, 0)] [(0, fr)] (qup w 24 3 0) 142 Q9
  refine qG.blk 4 (pc' := 15) (ls' := [(2, 24), (2, 64), (0, fr), (9, 0), (9, 0)]) (st' := [(0, w 24 1), (0, 1)]) (w' := (qup w 24 3 0)) (n' := 142) rfl ?_
  rw [show w 24 1 = ((k : Nat) : Int) from hk0]
  refine qG.blk 1 (pc' := 16) (ls' := [(2, 24), (2, 64), (0, fr), (9, 0), (9, 0)]) (st' := [(0, qshl 1 ((k : Nat) : Int))]) (w' := (qup w 24 3 0)) (n' := 142) rfl ?_
  rw [show qshl 1 ((k : Nat) : Int) = qshl 1 ((k : Nat) : Int) from rfl]
  refine qG.blk 2 (pc' := 18) (ls' := [(2, 24), (2, 64), (0, fr), (9, 0), (9, 0)]) (st' := [(0, wrp ((qshl 1 ((k : Nat) : Int)) - 1))]) (w' := (qup w 24 3 0)) (n' := 142) rfl ?_
  rw [show wrp ((qshl 1 ((k : Nat) : Int)) - 1) = v0 from hv]
  refine qG.blk 3 (pc' := 22) (ls' := [(2, 24), (2, 64), (0, fr), (0, v0), (0, 0)]) (st' := []) (w' := (qup w 24 3 0)) (n' := 142) rfl ?_
  have L22 : ∀ (m9 : Nat) (i : Nat) (v : Int) (w9 : qW), 1820 - i = m9 → (i ≤ 1820 ∧ fsI (fun s => w 65 s) fr v0 T w i v w9) → qG none (d + 1) 95 22 [(2, 24), (2, 64), (0, fr), (0, v), (0, ((i : Nat) : Int))] [] w9 142 Q9 := by
    intro m9
    induction m9 using Nat.strongRecOn with
    | ind m9 ih22 =>
    intro i v w9 hm22 hI22
    obtain ⟨hi9, cc, hcc, hc180, hT, h0c, hfr, hI9, hv9⟩ := hI22
    refine qG.blk 2 (pc' := 27) (ls' := [(2, 24), (2, 64), (0, fr), (0, v), (0, ((i : Nat) : Int))]) (st' := [(0, 1820), (0, ((i : Nat) : Int))]) (w' := w9) (n' := 142) rfl ?_
    rw [show (1820 : Int) = N18 from hN18.symm]
    refine qG.br (P := ((i : Nat) : Int) < N18) (pc1 := 30) (pc2 := 93) (st1 := []) rfl (fun hi6 => ?_) (fun hi6 => ?_)
    · skip
      refine qG.blk 2 (pc' := 33) (ls' := [(2, 24), (2, 64), (0, fr), (0, v), (0, ((i : Nat) : Int))]) (st' := [(0, 65535), (0, v)]) (w' := w9) (n' := 142) rfl ?_
      rw [show (65535 : Int) = N65 from hN65.symm]
      refine qG.br (P := N65 < v) (pc1 := 93) (pc2 := 36) (st1 := []) rfl (fun hv6 => ?_) (fun hv6 => ?_)
      · skip
        refine qG.retv rfl rfl ?_
        subst hQ9
        exact ⟨rfl, rfl, (fsI.fin hcc hT h0c (by first | exact .inl (by omega) | exact .inr (by omega))).1, (fsI.fin hcc hT h0c (by first | exact .inl (by omega) | exact .inr (by omega))).2, hfr, hI9⟩
      · skip
        refine qG.blk 5 (pc' := 41) (ls' := [(2, 24), (2, 64), (0, fr), (0, v), (0, ((i : Nat) : Int))]) (st' := [(0, qand v (qxor fr (-1)))]) (w' := w9) (n' := 142) rfl ?_
        refine qG.br (P := qand v (qxor fr (-1)) = 0) (pc1 := 44) (pc2 := 82) (st1 := []) rfl (fun hw0 => ?_) (fun hw0 => ?_)
        · skip
          refine qG.blk 2 (pc' := 46) (ls' := [(2, 24), (2, 64), (0, fr), (0, v), (0, ((i : Nat) : Int))]) (st' := [(0, v), (2, 64)]) (w' := w9) (n' := 142) rfl ?_
          refine qG.call (t := 29) (na := 2) (sk := 1) (md := 1) (ls1 := [(2, 64), (0, v), (9, 0), (9, 0)]) (r1 := []) rfl rfl rfl rfl rfl (K_hangT2_64 (by omega) v w9 hI9 (fun s hs => hfr 65 s (by decide) (fun z => by omega))) ?_
          rintro _ w7 _ ⟨rfl, hw7, rfl⟩
          rw [hw7]
          show qG none (d + 1) 95 49 [(2, 24), (2, 64), (0, fr), (0, v), (0, ((i : Nat) : Int))] [(0, (if hxR (fun s => w 65 s) v 3 = v then 1 else 0))] w9 142 Q9
          refine qG.br (P := (if hxR (fun s => w 65 s) v 3 = v then 1 else 0) = 0) (pc1 := 82) (pc2 := 52) (st1 := []) rfl (fun hhg => ?_) (fun hhg => ?_)
          · skip
            refine qG.blk 1 (pc' := 83) (ls' := [(2, 24), (2, 64), (0, fr), (0, v), (0, ((i : Nat) : Int))]) (st' := [(0, v)]) (w' := w9) (n' := 142) rfl ?_
            refine qG.call (t := 96) (na := 1) (sk := 0) (md := 0) (ls1 := [(0, v), (9, 0), (9, 0)]) (r1 := []) rfl rfl rfl rfl rfl (K_next (by omega) v _) ?_
            rintro _ w7 _ ⟨rfl, hw7, rfl⟩
            rw [hw7]
            show qG none (d + 1) 95 86 [(2, 24), (2, 64), (0, fr), (0, v), (0, ((i : Nat) : Int))] [(0, NX v)] w9 142 Q9
            refine qG.blk 2 (pc' := 90) (ls' := [(2, 24), (2, 64), (0, fr), (0, NX v), (0, wrp (((i : Nat) : Int) + 1))]) (st' := []) (w' := w9) (n' := 142) rfl ?_
            rw [show wrp (((i : Nat) : Int) + 1) = ((i + 1 : Nat) : Int) from wrp_id (by omega) (by omega)]
            refine qG.blk 1 (pc' := 22) (ls' := [(2, 24), (2, 64), (0, fr), (0, NX v), (0, ((i + 1 : Nat) : Int))]) (st' := []) (w' := w9) (n' := 142) rfl ?_
            exact ih22 _ (by omega) (i + 1) (NX v) (w9) rfl (⟨by omega, fsI.no (by omega) hcc hc180 hT h0c hfr hI9 (by omega) hD0 (by first | exact .inl (fsd_n (.inl hw0)) | exact .inl (fsd_n (.inr (ite01.mp hhg))) | exact .inr (by omega))⟩)
          · skip
            refine qG.blk 2 (pc' := 56) (ls' := [(2, 24), (2, 64), (0, fr), (0, v), (0, ((i : Nat) : Int))]) (st' := [(0, w9 24 3)]) (w' := w9) (n' := 142) rfl ?_
            rw [show w9 24 3 = ((cc : Nat) : Int) from hcc]
            refine qG.blk 1 (pc' := 59) (ls' := [(2, 24), (2, 64), (0, fr), (0, v), (0, ((i : Nat) : Int))]) (st' := [(0, 180), (0, ((cc : Nat) : Int))]) (w' := w9) (n' := 142) rfl ?_
            rw [show (180 : Int) = N1 from hN1.symm]
            refine qG.br (P := ((cc : Nat) : Int) < N1) (pc1 := 62) (pc2 := 82) (st1 := []) rfl (fun hc18 => ?_) (fun hc18 => ?_)
            · skip
              refine qG.blk 2 (pc' := 66) (ls' := [(2, 24), (2, 64), (0, fr), (0, v), (0, ((i : Nat) : Int))]) (st' := [(2, w9 24 4)]) (w' := w9) (n' := 142) rfl ?_
              rw [show w9 24 4 = 25 from zref hI9 rfl rfl]
              refine qG.blk 2 (pc' := 70) (ls' := [(2, 24), (2, 64), (0, fr), (0, v), (0, ((i : Nat) : Int))]) (st' := [(0, w9 24 3), (2, 25)]) (w' := w9) (n' := 142) rfl ?_
              rw [show w9 24 3 = ((cc : Nat) : Int) from hcc]
              refine qG.blk 1 (pc' := 71) (ls' := [(2, 24), (2, 64), (0, fr), (0, v), (0, ((i : Nat) : Int))]) (st' := [(0, v), (0, ((cc : Nat) : Int)), (2, 25)]) (w' := w9) (n' := 142) rfl ?_
              refine qG.ist (m := 180) rfl rfl (by omega) (by decide) ?_
              show qG none (d + 1) 95 72 [(2, 24), (2, 64), (0, fr), (0, v), (0, ((i : Nat) : Int))] [] (qup w9 25 cc v) 142 Q9
              refine qG.blk 3 (pc' := 77) (ls' := [(2, 24), (2, 64), (0, fr), (0, v), (0, ((i : Nat) : Int))]) (st' := [(0, w9 24 3), (2, 24)]) (w' := (qup w9 25 cc v)) (n' := 142) rfl ?_
              rw [show w9 24 3 = ((cc : Nat) : Int) from hcc]
              refine qG.blk 2 (pc' := 79) (ls' := [(2, 24), (2, 64), (0, fr), (0, v), (0, ((i : Nat) : Int))]) (st' := [(0, wrp (((cc : Nat) : Int) + 1)), (2, 24)]) (w' := (qup w9 25 cc v)) (n' := 142) rfl ?_
              rw [show wrp (((cc : Nat) : Int) + 1) = ((cc + 1 : Nat) : Int) from wrp_id (by omega) (by omega)]
              refine qG.blk 2 (pc' := 83) (ls' := [(2, 24), (2, 64), (0, fr), (0, v), (0, ((i : Nat) : Int))]) (st' := [(0, v)]) (w' := (qup (qup w9 25 cc v) 24 3 ((cc + 1 : Nat) : Int))) (n' := 142) rfl ?_
              refine qG.call (t := 96) (na := 1) (sk := 0) (md := 0) (ls1 := [(0, v), (9, 0), (9, 0)]) (r1 := []) rfl rfl rfl rfl rfl (K_next (by omega) v _) ?_
              rintro _ w7 _ ⟨rfl, hw7, rfl⟩
              rw [hw7]
              show qG none (d + 1) 95 86 [(2, 24), (2, 64), (0, fr), (0, v), (0, ((i : Nat) : Int))] [(0, NX v)] (qup (qup w9 25 cc v) 24 3 ((cc + 1 : Nat) : Int)) 142 Q9
              refine qG.blk 2 (pc' := 90) (ls' := [(2, 24), (2, 64), (0, fr), (0, NX v), (0, wrp (((i : Nat) : Int) + 1))]) (st' := []) (w' := (qup (qup w9 25 cc v) 24 3 ((cc + 1 : Nat) : Int))) (n' := 142) rfl ?_
              rw [show wrp (((i : Nat) : Int) + 1) = ((i + 1 : Nat) : Int) from wrp_id (by omega) (by omega)]
              refine qG.blk 1 (pc' := 22) (ls' := [(2, 24), (2, 64), (0, fr), (0, NX v), (0, ((i + 1 : Nat) : Int))]) (st' := []) (w' := (qup (qup w9 25 cc v) 24 3 ((cc + 1 : Nat) : Int))) (n' := 142) rfl ?_
              exact ih22 _ (by omega) (i + 1) (NX v) ((qup (qup w9 25 cc v) 24 3 ((cc + 1 : Nat) : Int))) rfl (⟨by omega, fsI.yes (by omega) hT h0c hfr hI9 hfrr (by omega) hv9 (by omega) hw0 (Decidable.of_not_not (fun z => hhg (ite01.mpr z)))⟩)
            · skip
              refine qG.blk 1 (pc' := 83) (ls' := [(2, 24), (2, 64), (0, fr), (0, v), (0, ((i : Nat) : Int))]) (st' := [(0, v)]) (w' := w9) (n' := 142) rfl ?_
              refine qG.call (t := 96) (na := 1) (sk := 0) (md := 0) (ls1 := [(0, v), (9, 0), (9, 0)]) (r1 := []) rfl rfl rfl rfl rfl (K_next (by omega) v _) ?_
              rintro _ w7 _ ⟨rfl, hw7, rfl⟩
              rw [hw7]
              show qG none (d + 1) 95 86 [(2, 24), (2, 64), (0, fr), (0, v), (0, ((i : Nat) : Int))] [(0, NX v)] w9 142 Q9
              refine qG.blk 2 (pc' := 90) (ls' := [(2, 24), (2, 64), (0, fr), (0, NX v), (0, wrp (((i : Nat) : Int) + 1))]) (st' := []) (w' := w9) (n' := 142) rfl ?_
              rw [show wrp (((i : Nat) : Int) + 1) = ((i + 1 : Nat) : Int) from wrp_id (by omega) (by omega)]
              refine qG.blk 1 (pc' := 22) (ls' := [(2, 24), (2, 64), (0, fr), (0, NX v), (0, ((i + 1 : Nat) : Int))]) (st' := []) (w' := w9) (n' := 142) rfl ?_
              exact ih22 _ (by omega) (i + 1) (NX v) (w9) rfl (⟨by omega, fsI.no (by omega) hcc hc180 hT h0c hfr hI9 (by omega) hD0 (by first | exact .inl (fsd_n (.inl hw0)) | exact .inl (fsd_n (.inr (ite01.mp hhg))) | exact .inr (by omega))⟩)
        · skip
          refine qG.blk 1 (pc' := 83) (ls' := [(2, 24), (2, 64), (0, fr), (0, v), (0, ((i : Nat) : Int))]) (st' := [(0, v)]) (w' := w9) (n' := 142) rfl ?_
          refine qG.call (t := 96) (na := 1) (sk := 0) (md := 0) (ls1 := [(0, v), (9, 0), (9, 0)]) (r1 := []) rfl rfl rfl rfl rfl (K_next (by omega) v _) ?_
          rintro _ w7 _ ⟨rfl, hw7, rfl⟩
          rw [hw7]
          show qG none (d + 1) 95 86 [(2, 24), (2, 64), (0, fr), (0, v), (0, ((i : Nat) : Int))] [(0, NX v)] w9 142 Q9
          refine qG.blk 2 (pc' := 90) (ls' := [(2, 24), (2, 64), (0, fr), (0, NX v), (0, wrp (((i : Nat) : Int) + 1))]) (st' := []) (w' := w9) (n' := 142) rfl ?_
          rw [show wrp (((i : Nat) : Int) + 1) = ((i + 1 : Nat) : Int) from wrp_id (by omega) (by omega)]
          refine qG.blk 1 (pc' := 22) (ls' := [(2, 24), (2, 64), (0, fr), (0, NX v), (0, ((i + 1 : Nat) : Int))]) (st' := []) (w' := w9) (n' := 142) rfl ?_
          exact ih22 _ (by omega) (i + 1) (NX v) (w9) rfl (⟨by omega, fsI.no (by omega) hcc hc180 hT h0c hfr hI9 (by omega) hD0 (by first | exact .inl (fsd_n (.inl hw0)) | exact .inl (fsd_n (.inr (ite01.mp hhg))) | exact .inr (by omega))⟩)
    · skip
      refine qG.retv rfl rfl ?_
      subst hQ9
      exact ⟨rfl, rfl, (fsI.fin hcc hT h0c (by first | exact .inl (by omega) | exact .inr (by omega))).1, (fsI.fin hcc hT h0c (by first | exact .inl (by omega) | exact .inr (by omega))).2, hfr, hI9⟩
  exact L22 _ (0) (v0) ((qup w 24 3 0)) rfl (⟨by omega, fsI.init hI hT0 hv0⟩)
theorem K_nextTo_69 {d : Nat} (hd : 0 ≤ d) (v : Int) (w : qW) (hI : yInv zgf zga zra zSp w) : qG none d 28 0 [(2, 69), (0, v), (9, 0), (9, 0)] [] w 142 (fun (r : qV) (w1 : qW) (n1 : Nat) => r = (0, ntF (fun s => w 70 s) v 16) ∧ w1 = w ∧ n1 = 142) := by
  generalize hQ9 : (fun (r : qV) (w1 : qW) (n1 : Nat) => r = (0, ntF (fun s => w 70 s) v 16) ∧ w1 = w ∧ n1 = 142) = Q9
  refine qG.blk 4 (pc' := 4) (ls' := [(2, 69), (0, v), (0, 0), (0, 0)]) (st' := []) (w' := w) (n' := 142) rfl ?_
  have L4 : ∀ (m9 : Nat) (s : Nat) (m : Int), 16 - s = m9 → (s ≤ 16 ∧ m = ntF (fun s => w 70 s) v s) → qG none d 28 4 [(2, 69), (0, v), (0, m), (0, ((s : Nat) : Int))] [] w 142 Q9 := by
    intro m9
    induction m9 using Nat.strongRecOn with
    | ind m9 ih4 =>
    intro s m hm4 hI4
    refine qG.blk 2 (pc' := 7) (ls' := [(2, 69), (0, v), (0, m), (0, ((s : Nat) : Int))]) (st' := [(0, 16), (0, ((s : Nat) : Int))]) (w' := w) (n' := 142) rfl ?_
    refine qG.br (P := ((s : Nat) : Int) < 16) (pc1 := 10) (pc2 := 33) (st1 := []) rfl (fun h1 => ?_) (fun h1 => ?_)
    · skip
      refine qG.blk 5 (pc' := 15) (ls' := [(2, 69), (0, v), (0, m), (0, ((s : Nat) : Int))]) (st' := [(0, qand (qush v ((s : Nat) : Int)) 1)]) (w' := w) (n' := 142) rfl ?_
      refine qG.br (P := qand (qush v ((s : Nat) : Int)) 1 = 0) (pc1 := 27) (pc2 := 18) (st1 := []) rfl (fun hb => ?_) (fun hb => ?_)
      · skip
        refine qG.blk 1 (pc' := 30) (ls' := [(2, 69), (0, v), (0, m), (0, wrp (((s : Nat) : Int) + 1))]) (st' := []) (w' := w) (n' := 142) rfl ?_
        rw [show wrp (((s : Nat) : Int) + 1) = ((s + 1 : Nat) : Int) from wrp_id (by omega) (by omega)]
        refine qG.blk 1 (pc' := 4) (ls' := [(2, 69), (0, v), (0, m), (0, ((s + 1 : Nat) : Int))]) (st' := []) (w' := w) (n' := 142) rfl ?_
        exact ih4 _ (by omega) (s + 1) (m) rfl (⟨by omega, by first | (rw [ntF_y hb]; exact hI4.2) | (rw [ntF_n hb, ← hI4.2])⟩)
      · skip
        refine qG.blk 3 (pc' := 23) (ls' := [(2, 69), (0, v), (0, m), (0, ((s : Nat) : Int))]) (st' := [(2, w 69 2), (0, m)]) (w' := w) (n' := 142) rfl ?_
        rw [show w 69 2 = 70 from zref hI rfl rfl]
        refine qG.blk 1 (pc' := 24) (ls' := [(2, 69), (0, v), (0, m), (0, ((s : Nat) : Int))]) (st' := [(0, ((s : Nat) : Int)), (2, 70), (0, m)]) (w' := w) (n' := 142) rfl ?_
        refine qG.ar (P := 0 ≤ ((s : Nat) : Int) ∧ ((s : Nat) : Int) < ((16 : Nat) : Int)) (P2 := 0 < (70 : Int) ∧ (70 : Int) ≤ ((142 : Nat) : Int)) (pc' := 25) (ls' := [(2, 69), (0, v), (0, m), (0, ((s : Nat) : Int))]) (st' := [(0, w 70 s), (0, m)]) (w' := w) (n' := 142) rfl (by omega) (by decide) ?_
        refine qG.blk 3 (pc' := 30) (ls' := [(2, 69), (0, v), (0, qor m (w 70 s)), (0, wrp (((s : Nat) : Int) + 1))]) (st' := []) (w' := w) (n' := 142) rfl ?_
        rw [show wrp (((s : Nat) : Int) + 1) = ((s + 1 : Nat) : Int) from wrp_id (by omega) (by omega)]
        refine qG.blk 1 (pc' := 4) (ls' := [(2, 69), (0, v), (0, qor m (w 70 s)), (0, ((s + 1 : Nat) : Int))]) (st' := []) (w' := w) (n' := 142) rfl ?_
        exact ih4 _ (by omega) (s + 1) (qor m (w 70 s)) rfl (⟨by omega, by first | (rw [ntF_y hb]; exact hI4.2) | (rw [ntF_n hb, ← hI4.2])⟩)
    · skip
      refine qG.blk 1 (pc' := 34) (ls' := [(2, 69), (0, v), (0, m), (0, ((s : Nat) : Int))]) (st' := [(0, m)]) (w' := w) (n' := 142) rfl ?_
      refine qG.ret rfl rfl ?_
      subst hQ9
      exact ⟨by rw [hI4.2, show s = 16 by omega], rfl, rfl⟩
  exact L4 _ (0) (0) rfl (⟨by omega, rfl⟩)
theorem K_hangT_69 {d : Nat} (hd : 1 ≤ d) (v : Int) (w : qW) (hI : yInv zgf zga zra zSp w) : qG none d 29 0 [(2, 69), (0, v), (9, 0), (9, 0)] [] w 142 (fun (r : qV) (w1 : qW) (n1 : Nat) => r = (0, if hxR (fun s => w 70 s) v 3 = v then 1 else 0) ∧ w1 = w ∧ n1 = 142) := by
  generalize hQ9 : (fun (r : qV) (w1 : qW) (n1 : Nat) => r = (0, if hxR (fun s => w 70 s) v 3 = v then 1 else 0) ∧ w1 = w ∧ n1 = 142) = Q9
  obtain ⟨d, rfl⟩ : ∃ d9, d = d9 + 1 := ⟨d - 1, by omega⟩
  refine qG.blk 1 (pc' := 1) (ls' := [(2, 69), (0, v), (9, 0), (9, 0)]) (st' := [(0, v)]) (w' := w) (n' := 142) rfl ?_
  refine qG.call (t := 300) (na := 1) (sk := 0) (md := 0) (ls1 := [(0, v)]) (r1 := []) rfl rfl rfl rfl rfl (K_low (by omega) v w) ?_
  rintro _ w7 _ ⟨rfl, hw7, rfl⟩
  rw [hw7]
  show qG none (d + 1) 29 4 [(2, 69), (0, v), (9, 0), (9, 0)] [(0, qand v (wrp (-v)))] w 142 Q9
  refine qG.blk 3 (pc' := 7) (ls' := [(2, 69), (0, v), (0, qand v (wrp (-v))), (0, 1)]) (st' := []) (w' := w) (n' := 142) rfl ?_
  have L7 : ∀ (m9 : Nat) (i : Nat) (m : Int), 4 - i = m9 → (1 ≤ i ∧ i ≤ 4 ∧ m = hxR (fun s => w 70 s) v (i - 1)) → qG none (d + 1) 29 7 [(2, 69), (0, v), (0, m), (0, ((i : Nat) : Int))] [] w 142 Q9 := by
    intro m9
    induction m9 using Nat.strongRecOn with
    | ind m9 ih7 =>
    intro i m hm7 hI7
    refine qG.blk 2 (pc' := 9) (ls' := [(2, 69), (0, v), (0, m), (0, ((i : Nat) : Int))]) (st' := [(0, 4), (0, ((i : Nat) : Int))]) (w' := w) (n' := 142) rfl ?_
    refine qG.br (P := ((i : Nat) : Int) < 4) (pc1 := 12) (pc2 := 28) (st1 := []) rfl (fun hi4 => ?_) (fun hi4 => ?_)
    · skip
      refine qG.blk 3 (pc' := 15) (ls' := [(2, 69), (0, v), (0, m), (0, ((i : Nat) : Int))]) (st' := [(0, m), (2, 69), (0, m)]) (w' := w) (n' := 142) rfl ?_
      refine qG.call (t := 28) (na := 2) (sk := 1) (md := 1) (ls1 := [(2, 69), (0, m), (9, 0), (9, 0)]) (r1 := [(0, m)]) rfl rfl rfl rfl rfl (K_nextTo_69 (by omega) m w hI) ?_
      rintro _ w7 _ ⟨rfl, hw7, rfl⟩
      rw [hw7]
      show qG none (d + 1) 29 18 [(2, 69), (0, v), (0, m), (0, ((i : Nat) : Int))] [(0, ntF (fun s => w 70 s) m 16), (0, m)] w 142 Q9
      refine qG.blk 5 (pc' := 25) (ls' := [(2, 69), (0, v), (0, qor m (qand (ntF (fun s => w 70 s) m 16) v)), (0, wrp (((i : Nat) : Int) + 1))]) (st' := []) (w' := w) (n' := 142) rfl ?_
      rw [show wrp (((i : Nat) : Int) + 1) = ((i + 1 : Nat) : Int) from wrp_id (by omega) (by omega)]
      refine qG.blk 1 (pc' := 7) (ls' := [(2, 69), (0, v), (0, qor m (qand (ntF (fun s => w 70 s) m 16) v)), (0, ((i + 1 : Nat) : Int))]) (st' := []) (w' := w) (n' := 142) rfl ?_
      exact ih7 _ (by omega) (i + 1) (qor m (qand (ntF (fun s => w 70 s) m 16) v)) rfl (⟨by omega, by omega, by rw [hI7.2.2, show i + 1 - 1 = (i - 1) + 1 by omega]; rfl⟩)
    · skip
      refine qG.blk 2 (pc' := 30) (ls' := [(2, 69), (0, v), (0, m), (0, ((i : Nat) : Int))]) (st' := [(0, v), (0, m)]) (w' := w) (n' := 142) rfl ?_
      refine qG.br (P := m = v) (pc1 := 33) (pc2 := 37) (st1 := []) rfl (fun hh => ?_) (fun hh => ?_)
      · skip
        refine qG.blk 2 (pc' := 38) (ls' := [(2, 69), (0, v), (0, m), (0, ((i : Nat) : Int))]) (st' := [(0, 1)]) (w' := w) (n' := 142) rfl ?_
        refine qG.ret rfl (by first | rfl | exact decide_eq_true (by omega)) ?_
        subst hQ9
        exact ⟨by rw [← (show m = hxR (fun s => w 70 s) v 3 from by rw [hI7.2.2, show i - 1 = 3 by omega])]; first | (rw [if_pos hh]; done) | (rw [if_neg hh]; done), rfl, rfl⟩
      · skip
        refine qG.blk 1 (pc' := 38) (ls' := [(2, 69), (0, v), (0, m), (0, ((i : Nat) : Int))]) (st' := [(0, 0)]) (w' := w) (n' := 142) rfl ?_
        refine qG.ret rfl (by first | rfl | exact decide_eq_true (by omega)) ?_
        subst hQ9
        exact ⟨by rw [← (show m = hxR (fun s => w 70 s) v 3 from by rw [hI7.2.2, show i - 1 = 3 by omega])]; first | (rw [if_pos hh]; done) | (rw [if_neg hh]; done), rfl, rfl⟩
  exact L7 _ (1) (qand v (wrp (-v))) rfl (⟨by omega, by omega, rfl⟩)
theorem K_free_69 {d : Nat} (hd : 0 ≤ d) (w : qW) : qG none d 25 0 [(2, 69)] [] w 142 (fun (r : qV) (w1 : qW) (n1 : Nat) => r = (0, qand 65535 (qxor (w 69 0) (-1))) ∧ w1 = w ∧ n1 = 142) := by
  generalize hQ9 : (fun (r : qV) (w1 : qW) (n1 : Nat) => r = (0, qand 65535 (qxor (w 69 0) (-1))) ∧ w1 = w ∧ n1 = 142) = Q9
  refine qG.blk 6 (pc' := 9) (ls' := [(2, 69)]) (st' := [(0, qand 65535 (qxor (w 69 0) (-1)))]) (w' := w) (n' := 142) rfl ?_
  refine qG.ret rfl rfl ?_
  subst hQ9
  exact ⟨rfl, rfl, rfl⟩
theorem K_hangT2_69 {P : Nat → Int} {d : Nat} (hd : 1 ≤ d) (v : Int) (w : qW) (hI : yInv zgf zga zra zSp w) (hP : ∀ s, s < 16 → w 70 s = P s) : qG none d 29 0 [(2, 69), (0, v), (9, 0), (9, 0)] [] w 142 (fun r w1 n1 => r = (0, if hxR P v 3 = v then 1 else 0) ∧ w1 = w ∧ n1 = 142) := by
  rw [← hxR_c (P := fun s => w 70 s) hP 3]; exact K_hangT_69 hd v w hI
theorem K_findSets_69 {d : Nat} (hd : 2 ≤ d) (k : Nat) (hk1 : 1 ≤ k) (hk2 : k ≤ 4) (w : qW) (hI : yInv zgf zga zra zSp w) (hk0 : w 24 1 = ((k : Nat) : Int)) (fr : Int) (hfr0 : qand 65535 (qxor (w 69 0) (-1)) = fr) (v0 : Int) (hv : wrp (qshl 1 ((k : Nat) : Int) - 1) = v0) (hv0 : -2147483648 ≤ v0) (T : Nat) (hT0 : fcnt (fun s => w 70 s) fr 1820 v0 0 = T) (hfrr : 0 ≤ fr ∧ fr ≤ 65535) (hv65 : v0 ≤ 65535) (hD0 : fsd (fun s => w 70 s) fr v0 = true) : qG none d 95 0 [(2, 24), (2, 69), (9, 0), (9, 0), (9, 0)] [] w 142 (fun (r : qV) (w1 : qW) (n1 : Nat) => r = (9, 0) ∧ n1 = 142 ∧ w1 24 3 = (T : Int) ∧ (0 < T → w1 25 0 = v0) ∧ (∀ p j, p ≠ 25 → ¬ (p = 24 ∧ j = 3) → w1 p j = w p j) ∧ yInv zgf zga zra zSp w1) := by
  generalize hQ9 : (fun (r : qV) (w1 : qW) (n1 : Nat) => r = (9, 0) ∧ n1 = 142 ∧ w1 24 3 = (T : Int) ∧ (0 < T → w1 25 0 = v0) ∧ (∀ p j, p ≠ 25 → ¬ (p = 24 ∧ j = 3) → w1 p j = w p j) ∧ yInv zgf zga zra zSp w1) = Q9
  obtain ⟨N1, hN1⟩ : ∃ N : Int, N = 180 := ⟨_, rfl⟩
  obtain ⟨N18, hN18⟩ : ∃ N : Int, N = 1820 := ⟨_, rfl⟩
  obtain ⟨N65, hN65⟩ : ∃ N : Int, N = 65535 := ⟨_, rfl⟩
  obtain ⟨d, rfl⟩ : ∃ d9, d = d9 + 1 := ⟨d - 1, by omega⟩
  refine qG.blk 4 (pc' := 6) (ls' := [(2, 24), (2, 69), (9, 0), (9, 0), (9, 0)]) (st' := [(2, 69)]) (w' := (qup w 24 3 0)) (n' := 142) rfl ?_
  refine qG.call (t := 25) (na := 1) (sk := 1) (md := 1) (ls1 := [(2, 69)]) (r1 := []) rfl rfl rfl rfl rfl (K_free_69 (by omega) (qup w 24 3 0)) ?_
  rintro _ w7 _ ⟨rfl, hw7, rfl⟩
  rw [hw7, show qand 65535 (qxor ((qup w 24 3 0) 69 0) (-1)) = fr from hfr0]
  show qG none (d + 1) 95 9 [(2, 24), (2, 69), (9, 0), (9, 0), (9, 0)] [(0, fr)] (qup w 24 3 0) 142 Q9
  refine qG.blk 4 (pc' := 15) (ls' := [(2, 24), (2, 69), (0, fr), (9, 0), (9, 0)]) (st' := [(0, w 24 1), (0, 1)]) (w' := (qup w 24 3 0)) (n' := 142) rfl ?_
  rw [show w 24 1 = ((k : Nat) : Int) from hk0]
  refine qG.blk 1 (pc' := 16) (ls' := [(2, 24), (2, 69), (0, fr), (9, 0), (9, 0)]) (st' := [(0, qshl 1 ((k : Nat) : Int))]) (w' := (qup w 24 3 0)) (n' := 142) rfl ?_
  rw [show qshl 1 ((k : Nat) : Int) = qshl 1 ((k : Nat) : Int) from rfl]
  refine qG.blk 2 (pc' := 18) (ls' := [(2, 24), (2, 69), (0, fr), (9, 0), (9, 0)]) (st' := [(0, wrp ((qshl 1 ((k : Nat) : Int)) - 1))]) (w' := (qup w 24 3 0)) (n' := 142) rfl ?_
  rw [show wrp ((qshl 1 ((k : Nat) : Int)) - 1) = v0 from hv]
  refine qG.blk 3 (pc' := 22) (ls' := [(2, 24), (2, 69), (0, fr), (0, v0), (0, 0)]) (st' := []) (w' := (qup w 24 3 0)) (n' := 142) rfl ?_
  have L22 : ∀ (m9 : Nat) (i : Nat) (v : Int) (w9 : qW), 1820 - i = m9 → (i ≤ 1820 ∧ fsI (fun s => w 70 s) fr v0 T w i v w9) → qG none (d + 1) 95 22 [(2, 24), (2, 69), (0, fr), (0, v), (0, ((i : Nat) : Int))] [] w9 142 Q9 := by
    intro m9
    induction m9 using Nat.strongRecOn with
    | ind m9 ih22 =>
    intro i v w9 hm22 hI22
    obtain ⟨hi9, cc, hcc, hc180, hT, h0c, hfr, hI9, hv9⟩ := hI22
    refine qG.blk 2 (pc' := 27) (ls' := [(2, 24), (2, 69), (0, fr), (0, v), (0, ((i : Nat) : Int))]) (st' := [(0, 1820), (0, ((i : Nat) : Int))]) (w' := w9) (n' := 142) rfl ?_
    rw [show (1820 : Int) = N18 from hN18.symm]
    refine qG.br (P := ((i : Nat) : Int) < N18) (pc1 := 30) (pc2 := 93) (st1 := []) rfl (fun hi6 => ?_) (fun hi6 => ?_)
    · skip
      refine qG.blk 2 (pc' := 33) (ls' := [(2, 24), (2, 69), (0, fr), (0, v), (0, ((i : Nat) : Int))]) (st' := [(0, 65535), (0, v)]) (w' := w9) (n' := 142) rfl ?_
      rw [show (65535 : Int) = N65 from hN65.symm]
      refine qG.br (P := N65 < v) (pc1 := 93) (pc2 := 36) (st1 := []) rfl (fun hv6 => ?_) (fun hv6 => ?_)
      · skip
        refine qG.retv rfl rfl ?_
        subst hQ9
        exact ⟨rfl, rfl, (fsI.fin hcc hT h0c (by first | exact .inl (by omega) | exact .inr (by omega))).1, (fsI.fin hcc hT h0c (by first | exact .inl (by omega) | exact .inr (by omega))).2, hfr, hI9⟩
      · skip
        refine qG.blk 5 (pc' := 41) (ls' := [(2, 24), (2, 69), (0, fr), (0, v), (0, ((i : Nat) : Int))]) (st' := [(0, qand v (qxor fr (-1)))]) (w' := w9) (n' := 142) rfl ?_
        refine qG.br (P := qand v (qxor fr (-1)) = 0) (pc1 := 44) (pc2 := 82) (st1 := []) rfl (fun hw0 => ?_) (fun hw0 => ?_)
        · skip
          refine qG.blk 2 (pc' := 46) (ls' := [(2, 24), (2, 69), (0, fr), (0, v), (0, ((i : Nat) : Int))]) (st' := [(0, v), (2, 69)]) (w' := w9) (n' := 142) rfl ?_
          refine qG.call (t := 29) (na := 2) (sk := 1) (md := 1) (ls1 := [(2, 69), (0, v), (9, 0), (9, 0)]) (r1 := []) rfl rfl rfl rfl rfl (K_hangT2_69 (by omega) v w9 hI9 (fun s hs => hfr 70 s (by decide) (fun z => by omega))) ?_
          rintro _ w7 _ ⟨rfl, hw7, rfl⟩
          rw [hw7]
          show qG none (d + 1) 95 49 [(2, 24), (2, 69), (0, fr), (0, v), (0, ((i : Nat) : Int))] [(0, (if hxR (fun s => w 70 s) v 3 = v then 1 else 0))] w9 142 Q9
          refine qG.br (P := (if hxR (fun s => w 70 s) v 3 = v then 1 else 0) = 0) (pc1 := 82) (pc2 := 52) (st1 := []) rfl (fun hhg => ?_) (fun hhg => ?_)
          · skip
            refine qG.blk 1 (pc' := 83) (ls' := [(2, 24), (2, 69), (0, fr), (0, v), (0, ((i : Nat) : Int))]) (st' := [(0, v)]) (w' := w9) (n' := 142) rfl ?_
            refine qG.call (t := 96) (na := 1) (sk := 0) (md := 0) (ls1 := [(0, v), (9, 0), (9, 0)]) (r1 := []) rfl rfl rfl rfl rfl (K_next (by omega) v _) ?_
            rintro _ w7 _ ⟨rfl, hw7, rfl⟩
            rw [hw7]
            show qG none (d + 1) 95 86 [(2, 24), (2, 69), (0, fr), (0, v), (0, ((i : Nat) : Int))] [(0, NX v)] w9 142 Q9
            refine qG.blk 2 (pc' := 90) (ls' := [(2, 24), (2, 69), (0, fr), (0, NX v), (0, wrp (((i : Nat) : Int) + 1))]) (st' := []) (w' := w9) (n' := 142) rfl ?_
            rw [show wrp (((i : Nat) : Int) + 1) = ((i + 1 : Nat) : Int) from wrp_id (by omega) (by omega)]
            refine qG.blk 1 (pc' := 22) (ls' := [(2, 24), (2, 69), (0, fr), (0, NX v), (0, ((i + 1 : Nat) : Int))]) (st' := []) (w' := w9) (n' := 142) rfl ?_
            exact ih22 _ (by omega) (i + 1) (NX v) (w9) rfl (⟨by omega, fsI.no (by omega) hcc hc180 hT h0c hfr hI9 (by omega) hD0 (by first | exact .inl (fsd_n (.inl hw0)) | exact .inl (fsd_n (.inr (ite01.mp hhg))) | exact .inr (by omega))⟩)
          · skip
            refine qG.blk 2 (pc' := 56) (ls' := [(2, 24), (2, 69), (0, fr), (0, v), (0, ((i : Nat) : Int))]) (st' := [(0, w9 24 3)]) (w' := w9) (n' := 142) rfl ?_
            rw [show w9 24 3 = ((cc : Nat) : Int) from hcc]
            refine qG.blk 1 (pc' := 59) (ls' := [(2, 24), (2, 69), (0, fr), (0, v), (0, ((i : Nat) : Int))]) (st' := [(0, 180), (0, ((cc : Nat) : Int))]) (w' := w9) (n' := 142) rfl ?_
            rw [show (180 : Int) = N1 from hN1.symm]
            refine qG.br (P := ((cc : Nat) : Int) < N1) (pc1 := 62) (pc2 := 82) (st1 := []) rfl (fun hc18 => ?_) (fun hc18 => ?_)
            · skip
              refine qG.blk 2 (pc' := 66) (ls' := [(2, 24), (2, 69), (0, fr), (0, v), (0, ((i : Nat) : Int))]) (st' := [(2, w9 24 4)]) (w' := w9) (n' := 142) rfl ?_
              rw [show w9 24 4 = 25 from zref hI9 rfl rfl]
              refine qG.blk 2 (pc' := 70) (ls' := [(2, 24), (2, 69), (0, fr), (0, v), (0, ((i : Nat) : Int))]) (st' := [(0, w9 24 3), (2, 25)]) (w' := w9) (n' := 142) rfl ?_
              rw [show w9 24 3 = ((cc : Nat) : Int) from hcc]
              refine qG.blk 1 (pc' := 71) (ls' := [(2, 24), (2, 69), (0, fr), (0, v), (0, ((i : Nat) : Int))]) (st' := [(0, v), (0, ((cc : Nat) : Int)), (2, 25)]) (w' := w9) (n' := 142) rfl ?_
              refine qG.ist (m := 180) rfl rfl (by omega) (by decide) ?_
              show qG none (d + 1) 95 72 [(2, 24), (2, 69), (0, fr), (0, v), (0, ((i : Nat) : Int))] [] (qup w9 25 cc v) 142 Q9
              refine qG.blk 3 (pc' := 77) (ls' := [(2, 24), (2, 69), (0, fr), (0, v), (0, ((i : Nat) : Int))]) (st' := [(0, w9 24 3), (2, 24)]) (w' := (qup w9 25 cc v)) (n' := 142) rfl ?_
              rw [show w9 24 3 = ((cc : Nat) : Int) from hcc]
              refine qG.blk 2 (pc' := 79) (ls' := [(2, 24), (2, 69), (0, fr), (0, v), (0, ((i : Nat) : Int))]) (st' := [(0, wrp (((cc : Nat) : Int) + 1)), (2, 24)]) (w' := (qup w9 25 cc v)) (n' := 142) rfl ?_
              rw [show wrp (((cc : Nat) : Int) + 1) = ((cc + 1 : Nat) : Int) from wrp_id (by omega) (by omega)]
              refine qG.blk 2 (pc' := 83) (ls' := [(2, 24), (2, 69), (0, fr), (0, v), (0, ((i : Nat) : Int))]) (st' := [(0, v)]) (w' := (qup (qup w9 25 cc v) 24 3 ((cc + 1 : Nat) : Int))) (n' := 142) rfl ?_
              refine qG.call (t := 96) (na := 1) (sk := 0) (md := 0) (ls1 := [(0, v), (9, 0), (9, 0)]) (r1 := []) rfl rfl rfl rfl rfl (K_next (by omega) v _) ?_
              rintro _ w7 _ ⟨rfl, hw7, rfl⟩
              rw [hw7]
              show qG none (d + 1) 95 86 [(2, 24), (2, 69), (0, fr), (0, v), (0, ((i : Nat) : Int))] [(0, NX v)] (qup (qup w9 25 cc v) 24 3 ((cc + 1 : Nat) : Int)) 142 Q9
              refine qG.blk 2 (pc' := 90) (ls' := [(2, 24), (2, 69), (0, fr), (0, NX v), (0, wrp (((i : Nat) : Int) + 1))]) (st' := []) (w' := (qup (qup w9 25 cc v) 24 3 ((cc + 1 : Nat) : Int))) (n' := 142) rfl ?_
              rw [show wrp (((i : Nat) : Int) + 1) = ((i + 1 : Nat) : Int) from wrp_id (by omega) (by omega)]
              refine qG.blk 1 (pc' := 22) (ls' := [(2, 24), (2, 69), (0, fr), (0, NX v), (0, ((i + 1 : Nat) : Int))]) (st' := []) (w' := (qup (qup w9 25 cc v) 24 3 ((cc + 1 : Nat) : Int))) (n' := 142) rfl ?_
              exact ih22 _ (by omega) (i + 1) (NX v) ((qup (qup w9 25 cc v) 24 3 ((cc + 1 : Nat) : Int))) rfl (⟨by omega, fsI.yes (by omega) hT h0c hfr hI9 hfrr (by omega) hv9 (by omega) hw0 (Decidable.of_not_not (fun z => hhg (ite01.mpr z)))⟩)
            · skip
              refine qG.blk 1 (pc' := 83) (ls' := [(2, 24), (2, 69), (0, fr), (0, v), (0, ((i : Nat) : Int))]) (st' := [(0, v)]) (w' := w9) (n' := 142) rfl ?_
              refine qG.call (t := 96) (na := 1) (sk := 0) (md := 0) (ls1 := [(0, v), (9, 0), (9, 0)]) (r1 := []) rfl rfl rfl rfl rfl (K_next (by omega) v _) ?_
              rintro _ w7 _ ⟨rfl, hw7, rfl⟩
              rw [hw7]
              show qG none (d + 1) 95 86 [(2, 24), (2, 69), (0, fr), (0, v), (0, ((i : Nat) : Int))] [(0, NX v)] w9 142 Q9
              refine qG.blk 2 (pc' := 90) (ls' := [(2, 24), (2, 69), (0, fr), (0, NX v), (0, wrp (((i : Nat) : Int) + 1))]) (st' := []) (w' := w9) (n' := 142) rfl ?_
              rw [show wrp (((i : Nat) : Int) + 1) = ((i + 1 : Nat) : Int) from wrp_id (by omega) (by omega)]
              refine qG.blk 1 (pc' := 22) (ls' := [(2, 24), (2, 69), (0, fr), (0, NX v), (0, ((i + 1 : Nat) : Int))]) (st' := []) (w' := w9) (n' := 142) rfl ?_
              exact ih22 _ (by omega) (i + 1) (NX v) (w9) rfl (⟨by omega, fsI.no (by omega) hcc hc180 hT h0c hfr hI9 (by omega) hD0 (by first | exact .inl (fsd_n (.inl hw0)) | exact .inl (fsd_n (.inr (ite01.mp hhg))) | exact .inr (by omega))⟩)
        · skip
          refine qG.blk 1 (pc' := 83) (ls' := [(2, 24), (2, 69), (0, fr), (0, v), (0, ((i : Nat) : Int))]) (st' := [(0, v)]) (w' := w9) (n' := 142) rfl ?_
          refine qG.call (t := 96) (na := 1) (sk := 0) (md := 0) (ls1 := [(0, v), (9, 0), (9, 0)]) (r1 := []) rfl rfl rfl rfl rfl (K_next (by omega) v _) ?_
          rintro _ w7 _ ⟨rfl, hw7, rfl⟩
          rw [hw7]
          show qG none (d + 1) 95 86 [(2, 24), (2, 69), (0, fr), (0, v), (0, ((i : Nat) : Int))] [(0, NX v)] w9 142 Q9
          refine qG.blk 2 (pc' := 90) (ls' := [(2, 24), (2, 69), (0, fr), (0, NX v), (0, wrp (((i : Nat) : Int) + 1))]) (st' := []) (w' := w9) (n' := 142) rfl ?_
          rw [show wrp (((i : Nat) : Int) + 1) = ((i + 1 : Nat) : Int) from wrp_id (by omega) (by omega)]
          refine qG.blk 1 (pc' := 22) (ls' := [(2, 24), (2, 69), (0, fr), (0, NX v), (0, ((i + 1 : Nat) : Int))]) (st' := []) (w' := w9) (n' := 142) rfl ?_
          exact ih22 _ (by omega) (i + 1) (NX v) (w9) rfl (⟨by omega, fsI.no (by omega) hcc hc180 hT h0c hfr hI9 (by omega) hD0 (by first | exact .inl (fsd_n (.inl hw0)) | exact .inl (fsd_n (.inr (ite01.mp hhg))) | exact .inr (by omega))⟩)
    · skip
      refine qG.retv rfl rfl ?_
      subst hQ9
      exact ⟨rfl, rfl, (fsI.fin hcc hT h0c (by first | exact .inl (by omega) | exact .inr (by omega))).1, (fsI.fin hcc hT h0c (by first | exact .inl (by omega) | exact .inr (by omega))).2, hfr, hI9⟩
  exact L22 _ (0) (v0) ((qup w 24 3 0)) rfl (⟨by omega, fsI.init hI hT0 hv0⟩)
theorem K_nextTo_74 {d : Nat} (hd : 0 ≤ d) (v : Int) (w : qW) (hI : yInv zgf zga zra zSp w) : qG none d 28 0 [(2, 74), (0, v), (9, 0), (9, 0)] [] w 142 (fun (r : qV) (w1 : qW) (n1 : Nat) => r = (0, ntF (fun s => w 75 s) v 16) ∧ w1 = w ∧ n1 = 142) := by
  generalize hQ9 : (fun (r : qV) (w1 : qW) (n1 : Nat) => r = (0, ntF (fun s => w 75 s) v 16) ∧ w1 = w ∧ n1 = 142) = Q9
  refine qG.blk 4 (pc' := 4) (ls' := [(2, 74), (0, v), (0, 0), (0, 0)]) (st' := []) (w' := w) (n' := 142) rfl ?_
  have L4 : ∀ (m9 : Nat) (s : Nat) (m : Int), 16 - s = m9 → (s ≤ 16 ∧ m = ntF (fun s => w 75 s) v s) → qG none d 28 4 [(2, 74), (0, v), (0, m), (0, ((s : Nat) : Int))] [] w 142 Q9 := by
    intro m9
    induction m9 using Nat.strongRecOn with
    | ind m9 ih4 =>
    intro s m hm4 hI4
    refine qG.blk 2 (pc' := 7) (ls' := [(2, 74), (0, v), (0, m), (0, ((s : Nat) : Int))]) (st' := [(0, 16), (0, ((s : Nat) : Int))]) (w' := w) (n' := 142) rfl ?_
    refine qG.br (P := ((s : Nat) : Int) < 16) (pc1 := 10) (pc2 := 33) (st1 := []) rfl (fun h1 => ?_) (fun h1 => ?_)
    · skip
      refine qG.blk 5 (pc' := 15) (ls' := [(2, 74), (0, v), (0, m), (0, ((s : Nat) : Int))]) (st' := [(0, qand (qush v ((s : Nat) : Int)) 1)]) (w' := w) (n' := 142) rfl ?_
      refine qG.br (P := qand (qush v ((s : Nat) : Int)) 1 = 0) (pc1 := 27) (pc2 := 18) (st1 := []) rfl (fun hb => ?_) (fun hb => ?_)
      · skip
        refine qG.blk 1 (pc' := 30) (ls' := [(2, 74), (0, v), (0, m), (0, wrp (((s : Nat) : Int) + 1))]) (st' := []) (w' := w) (n' := 142) rfl ?_
        rw [show wrp (((s : Nat) : Int) + 1) = ((s + 1 : Nat) : Int) from wrp_id (by omega) (by omega)]
        refine qG.blk 1 (pc' := 4) (ls' := [(2, 74), (0, v), (0, m), (0, ((s + 1 : Nat) : Int))]) (st' := []) (w' := w) (n' := 142) rfl ?_
        exact ih4 _ (by omega) (s + 1) (m) rfl (⟨by omega, by first | (rw [ntF_y hb]; exact hI4.2) | (rw [ntF_n hb, ← hI4.2])⟩)
      · skip
        refine qG.blk 3 (pc' := 23) (ls' := [(2, 74), (0, v), (0, m), (0, ((s : Nat) : Int))]) (st' := [(2, w 74 2), (0, m)]) (w' := w) (n' := 142) rfl ?_
        rw [show w 74 2 = 75 from zref hI rfl rfl]
        refine qG.blk 1 (pc' := 24) (ls' := [(2, 74), (0, v), (0, m), (0, ((s : Nat) : Int))]) (st' := [(0, ((s : Nat) : Int)), (2, 75), (0, m)]) (w' := w) (n' := 142) rfl ?_
        refine qG.ar (P := 0 ≤ ((s : Nat) : Int) ∧ ((s : Nat) : Int) < ((16 : Nat) : Int)) (P2 := 0 < (75 : Int) ∧ (75 : Int) ≤ ((142 : Nat) : Int)) (pc' := 25) (ls' := [(2, 74), (0, v), (0, m), (0, ((s : Nat) : Int))]) (st' := [(0, w 75 s), (0, m)]) (w' := w) (n' := 142) rfl (by omega) (by decide) ?_
        refine qG.blk 3 (pc' := 30) (ls' := [(2, 74), (0, v), (0, qor m (w 75 s)), (0, wrp (((s : Nat) : Int) + 1))]) (st' := []) (w' := w) (n' := 142) rfl ?_
        rw [show wrp (((s : Nat) : Int) + 1) = ((s + 1 : Nat) : Int) from wrp_id (by omega) (by omega)]
        refine qG.blk 1 (pc' := 4) (ls' := [(2, 74), (0, v), (0, qor m (w 75 s)), (0, ((s + 1 : Nat) : Int))]) (st' := []) (w' := w) (n' := 142) rfl ?_
        exact ih4 _ (by omega) (s + 1) (qor m (w 75 s)) rfl (⟨by omega, by first | (rw [ntF_y hb]; exact hI4.2) | (rw [ntF_n hb, ← hI4.2])⟩)
    · skip
      refine qG.blk 1 (pc' := 34) (ls' := [(2, 74), (0, v), (0, m), (0, ((s : Nat) : Int))]) (st' := [(0, m)]) (w' := w) (n' := 142) rfl ?_
      refine qG.ret rfl rfl ?_
      subst hQ9
      exact ⟨by rw [hI4.2, show s = 16 by omega], rfl, rfl⟩
  exact L4 _ (0) (0) rfl (⟨by omega, rfl⟩)
theorem K_hangT_74 {d : Nat} (hd : 1 ≤ d) (v : Int) (w : qW) (hI : yInv zgf zga zra zSp w) : qG none d 29 0 [(2, 74), (0, v), (9, 0), (9, 0)] [] w 142 (fun (r : qV) (w1 : qW) (n1 : Nat) => r = (0, if hxR (fun s => w 75 s) v 3 = v then 1 else 0) ∧ w1 = w ∧ n1 = 142) := by
  generalize hQ9 : (fun (r : qV) (w1 : qW) (n1 : Nat) => r = (0, if hxR (fun s => w 75 s) v 3 = v then 1 else 0) ∧ w1 = w ∧ n1 = 142) = Q9
  obtain ⟨d, rfl⟩ : ∃ d9, d = d9 + 1 := ⟨d - 1, by omega⟩
  refine qG.blk 1 (pc' := 1) (ls' := [(2, 74), (0, v), (9, 0), (9, 0)]) (st' := [(0, v)]) (w' := w) (n' := 142) rfl ?_
  refine qG.call (t := 300) (na := 1) (sk := 0) (md := 0) (ls1 := [(0, v)]) (r1 := []) rfl rfl rfl rfl rfl (K_low (by omega) v w) ?_
  rintro _ w7 _ ⟨rfl, hw7, rfl⟩
  rw [hw7]
  show qG none (d + 1) 29 4 [(2, 74), (0, v), (9, 0), (9, 0)] [(0, qand v (wrp (-v)))] w 142 Q9
  refine qG.blk 3 (pc' := 7) (ls' := [(2, 74), (0, v), (0, qand v (wrp (-v))), (0, 1)]) (st' := []) (w' := w) (n' := 142) rfl ?_
  have L7 : ∀ (m9 : Nat) (i : Nat) (m : Int), 4 - i = m9 → (1 ≤ i ∧ i ≤ 4 ∧ m = hxR (fun s => w 75 s) v (i - 1)) → qG none (d + 1) 29 7 [(2, 74), (0, v), (0, m), (0, ((i : Nat) : Int))] [] w 142 Q9 := by
    intro m9
    induction m9 using Nat.strongRecOn with
    | ind m9 ih7 =>
    intro i m hm7 hI7
    refine qG.blk 2 (pc' := 9) (ls' := [(2, 74), (0, v), (0, m), (0, ((i : Nat) : Int))]) (st' := [(0, 4), (0, ((i : Nat) : Int))]) (w' := w) (n' := 142) rfl ?_
    refine qG.br (P := ((i : Nat) : Int) < 4) (pc1 := 12) (pc2 := 28) (st1 := []) rfl (fun hi4 => ?_) (fun hi4 => ?_)
    · skip
      refine qG.blk 3 (pc' := 15) (ls' := [(2, 74), (0, v), (0, m), (0, ((i : Nat) : Int))]) (st' := [(0, m), (2, 74), (0, m)]) (w' := w) (n' := 142) rfl ?_
      refine qG.call (t := 28) (na := 2) (sk := 1) (md := 1) (ls1 := [(2, 74), (0, m), (9, 0), (9, 0)]) (r1 := [(0, m)]) rfl rfl rfl rfl rfl (K_nextTo_74 (by omega) m w hI) ?_
      rintro _ w7 _ ⟨rfl, hw7, rfl⟩
      rw [hw7]
      show qG none (d + 1) 29 18 [(2, 74), (0, v), (0, m), (0, ((i : Nat) : Int))] [(0, ntF (fun s => w 75 s) m 16), (0, m)] w 142 Q9
      refine qG.blk 5 (pc' := 25) (ls' := [(2, 74), (0, v), (0, qor m (qand (ntF (fun s => w 75 s) m 16) v)), (0, wrp (((i : Nat) : Int) + 1))]) (st' := []) (w' := w) (n' := 142) rfl ?_
      rw [show wrp (((i : Nat) : Int) + 1) = ((i + 1 : Nat) : Int) from wrp_id (by omega) (by omega)]
      refine qG.blk 1 (pc' := 7) (ls' := [(2, 74), (0, v), (0, qor m (qand (ntF (fun s => w 75 s) m 16) v)), (0, ((i + 1 : Nat) : Int))]) (st' := []) (w' := w) (n' := 142) rfl ?_
      exact ih7 _ (by omega) (i + 1) (qor m (qand (ntF (fun s => w 75 s) m 16) v)) rfl (⟨by omega, by omega, by rw [hI7.2.2, show i + 1 - 1 = (i - 1) + 1 by omega]; rfl⟩)
    · skip
      refine qG.blk 2 (pc' := 30) (ls' := [(2, 74), (0, v), (0, m), (0, ((i : Nat) : Int))]) (st' := [(0, v), (0, m)]) (w' := w) (n' := 142) rfl ?_
      refine qG.br (P := m = v) (pc1 := 33) (pc2 := 37) (st1 := []) rfl (fun hh => ?_) (fun hh => ?_)
      · skip
        refine qG.blk 2 (pc' := 38) (ls' := [(2, 74), (0, v), (0, m), (0, ((i : Nat) : Int))]) (st' := [(0, 1)]) (w' := w) (n' := 142) rfl ?_
        refine qG.ret rfl (by first | rfl | exact decide_eq_true (by omega)) ?_
        subst hQ9
        exact ⟨by rw [← (show m = hxR (fun s => w 75 s) v 3 from by rw [hI7.2.2, show i - 1 = 3 by omega])]; first | (rw [if_pos hh]; done) | (rw [if_neg hh]; done), rfl, rfl⟩
      · skip
        refine qG.blk 1 (pc' := 38) (ls' := [(2, 74), (0, v), (0, m), (0, ((i : Nat) : Int))]) (st' := [(0, 0)]) (w' := w) (n' := 142) rfl ?_
        refine qG.ret rfl (by first | rfl | exact decide_eq_true (by omega)) ?_
        subst hQ9
        exact ⟨by rw [← (show m = hxR (fun s => w 75 s) v 3 from by rw [hI7.2.2, show i - 1 = 3 by omega])]; first | (rw [if_pos hh]; done) | (rw [if_neg hh]; done), rfl, rfl⟩
  exact L7 _ (1) (qand v (wrp (-v))) rfl (⟨by omega, by omega, rfl⟩)
theorem K_free_74 {d : Nat} (hd : 0 ≤ d) (w : qW) : qG none d 25 0 [(2, 74)] [] w 142 (fun (r : qV) (w1 : qW) (n1 : Nat) => r = (0, qand 65535 (qxor (w 74 0) (-1))) ∧ w1 = w ∧ n1 = 142) := by
  generalize hQ9 : (fun (r : qV) (w1 : qW) (n1 : Nat) => r = (0, qand 65535 (qxor (w 74 0) (-1))) ∧ w1 = w ∧ n1 = 142) = Q9
  refine qG.blk 6 (pc' := 9) (ls' := [(2, 74)]) (st' := [(0, qand 65535 (qxor (w 74 0) (-1)))]) (w' := w) (n' := 142) rfl ?_
  refine qG.ret rfl rfl ?_
  subst hQ9
  exact ⟨rfl, rfl, rfl⟩
theorem K_hangT2_74 {P : Nat → Int} {d : Nat} (hd : 1 ≤ d) (v : Int) (w : qW) (hI : yInv zgf zga zra zSp w) (hP : ∀ s, s < 16 → w 75 s = P s) : qG none d 29 0 [(2, 74), (0, v), (9, 0), (9, 0)] [] w 142 (fun r w1 n1 => r = (0, if hxR P v 3 = v then 1 else 0) ∧ w1 = w ∧ n1 = 142) := by
  rw [← hxR_c (P := fun s => w 75 s) hP 3]; exact K_hangT_74 hd v w hI
theorem K_findSets_74 {d : Nat} (hd : 2 ≤ d) (k : Nat) (hk1 : 1 ≤ k) (hk2 : k ≤ 4) (w : qW) (hI : yInv zgf zga zra zSp w) (hk0 : w 24 1 = ((k : Nat) : Int)) (fr : Int) (hfr0 : qand 65535 (qxor (w 74 0) (-1)) = fr) (v0 : Int) (hv : wrp (qshl 1 ((k : Nat) : Int) - 1) = v0) (hv0 : -2147483648 ≤ v0) (T : Nat) (hT0 : fcnt (fun s => w 75 s) fr 1820 v0 0 = T) (hfrr : 0 ≤ fr ∧ fr ≤ 65535) (hv65 : v0 ≤ 65535) (hD0 : fsd (fun s => w 75 s) fr v0 = true) : qG none d 95 0 [(2, 24), (2, 74), (9, 0), (9, 0), (9, 0)] [] w 142 (fun (r : qV) (w1 : qW) (n1 : Nat) => r = (9, 0) ∧ n1 = 142 ∧ w1 24 3 = (T : Int) ∧ (0 < T → w1 25 0 = v0) ∧ (∀ p j, p ≠ 25 → ¬ (p = 24 ∧ j = 3) → w1 p j = w p j) ∧ yInv zgf zga zra zSp w1) := by
  generalize hQ9 : (fun (r : qV) (w1 : qW) (n1 : Nat) => r = (9, 0) ∧ n1 = 142 ∧ w1 24 3 = (T : Int) ∧ (0 < T → w1 25 0 = v0) ∧ (∀ p j, p ≠ 25 → ¬ (p = 24 ∧ j = 3) → w1 p j = w p j) ∧ yInv zgf zga zra zSp w1) = Q9
  obtain ⟨N1, hN1⟩ : ∃ N : Int, N = 180 := ⟨_, rfl⟩
  obtain ⟨N18, hN18⟩ : ∃ N : Int, N = 1820 := ⟨_, rfl⟩
  obtain ⟨N65, hN65⟩ : ∃ N : Int, N = 65535 := ⟨_, rfl⟩
  obtain ⟨d, rfl⟩ : ∃ d9, d = d9 + 1 := ⟨d - 1, by omega⟩
  refine qG.blk 4 (pc' := 6) (ls' := [(2, 24), (2, 74), (9, 0), (9, 0), (9, 0)]) (st' := [(2, 74)]) (w' := (qup w 24 3 0)) (n' := 142) rfl ?_
  refine qG.call (t := 25) (na := 1) (sk := 1) (md := 1) (ls1 := [(2, 74)]) (r1 := []) rfl rfl rfl rfl rfl (K_free_74 (by omega) (qup w 24 3 0)) ?_
  rintro _ w7 _ ⟨rfl, hw7, rfl⟩
  rw [hw7, show qand 65535 (qxor ((qup w 24 3 0) 74 0) (-1)) = fr from hfr0]
  show qG none (d + 1) 95 9 [(2, 24), (2, 74), (9, 0), (9, 0), (9, 0)] [(0, fr)] (qup w 24 3 0) 142 Q9
  refine qG.blk 4 (pc' := 15) (ls' := [(2, 24), (2, 74), (0, fr), (9, 0), (9, 0)]) (st' := [(0, w 24 1), (0, 1)]) (w' := (qup w 24 3 0)) (n' := 142) rfl ?_
  rw [show w 24 1 = ((k : Nat) : Int) from hk0]
  refine qG.blk 1 (pc' := 16) (ls' := [(2, 24), (2, 74), (0, fr), (9, 0), (9, 0)]) (st' := [(0, qshl 1 ((k : Nat) : Int))]) (w' := (qup w 24 3 0)) (n' := 142) rfl ?_
  rw [show qshl 1 ((k : Nat) : Int) = qshl 1 ((k : Nat) : Int) from rfl]
  refine qG.blk 2 (pc' := 18) (ls' := [(2, 24), (2, 74), (0, fr), (9, 0), (9, 0)]) (st' := [(0, wrp ((qshl 1 ((k : Nat) : Int)) - 1))]) (w' := (qup w 24 3 0)) (n' := 142) rfl ?_
  rw [show wrp ((qshl 1 ((k : Nat) : Int)) - 1) = v0 from hv]
  refine qG.blk 3 (pc' := 22) (ls' := [(2, 24), (2, 74), (0, fr), (0, v0), (0, 0)]) (st' := []) (w' := (qup w 24 3 0)) (n' := 142) rfl ?_
  have L22 : ∀ (m9 : Nat) (i : Nat) (v : Int) (w9 : qW), 1820 - i = m9 → (i ≤ 1820 ∧ fsI (fun s => w 75 s) fr v0 T w i v w9) → qG none (d + 1) 95 22 [(2, 24), (2, 74), (0, fr), (0, v), (0, ((i : Nat) : Int))] [] w9 142 Q9 := by
    intro m9
    induction m9 using Nat.strongRecOn with
    | ind m9 ih22 =>
    intro i v w9 hm22 hI22
    obtain ⟨hi9, cc, hcc, hc180, hT, h0c, hfr, hI9, hv9⟩ := hI22
    refine qG.blk 2 (pc' := 27) (ls' := [(2, 24), (2, 74), (0, fr), (0, v), (0, ((i : Nat) : Int))]) (st' := [(0, 1820), (0, ((i : Nat) : Int))]) (w' := w9) (n' := 142) rfl ?_
    rw [show (1820 : Int) = N18 from hN18.symm]
    refine qG.br (P := ((i : Nat) : Int) < N18) (pc1 := 30) (pc2 := 93) (st1 := []) rfl (fun hi6 => ?_) (fun hi6 => ?_)
    · skip
      refine qG.blk 2 (pc' := 33) (ls' := [(2, 24), (2, 74), (0, fr), (0, v), (0, ((i : Nat) : Int))]) (st' := [(0, 65535), (0, v)]) (w' := w9) (n' := 142) rfl ?_
      rw [show (65535 : Int) = N65 from hN65.symm]
      refine qG.br (P := N65 < v) (pc1 := 93) (pc2 := 36) (st1 := []) rfl (fun hv6 => ?_) (fun hv6 => ?_)
      · skip
        refine qG.retv rfl rfl ?_
        subst hQ9
        exact ⟨rfl, rfl, (fsI.fin hcc hT h0c (by first | exact .inl (by omega) | exact .inr (by omega))).1, (fsI.fin hcc hT h0c (by first | exact .inl (by omega) | exact .inr (by omega))).2, hfr, hI9⟩
      · skip
        refine qG.blk 5 (pc' := 41) (ls' := [(2, 24), (2, 74), (0, fr), (0, v), (0, ((i : Nat) : Int))]) (st' := [(0, qand v (qxor fr (-1)))]) (w' := w9) (n' := 142) rfl ?_
        refine qG.br (P := qand v (qxor fr (-1)) = 0) (pc1 := 44) (pc2 := 82) (st1 := []) rfl (fun hw0 => ?_) (fun hw0 => ?_)
        · skip
          refine qG.blk 2 (pc' := 46) (ls' := [(2, 24), (2, 74), (0, fr), (0, v), (0, ((i : Nat) : Int))]) (st' := [(0, v), (2, 74)]) (w' := w9) (n' := 142) rfl ?_
          refine qG.call (t := 29) (na := 2) (sk := 1) (md := 1) (ls1 := [(2, 74), (0, v), (9, 0), (9, 0)]) (r1 := []) rfl rfl rfl rfl rfl (K_hangT2_74 (by omega) v w9 hI9 (fun s hs => hfr 75 s (by decide) (fun z => by omega))) ?_
          rintro _ w7 _ ⟨rfl, hw7, rfl⟩
          rw [hw7]
          show qG none (d + 1) 95 49 [(2, 24), (2, 74), (0, fr), (0, v), (0, ((i : Nat) : Int))] [(0, (if hxR (fun s => w 75 s) v 3 = v then 1 else 0))] w9 142 Q9
          refine qG.br (P := (if hxR (fun s => w 75 s) v 3 = v then 1 else 0) = 0) (pc1 := 82) (pc2 := 52) (st1 := []) rfl (fun hhg => ?_) (fun hhg => ?_)
          · skip
            refine qG.blk 1 (pc' := 83) (ls' := [(2, 24), (2, 74), (0, fr), (0, v), (0, ((i : Nat) : Int))]) (st' := [(0, v)]) (w' := w9) (n' := 142) rfl ?_
            refine qG.call (t := 96) (na := 1) (sk := 0) (md := 0) (ls1 := [(0, v), (9, 0), (9, 0)]) (r1 := []) rfl rfl rfl rfl rfl (K_next (by omega) v _) ?_
            rintro _ w7 _ ⟨rfl, hw7, rfl⟩
            rw [hw7]
            show qG none (d + 1) 95 86 [(2, 24), (2, 74), (0, fr), (0, v), (0, ((i : Nat) : Int))] [(0, NX v)] w9 142 Q9
            refine qG.blk 2 (pc' := 90) (ls' := [(2, 24), (2, 74), (0, fr), (0, NX v), (0, wrp (((i : Nat) : Int) + 1))]) (st' := []) (w' := w9) (n' := 142) rfl ?_
            rw [show wrp (((i : Nat) : Int) + 1) = ((i + 1 : Nat) : Int) from wrp_id (by omega) (by omega)]
            refine qG.blk 1 (pc' := 22) (ls' := [(2, 24), (2, 74), (0, fr), (0, NX v), (0, ((i + 1 : Nat) : Int))]) (st' := []) (w' := w9) (n' := 142) rfl ?_
            exact ih22 _ (by omega) (i + 1) (NX v) (w9) rfl (⟨by omega, fsI.no (by omega) hcc hc180 hT h0c hfr hI9 (by omega) hD0 (by first | exact .inl (fsd_n (.inl hw0)) | exact .inl (fsd_n (.inr (ite01.mp hhg))) | exact .inr (by omega))⟩)
          · skip
            refine qG.blk 2 (pc' := 56) (ls' := [(2, 24), (2, 74), (0, fr), (0, v), (0, ((i : Nat) : Int))]) (st' := [(0, w9 24 3)]) (w' := w9) (n' := 142) rfl ?_
            rw [show w9 24 3 = ((cc : Nat) : Int) from hcc]
            refine qG.blk 1 (pc' := 59) (ls' := [(2, 24), (2, 74), (0, fr), (0, v), (0, ((i : Nat) : Int))]) (st' := [(0, 180), (0, ((cc : Nat) : Int))]) (w' := w9) (n' := 142) rfl ?_
            rw [show (180 : Int) = N1 from hN1.symm]
            refine qG.br (P := ((cc : Nat) : Int) < N1) (pc1 := 62) (pc2 := 82) (st1 := []) rfl (fun hc18 => ?_) (fun hc18 => ?_)
            · skip
              refine qG.blk 2 (pc' := 66) (ls' := [(2, 24), (2, 74), (0, fr), (0, v), (0, ((i : Nat) : Int))]) (st' := [(2, w9 24 4)]) (w' := w9) (n' := 142) rfl ?_
              rw [show w9 24 4 = 25 from zref hI9 rfl rfl]
              refine qG.blk 2 (pc' := 70) (ls' := [(2, 24), (2, 74), (0, fr), (0, v), (0, ((i : Nat) : Int))]) (st' := [(0, w9 24 3), (2, 25)]) (w' := w9) (n' := 142) rfl ?_
              rw [show w9 24 3 = ((cc : Nat) : Int) from hcc]
              refine qG.blk 1 (pc' := 71) (ls' := [(2, 24), (2, 74), (0, fr), (0, v), (0, ((i : Nat) : Int))]) (st' := [(0, v), (0, ((cc : Nat) : Int)), (2, 25)]) (w' := w9) (n' := 142) rfl ?_
              refine qG.ist (m := 180) rfl rfl (by omega) (by decide) ?_
              show qG none (d + 1) 95 72 [(2, 24), (2, 74), (0, fr), (0, v), (0, ((i : Nat) : Int))] [] (qup w9 25 cc v) 142 Q9
              refine qG.blk 3 (pc' := 77) (ls' := [(2, 24), (2, 74), (0, fr), (0, v), (0, ((i : Nat) : Int))]) (st' := [(0, w9 24 3), (2, 24)]) (w' := (qup w9 25 cc v)) (n' := 142) rfl ?_
              rw [show w9 24 3 = ((cc : Nat) : Int) from hcc]
              refine qG.blk 2 (pc' := 79) (ls' := [(2, 24), (2, 74), (0, fr), (0, v), (0, ((i : Nat) : Int))]) (st' := [(0, wrp (((cc : Nat) : Int) + 1)), (2, 24)]) (w' := (qup w9 25 cc v)) (n' := 142) rfl ?_
              rw [show wrp (((cc : Nat) : Int) + 1) = ((cc + 1 : Nat) : Int) from wrp_id (by omega) (by omega)]
              refine qG.blk 2 (pc' := 83) (ls' := [(2, 24), (2, 74), (0, fr), (0, v), (0, ((i : Nat) : Int))]) (st' := [(0, v)]) (w' := (qup (qup w9 25 cc v) 24 3 ((cc + 1 : Nat) : Int))) (n' := 142) rfl ?_
              refine qG.call (t := 96) (na := 1) (sk := 0) (md := 0) (ls1 := [(0, v), (9, 0), (9, 0)]) (r1 := []) rfl rfl rfl rfl rfl (K_next (by omega) v _) ?_
              rintro _ w7 _ ⟨rfl, hw7, rfl⟩
              rw [hw7]
              show qG none (d + 1) 95 86 [(2, 24), (2, 74), (0, fr), (0, v), (0, ((i : Nat) : Int))] [(0, NX v)] (qup (qup w9 25 cc v) 24 3 ((cc + 1 : Nat) : Int)) 142 Q9
              refine qG.blk 2 (pc' := 90) (ls' := [(2, 24), (2, 74), (0, fr), (0, NX v), (0, wrp (((i : Nat) : Int) + 1))]) (st' := []) (w' := (qup (qup w9 25 cc v) 24 3 ((cc + 1 : Nat) : Int))) (n' := 142) rfl ?_
              rw [show wrp (((i : Nat) : Int) + 1) = ((i + 1 : Nat) : Int) from wrp_id (by omega) (by omega)]
              refine qG.blk 1 (pc' := 22) (ls' := [(2, 24), (2, 74), (0, fr), (0, NX v), (0, ((i + 1 : Nat) : Int))]) (st' := []) (w' := (qup (qup w9 25 cc v) 24 3 ((cc + 1 : Nat) : Int))) (n' := 142) rfl ?_
              exact ih22 _ (by omega) (i + 1) (NX v) ((qup (qup w9 25 cc v) 24 3 ((cc + 1 : Nat) : Int))) rfl (⟨by omega, fsI.yes (by omega) hT h0c hfr hI9 hfrr (by omega) hv9 (by omega) hw0 (Decidable.of_not_not (fun z => hhg (ite01.mpr z)))⟩)
            · skip
              refine qG.blk 1 (pc' := 83) (ls' := [(2, 24), (2, 74), (0, fr), (0, v), (0, ((i : Nat) : Int))]) (st' := [(0, v)]) (w' := w9) (n' := 142) rfl ?_
              refine qG.call (t := 96) (na := 1) (sk := 0) (md := 0) (ls1 := [(0, v), (9, 0), (9, 0)]) (r1 := []) rfl rfl rfl rfl rfl (K_next (by omega) v _) ?_
              rintro _ w7 _ ⟨rfl, hw7, rfl⟩
              rw [hw7]
              show qG none (d + 1) 95 86 [(2, 24), (2, 74), (0, fr), (0, v), (0, ((i : Nat) : Int))] [(0, NX v)] w9 142 Q9
              refine qG.blk 2 (pc' := 90) (ls' := [(2, 24), (2, 74), (0, fr), (0, NX v), (0, wrp (((i : Nat) : Int) + 1))]) (st' := []) (w' := w9) (n' := 142) rfl ?_
              rw [show wrp (((i : Nat) : Int) + 1) = ((i + 1 : Nat) : Int) from wrp_id (by omega) (by omega)]
              refine qG.blk 1 (pc' := 22) (ls' := [(2, 24), (2, 74), (0, fr), (0, NX v), (0, ((i + 1 : Nat) : Int))]) (st' := []) (w' := w9) (n' := 142) rfl ?_
              exact ih22 _ (by omega) (i + 1) (NX v) (w9) rfl (⟨by omega, fsI.no (by omega) hcc hc180 hT h0c hfr hI9 (by omega) hD0 (by first | exact .inl (fsd_n (.inl hw0)) | exact .inl (fsd_n (.inr (ite01.mp hhg))) | exact .inr (by omega))⟩)
        · skip
          refine qG.blk 1 (pc' := 83) (ls' := [(2, 24), (2, 74), (0, fr), (0, v), (0, ((i : Nat) : Int))]) (st' := [(0, v)]) (w' := w9) (n' := 142) rfl ?_
          refine qG.call (t := 96) (na := 1) (sk := 0) (md := 0) (ls1 := [(0, v), (9, 0), (9, 0)]) (r1 := []) rfl rfl rfl rfl rfl (K_next (by omega) v _) ?_
          rintro _ w7 _ ⟨rfl, hw7, rfl⟩
          rw [hw7]
          show qG none (d + 1) 95 86 [(2, 24), (2, 74), (0, fr), (0, v), (0, ((i : Nat) : Int))] [(0, NX v)] w9 142 Q9
          refine qG.blk 2 (pc' := 90) (ls' := [(2, 24), (2, 74), (0, fr), (0, NX v), (0, wrp (((i : Nat) : Int) + 1))]) (st' := []) (w' := w9) (n' := 142) rfl ?_
          rw [show wrp (((i : Nat) : Int) + 1) = ((i + 1 : Nat) : Int) from wrp_id (by omega) (by omega)]
          refine qG.blk 1 (pc' := 22) (ls' := [(2, 24), (2, 74), (0, fr), (0, NX v), (0, ((i + 1 : Nat) : Int))]) (st' := []) (w' := w9) (n' := 142) rfl ?_
          exact ih22 _ (by omega) (i + 1) (NX v) (w9) rfl (⟨by omega, fsI.no (by omega) hcc hc180 hT h0c hfr hI9 (by omega) hD0 (by first | exact .inl (fsd_n (.inl hw0)) | exact .inl (fsd_n (.inr (ite01.mp hhg))) | exact .inr (by omega))⟩)
    · skip
      refine qG.retv rfl rfl ?_
      subst hQ9
      exact ⟨rfl, rfl, (fsI.fin hcc hT h0c (by first | exact .inl (by omega) | exact .inr (by omega))).1, (fsI.fin hcc hT h0c (by first | exact .inl (by omega) | exact .inr (by omega))).2, hfr, hI9⟩
  exact L22 _ (0) (v0) ((qup w 24 3 0)) rfl (⟨by omega, fsI.init hI hT0 hv0⟩)
