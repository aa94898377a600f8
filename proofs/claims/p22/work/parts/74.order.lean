/-! the reference's proof, tries, order: they end -/
theorem AW.eq {w w1 : qW} (h : AW [] w w1) : w1 = w := by funext p j; exact h.2 p j (fun _ => rfl)
theorem AW.upd {m : List Nat} {w w1 : qW} {p j : Nat} {v : Int} (h : AW m w w1) (hp : p < 1000) (hm : ymo p j m = true) (hI : yInv zgf zga zra zSp (qup w1 p j v)) : AW m w (qup w1 p j v) := ⟨hI, fun p2 j2 hp2 => by
  by_cases e : p2 = p
  · subst e
    by_cases e2 : j2 = j
    · subst e2; have := hp2 hp; rw [hm] at this; cases this
    · rw [qup_j e2]; exact h.2 p2 j2 hp2
  · rw [qup_ne e]; exact h.2 p2 j2 hp2⟩
theorem K_proof {d : Nat} (hd : 6 ≤ d) (c k s : Int) (w : qW) (hI : yInv zgf zga zra zSp w) (hS : S3 w) : qG none d 264 0 [(2, 95), (0, c), (0, k), (0, s), (9, 0), (9, 0), (9, 0), (9, 0), (9, 0)] [] w 142 (SQ WYM w) := by
  generalize hQ9 : (SQ WYM w) = Q9
  obtain ⟨N6, hN6⟩ : ∃ N : Int, N = 1024 := ⟨_, rfl⟩
  obtain ⟨d, rfl⟩ : ∃ d9, d = d9 + 1 := ⟨d - 1, by omega⟩
  refine qG.blk 1 (pc' := 1) (ls' := [(2, 95), (0, c), (0, k), (0, s), (9, 0), (9, 0), (9, 0), (9, 0), (9, 0)]) (st' := [(0, c)]) (w' := w) (n' := 142) rfl ?_
  refine qG.call (t := 207) (na := 1) (sk := 0) (md := 0) (ls1 := [(0, c)]) (r1 := []) rfl rfl rfl rfl rfl (K_isChest (by omega) _ _) ?_
  rintro _ w7 _ ⟨rfl, hw7, rfl⟩
  rw [hw7]
  show qG none (d + 1) 264 4 [(2, 95), (0, c), (0, k), (0, s), (9, 0), (9, 0), (9, 0), (9, 0), (9, 0)] [(0, isInV c 0 2)] w 142 Q9
  refine qG.br (P := isInV c 0 2 = 0) (pc1 := 25) (pc2 := 7) (st1 := []) rfl (fun hc0 => ?_) (fun hc0 => ?_)
  · skip
    refine qG.blk 1 (pc' := 26) (ls' := [(2, 95), (0, c), (0, k), (0, s), (9, 0), (9, 0), (9, 0), (9, 0), (9, 0)]) (st' := [(0, (-1))]) (w' := w) (n' := 142) rfl ?_
    refine qG.ret rfl rfl ?_
    subst hQ9
    first | exact SQ.rf hI hS | exact SQ.mk' hA0 (by decide +kernel) hS0
  · skip
    obtain ⟨c9, rfl, hlc9, huc9⟩ := isIn_n (by decide) hc0
    refine qG.blk 1 (pc' := 8) (ls' := [(2, 95), (0, ((c9 : Nat) : Int)), (0, k), (0, s), (9, 0), (9, 0), (9, 0), (9, 0), (9, 0)]) (st' := [(0, k)]) (w' := w) (n' := 142) rfl ?_
    refine qG.call (t := 210) (na := 1) (sk := 0) (md := 0) (ls1 := [(0, k)]) (r1 := []) rfl rfl rfl rfl rfl (K_isSize (by omega) _ _) ?_
    rintro _ w7 _ ⟨rfl, hw7, rfl⟩
    rw [hw7]
    show qG none (d + 1) 264 11 [(2, 95), (0, ((c9 : Nat) : Int)), (0, k), (0, s), (9, 0), (9, 0), (9, 0), (9, 0), (9, 0)] [(0, isInV k 1 4)] w 142 Q9
    refine qG.br (P := isInV k 1 4 = 0) (pc1 := 25) (pc2 := 14) (st1 := []) rfl (fun hk0 => ?_) (fun hk0 => ?_)
    · skip
      refine qG.blk 1 (pc' := 26) (ls' := [(2, 95), (0, ((c9 : Nat) : Int)), (0, k), (0, s), (9, 0), (9, 0), (9, 0), (9, 0), (9, 0)]) (st' := [(0, (-1))]) (w' := w) (n' := 142) rfl ?_
      refine qG.ret rfl rfl ?_
      subst hQ9
      first | exact SQ.rf hI hS | exact SQ.mk' hA0 (by decide +kernel) hS0
    · skip
      obtain ⟨k9, rfl, hlk9, huk9⟩ := isIn_n (by decide) hk0
      refine qG.blk 3 (pc' := 19) (ls' := [(2, 95), (0, ((c9 : Nat) : Int)), (0, ((k9 : Nat) : Int)), (0, s), (9, 0), (9, 0), (9, 0), (9, 0), (9, 0)]) (st' := [(0, 1023), (0, 0), (0, s)]) (w' := w) (n' := 142) rfl ?_
      refine qG.call (t := 206) (na := 3) (sk := 0) (md := 0) (ls1 := [(0, s), (0, 0), (0, 1023)]) (r1 := []) rfl rfl rfl rfl rfl (K_isIn (Nat.zero_le _) _ _ _ _) ?_
      rintro _ w7 _ ⟨rfl, hw7, rfl⟩
      rw [hw7]
      show qG none (d + 1) 264 22 [(2, 95), (0, ((c9 : Nat) : Int)), (0, ((k9 : Nat) : Int)), (0, s), (9, 0), (9, 0), (9, 0), (9, 0), (9, 0)] [(0, isInV (s) (0) (1023))] w 142 Q9
      refine qG.br (P := isInV (s) (0) (1023) = 0) (pc1 := 25) (pc2 := 27) (st1 := []) rfl (fun hs0 => ?_) (fun hs0 => ?_)
      · skip
        refine qG.blk 1 (pc' := 26) (ls' := [(2, 95), (0, ((c9 : Nat) : Int)), (0, ((k9 : Nat) : Int)), (0, s), (9, 0), (9, 0), (9, 0), (9, 0), (9, 0)]) (st' := [(0, (-1))]) (w' := w) (n' := 142) rfl ?_
        refine qG.ret rfl rfl ?_
        subst hQ9
        first | exact SQ.rf hI hS | exact SQ.mk' hA0 (by decide +kernel) hS0
      · skip
        obtain ⟨s9, rfl, hls9, hus9⟩ := isIn_n (by decide) hs0
        refine qG.blk 3 (pc' := 30) (ls' := [(2, 95), (0, ((c9 : Nat) : Int)), (0, ((k9 : Nat) : Int)), (0, ((s9 : Nat) : Int)), (9, 0), (9, 0), (9, 0), (9, 0), (9, 0)]) (st' := [(0, ((k9 : Nat) : Int)), (0, ((c9 : Nat) : Int)), (2, 95)]) (w' := w) (n' := 142) rfl ?_
        refine qG.call (t := 220) (na := 3) (sk := 1) (md := 1) (ls1 := [(2, 95), (0, ((c9 : Nat) : Int)), (0, ((k9 : Nat) : Int)), (9, 0), (9, 0)]) (r1 := []) rfl rfl rfl rfl rfl (K_fp (by omega) c9 k9 (by omega) (by omega) (by omega) w hI hS) ?_
        rintro _ w0 _ ⟨rfl, rfl, hfp, hA0, hS0⟩
        have h8 := zfld hA0.1 (j := 8) (b := (0, 1820)) rfl
        have a8 : (0 : Int) ≤ w0 95 8 := h8.1
        have b8 : w0 95 8 ≤ (1820 : Int) := h8.2
        show qG none (d + 1) 264 33 [(2, 95), (0, ((c9 : Nat) : Int)), (0, ((k9 : Nat) : Int)), (0, ((s9 : Nat) : Int)), (9, 0), (9, 0), (9, 0), (9, 0), (9, 0)] [] w0 142 Q9
        refine qG.blk 4 (pc' := 39) (ls' := [(2, 95), (0, ((c9 : Nat) : Int)), (0, ((k9 : Nat) : Int)), (0, ((s9 : Nat) : Int)), (0, (-1)), (0, 0), (9, 0), (9, 0), (9, 0)]) (st' := []) (w' := w0) (n' := 142) rfl ?_
        have L39 : ∀ (m9 : Nat) (n9 : Nat) (x4 : Int) (x6 x7 x8 : qV), 1024 - n9 = m9 → (n9 ≤ 1024) → qG none (d + 1) 264 39 [(2, 95), (0, ((c9 : Nat) : Int)), (0, ((k9 : Nat) : Int)), (0, ((s9 : Nat) : Int)), (0, x4), (0, ((n9 : Nat) : Int)), x6, x7, x8] [] w0 142 Q9 := by
          intro m9
          induction m9 using Nat.strongRecOn with
          | ind m9 ih39 =>
          intro n9 x4 x6 x7 x8 hm39 hI39
          refine qG.blk 2 (pc' := 44) (ls' := [(2, 95), (0, ((c9 : Nat) : Int)), (0, ((k9 : Nat) : Int)), (0, ((s9 : Nat) : Int)), (0, x4), (0, ((n9 : Nat) : Int)), x6, x7, x8]) (st' := [(0, 1024), (0, ((n9 : Nat) : Int))]) (w' := w0) (n' := 142) rfl ?_
          rw [show (1024 : Int) = N6 from hN6.symm]
          refine qG.br (P := ((n9 : Nat) : Int) < N6) (pc1 := 47) (pc2 := 180) (st1 := []) rfl (fun hn => ?_) (fun hn => ?_)
          · skip
            refine qG.blk 3 (pc' := 51) (ls' := [(2, 95), (0, ((c9 : Nat) : Int)), (0, ((k9 : Nat) : Int)), (0, ((s9 : Nat) : Int)), (0, x4), (0, ((n9 : Nat) : Int)), x6, x7, x8]) (st' := [(0, qand ((n9 : Nat) : Int) ((s9 : Nat) : Int))]) (w' := w0) (n' := 142) rfl ?_
            refine qG.br (P := qand ((n9 : Nat) : Int) ((s9 : Nat) : Int) = 0) (pc1 := 54) (pc2 := 174) (st1 := []) rfl (fun h1 => ?_) (fun h1 => ?_)
            · skip
              refine qG.blk 2 (pc' := 57) (ls' := [(2, 95), (0, ((c9 : Nat) : Int)), (0, ((k9 : Nat) : Int)), (0, ((s9 : Nat) : Int)), (0, x4), (0, ((n9 : Nat) : Int)), x6, x7, x8]) (st' := [(0, (-1)), (0, x4)]) (w' := w0) (n' := 142) rfl ?_
              refine qG.br (P := x4 = (-1)) (pc1 := 76) (pc2 := 60) (st1 := []) rfl (fun h2 => ?_) (fun h2 => ?_)
              · skip
                refine qG.blk 4 (pc' := 82) (ls' := [(2, 95), (0, ((c9 : Nat) : Int)), (0, ((k9 : Nat) : Int)), (0, ((s9 : Nat) : Int)), (0, x4), (0, ((n9 : Nat) : Int)), (0, 0), (0, 0), x8]) (st' := []) (w' := w0) (n' := 142) rfl ?_
                have L82 : ∀ (m9 : Nat) (d9 : Nat) (x6 : Int), 10 - d9 = m9 → (d9 ≤ 10) → qG none (d + 1) 264 82 [(2, 95), (0, ((c9 : Nat) : Int)), (0, ((k9 : Nat) : Int)), (0, ((s9 : Nat) : Int)), (0, x4), (0, ((n9 : Nat) : Int)), (0, x6), (0, ((d9 : Nat) : Int)), x8] [] w0 142 Q9 := by
                  intro m9
                  induction m9 using Nat.strongRecOn with
                  | ind m9 ih82 =>
                  intro d9 x6 hm82 hI82
                  refine qG.blk 2 (pc' := 86) (ls' := [(2, 95), (0, ((c9 : Nat) : Int)), (0, ((k9 : Nat) : Int)), (0, ((s9 : Nat) : Int)), (0, x4), (0, ((n9 : Nat) : Int)), (0, x6), (0, ((d9 : Nat) : Int)), x8]) (st' := [(0, 10), (0, ((d9 : Nat) : Int))]) (w' := w0) (n' := 142) rfl ?_
                  refine qG.br (P := ((d9 : Nat) : Int) < 10) (pc1 := 89) (pc2 := 119) (st1 := []) rfl (fun hd10 => ?_) (fun hd10 => ?_)
                  · skip
                    refine qG.blk 6 (pc' := 97) (ls' := [(2, 95), (0, ((c9 : Nat) : Int)), (0, ((k9 : Nat) : Int)), (0, ((s9 : Nat) : Int)), (0, x4), (0, ((n9 : Nat) : Int)), (0, x6), (0, ((d9 : Nat) : Int)), x8]) (st' := [(0, 1), (0, qand (qshr ((n9 : Nat) : Int) ((d9 : Nat) : Int)) 1)]) (w' := w0) (n' := 142) rfl ?_
                    refine qG.br (P := qand (qshr ((n9 : Nat) : Int) ((d9 : Nat) : Int)) 1 = 1) (pc1 := 100) (pc2 := 113) (st1 := []) rfl (fun h3 => ?_) (fun h3 => ?_)
                    · skip
                      refine qG.blk 5 (pc' := 107) (ls' := [(2, 95), (0, ((c9 : Nat) : Int)), (0, ((k9 : Nat) : Int)), (0, ((s9 : Nat) : Int)), (0, x4), (0, ((n9 : Nat) : Int)), (0, x6), (0, ((d9 : Nat) : Int)), x8]) (st' := [(0, 1), (0, ((d9 : Nat) : Int)), (0, ((c9 : Nat) : Int)), (2, 95), (0, x6)]) (w' := w0) (n' := 142) rfl ?_
                      refine qG.call (t := 250) (na := 4) (sk := 1) (md := 1) (ls1 := [(2, 95), (0, ((c9 : Nat) : Int)), (0, ((d9 : Nat) : Int)), (0, 1), (9, 0), (9, 0)]) (r1 := [(0, x6)]) rfl rfl rfl rfl rfl (AW.use (c := C_R_through.2) (as := [(2, 95), (0, ((c9 : Nat) : Int)), (0, ((d9 : Nat) : Int)), (0, 1)]) (m := []) T_R_through (AW.rf hA0.1) (Nat.zero_le _) ⟨⟨rfl, by decide, by decide⟩, ⟨rfl, hlc9, huc9⟩, ⟨rfl, Int.natCast_nonneg _, Int.le_of_lt_add_one hd10⟩, ⟨rfl, by decide, by decide⟩, trivial⟩ rfl rfl (by decide +kernel)) ?_
                      rintro _ w7 _ ⟨x, rfl, hx1, hx2, hA7, rfl, -⟩
                      have e7 := hA7.eq
                      rw [e7]
                      show qG none (d + 1) 264 110 [(2, 95), (0, ((c9 : Nat) : Int)), (0, ((k9 : Nat) : Int)), (0, ((s9 : Nat) : Int)), (0, x4), (0, ((n9 : Nat) : Int)), (0, x6), (0, ((d9 : Nat) : Int)), x8] [(0, x), (0, x6)] w0 142 Q9
                      refine qG.blk 3 (pc' := 116) (ls' := [(2, 95), (0, ((c9 : Nat) : Int)), (0, ((k9 : Nat) : Int)), (0, ((s9 : Nat) : Int)), (0, x4), (0, ((n9 : Nat) : Int)), (0, qor x6 x), (0, wrp (((d9 : Nat) : Int) + 1)), x8]) (st' := []) (w' := w0) (n' := 142) rfl ?_
                      rw [show wrp (((d9 : Nat) : Int) + 1) = ((d9 + 1 : Nat) : Int) from wrp_id (by omega) (by omega)]
                      refine qG.blk 1 (pc' := 82) (ls' := [(2, 95), (0, ((c9 : Nat) : Int)), (0, ((k9 : Nat) : Int)), (0, ((s9 : Nat) : Int)), (0, x4), (0, ((n9 : Nat) : Int)), (0, qor x6 x), (0, ((d9 + 1 : Nat) : Int)), x8]) (st' := []) (w' := w0) (n' := 142) rfl ?_
                      exact ih82 _ (by omega) (d9 + 1) (qor x6 x) rfl (by omega)
                    · skip
                      refine qG.blk 1 (pc' := 116) (ls' := [(2, 95), (0, ((c9 : Nat) : Int)), (0, ((k9 : Nat) : Int)), (0, ((s9 : Nat) : Int)), (0, x4), (0, ((n9 : Nat) : Int)), (0, x6), (0, wrp (((d9 : Nat) : Int) + 1)), x8]) (st' := []) (w' := w0) (n' := 142) rfl ?_
                      rw [show wrp (((d9 : Nat) : Int) + 1) = ((d9 + 1 : Nat) : Int) from wrp_id (by omega) (by omega)]
                      refine qG.blk 1 (pc' := 82) (ls' := [(2, 95), (0, ((c9 : Nat) : Int)), (0, ((k9 : Nat) : Int)), (0, ((s9 : Nat) : Int)), (0, x4), (0, ((n9 : Nat) : Int)), (0, x6), (0, ((d9 + 1 : Nat) : Int)), x8]) (st' := []) (w' := w0) (n' := 142) rfl ?_
                      exact ih82 _ (by omega) (d9 + 1) (x6) rfl (by omega)
                  · skip
                    refine qG.blk 4 (pc' := 125) (ls' := [(2, 95), (0, ((c9 : Nat) : Int)), (0, ((k9 : Nat) : Int)), (0, ((s9 : Nat) : Int)), (0, x4), (0, ((n9 : Nat) : Int)), (0, x6), (0, 1), (0, 0)]) (st' := []) (w' := w0) (n' := 142) rfl ?_
                    have L125 : ∀ (m9 : Nat) (i9 : Nat) (x7 : Int), 1820 - i9 = m9 → ((i9 : Int) ≤ w0 95 8) → qG none (d + 1) 264 125 [(2, 95), (0, ((c9 : Nat) : Int)), (0, ((k9 : Nat) : Int)), (0, ((s9 : Nat) : Int)), (0, x4), (0, ((n9 : Nat) : Int)), (0, x6), (0, x7), (0, ((i9 : Nat) : Int))] [] w0 142 Q9 := by
                      intro m9
                      induction m9 using Nat.strongRecOn with
                      | ind m9 ih125 =>
                      intro i9 x7 hm125 hI125
                      refine qG.blk 3 (pc' := 131) (ls' := [(2, 95), (0, ((c9 : Nat) : Int)), (0, ((k9 : Nat) : Int)), (0, ((s9 : Nat) : Int)), (0, x4), (0, ((n9 : Nat) : Int)), (0, x6), (0, x7), (0, ((i9 : Nat) : Int))]) (st' := [(0, w0 95 8), (0, ((i9 : Nat) : Int))]) (w' := w0) (n' := 142) rfl ?_
                      refine qG.br (P := ((i9 : Nat) : Int) < w0 95 8) (pc1 := 134) (pc2 := 165) (st1 := []) rfl (fun h4 => ?_) (fun h4 => ?_)
                      · skip
                        refine qG.blk 1 (pc' := 136) (ls' := [(2, 95), (0, ((c9 : Nat) : Int)), (0, ((k9 : Nat) : Int)), (0, ((s9 : Nat) : Int)), (0, x4), (0, ((n9 : Nat) : Int)), (0, x6), (0, x7), (0, ((i9 : Nat) : Int))]) (st' := [(0, x7)]) (w' := w0) (n' := 142) rfl ?_
                        refine qG.br (P := x7 = 0) (pc1 := 165) (pc2 := 139) (st1 := []) rfl (fun h5 => ?_) (fun h5 => ?_)
                        · skip
                          refine qG.blk 1 (pc' := 167) (ls' := [(2, 95), (0, ((c9 : Nat) : Int)), (0, ((k9 : Nat) : Int)), (0, ((s9 : Nat) : Int)), (0, x4), (0, ((n9 : Nat) : Int)), (0, x6), (0, x7), (0, ((i9 : Nat) : Int))]) (st' := [(0, x7)]) (w' := w0) (n' := 142) rfl ?_
                          refine qG.br (P := x7 = 0) (pc1 := 174) (pc2 := 170) (st1 := []) rfl (fun h6 => ?_) (fun h6 => ?_)
                          · skip
                            refine qG.blk 1 (pc' := 177) (ls' := [(2, 95), (0, ((c9 : Nat) : Int)), (0, ((k9 : Nat) : Int)), (0, ((s9 : Nat) : Int)), (0, x4), (0, wrp (((n9 : Nat) : Int) + 1)), (0, x6), (0, x7), (0, ((i9 : Nat) : Int))]) (st' := []) (w' := w0) (n' := 142) rfl ?_
                            rw [show wrp (((n9 : Nat) : Int) + 1) = ((n9 + 1 : Nat) : Int) from wrp_id (by omega) (by omega)]
                            refine qG.blk 1 (pc' := 39) (ls' := [(2, 95), (0, ((c9 : Nat) : Int)), (0, ((k9 : Nat) : Int)), (0, ((s9 : Nat) : Int)), (0, x4), (0, ((n9 + 1 : Nat) : Int)), (0, x6), (0, x7), (0, ((i9 : Nat) : Int))]) (st' := []) (w' := w0) (n' := 142) rfl ?_
                            exact ih39 _ (by omega) (n9 + 1) (x4) ((0, x6)) ((0, x7)) ((0, ((i9 : Nat) : Int))) rfl (by omega)
                          · skip
                            refine qG.blk 3 (pc' := 177) (ls' := [(2, 95), (0, ((c9 : Nat) : Int)), (0, ((k9 : Nat) : Int)), (0, ((s9 : Nat) : Int)), (0, ((n9 : Nat) : Int)), (0, wrp (((n9 : Nat) : Int) + 1)), (0, x6), (0, x7), (0, ((i9 : Nat) : Int))]) (st' := []) (w' := w0) (n' := 142) rfl ?_
                            rw [show wrp (((n9 : Nat) : Int) + 1) = ((n9 + 1 : Nat) : Int) from wrp_id (by omega) (by omega)]
                            refine qG.blk 1 (pc' := 39) (ls' := [(2, 95), (0, ((c9 : Nat) : Int)), (0, ((k9 : Nat) : Int)), (0, ((s9 : Nat) : Int)), (0, ((n9 : Nat) : Int)), (0, ((n9 + 1 : Nat) : Int)), (0, x6), (0, x7), (0, ((i9 : Nat) : Int))]) (st' := []) (w' := w0) (n' := 142) rfl ?_
                            exact ih39 _ (by omega) (n9 + 1) (((n9 : Nat) : Int)) ((0, x6)) ((0, x7)) ((0, ((i9 : Nat) : Int))) rfl (by omega)
                        · skip
                          refine qG.blk 2 (pc' := 143) (ls' := [(2, 95), (0, ((c9 : Nat) : Int)), (0, ((k9 : Nat) : Int)), (0, ((s9 : Nat) : Int)), (0, x4), (0, ((n9 : Nat) : Int)), (0, x6), (0, x7), (0, ((i9 : Nat) : Int))]) (st' := [(2, w0 95 5)]) (w' := w0) (n' := 142) rfl ?_
                          rw [show w0 95 5 = 101 from zref hA0.1 rfl rfl]
                          refine qG.blk 1 (pc' := 145) (ls' := [(2, 95), (0, ((c9 : Nat) : Int)), (0, ((k9 : Nat) : Int)), (0, ((s9 : Nat) : Int)), (0, x4), (0, ((n9 : Nat) : Int)), (0, x6), (0, x7), (0, ((i9 : Nat) : Int))]) (st' := [(0, ((i9 : Nat) : Int)), (2, 101)]) (w' := w0) (n' := 142) rfl ?_
                          refine qG.ild (m := 1820) rfl rfl (by omega) (by decide) ?_
                          show qG none (d + 1) 264 146 [(2, 95), (0, ((c9 : Nat) : Int)), (0, ((k9 : Nat) : Int)), (0, ((s9 : Nat) : Int)), (0, x4), (0, ((n9 : Nat) : Int)), (0, x6), (0, x7), (0, ((i9 : Nat) : Int))] [(0, w0 101 i9)] w0 142 Q9
                          refine qG.blk 2 (pc' := 149) (ls' := [(2, 95), (0, ((c9 : Nat) : Int)), (0, ((k9 : Nat) : Int)), (0, ((s9 : Nat) : Int)), (0, x4), (0, ((n9 : Nat) : Int)), (0, x6), (0, x7), (0, ((i9 : Nat) : Int))]) (st' := [(0, qand (w0 101 i9) x6)]) (w' := w0) (n' := 142) rfl ?_
                          refine qG.br (P := qand (w0 101 i9) x6 = 0) (pc1 := 156) (pc2 := 152) (st1 := []) rfl (fun h7 => ?_) (fun h7 => ?_)
                          · skip
                            refine qG.blk 3 (pc' := 162) (ls' := [(2, 95), (0, ((c9 : Nat) : Int)), (0, ((k9 : Nat) : Int)), (0, ((s9 : Nat) : Int)), (0, x4), (0, ((n9 : Nat) : Int)), (0, x6), (0, 0), (0, wrp (((i9 : Nat) : Int) + 1))]) (st' := []) (w' := w0) (n' := 142) rfl ?_
                            rw [show wrp (((i9 : Nat) : Int) + 1) = ((i9 + 1 : Nat) : Int) from wrp_id (by omega) (by omega)]
                            refine qG.blk 1 (pc' := 125) (ls' := [(2, 95), (0, ((c9 : Nat) : Int)), (0, ((k9 : Nat) : Int)), (0, ((s9 : Nat) : Int)), (0, x4), (0, ((n9 : Nat) : Int)), (0, x6), (0, 0), (0, ((i9 + 1 : Nat) : Int))]) (st' := []) (w' := w0) (n' := 142) rfl ?_
                            exact ih125 _ (by omega) (i9 + 1) (0) rfl (by omega)
                          · skip
                            refine qG.blk 4 (pc' := 162) (ls' := [(2, 95), (0, ((c9 : Nat) : Int)), (0, ((k9 : Nat) : Int)), (0, ((s9 : Nat) : Int)), (0, x4), (0, ((n9 : Nat) : Int)), (0, x6), (0, 1), (0, wrp (((i9 : Nat) : Int) + 1))]) (st' := []) (w' := w0) (n' := 142) rfl ?_
                            rw [show wrp (((i9 : Nat) : Int) + 1) = ((i9 + 1 : Nat) : Int) from wrp_id (by omega) (by omega)]
                            refine qG.blk 1 (pc' := 125) (ls' := [(2, 95), (0, ((c9 : Nat) : Int)), (0, ((k9 : Nat) : Int)), (0, ((s9 : Nat) : Int)), (0, x4), (0, ((n9 : Nat) : Int)), (0, x6), (0, 1), (0, ((i9 + 1 : Nat) : Int))]) (st' := []) (w' := w0) (n' := 142) rfl ?_
                            exact ih125 _ (by omega) (i9 + 1) (1) rfl (by omega)
                      · skip
                        refine qG.blk 1 (pc' := 167) (ls' := [(2, 95), (0, ((c9 : Nat) : Int)), (0, ((k9 : Nat) : Int)), (0, ((s9 : Nat) : Int)), (0, x4), (0, ((n9 : Nat) : Int)), (0, x6), (0, x7), (0, ((i9 : Nat) : Int))]) (st' := [(0, x7)]) (w' := w0) (n' := 142) rfl ?_
                        refine qG.br (P := x7 = 0) (pc1 := 174) (pc2 := 170) (st1 := []) rfl (fun h8 => ?_) (fun h8 => ?_)
                        · skip
                          refine qG.blk 1 (pc' := 177) (ls' := [(2, 95), (0, ((c9 : Nat) : Int)), (0, ((k9 : Nat) : Int)), (0, ((s9 : Nat) : Int)), (0, x4), (0, wrp (((n9 : Nat) : Int) + 1)), (0, x6), (0, x7), (0, ((i9 : Nat) : Int))]) (st' := []) (w' := w0) (n' := 142) rfl ?_
                          rw [show wrp (((n9 : Nat) : Int) + 1) = ((n9 + 1 : Nat) : Int) from wrp_id (by omega) (by omega)]
                          refine qG.blk 1 (pc' := 39) (ls' := [(2, 95), (0, ((c9 : Nat) : Int)), (0, ((k9 : Nat) : Int)), (0, ((s9 : Nat) : Int)), (0, x4), (0, ((n9 + 1 : Nat) : Int)), (0, x6), (0, x7), (0, ((i9 : Nat) : Int))]) (st' := []) (w' := w0) (n' := 142) rfl ?_
                          exact ih39 _ (by omega) (n9 + 1) (x4) ((0, x6)) ((0, x7)) ((0, ((i9 : Nat) : Int))) rfl (by omega)
                        · skip
                          refine qG.blk 3 (pc' := 177) (ls' := [(2, 95), (0, ((c9 : Nat) : Int)), (0, ((k9 : Nat) : Int)), (0, ((s9 : Nat) : Int)), (0, ((n9 : Nat) : Int)), (0, wrp (((n9 : Nat) : Int) + 1)), (0, x6), (0, x7), (0, ((i9 : Nat) : Int))]) (st' := []) (w' := w0) (n' := 142) rfl ?_
                          rw [show wrp (((n9 : Nat) : Int) + 1) = ((n9 + 1 : Nat) : Int) from wrp_id (by omega) (by omega)]
                          refine qG.blk 1 (pc' := 39) (ls' := [(2, 95), (0, ((c9 : Nat) : Int)), (0, ((k9 : Nat) : Int)), (0, ((s9 : Nat) : Int)), (0, ((n9 : Nat) : Int)), (0, ((n9 + 1 : Nat) : Int)), (0, x6), (0, x7), (0, ((i9 : Nat) : Int))]) (st' := []) (w' := w0) (n' := 142) rfl ?_
                          exact ih39 _ (by omega) (n9 + 1) (((n9 : Nat) : Int)) ((0, x6)) ((0, x7)) ((0, ((i9 : Nat) : Int))) rfl (by omega)
                    exact L125 _ (0) (1) rfl (by omega)
                exact L82 _ (0) (0) rfl (by omega)
              · skip
                refine qG.blk 1 (pc' := 62) (ls' := [(2, 95), (0, ((c9 : Nat) : Int)), (0, ((k9 : Nat) : Int)), (0, ((s9 : Nat) : Int)), (0, x4), (0, ((n9 : Nat) : Int)), x6, x7, x8]) (st' := [(0, ((n9 : Nat) : Int))]) (w' := w0) (n' := 142) rfl ?_
                refine qG.call (t := 211) (na := 1) (sk := 0) (md := 0) (ls1 := [(0, ((n9 : Nat) : Int)), (9, 0), (9, 0)]) (r1 := []) rfl rfl rfl rfl rfl (K_bits (Nat.zero_le _) (((n9 : Nat) : Int)) _) ?_
                rintro _ w7 _ ⟨rfl, hw7, rfl⟩
                rw [hw7]
                show qG none (d + 1) 264 65 [(2, 95), (0, ((c9 : Nat) : Int)), (0, ((k9 : Nat) : Int)), (0, ((s9 : Nat) : Int)), (0, x4), (0, ((n9 : Nat) : Int)), x6, x7, x8] [(0, bitsF (((n9 : Nat) : Int)) 16)] w0 142 Q9
                refine qG.blk 1 (pc' := 67) (ls' := [(2, 95), (0, ((c9 : Nat) : Int)), (0, ((k9 : Nat) : Int)), (0, ((s9 : Nat) : Int)), (0, x4), (0, ((n9 : Nat) : Int)), x6, x7, x8]) (st' := [(0, x4), (0, bitsF (((n9 : Nat) : Int)) 16)]) (w' := w0) (n' := 142) rfl ?_
                refine qG.call (t := 211) (na := 1) (sk := 0) (md := 0) (ls1 := [(0, x4), (9, 0), (9, 0)]) (r1 := [(0, bitsF (((n9 : Nat) : Int)) 16)]) rfl rfl rfl rfl rfl (K_bits (Nat.zero_le _) (x4) _) ?_
                rintro _ w7 _ ⟨rfl, hw7, rfl⟩
                rw [hw7]
                show qG none (d + 1) 264 70 [(2, 95), (0, ((c9 : Nat) : Int)), (0, ((k9 : Nat) : Int)), (0, ((s9 : Nat) : Int)), (0, x4), (0, ((n9 : Nat) : Int)), x6, x7, x8] [(0, bitsF (x4) 16), (0, bitsF (((n9 : Nat) : Int)) 16)] w0 142 Q9
                refine qG.br (P := bitsF (((n9 : Nat) : Int)) 16 < bitsF (x4) 16) (pc1 := 76) (pc2 := 73) (st1 := []) rfl (fun h9 => ?_) (fun h9 => ?_)
                · skip
                  refine qG.blk 4 (pc' := 82) (ls' := [(2, 95), (0, ((c9 : Nat) : Int)), (0, ((k9 : Nat) : Int)), (0, ((s9 : Nat) : Int)), (0, x4), (0, ((n9 : Nat) : Int)), (0, 0), (0, 0), x8]) (st' := []) (w' := w0) (n' := 142) rfl ?_
                  have L82_1 : ∀ (m9 : Nat) (d9 : Nat) (x6 : Int), 10 - d9 = m9 → (d9 ≤ 10) → qG none (d + 1) 264 82 [(2, 95), (0, ((c9 : Nat) : Int)), (0, ((k9 : Nat) : Int)), (0, ((s9 : Nat) : Int)), (0, x4), (0, ((n9 : Nat) : Int)), (0, x6), (0, ((d9 : Nat) : Int)), x8] [] w0 142 Q9 := by
                    intro m9
                    induction m9 using Nat.strongRecOn with
                    | ind m9 ih82 =>
                    intro d9 x6 hm82 hI82
                    refine qG.blk 2 (pc' := 86) (ls' := [(2, 95), (0, ((c9 : Nat) : Int)), (0, ((k9 : Nat) : Int)), (0, ((s9 : Nat) : Int)), (0, x4), (0, ((n9 : Nat) : Int)), (0, x6), (0, ((d9 : Nat) : Int)), x8]) (st' := [(0, 10), (0, ((d9 : Nat) : Int))]) (w' := w0) (n' := 142) rfl ?_
                    refine qG.br (P := ((d9 : Nat) : Int) < 10) (pc1 := 89) (pc2 := 119) (st1 := []) rfl (fun hd10 => ?_) (fun hd10 => ?_)
                    · skip
                      refine qG.blk 6 (pc' := 97) (ls' := [(2, 95), (0, ((c9 : Nat) : Int)), (0, ((k9 : Nat) : Int)), (0, ((s9 : Nat) : Int)), (0, x4), (0, ((n9 : Nat) : Int)), (0, x6), (0, ((d9 : Nat) : Int)), x8]) (st' := [(0, 1), (0, qand (qshr ((n9 : Nat) : Int) ((d9 : Nat) : Int)) 1)]) (w' := w0) (n' := 142) rfl ?_
                      refine qG.br (P := qand (qshr ((n9 : Nat) : Int) ((d9 : Nat) : Int)) 1 = 1) (pc1 := 100) (pc2 := 113) (st1 := []) rfl (fun h10 => ?_) (fun h10 => ?_)
                      · skip
                        refine qG.blk 5 (pc' := 107) (ls' := [(2, 95), (0, ((c9 : Nat) : Int)), (0, ((k9 : Nat) : Int)), (0, ((s9 : Nat) : Int)), (0, x4), (0, ((n9 : Nat) : Int)), (0, x6), (0, ((d9 : Nat) : Int)), x8]) (st' := [(0, 1), (0, ((d9 : Nat) : Int)), (0, ((c9 : Nat) : Int)), (2, 95), (0, x6)]) (w' := w0) (n' := 142) rfl ?_
                        refine qG.call (t := 250) (na := 4) (sk := 1) (md := 1) (ls1 := [(2, 95), (0, ((c9 : Nat) : Int)), (0, ((d9 : Nat) : Int)), (0, 1), (9, 0), (9, 0)]) (r1 := [(0, x6)]) rfl rfl rfl rfl rfl (AW.use (c := C_R_through.2) (as := [(2, 95), (0, ((c9 : Nat) : Int)), (0, ((d9 : Nat) : Int)), (0, 1)]) (m := []) T_R_through (AW.rf hA0.1) (Nat.zero_le _) ⟨⟨rfl, by decide, by decide⟩, ⟨rfl, hlc9, huc9⟩, ⟨rfl, Int.natCast_nonneg _, Int.le_of_lt_add_one hd10⟩, ⟨rfl, by decide, by decide⟩, trivial⟩ rfl rfl (by decide +kernel)) ?_
                        rintro _ w7 _ ⟨x, rfl, hx1, hx2, hA7, rfl, -⟩
                        have e7 := hA7.eq
                        rw [e7]
                        show qG none (d + 1) 264 110 [(2, 95), (0, ((c9 : Nat) : Int)), (0, ((k9 : Nat) : Int)), (0, ((s9 : Nat) : Int)), (0, x4), (0, ((n9 : Nat) : Int)), (0, x6), (0, ((d9 : Nat) : Int)), x8] [(0, x), (0, x6)] w0 142 Q9
                        refine qG.blk 3 (pc' := 116) (ls' := [(2, 95), (0, ((c9 : Nat) : Int)), (0, ((k9 : Nat) : Int)), (0, ((s9 : Nat) : Int)), (0, x4), (0, ((n9 : Nat) : Int)), (0, qor x6 x), (0, wrp (((d9 : Nat) : Int) + 1)), x8]) (st' := []) (w' := w0) (n' := 142) rfl ?_
                        rw [show wrp (((d9 : Nat) : Int) + 1) = ((d9 + 1 : Nat) : Int) from wrp_id (by omega) (by omega)]
                        refine qG.blk 1 (pc' := 82) (ls' := [(2, 95), (0, ((c9 : Nat) : Int)), (0, ((k9 : Nat) : Int)), (0, ((s9 : Nat) : Int)), (0, x4), (0, ((n9 : Nat) : Int)), (0, qor x6 x), (0, ((d9 + 1 : Nat) : Int)), x8]) (st' := []) (w' := w0) (n' := 142) rfl ?_
                        exact ih82 _ (by omega) (d9 + 1) (qor x6 x) rfl (by omega)
                      · skip
                        refine qG.blk 1 (pc' := 116) (ls' := [(2, 95), (0, ((c9 : Nat) : Int)), (0, ((k9 : Nat) : Int)), (0, ((s9 : Nat) : Int)), (0, x4), (0, ((n9 : Nat) : Int)), (0, x6), (0, wrp (((d9 : Nat) : Int) + 1)), x8]) (st' := []) (w' := w0) (n' := 142) rfl ?_
                        rw [show wrp (((d9 : Nat) : Int) + 1) = ((d9 + 1 : Nat) : Int) from wrp_id (by omega) (by omega)]
                        refine qG.blk 1 (pc' := 82) (ls' := [(2, 95), (0, ((c9 : Nat) : Int)), (0, ((k9 : Nat) : Int)), (0, ((s9 : Nat) : Int)), (0, x4), (0, ((n9 : Nat) : Int)), (0, x6), (0, ((d9 + 1 : Nat) : Int)), x8]) (st' := []) (w' := w0) (n' := 142) rfl ?_
                        exact ih82 _ (by omega) (d9 + 1) (x6) rfl (by omega)
                    · skip
                      refine qG.blk 4 (pc' := 125) (ls' := [(2, 95), (0, ((c9 : Nat) : Int)), (0, ((k9 : Nat) : Int)), (0, ((s9 : Nat) : Int)), (0, x4), (0, ((n9 : Nat) : Int)), (0, x6), (0, 1), (0, 0)]) (st' := []) (w' := w0) (n' := 142) rfl ?_
                      have L125_1 : ∀ (m9 : Nat) (i9 : Nat) (x7 : Int), 1820 - i9 = m9 → ((i9 : Int) ≤ w0 95 8) → qG none (d + 1) 264 125 [(2, 95), (0, ((c9 : Nat) : Int)), (0, ((k9 : Nat) : Int)), (0, ((s9 : Nat) : Int)), (0, x4), (0, ((n9 : Nat) : Int)), (0, x6), (0, x7), (0, ((i9 : Nat) : Int))] [] w0 142 Q9 := by
                        intro m9
                        induction m9 using Nat.strongRecOn with
                        | ind m9 ih125 =>
                        intro i9 x7 hm125 hI125
                        refine qG.blk 3 (pc' := 131) (ls' := [(2, 95), (0, ((c9 : Nat) : Int)), (0, ((k9 : Nat) : Int)), (0, ((s9 : Nat) : Int)), (0, x4), (0, ((n9 : Nat) : Int)), (0, x6), (0, x7), (0, ((i9 : Nat) : Int))]) (st' := [(0, w0 95 8), (0, ((i9 : Nat) : Int))]) (w' := w0) (n' := 142) rfl ?_
                        refine qG.br (P := ((i9 : Nat) : Int) < w0 95 8) (pc1 := 134) (pc2 := 165) (st1 := []) rfl (fun h11 => ?_) (fun h11 => ?_)
                        · skip
                          refine qG.blk 1 (pc' := 136) (ls' := [(2, 95), (0, ((c9 : Nat) : Int)), (0, ((k9 : Nat) : Int)), (0, ((s9 : Nat) : Int)), (0, x4), (0, ((n9 : Nat) : Int)), (0, x6), (0, x7), (0, ((i9 : Nat) : Int))]) (st' := [(0, x7)]) (w' := w0) (n' := 142) rfl ?_
                          refine qG.br (P := x7 = 0) (pc1 := 165) (pc2 := 139) (st1 := []) rfl (fun h12 => ?_) (fun h12 => ?_)
                          · skip
                            refine qG.blk 1 (pc' := 167) (ls' := [(2, 95), (0, ((c9 : Nat) : Int)), (0, ((k9 : Nat) : Int)), (0, ((s9 : Nat) : Int)), (0, x4), (0, ((n9 : Nat) : Int)), (0, x6), (0, x7), (0, ((i9 : Nat) : Int))]) (st' := [(0, x7)]) (w' := w0) (n' := 142) rfl ?_
                            refine qG.br (P := x7 = 0) (pc1 := 174) (pc2 := 170) (st1 := []) rfl (fun h13 => ?_) (fun h13 => ?_)
                            · skip
                              refine qG.blk 1 (pc' := 177) (ls' := [(2, 95), (0, ((c9 : Nat) : Int)), (0, ((k9 : Nat) : Int)), (0, ((s9 : Nat) : Int)), (0, x4), (0, wrp (((n9 : Nat) : Int) + 1)), (0, x6), (0, x7), (0, ((i9 : Nat) : Int))]) (st' := []) (w' := w0) (n' := 142) rfl ?_
                              rw [show wrp (((n9 : Nat) : Int) + 1) = ((n9 + 1 : Nat) : Int) from wrp_id (by omega) (by omega)]
                              refine qG.blk 1 (pc' := 39) (ls' := [(2, 95), (0, ((c9 : Nat) : Int)), (0, ((k9 : Nat) : Int)), (0, ((s9 : Nat) : Int)), (0, x4), (0, ((n9 + 1 : Nat) : Int)), (0, x6), (0, x7), (0, ((i9 : Nat) : Int))]) (st' := []) (w' := w0) (n' := 142) rfl ?_
                              exact ih39 _ (by omega) (n9 + 1) (x4) ((0, x6)) ((0, x7)) ((0, ((i9 : Nat) : Int))) rfl (by omega)
                            · skip
                              refine qG.blk 3 (pc' := 177) (ls' := [(2, 95), (0, ((c9 : Nat) : Int)), (0, ((k9 : Nat) : Int)), (0, ((s9 : Nat) : Int)), (0, ((n9 : Nat) : Int)), (0, wrp (((n9 : Nat) : Int) + 1)), (0, x6), (0, x7), (0, ((i9 : Nat) : Int))]) (st' := []) (w' := w0) (n' := 142) rfl ?_
                              rw [show wrp (((n9 : Nat) : Int) + 1) = ((n9 + 1 : Nat) : Int) from wrp_id (by omega) (by omega)]
                              refine qG.blk 1 (pc' := 39) (ls' := [(2, 95), (0, ((c9 : Nat) : Int)), (0, ((k9 : Nat) : Int)), (0, ((s9 : Nat) : Int)), (0, ((n9 : Nat) : Int)), (0, ((n9 + 1 : Nat) : Int)), (0, x6), (0, x7), (0, ((i9 : Nat) : Int))]) (st' := []) (w' := w0) (n' := 142) rfl ?_
                              exact ih39 _ (by omega) (n9 + 1) (((n9 : Nat) : Int)) ((0, x6)) ((0, x7)) ((0, ((i9 : Nat) : Int))) rfl (by omega)
                          · skip
                            refine qG.blk 2 (pc' := 143) (ls' := [(2, 95), (0, ((c9 : Nat) : Int)), (0, ((k9 : Nat) : Int)), (0, ((s9 : Nat) : Int)), (0, x4), (0, ((n9 : Nat) : Int)), (0, x6), (0, x7), (0, ((i9 : Nat) : Int))]) (st' := [(2, w0 95 5)]) (w' := w0) (n' := 142) rfl ?_
                            rw [show w0 95 5 = 101 from zref hA0.1 rfl rfl]
                            refine qG.blk 1 (pc' := 145) (ls' := [(2, 95), (0, ((c9 : Nat) : Int)), (0, ((k9 : Nat) : Int)), (0, ((s9 : Nat) : Int)), (0, x4), (0, ((n9 : Nat) : Int)), (0, x6), (0, x7), (0, ((i9 : Nat) : Int))]) (st' := [(0, ((i9 : Nat) : Int)), (2, 101)]) (w' := w0) (n' := 142) rfl ?_
                            refine qG.ild (m := 1820) rfl rfl (by omega) (by decide) ?_
                            show qG none (d + 1) 264 146 [(2, 95), (0, ((c9 : Nat) : Int)), (0, ((k9 : Nat) : Int)), (0, ((s9 : Nat) : Int)), (0, x4), (0, ((n9 : Nat) : Int)), (0, x6), (0, x7), (0, ((i9 : Nat) : Int))] [(0, w0 101 i9)] w0 142 Q9
                            refine qG.blk 2 (pc' := 149) (ls' := [(2, 95), (0, ((c9 : Nat) : Int)), (0, ((k9 : Nat) : Int)), (0, ((s9 : Nat) : Int)), (0, x4), (0, ((n9 : Nat) : Int)), (0, x6), (0, x7), (0, ((i9 : Nat) : Int))]) (st' := [(0, qand (w0 101 i9) x6)]) (w' := w0) (n' := 142) rfl ?_
                            refine qG.br (P := qand (w0 101 i9) x6 = 0) (pc1 := 156) (pc2 := 152) (st1 := []) rfl (fun h14 => ?_) (fun h14 => ?_)
                            · skip
                              refine qG.blk 3 (pc' := 162) (ls' := [(2, 95), (0, ((c9 : Nat) : Int)), (0, ((k9 : Nat) : Int)), (0, ((s9 : Nat) : Int)), (0, x4), (0, ((n9 : Nat) : Int)), (0, x6), (0, 0), (0, wrp (((i9 : Nat) : Int) + 1))]) (st' := []) (w' := w0) (n' := 142) rfl ?_
                              rw [show wrp (((i9 : Nat) : Int) + 1) = ((i9 + 1 : Nat) : Int) from wrp_id (by omega) (by omega)]
                              refine qG.blk 1 (pc' := 125) (ls' := [(2, 95), (0, ((c9 : Nat) : Int)), (0, ((k9 : Nat) : Int)), (0, ((s9 : Nat) : Int)), (0, x4), (0, ((n9 : Nat) : Int)), (0, x6), (0, 0), (0, ((i9 + 1 : Nat) : Int))]) (st' := []) (w' := w0) (n' := 142) rfl ?_
                              exact ih125 _ (by omega) (i9 + 1) (0) rfl (by omega)
                            · skip
                              refine qG.blk 4 (pc' := 162) (ls' := [(2, 95), (0, ((c9 : Nat) : Int)), (0, ((k9 : Nat) : Int)), (0, ((s9 : Nat) : Int)), (0, x4), (0, ((n9 : Nat) : Int)), (0, x6), (0, 1), (0, wrp (((i9 : Nat) : Int) + 1))]) (st' := []) (w' := w0) (n' := 142) rfl ?_
                              rw [show wrp (((i9 : Nat) : Int) + 1) = ((i9 + 1 : Nat) : Int) from wrp_id (by omega) (by omega)]
                              refine qG.blk 1 (pc' := 125) (ls' := [(2, 95), (0, ((c9 : Nat) : Int)), (0, ((k9 : Nat) : Int)), (0, ((s9 : Nat) : Int)), (0, x4), (0, ((n9 : Nat) : Int)), (0, x6), (0, 1), (0, ((i9 + 1 : Nat) : Int))]) (st' := []) (w' := w0) (n' := 142) rfl ?_
                              exact ih125 _ (by omega) (i9 + 1) (1) rfl (by omega)
                        · skip
                          refine qG.blk 1 (pc' := 167) (ls' := [(2, 95), (0, ((c9 : Nat) : Int)), (0, ((k9 : Nat) : Int)), (0, ((s9 : Nat) : Int)), (0, x4), (0, ((n9 : Nat) : Int)), (0, x6), (0, x7), (0, ((i9 : Nat) : Int))]) (st' := [(0, x7)]) (w' := w0) (n' := 142) rfl ?_
                          refine qG.br (P := x7 = 0) (pc1 := 174) (pc2 := 170) (st1 := []) rfl (fun h15 => ?_) (fun h15 => ?_)
                          · skip
                            refine qG.blk 1 (pc' := 177) (ls' := [(2, 95), (0, ((c9 : Nat) : Int)), (0, ((k9 : Nat) : Int)), (0, ((s9 : Nat) : Int)), (0, x4), (0, wrp (((n9 : Nat) : Int) + 1)), (0, x6), (0, x7), (0, ((i9 : Nat) : Int))]) (st' := []) (w' := w0) (n' := 142) rfl ?_
                            rw [show wrp (((n9 : Nat) : Int) + 1) = ((n9 + 1 : Nat) : Int) from wrp_id (by omega) (by omega)]
                            refine qG.blk 1 (pc' := 39) (ls' := [(2, 95), (0, ((c9 : Nat) : Int)), (0, ((k9 : Nat) : Int)), (0, ((s9 : Nat) : Int)), (0, x4), (0, ((n9 + 1 : Nat) : Int)), (0, x6), (0, x7), (0, ((i9 : Nat) : Int))]) (st' := []) (w' := w0) (n' := 142) rfl ?_
                            exact ih39 _ (by omega) (n9 + 1) (x4) ((0, x6)) ((0, x7)) ((0, ((i9 : Nat) : Int))) rfl (by omega)
                          · skip
                            refine qG.blk 3 (pc' := 177) (ls' := [(2, 95), (0, ((c9 : Nat) : Int)), (0, ((k9 : Nat) : Int)), (0, ((s9 : Nat) : Int)), (0, ((n9 : Nat) : Int)), (0, wrp (((n9 : Nat) : Int) + 1)), (0, x6), (0, x7), (0, ((i9 : Nat) : Int))]) (st' := []) (w' := w0) (n' := 142) rfl ?_
                            rw [show wrp (((n9 : Nat) : Int) + 1) = ((n9 + 1 : Nat) : Int) from wrp_id (by omega) (by omega)]
                            refine qG.blk 1 (pc' := 39) (ls' := [(2, 95), (0, ((c9 : Nat) : Int)), (0, ((k9 : Nat) : Int)), (0, ((s9 : Nat) : Int)), (0, ((n9 : Nat) : Int)), (0, ((n9 + 1 : Nat) : Int)), (0, x6), (0, x7), (0, ((i9 : Nat) : Int))]) (st' := []) (w' := w0) (n' := 142) rfl ?_
                            exact ih39 _ (by omega) (n9 + 1) (((n9 : Nat) : Int)) ((0, x6)) ((0, x7)) ((0, ((i9 : Nat) : Int))) rfl (by omega)
                      exact L125_1 _ (0) (1) rfl (by omega)
                  exact L82_1 _ (0) (0) rfl (by omega)
                · skip
                  refine qG.blk 2 (pc' := 177) (ls' := [(2, 95), (0, ((c9 : Nat) : Int)), (0, ((k9 : Nat) : Int)), (0, ((s9 : Nat) : Int)), (0, x4), (0, wrp (((n9 : Nat) : Int) + 1)), x6, x7, x8]) (st' := []) (w' := w0) (n' := 142) rfl ?_
                  rw [show wrp (((n9 : Nat) : Int) + 1) = ((n9 + 1 : Nat) : Int) from wrp_id (by omega) (by omega)]
                  refine qG.blk 1 (pc' := 39) (ls' := [(2, 95), (0, ((c9 : Nat) : Int)), (0, ((k9 : Nat) : Int)), (0, ((s9 : Nat) : Int)), (0, x4), (0, ((n9 + 1 : Nat) : Int)), x6, x7, x8]) (st' := []) (w' := w0) (n' := 142) rfl ?_
                  exact ih39 _ (by omega) (n9 + 1) (x4) (x6) (x7) (x8) rfl (by omega)
            · skip
              refine qG.blk 1 (pc' := 177) (ls' := [(2, 95), (0, ((c9 : Nat) : Int)), (0, ((k9 : Nat) : Int)), (0, ((s9 : Nat) : Int)), (0, x4), (0, wrp (((n9 : Nat) : Int) + 1)), x6, x7, x8]) (st' := []) (w' := w0) (n' := 142) rfl ?_
              rw [show wrp (((n9 : Nat) : Int) + 1) = ((n9 + 1 : Nat) : Int) from wrp_id (by omega) (by omega)]
              refine qG.blk 1 (pc' := 39) (ls' := [(2, 95), (0, ((c9 : Nat) : Int)), (0, ((k9 : Nat) : Int)), (0, ((s9 : Nat) : Int)), (0, x4), (0, ((n9 + 1 : Nat) : Int)), x6, x7, x8]) (st' := []) (w' := w0) (n' := 142) rfl ?_
              exact ih39 _ (by omega) (n9 + 1) (x4) (x6) (x7) (x8) rfl (by omega)
          · skip
            refine qG.blk 1 (pc' := 182) (ls' := [(2, 95), (0, ((c9 : Nat) : Int)), (0, ((k9 : Nat) : Int)), (0, ((s9 : Nat) : Int)), (0, x4), (0, ((n9 : Nat) : Int)), x6, x7, x8]) (st' := [(0, x4)]) (w' := w0) (n' := 142) rfl ?_
            refine qG.ret rfl rfl ?_
            subst hQ9
            first | exact SQ.rf hI hS | exact SQ.mk' hA0 (by decide +kernel) hS0
        exact L39 _ (0) ((-1)) ((9, 0)) ((9, 0)) ((9, 0)) rfl (by omega)
noncomputable def trX (D U : Nat) : Nat := D &&& (1023 - U)
theorem tr_tab : ∀ U : Nat, U < 1024 → qand 1023 (qxor (U : Int) (-1)) = ((1023 - U : Nat) : Int) := by decide +kernel
theorem tr_not : ∀ U : Nat, U < 1024 → ∀ j : Nat, j < 10 → (1023 - U).testBit j = !U.testBit j := by decide +kernel
theorem tr_pow : ∀ j : Nat, j < 10 → qshl 1 (j : Int) = ((2 ^ j : Nat) : Int) ∧ 2 ^ j < 1024 := by decide +kernel
theorem qand_as (x y z : Int) : qand (qand x y) z = qand x (qand y z) := by
  unfold qand
  rw [Int32.ofInt_toInt, Int32.ofInt_toInt, Int32.and_assoc]
theorem tr_and {D U : Nat} (hD : D < 1024) (hU : U < 1024) : qand (D : Int) (qxor (U : Int) (-1)) = ((trX D U : Nat) : Int) := by
  have h1 : qand (D : Int) 1023 = (D : Int) := by
    have h := qand_n (a := D) (b := 1023) (by omega) (by omega)
    have h : qand (D : Int) 1023 = ((D &&& 1023 : Nat) : Int) := h
    rw [h, show D &&& 1023 = D % 1024 from Nat.and_two_pow_sub_one_eq_mod D 10, Nat.mod_eq_of_lt hD]
  rw [← h1, qand_as, tr_tab U hU, qand_n (by omega) (by omega)]
  rfl
theorem trX_lt {D U : Nat} (hD : D < 1024) : trX D U < 1024 := Nat.lt_of_le_of_lt Nat.and_le_left hD
theorem tr_bit {D U j : Nat} (hU : U < 1024) (hj : j < 10) : (trX D U).testBit j = (D.testBit j && !U.testBit j) := by
  unfold trX
  rw [Nat.testBit_and, tr_not U hU j hj]
theorem tr_ult {U j : Nat} (hU : U < 1024) (hj : j < 10) : U ||| 2 ^ j < 1024 := Nat.or_lt_two_pow (n := 10) hU (tr_pow j hj).2
theorem tr_or {U j : Nat} (hU : U < 1024) (hj : j < 10) : qor (U : Int) (qshl 1 (j : Int)) = ((U ||| 2 ^ j : Nat) : Int) := by
  have := (tr_pow j hj).2
  rw [(tr_pow j hj).1, qor_n (by omega) (by omega)]
theorem ctb_lt {f g : Nat → Bool} {x : Nat} : ∀ {m : Nat}, (∀ i, i < m → f i = true → g i = true) → x < m → g x = true → f x = false → ctb f m + 1 ≤ ctb g m
  | 0, _, h, _, _ => absurd h (Nat.not_lt_zero x)
  | m + 1, hm, h, hg, hf => by
    show ctb f m + (bif f m then 1 else 0) + 1 ≤ ctb g m + (bif g m then 1 else 0)
    by_cases e : x = m
    · subst e
      have := ctb_mono (f := f) (g := g) (m := x) (fun i hi => hm i (by omega))
      rw [hg, hf]
      show ctb f x + 0 + 1 ≤ ctb g x + 1
      omega
    · have ih := ctb_lt (f := f) (g := g) (m := m) (fun i hi => hm i (by omega)) (by omega) hg hf
      have k := hm m (by omega)
      cases q1 : f m with
      | false =>
        show ctb f m + 0 + 1 ≤ ctb g m + (bif g m then 1 else 0)
        omega
      | true =>
        rw [k q1]
        show ctb f m + 1 + 1 ≤ ctb g m + 1
        omega
theorem tr_dec {D U j : Nat} (hU : U < 1024) (hj : j < 10) (h : (trX D U).testBit j = true) : pc (trX D (U ||| 2 ^ j)) 10 + 1 ≤ pc (trX D U) 10 := by
  refine ctb_lt (f := fun i => (trX D (U ||| 2 ^ j)).testBit i) (g := fun i => (trX D U).testBit i) (x := j) (fun i hi q => ?_) hj h ?_
  · have q : (trX D (U ||| 2 ^ j)).testBit i = true := q
    rw [tr_bit (tr_ult hU hj) hi, Nat.testBit_or] at q
    show (trX D U).testBit i = true
    rw [tr_bit hU hi]
    revert q
    cases D.testBit i <;> cases U.testBit i <;> cases (2 ^ j).testBit i <;> decide
  · show (trX D (U ||| 2 ^ j)).testBit j = false
    rw [tr_bit (tr_ult hU hj) hj, Nat.testBit_or, Nat.testBit_two_pow_self]
    cases D.testBit j <;> cases U.testBit j <;> rfl
noncomputable def TRM : List Nat := [116, 38095, 39095, 40095, 41095, 42095, 43095, 44095, 101, 102, 103, 9095, 10095, 117, 118, 47095, 120, 121, 51095, 52095]
noncomputable def TQ (w : qW) (r : qV) (w1 : qW) (n1 : Nat) : Prop := r = (9, 0) ∧ n1 = 142 ∧ AW TRM w w1 ∧ S3 w1
theorem TQ.tr {w w9 w1 : qW} {r : qV} {n1 : Nat} (h : AW TRM w w9) (h2 : TQ w9 r w1 n1) : TQ w r w1 n1 := ⟨h2.1, h2.2.1, h.tr h2.2.2.1 (by decide +kernel), h2.2.2.2⟩
noncomputable def TRs (n : Nat) : Prop := ∀ (d : Nat) (w : qW) (c s : Nat) (W : Int) (D U : Nat), 20 - n ≤ d → c < 3 → D < 1024 → (1 ≤ W ∧ W ≤ 5) → (1 ≤ s ∧ s ≤ 4) → U < 1024 → pc (trX D U) 10 + n ≤ 4 → yInv zgf zga zra zSp w → S3 w → qG none d 262 0 [(2, 95), (0, (c : Int)), (0, (D : Int)), (0, W), (0, (s : Int)), (0, (n : Int)), (0, (U : Int)), (9, 0), (9, 0), (9, 0)] [] w 142 (TQ w)
theorem K_tr174 (n : Nat) (hn : n ≤ 4) (IH : n < 4 → TRs (n + 1)) {d : Nat} (hd : 20 - n ≤ d) (c s : Nat) (W : Int) (D U : Nat) (hc : c < 3) (hD : D < 1024) (hW : 1 ≤ W ∧ W ≤ 5) (hk : 1 ≤ s ∧ s ≤ 4) (hU : U < 1024) (hpc : pc (trX D U) 10 + n ≤ 4) (x7 x8 : Int) (x9 : qV) (w : qW) (hI : yInv zgf zga zra zSp w) (hS : S3 w) : qG none d 262 174 [(2, 95), (0, ((c : Nat) : Int)), (0, ((D : Nat) : Int)), (0, W), (0, ((s : Nat) : Int)), (0, ((n : Nat) : Int)), (0, ((U : Nat) : Int)), (0, x7), (0, x8), x9] [] w 142 (TQ w) := by
  generalize hQ9 : (TQ w) = Q9
  obtain ⟨d, rfl⟩ : ∃ d9, d = d9 + 1 := ⟨d - 1, by omega⟩
  refine qG.blk 2 (pc' := 177) (ls' := [(2, 95), (0, ((c : Nat) : Int)), (0, ((D : Nat) : Int)), (0, W), (0, ((s : Nat) : Int)), (0, ((n : Nat) : Int)), (0, ((U : Nat) : Int)), (0, x7), (0, x8), (0, 0)]) (st' := []) (w' := w) (n' := 142) rfl ?_
  have L177 : ∀ (m9 : Nat) (j : Nat) (w9 : qW), 10 - j = m9 → (j ≤ 10 ∧ AW TRM w w9 ∧ S3 w9) → qG none (d + 1) 262 177 [(2, 95), (0, ((c : Nat) : Int)), (0, ((D : Nat) : Int)), (0, W), (0, ((s : Nat) : Int)), (0, ((n : Nat) : Int)), (0, ((U : Nat) : Int)), (0, x7), (0, x8), (0, ((j : Nat) : Int))] [] w9 142 Q9 := by
    intro m9
    induction m9 using Nat.strongRecOn with
    | ind m9 ih177 =>
    intro j w9 hm177 hI177
    refine qG.blk 2 (pc' := 181) (ls' := [(2, 95), (0, ((c : Nat) : Int)), (0, ((D : Nat) : Int)), (0, W), (0, ((s : Nat) : Int)), (0, ((n : Nat) : Int)), (0, ((U : Nat) : Int)), (0, x7), (0, x8), (0, ((j : Nat) : Int))]) (st' := [(0, 10), (0, ((j : Nat) : Int))]) (w' := w9) (n' := 142) rfl ?_
    refine qG.br (P := ((j : Nat) : Int) < 10) (pc1 := 184) (pc2 := 236) (st1 := []) rfl (fun h1 => ?_) (fun h1 => ?_)
    · skip
      refine qG.blk 5 (pc' := 190) (ls' := [(2, 95), (0, ((c : Nat) : Int)), (0, ((D : Nat) : Int)), (0, W), (0, ((s : Nat) : Int)), (0, ((n : Nat) : Int)), (0, ((U : Nat) : Int)), (0, x7), (0, x8), (0, ((j : Nat) : Int))]) (st' := [(0, qand ((D : Nat) : Int) (qxor ((U : Nat) : Int) (-1)))]) (w' := w9) (n' := 142) rfl ?_
      rw [show qand ((D : Nat) : Int) (qxor ((U : Nat) : Int) (-1)) = ((trX D U : Nat) : Int) from tr_and hD hU]
      refine qG.blk 4 (pc' := 195) (ls' := [(2, 95), (0, ((c : Nat) : Int)), (0, ((D : Nat) : Int)), (0, W), (0, ((s : Nat) : Int)), (0, ((n : Nat) : Int)), (0, ((U : Nat) : Int)), (0, x7), (0, x8), (0, ((j : Nat) : Int))]) (st' := [(0, qand (qshr ((trX D U : Nat) : Int) ((j : Nat) : Int)) 1)]) (w' := w9) (n' := 142) rfl ?_
      rw [show qand (qshr ((trX D U : Nat) : Int) ((j : Nat) : Int)) 1 = (if (trX D U).testBit j = true then 1 else 0) from hb_bit (Nat.lt_of_lt_of_le (trX_lt hD) (by decide)) (by omega)]
      refine qG.br (P := (if (trX D U).testBit j = true then 1 else 0) = 0) (pc1 := 198) (pc2 := 201) (st1 := []) rfl (fun htb => ?_) (fun htb => ?_)
      · skip
        refine qG.blk 2 (pc' := 233) (ls' := [(2, 95), (0, ((c : Nat) : Int)), (0, ((D : Nat) : Int)), (0, W), (0, ((s : Nat) : Int)), (0, ((n : Nat) : Int)), (0, ((U : Nat) : Int)), (0, x7), (0, x8), (0, wrp (((j : Nat) : Int) + 1))]) (st' := []) (w' := w9) (n' := 142) rfl ?_
        rw [show wrp (((j : Nat) : Int) + 1) = ((j + 1 : Nat) : Int) from wrp_id (by omega) (by omega)]
        refine qG.blk 1 (pc' := 177) (ls' := [(2, 95), (0, ((c : Nat) : Int)), (0, ((D : Nat) : Int)), (0, W), (0, ((s : Nat) : Int)), (0, ((n : Nat) : Int)), (0, ((U : Nat) : Int)), (0, x7), (0, x8), (0, ((j + 1 : Nat) : Int))]) (st' := []) (w' := w9) (n' := 142) rfl ?_
        exact ih177 _ (by omega) (j + 1) (w9) rfl (⟨by omega, hI177.2.1, hI177.2.2⟩)
      · skip
        have htb2 : (trX D U).testBit j = true := Decidable.of_not_not (fun z => htb (ite01.mpr z))
        have hj9 : j < 10 := by omega
        have hdec := tr_dec hU hj9 htb2
        have hA10 : AW TRM w (qup w9 120 n ((j : Nat) : Int)) := hI177.2.1.upd (by decide) rfl (zup_a hI177.2.1.1 (b := (0, 9)) rfl rfl ⟨by show (0 : Int) ≤ _; omega, by show _ ≤ (9 : Int); omega⟩)
        have hS10 : S3 (qup w9 120 n ((j : Nat) : Int)) := hI177.2.2.cong (by rw [qup_ne (by decide)]) (fun i => by rw [qup_ne (by decide)]) (fun i => by rw [qup_ne (by decide)])
        refine qG.blk 2 (pc' := 205) (ls' := [(2, 95), (0, ((c : Nat) : Int)), (0, ((D : Nat) : Int)), (0, W), (0, ((s : Nat) : Int)), (0, ((n : Nat) : Int)), (0, ((U : Nat) : Int)), (0, x7), (0, x8), (0, ((j : Nat) : Int))]) (st' := [(2, w9 95 48)]) (w' := w9) (n' := 142) rfl ?_
        rw [show w9 95 48 = 120 from zref hI177.2.1.1 rfl rfl]
        refine qG.blk 2 (pc' := 209) (ls' := [(2, 95), (0, ((c : Nat) : Int)), (0, ((D : Nat) : Int)), (0, W), (0, ((s : Nat) : Int)), (0, ((n : Nat) : Int)), (0, ((U : Nat) : Int)), (0, x7), (0, x8), (0, ((j : Nat) : Int))]) (st' := [(0, ((j : Nat) : Int)), (0, ((n : Nat) : Int)), (2, 120)]) (w' := w9) (n' := 142) rfl ?_
        refine qG.ar (P := 0 ≤ ((n : Nat) : Int) ∧ ((n : Nat) : Int) < ((4 : Nat) : Int)) (P2 := 0 < (120 : Int) ∧ (120 : Int) ≤ ((142 : Nat) : Int)) (pc' := 210) (ls' := [(2, 95), (0, ((c : Nat) : Int)), (0, ((D : Nat) : Int)), (0, W), (0, ((s : Nat) : Int)), (0, ((n : Nat) : Int)), (0, ((U : Nat) : Int)), (0, x7), (0, x8), (0, ((j : Nat) : Int))]) (st' := []) (w' := (qup w9 120 n ((j : Nat) : Int))) (n' := 142) rfl (by omega) (by decide) ?_
        refine qG.blk 8 (pc' := 220) (ls' := [(2, 95), (0, ((c : Nat) : Int)), (0, ((D : Nat) : Int)), (0, W), (0, ((s : Nat) : Int)), (0, ((n : Nat) : Int)), (0, ((U : Nat) : Int)), (0, x7), (0, x8), (0, ((j : Nat) : Int))]) (st' := [(0, wrp (((n : Nat) : Int) + 1)), (0, ((s : Nat) : Int)), (0, W), (0, ((D : Nat) : Int)), (0, ((c : Nat) : Int)), (2, 95)]) (w' := (qup w9 120 n ((j : Nat) : Int))) (n' := 142) rfl ?_
        rw [show wrp (((n : Nat) : Int) + 1) = ((n + 1 : Nat) : Int) from by rw [wrp_id (by omega) (by omega)]; omega]
        refine qG.blk 5 (pc' := 227) (ls' := [(2, 95), (0, ((c : Nat) : Int)), (0, ((D : Nat) : Int)), (0, W), (0, ((s : Nat) : Int)), (0, ((n : Nat) : Int)), (0, ((U : Nat) : Int)), (0, x7), (0, x8), (0, ((j : Nat) : Int))]) (st' := [(0, qor ((U : Nat) : Int) (qshl 1 ((j : Nat) : Int))), (0, ((n + 1 : Nat) : Int)), (0, ((s : Nat) : Int)), (0, W), (0, ((D : Nat) : Int)), (0, ((c : Nat) : Int)), (2, 95)]) (w' := (qup w9 120 n ((j : Nat) : Int))) (n' := 142) rfl ?_
        rw [show qor ((U : Nat) : Int) (qshl 1 ((j : Nat) : Int)) = ((U ||| 2 ^ j : Nat) : Int) from tr_or hU hj9]
        refine qG.call (t := 262) (na := 7) (sk := 1) (md := 1) (ls1 := [(2, 95), (0, ((c : Nat) : Int)), (0, ((D : Nat) : Int)), (0, W), (0, ((s : Nat) : Int)), (0, ((n + 1 : Nat) : Int)), (0, ((U ||| 2 ^ j : Nat) : Int)), (9, 0), (9, 0), (9, 0)]) (r1 := []) rfl rfl rfl rfl rfl (IH (by omega) d (qup w9 120 n ((j : Nat) : Int)) c s W D (U ||| 2 ^ j) (by omega) hc hD hW hk (tr_ult hU hj9) (by omega) hA10.1 hS10) ?_
        rintro _ w7 _ ⟨rfl, rfl, hA7, hS7⟩
        show qG none (d + 1) 262 230 [(2, 95), (0, ((c : Nat) : Int)), (0, ((D : Nat) : Int)), (0, W), (0, ((s : Nat) : Int)), (0, ((n : Nat) : Int)), (0, ((U : Nat) : Int)), (0, x7), (0, x8), (0, ((j : Nat) : Int))] [] w7 142 Q9
        refine qG.blk 1 (pc' := 233) (ls' := [(2, 95), (0, ((c : Nat) : Int)), (0, ((D : Nat) : Int)), (0, W), (0, ((s : Nat) : Int)), (0, ((n : Nat) : Int)), (0, ((U : Nat) : Int)), (0, x7), (0, x8), (0, wrp (((j : Nat) : Int) + 1))]) (st' := []) (w' := w7) (n' := 142) rfl ?_
        rw [show wrp (((j : Nat) : Int) + 1) = ((j + 1 : Nat) : Int) from wrp_id (by omega) (by omega)]
        refine qG.blk 1 (pc' := 177) (ls' := [(2, 95), (0, ((c : Nat) : Int)), (0, ((D : Nat) : Int)), (0, W), (0, ((s : Nat) : Int)), (0, ((n : Nat) : Int)), (0, ((U : Nat) : Int)), (0, x7), (0, x8), (0, ((j + 1 : Nat) : Int))]) (st' := []) (w' := w7) (n' := 142) rfl ?_
        exact ih177 _ (by omega) (j + 1) (w7) rfl (⟨by omega, hA10.tr hA7 (by decide +kernel), hS7⟩)
    · skip
      refine qG.retv rfl rfl ?_
      subst hQ9
      exact ⟨rfl, rfl, hI177.2.1, hI177.2.2⟩
  exact L177 _ (0) (w) rfl (⟨by omega, AW.rf hI, hS⟩)
theorem K_tr117 (n : Nat) (hn : n ≤ 4) (IH : n < 4 → TRs (n + 1)) {d : Nat} (hd : 20 - n ≤ d) (c s : Nat) (W : Int) (D U : Nat) (hc : c < 3) (hD : D < 1024) (hW : 1 ≤ W ∧ W ≤ 5) (hk : 1 ≤ s ∧ s ≤ 4) (hU : U < 1024) (hpc : pc (trX D U) 10 + n ≤ 4) (x7 b : Int) (hx7 : yin (0, 16) x7) (x9 : qV) (w : qW) (hI : yInv zgf zga zra zSp w) (hS : S3 w) : qG none d 262 117 [(2, 95), (0, ((c : Nat) : Int)), (0, ((D : Nat) : Int)), (0, W), (0, ((s : Nat) : Int)), (0, ((n : Nat) : Int)), (0, ((U : Nat) : Int)), (0, x7), (0, b), x9] [] w 142 (TQ w) := by
  generalize hQ9 : (TQ w) = Q9
  obtain ⟨d, rfl⟩ : ∃ d9, d = d9 + 1 := ⟨d - 1, by omega⟩
  refine qG.blk 1 (pc' := 119) (ls' := [(2, 95), (0, ((c : Nat) : Int)), (0, ((D : Nat) : Int)), (0, W), (0, ((s : Nat) : Int)), (0, ((n : Nat) : Int)), (0, ((U : Nat) : Int)), (0, x7), (0, b), x9]) (st' := [(0, b)]) (w' := w) (n' := 142) rfl ?_
  refine qG.br (P := b = 0) (pc1 := 174) (pc2 := 122) (st1 := []) rfl (fun h1 => ?_) (fun h1 => ?_)
  · skip
    subst hQ9
    exact qG.mono (K_tr174 n hn IH hd c s W D U hc hD hW hk hU hpc x7 b x9 w hI hS) (fun _ _ _ hh => TQ.tr (AW.rf hI) hh)
  · skip
    refine qG.blk 3 (pc' := 126) (ls' := [(2, 95), (0, ((c : Nat) : Int)), (0, ((D : Nat) : Int)), (0, W), (0, ((s : Nat) : Int)), (0, ((n : Nat) : Int)), (0, ((U : Nat) : Int)), (0, x7), (0, b), x9]) (st' := [(0, ((s : Nat) : Int)), (0, ((c : Nat) : Int)), (2, 95)]) (w' := w) (n' := 142) rfl ?_
    refine qG.call (t := 257) (na := 3) (sk := 1) (md := 1) (ls1 := [(2, 95), (0, ((c : Nat) : Int)), (0, ((s : Nat) : Int)), (9, 0), (9, 0), (9, 0), (9, 0)]) (r1 := []) rfl rfl rfl rfl rfl (K_hides (by omega) c s hc hk.1 hk.2 w hI hS) ?_
    rintro _ w1 _ ⟨rfl, w0, hfp, hA0, hS0, hH, N, S, t, hN, hSS, htS, rfl, htc⟩
    have hA1 : AW TRM w w1 := (hd_aw hA0 hH).mono (by decide +kernel)
    have hS3 := hd_s3 hS0 hH
    show qG none (d + 1) 262 129 [(2, 95), (0, ((c : Nat) : Int)), (0, ((D : Nat) : Int)), (0, W), (0, ((s : Nat) : Int)), (0, ((n : Nat) : Int)), (0, ((U : Nat) : Int)), (0, x7), (0, b), x9] [(0, ((cntF (cF w0 t) N : Nat) : Int))] w1 142 Q9
    refine qG.br (P := 0 < ((cntF (cF w0 t) N : Nat) : Int)) (pc1 := 132) (pc2 := 174) (st1 := []) rfl (fun h2 => ?_) (fun h2 => ?_)
    · skip
      refine qG.blk 8 (pc' := 147) (ls' := [(2, 95), (0, ((c : Nat) : Int)), (0, ((D : Nat) : Int)), (0, W), (0, ((s : Nat) : Int)), (0, ((n : Nat) : Int)), (0, ((U : Nat) : Int)), (0, x7), (0, b), (0, 0)]) (st' := []) (w' := (qup (qup w1 95 50 ((n : Nat) : Int)) 95 51 x7)) (n' := 142) rfl ?_
      have L147 : ∀ (m9 : Nat) (j : Nat) (w9 : qW), n - j = m9 → (j ≤ n ∧ AW TRM w w9 ∧ S3 w9) → qG none (d + 1) 262 147 [(2, 95), (0, ((c : Nat) : Int)), (0, ((D : Nat) : Int)), (0, W), (0, ((s : Nat) : Int)), (0, ((n : Nat) : Int)), (0, ((U : Nat) : Int)), (0, x7), (0, b), (0, ((j : Nat) : Int))] [] w9 142 Q9 := by
        intro m9
        induction m9 using Nat.strongRecOn with
        | ind m9 ih147 =>
        intro j w9 hm147 hI147
        have h120 := hI147.2.1.1.2.1 120 j (0, 9) rfl rfl
        refine qG.blk 2 (pc' := 151) (ls' := [(2, 95), (0, ((c : Nat) : Int)), (0, ((D : Nat) : Int)), (0, W), (0, ((s : Nat) : Int)), (0, ((n : Nat) : Int)), (0, ((U : Nat) : Int)), (0, x7), (0, b), (0, ((j : Nat) : Int))]) (st' := [(0, ((n : Nat) : Int)), (0, ((j : Nat) : Int))]) (w' := w9) (n' := 142) rfl ?_
        refine qG.br (P := ((j : Nat) : Int) < ((n : Nat) : Int)) (pc1 := 154) (pc2 := 174) (st1 := []) rfl (fun h3 => ?_) (fun h3 => ?_)
        · skip
          refine qG.blk 2 (pc' := 158) (ls' := [(2, 95), (0, ((c : Nat) : Int)), (0, ((D : Nat) : Int)), (0, W), (0, ((s : Nat) : Int)), (0, ((n : Nat) : Int)), (0, ((U : Nat) : Int)), (0, x7), (0, b), (0, ((j : Nat) : Int))]) (st' := [(2, w9 95 49)]) (w' := w9) (n' := 142) rfl ?_
          rw [show w9 95 49 = 121 from zref hI147.2.1.1 rfl rfl]
          refine qG.blk 3 (pc' := 164) (ls' := [(2, 95), (0, ((c : Nat) : Int)), (0, ((D : Nat) : Int)), (0, W), (0, ((s : Nat) : Int)), (0, ((n : Nat) : Int)), (0, ((U : Nat) : Int)), (0, x7), (0, b), (0, ((j : Nat) : Int))]) (st' := [(2, w9 95 48), (0, ((j : Nat) : Int)), (2, 121)]) (w' := w9) (n' := 142) rfl ?_
          rw [show w9 95 48 = 120 from zref hI147.2.1.1 rfl rfl]
          refine qG.blk 1 (pc' := 166) (ls' := [(2, 95), (0, ((c : Nat) : Int)), (0, ((D : Nat) : Int)), (0, W), (0, ((s : Nat) : Int)), (0, ((n : Nat) : Int)), (0, ((U : Nat) : Int)), (0, x7), (0, b), (0, ((j : Nat) : Int))]) (st' := [(0, ((j : Nat) : Int)), (2, 120), (0, ((j : Nat) : Int)), (2, 121)]) (w' := w9) (n' := 142) rfl ?_
          refine qG.ar (P := 0 ≤ ((j : Nat) : Int) ∧ ((j : Nat) : Int) < ((4 : Nat) : Int)) (P2 := 0 < (120 : Int) ∧ (120 : Int) ≤ ((142 : Nat) : Int)) (pc' := 167) (ls' := [(2, 95), (0, ((c : Nat) : Int)), (0, ((D : Nat) : Int)), (0, W), (0, ((s : Nat) : Int)), (0, ((n : Nat) : Int)), (0, ((U : Nat) : Int)), (0, x7), (0, b), (0, ((j : Nat) : Int))]) (st' := [(0, w9 120 j), (0, ((j : Nat) : Int)), (2, 121)]) (w' := w9) (n' := 142) rfl (by omega) (by decide) ?_
          refine qG.ar (P := 0 ≤ ((j : Nat) : Int) ∧ ((j : Nat) : Int) < ((4 : Nat) : Int)) (P2 := 0 < (121 : Int) ∧ (121 : Int) ≤ ((142 : Nat) : Int)) (pc' := 168) (ls' := [(2, 95), (0, ((c : Nat) : Int)), (0, ((D : Nat) : Int)), (0, W), (0, ((s : Nat) : Int)), (0, ((n : Nat) : Int)), (0, ((U : Nat) : Int)), (0, x7), (0, b), (0, ((j : Nat) : Int))]) (st' := []) (w' := (qup w9 121 j (w9 120 j))) (n' := 142) rfl (by omega) (by decide) ?_
          refine qG.blk 1 (pc' := 171) (ls' := [(2, 95), (0, ((c : Nat) : Int)), (0, ((D : Nat) : Int)), (0, W), (0, ((s : Nat) : Int)), (0, ((n : Nat) : Int)), (0, ((U : Nat) : Int)), (0, x7), (0, b), (0, wrp (((j : Nat) : Int) + 1))]) (st' := []) (w' := (qup w9 121 j (w9 120 j))) (n' := 142) rfl ?_
          rw [show wrp (((j : Nat) : Int) + 1) = ((j + 1 : Nat) : Int) from wrp_id (by omega) (by omega)]
          refine qG.blk 1 (pc' := 147) (ls' := [(2, 95), (0, ((c : Nat) : Int)), (0, ((D : Nat) : Int)), (0, W), (0, ((s : Nat) : Int)), (0, ((n : Nat) : Int)), (0, ((U : Nat) : Int)), (0, x7), (0, b), (0, ((j + 1 : Nat) : Int))]) (st' := []) (w' := (qup w9 121 j (w9 120 j))) (n' := 142) rfl ?_
          exact ih147 _ (by omega) (j + 1) ((qup w9 121 j (w9 120 j))) rfl (⟨by omega, hI147.2.1.upd (by decide) rfl (zup_a hI147.2.1.1 (b := (0, 9)) rfl rfl h120), hI147.2.2.cong (by rw [qup_ne (by decide)]) (fun i => by rw [qup_ne (by decide)]) (fun i => by rw [qup_ne (by decide)])⟩)
        · skip
          subst hQ9
          exact qG.mono (K_tr174 n hn IH hd c s W D U hc hD hW hk hU hpc x7 b (0, ((j : Nat) : Int)) w9 hI147.2.1.1 hI147.2.2) (fun _ _ _ hh => TQ.tr (hI147.2.1) hh)
      exact L147 _ (0) ((qup (qup w1 95 50 ((n : Nat) : Int)) 95 51 x7)) rfl (⟨by omega, (hA1.upd (p := 95) (j := 50) (v := ((n : Nat) : Int)) (by decide) rfl (zup_f hA1.1 (b := (-1, 4)) rfl rfl rfl ⟨by show (-1 : Int) ≤ _; omega, by show _ ≤ (4 : Int); omega⟩)).upd (p := 95) (j := 51) (v := x7) (by decide) rfl (zup_f (zup_f hA1.1 (b := (-1, 4)) rfl rfl rfl ⟨by show (-1 : Int) ≤ _; omega, by show _ ≤ (4 : Int); omega⟩) (b := (0, 16)) rfl rfl rfl hx7), hS3.cong ((qup_j (by decide)).trans (qup_j (by decide))) (fun i => by rw [qup_ne (by decide), qup_ne (by decide)]) (fun i => by rw [qup_ne (by decide), qup_ne (by decide)])⟩)
    · skip
      subst hQ9
      exact qG.mono (K_tr174 n hn IH hd c s W D U hc hD hW hk hU hpc x7 b x9 w1 hA1.1 hS3) (fun _ _ _ hh => TQ.tr (hA1) hh)
theorem bg_aw {w : qW} (hI : yInv zgf zga zra zSp w) : AW SHM w (begW w) := ⟨begW_I hI, fun p j hp => begW_o (fun z => by
  obtain ⟨z1, z2, z3⟩ := z
  have := hp (by omega)
  rw [z1] at this
  rcases (show j = 37 ∨ j = 38 ∨ j = 39 ∨ j = 40 ∨ j = 41 ∨ j = 42 ∨ j = 43 by omega) with e | e | e | e | e | e | e <;> (rw [e] at this; cases this))⟩
theorem do_aw {w w1 : qW} {c : Nat} {kind what : Int} (h : AW SHM w w1) (hw : yin (-2147483648, 2147483647) what) (hs : w1 95 37 + (dN kind what : Nat) ≤ 800) : AW SHM w (doesW w1 c kind what) := ⟨doesW_I h.1 hw hs, fun p j hp => (doesW_o (fun z => (by have := hp (by omega); rw [z] at this; cases this)) (fun z => by
  obtain ⟨z1, z2, z3⟩ := z
  have := hp (by omega)
  rw [z1] at this
  rcases (show j = 37 ∨ j = 38 ∨ j = 39 ∨ j = 40 ∨ j = 41 ∨ j = 42 ∨ j = 43 by omega) with e | e | e | e | e | e | e <;> (rw [e] at this; cases this))).trans (h.2 p j hp)⟩
theorem K_tr0 (n : Nat) (hn : n ≤ 4) (IH : n < 4 → TRs (n + 1)) {d : Nat} (hd : 20 - n ≤ d) (c s : Nat) (W : Int) (D U : Nat) (hc : c < 3) (hD : D < 1024) (hW : 1 ≤ W ∧ W ≤ 5) (hk : 1 ≤ s ∧ s ≤ 4) (hU : U < 1024) (hpc : pc (trX D U) 10 + n ≤ 4) (w : qW) (hI : yInv zgf zga zra zSp w) (hS : S3 w) : qG none d 262 0 [(2, 95), (0, ((c : Nat) : Int)), (0, ((D : Nat) : Int)), (0, W), (0, ((s : Nat) : Int)), (0, ((n : Nat) : Int)), (0, ((U : Nat) : Int)), (9, 0), (9, 0), (9, 0)] [] w 142 (TQ w) := by
  generalize hQ9 : (TQ w) = Q9
  obtain ⟨d, rfl⟩ : ∃ d9, d = d9 + 1 := ⟨d - 1, by omega⟩
  refine qG.blk 1 (pc' := 1) (ls' := [(2, 95), (0, ((c : Nat) : Int)), (0, ((D : Nat) : Int)), (0, W), (0, ((s : Nat) : Int)), (0, ((n : Nat) : Int)), (0, ((U : Nat) : Int)), (9, 0), (9, 0), (9, 0)]) (st' := [(2, 95)]) (w' := w) (n' := 142) rfl ?_
  refine qG.call (t := 251) (na := 1) (sk := 1) (md := 1) (ls1 := [(2, 95)]) (r1 := []) rfl rfl rfl rfl rfl (K_begins (Nat.zero_le _) w hI) ?_
  rintro _ wb _ ⟨rfl, hwb, rfl⟩
  have hAb : AW SHM w wb := hwb ▸ bg_aw hI
  have hsb : wb 95 37 = 0 := hwb ▸ begW_37
  show qG none (d + 1) 262 4 [(2, 95), (0, ((c : Nat) : Int)), (0, ((D : Nat) : Int)), (0, W), (0, ((s : Nat) : Int)), (0, ((n : Nat) : Int)), (0, ((U : Nat) : Int)), (9, 0), (9, 0), (9, 0)] [] wb 142 Q9
  refine qG.blk 2 (pc' := 7) (ls' := [(2, 95), (0, ((c : Nat) : Int)), (0, ((D : Nat) : Int)), (0, W), (0, ((s : Nat) : Int)), (0, ((n : Nat) : Int)), (0, ((U : Nat) : Int)), (0, 0), (9, 0), (9, 0)]) (st' := []) (w' := wb) (n' := 142) rfl ?_
  have L7 : ∀ (m9 : Nat) (k : Nat) (w9 : qW), n - k = m9 → (k ≤ n ∧ AW SHM w w9 ∧ w9 95 37 ≤ 8 * (k : Int)) → qG none (d + 1) 262 7 [(2, 95), (0, ((c : Nat) : Int)), (0, ((D : Nat) : Int)), (0, W), (0, ((s : Nat) : Int)), (0, ((n : Nat) : Int)), (0, ((U : Nat) : Int)), (0, ((k : Nat) : Int)), (9, 0), (9, 0)] [] w9 142 Q9 := by
    intro m9
    induction m9 using Nat.strongRecOn with
    | ind m9 ih7 =>
    intro k w9 hm7 hI7
    refine qG.blk 2 (pc' := 11) (ls' := [(2, 95), (0, ((c : Nat) : Int)), (0, ((D : Nat) : Int)), (0, W), (0, ((s : Nat) : Int)), (0, ((n : Nat) : Int)), (0, ((U : Nat) : Int)), (0, ((k : Nat) : Int)), (9, 0), (9, 0)]) (st' := [(0, ((n : Nat) : Int)), (0, ((k : Nat) : Int))]) (w' := w9) (n' := 142) rfl ?_
    refine qG.br (P := ((k : Nat) : Int) < ((n : Nat) : Int)) (pc1 := 14) (pc2 := 66) (st1 := []) rfl (fun h1 => ?_) (fun h1 => ?_)
    · skip
      refine qG.blk 5 (pc' := 21) (ls' := [(2, 95), (0, ((c : Nat) : Int)), (0, ((D : Nat) : Int)), (0, W), (0, ((s : Nat) : Int)), (0, ((n : Nat) : Int)), (0, ((U : Nat) : Int)), (0, ((k : Nat) : Int)), (9, 0), (9, 0)]) (st' := [(2, w9 95 48), (0, 3), (0, ((c : Nat) : Int)), (2, 95)]) (w' := w9) (n' := 142) rfl ?_
      rw [show w9 95 48 = 120 from zref hI7.2.1.1 rfl rfl]
      refine qG.blk 1 (pc' := 23) (ls' := [(2, 95), (0, ((c : Nat) : Int)), (0, ((D : Nat) : Int)), (0, W), (0, ((s : Nat) : Int)), (0, ((n : Nat) : Int)), (0, ((U : Nat) : Int)), (0, ((k : Nat) : Int)), (9, 0), (9, 0)]) (st' := [(0, ((k : Nat) : Int)), (2, 120), (0, 3), (0, ((c : Nat) : Int)), (2, 95)]) (w' := w9) (n' := 142) rfl ?_
      refine qG.ar (P := 0 ≤ ((k : Nat) : Int) ∧ ((k : Nat) : Int) < ((4 : Nat) : Int)) (P2 := 0 < (120 : Int) ∧ (120 : Int) ≤ ((142 : Nat) : Int)) (pc' := 24) (ls' := [(2, 95), (0, ((c : Nat) : Int)), (0, ((D : Nat) : Int)), (0, W), (0, ((s : Nat) : Int)), (0, ((n : Nat) : Int)), (0, ((U : Nat) : Int)), (0, ((k : Nat) : Int)), (9, 0), (9, 0)]) (st' := [(0, w9 120 k), (0, 3), (0, ((c : Nat) : Int)), (2, 95)]) (w' := w9) (n' := 142) rfl (by omega) (by decide) ?_
      have h1202 := hI7.2.1.1.2.1 120 k (0, 9) rfl rfl
      have u1202 : (0 : Int) ≤ w9 120 k := h1202.1
      have v1202 : w9 120 k ≤ (9 : Int) := h1202.2
      have hdn2 : dN 3 (w9 120 k) = 1 := rfl
      refine qG.call (t := 252) (na := 4) (sk := 1) (md := 1) (ls1 := [(2, 95), (0, ((c : Nat) : Int)), (0, 3), (0, w9 120 k), (9, 0), (9, 0)]) (r1 := []) rfl rfl rfl rfl rfl (K_does (by omega) c 3 (w9 120 k) hc ⟨by decide, by decide⟩ ⟨by show (-2147483648 : Int) ≤ _; omega, by show _ ≤ (2147483647 : Int); omega⟩ w9 hI7.2.1.1 (by rw [hdn2]; omega)) ?_
      rintro _ w2 _ ⟨rfl, hw2, rfl⟩
      have hA2 : AW SHM w w2 := hw2 ▸ do_aw hI7.2.1 ⟨by show (-2147483648 : Int) ≤ _; omega, by show _ ≤ (2147483647 : Int); omega⟩ (by rw [hdn2]; omega)
      have hs2 : w2 95 37 ≤ 8 * (k : Int) + (1) := by rw [hw2, doesW_s hI7.2.1.1, hdn2]; omega
      show qG none (d + 1) 262 27 [(2, 95), (0, ((c : Nat) : Int)), (0, ((D : Nat) : Int)), (0, W), (0, ((s : Nat) : Int)), (0, ((n : Nat) : Int)), (0, ((U : Nat) : Int)), (0, ((k : Nat) : Int)), (9, 0), (9, 0)] [] w2 142 Q9
      refine qG.blk 5 (pc' := 34) (ls' := [(2, 95), (0, ((c : Nat) : Int)), (0, ((D : Nat) : Int)), (0, W), (0, ((s : Nat) : Int)), (0, ((n : Nat) : Int)), (0, ((U : Nat) : Int)), (0, ((k : Nat) : Int)), (9, 0), (9, 0)]) (st' := [(2, w2 95 48), (0, 0), (0, ((c : Nat) : Int)), (2, 95)]) (w' := w2) (n' := 142) rfl ?_
      rw [show w2 95 48 = 120 from zref hA2.1 rfl rfl]
      refine qG.blk 1 (pc' := 36) (ls' := [(2, 95), (0, ((c : Nat) : Int)), (0, ((D : Nat) : Int)), (0, W), (0, ((s : Nat) : Int)), (0, ((n : Nat) : Int)), (0, ((U : Nat) : Int)), (0, ((k : Nat) : Int)), (9, 0), (9, 0)]) (st' := [(0, ((k : Nat) : Int)), (2, 120), (0, 0), (0, ((c : Nat) : Int)), (2, 95)]) (w' := w2) (n' := 142) rfl ?_
      refine qG.ar (P := 0 ≤ ((k : Nat) : Int) ∧ ((k : Nat) : Int) < ((4 : Nat) : Int)) (P2 := 0 < (120 : Int) ∧ (120 : Int) ≤ ((142 : Nat) : Int)) (pc' := 37) (ls' := [(2, 95), (0, ((c : Nat) : Int)), (0, ((D : Nat) : Int)), (0, W), (0, ((s : Nat) : Int)), (0, ((n : Nat) : Int)), (0, ((U : Nat) : Int)), (0, ((k : Nat) : Int)), (9, 0), (9, 0)]) (st' := [(0, w2 120 k), (0, 0), (0, ((c : Nat) : Int)), (2, 95)]) (w' := w2) (n' := 142) rfl (by omega) (by decide) ?_
      have h1203 := hA2.1.2.1 120 k (0, 9) rfl rfl
      have u1203 : (0 : Int) ≤ w2 120 k := h1203.1
      have v1203 : w2 120 k ≤ (9 : Int) := h1203.2
      have hdn3 : dN 0 (w2 120 k) = 1 := rfl
      refine qG.call (t := 252) (na := 4) (sk := 1) (md := 1) (ls1 := [(2, 95), (0, ((c : Nat) : Int)), (0, 0), (0, w2 120 k), (9, 0), (9, 0)]) (r1 := []) rfl rfl rfl rfl rfl (K_does (by omega) c 0 (w2 120 k) hc ⟨by decide, by decide⟩ ⟨by show (-2147483648 : Int) ≤ _; omega, by show _ ≤ (2147483647 : Int); omega⟩ w2 hA2.1 (by rw [hdn3]; omega)) ?_
      rintro _ w3 _ ⟨rfl, hw3, rfl⟩
      have hA3 : AW SHM w w3 := hw3 ▸ do_aw hA2 ⟨by show (-2147483648 : Int) ≤ _; omega, by show _ ≤ (2147483647 : Int); omega⟩ (by rw [hdn3]; omega)
      have hs3 : w3 95 37 ≤ 8 * (k : Int) + (2) := by rw [hw3, doesW_s hA2.1, hdn3]; omega
      show qG none (d + 1) 262 40 [(2, 95), (0, ((c : Nat) : Int)), (0, ((D : Nat) : Int)), (0, W), (0, ((s : Nat) : Int)), (0, ((n : Nat) : Int)), (0, ((U : Nat) : Int)), (0, ((k : Nat) : Int)), (9, 0), (9, 0)] [] w3 142 Q9
      refine qG.blk 4 (pc' := 44) (ls' := [(2, 95), (0, ((c : Nat) : Int)), (0, ((D : Nat) : Int)), (0, W), (0, ((s : Nat) : Int)), (0, ((n : Nat) : Int)), (0, ((U : Nat) : Int)), (0, ((k : Nat) : Int)), (9, 0), (9, 0)]) (st' := [(0, W), (0, 2), (0, ((c : Nat) : Int)), (2, 95)]) (w' := w3) (n' := 142) rfl ?_
      have hdn4 : dN 2 (W) = (W).toNat := rfl
      refine qG.call (t := 252) (na := 4) (sk := 1) (md := 1) (ls1 := [(2, 95), (0, ((c : Nat) : Int)), (0, 2), (0, W), (9, 0), (9, 0)]) (r1 := []) rfl rfl rfl rfl rfl (K_does (by omega) c 2 (W) hc ⟨by decide, by decide⟩ ⟨by show (-2147483648 : Int) ≤ _; omega, by show _ ≤ (2147483647 : Int); omega⟩ w3 hA3.1 (by rw [hdn4]; omega)) ?_
      rintro _ w4 _ ⟨rfl, hw4, rfl⟩
      have hA4 : AW SHM w w4 := hw4 ▸ do_aw hA3 ⟨by show (-2147483648 : Int) ≤ _; omega, by show _ ≤ (2147483647 : Int); omega⟩ (by rw [hdn4]; omega)
      have hs4 : w4 95 37 ≤ 8 * (k : Int) + (2 + W) := by rw [hw4, doesW_s hA3.1, hdn4]; omega
      show qG none (d + 1) 262 47 [(2, 95), (0, ((c : Nat) : Int)), (0, ((D : Nat) : Int)), (0, W), (0, ((s : Nat) : Int)), (0, ((n : Nat) : Int)), (0, ((U : Nat) : Int)), (0, ((k : Nat) : Int)), (9, 0), (9, 0)] [] w4 142 Q9
      refine qG.blk 5 (pc' := 54) (ls' := [(2, 95), (0, ((c : Nat) : Int)), (0, ((D : Nat) : Int)), (0, W), (0, ((s : Nat) : Int)), (0, ((n : Nat) : Int)), (0, ((U : Nat) : Int)), (0, ((k : Nat) : Int)), (9, 0), (9, 0)]) (st' := [(2, w4 95 48), (0, 1), (0, ((c : Nat) : Int)), (2, 95)]) (w' := w4) (n' := 142) rfl ?_
      rw [show w4 95 48 = 120 from zref hA4.1 rfl rfl]
      refine qG.blk 1 (pc' := 56) (ls' := [(2, 95), (0, ((c : Nat) : Int)), (0, ((D : Nat) : Int)), (0, W), (0, ((s : Nat) : Int)), (0, ((n : Nat) : Int)), (0, ((U : Nat) : Int)), (0, ((k : Nat) : Int)), (9, 0), (9, 0)]) (st' := [(0, ((k : Nat) : Int)), (2, 120), (0, 1), (0, ((c : Nat) : Int)), (2, 95)]) (w' := w4) (n' := 142) rfl ?_
      refine qG.ar (P := 0 ≤ ((k : Nat) : Int) ∧ ((k : Nat) : Int) < ((4 : Nat) : Int)) (P2 := 0 < (120 : Int) ∧ (120 : Int) ≤ ((142 : Nat) : Int)) (pc' := 57) (ls' := [(2, 95), (0, ((c : Nat) : Int)), (0, ((D : Nat) : Int)), (0, W), (0, ((s : Nat) : Int)), (0, ((n : Nat) : Int)), (0, ((U : Nat) : Int)), (0, ((k : Nat) : Int)), (9, 0), (9, 0)]) (st' := [(0, w4 120 k), (0, 1), (0, ((c : Nat) : Int)), (2, 95)]) (w' := w4) (n' := 142) rfl (by omega) (by decide) ?_
      have h1205 := hA4.1.2.1 120 k (0, 9) rfl rfl
      have u1205 : (0 : Int) ≤ w4 120 k := h1205.1
      have v1205 : w4 120 k ≤ (9 : Int) := h1205.2
      have hdn5 : dN 1 (w4 120 k) = 1 := rfl
      refine qG.call (t := 252) (na := 4) (sk := 1) (md := 1) (ls1 := [(2, 95), (0, ((c : Nat) : Int)), (0, 1), (0, w4 120 k), (9, 0), (9, 0)]) (r1 := []) rfl rfl rfl rfl rfl (K_does (by omega) c 1 (w4 120 k) hc ⟨by decide, by decide⟩ ⟨by show (-2147483648 : Int) ≤ _; omega, by show _ ≤ (2147483647 : Int); omega⟩ w4 hA4.1 (by rw [hdn5]; omega)) ?_
      rintro _ w5 _ ⟨rfl, hw5, rfl⟩
      have hA5 : AW SHM w w5 := hw5 ▸ do_aw hA4 ⟨by show (-2147483648 : Int) ≤ _; omega, by show _ ≤ (2147483647 : Int); omega⟩ (by rw [hdn5]; omega)
      have hs5 : w5 95 37 ≤ 8 * (k : Int) + (3 + W) := by rw [hw5, doesW_s hA4.1, hdn5]; omega
      show qG none (d + 1) 262 60 [(2, 95), (0, ((c : Nat) : Int)), (0, ((D : Nat) : Int)), (0, W), (0, ((s : Nat) : Int)), (0, ((n : Nat) : Int)), (0, ((U : Nat) : Int)), (0, ((k : Nat) : Int)), (9, 0), (9, 0)] [] w5 142 Q9
      refine qG.blk 1 (pc' := 63) (ls' := [(2, 95), (0, ((c : Nat) : Int)), (0, ((D : Nat) : Int)), (0, W), (0, ((s : Nat) : Int)), (0, ((n : Nat) : Int)), (0, ((U : Nat) : Int)), (0, wrp (((k : Nat) : Int) + 1)), (9, 0), (9, 0)]) (st' := []) (w' := w5) (n' := 142) rfl ?_
      rw [show wrp (((k : Nat) : Int) + 1) = ((k + 1 : Nat) : Int) from wrp_id (by omega) (by omega)]
      refine qG.blk 1 (pc' := 7) (ls' := [(2, 95), (0, ((c : Nat) : Int)), (0, ((D : Nat) : Int)), (0, W), (0, ((s : Nat) : Int)), (0, ((n : Nat) : Int)), (0, ((U : Nat) : Int)), (0, ((k + 1 : Nat) : Int)), (9, 0), (9, 0)]) (st' := []) (w' := w5) (n' := 142) rfl ?_
      exact ih7 _ (by omega) (k + 1) (w5) rfl (⟨by omega, hA5, by have := hs5; omega⟩)
    · skip
      refine qG.blk 2 (pc' := 70) (ls' := [(2, 95), (0, ((c : Nat) : Int)), (0, ((D : Nat) : Int)), (0, W), (0, ((s : Nat) : Int)), (0, ((n : Nat) : Int)), (0, ((U : Nat) : Int)), (0, ((k : Nat) : Int)), (9, 0), (9, 0)]) (st' := [(0, w9 95 38)]) (w' := w9) (n' := 142) rfl ?_
      refine qG.call (t := 211) (na := 1) (sk := 0) (md := 0) (ls1 := [(0, w9 95 38), (9, 0), (9, 0)]) (r1 := []) rfl rfl rfl rfl rfl (K_bits (Nat.zero_le _) (w9 95 38) _) ?_
      rintro _ w7 _ ⟨rfl, hw7, rfl⟩
      rw [hw7]
      show qG none (d + 1) 262 73 [(2, 95), (0, ((c : Nat) : Int)), (0, ((D : Nat) : Int)), (0, W), (0, ((s : Nat) : Int)), (0, ((n : Nat) : Int)), (0, ((U : Nat) : Int)), (0, ((k : Nat) : Int)), (9, 0), (9, 0)] [(0, bitsF (w9 95 38) 16)] w9 142 Q9
      refine qG.blk 4 (pc' := 80) (ls' := [(2, 95), (0, ((c : Nat) : Int)), (0, ((D : Nat) : Int)), (0, W), (0, ((s : Nat) : Int)), (0, ((n : Nat) : Int)), (0, ((U : Nat) : Int)), (0, bitsF (w9 95 38) 16), (9, 0), (9, 0)]) (st' := [(0, (-1)), (0, w9 95 50)]) (w' := w9) (n' := 142) rfl ?_
      refine qG.br (P := w9 95 50 = (-1)) (pc1 := 110) (pc2 := 83) (st1 := []) rfl (fun h6 => ?_) (fun h6 => ?_)
      · skip
        refine qG.blk 3 (pc' := 117) (ls' := [(2, 95), (0, ((c : Nat) : Int)), (0, ((D : Nat) : Int)), (0, W), (0, ((s : Nat) : Int)), (0, ((n : Nat) : Int)), (0, ((U : Nat) : Int)), (0, bitsF (w9 95 38) 16), (0, 1), (9, 0)]) (st' := []) (w' := w9) (n' := 142) rfl ?_
        subst hQ9
        exact qG.mono (K_tr117 n hn IH hd c s W D U hc hD hW hk hU hpc (bitsF (w9 95 38) 16) 1 (bitsF_in _ 16) (9, 0) w9 hI7.2.1.1 (hS.aw hI7.2.1 rfl (by decide) (by decide))) (fun _ _ _ hh => TQ.tr (hI7.2.1.mono (by decide +kernel)) hh)
      · skip
        refine qG.blk 3 (pc' := 89) (ls' := [(2, 95), (0, ((c : Nat) : Int)), (0, ((D : Nat) : Int)), (0, W), (0, ((s : Nat) : Int)), (0, ((n : Nat) : Int)), (0, ((U : Nat) : Int)), (0, bitsF (w9 95 38) 16), (9, 0), (9, 0)]) (st' := [(0, w9 95 51), (0, bitsF (w9 95 38) 16)]) (w' := w9) (n' := 142) rfl ?_
        refine qG.br (P := w9 95 51 < bitsF (w9 95 38) 16) (pc1 := 110) (pc2 := 92) (st1 := []) rfl (fun h7 => ?_) (fun h7 => ?_)
        · skip
          refine qG.blk 3 (pc' := 117) (ls' := [(2, 95), (0, ((c : Nat) : Int)), (0, ((D : Nat) : Int)), (0, W), (0, ((s : Nat) : Int)), (0, ((n : Nat) : Int)), (0, ((U : Nat) : Int)), (0, bitsF (w9 95 38) 16), (0, 1), (9, 0)]) (st' := []) (w' := w9) (n' := 142) rfl ?_
          subst hQ9
          exact qG.mono (K_tr117 n hn IH hd c s W D U hc hD hW hk hU hpc (bitsF (w9 95 38) 16) 1 (bitsF_in _ 16) (9, 0) w9 hI7.2.1.1 (hS.aw hI7.2.1 rfl (by decide) (by decide))) (fun _ _ _ hh => TQ.tr (hI7.2.1.mono (by decide +kernel)) hh)
        · skip
          refine qG.blk 3 (pc' := 98) (ls' := [(2, 95), (0, ((c : Nat) : Int)), (0, ((D : Nat) : Int)), (0, W), (0, ((s : Nat) : Int)), (0, ((n : Nat) : Int)), (0, ((U : Nat) : Int)), (0, bitsF (w9 95 38) 16), (9, 0), (9, 0)]) (st' := [(0, w9 95 51), (0, bitsF (w9 95 38) 16)]) (w' := w9) (n' := 142) rfl ?_
          refine qG.br (P := bitsF (w9 95 38) 16 = w9 95 51) (pc1 := 101) (pc2 := 114) (st1 := []) rfl (fun h8 => ?_) (fun h8 => ?_)
          · skip
            refine qG.blk 3 (pc' := 107) (ls' := [(2, 95), (0, ((c : Nat) : Int)), (0, ((D : Nat) : Int)), (0, W), (0, ((s : Nat) : Int)), (0, ((n : Nat) : Int)), (0, ((U : Nat) : Int)), (0, bitsF (w9 95 38) 16), (9, 0), (9, 0)]) (st' := [(0, w9 95 50), (0, ((n : Nat) : Int))]) (w' := w9) (n' := 142) rfl ?_
            refine qG.br (P := ((n : Nat) : Int) < w9 95 50) (pc1 := 110) (pc2 := 114) (st1 := []) rfl (fun h9 => ?_) (fun h9 => ?_)
            · skip
              refine qG.blk 3 (pc' := 117) (ls' := [(2, 95), (0, ((c : Nat) : Int)), (0, ((D : Nat) : Int)), (0, W), (0, ((s : Nat) : Int)), (0, ((n : Nat) : Int)), (0, ((U : Nat) : Int)), (0, bitsF (w9 95 38) 16), (0, 1), (9, 0)]) (st' := []) (w' := w9) (n' := 142) rfl ?_
              subst hQ9
              exact qG.mono (K_tr117 n hn IH hd c s W D U hc hD hW hk hU hpc (bitsF (w9 95 38) 16) 1 (bitsF_in _ 16) (9, 0) w9 hI7.2.1.1 (hS.aw hI7.2.1 rfl (by decide) (by decide))) (fun _ _ _ hh => TQ.tr (hI7.2.1.mono (by decide +kernel)) hh)
            · skip
              refine qG.blk 2 (pc' := 117) (ls' := [(2, 95), (0, ((c : Nat) : Int)), (0, ((D : Nat) : Int)), (0, W), (0, ((s : Nat) : Int)), (0, ((n : Nat) : Int)), (0, ((U : Nat) : Int)), (0, bitsF (w9 95 38) 16), (0, 0), (9, 0)]) (st' := []) (w' := w9) (n' := 142) rfl ?_
              subst hQ9
              exact qG.mono (K_tr117 n hn IH hd c s W D U hc hD hW hk hU hpc (bitsF (w9 95 38) 16) 0 (bitsF_in _ 16) (9, 0) w9 hI7.2.1.1 (hS.aw hI7.2.1 rfl (by decide) (by decide))) (fun _ _ _ hh => TQ.tr (hI7.2.1.mono (by decide +kernel)) hh)
          · skip
            refine qG.blk 2 (pc' := 117) (ls' := [(2, 95), (0, ((c : Nat) : Int)), (0, ((D : Nat) : Int)), (0, W), (0, ((s : Nat) : Int)), (0, ((n : Nat) : Int)), (0, ((U : Nat) : Int)), (0, bitsF (w9 95 38) 16), (0, 0), (9, 0)]) (st' := []) (w' := w9) (n' := 142) rfl ?_
            subst hQ9
            exact qG.mono (K_tr117 n hn IH hd c s W D U hc hD hW hk hU hpc (bitsF (w9 95 38) 16) 0 (bitsF_in _ 16) (9, 0) w9 hI7.2.1.1 (hS.aw hI7.2.1 rfl (by decide) (by decide))) (fun _ _ _ hh => TQ.tr (hI7.2.1.mono (by decide +kernel)) hh)
  exact L7 _ (0) (wb) rfl (⟨by omega, hAb, by rw [hsb]; decide⟩)
theorem TR_4 : TRs 4 := fun d w c s W D U hd hc hD hW hk hU hpc hI hS => K_tr0 4 (by decide) (fun h => absurd h (by decide)) hd c s W D U hc hD hW hk hU hpc w hI hS
theorem TR_3 : TRs 3 := fun d w c s W D U hd hc hD hW hk hU hpc hI hS => K_tr0 3 (by decide) (fun h => TR_4) hd c s W D U hc hD hW hk hU hpc w hI hS
theorem TR_2 : TRs 2 := fun d w c s W D U hd hc hD hW hk hU hpc hI hS => K_tr0 2 (by decide) (fun h => TR_3) hd c s W D U hc hD hW hk hU hpc w hI hS
theorem TR_1 : TRs 1 := fun d w c s W D U hd hc hD hW hk hU hpc hI hS => K_tr0 1 (by decide) (fun h => TR_2) hd c s W D U hc hD hW hk hU hpc w hI hS
theorem TR_0 : TRs 0 := fun d w c s W D U hd hc hD hW hk hU hpc hI hS => K_tr0 0 (by decide) (fun h => TR_1) hd c s W D U hc hD hW hk hU hpc w hI hS
theorem trD_0 : ∀ D : Nat, D < 1024 → pc (trX D 0) 10 = pc D 16 := by decide +kernel
theorem K_order {d : Nat} (hd : 22 ≤ d) (c D W s v : Int) (w : qW) (hI : yInv zgf zga zra zSp w) (hS : S3 w) : qG none d 263 0 [(2, 95), (0, c), (0, D), (0, W), (0, s), (0, v)] [] w 142 (SQ TRM w) := by
  generalize hQ9 : (SQ TRM w) = Q9
  obtain ⟨d, rfl⟩ : ∃ d9, d = d9 + 1 := ⟨d - 1, by omega⟩
  refine qG.blk 1 (pc' := 1) (ls' := [(2, 95), (0, c), (0, D), (0, W), (0, s), (0, v)]) (st' := [(0, c)]) (w' := w) (n' := 142) rfl ?_
  refine qG.call (t := 207) (na := 1) (sk := 0) (md := 0) (ls1 := [(0, c)]) (r1 := []) rfl rfl rfl rfl rfl (K_isChest (by omega) _ _) ?_
  rintro _ w7 _ ⟨rfl, hw7, rfl⟩
  rw [hw7]
  show qG none (d + 1) 263 4 [(2, 95), (0, c), (0, D), (0, W), (0, s), (0, v)] [(0, isInV c 0 2)] w 142 Q9
  refine qG.br (P := isInV c 0 2 = 0) (pc1 := 53) (pc2 := 7) (st1 := []) rfl (fun hc0 => ?_) (fun hc0 => ?_)
  · skip
    refine qG.blk 1 (pc' := 54) (ls' := [(2, 95), (0, c), (0, D), (0, W), (0, s), (0, v)]) (st' := [(0, (-1))]) (w' := w) (n' := 142) rfl ?_
    refine qG.ret rfl rfl ?_
    subst hQ9
    first | exact SQ.rf hI hS | exact SQ.mk' hA1 (by decide +kernel) hS1
  · skip
    obtain ⟨c9, rfl, hlc9, huc9⟩ := isIn_n (by decide) hc0
    refine qG.blk 3 (pc' := 12) (ls' := [(2, 95), (0, ((c9 : Nat) : Int)), (0, D), (0, W), (0, s), (0, v)]) (st' := [(0, 1023), (0, 0), (0, D)]) (w' := w) (n' := 142) rfl ?_
    refine qG.call (t := 206) (na := 3) (sk := 0) (md := 0) (ls1 := [(0, D), (0, 0), (0, 1023)]) (r1 := []) rfl rfl rfl rfl rfl (K_isIn (Nat.zero_le _) _ _ _ _) ?_
    rintro _ w7 _ ⟨rfl, hw7, rfl⟩
    rw [hw7]
    show qG none (d + 1) 263 15 [(2, 95), (0, ((c9 : Nat) : Int)), (0, D), (0, W), (0, s), (0, v)] [(0, isInV (D) (0) (1023))] w 142 Q9
    refine qG.br (P := isInV (D) (0) (1023) = 0) (pc1 := 53) (pc2 := 18) (st1 := []) rfl (fun hD0 => ?_) (fun hD0 => ?_)
    · skip
      refine qG.blk 1 (pc' := 54) (ls' := [(2, 95), (0, ((c9 : Nat) : Int)), (0, D), (0, W), (0, s), (0, v)]) (st' := [(0, (-1))]) (w' := w) (n' := 142) rfl ?_
      refine qG.ret rfl rfl ?_
      subst hQ9
      first | exact SQ.rf hI hS | exact SQ.mk' hA1 (by decide +kernel) hS1
    · skip
      obtain ⟨D9, rfl, hlD9, huD9⟩ := isIn_n (by decide) hD0
      refine qG.blk 1 (pc' := 19) (ls' := [(2, 95), (0, ((c9 : Nat) : Int)), (0, ((D9 : Nat) : Int)), (0, W), (0, s), (0, v)]) (st' := [(0, ((D9 : Nat) : Int))]) (w' := w) (n' := 142) rfl ?_
      refine qG.call (t := 211) (na := 1) (sk := 0) (md := 0) (ls1 := [(0, ((D9 : Nat) : Int)), (9, 0), (9, 0)]) (r1 := []) rfl rfl rfl rfl rfl (K_bits (Nat.zero_le _) (((D9 : Nat) : Int)) _) ?_
      rintro _ w7 _ ⟨rfl, hw7, rfl⟩
      rw [hw7]
      show qG none (d + 1) 263 22 [(2, 95), (0, ((c9 : Nat) : Int)), (0, ((D9 : Nat) : Int)), (0, W), (0, s), (0, v)] [(0, bitsF (((D9 : Nat) : Int)) 16)] w 142 Q9
      refine qG.blk 1 (pc' := 23) (ls' := [(2, 95), (0, ((c9 : Nat) : Int)), (0, ((D9 : Nat) : Int)), (0, W), (0, s), (0, v)]) (st' := [(0, 4), (0, bitsF (((D9 : Nat) : Int)) 16)]) (w' := w) (n' := 142) rfl ?_
      refine qG.br (P := 4 < bitsF (((D9 : Nat) : Int)) 16) (pc1 := 53) (pc2 := 26) (st1 := []) rfl (fun hb4 => ?_) (fun hb4 => ?_)
      · skip
        refine qG.blk 1 (pc' := 54) (ls' := [(2, 95), (0, ((c9 : Nat) : Int)), (0, ((D9 : Nat) : Int)), (0, W), (0, s), (0, v)]) (st' := [(0, (-1))]) (w' := w) (n' := 142) rfl ?_
        refine qG.ret rfl rfl ?_
        subst hQ9
        first | exact SQ.rf hI hS | exact SQ.mk' hA1 (by decide +kernel) hS1
      · skip
        refine qG.blk 3 (pc' := 29) (ls' := [(2, 95), (0, ((c9 : Nat) : Int)), (0, ((D9 : Nat) : Int)), (0, W), (0, s), (0, v)]) (st' := [(0, 5), (0, 1), (0, W)]) (w' := w) (n' := 142) rfl ?_
        refine qG.call (t := 206) (na := 3) (sk := 0) (md := 0) (ls1 := [(0, W), (0, 1), (0, 5)]) (r1 := []) rfl rfl rfl rfl rfl (K_isIn (Nat.zero_le _) _ _ _ _) ?_
        rintro _ w7 _ ⟨rfl, hw7, rfl⟩
        rw [hw7]
        show qG none (d + 1) 263 32 [(2, 95), (0, ((c9 : Nat) : Int)), (0, ((D9 : Nat) : Int)), (0, W), (0, s), (0, v)] [(0, isInV (W) (1) (5))] w 142 Q9
        refine qG.br (P := isInV (W) (1) (5) = 0) (pc1 := 53) (pc2 := 35) (st1 := []) rfl (fun hW0 => ?_) (fun hW0 => ?_)
        · skip
          refine qG.blk 1 (pc' := 54) (ls' := [(2, 95), (0, ((c9 : Nat) : Int)), (0, ((D9 : Nat) : Int)), (0, W), (0, s), (0, v)]) (st' := [(0, (-1))]) (w' := w) (n' := 142) rfl ?_
          refine qG.ret rfl rfl ?_
          subst hQ9
          first | exact SQ.rf hI hS | exact SQ.mk' hA1 (by decide +kernel) hS1
        · skip
          obtain ⟨W8, hW8, hlW8, huW8⟩ := isIn_n (by decide) hW0
          have hW9 : 1 ≤ W ∧ W ≤ 5 := ⟨by omega, by omega⟩
          refine qG.blk 1 (pc' := 37) (ls' := [(2, 95), (0, ((c9 : Nat) : Int)), (0, ((D9 : Nat) : Int)), (0, W), (0, s), (0, v)]) (st' := [(0, s)]) (w' := w) (n' := 142) rfl ?_
          refine qG.call (t := 210) (na := 1) (sk := 0) (md := 0) (ls1 := [(0, s)]) (r1 := []) rfl rfl rfl rfl rfl (K_isSize (by omega) _ _) ?_
          rintro _ w7 _ ⟨rfl, hw7, rfl⟩
          rw [hw7]
          show qG none (d + 1) 263 40 [(2, 95), (0, ((c9 : Nat) : Int)), (0, ((D9 : Nat) : Int)), (0, W), (0, s), (0, v)] [(0, isInV s 1 4)] w 142 Q9
          refine qG.br (P := isInV s 1 4 = 0) (pc1 := 53) (pc2 := 43) (st1 := []) rfl (fun hs0 => ?_) (fun hs0 => ?_)
          · skip
            refine qG.blk 1 (pc' := 54) (ls' := [(2, 95), (0, ((c9 : Nat) : Int)), (0, ((D9 : Nat) : Int)), (0, W), (0, s), (0, v)]) (st' := [(0, (-1))]) (w' := w) (n' := 142) rfl ?_
            refine qG.ret rfl rfl ?_
            subst hQ9
            first | exact SQ.rf hI hS | exact SQ.mk' hA1 (by decide +kernel) hS1
          · skip
            obtain ⟨s9, rfl, hls9, hus9⟩ := isIn_n (by decide) hs0
            refine qG.blk 3 (pc' := 47) (ls' := [(2, 95), (0, ((c9 : Nat) : Int)), (0, ((D9 : Nat) : Int)), (0, W), (0, ((s9 : Nat) : Int)), (0, v)]) (st' := [(0, 5), (0, 0), (0, v)]) (w' := w) (n' := 142) rfl ?_
            refine qG.call (t := 206) (na := 3) (sk := 0) (md := 0) (ls1 := [(0, v), (0, 0), (0, 5)]) (r1 := []) rfl rfl rfl rfl rfl (K_isIn (Nat.zero_le _) _ _ _ _) ?_
            rintro _ w7 _ ⟨rfl, hw7, rfl⟩
            rw [hw7]
            show qG none (d + 1) 263 50 [(2, 95), (0, ((c9 : Nat) : Int)), (0, ((D9 : Nat) : Int)), (0, W), (0, ((s9 : Nat) : Int)), (0, v)] [(0, isInV (v) (0) (5))] w 142 Q9
            refine qG.br (P := isInV (v) (0) (5) = 0) (pc1 := 53) (pc2 := 55) (st1 := []) rfl (fun hv0 => ?_) (fun hv0 => ?_)
            · skip
              refine qG.blk 1 (pc' := 54) (ls' := [(2, 95), (0, ((c9 : Nat) : Int)), (0, ((D9 : Nat) : Int)), (0, W), (0, ((s9 : Nat) : Int)), (0, v)]) (st' := [(0, (-1))]) (w' := w) (n' := 142) rfl ?_
              refine qG.ret rfl rfl ?_
              subst hQ9
              first | exact SQ.rf hI hS | exact SQ.mk' hA1 (by decide +kernel) hS1
            · skip
              obtain ⟨v9, rfl, hlv9, huv9⟩ := isIn_n (by decide) hv0
              have hAq : AW TRM w (qup w 95 50 (-1)) := (AW.rf hI).upd (by decide) rfl (zup_f hI (b := (-1, 4)) rfl rfl rfl ⟨by decide, by decide⟩)
              have hSq : S3 (qup w 95 50 (-1)) := hS.cong (qup_j (by decide)) (fun i => by rw [qup_ne (by decide)]) (fun i => by rw [qup_ne (by decide)])
              refine qG.blk 10 (pc' := 68) (ls' := [(2, 95), (0, ((c9 : Nat) : Int)), (0, ((D9 : Nat) : Int)), (0, W), (0, ((s9 : Nat) : Int)), (0, ((v9 : Nat) : Int))]) (st' := [(0, 0), (0, 0), (0, ((s9 : Nat) : Int)), (0, W), (0, ((D9 : Nat) : Int)), (0, ((c9 : Nat) : Int)), (2, 95)]) (w' := (qup w 95 50 (-1))) (n' := 142) rfl ?_
              refine qG.call (t := 262) (na := 7) (sk := 1) (md := 1) (ls1 := [(2, 95), (0, ((c9 : Nat) : Int)), (0, ((D9 : Nat) : Int)), (0, W), (0, ((s9 : Nat) : Int)), (0, 0), (0, 0), (9, 0), (9, 0), (9, 0)]) (r1 := []) rfl rfl rfl rfl rfl ((TR_0 d (qup w 95 50 (-1)) c9 s9 W D9 0 (by omega) (by omega) (by omega) hW9 ⟨by omega, by omega⟩ (by decide) (by rw [trD_0 D9 (by omega)]; rw [bitsF_pc (by omega) 16 (by decide)] at hb4; omega) hAq.1 hSq : qG none d 262 0 [(2, 95), (0, ((c9 : Nat) : Int)), (0, ((D9 : Nat) : Int)), (0, W), (0, ((s9 : Nat) : Int)), (0, 0), (0, 0), (9, 0), (9, 0), (9, 0)] [] (qup w 95 50 (-1)) 142 _)) ?_
              rintro _ w1 _ ⟨rfl, rfl, hA1q, hS1⟩
              have hA1 := hAq.tr hA1q (by decide +kernel)
              have h50 := zfld hA1.1 (j := 50) (b := (-1, 4)) rfl
              have b50 : w1 95 50 ≤ (4 : Int) := h50.2
              show qG none (d + 1) 263 71 [(2, 95), (0, ((c9 : Nat) : Int)), (0, ((D9 : Nat) : Int)), (0, W), (0, ((s9 : Nat) : Int)), (0, ((v9 : Nat) : Int))] [] w1 142 Q9
              refine qG.blk 3 (pc' := 76) (ls' := [(2, 95), (0, ((c9 : Nat) : Int)), (0, ((D9 : Nat) : Int)), (0, W), (0, ((s9 : Nat) : Int)), (0, ((v9 : Nat) : Int))]) (st' := [(0, (-1)), (0, w1 95 50)]) (w' := w1) (n' := 142) rfl ?_
              refine qG.br (P := w1 95 50 = (-1)) (pc1 := 79) (pc2 := 81) (st1 := []) rfl (fun h1 => ?_) (fun h1 => ?_)
              · skip
                refine qG.blk 1 (pc' := 80) (ls' := [(2, 95), (0, ((c9 : Nat) : Int)), (0, ((D9 : Nat) : Int)), (0, W), (0, ((s9 : Nat) : Int)), (0, ((v9 : Nat) : Int))]) (st' := [(0, (-1))]) (w' := w1) (n' := 142) rfl ?_
                refine qG.ret rfl rfl ?_
                subst hQ9
                first | exact SQ.rf hI hS | exact SQ.mk' hA1 (by decide +kernel) hS1
              · skip
                refine qG.blk 1 (pc' := 83) (ls' := [(2, 95), (0, ((c9 : Nat) : Int)), (0, ((D9 : Nat) : Int)), (0, W), (0, ((s9 : Nat) : Int)), (0, ((v9 : Nat) : Int))]) (st' := [(0, ((v9 : Nat) : Int))]) (w' := w1) (n' := 142) rfl ?_
                refine qG.br (P := ((v9 : Nat) : Int) = 0) (pc1 := 86) (pc2 := 93) (st1 := []) rfl (fun hv1 => ?_) (fun hv1 => ?_)
                · skip
                  refine qG.blk 3 (pc' := 130) (ls' := [(2, 95), (0, ((c9 : Nat) : Int)), (0, ((D9 : Nat) : Int)), (0, W), (0, ((s9 : Nat) : Int)), (0, ((v9 : Nat) : Int))]) (st' := [(0, w1 95 51)]) (w' := w1) (n' := 142) rfl ?_
                  refine qG.ret rfl rfl ?_
                  subst hQ9
                  first | exact SQ.rf hI hS | exact SQ.mk' hA1 (by decide +kernel) hS1
                · skip
                  refine qG.blk 2 (pc' := 96) (ls' := [(2, 95), (0, ((c9 : Nat) : Int)), (0, ((D9 : Nat) : Int)), (0, W), (0, ((s9 : Nat) : Int)), (0, ((v9 : Nat) : Int))]) (st' := [(0, 1), (0, ((v9 : Nat) : Int))]) (w' := w1) (n' := 142) rfl ?_
                  refine qG.br (P := ((v9 : Nat) : Int) = 1) (pc1 := 99) (pc2 := 106) (st1 := []) rfl (fun hv2 => ?_) (fun hv2 => ?_)
                  · skip
                    refine qG.blk 3 (pc' := 130) (ls' := [(2, 95), (0, ((c9 : Nat) : Int)), (0, ((D9 : Nat) : Int)), (0, W), (0, ((s9 : Nat) : Int)), (0, ((v9 : Nat) : Int))]) (st' := [(0, w1 95 50)]) (w' := w1) (n' := 142) rfl ?_
                    refine qG.ret rfl rfl ?_
                    subst hQ9
                    first | exact SQ.rf hI hS | exact SQ.mk' hA1 (by decide +kernel) hS1
                  · skip
                    refine qG.blk 3 (pc' := 110) (ls' := [(2, 95), (0, ((c9 : Nat) : Int)), (0, ((D9 : Nat) : Int)), (0, W), (0, ((s9 : Nat) : Int)), (0, ((v9 : Nat) : Int))]) (st' := [(0, wrp (((v9 : Nat) : Int) - 2))]) (w' := w1) (n' := 142) rfl ?_
                    rw [show wrp (((v9 : Nat) : Int) - 2) = ((v9 - 2 : Nat) : Int) from by rw [wrp_id (by omega) (by omega)]; omega]
                    refine qG.blk 2 (pc' := 114) (ls' := [(2, 95), (0, ((c9 : Nat) : Int)), (0, ((D9 : Nat) : Int)), (0, W), (0, ((s9 : Nat) : Int)), (0, ((v9 : Nat) : Int))]) (st' := [(0, w1 95 50), (0, ((v9 - 2 : Nat) : Int))]) (w' := w1) (n' := 142) rfl ?_
                    refine qG.br (P := ((v9 - 2 : Nat) : Int) < w1 95 50) (pc1 := 117) (pc2 := 129) (st1 := []) rfl (fun h2 => ?_) (fun h2 => ?_)
                    · skip
                      refine qG.blk 2 (pc' := 121) (ls' := [(2, 95), (0, ((c9 : Nat) : Int)), (0, ((D9 : Nat) : Int)), (0, W), (0, ((s9 : Nat) : Int)), (0, ((v9 : Nat) : Int))]) (st' := [(2, w1 95 49)]) (w' := w1) (n' := 142) rfl ?_
                      rw [show w1 95 49 = 121 from zref hA1.1 rfl rfl]
                      refine qG.blk 3 (pc' := 125) (ls' := [(2, 95), (0, ((c9 : Nat) : Int)), (0, ((D9 : Nat) : Int)), (0, W), (0, ((s9 : Nat) : Int)), (0, ((v9 : Nat) : Int))]) (st' := [(0, wrp (((v9 : Nat) : Int) - 2)), (2, 121)]) (w' := w1) (n' := 142) rfl ?_
                      rw [show wrp (((v9 : Nat) : Int) - 2) = ((v9 - 2 : Nat) : Int) from by rw [wrp_id (by omega) (by omega)]; omega]
                      refine qG.ar (P := 0 ≤ ((v9 - 2 : Nat) : Int) ∧ ((v9 - 2 : Nat) : Int) < ((4 : Nat) : Int)) (P2 := 0 < (121 : Int) ∧ (121 : Int) ≤ ((142 : Nat) : Int)) (pc' := 126) (ls' := [(2, 95), (0, ((c9 : Nat) : Int)), (0, ((D9 : Nat) : Int)), (0, W), (0, ((s9 : Nat) : Int)), (0, ((v9 : Nat) : Int))]) (st' := [(0, w1 121 (v9 - 2))]) (w' := w1) (n' := 142) rfl (by omega) (by decide) ?_
                      refine qG.blk 1 (pc' := 130) (ls' := [(2, 95), (0, ((c9 : Nat) : Int)), (0, ((D9 : Nat) : Int)), (0, W), (0, ((s9 : Nat) : Int)), (0, ((v9 : Nat) : Int))]) (st' := [(0, w1 121 (v9 - 2))]) (w' := w1) (n' := 142) rfl ?_
                      refine qG.ret rfl rfl ?_
                      subst hQ9
                      first | exact SQ.rf hI hS | exact SQ.mk' hA1 (by decide +kernel) hS1
                    · skip
                      refine qG.blk 1 (pc' := 130) (ls' := [(2, 95), (0, ((c9 : Nat) : Int)), (0, ((D9 : Nat) : Int)), (0, W), (0, ((s9 : Nat) : Int)), (0, ((v9 : Nat) : Int))]) (st' := [(0, (-1))]) (w' := w1) (n' := 142) rfl ?_
                      refine qG.ret rfl rfl ?_
                      subst hQ9
                      first | exact SQ.rf hI hS | exact SQ.mk' hA1 (by decide +kernel) hS1
