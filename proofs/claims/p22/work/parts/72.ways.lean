/-! the reference's seen, run, poses, hide, way: they end and keep the table of poses in order -/
theorem K_isChest {d : Nat} (hd : 1 ≤ d) (c : Int) (w : qW) : qG none d 207 0 [(0, c)] [] w 142 (fun (r : qV) (w1 : qW) (n1 : Nat) => r = (0, isInV c 0 2) ∧ w1 = w ∧ n1 = 142) := by
  generalize hQ9 : (fun (r : qV) (w1 : qW) (n1 : Nat) => r = (0, isInV c 0 2) ∧ w1 = w ∧ n1 = 142) = Q9
  obtain ⟨d, rfl⟩ : ∃ d9, d = d9 + 1 := ⟨d - 1, by omega⟩
  refine qG.blk 3 (pc' := 3) (ls' := [(0, c)]) (st' := [(0, 2), (0, 0), (0, c)]) (w' := w) (n' := 142) rfl ?_
  refine qG.call (t := 206) (na := 3) (sk := 0) (md := 0) (ls1 := [(0, c), (0, 0), (0, 2)]) (r1 := []) rfl rfl rfl rfl rfl (K_isIn (Nat.zero_le _) _ _ _ _) ?_
  rintro _ w7 _ ⟨rfl, hw7, rfl⟩
  rw [hw7]
  show qG none (d + 1) 207 6 [(0, c)] [(0, isInV (c) (0) (2))] w 142 Q9
  refine qG.ret rfl (by have q9 := isInV_01 c 0 2; exact decide_eq_true (by omega)) ?_
  subst hQ9
  exact ⟨rfl, rfl, rfl⟩
theorem K_isShow {d : Nat} (hd : 1 ≤ d) (c : Int) (w : qW) : qG none d 209 0 [(0, c)] [] w 142 (fun (r : qV) (w1 : qW) (n1 : Nat) => r = (0, isInV c 0 3) ∧ w1 = w ∧ n1 = 142) := by
  generalize hQ9 : (fun (r : qV) (w1 : qW) (n1 : Nat) => r = (0, isInV c 0 3) ∧ w1 = w ∧ n1 = 142) = Q9
  obtain ⟨d, rfl⟩ : ∃ d9, d = d9 + 1 := ⟨d - 1, by omega⟩
  refine qG.blk 3 (pc' := 3) (ls' := [(0, c)]) (st' := [(0, 3), (0, 0), (0, c)]) (w' := w) (n' := 142) rfl ?_
  refine qG.call (t := 206) (na := 3) (sk := 0) (md := 0) (ls1 := [(0, c), (0, 0), (0, 3)]) (r1 := []) rfl rfl rfl rfl rfl (K_isIn (Nat.zero_le _) _ _ _ _) ?_
  rintro _ w7 _ ⟨rfl, hw7, rfl⟩
  rw [hw7]
  show qG none (d + 1) 209 6 [(0, c)] [(0, isInV (c) (0) (3))] w 142 Q9
  refine qG.ret rfl (by have q9 := isInV_01 c 0 3; exact decide_eq_true (by omega)) ?_
  subst hQ9
  exact ⟨rfl, rfl, rfl⟩
theorem K_isSize {d : Nat} (hd : 1 ≤ d) (c : Int) (w : qW) : qG none d 210 0 [(0, c)] [] w 142 (fun (r : qV) (w1 : qW) (n1 : Nat) => r = (0, isInV c 1 4) ∧ w1 = w ∧ n1 = 142) := by
  generalize hQ9 : (fun (r : qV) (w1 : qW) (n1 : Nat) => r = (0, isInV c 1 4) ∧ w1 = w ∧ n1 = 142) = Q9
  obtain ⟨d, rfl⟩ : ∃ d9, d = d9 + 1 := ⟨d - 1, by omega⟩
  refine qG.blk 3 (pc' := 3) (ls' := [(0, c)]) (st' := [(0, 4), (0, 1), (0, c)]) (w' := w) (n' := 142) rfl ?_
  refine qG.call (t := 206) (na := 3) (sk := 0) (md := 0) (ls1 := [(0, c), (0, 1), (0, 4)]) (r1 := []) rfl rfl rfl rfl rfl (K_isIn (Nat.zero_le _) _ _ _ _) ?_
  rintro _ w7 _ ⟨rfl, hw7, rfl⟩
  rw [hw7]
  show qG none (d + 1) 210 6 [(0, c)] [(0, isInV (c) (1) (4))] w 142 Q9
  refine qG.ret rfl (by have q9 := isInV_01 c 1 4; exact decide_eq_true (by omega)) ?_
  subst hQ9
  exact ⟨rfl, rfl, rfl⟩
theorem isIn_n {c a b : Int} (ha : 0 ≤ a) (h : ¬ isInV c a b = 0) : ∃ n : Nat, c = (n : Int) ∧ a ≤ (n : Int) ∧ (n : Int) ≤ b := by
  unfold isInV at h
  split at h
  · exact absurd rfl h
  · split at h
    · exact absurd rfl h
    · exact ⟨c.toNat, by omega, by omega, by omega⟩
noncomputable def SHM : List Nat := [116, 38095, 39095, 40095, 41095, 42095, 43095, 44095]
noncomputable def HDM : List Nat := [101, 102, 103, 9095, 10095, 117, 118, 47095]
noncomputable def WYM : List Nat := [116, 38095, 39095, 40095, 41095, 42095, 43095, 44095, 101, 102, 103, 9095, 10095, 117, 118, 47095, 119]
theorem sh_aw {w : qW} {c k : Nat} (hk : k < 4) (hI : yInv zgf zga zra zSp w) (hS : Sp1 w) : AW SHM w (shW w c k (w 106 k).toNat) ∧ (∀ j, shW w c k (w 106 k).toNat 102 j = w 102 j) ∧ (∀ j, shW w c k (w 106 k).toNat 103 j = w 103 j) ∧ shW w c k (w 106 k).toNat 95 8 = w 95 8 := by
  have h106 := hI.2.1 106 k (0, 40) rfl rfl
  have h6 : w 106 k ≤ (40 : Int) := h106.2
  refine ⟨⟨(shW_I hk hI hS _ (by omega)).1, fun p j hp => ?_⟩, fun j => shW_o (by decide) (fun z => by omega) _, fun j => shW_o (by decide) (fun z => by omega) _, shW_o (by decide) (fun z => by omega) _⟩
  refine shW_o (fun z => ?_) (fun z => ?_) _
  · have := hp (by omega); rw [z] at this; cases this
  · obtain ⟨z1, z2, z3⟩ := z
    have := hp (by omega)
    rw [z1] at this
    rcases (show j = 37 ∨ j = 38 ∨ j = 39 ∨ j = 40 ∨ j = 41 ∨ j = 42 ∨ j = 43 by omega) with e | e | e | e | e | e | e <;> (rw [e] at this; cases this)
theorem sh_s3 {w : qW} {c k : Nat} (hk : k < 4) (hI : yInv zgf zga zra zSp w) (hS : Sp1 w) (h3 : S3 w) : S3 (shW w c k (w 106 k).toNat) := by
  obtain ⟨-, a, b, c8⟩ := sh_aw (c := c) hk hI hS
  exact h3.cong c8 a b
theorem hd_aw {w w0 w1 : qW} (h : AW zfpm w w0) (h2 : hdW w0 w1) : AW HDM w w1 := ⟨h2.2, fun p j hp => by
  have k1 : p ≠ 117 := fun z => by have := hp (by omega); rw [z] at this; cases this
  have k2 : p ≠ 118 := fun z => by have := hp (by omega); rw [z] at this; cases this
  have k3 : ¬ (p = 95 ∧ j = 46) := fun z => by have := hp (by omega); rw [z.1, z.2] at this; cases this
  rw [h2.1 p j k1 k2 k3]
  exact h.2 p j (fun k => ysubm_ok (b := HDM) (by decide +kernel) k (hp k))⟩
theorem hd_s3 {w0 w1 : qW} (h : S3 w0) (h2 : hdW w0 w1) : S3 w1 := h.cong (h2.1 95 8 (by decide) (by decide) (fun z => by cases z.2)) (fun i => h2.1 102 i (by decide) (by decide) (fun z => by cases z.1)) (fun i => h2.1 103 i (by decide) (by decide) (fun z => by cases z.1))
theorem lb_s3 {w0 w1 : qW} (h : S3 w0) (h2 : lbW w0 w1) : S3 w1 := h.cong (h2.1 95 8 (by decide)) (fun i => h2.1 102 i (by decide)) (fun i => h2.1 103 i (by decide))
theorem cF_cong {w w1 : qW} (h1 : ∀ i, w1 101 i = w 101 i) (h2 : ∀ i, w1 102 i = w 102 i) (h3 : ∀ i, w1 103 i = w 103 i) (h4 : ∀ i, w1 116 i = w 116 i) : ∀ t, cF w1 t = cF w t
  | 0 => rfl
  | t + 1 => by
    funext i
    have e : nxF w1 i = nxF w i := by funext k; unfold nxF; rw [h3]
    show (clF w1 t i && anyF (cF w1 t) (nxF w1 i) (w1 102 i).toNat) = (clF w t i && anyF (cF w t) (nxF w i) (w 102 i).toNat)
    rw [cF_cong h1 h2 h3 h4 t, e, h2]
    unfold clF
    rw [h1, h4]
theorem nxt_i {w : qW} (hI : yInv zgf zga zra zSp w) {i j : Nat} (h : nxt w i j) : ∃ k, k < (w 102 i).toNat ∧ nxF w i k = j := by
  obtain ⟨k, h1, h2⟩ := h
  refine ⟨k, by omega, ?_⟩
  unfold nxF
  rw [h2]; rfl
theorem way_0 {w : qW} (hI : yInv zgf zga zra zSp w) (hS : S3 w) {N S : Nat} (hN : w 95 8 = (N : Int)) : ∀ t j, t ≤ S → j < N → cF w t j = true → gF w S (S - t) j = true → ∃ i, i < N ∧ gF w S S i = true
  | 0, j, _, hj, _, hg => ⟨j, hj, hg⟩
  | t + 1, j, ht, hj, hc, hg => by
    have hc : (clF w t j && anyF (cF w t) (nxF w j) (w 102 j).toNat) = true := hc
    rw [Bool.and_eq_true] at hc
    obtain ⟨k, hk, hck⟩ := anyF_in hc.2
    have hn : nxt w j (nxF w j k) := ⟨k, by omega, nx_e hI j k⟩
    obtain ⟨h1, h2⟩ := hS j _ (by omega) hn
    refine way_0 hI hS hN t (nxF w j k) (by omega) (by omega) hck ?_
    obtain ⟨q, hq, hqj⟩ := nxt_i hI h2
    rw [show S - t = (S - (t + 1)) + 1 by omega]
    show anyF (fun j => gF w S (S - (t + 1)) j && clF w (S - ((S - (t + 1)) + 1)) j) (nxF w (nxF w j k)) (w 102 (nxF w j k)).toNat = true
    refine anyF_mk hq ?_
    show (gF w S (S - (t + 1)) (nxF w (nxF w j k) q) && clF w (S - ((S - (t + 1)) + 1)) (nxF w (nxF w j k) q)) = true
    rw [hqj, hg, show S - ((S - (t + 1)) + 1) = t by omega, hc.1]; rfl
theorem way_s {w : qW} {N S t i : Nat} (hI : yInv zgf zga zra zSp w) (hS : S3 w) (hN : w 95 8 = (N : Int)) (hi : i < N) (ht : t < S) (hg : gF w S (S - t) i = true) : ∃ k : Nat, (k : Int) < w 102 i ∧ nxF w i k < N ∧ gF w S (S - (t + 1)) (nxF w i k) = true ∧ clF w t (nxF w i k) = true := by
  rw [show S - t = (S - (t + 1)) + 1 by omega] at hg
  obtain ⟨k, hk, hf⟩ := anyF_in hg
  have hf : (gF w S (S - (t + 1)) (nxF w i k) && clF w (S - ((S - (t + 1)) + 1)) (nxF w i k)) = true := hf
  rw [show S - ((S - (t + 1)) + 1) = t by omega, Bool.and_eq_true] at hf
  exact ⟨k, by omega, nx_lt hI hS hN hi (by omega), hf.1, hf.2⟩
/-- a call's end -/
noncomputable def SQ (m : List Nat) (w : qW) (r : qV) (w1 : qW) (n1 : Nat) : Prop := n1 = 142 ∧ (∃ x, r = (0, x)) ∧ AW m w w1 ∧ S3 w1
theorem SQ.rf {m : List Nat} {w : qW} {x : Int} (hI : yInv zgf zga zra zSp w) (hS : S3 w) : SQ m w (0, x) w 142 := ⟨rfl, ⟨x, rfl⟩, AW.rf hI, hS⟩
theorem SQ.mk' {m m2 : List Nat} {w w1 : qW} {x : Int} (h : AW m2 w w1) (hm : ysubm m2 m = true) (hS : S3 w1) : SQ m w (0, x) w1 142 := ⟨rfl, ⟨x, rfl⟩, ⟨h.1, fun p j hp => h.2 p j (fun k => ysubm_ok hm k (hp k))⟩, hS⟩
theorem K_seen {d : Nat} (hd : 6 ≤ d) (c k s : Int) (hs1 : -2147483648 ≤ s) (hs2 : s ≤ 2147483647) (w : qW) (hI : yInv zgf zga zra zSp w) (hS1 : Sp1 w) (hS : S3 w) : qG none d 254 0 [(2, 95), (0, c), (0, k), (0, s)] [] w 142 (SQ WYM w) := by
  generalize hQ9 : (SQ WYM w) = Q9
  obtain ⟨d, rfl⟩ : ∃ d9, d = d9 + 1 := ⟨d - 1, by omega⟩
  refine qG.blk 1 (pc' := 1) (ls' := [(2, 95), (0, c), (0, k), (0, s)]) (st' := [(0, c)]) (w' := w) (n' := 142) rfl ?_
  refine qG.call (t := 207) (na := 1) (sk := 0) (md := 0) (ls1 := [(0, c)]) (r1 := []) rfl rfl rfl rfl rfl (K_isChest (by omega) _ _) ?_
  rintro _ w7 _ ⟨rfl, hw7, rfl⟩
  rw [hw7]
  show qG none (d + 1) 254 4 [(2, 95), (0, c), (0, k), (0, s)] [(0, isInV c 0 2)] w 142 Q9
  refine qG.br (P := isInV c 0 2 = 0) (pc1 := 14) (pc2 := 7) (st1 := []) rfl (fun hc0 => ?_) (fun hc0 => ?_)
  · skip
    refine qG.blk 1 (pc' := 15) (ls' := [(2, 95), (0, c), (0, k), (0, s)]) (st' := [(0, (-1))]) (w' := w) (n' := 142) rfl ?_
    refine qG.ret rfl rfl ?_
    subst hQ9
    first | exact SQ.rf hI hS | exact SQ.mk' hAs (by decide +kernel) hSs
  · skip
    obtain ⟨c9, rfl, hlc9, huc9⟩ := isIn_n (by decide) hc0
    refine qG.blk 1 (pc' := 8) (ls' := [(2, 95), (0, ((c9 : Nat) : Int)), (0, k), (0, s)]) (st' := [(0, k)]) (w' := w) (n' := 142) rfl ?_
    refine qG.call (t := 209) (na := 1) (sk := 0) (md := 0) (ls1 := [(0, k)]) (r1 := []) rfl rfl rfl rfl rfl (K_isShow (by omega) _ _) ?_
    rintro _ w7 _ ⟨rfl, hw7, rfl⟩
    rw [hw7]
    show qG none (d + 1) 254 11 [(2, 95), (0, ((c9 : Nat) : Int)), (0, k), (0, s)] [(0, isInV k 0 3)] w 142 Q9
    refine qG.br (P := isInV k 0 3 = 0) (pc1 := 14) (pc2 := 16) (st1 := []) rfl (fun hk0 => ?_) (fun hk0 => ?_)
    · skip
      refine qG.blk 1 (pc' := 15) (ls' := [(2, 95), (0, ((c9 : Nat) : Int)), (0, k), (0, s)]) (st' := [(0, (-1))]) (w' := w) (n' := 142) rfl ?_
      refine qG.ret rfl rfl ?_
      subst hQ9
      first | exact SQ.rf hI hS | exact SQ.mk' hAs (by decide +kernel) hSs
    · skip
      obtain ⟨k9, rfl, hlk9, huk9⟩ := isIn_n (by decide) hk0
      refine qG.blk 3 (pc' := 19) (ls' := [(2, 95), (0, ((c9 : Nat) : Int)), (0, ((k9 : Nat) : Int)), (0, s)]) (st' := [(0, ((k9 : Nat) : Int)), (0, ((c9 : Nat) : Int)), (2, 95)]) (w' := w) (n' := 142) rfl ?_
      refine qG.call (t := 253) (na := 3) (sk := 1) (md := 1) (ls1 := [(2, 95), (0, ((c9 : Nat) : Int)), (0, ((k9 : Nat) : Int)), (9, 0)]) (r1 := []) rfl rfl rfl rfl rfl (K_shows (by omega) c9 k9 (by omega) (by omega) w hI hS1) ?_
      rintro _ ws _ ⟨rfl, rfl, rfl⟩
      have hAs := (sh_aw (c := c9) (k := k9) (by omega) hI hS1).1
      have hSs := sh_s3 (c := c9) (k := k9) (by omega) hI hS1 hS
      generalize shW w c9 k9 (w 106 k9).toNat = ws at hAs hSs ⊢
      have h37 := zfld hAs.1 (j := 37) (b := (0, 800)) rfl
      have a37 : (0 : Int) ≤ ws 95 37 := h37.1
      have b37 : ws 95 37 ≤ (800 : Int) := h37.2
      show qG none (d + 1) 254 22 [(2, 95), (0, ((c9 : Nat) : Int)), (0, ((k9 : Nat) : Int)), (0, s)] [] ws 142 Q9
      refine qG.blk 6 (pc' := 30) (ls' := [(2, 95), (0, ((c9 : Nat) : Int)), (0, ((k9 : Nat) : Int)), (0, s)]) (st' := [(0, wrp ((ws 95 37) - 1)), (0, 0), (0, s)]) (w' := ws) (n' := 142) rfl ?_
      rw [show wrp ((ws 95 37) - 1) = (ws 95 37) - 1 from wrp_id (by omega) (by omega)]
      refine qG.call (t := 206) (na := 3) (sk := 0) (md := 0) (ls1 := [(0, s), (0, 0), (0, (ws 95 37) - 1)]) (r1 := []) rfl rfl rfl rfl rfl (K_isIn (Nat.zero_le _) _ _ _ _) ?_
      rintro _ w7 _ ⟨rfl, hw7, rfl⟩
      rw [hw7]
      show qG none (d + 1) 254 33 [(2, 95), (0, ((c9 : Nat) : Int)), (0, ((k9 : Nat) : Int)), (0, s)] [(0, isInV (s) (0) ((ws 95 37) - 1))] ws 142 Q9
      refine qG.br (P := isInV (s) (0) ((ws 95 37) - 1) = 0) (pc1 := 45) (pc2 := 36) (st1 := []) rfl (fun hs0 => ?_) (fun hs0 => ?_)
      · skip
        refine qG.blk 1 (pc' := 46) (ls' := [(2, 95), (0, ((c9 : Nat) : Int)), (0, ((k9 : Nat) : Int)), (0, s)]) (st' := [(0, (-1))]) (w' := ws) (n' := 142) rfl ?_
        refine qG.ret rfl rfl ?_
        subst hQ9
        first | exact SQ.rf hI hS | exact SQ.mk' hAs (by decide +kernel) hSs
      · skip
        obtain ⟨s9, rfl, hls9, hus9⟩ := isIn_n (by decide) hs0
        refine qG.blk 2 (pc' := 40) (ls' := [(2, 95), (0, ((c9 : Nat) : Int)), (0, ((k9 : Nat) : Int)), (0, ((s9 : Nat) : Int))]) (st' := [(2, ws 95 36)]) (w' := ws) (n' := 142) rfl ?_
        rw [show ws 95 36 = 116 from zref hAs.1 rfl rfl]
        refine qG.blk 1 (pc' := 41) (ls' := [(2, 95), (0, ((c9 : Nat) : Int)), (0, ((k9 : Nat) : Int)), (0, ((s9 : Nat) : Int))]) (st' := [(0, ((s9 : Nat) : Int)), (2, 116)]) (w' := ws) (n' := 142) rfl ?_
        refine qG.ild (m := 900) rfl rfl (by omega) (by decide) ?_
        show qG none (d + 1) 254 42 [(2, 95), (0, ((c9 : Nat) : Int)), (0, ((k9 : Nat) : Int)), (0, ((s9 : Nat) : Int))] [(0, ws 116 s9)] ws 142 Q9
        refine qG.blk 1 (pc' := 46) (ls' := [(2, 95), (0, ((c9 : Nat) : Int)), (0, ((k9 : Nat) : Int)), (0, ((s9 : Nat) : Int))]) (st' := [(0, ws 116 s9)]) (w' := ws) (n' := 142) rfl ?_
        refine qG.ret rfl rfl ?_
        subst hQ9
        first | exact SQ.rf hI hS | exact SQ.mk' hAs (by decide +kernel) hSs
theorem K_run {d : Nat} (hd : 6 ≤ d) (c k s : Int) (w : qW) (hI : yInv zgf zga zra zSp w) (hS1 : Sp1 w) (hS : S3 w) : qG none d 255 0 [(2, 95), (0, c), (0, k), (0, s)] [] w 142 (SQ WYM w) := by
  generalize hQ9 : (SQ WYM w) = Q9
  obtain ⟨d, rfl⟩ : ∃ d9, d = d9 + 1 := ⟨d - 1, by omega⟩
  refine qG.blk 1 (pc' := 1) (ls' := [(2, 95), (0, c), (0, k), (0, s)]) (st' := [(0, c)]) (w' := w) (n' := 142) rfl ?_
  refine qG.call (t := 207) (na := 1) (sk := 0) (md := 0) (ls1 := [(0, c)]) (r1 := []) rfl rfl rfl rfl rfl (K_isChest (by omega) _ _) ?_
  rintro _ w7 _ ⟨rfl, hw7, rfl⟩
  rw [hw7]
  show qG none (d + 1) 255 4 [(2, 95), (0, c), (0, k), (0, s)] [(0, isInV c 0 2)] w 142 Q9
  refine qG.br (P := isInV c 0 2 = 0) (pc1 := 14) (pc2 := 7) (st1 := []) rfl (fun hc0 => ?_) (fun hc0 => ?_)
  · skip
    refine qG.blk 1 (pc' := 15) (ls' := [(2, 95), (0, c), (0, k), (0, s)]) (st' := [(0, (-1))]) (w' := w) (n' := 142) rfl ?_
    refine qG.ret rfl rfl ?_
    subst hQ9
    first | exact SQ.rf hI hS | exact SQ.mk' hAs (by decide +kernel) hSs
  · skip
    obtain ⟨c9, rfl, hlc9, huc9⟩ := isIn_n (by decide) hc0
    refine qG.blk 1 (pc' := 8) (ls' := [(2, 95), (0, ((c9 : Nat) : Int)), (0, k), (0, s)]) (st' := [(0, k)]) (w' := w) (n' := 142) rfl ?_
    refine qG.call (t := 209) (na := 1) (sk := 0) (md := 0) (ls1 := [(0, k)]) (r1 := []) rfl rfl rfl rfl rfl (K_isShow (by omega) _ _) ?_
    rintro _ w7 _ ⟨rfl, hw7, rfl⟩
    rw [hw7]
    show qG none (d + 1) 255 11 [(2, 95), (0, ((c9 : Nat) : Int)), (0, k), (0, s)] [(0, isInV k 0 3)] w 142 Q9
    refine qG.br (P := isInV k 0 3 = 0) (pc1 := 14) (pc2 := 16) (st1 := []) rfl (fun hk0 => ?_) (fun hk0 => ?_)
    · skip
      refine qG.blk 1 (pc' := 15) (ls' := [(2, 95), (0, ((c9 : Nat) : Int)), (0, k), (0, s)]) (st' := [(0, (-1))]) (w' := w) (n' := 142) rfl ?_
      refine qG.ret rfl rfl ?_
      subst hQ9
      first | exact SQ.rf hI hS | exact SQ.mk' hAs (by decide +kernel) hSs
    · skip
      obtain ⟨k9, rfl, hlk9, huk9⟩ := isIn_n (by decide) hk0
      refine qG.blk 3 (pc' := 19) (ls' := [(2, 95), (0, ((c9 : Nat) : Int)), (0, ((k9 : Nat) : Int)), (0, s)]) (st' := [(0, ((k9 : Nat) : Int)), (0, ((c9 : Nat) : Int)), (2, 95)]) (w' := w) (n' := 142) rfl ?_
      refine qG.call (t := 253) (na := 3) (sk := 1) (md := 1) (ls1 := [(2, 95), (0, ((c9 : Nat) : Int)), (0, ((k9 : Nat) : Int)), (9, 0)]) (r1 := []) rfl rfl rfl rfl rfl (K_shows (by omega) c9 k9 (by omega) (by omega) w hI hS1) ?_
      rintro _ ws _ ⟨rfl, rfl, rfl⟩
      have hAs := (sh_aw (c := c9) (k := k9) (by omega) hI hS1).1
      have hSs := sh_s3 (c := c9) (k := k9) (by omega) hI hS1 hS
      generalize shW w c9 k9 (w 106 k9).toNat = ws at hAs hSs ⊢
      have h37 := zfld hAs.1 (j := 37) (b := (0, 800)) rfl
      have a37 : (0 : Int) ≤ ws 95 37 := h37.1
      have b37 : ws 95 37 ≤ (800 : Int) := h37.2
      show qG none (d + 1) 255 22 [(2, 95), (0, ((c9 : Nat) : Int)), (0, ((k9 : Nat) : Int)), (0, s)] [] ws 142 Q9
      refine qG.blk 1 (pc' := 23) (ls' := [(2, 95), (0, ((c9 : Nat) : Int)), (0, ((k9 : Nat) : Int)), (0, s)]) (st' := [(0, s)]) (w' := ws) (n' := 142) rfl ?_
      refine qG.br (P := s = 0) (pc1 := 26) (pc2 := 33) (st1 := []) rfl (fun h1 => ?_) (fun h1 => ?_)
      · skip
        refine qG.blk 3 (pc' := 70) (ls' := [(2, 95), (0, ((c9 : Nat) : Int)), (0, ((k9 : Nat) : Int)), (0, s)]) (st' := [(0, ws 95 37)]) (w' := ws) (n' := 142) rfl ?_
        refine qG.ret rfl rfl ?_
        subst hQ9
        first | exact SQ.rf hI hS | exact SQ.mk' hAs (by decide +kernel) hSs
      · skip
        refine qG.blk 2 (pc' := 35) (ls' := [(2, 95), (0, ((c9 : Nat) : Int)), (0, ((k9 : Nat) : Int)), (0, s)]) (st' := [(0, 1), (0, s)]) (w' := ws) (n' := 142) rfl ?_
        refine qG.br (P := s = 1) (pc1 := 38) (pc2 := 45) (st1 := []) rfl (fun h2 => ?_) (fun h2 => ?_)
        · skip
          refine qG.blk 3 (pc' := 70) (ls' := [(2, 95), (0, ((c9 : Nat) : Int)), (0, ((k9 : Nat) : Int)), (0, s)]) (st' := [(0, ws 95 38)]) (w' := ws) (n' := 142) rfl ?_
          refine qG.ret rfl rfl ?_
          subst hQ9
          first | exact SQ.rf hI hS | exact SQ.mk' hAs (by decide +kernel) hSs
        · skip
          refine qG.blk 2 (pc' := 47) (ls' := [(2, 95), (0, ((c9 : Nat) : Int)), (0, ((k9 : Nat) : Int)), (0, s)]) (st' := [(0, 2), (0, s)]) (w' := ws) (n' := 142) rfl ?_
          refine qG.br (P := s = 2) (pc1 := 50) (pc2 := 57) (st1 := []) rfl (fun h3 => ?_) (fun h3 => ?_)
          · skip
            refine qG.blk 3 (pc' := 70) (ls' := [(2, 95), (0, ((c9 : Nat) : Int)), (0, ((k9 : Nat) : Int)), (0, s)]) (st' := [(0, ws 95 39)]) (w' := ws) (n' := 142) rfl ?_
            refine qG.ret rfl rfl ?_
            subst hQ9
            first | exact SQ.rf hI hS | exact SQ.mk' hAs (by decide +kernel) hSs
          · skip
            refine qG.blk 2 (pc' := 59) (ls' := [(2, 95), (0, ((c9 : Nat) : Int)), (0, ((k9 : Nat) : Int)), (0, s)]) (st' := [(0, 3), (0, s)]) (w' := ws) (n' := 142) rfl ?_
            refine qG.br (P := s = 3) (pc1 := 62) (pc2 := 69) (st1 := []) rfl (fun h4 => ?_) (fun h4 => ?_)
            · skip
              refine qG.blk 3 (pc' := 70) (ls' := [(2, 95), (0, ((c9 : Nat) : Int)), (0, ((k9 : Nat) : Int)), (0, s)]) (st' := [(0, ws 95 40)]) (w' := ws) (n' := 142) rfl ?_
              refine qG.ret rfl rfl ?_
              subst hQ9
              first | exact SQ.rf hI hS | exact SQ.mk' hAs (by decide +kernel) hSs
            · skip
              refine qG.blk 1 (pc' := 70) (ls' := [(2, 95), (0, ((c9 : Nat) : Int)), (0, ((k9 : Nat) : Int)), (0, s)]) (st' := [(0, (-1))]) (w' := ws) (n' := 142) rfl ?_
              refine qG.ret rfl rfl ?_
              subst hQ9
              first | exact SQ.rf hI hS | exact SQ.mk' hAs (by decide +kernel) hSs
theorem K_poses {d : Nat} (hd : 6 ≤ d) (c s : Int) (w : qW) (hI : yInv zgf zga zra zSp w) (hS1 : Sp1 w) (hS : S3 w) : qG none d 221 0 [(2, 95), (0, c), (0, s)] [] w 142 (SQ WYM w) := by
  generalize hQ9 : (SQ WYM w) = Q9
  obtain ⟨d, rfl⟩ : ∃ d9, d = d9 + 1 := ⟨d - 1, by omega⟩
  refine qG.blk 1 (pc' := 1) (ls' := [(2, 95), (0, c), (0, s)]) (st' := [(0, c)]) (w' := w) (n' := 142) rfl ?_
  refine qG.call (t := 207) (na := 1) (sk := 0) (md := 0) (ls1 := [(0, c)]) (r1 := []) rfl rfl rfl rfl rfl (K_isChest (by omega) _ _) ?_
  rintro _ w7 _ ⟨rfl, hw7, rfl⟩
  rw [hw7]
  show qG none (d + 1) 221 4 [(2, 95), (0, c), (0, s)] [(0, isInV c 0 2)] w 142 Q9
  refine qG.br (P := isInV c 0 2 = 0) (pc1 := 14) (pc2 := 7) (st1 := []) rfl (fun hc0 => ?_) (fun hc0 => ?_)
  · skip
    refine qG.blk 1 (pc' := 15) (ls' := [(2, 95), (0, c), (0, s)]) (st' := [(0, (-1))]) (w' := w) (n' := 142) rfl ?_
    refine qG.ret rfl rfl ?_
    subst hQ9
    first | exact SQ.rf hI hS | exact SQ.mk' hA0 (by decide +kernel) hS0
  · skip
    obtain ⟨c9, rfl, hlc9, huc9⟩ := isIn_n (by decide) hc0
    refine qG.blk 1 (pc' := 8) (ls' := [(2, 95), (0, ((c9 : Nat) : Int)), (0, s)]) (st' := [(0, s)]) (w' := w) (n' := 142) rfl ?_
    refine qG.call (t := 210) (na := 1) (sk := 0) (md := 0) (ls1 := [(0, s)]) (r1 := []) rfl rfl rfl rfl rfl (K_isSize (by omega) _ _) ?_
    rintro _ w7 _ ⟨rfl, hw7, rfl⟩
    rw [hw7]
    show qG none (d + 1) 221 11 [(2, 95), (0, ((c9 : Nat) : Int)), (0, s)] [(0, isInV s 1 4)] w 142 Q9
    refine qG.br (P := isInV s 1 4 = 0) (pc1 := 14) (pc2 := 16) (st1 := []) rfl (fun hs0 => ?_) (fun hs0 => ?_)
    · skip
      refine qG.blk 1 (pc' := 15) (ls' := [(2, 95), (0, ((c9 : Nat) : Int)), (0, s)]) (st' := [(0, (-1))]) (w' := w) (n' := 142) rfl ?_
      refine qG.ret rfl rfl ?_
      subst hQ9
      first | exact SQ.rf hI hS | exact SQ.mk' hA0 (by decide +kernel) hS0
    · skip
      obtain ⟨s9, rfl, hls9, hus9⟩ := isIn_n (by decide) hs0
      refine qG.blk 3 (pc' := 19) (ls' := [(2, 95), (0, ((c9 : Nat) : Int)), (0, ((s9 : Nat) : Int))]) (st' := [(0, ((s9 : Nat) : Int)), (0, ((c9 : Nat) : Int)), (2, 95)]) (w' := w) (n' := 142) rfl ?_
      refine qG.call (t := 220) (na := 3) (sk := 1) (md := 1) (ls1 := [(2, 95), (0, ((c9 : Nat) : Int)), (0, ((s9 : Nat) : Int)), (9, 0), (9, 0)]) (r1 := []) rfl rfl rfl rfl rfl (K_fp (by omega) c9 s9 (by omega) (by omega) (by omega) w hI hS) ?_
      rintro _ w0 _ ⟨rfl, rfl, hfp, hA0, hS0⟩
      show qG none (d + 1) 221 22 [(2, 95), (0, ((c9 : Nat) : Int)), (0, ((s9 : Nat) : Int))] [] w0 142 Q9
      refine qG.blk 2 (pc' := 26) (ls' := [(2, 95), (0, ((c9 : Nat) : Int)), (0, ((s9 : Nat) : Int))]) (st' := [(0, w0 95 8)]) (w' := w0) (n' := 142) rfl ?_
      refine qG.ret rfl rfl ?_
      subst hQ9
      first | exact SQ.rf hI hS | exact SQ.mk' hA0 (by decide +kernel) hS0
theorem hdW_e {w0 w1 : qW} (h : hdW w0 w1) {j : Nat} (hj : j ≠ 46) : w1 95 j = w0 95 j := h.1 95 j (by decide) (by decide) (fun z => hj z.2)
theorem AW.tr1 {w ws w0 w1 : qW} (h : AW SHM w ws) (h0 : AW zfpm ws w0) (h1 : hdW w0 w1) : AW WYM w w1 := ⟨h1.2, fun p j hp => by
  rw [(hd_aw h0 h1).2 p j (fun k => ysubm_ok (b := WYM) (by decide +kernel) k (hp k))]
  exact h.2 p j (fun k => ysubm_ok (b := WYM) (by decide +kernel) k (hp k))⟩
theorem AW.tr2 {w w1 w2 : qW} (h : AW WYM w w1) (h2 : lbW w1 w2) : AW WYM w w2 := ⟨h2.2, fun p j hp => by
  rw [h2.1 p j (fun z => by have := hp (by omega); rw [z] at this; cases this)]
  exact h.2 p j hp⟩
theorem K_hide {d : Nat} (hd : 7 ≤ d) (c k s v : Int) (w : qW) (hI : yInv zgf zga zra zSp w) (hS1 : Sp1 w) (hS : S3 w) : qG none d 258 0 [(2, 95), (0, c), (0, k), (0, s), (0, v), (9, 0)] [] w 142 (SQ WYM w) := by
  generalize hQ9 : (SQ WYM w) = Q9
  obtain ⟨d, rfl⟩ : ∃ d9, d = d9 + 1 := ⟨d - 1, by omega⟩
  refine qG.blk 1 (pc' := 1) (ls' := [(2, 95), (0, c), (0, k), (0, s), (0, v), (9, 0)]) (st' := [(0, c)]) (w' := w) (n' := 142) rfl ?_
  refine qG.call (t := 207) (na := 1) (sk := 0) (md := 0) (ls1 := [(0, c)]) (r1 := []) rfl rfl rfl rfl rfl (K_isChest (by omega) _ _) ?_
  rintro _ w7 _ ⟨rfl, hw7, rfl⟩
  rw [hw7]
  show qG none (d + 1) 258 4 [(2, 95), (0, c), (0, k), (0, s), (0, v), (9, 0)] [(0, isInV c 0 2)] w 142 Q9
  refine qG.br (P := isInV c 0 2 = 0) (pc1 := 31) (pc2 := 7) (st1 := []) rfl (fun hc0 => ?_) (fun hc0 => ?_)
  · skip
    refine qG.blk 1 (pc' := 32) (ls' := [(2, 95), (0, c), (0, k), (0, s), (0, v), (9, 0)]) (st' := [(0, (-1))]) (w' := w) (n' := 142) rfl ?_
    refine qG.ret rfl rfl ?_
    subst hQ9
    first | exact SQ.rf hI hS | exact SQ.mk' hA1 (by decide +kernel) hS3
  · skip
    obtain ⟨c9, rfl, hlc9, huc9⟩ := isIn_n (by decide) hc0
    refine qG.blk 1 (pc' := 8) (ls' := [(2, 95), (0, ((c9 : Nat) : Int)), (0, k), (0, s), (0, v), (9, 0)]) (st' := [(0, k)]) (w' := w) (n' := 142) rfl ?_
    refine qG.call (t := 209) (na := 1) (sk := 0) (md := 0) (ls1 := [(0, k)]) (r1 := []) rfl rfl rfl rfl rfl (K_isShow (by omega) _ _) ?_
    rintro _ w7 _ ⟨rfl, hw7, rfl⟩
    rw [hw7]
    show qG none (d + 1) 258 11 [(2, 95), (0, ((c9 : Nat) : Int)), (0, k), (0, s), (0, v), (9, 0)] [(0, isInV k 0 3)] w 142 Q9
    refine qG.br (P := isInV k 0 3 = 0) (pc1 := 31) (pc2 := 14) (st1 := []) rfl (fun hk0 => ?_) (fun hk0 => ?_)
    · skip
      refine qG.blk 1 (pc' := 32) (ls' := [(2, 95), (0, ((c9 : Nat) : Int)), (0, k), (0, s), (0, v), (9, 0)]) (st' := [(0, (-1))]) (w' := w) (n' := 142) rfl ?_
      refine qG.ret rfl rfl ?_
      subst hQ9
      first | exact SQ.rf hI hS | exact SQ.mk' hA1 (by decide +kernel) hS3
    · skip
      obtain ⟨k9, rfl, hlk9, huk9⟩ := isIn_n (by decide) hk0
      refine qG.blk 1 (pc' := 15) (ls' := [(2, 95), (0, ((c9 : Nat) : Int)), (0, ((k9 : Nat) : Int)), (0, s), (0, v), (9, 0)]) (st' := [(0, s)]) (w' := w) (n' := 142) rfl ?_
      refine qG.call (t := 210) (na := 1) (sk := 0) (md := 0) (ls1 := [(0, s)]) (r1 := []) rfl rfl rfl rfl rfl (K_isSize (by omega) _ _) ?_
      rintro _ w7 _ ⟨rfl, hw7, rfl⟩
      rw [hw7]
      show qG none (d + 1) 258 18 [(2, 95), (0, ((c9 : Nat) : Int)), (0, ((k9 : Nat) : Int)), (0, s), (0, v), (9, 0)] [(0, isInV s 1 4)] w 142 Q9
      refine qG.br (P := isInV s 1 4 = 0) (pc1 := 31) (pc2 := 21) (st1 := []) rfl (fun hs0 => ?_) (fun hs0 => ?_)
      · skip
        refine qG.blk 1 (pc' := 32) (ls' := [(2, 95), (0, ((c9 : Nat) : Int)), (0, ((k9 : Nat) : Int)), (0, s), (0, v), (9, 0)]) (st' := [(0, (-1))]) (w' := w) (n' := 142) rfl ?_
        refine qG.ret rfl rfl ?_
        subst hQ9
        first | exact SQ.rf hI hS | exact SQ.mk' hA1 (by decide +kernel) hS3
      · skip
        obtain ⟨s9, rfl, hls9, hus9⟩ := isIn_n (by decide) hs0
        refine qG.blk 3 (pc' := 25) (ls' := [(2, 95), (0, ((c9 : Nat) : Int)), (0, ((k9 : Nat) : Int)), (0, ((s9 : Nat) : Int)), (0, v), (9, 0)]) (st' := [(0, 2), (0, 0), (0, v)]) (w' := w) (n' := 142) rfl ?_
        refine qG.call (t := 206) (na := 3) (sk := 0) (md := 0) (ls1 := [(0, v), (0, 0), (0, 2)]) (r1 := []) rfl rfl rfl rfl rfl (K_isIn (Nat.zero_le _) _ _ _ _) ?_
        rintro _ w7 _ ⟨rfl, hw7, rfl⟩
        rw [hw7]
        show qG none (d + 1) 258 28 [(2, 95), (0, ((c9 : Nat) : Int)), (0, ((k9 : Nat) : Int)), (0, ((s9 : Nat) : Int)), (0, v), (9, 0)] [(0, isInV (v) (0) (2))] w 142 Q9
        refine qG.br (P := isInV (v) (0) (2) = 0) (pc1 := 31) (pc2 := 33) (st1 := []) rfl (fun h1 => ?_) (fun h1 => ?_)
        · skip
          refine qG.blk 1 (pc' := 32) (ls' := [(2, 95), (0, ((c9 : Nat) : Int)), (0, ((k9 : Nat) : Int)), (0, ((s9 : Nat) : Int)), (0, v), (9, 0)]) (st' := [(0, (-1))]) (w' := w) (n' := 142) rfl ?_
          refine qG.ret rfl rfl ?_
          subst hQ9
          first | exact SQ.rf hI hS | exact SQ.mk' hA1 (by decide +kernel) hS3
        · skip
          refine qG.blk 3 (pc' := 36) (ls' := [(2, 95), (0, ((c9 : Nat) : Int)), (0, ((k9 : Nat) : Int)), (0, ((s9 : Nat) : Int)), (0, v), (9, 0)]) (st' := [(0, ((k9 : Nat) : Int)), (0, ((c9 : Nat) : Int)), (2, 95)]) (w' := w) (n' := 142) rfl ?_
          refine qG.call (t := 253) (na := 3) (sk := 1) (md := 1) (ls1 := [(2, 95), (0, ((c9 : Nat) : Int)), (0, ((k9 : Nat) : Int)), (9, 0)]) (r1 := []) rfl rfl rfl rfl rfl (K_shows (by omega) c9 k9 (by omega) (by omega) w hI hS1) ?_
          rintro _ ws _ ⟨rfl, rfl, rfl⟩
          have hAs := (sh_aw (c := c9) (k := k9) (by omega) hI hS1).1
          have hSs := sh_s3 (c := c9) (k := k9) (by omega) hI hS1 hS
          generalize shW w c9 k9 (w 106 k9).toNat = ws at hAs hSs ⊢
          have h37 := zfld hAs.1 (j := 37) (b := (0, 800)) rfl
          have a37 : (0 : Int) ≤ ws 95 37 := h37.1
          have b37 : ws 95 37 ≤ (800 : Int) := h37.2
          show qG none (d + 1) 258 39 [(2, 95), (0, ((c9 : Nat) : Int)), (0, ((k9 : Nat) : Int)), (0, ((s9 : Nat) : Int)), (0, v), (9, 0)] [] ws 142 Q9
          refine qG.blk 3 (pc' := 42) (ls' := [(2, 95), (0, ((c9 : Nat) : Int)), (0, ((k9 : Nat) : Int)), (0, ((s9 : Nat) : Int)), (0, v), (9, 0)]) (st' := [(0, ((s9 : Nat) : Int)), (0, ((c9 : Nat) : Int)), (2, 95)]) (w' := ws) (n' := 142) rfl ?_
          refine qG.call (t := 257) (na := 3) (sk := 1) (md := 1) (ls1 := [(2, 95), (0, ((c9 : Nat) : Int)), (0, ((s9 : Nat) : Int)), (9, 0), (9, 0), (9, 0), (9, 0)]) (r1 := []) rfl rfl rfl rfl rfl (K_hides (by omega) c9 s9 (by omega) (by omega) (by omega) ws hAs.1 hSs) ?_
          rintro _ w1 _ ⟨rfl, w0, hfp, hA0, hS0, hH, N, S, t, hN, hSS, htS, rfl, htc⟩
          have hA1 := hAs.tr1 hA0 hH
          have hS3 := hd_s3 hS0 hH
          show qG none (d + 1) 258 45 [(2, 95), (0, ((c9 : Nat) : Int)), (0, ((k9 : Nat) : Int)), (0, ((s9 : Nat) : Int)), (0, v), (9, 0)] [(0, ((cntF (cF w0 t) N : Nat) : Int))] w1 142 Q9
          refine qG.blk 2 (pc' := 49) (ls' := [(2, 95), (0, ((c9 : Nat) : Int)), (0, ((k9 : Nat) : Int)), (0, ((s9 : Nat) : Int)), (0, v), (0, ((cntF (cF w0 t) N : Nat) : Int))]) (st' := [(0, v)]) (w' := w1) (n' := 142) rfl ?_
          refine qG.br (P := v = 0) (pc1 := 52) (pc2 := 65) (st1 := []) rfl (fun h2 => ?_) (fun h2 => ?_)
          · skip
            refine qG.blk 1 (pc' := 54) (ls' := [(2, 95), (0, ((c9 : Nat) : Int)), (0, ((k9 : Nat) : Int)), (0, ((s9 : Nat) : Int)), (0, v), (0, ((cntF (cF w0 t) N : Nat) : Int))]) (st' := [(0, ((cntF (cF w0 t) N : Nat) : Int))]) (w' := w1) (n' := 142) rfl ?_
            refine qG.br (P := 0 < ((cntF (cF w0 t) N : Nat) : Int)) (pc1 := 57) (pc2 := 61) (st1 := []) rfl (fun h3 => ?_) (fun h3 => ?_)
            · skip
              refine qG.blk 2 (pc' := 80) (ls' := [(2, 95), (0, ((c9 : Nat) : Int)), (0, ((k9 : Nat) : Int)), (0, ((s9 : Nat) : Int)), (0, v), (0, ((cntF (cF w0 t) N : Nat) : Int))]) (st' := [(0, 1)]) (w' := w1) (n' := 142) rfl ?_
              refine qG.ret rfl rfl ?_
              subst hQ9
              first | exact SQ.rf hI hS | exact SQ.mk' hA1 (by decide +kernel) hS3
            · skip
              refine qG.blk 2 (pc' := 80) (ls' := [(2, 95), (0, ((c9 : Nat) : Int)), (0, ((k9 : Nat) : Int)), (0, ((s9 : Nat) : Int)), (0, v), (0, ((cntF (cF w0 t) N : Nat) : Int))]) (st' := [(0, 0)]) (w' := w1) (n' := 142) rfl ?_
              refine qG.ret rfl rfl ?_
              subst hQ9
              first | exact SQ.rf hI hS | exact SQ.mk' hA1 (by decide +kernel) hS3
          · skip
            refine qG.blk 2 (pc' := 68) (ls' := [(2, 95), (0, ((c9 : Nat) : Int)), (0, ((k9 : Nat) : Int)), (0, ((s9 : Nat) : Int)), (0, v), (0, ((cntF (cF w0 t) N : Nat) : Int))]) (st' := [(0, 1), (0, v)]) (w' := w1) (n' := 142) rfl ?_
            refine qG.br (P := v = 1) (pc1 := 71) (pc2 := 78) (st1 := []) rfl (fun h4 => ?_) (fun h4 => ?_)
            · skip
              refine qG.blk 3 (pc' := 80) (ls' := [(2, 95), (0, ((c9 : Nat) : Int)), (0, ((k9 : Nat) : Int)), (0, ((s9 : Nat) : Int)), (0, v), (0, ((cntF (cF w0 t) N : Nat) : Int))]) (st' := [(0, w1 95 46)]) (w' := w1) (n' := 142) rfl ?_
              refine qG.ret rfl rfl ?_
              subst hQ9
              first | exact SQ.rf hI hS | exact SQ.mk' hA1 (by decide +kernel) hS3
            · skip
              refine qG.blk 1 (pc' := 80) (ls' := [(2, 95), (0, ((c9 : Nat) : Int)), (0, ((k9 : Nat) : Int)), (0, ((s9 : Nat) : Int)), (0, v), (0, ((cntF (cF w0 t) N : Nat) : Int))]) (st' := [(0, ((cntF (cF w0 t) N : Nat) : Int))]) (w' := w1) (n' := 142) rfl ?_
              refine qG.ret rfl rfl ?_
              subst hQ9
              first | exact SQ.rf hI hS | exact SQ.mk' hA1 (by decide +kernel) hS3
theorem K_way {d : Nat} (hd : 7 ≤ d) (c k s n : Int) (w : qW) (hI : yInv zgf zga zra zSp w) (hS1 : Sp1 w) (hS : S3 w) : qG none d 261 0 [(2, 95), (0, c), (0, k), (0, s), (0, n), (9, 0), (9, 0), (9, 0)] [] w 142 (SQ WYM w) := by
  generalize hQ9 : (SQ WYM w) = Q9
  obtain ⟨d, rfl⟩ : ∃ d9, d = d9 + 1 := ⟨d - 1, by omega⟩
  refine qG.blk 1 (pc' := 1) (ls' := [(2, 95), (0, c), (0, k), (0, s), (0, n), (9, 0), (9, 0), (9, 0)]) (st' := [(0, c)]) (w' := w) (n' := 142) rfl ?_
  refine qG.call (t := 207) (na := 1) (sk := 0) (md := 0) (ls1 := [(0, c)]) (r1 := []) rfl rfl rfl rfl rfl (K_isChest (by omega) _ _) ?_
  rintro _ w7 _ ⟨rfl, hw7, rfl⟩
  rw [hw7]
  show qG none (d + 1) 261 4 [(2, 95), (0, c), (0, k), (0, s), (0, n), (9, 0), (9, 0), (9, 0)] [(0, isInV c 0 2)] w 142 Q9
  refine qG.br (P := isInV c 0 2 = 0) (pc1 := 21) (pc2 := 7) (st1 := []) rfl (fun hc0 => ?_) (fun hc0 => ?_)
  · skip
    refine qG.blk 1 (pc' := 22) (ls' := [(2, 95), (0, c), (0, k), (0, s), (0, n), (9, 0), (9, 0), (9, 0)]) (st' := [(0, (-1))]) (w' := w) (n' := 142) rfl ?_
    refine qG.ret rfl rfl ?_
    subst hQ9
    first | exact SQ.rf hI hS | exact SQ.mk' hAs (by decide +kernel) hSs | exact SQ.mk' hA1 (by decide +kernel) hS3 | exact SQ.mk' hA2 (by decide +kernel) hS2
  · skip
    obtain ⟨c9, rfl, hlc9, huc9⟩ := isIn_n (by decide) hc0
    refine qG.blk 1 (pc' := 8) (ls' := [(2, 95), (0, ((c9 : Nat) : Int)), (0, k), (0, s), (0, n), (9, 0), (9, 0), (9, 0)]) (st' := [(0, k)]) (w' := w) (n' := 142) rfl ?_
    refine qG.call (t := 209) (na := 1) (sk := 0) (md := 0) (ls1 := [(0, k)]) (r1 := []) rfl rfl rfl rfl rfl (K_isShow (by omega) _ _) ?_
    rintro _ w7 _ ⟨rfl, hw7, rfl⟩
    rw [hw7]
    show qG none (d + 1) 261 11 [(2, 95), (0, ((c9 : Nat) : Int)), (0, k), (0, s), (0, n), (9, 0), (9, 0), (9, 0)] [(0, isInV k 0 3)] w 142 Q9
    refine qG.br (P := isInV k 0 3 = 0) (pc1 := 21) (pc2 := 14) (st1 := []) rfl (fun hk0 => ?_) (fun hk0 => ?_)
    · skip
      refine qG.blk 1 (pc' := 22) (ls' := [(2, 95), (0, ((c9 : Nat) : Int)), (0, k), (0, s), (0, n), (9, 0), (9, 0), (9, 0)]) (st' := [(0, (-1))]) (w' := w) (n' := 142) rfl ?_
      refine qG.ret rfl rfl ?_
      subst hQ9
      first | exact SQ.rf hI hS | exact SQ.mk' hAs (by decide +kernel) hSs | exact SQ.mk' hA1 (by decide +kernel) hS3 | exact SQ.mk' hA2 (by decide +kernel) hS2
    · skip
      obtain ⟨k9, rfl, hlk9, huk9⟩ := isIn_n (by decide) hk0
      refine qG.blk 1 (pc' := 15) (ls' := [(2, 95), (0, ((c9 : Nat) : Int)), (0, ((k9 : Nat) : Int)), (0, s), (0, n), (9, 0), (9, 0), (9, 0)]) (st' := [(0, s)]) (w' := w) (n' := 142) rfl ?_
      refine qG.call (t := 210) (na := 1) (sk := 0) (md := 0) (ls1 := [(0, s)]) (r1 := []) rfl rfl rfl rfl rfl (K_isSize (by omega) _ _) ?_
      rintro _ w7 _ ⟨rfl, hw7, rfl⟩
      rw [hw7]
      show qG none (d + 1) 261 18 [(2, 95), (0, ((c9 : Nat) : Int)), (0, ((k9 : Nat) : Int)), (0, s), (0, n), (9, 0), (9, 0), (9, 0)] [(0, isInV s 1 4)] w 142 Q9
      refine qG.br (P := isInV s 1 4 = 0) (pc1 := 21) (pc2 := 23) (st1 := []) rfl (fun hs0 => ?_) (fun hs0 => ?_)
      · skip
        refine qG.blk 1 (pc' := 22) (ls' := [(2, 95), (0, ((c9 : Nat) : Int)), (0, ((k9 : Nat) : Int)), (0, s), (0, n), (9, 0), (9, 0), (9, 0)]) (st' := [(0, (-1))]) (w' := w) (n' := 142) rfl ?_
        refine qG.ret rfl rfl ?_
        subst hQ9
        first | exact SQ.rf hI hS | exact SQ.mk' hAs (by decide +kernel) hSs | exact SQ.mk' hA1 (by decide +kernel) hS3 | exact SQ.mk' hA2 (by decide +kernel) hS2
      · skip
        obtain ⟨s9, rfl, hls9, hus9⟩ := isIn_n (by decide) hs0
        refine qG.blk 3 (pc' := 26) (ls' := [(2, 95), (0, ((c9 : Nat) : Int)), (0, ((k9 : Nat) : Int)), (0, ((s9 : Nat) : Int)), (0, n), (9, 0), (9, 0), (9, 0)]) (st' := [(0, ((k9 : Nat) : Int)), (0, ((c9 : Nat) : Int)), (2, 95)]) (w' := w) (n' := 142) rfl ?_
        refine qG.call (t := 253) (na := 3) (sk := 1) (md := 1) (ls1 := [(2, 95), (0, ((c9 : Nat) : Int)), (0, ((k9 : Nat) : Int)), (9, 0)]) (r1 := []) rfl rfl rfl rfl rfl (K_shows (by omega) c9 k9 (by omega) (by omega) w hI hS1) ?_
        rintro _ ws _ ⟨rfl, rfl, rfl⟩
        have hAs := (sh_aw (c := c9) (k := k9) (by omega) hI hS1).1
        have hSs := sh_s3 (c := c9) (k := k9) (by omega) hI hS1 hS
        generalize shW w c9 k9 (w 106 k9).toNat = ws at hAs hSs ⊢
        have h37 := zfld hAs.1 (j := 37) (b := (0, 800)) rfl
        have a37 : (0 : Int) ≤ ws 95 37 := h37.1
        have b37 : ws 95 37 ≤ (800 : Int) := h37.2
        show qG none (d + 1) 261 29 [(2, 95), (0, ((c9 : Nat) : Int)), (0, ((k9 : Nat) : Int)), (0, ((s9 : Nat) : Int)), (0, n), (9, 0), (9, 0), (9, 0)] [] ws 142 Q9
        refine qG.blk 4 (pc' := 36) (ls' := [(2, 95), (0, ((c9 : Nat) : Int)), (0, ((k9 : Nat) : Int)), (0, ((s9 : Nat) : Int)), (0, n), (9, 0), (9, 0), (9, 0)]) (st' := [(0, ws 95 37), (0, 0), (0, n)]) (w' := ws) (n' := 142) rfl ?_
        refine qG.call (t := 206) (na := 3) (sk := 0) (md := 0) (ls1 := [(0, n), (0, 0), (0, ws 95 37)]) (r1 := []) rfl rfl rfl rfl rfl (K_isIn (Nat.zero_le _) _ _ _ _) ?_
        rintro _ w7 _ ⟨rfl, hw7, rfl⟩
        rw [hw7]
        show qG none (d + 1) 261 39 [(2, 95), (0, ((c9 : Nat) : Int)), (0, ((k9 : Nat) : Int)), (0, ((s9 : Nat) : Int)), (0, n), (9, 0), (9, 0), (9, 0)] [(0, isInV (n) (0) (ws 95 37))] ws 142 Q9
        refine qG.br (P := isInV (n) (0) (ws 95 37) = 0) (pc1 := 51) (pc2 := 42) (st1 := []) rfl (fun hn0 => ?_) (fun hn0 => ?_)
        · skip
          refine qG.blk 1 (pc' := 52) (ls' := [(2, 95), (0, ((c9 : Nat) : Int)), (0, ((k9 : Nat) : Int)), (0, ((s9 : Nat) : Int)), (0, n), (9, 0), (9, 0), (9, 0)]) (st' := [(0, (-1))]) (w' := ws) (n' := 142) rfl ?_
          refine qG.ret rfl rfl ?_
          subst hQ9
          first | exact SQ.rf hI hS | exact SQ.mk' hAs (by decide +kernel) hSs | exact SQ.mk' hA1 (by decide +kernel) hS3 | exact SQ.mk' hA2 (by decide +kernel) hS2
        · skip
          obtain ⟨n9, rfl, hln9, hun9⟩ := isIn_n (by decide) hn0
          refine qG.blk 3 (pc' := 45) (ls' := [(2, 95), (0, ((c9 : Nat) : Int)), (0, ((k9 : Nat) : Int)), (0, ((s9 : Nat) : Int)), (0, ((n9 : Nat) : Int)), (9, 0), (9, 0), (9, 0)]) (st' := [(0, ((s9 : Nat) : Int)), (0, ((c9 : Nat) : Int)), (2, 95)]) (w' := ws) (n' := 142) rfl ?_
          refine qG.call (t := 257) (na := 3) (sk := 1) (md := 1) (ls1 := [(2, 95), (0, ((c9 : Nat) : Int)), (0, ((s9 : Nat) : Int)), (9, 0), (9, 0), (9, 0), (9, 0)]) (r1 := []) rfl rfl rfl rfl rfl (K_hides (by omega) c9 s9 (by omega) (by omega) (by omega) ws hAs.1 hSs) ?_
          rintro _ w1 _ ⟨rfl, w0, hfp, hA0, hS0, hH, N, S, t, hN, hSS, htS, rfl, htc⟩
          have hA1 := hAs.tr1 hA0 hH
          have hS3 := hd_s3 hS0 hH
          show qG none (d + 1) 261 48 [(2, 95), (0, ((c9 : Nat) : Int)), (0, ((k9 : Nat) : Int)), (0, ((s9 : Nat) : Int)), (0, ((n9 : Nat) : Int)), (9, 0), (9, 0), (9, 0)] [(0, ((cntF (cF w0 t) N : Nat) : Int))] w1 142 Q9
          refine qG.br (P := ((cntF (cF w0 t) N : Nat) : Int) = 0) (pc1 := 51) (pc2 := 53) (st1 := []) rfl (fun hz => ?_) (fun hz => ?_)
          · skip
            refine qG.blk 1 (pc' := 52) (ls' := [(2, 95), (0, ((c9 : Nat) : Int)), (0, ((k9 : Nat) : Int)), (0, ((s9 : Nat) : Int)), (0, ((n9 : Nat) : Int)), (9, 0), (9, 0), (9, 0)]) (st' := [(0, (-1))]) (w' := w1) (n' := 142) rfl ?_
            refine qG.ret rfl rfl ?_
            subst hQ9
            first | exact SQ.rf hI hS | exact SQ.mk' hAs (by decide +kernel) hSs | exact SQ.mk' hA1 (by decide +kernel) hS3 | exact SQ.mk' hA2 (by decide +kernel) hS2
          · skip
            have hN1 : w1 95 8 = (N : Int) := (hdW_e hH (by decide)).trans hN
            have hSS1 : w1 95 37 = (S : Int) := (hdW_e hH (by decide)).trans hSS
            have h8 := zfld hH.2 (j := 8) (b := (0, 1820)) rfl
            have b8 : w1 95 8 ≤ (1820 : Int) := h8.2
            have h37b := zfld hH.2 (j := 37) (b := (0, 800)) rfl
            have b37b : w1 95 37 ≤ (800 : Int) := h37b.2
            have hm2 : ∀ i, (0 : Int) ≤ w1 102 i ∧ w1 102 i ≤ 50 := fun i => hH.2.2.1 102 i (0, 50) rfl rfl
            have hsn : ws 95 37 = (S : Int) := ((hA0.2 95 37 (fun _ => rfl)).symm).trans hSS
            refine qG.blk 1 (pc' := 54) (ls' := [(2, 95), (0, ((c9 : Nat) : Int)), (0, ((k9 : Nat) : Int)), (0, ((s9 : Nat) : Int)), (0, ((n9 : Nat) : Int)), (9, 0), (9, 0), (9, 0)]) (st' := [(2, 95)]) (w' := w1) (n' := 142) rfl ?_
            refine qG.call (t := 260) (na := 1) (sk := 1) (md := 1) (ls1 := [(2, 95), (9, 0), (9, 0), (9, 0), (9, 0)]) (r1 := []) rfl rfl rfl rfl rfl (K_leadsBack (by omega) N S w1 hH.2 hS3 hN1 hSS1) ?_
            rintro _ w2 _ ⟨rfl, rfl, hL, hrow⟩
            have hA2 := hA1.tr2 hL
            have hS2 := lb_s3 hS3 hL
            show qG none (d + 1) 261 57 [(2, 95), (0, ((c9 : Nat) : Int)), (0, ((k9 : Nat) : Int)), (0, ((s9 : Nat) : Int)), (0, ((n9 : Nat) : Int)), (9, 0), (9, 0), (9, 0)] [] w2 142 Q9
            refine qG.blk 2 (pc' := 60) (ls' := [(2, 95), (0, ((c9 : Nat) : Int)), (0, ((k9 : Nat) : Int)), (0, ((s9 : Nat) : Int)), (0, ((n9 : Nat) : Int)), (0, 0), (9, 0), (9, 0)]) (st' := []) (w' := w2) (n' := 142) rfl ?_
            have htS2 : t = S := by omega
            obtain ⟨j9, hj9, hcj⟩ := cntF_in (f := cF w0 t) (i := N) (by omega)
            have hcF := cF_cong (w := w0) (w1 := w1) (fun i => hH.1 101 i (by decide) (by decide) (fun z => by cases z.1)) (fun i => hH.1 102 i (by decide) (by decide) (fun z => by cases z.1)) (fun i => hH.1 103 i (by decide) (by decide) (fun z => by cases z.1)) (fun i => hH.1 116 i (by decide) (by decide) (fun z => by cases z.1)) t
            rw [← hcF] at hcj
            obtain ⟨e9, heN, he9⟩ := way_0 (S := S) hH.2 hS3 hN1 t j9 htS hj9 hcj (by rw [htS2, Nat.sub_self]; rfl)
            have L60 : ∀ (m9 : Nat) (i : Nat), e9 + 1 - i = m9 → (i ≤ e9) → qG none (d + 1) 261 60 [(2, 95), (0, ((c9 : Nat) : Int)), (0, ((k9 : Nat) : Int)), (0, ((s9 : Nat) : Int)), (0, ((n9 : Nat) : Int)), (0, ((i : Nat) : Int)), (9, 0), (9, 0)] [] w2 142 Q9 := by
              intro m9
              induction m9 using Nat.strongRecOn with
              | ind m9 ih60 =>
              intro i hm60 hI60
              refine qG.blk 3 (pc' := 64) (ls' := [(2, 95), (0, ((c9 : Nat) : Int)), (0, ((k9 : Nat) : Int)), (0, ((s9 : Nat) : Int)), (0, ((n9 : Nat) : Int)), (0, ((i : Nat) : Int)), (9, 0), (9, 0)]) (st' := [(0, ((i : Nat) : Int)), (0, 0), (2, 95)]) (w' := w2) (n' := 142) rfl ?_
              refine qG.call (t := 259) (na := 3) (sk := 1) (md := 1) (ls1 := [(2, 95), (0, 0), (0, ((i : Nat) : Int))]) (r1 := []) rfl rfl rfl rfl rfl ((K_isGoing (Nat.zero_le _) 0 i (by omega) (by omega) w2 hL.2 : qG none _ 259 0 [(2, 95), (0, 0), (0, ((i : Nat) : Int))] [] w2 142 _)) ?_
              rintro _ w6 _ ⟨rfl, hw6, rfl⟩
              rw [hw6, show goB w2 0 i = gF w1 S S i from (by have q := hrow S i (Nat.le_refl _) (by omega); rw [Nat.sub_self] at q; exact q)]
              show qG none (d + 1) 261 67 [(2, 95), (0, ((c9 : Nat) : Int)), (0, ((k9 : Nat) : Int)), (0, ((s9 : Nat) : Int)), (0, ((n9 : Nat) : Int)), (0, ((i : Nat) : Int)), (9, 0), (9, 0)] [(0, b01 (gF w1 S S i))] w2 142 Q9
              refine qG.br (P := b01 (gF w1 S S i) = 0) (pc1 := 70) (pc2 := 76) (st1 := []) rfl (fun hgo => ?_) (fun hgo => ?_)
              · skip
                refine qG.blk 1 (pc' := 73) (ls' := [(2, 95), (0, ((c9 : Nat) : Int)), (0, ((k9 : Nat) : Int)), (0, ((s9 : Nat) : Int)), (0, ((n9 : Nat) : Int)), (0, wrp (((i : Nat) : Int) + 1)), (9, 0), (9, 0)]) (st' := []) (w' := w2) (n' := 142) rfl ?_
                rw [show wrp (((i : Nat) : Int) + 1) = ((i + 1 : Nat) : Int) from wrp_id (by omega) (by omega)]
                refine qG.blk 1 (pc' := 60) (ls' := [(2, 95), (0, ((c9 : Nat) : Int)), (0, ((k9 : Nat) : Int)), (0, ((s9 : Nat) : Int)), (0, ((n9 : Nat) : Int)), (0, ((i + 1 : Nat) : Int)), (9, 0), (9, 0)]) (st' := []) (w' := w2) (n' := 142) rfl ?_
                exact ih60 _ (by have q : i ≠ e9 := fun z => (by rw [z, he9] at hgo; exact absurd hgo (by decide)); omega) (i + 1) rfl ((by have q : i ≠ e9 := fun z => (by rw [z, he9] at hgo; exact absurd hgo (by decide)); omega))
              · skip
                refine qG.blk 2 (pc' := 79) (ls' := [(2, 95), (0, ((c9 : Nat) : Int)), (0, ((k9 : Nat) : Int)), (0, ((s9 : Nat) : Int)), (0, ((n9 : Nat) : Int)), (0, ((i : Nat) : Int)), (0, 0), (9, 0)]) (st' := []) (w' := w2) (n' := 142) rfl ?_
                have L79 : ∀ (m9 : Nat) (t2 i : Nat) (x7 : qV), n9 - t2 = m9 → (t2 ≤ n9 ∧ i < N ∧ gF w1 S (S - t2) i = true) → qG none (d + 1) 261 79 [(2, 95), (0, ((c9 : Nat) : Int)), (0, ((k9 : Nat) : Int)), (0, ((s9 : Nat) : Int)), (0, ((n9 : Nat) : Int)), (0, ((i : Nat) : Int)), (0, ((t2 : Nat) : Int)), x7] [] w2 142 Q9 := by
                  intro m9
                  induction m9 using Nat.strongRecOn with
                  | ind m9 ih79 =>
                  intro t2 i x7 hm79 hI79
                  refine qG.blk 2 (pc' := 83) (ls' := [(2, 95), (0, ((c9 : Nat) : Int)), (0, ((k9 : Nat) : Int)), (0, ((s9 : Nat) : Int)), (0, ((n9 : Nat) : Int)), (0, ((i : Nat) : Int)), (0, ((t2 : Nat) : Int)), x7]) (st' := [(0, ((n9 : Nat) : Int)), (0, ((t2 : Nat) : Int))]) (w' := w2) (n' := 142) rfl ?_
                  refine qG.br (P := ((t2 : Nat) : Int) < ((n9 : Nat) : Int)) (pc1 := 86) (pc2 := 169) (st1 := []) rfl (fun htn => ?_) (fun htn => ?_)
                  · skip
                    refine qG.blk 2 (pc' := 89) (ls' := [(2, 95), (0, ((c9 : Nat) : Int)), (0, ((k9 : Nat) : Int)), (0, ((s9 : Nat) : Int)), (0, ((n9 : Nat) : Int)), (0, ((i : Nat) : Int)), (0, ((t2 : Nat) : Int)), (0, 0)]) (st' := []) (w' := w2) (n' := 142) rfl ?_
                    obtain ⟨k9b, hkm, hkN, hgk, hck⟩ := way_s (t := t2) hH.2 hS3 hN1 hI79.2.1 (by omega) hI79.2.2
                    have hm2i := hm2 i
                    have L89 : ∀ (m9 : Nat) (k : Nat), k9b + 1 - k = m9 → (k ≤ k9b) → qG none (d + 1) 261 89 [(2, 95), (0, ((c9 : Nat) : Int)), (0, ((k9 : Nat) : Int)), (0, ((s9 : Nat) : Int)), (0, ((n9 : Nat) : Int)), (0, ((i : Nat) : Int)), (0, ((t2 : Nat) : Int)), (0, ((k : Nat) : Int))] [] w2 142 Q9 := by
                      intro m9
                      induction m9 using Nat.strongRecOn with
                      | ind m9 ih89 =>
                      intro k hm89 hI89
                      have hnx : nxF w1 i k < N := nx_lt hH.2 hS3 hN1 hI79.2.1 (by omega)
                      refine qG.blk 4 (pc' := 94) (ls' := [(2, 95), (0, ((c9 : Nat) : Int)), (0, ((k9 : Nat) : Int)), (0, ((s9 : Nat) : Int)), (0, ((n9 : Nat) : Int)), (0, ((i : Nat) : Int)), (0, ((t2 : Nat) : Int)), (0, ((k : Nat) : Int))]) (st' := [(0, wrp (((t2 : Nat) : Int) + 1)), (2, 95)]) (w' := w2) (n' := 142) rfl ?_
                      rw [show wrp (((t2 : Nat) : Int) + 1) = ((t2 + 1 : Nat) : Int) from by rw [wrp_id (by omega) (by omega)]; omega]
                      refine qG.blk 2 (pc' := 98) (ls' := [(2, 95), (0, ((c9 : Nat) : Int)), (0, ((k9 : Nat) : Int)), (0, ((s9 : Nat) : Int)), (0, ((n9 : Nat) : Int)), (0, ((i : Nat) : Int)), (0, ((t2 : Nat) : Int)), (0, ((k : Nat) : Int))]) (st' := [(2, w2 95 7), (0, ((t2 + 1 : Nat) : Int)), (2, 95)]) (w' := w2) (n' := 142) rfl ?_
                      rw [show w2 95 7 = 103 from zref hL.2 rfl rfl]
                      refine qG.blk 3 (pc' := 103) (ls' := [(2, 95), (0, ((c9 : Nat) : Int)), (0, ((k9 : Nat) : Int)), (0, ((s9 : Nat) : Int)), (0, ((n9 : Nat) : Int)), (0, ((i : Nat) : Int)), (0, ((t2 : Nat) : Int)), (0, ((k : Nat) : Int))]) (st' := [(0, wrp (50 * ((i : Nat) : Int))), (2, 103), (0, ((t2 + 1 : Nat) : Int)), (2, 95)]) (w' := w2) (n' := 142) rfl ?_
                      rw [show wrp (50 * ((i : Nat) : Int)) = ((50 * i : Nat) : Int) from by rw [wrp_id (by omega) (by omega)]; omega]
                      refine qG.blk 2 (pc' := 106) (ls' := [(2, 95), (0, ((c9 : Nat) : Int)), (0, ((k9 : Nat) : Int)), (0, ((s9 : Nat) : Int)), (0, ((n9 : Nat) : Int)), (0, ((i : Nat) : Int)), (0, ((t2 : Nat) : Int)), (0, ((k : Nat) : Int))]) (st' := [(0, wrp (((50 * i : Nat) : Int) + ((k : Nat) : Int))), (2, 103), (0, ((t2 + 1 : Nat) : Int)), (2, 95)]) (w' := w2) (n' := 142) rfl ?_
                      rw [show wrp (((50 * i : Nat) : Int) + ((k : Nat) : Int)) = ((50 * i + k : Nat) : Int) from by rw [wrp_id (by omega) (by omega)]; omega]
                      refine qG.ild (m := 91000) rfl rfl (by omega) (by decide) ?_
                      show qG none (d + 1) 261 107 [(2, 95), (0, ((c9 : Nat) : Int)), (0, ((k9 : Nat) : Int)), (0, ((s9 : Nat) : Int)), (0, ((n9 : Nat) : Int)), (0, ((i : Nat) : Int)), (0, ((t2 : Nat) : Int)), (0, ((k : Nat) : Int))] [(0, w2 103 (50 * i + k)), (0, ((t2 + 1 : Nat) : Int)), (2, 95)] w2 142 Q9
                      rw [show w2 103 (50 * i + k) = ((nxF w1 i k : Nat) : Int) from (hL.1 103 ((50 * i + k)) (by decide)).trans (nx_e hH.2 i k)]
                      refine qG.call (t := 259) (na := 3) (sk := 1) (md := 1) (ls1 := [(2, 95), (0, ((t2 + 1 : Nat) : Int)), (0, ((nxF w1 i k : Nat) : Int))]) (r1 := []) rfl rfl rfl rfl rfl (K_isGoing (Nat.zero_le _) (t2 + 1) (nxF w1 i k) (by omega) (by omega) w2 hL.2) ?_
                      rintro _ w6 _ ⟨rfl, hw6, rfl⟩
                      rw [hw6, show goB w2 (t2 + 1) (nxF w1 i k) = gF w1 S (S - (t2 + 1)) (nxF w1 i k) from (by have q := hrow (S - (t2 + 1)) (nxF w1 i k) (by omega) hnx; rw [← q, show S - (S - (t2 + 1)) = t2 + 1 by omega])]
                      show qG none (d + 1) 261 110 [(2, 95), (0, ((c9 : Nat) : Int)), (0, ((k9 : Nat) : Int)), (0, ((s9 : Nat) : Int)), (0, ((n9 : Nat) : Int)), (0, ((i : Nat) : Int)), (0, ((t2 : Nat) : Int)), (0, ((k : Nat) : Int))] [(0, b01 (gF w1 S (S - (t2 + 1)) (nxF w1 i k)))] w2 142 Q9
                      refine qG.br (P := b01 (gF w1 S (S - (t2 + 1)) (nxF w1 i k)) = 0) (pc1 := 142) (pc2 := 113) (st1 := []) rfl (fun hgo2 => ?_) (fun hgo2 => ?_)
                      · skip
                        refine qG.blk 1 (pc' := 145) (ls' := [(2, 95), (0, ((c9 : Nat) : Int)), (0, ((k9 : Nat) : Int)), (0, ((s9 : Nat) : Int)), (0, ((n9 : Nat) : Int)), (0, ((i : Nat) : Int)), (0, ((t2 : Nat) : Int)), (0, wrp (((k : Nat) : Int) + 1))]) (st' := []) (w' := w2) (n' := 142) rfl ?_
                        rw [show wrp (((k : Nat) : Int) + 1) = ((k + 1 : Nat) : Int) from wrp_id (by omega) (by omega)]
                        refine qG.blk 1 (pc' := 89) (ls' := [(2, 95), (0, ((c9 : Nat) : Int)), (0, ((k9 : Nat) : Int)), (0, ((s9 : Nat) : Int)), (0, ((n9 : Nat) : Int)), (0, ((i : Nat) : Int)), (0, ((t2 : Nat) : Int)), (0, ((k + 1 : Nat) : Int))]) (st' := []) (w' := w2) (n' := 142) rfl ?_
                        exact ih89 _ (by have q : k ≠ k9b := (by first | exact fun z => (by rw [z, hgk] at hgo2; exact absurd hgo2 (by decide)) | exact fun z => (by rw [z] at hcl; exact hcl (of_decide_eq_true hck))); omega) (k + 1) rfl ((by have q : k ≠ k9b := (by first | exact fun z => (by rw [z, hgk] at hgo2; exact absurd hgo2 (by decide)) | exact fun z => (by rw [z] at hcl; exact hcl (of_decide_eq_true hck))); omega))
                      · skip
                        refine qG.blk 2 (pc' := 117) (ls' := [(2, 95), (0, ((c9 : Nat) : Int)), (0, ((k9 : Nat) : Int)), (0, ((s9 : Nat) : Int)), (0, ((n9 : Nat) : Int)), (0, ((i : Nat) : Int)), (0, ((t2 : Nat) : Int)), (0, ((k : Nat) : Int))]) (st' := [(2, w2 95 5)]) (w' := w2) (n' := 142) rfl ?_
                        rw [show w2 95 5 = 101 from zref hL.2 rfl rfl]
                        refine qG.blk 2 (pc' := 121) (ls' := [(2, 95), (0, ((c9 : Nat) : Int)), (0, ((k9 : Nat) : Int)), (0, ((s9 : Nat) : Int)), (0, ((n9 : Nat) : Int)), (0, ((i : Nat) : Int)), (0, ((t2 : Nat) : Int)), (0, ((k : Nat) : Int))]) (st' := [(2, w2 95 7), (2, 101)]) (w' := w2) (n' := 142) rfl ?_
                        rw [show w2 95 7 = 103 from zref hL.2 rfl rfl]
                        refine qG.blk 3 (pc' := 126) (ls' := [(2, 95), (0, ((c9 : Nat) : Int)), (0, ((k9 : Nat) : Int)), (0, ((s9 : Nat) : Int)), (0, ((n9 : Nat) : Int)), (0, ((i : Nat) : Int)), (0, ((t2 : Nat) : Int)), (0, ((k : Nat) : Int))]) (st' := [(0, wrp (50 * ((i : Nat) : Int))), (2, 103), (2, 101)]) (w' := w2) (n' := 142) rfl ?_
                        rw [show wrp (50 * ((i : Nat) : Int)) = ((50 * i : Nat) : Int) from by rw [wrp_id (by omega) (by omega)]; omega]
                        refine qG.blk 2 (pc' := 129) (ls' := [(2, 95), (0, ((c9 : Nat) : Int)), (0, ((k9 : Nat) : Int)), (0, ((s9 : Nat) : Int)), (0, ((n9 : Nat) : Int)), (0, ((i : Nat) : Int)), (0, ((t2 : Nat) : Int)), (0, ((k : Nat) : Int))]) (st' := [(0, wrp (((50 * i : Nat) : Int) + ((k : Nat) : Int))), (2, 103), (2, 101)]) (w' := w2) (n' := 142) rfl ?_
                        rw [show wrp (((50 * i : Nat) : Int) + ((k : Nat) : Int)) = ((50 * i + k : Nat) : Int) from by rw [wrp_id (by omega) (by omega)]; omega]
                        refine qG.ild (m := 91000) rfl rfl (by omega) (by decide) ?_
                        show qG none (d + 1) 261 130 [(2, 95), (0, ((c9 : Nat) : Int)), (0, ((k9 : Nat) : Int)), (0, ((s9 : Nat) : Int)), (0, ((n9 : Nat) : Int)), (0, ((i : Nat) : Int)), (0, ((t2 : Nat) : Int)), (0, ((k : Nat) : Int))] [(0, w2 103 (50 * i + k)), (2, 101)] w2 142 Q9
                        rw [show w2 103 (50 * i + k) = ((nxF w1 i k : Nat) : Int) from (hL.1 103 ((50 * i + k)) (by decide)).trans (nx_e hH.2 i k)]
                        refine qG.ild (m := 1820) rfl rfl (by omega) (by decide) ?_
                        show qG none (d + 1) 261 131 [(2, 95), (0, ((c9 : Nat) : Int)), (0, ((k9 : Nat) : Int)), (0, ((s9 : Nat) : Int)), (0, ((n9 : Nat) : Int)), (0, ((i : Nat) : Int)), (0, ((t2 : Nat) : Int)), (0, ((k : Nat) : Int))] [(0, w2 101 (nxF w1 i k))] w2 142 Q9
                        rw [show w2 101 (nxF w1 i k) = w1 101 (nxF w1 i k) from hL.1 101 ((nxF w1 i k)) (by decide)]
                        refine qG.blk 2 (pc' := 135) (ls' := [(2, 95), (0, ((c9 : Nat) : Int)), (0, ((k9 : Nat) : Int)), (0, ((s9 : Nat) : Int)), (0, ((n9 : Nat) : Int)), (0, ((i : Nat) : Int)), (0, ((t2 : Nat) : Int)), (0, ((k : Nat) : Int))]) (st' := [(2, w2 95 36), (0, w1 101 (nxF w1 i k))]) (w' := w2) (n' := 142) rfl ?_
                        rw [show w2 95 36 = 116 from zref hL.2 rfl rfl]
                        refine qG.blk 1 (pc' := 137) (ls' := [(2, 95), (0, ((c9 : Nat) : Int)), (0, ((k9 : Nat) : Int)), (0, ((s9 : Nat) : Int)), (0, ((n9 : Nat) : Int)), (0, ((i : Nat) : Int)), (0, ((t2 : Nat) : Int)), (0, ((k : Nat) : Int))]) (st' := [(0, ((t2 : Nat) : Int)), (2, 116), (0, w1 101 (nxF w1 i k))]) (w' := w2) (n' := 142) rfl ?_
                        refine qG.ild (m := 900) rfl rfl (by omega) (by decide) ?_
                        show qG none (d + 1) 261 138 [(2, 95), (0, ((c9 : Nat) : Int)), (0, ((k9 : Nat) : Int)), (0, ((s9 : Nat) : Int)), (0, ((n9 : Nat) : Int)), (0, ((i : Nat) : Int)), (0, ((t2 : Nat) : Int)), (0, ((k : Nat) : Int))] [(0, w2 116 t2), (0, w1 101 (nxF w1 i k))] w2 142 Q9
                        rw [show w2 116 t2 = w1 116 t2 from hL.1 116 (t2) (by decide)]
                        refine qG.blk 1 (pc' := 139) (ls' := [(2, 95), (0, ((c9 : Nat) : Int)), (0, ((k9 : Nat) : Int)), (0, ((s9 : Nat) : Int)), (0, ((n9 : Nat) : Int)), (0, ((i : Nat) : Int)), (0, ((t2 : Nat) : Int)), (0, ((k : Nat) : Int))]) (st' := [(0, qand (w1 101 (nxF w1 i k)) (w1 116 t2))]) (w' := w2) (n' := 142) rfl ?_
                        refine qG.br (P := qand (w1 101 (nxF w1 i k)) (w1 116 t2) = 0) (pc1 := 148) (pc2 := 142) (st1 := []) rfl (fun hcl => ?_) (fun hcl => ?_)
                        · skip
                          refine qG.blk 2 (pc' := 152) (ls' := [(2, 95), (0, ((c9 : Nat) : Int)), (0, ((k9 : Nat) : Int)), (0, ((s9 : Nat) : Int)), (0, ((n9 : Nat) : Int)), (0, ((i : Nat) : Int)), (0, ((t2 : Nat) : Int)), (0, ((k : Nat) : Int))]) (st' := [(2, w2 95 7)]) (w' := w2) (n' := 142) rfl ?_
                          rw [show w2 95 7 = 103 from zref hL.2 rfl rfl]
                          refine qG.blk 3 (pc' := 157) (ls' := [(2, 95), (0, ((c9 : Nat) : Int)), (0, ((k9 : Nat) : Int)), (0, ((s9 : Nat) : Int)), (0, ((n9 : Nat) : Int)), (0, ((i : Nat) : Int)), (0, ((t2 : Nat) : Int)), (0, ((k : Nat) : Int))]) (st' := [(0, wrp (50 * ((i : Nat) : Int))), (2, 103)]) (w' := w2) (n' := 142) rfl ?_
                          rw [show wrp (50 * ((i : Nat) : Int)) = ((50 * i : Nat) : Int) from by rw [wrp_id (by omega) (by omega)]; omega]
                          refine qG.blk 2 (pc' := 160) (ls' := [(2, 95), (0, ((c9 : Nat) : Int)), (0, ((k9 : Nat) : Int)), (0, ((s9 : Nat) : Int)), (0, ((n9 : Nat) : Int)), (0, ((i : Nat) : Int)), (0, ((t2 : Nat) : Int)), (0, ((k : Nat) : Int))]) (st' := [(0, wrp (((50 * i : Nat) : Int) + ((k : Nat) : Int))), (2, 103)]) (w' := w2) (n' := 142) rfl ?_
                          rw [show wrp (((50 * i : Nat) : Int) + ((k : Nat) : Int)) = ((50 * i + k : Nat) : Int) from by rw [wrp_id (by omega) (by omega)]; omega]
                          refine qG.ild (m := 91000) rfl rfl (by omega) (by decide) ?_
                          show qG none (d + 1) 261 161 [(2, 95), (0, ((c9 : Nat) : Int)), (0, ((k9 : Nat) : Int)), (0, ((s9 : Nat) : Int)), (0, ((n9 : Nat) : Int)), (0, ((i : Nat) : Int)), (0, ((t2 : Nat) : Int)), (0, ((k : Nat) : Int))] [(0, w2 103 (50 * i + k))] w2 142 Q9
                          rw [show w2 103 (50 * i + k) = ((nxF w1 i k : Nat) : Int) from (hL.1 103 ((50 * i + k)) (by decide)).trans (nx_e hH.2 i k)]
                          refine qG.blk 2 (pc' := 166) (ls' := [(2, 95), (0, ((c9 : Nat) : Int)), (0, ((k9 : Nat) : Int)), (0, ((s9 : Nat) : Int)), (0, ((n9 : Nat) : Int)), (0, ((nxF w1 i k : Nat) : Int)), (0, wrp (((t2 : Nat) : Int) + 1)), (0, ((k : Nat) : Int))]) (st' := []) (w' := w2) (n' := 142) rfl ?_
                          rw [show wrp (((t2 : Nat) : Int) + 1) = ((t2 + 1 : Nat) : Int) from wrp_id (by omega) (by omega)]
                          refine qG.blk 1 (pc' := 79) (ls' := [(2, 95), (0, ((c9 : Nat) : Int)), (0, ((k9 : Nat) : Int)), (0, ((s9 : Nat) : Int)), (0, ((n9 : Nat) : Int)), (0, ((nxF w1 i k : Nat) : Int)), (0, ((t2 + 1 : Nat) : Int)), (0, ((k : Nat) : Int))]) (st' := []) (w' := w2) (n' := 142) rfl ?_
                          exact ih79 _ (by omega) (t2 + 1) (nxF w1 i k) ((0, ((k : Nat) : Int))) rfl (⟨by omega, hnx, b01_1 hgo2⟩)
                        · skip
                          refine qG.blk 1 (pc' := 145) (ls' := [(2, 95), (0, ((c9 : Nat) : Int)), (0, ((k9 : Nat) : Int)), (0, ((s9 : Nat) : Int)), (0, ((n9 : Nat) : Int)), (0, ((i : Nat) : Int)), (0, ((t2 : Nat) : Int)), (0, wrp (((k : Nat) : Int) + 1))]) (st' := []) (w' := w2) (n' := 142) rfl ?_
                          rw [show wrp (((k : Nat) : Int) + 1) = ((k + 1 : Nat) : Int) from wrp_id (by omega) (by omega)]
                          refine qG.blk 1 (pc' := 89) (ls' := [(2, 95), (0, ((c9 : Nat) : Int)), (0, ((k9 : Nat) : Int)), (0, ((s9 : Nat) : Int)), (0, ((n9 : Nat) : Int)), (0, ((i : Nat) : Int)), (0, ((t2 : Nat) : Int)), (0, ((k + 1 : Nat) : Int))]) (st' := []) (w' := w2) (n' := 142) rfl ?_
                          exact ih89 _ (by have q : k ≠ k9b := (by first | exact fun z => (by rw [z, hgk] at hgo2; exact absurd hgo2 (by decide)) | exact fun z => (by rw [z] at hcl; exact hcl (of_decide_eq_true hck))); omega) (k + 1) rfl ((by have q : k ≠ k9b := (by first | exact fun z => (by rw [z, hgk] at hgo2; exact absurd hgo2 (by decide)) | exact fun z => (by rw [z] at hcl; exact hcl (of_decide_eq_true hck))); omega))
                    exact L89 _ (0) rfl (by omega)
                  · skip
                    refine qG.blk 2 (pc' := 173) (ls' := [(2, 95), (0, ((c9 : Nat) : Int)), (0, ((k9 : Nat) : Int)), (0, ((s9 : Nat) : Int)), (0, ((n9 : Nat) : Int)), (0, ((i : Nat) : Int)), (0, ((t2 : Nat) : Int)), x7]) (st' := [(2, w2 95 5)]) (w' := w2) (n' := 142) rfl ?_
                    rw [show w2 95 5 = 101 from zref hL.2 rfl rfl]
                    refine qG.blk 1 (pc' := 175) (ls' := [(2, 95), (0, ((c9 : Nat) : Int)), (0, ((k9 : Nat) : Int)), (0, ((s9 : Nat) : Int)), (0, ((n9 : Nat) : Int)), (0, ((i : Nat) : Int)), (0, ((t2 : Nat) : Int)), x7]) (st' := [(0, ((i : Nat) : Int)), (2, 101)]) (w' := w2) (n' := 142) rfl ?_
                    refine qG.ild (m := 1820) rfl rfl (by omega) (by decide) ?_
                    show qG none (d + 1) 261 176 [(2, 95), (0, ((c9 : Nat) : Int)), (0, ((k9 : Nat) : Int)), (0, ((s9 : Nat) : Int)), (0, ((n9 : Nat) : Int)), (0, ((i : Nat) : Int)), (0, ((t2 : Nat) : Int)), x7] [(0, w2 101 i)] w2 142 Q9
                    rw [show w2 101 i = w1 101 i from hL.1 101 (i) (by decide)]
                    refine qG.ret rfl rfl ?_
                    subst hQ9
                    first | exact SQ.rf hI hS | exact SQ.mk' hAs (by decide +kernel) hSs | exact SQ.mk' hA1 (by decide +kernel) hS3 | exact SQ.mk' hA2 (by decide +kernel) hS2
                exact L79 _ (0) (i) ((9, 0)) rfl (⟨by omega, by omega, b01_1 hgo⟩)
            exact L60 _ (0) rfl (by omega)
