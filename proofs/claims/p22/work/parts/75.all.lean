/-! the reference's all: it ends -/
noncomputable def ALM : List Nat := [137]
theorem qcmp_p {x y : Int} : 0 < qcmp x y ↔ y < x := by unfold qcmp; split <;> (try split) <;> constructor <;> intro h <;> omega
theorem qcmp_z {x y : Int} : qcmp x y = 0 ↔ x = y := by unfold qcmp; split <;> (try split) <;> constructor <;> intro h <;> omega
theorem qldiv_k {x : Int} (h0 : 0 ≤ x) (h1 : x ≤ 891000000000) : qldiv x 1000 = x / 1000 := by
  unfold qldiv
  rw [Int.tdiv_eq_ediv_of_nonneg h0, wrl_id (by omega) (by omega)]
/-- the products so far -/
noncomputable def PW9 (w w9 : qW) (M : Nat) (t : Int) : Prop := AW ALM w w9 ∧ ∀ j : Nat, j < M → 0 ≤ w9 137 j ∧ w9 137 j ≤ t
noncomputable def PX9 (w w9 : qW) (M k : Nat) (s t : Int) : Prop := AW ALM w w9 ∧ (∀ j : Nat, j < k → 0 ≤ w9 137 j ∧ w9 137 j ≤ s) ∧ (∀ j : Nat, k ≤ j → j < M → 0 ≤ w9 137 j ∧ w9 137 j ≤ t)
theorem PX9.up {w w9 : qW} {M k : Nat} {s t v : Int} (h : PX9 w w9 M k s t) (h0 : 0 ≤ v) (h1 : v ≤ s) (h2 : s ≤ 891000000000) : PX9 w (qup w9 137 k v) M (k + 1) s t := by
  refine ⟨⟨zup_a h.1.1 (b := (-9223372036854775808, 9223372036854775807)) rfl rfl ⟨by show (-9223372036854775808 : Int) ≤ _; omega, by show _ ≤ (9223372036854775807 : Int); omega⟩, fun p j hp => ?_⟩, fun j hj => ?_, fun j hj hM => ?_⟩
  · rw [qup_ne (fun z => by have := hp (by omega); rw [z] at this; cases this)]
    exact h.1.2 p j hp
  · by_cases e : j = k
    · rw [e, qup_k]; exact ⟨h0, h1⟩
    · rw [qup_j e]; exact h.2.1 j (by omega)
  · rw [qup_j (by omega)]; exact h.2.2 j (by omega) hM
theorem PX9.fin {w w9 : qW} {M k : Nat} {s t : Int} (h : PX9 w w9 M k s t) (hk : k = M) : PW9 w w9 M s := ⟨h.1, fun j hj => h.2.1 j (by omega)⟩
theorem PW9.ini {w w9 : qW} {M : Nat} {s t : Int} (h : PW9 w w9 M t) : PX9 w w9 M 0 s t := ⟨h.1, fun j hj => absurd hj (Nat.not_lt_zero j), fun j _ hM => h.2 j hM⟩
theorem mul_b {x y : Int} (h0 : 0 ≤ x) (h1 : x ≤ 1000000000) (k0 : 0 ≤ y) (k1 : y ≤ 891) : 0 ≤ x * y ∧ x * y ≤ 891000000000 := by
  refine ⟨Int.mul_nonneg h0 k0, ?_⟩
  have := Int.mul_le_mul h1 k1 k0 (show (0 : Int) ≤ 1000000000 by decide)
  exact this
theorem K_isMaster {d : Nat} (hd : 1 ≤ d) (m : Int) (w : qW) (hI : yInv zgf zga zra zSp w) : qG none d 279 0 [(2, 95), (0, m)] [] w 142 (fun (r : qV) (w1 : qW) (n1 : Nat) => r = (0, isInV m 0 (w 95 55 - 1)) ∧ w1 = w ∧ n1 = 142) := by
  generalize hQ9 : (fun (r : qV) (w1 : qW) (n1 : Nat) => r = (0, isInV m 0 (w 95 55 - 1)) ∧ w1 = w ∧ n1 = 142) = Q9
  have h55 := zfld hI (j := 55) (b := (0, 12)) rfl
  have a55 : (0 : Int) ≤ w 95 55 := h55.1
  have b55 : w 95 55 ≤ (12 : Int) := h55.2
  obtain ⟨d, rfl⟩ : ∃ d9, d = d9 + 1 := ⟨d - 1, by omega⟩
  refine qG.blk 6 (pc' := 8) (ls' := [(2, 95), (0, m)]) (st' := [(0, wrp ((w 95 55) - 1)), (0, 0), (0, m)]) (w' := w) (n' := 142) rfl ?_
  rw [show wrp ((w 95 55) - 1) = (w 95 55) - 1 from wrp_id (by omega) (by omega)]
  refine qG.call (t := 206) (na := 3) (sk := 0) (md := 0) (ls1 := [(0, m), (0, 0), (0, (w 95 55) - 1)]) (r1 := []) rfl rfl rfl rfl rfl (K_isIn (Nat.zero_le _) _ _ _ _) ?_
  rintro _ w7 _ ⟨rfl, hw7, rfl⟩
  rw [hw7]
  show qG none (d + 1) 279 11 [(2, 95), (0, m)] [(0, isInV (m) (0) ((w 95 55) - 1))] w 142 Q9
  refine qG.ret rfl (by have q9 := isInV_01 m 0 (w 95 55 - 1); exact decide_eq_true (by omega)) ?_
  subst hQ9
  exact ⟨rfl, rfl, rfl⟩
theorem px_s {w : qW} {k : Nat} {v t : Int} (h : ∀ j : Nat, j < k → w 137 j ≤ t) (hv : v ≤ t) : ∀ j : Nat, j < k + 1 → qup w 137 k v 137 j ≤ t := fun j hj => by
  by_cases e : j = k
  · rw [e, qup_k]; exact hv
  · rw [qup_j e]; exact h j (by omega)
theorem K_all {d : Nat} (hd : 4 ≤ d) (a b m : Int) (w : qW) (hI : yInv zgf zga zra zSp w) : qG none d 287 0 [(2, 95), (0, a), (0, b), (0, m), (9, 0), (9, 0), (9, 0)] [] w 142 (fun (r : qV) (w1 : qW) (n1 : Nat) => n1 = 142 ∧ (∃ x, r = (0, x)) ∧ AW ALM w w1) := by
  generalize hQ9 : (fun (r : qV) (w1 : qW) (n1 : Nat) => n1 = 142 ∧ (∃ x, r = (0, x)) ∧ AW ALM w w1) = Q9
  have h55 := zfld hI (j := 55) (b := (0, 12)) rfl
  have a55 : (0 : Int) ≤ w 95 55 := h55.1
  have b55 : w 95 55 ≤ (12 : Int) := h55.2
  have h57 := zfld hI (j := 57) (b := (0, 60)) rfl
  have a57 : (0 : Int) ≤ w 95 57 := h57.1
  have b57 : w 95 57 ≤ (60 : Int) := h57.2
  obtain ⟨M, hM⟩ : ∃ M : Nat, w 95 55 = (M : Int) := ⟨(w 95 55).toNat, by omega⟩
  obtain ⟨d, rfl⟩ : ∃ d9, d = d9 + 1 := ⟨d - 1, by omega⟩
  refine qG.blk 6 (pc' := 8) (ls' := [(2, 95), (0, a), (0, b), (0, m), (9, 0), (9, 0), (9, 0)]) (st' := [(0, wrp ((w 95 57) - 1)), (0, 0), (0, a)]) (w' := w) (n' := 142) rfl ?_
  rw [show wrp ((w 95 57) - 1) = (w 95 57) - 1 from wrp_id (by omega) (by omega)]
  refine qG.call (t := 206) (na := 3) (sk := 0) (md := 0) (ls1 := [(0, a), (0, 0), (0, (w 95 57) - 1)]) (r1 := []) rfl rfl rfl rfl rfl (K_isIn (Nat.zero_le _) _ _ _ _) ?_
  rintro _ w7 _ ⟨rfl, hw7, rfl⟩
  rw [hw7]
  show qG none (d + 1) 287 11 [(2, 95), (0, a), (0, b), (0, m), (9, 0), (9, 0), (9, 0)] [(0, isInV (a) (0) ((w 95 57) - 1))] w 142 Q9
  refine qG.br (P := isInV (a) (0) ((w 95 57) - 1) = 0) (pc1 := 36) (pc2 := 14) (st1 := []) rfl (fun ha0 => ?_) (fun ha0 => ?_)
  · skip
    refine qG.blk 1 (pc' := 37) (ls' := [(2, 95), (0, a), (0, b), (0, m), (9, 0), (9, 0), (9, 0)]) (st' := [(0, (-1))]) (w' := w) (n' := 142) rfl ?_
    refine qG.ret rfl rfl ?_
    subst hQ9
    first | exact ⟨rfl, ⟨_, rfl⟩, AW.rf hI⟩ | exact ⟨rfl, ⟨_, rfl⟩, hI67.2.1⟩
  · skip
    obtain ⟨a9, rfl, hla9, hua9⟩ := isIn_n (by decide) ha0
    refine qG.blk 6 (pc' := 22) (ls' := [(2, 95), (0, ((a9 : Nat) : Int)), (0, b), (0, m), (9, 0), (9, 0), (9, 0)]) (st' := [(0, wrp ((w 95 57) - 1)), (0, ((a9 : Nat) : Int)), (0, b)]) (w' := w) (n' := 142) rfl ?_
    rw [show wrp ((w 95 57) - 1) = (w 95 57) - 1 from wrp_id (by omega) (by omega)]
    refine qG.call (t := 206) (na := 3) (sk := 0) (md := 0) (ls1 := [(0, b), (0, ((a9 : Nat) : Int)), (0, (w 95 57) - 1)]) (r1 := []) rfl rfl rfl rfl rfl (K_isIn (Nat.zero_le _) _ _ _ _) ?_
    rintro _ w7 _ ⟨rfl, hw7, rfl⟩
    rw [hw7]
    show qG none (d + 1) 287 25 [(2, 95), (0, ((a9 : Nat) : Int)), (0, b), (0, m), (9, 0), (9, 0), (9, 0)] [(0, isInV (b) (((a9 : Nat) : Int)) ((w 95 57) - 1))] w 142 Q9
    refine qG.br (P := isInV (b) (((a9 : Nat) : Int)) ((w 95 57) - 1) = 0) (pc1 := 36) (pc2 := 28) (st1 := []) rfl (fun hb0 => ?_) (fun hb0 => ?_)
    · skip
      refine qG.blk 1 (pc' := 37) (ls' := [(2, 95), (0, ((a9 : Nat) : Int)), (0, b), (0, m), (9, 0), (9, 0), (9, 0)]) (st' := [(0, (-1))]) (w' := w) (n' := 142) rfl ?_
      refine qG.ret rfl rfl ?_
      subst hQ9
      first | exact ⟨rfl, ⟨_, rfl⟩, AW.rf hI⟩ | exact ⟨rfl, ⟨_, rfl⟩, hI67.2.1⟩
    · skip
      obtain ⟨b9, rfl, hlb9, hub9⟩ := isIn_n (by omega) hb0
      refine qG.blk 2 (pc' := 30) (ls' := [(2, 95), (0, ((a9 : Nat) : Int)), (0, ((b9 : Nat) : Int)), (0, m), (9, 0), (9, 0), (9, 0)]) (st' := [(0, m), (2, 95)]) (w' := w) (n' := 142) rfl ?_
      refine qG.call (t := 279) (na := 2) (sk := 1) (md := 1) (ls1 := [(2, 95), (0, m)]) (r1 := []) rfl rfl rfl rfl rfl (K_isMaster (by omega) m w hI) ?_
      rintro _ w7 _ ⟨rfl, hw7, rfl⟩
      rw [hw7]
      show qG none (d + 1) 287 33 [(2, 95), (0, ((a9 : Nat) : Int)), (0, ((b9 : Nat) : Int)), (0, m), (9, 0), (9, 0), (9, 0)] [(0, isInV m 0 (w 95 55 - 1))] w 142 Q9
      refine qG.br (P := isInV m 0 (w 95 55 - 1) = 0) (pc1 := 36) (pc2 := 38) (st1 := []) rfl (fun hm0 => ?_) (fun hm0 => ?_)
      · skip
        refine qG.blk 1 (pc' := 37) (ls' := [(2, 95), (0, ((a9 : Nat) : Int)), (0, ((b9 : Nat) : Int)), (0, m), (9, 0), (9, 0), (9, 0)]) (st' := [(0, (-1))]) (w' := w) (n' := 142) rfl ?_
        refine qG.ret rfl rfl ?_
        subst hQ9
        first | exact ⟨rfl, ⟨_, rfl⟩, AW.rf hI⟩ | exact ⟨rfl, ⟨_, rfl⟩, hI67.2.1⟩
      · skip
        obtain ⟨m9a, rfl, hlm9, hum9⟩ := isIn_n (by decide) hm0
        refine qG.blk 2 (pc' := 41) (ls' := [(2, 95), (0, ((a9 : Nat) : Int)), (0, ((b9 : Nat) : Int)), (0, ((m9a : Nat) : Int)), (0, 0), (9, 0), (9, 0)]) (st' := []) (w' := w) (n' := 142) rfl ?_
        have L41 : ∀ (m9 : Nat) (k : Nat) (w9 : qW), M - k = m9 → (k ≤ M ∧ AW ALM w w9 ∧ (∀ j : Nat, j < k → 0 ≤ w9 137 j ∧ w9 137 j ≤ 1000000000)) → qG none (d + 1) 287 41 [(2, 95), (0, ((a9 : Nat) : Int)), (0, ((b9 : Nat) : Int)), (0, ((m9a : Nat) : Int)), (0, ((k : Nat) : Int)), (9, 0), (9, 0)] [] w9 142 Q9 := by
          intro m9
          induction m9 using Nat.strongRecOn with
          | ind m9 ih41 =>
          intro k w9 hm41 hI41
          refine qG.blk 3 (pc' := 47) (ls' := [(2, 95), (0, ((a9 : Nat) : Int)), (0, ((b9 : Nat) : Int)), (0, ((m9a : Nat) : Int)), (0, ((k : Nat) : Int)), (9, 0), (9, 0)]) (st' := [(0, w9 95 55), (0, ((k : Nat) : Int))]) (w' := w9) (n' := 142) rfl ?_
          rw [show w9 95 55 = ((M : Nat) : Int) from (hI41.2.1.2 95 55 (fun _ => rfl)).trans hM]
          refine qG.br (P := ((k : Nat) : Int) < ((M : Nat) : Int)) (pc1 := 50) (pc2 := 64) (st1 := []) rfl (fun h1 => ?_) (fun h1 => ?_)
          · skip
            refine qG.blk 2 (pc' := 54) (ls' := [(2, 95), (0, ((a9 : Nat) : Int)), (0, ((b9 : Nat) : Int)), (0, ((m9a : Nat) : Int)), (0, ((k : Nat) : Int)), (9, 0), (9, 0)]) (st' := [(2, w9 95 70)]) (w' := w9) (n' := 142) rfl ?_
            rw [show w9 95 70 = 137 from zref hI41.2.1.1 rfl rfl]
            refine qG.blk 2 (pc' := 57) (ls' := [(2, 95), (0, ((a9 : Nat) : Int)), (0, ((b9 : Nat) : Int)), (0, ((m9a : Nat) : Int)), (0, ((k : Nat) : Int)), (9, 0), (9, 0)]) (st' := [(1, 1), (0, ((k : Nat) : Int)), (2, 137)]) (w' := w9) (n' := 142) rfl ?_
            refine qG.ar (P := 0 ≤ ((k : Nat) : Int) ∧ ((k : Nat) : Int) < ((12 : Nat) : Int)) (P2 := 0 < (137 : Int) ∧ (137 : Int) ≤ ((142 : Nat) : Int)) (pc' := 58) (ls' := [(2, 95), (0, ((a9 : Nat) : Int)), (0, ((b9 : Nat) : Int)), (0, ((m9a : Nat) : Int)), (0, ((k : Nat) : Int)), (9, 0), (9, 0)]) (st' := []) (w' := (qup w9 137 k 1)) (n' := 142) rfl (by omega) (by decide) ?_
            refine qG.blk 1 (pc' := 61) (ls' := [(2, 95), (0, ((a9 : Nat) : Int)), (0, ((b9 : Nat) : Int)), (0, ((m9a : Nat) : Int)), (0, wrp (((k : Nat) : Int) + 1)), (9, 0), (9, 0)]) (st' := []) (w' := (qup w9 137 k 1)) (n' := 142) rfl ?_
            rw [show wrp (((k : Nat) : Int) + 1) = ((k + 1 : Nat) : Int) from wrp_id (by omega) (by omega)]
            refine qG.blk 1 (pc' := 41) (ls' := [(2, 95), (0, ((a9 : Nat) : Int)), (0, ((b9 : Nat) : Int)), (0, ((m9a : Nat) : Int)), (0, ((k + 1 : Nat) : Int)), (9, 0), (9, 0)]) (st' := []) (w' := (qup w9 137 k 1)) (n' := 142) rfl ?_
            exact ih41 _ (by omega) (k + 1) ((qup w9 137 k 1)) rfl (⟨by omega, (PX9.up (M := 0) (t := 0) (s := 1000000000) ⟨hI41.2.1, hI41.2.2, fun j _ hj => absurd hj (Nat.not_lt_zero j)⟩ (by decide) (by decide) (by decide)).1, (PX9.up (M := 0) (t := 0) (s := 1000000000) ⟨hI41.2.1, hI41.2.2, fun j _ hj => absurd hj (Nat.not_lt_zero j)⟩ (by decide) (by decide) (by decide)).2.1⟩)
          · skip
            refine qG.blk 2 (pc' := 67) (ls' := [(2, 95), (0, ((a9 : Nat) : Int)), (0, ((b9 : Nat) : Int)), (0, ((m9a : Nat) : Int)), (0, ((a9 : Nat) : Int)), (9, 0), (9, 0)]) (st' := []) (w' := w9) (n' := 142) rfl ?_
            have L67 : ∀ (m9 : Nat) (n : Nat) (w8 : qW) (x5 x6 : qV), b9 + 1 - n = m9 → (n ≤ b9 + 1 ∧ PW9 w w8 M 1000000000) → qG none (d + 1) 287 67 [(2, 95), (0, ((a9 : Nat) : Int)), (0, ((b9 : Nat) : Int)), (0, ((m9a : Nat) : Int)), (0, ((n : Nat) : Int)), x5, x6] [] w8 142 Q9 := by
              intro m9
              induction m9 using Nat.strongRecOn with
              | ind m9 ih67 =>
              intro n w8 x5 x6 hm67 hI67
              refine qG.blk 2 (pc' := 70) (ls' := [(2, 95), (0, ((a9 : Nat) : Int)), (0, ((b9 : Nat) : Int)), (0, ((m9a : Nat) : Int)), (0, ((n : Nat) : Int)), x5, x6]) (st' := [(0, ((b9 : Nat) : Int)), (0, ((n : Nat) : Int))]) (w' := w8) (n' := 142) rfl ?_
              refine qG.br (P := ((b9 : Nat) : Int) < ((n : Nat) : Int)) (pc1 := 213) (pc2 := 73) (st1 := []) rfl (fun h2 => ?_) (fun h2 => ?_)
              · skip
                refine qG.blk 4 (pc' := 219) (ls' := [(2, 95), (0, ((a9 : Nat) : Int)), (0, ((b9 : Nat) : Int)), (0, ((m9a : Nat) : Int)), (1, 0), (9, 0), (0, 0)]) (st' := []) (w' := w8) (n' := 142) rfl ?_
                have L219 : ∀ (m9 : Nat) (k : Nat) (s : Int), M - k = m9 → (k ≤ M ∧ 0 ≤ s ∧ s ≤ 1000000000 * (k : Int)) → qG none (d + 1) 287 219 [(2, 95), (0, ((a9 : Nat) : Int)), (0, ((b9 : Nat) : Int)), (0, ((m9a : Nat) : Int)), (1, s), (9, 0), (0, ((k : Nat) : Int))] [] w8 142 Q9 := by
                  intro m9
                  induction m9 using Nat.strongRecOn with
                  | ind m9 ih219 =>
                  intro k s hm219 hI219
                  have hq6 := hI67.2.2 k
                  refine qG.blk 3 (pc' := 225) (ls' := [(2, 95), (0, ((a9 : Nat) : Int)), (0, ((b9 : Nat) : Int)), (0, ((m9a : Nat) : Int)), (1, s), (9, 0), (0, ((k : Nat) : Int))]) (st' := [(0, w8 95 55), (0, ((k : Nat) : Int))]) (w' := w8) (n' := 142) rfl ?_
                  rw [show w8 95 55 = ((M : Nat) : Int) from (hI67.2.1.2 95 55 (fun _ => rfl)).trans hM]
                  refine qG.br (P := ((k : Nat) : Int) < ((M : Nat) : Int)) (pc1 := 228) (pc2 := 246) (st1 := []) rfl (fun h3 => ?_) (fun h3 => ?_)
                  · skip
                    refine qG.blk 3 (pc' := 234) (ls' := [(2, 95), (0, ((a9 : Nat) : Int)), (0, ((b9 : Nat) : Int)), (0, ((m9a : Nat) : Int)), (1, s), (9, 0), (0, ((k : Nat) : Int))]) (st' := [(2, w8 95 70), (1, s)]) (w' := w8) (n' := 142) rfl ?_
                    rw [show w8 95 70 = 137 from zref hI67.2.1.1 rfl rfl]
                    refine qG.blk 1 (pc' := 236) (ls' := [(2, 95), (0, ((a9 : Nat) : Int)), (0, ((b9 : Nat) : Int)), (0, ((m9a : Nat) : Int)), (1, s), (9, 0), (0, ((k : Nat) : Int))]) (st' := [(0, ((k : Nat) : Int)), (2, 137), (1, s)]) (w' := w8) (n' := 142) rfl ?_
                    refine qG.ar (P := 0 ≤ ((k : Nat) : Int) ∧ ((k : Nat) : Int) < ((12 : Nat) : Int)) (P2 := 0 < (137 : Int) ∧ (137 : Int) ≤ ((142 : Nat) : Int)) (pc' := 237) (ls' := [(2, 95), (0, ((a9 : Nat) : Int)), (0, ((b9 : Nat) : Int)), (0, ((m9a : Nat) : Int)), (1, s), (9, 0), (0, ((k : Nat) : Int))]) (st' := [(1, w8 137 k), (1, s)]) (w' := w8) (n' := 142) rfl (by omega) (by decide) ?_
                    refine qG.blk 1 (pc' := 238) (ls' := [(2, 95), (0, ((a9 : Nat) : Int)), (0, ((b9 : Nat) : Int)), (0, ((m9a : Nat) : Int)), (1, s), (9, 0), (0, ((k : Nat) : Int))]) (st' := [(1, wrl (s + (w8 137 k)))]) (w' := w8) (n' := 142) rfl ?_
                    rw [show wrl (s + (w8 137 k)) = s + (w8 137 k) from wrl_id (by omega) (by omega)]
                    refine qG.blk 2 (pc' := 243) (ls' := [(2, 95), (0, ((a9 : Nat) : Int)), (0, ((b9 : Nat) : Int)), (0, ((m9a : Nat) : Int)), (1, s + (w8 137 k)), (9, 0), (0, wrp (((k : Nat) : Int) + 1))]) (st' := []) (w' := w8) (n' := 142) rfl ?_
                    rw [show wrp (((k : Nat) : Int) + 1) = ((k + 1 : Nat) : Int) from wrp_id (by omega) (by omega)]
                    refine qG.blk 1 (pc' := 219) (ls' := [(2, 95), (0, ((a9 : Nat) : Int)), (0, ((b9 : Nat) : Int)), (0, ((m9a : Nat) : Int)), (1, s + (w8 137 k)), (9, 0), (0, ((k + 1 : Nat) : Int))]) (st' := []) (w' := w8) (n' := 142) rfl ?_
                    exact ih219 _ (by omega) (k + 1) (s + (w8 137 k)) rfl (⟨by omega, by omega, by omega⟩)
                  · skip
                    refine qG.blk 3 (pc' := 250) (ls' := [(2, 95), (0, ((a9 : Nat) : Int)), (0, ((b9 : Nat) : Int)), (0, ((m9a : Nat) : Int)), (1, s), (9, 0), (0, ((k : Nat) : Int))]) (st' := [(0, qcmp s 0)]) (w' := w8) (n' := 142) rfl ?_
                    refine qG.br (P := qcmp s 0 = 0) (pc1 := 253) (pc2 := 257) (st1 := []) rfl (fun hs0 => ?_) (fun hs0 => ?_)
                    · skip
                      refine qG.blk 2 (pc' := 271) (ls' := [(2, 95), (0, ((a9 : Nat) : Int)), (0, ((b9 : Nat) : Int)), (0, ((m9a : Nat) : Int)), (1, s), (9, 0), (0, ((k : Nat) : Int))]) (st' := [(0, (-1))]) (w' := w8) (n' := 142) rfl ?_
                      refine qG.ret rfl rfl ?_
                      subst hQ9
                      first | exact ⟨rfl, ⟨_, rfl⟩, AW.rf hI⟩ | exact ⟨rfl, ⟨_, rfl⟩, hI67.2.1⟩
                    · skip
                      rw [qcmp_z] at hs0
                      have hqm := hI67.2.2 m9a (by omega)
                      refine qG.blk 3 (pc' := 264) (ls' := [(2, 95), (0, ((a9 : Nat) : Int)), (0, ((b9 : Nat) : Int)), (0, ((m9a : Nat) : Int)), (1, s), (9, 0), (0, ((k : Nat) : Int))]) (st' := [(2, w8 95 70), (1, 1000)]) (w' := w8) (n' := 142) rfl ?_
                      rw [show w8 95 70 = 137 from zref hI67.2.1.1 rfl rfl]
                      refine qG.blk 1 (pc' := 265) (ls' := [(2, 95), (0, ((a9 : Nat) : Int)), (0, ((b9 : Nat) : Int)), (0, ((m9a : Nat) : Int)), (1, s), (9, 0), (0, ((k : Nat) : Int))]) (st' := [(0, ((m9a : Nat) : Int)), (2, 137), (1, 1000)]) (w' := w8) (n' := 142) rfl ?_
                      refine qG.ar (P := 0 ≤ ((m9a : Nat) : Int) ∧ ((m9a : Nat) : Int) < ((12 : Nat) : Int)) (P2 := 0 < (137 : Int) ∧ (137 : Int) ≤ ((142 : Nat) : Int)) (pc' := 266) (ls' := [(2, 95), (0, ((a9 : Nat) : Int)), (0, ((b9 : Nat) : Int)), (0, ((m9a : Nat) : Int)), (1, s), (9, 0), (0, ((k : Nat) : Int))]) (st' := [(1, w8 137 m9a), (1, 1000)]) (w' := w8) (n' := 142) rfl (by omega) (by decide) ?_
                      refine qG.blk 1 (pc' := 267) (ls' := [(2, 95), (0, ((a9 : Nat) : Int)), (0, ((b9 : Nat) : Int)), (0, ((m9a : Nat) : Int)), (1, s), (9, 0), (0, ((k : Nat) : Int))]) (st' := [(1, wrl (1000 * (w8 137 m9a)))]) (w' := w8) (n' := 142) rfl ?_
                      rw [show wrl (1000 * (w8 137 m9a)) = 1000 * (w8 137 m9a) from wrl_id (by omega) (by omega)]
                      refine qG.blk 1 (pc' := 269) (ls' := [(2, 95), (0, ((a9 : Nat) : Int)), (0, ((b9 : Nat) : Int)), (0, ((m9a : Nat) : Int)), (1, s), (9, 0), (0, ((k : Nat) : Int))]) (st' := [(1, s), (1, 1000 * (w8 137 m9a))]) (w' := w8) (n' := 142) rfl ?_
                      refine qG.gn (P := s = 0) (pc' := 270) (ls' := [(2, 95), (0, ((a9 : Nat) : Int)), (0, ((b9 : Nat) : Int)), (0, ((m9a : Nat) : Int)), (1, s), (9, 0), (0, ((k : Nat) : Int))]) (st' := [(1, qldiv (1000 * (w8 137 m9a)) s)]) (w' := w8) (n' := 142) rfl (by exact hs0) ?_
                      refine qG.blk 1 (pc' := 271) (ls' := [(2, 95), (0, ((a9 : Nat) : Int)), (0, ((b9 : Nat) : Int)), (0, ((m9a : Nat) : Int)), (1, s), (9, 0), (0, ((k : Nat) : Int))]) (st' := [(0, wrp (qldiv (1000 * (w8 137 m9a)) s))]) (w' := w8) (n' := 142) rfl ?_
                      refine qG.ret rfl rfl ?_
                      subst hQ9
                      first | exact ⟨rfl, ⟨_, rfl⟩, AW.rf hI⟩ | exact ⟨rfl, ⟨_, rfl⟩, hI67.2.1⟩
                exact L219 _ (0) (0) rfl (⟨by omega, by decide, by decide⟩)
              · skip
                refine qG.blk 4 (pc' := 79) (ls' := [(2, 95), (0, ((a9 : Nat) : Int)), (0, ((b9 : Nat) : Int)), (0, ((m9a : Nat) : Int)), (0, ((n : Nat) : Int)), (0, 0), (0, 0)]) (st' := []) (w' := w8) (n' := 142) rfl ?_
                have L79 : ∀ (m9 : Nat) (k : Nat) (w7a : qW) (x5 : Int), M - k = m9 → (k ≤ M ∧ PX9 w w7a M k 891000000000 1000000000 ∧ (x5 = 0 → ∀ j : Nat, j < k → w7a 137 j ≤ 1000000000)) → qG none (d + 1) 287 79 [(2, 95), (0, ((a9 : Nat) : Int)), (0, ((b9 : Nat) : Int)), (0, ((m9a : Nat) : Int)), (0, ((n : Nat) : Int)), (0, x5), (0, ((k : Nat) : Int))] [] w7a 142 Q9 := by
                  intro m9
                  induction m9 using Nat.strongRecOn with
                  | ind m9 ih79 =>
                  intro k w7a x5 hm79 hI79
                  refine qG.blk 3 (pc' := 85) (ls' := [(2, 95), (0, ((a9 : Nat) : Int)), (0, ((b9 : Nat) : Int)), (0, ((m9a : Nat) : Int)), (0, ((n : Nat) : Int)), (0, x5), (0, ((k : Nat) : Int))]) (st' := [(0, w7a 95 55), (0, ((k : Nat) : Int))]) (w' := w7a) (n' := 142) rfl ?_
                  rw [show w7a 95 55 = ((M : Nat) : Int) from (hI79.2.1.1.2 95 55 (fun _ => rfl)).trans hM]
                  refine qG.br (P := ((k : Nat) : Int) < ((M : Nat) : Int)) (pc1 := 88) (pc2 := 139) (st1 := []) rfl (fun h4 => ?_) (fun h4 => ?_)
                  · skip
                    refine qG.blk 2 (pc' := 92) (ls' := [(2, 95), (0, ((a9 : Nat) : Int)), (0, ((b9 : Nat) : Int)), (0, ((m9a : Nat) : Int)), (0, ((n : Nat) : Int)), (0, x5), (0, ((k : Nat) : Int))]) (st' := [(2, w7a 95 70)]) (w' := w7a) (n' := 142) rfl ?_
                    rw [show w7a 95 70 = 137 from zref hI79.2.1.1.1 rfl rfl]
                    refine qG.blk 2 (pc' := 95) (ls' := [(2, 95), (0, ((a9 : Nat) : Int)), (0, ((b9 : Nat) : Int)), (0, ((m9a : Nat) : Int)), (0, ((n : Nat) : Int)), (0, x5), (0, ((k : Nat) : Int))]) (st' := [(0, ((k : Nat) : Int)), (2, 137), (0, ((k : Nat) : Int)), (2, 137)]) (w' := w7a) (n' := 142) rfl ?_
                    refine qG.ar (P := 0 ≤ ((k : Nat) : Int) ∧ ((k : Nat) : Int) < ((12 : Nat) : Int)) (P2 := 0 < (137 : Int) ∧ (137 : Int) ≤ ((142 : Nat) : Int)) (pc' := 96) (ls' := [(2, 95), (0, ((a9 : Nat) : Int)), (0, ((b9 : Nat) : Int)), (0, ((m9a : Nat) : Int)), (0, ((n : Nat) : Int)), (0, x5), (0, ((k : Nat) : Int))]) (st' := [(1, w7a 137 k), (0, ((k : Nat) : Int)), (2, 137)]) (w' := w7a) (n' := 142) rfl (by omega) (by decide) ?_
                    refine qG.blk 3 (pc' := 101) (ls' := [(2, 95), (0, ((a9 : Nat) : Int)), (0, ((b9 : Nat) : Int)), (0, ((m9a : Nat) : Int)), (0, ((n : Nat) : Int)), (0, x5), (0, ((k : Nat) : Int))]) (st' := [(0, ((k : Nat) : Int)), (0, ((n : Nat) : Int)), (2, 95), (1, w7a 137 k), (0, ((k : Nat) : Int)), (2, 137)]) (w' := w7a) (n' := 142) rfl ?_
                    refine qG.call (t := 285) (na := 3) (sk := 1) (md := 1) (ls1 := [(2, 95), (0, ((n : Nat) : Int)), (0, ((k : Nat) : Int)), (9, 0), (9, 0)]) (r1 := [(1, w7a 137 k), (0, ((k : Nat) : Int)), (2, 137)]) rfl rfl rfl rfl rfl (AW.use (c := C_R_weight.2) (as := [(2, 95), (0, ((n : Nat) : Int)), (0, ((k : Nat) : Int))]) (m := []) T_R_weight (AW.rf hI79.2.1.1.1) (show 2 ≤ d by omega) ⟨⟨rfl, by decide, by decide⟩, ⟨rfl, by show (0 : Int) ≤ _; omega, by show _ ≤ (59 : Int); omega⟩, ⟨rfl, by show (0 : Int) ≤ _; omega, by show _ ≤ (11 : Int); omega⟩, trivial⟩ rfl rfl (by decide +kernel)) ?_
                    rintro _ w7 _ ⟨x, rfl, hx1, hx2, hA7, rfl, -⟩
                    have hx1 : 0 ≤ x := hx1
                    have hx2 : x ≤ 891 := hx2
                    have e7 := hA7.eq
                    rw [e7]
                    have hq := hI79.2.1.2.2 k (Nat.le_refl k) (by omega)
                    obtain ⟨hm1, hm2⟩ := mul_b hq.1 hq.2 hx1 hx2
                    show qG none (d + 1) 287 104 [(2, 95), (0, ((a9 : Nat) : Int)), (0, ((b9 : Nat) : Int)), (0, ((m9a : Nat) : Int)), (0, ((n : Nat) : Int)), (0, x5), (0, ((k : Nat) : Int))] [(0, x), (1, w7a 137 k), (0, ((k : Nat) : Int)), (2, 137)] w7a 142 Q9
                    refine qG.blk 2 (pc' := 106) (ls' := [(2, 95), (0, ((a9 : Nat) : Int)), (0, ((b9 : Nat) : Int)), (0, ((m9a : Nat) : Int)), (0, ((n : Nat) : Int)), (0, x5), (0, ((k : Nat) : Int))]) (st' := [(1, wrl ((w7a 137 k) * x)), (0, ((k : Nat) : Int)), (2, 137)]) (w' := w7a) (n' := 142) rfl ?_
                    rw [show wrl ((w7a 137 k) * x) = (w7a 137 k) * x from wrl_id (by omega) (by omega)]
                    refine qG.ar (P := 0 ≤ ((k : Nat) : Int) ∧ ((k : Nat) : Int) < ((12 : Nat) : Int)) (P2 := 0 < (137 : Int) ∧ (137 : Int) ≤ ((142 : Nat) : Int)) (pc' := 107) (ls' := [(2, 95), (0, ((a9 : Nat) : Int)), (0, ((b9 : Nat) : Int)), (0, ((m9a : Nat) : Int)), (0, ((n : Nat) : Int)), (0, x5), (0, ((k : Nat) : Int))]) (st' := []) (w' := (qup w7a 137 k ((w7a 137 k) * x))) (n' := 142) rfl (by omega) (by decide) ?_
                    refine qG.blk 1 (pc' := 109) (ls' := [(2, 95), (0, ((a9 : Nat) : Int)), (0, ((b9 : Nat) : Int)), (0, ((m9a : Nat) : Int)), (0, ((n : Nat) : Int)), (0, x5), (0, ((k : Nat) : Int))]) (st' := [(0, x5)]) (w' := (qup w7a 137 k ((w7a 137 k) * x))) (n' := 142) rfl ?_
                    refine qG.br (P := x5 = 0) (pc1 := 112) (pc2 := 126) (st1 := []) rfl (fun h5 => ?_) (fun h5 => ?_)
                    · skip
                      refine qG.blk 2 (pc' := 116) (ls' := [(2, 95), (0, ((a9 : Nat) : Int)), (0, ((b9 : Nat) : Int)), (0, ((m9a : Nat) : Int)), (0, ((n : Nat) : Int)), (0, x5), (0, ((k : Nat) : Int))]) (st' := [(2, w7a 95 70)]) (w' := (qup w7a 137 k ((w7a 137 k) * x))) (n' := 142) rfl ?_
                      rw [show w7a 95 70 = 137 from zref hI79.2.1.1.1 rfl rfl]
                      refine qG.blk 1 (pc' := 118) (ls' := [(2, 95), (0, ((a9 : Nat) : Int)), (0, ((b9 : Nat) : Int)), (0, ((m9a : Nat) : Int)), (0, ((n : Nat) : Int)), (0, x5), (0, ((k : Nat) : Int))]) (st' := [(0, ((k : Nat) : Int)), (2, 137)]) (w' := (qup w7a 137 k ((w7a 137 k) * x))) (n' := 142) rfl ?_
                      refine qG.ar (P := 0 ≤ ((k : Nat) : Int) ∧ ((k : Nat) : Int) < ((12 : Nat) : Int)) (P2 := 0 < (137 : Int) ∧ (137 : Int) ≤ ((142 : Nat) : Int)) (pc' := 119) (ls' := [(2, 95), (0, ((a9 : Nat) : Int)), (0, ((b9 : Nat) : Int)), (0, ((m9a : Nat) : Int)), (0, ((n : Nat) : Int)), (0, x5), (0, ((k : Nat) : Int))]) (st' := [(1, (qup w7a 137 k ((w7a 137 k) * x)) 137 k)]) (w' := (qup w7a 137 k ((w7a 137 k) * x))) (n' := 142) rfl (by omega) (by decide) ?_
                      rw [qup_k]
                      refine qG.blk 2 (pc' := 123) (ls' := [(2, 95), (0, ((a9 : Nat) : Int)), (0, ((b9 : Nat) : Int)), (0, ((m9a : Nat) : Int)), (0, ((n : Nat) : Int)), (0, x5), (0, ((k : Nat) : Int))]) (st' := [(0, qcmp ((w7a 137 k) * x) 1000000000)]) (w' := (qup w7a 137 k ((w7a 137 k) * x))) (n' := 142) rfl ?_
                      refine qG.br (P := 0 < qcmp ((w7a 137 k) * x) 1000000000) (pc1 := 126) (pc2 := 130) (st1 := []) rfl (fun hc => ?_) (fun hc => ?_)
                      · skip
                        refine qG.blk 4 (pc' := 136) (ls' := [(2, 95), (0, ((a9 : Nat) : Int)), (0, ((b9 : Nat) : Int)), (0, ((m9a : Nat) : Int)), (0, ((n : Nat) : Int)), (0, 1), (0, wrp (((k : Nat) : Int) + 1))]) (st' := []) (w' := (qup w7a 137 k ((w7a 137 k) * x))) (n' := 142) rfl ?_
                        rw [show wrp (((k : Nat) : Int) + 1) = ((k + 1 : Nat) : Int) from wrp_id (by omega) (by omega)]
                        refine qG.blk 1 (pc' := 79) (ls' := [(2, 95), (0, ((a9 : Nat) : Int)), (0, ((b9 : Nat) : Int)), (0, ((m9a : Nat) : Int)), (0, ((n : Nat) : Int)), (0, 1), (0, ((k + 1 : Nat) : Int))]) (st' := []) (w' := (qup w7a 137 k ((w7a 137 k) * x))) (n' := 142) rfl ?_
                        exact ih79 _ (by omega) (k + 1) ((qup w7a 137 k ((w7a 137 k) * x))) (1) rfl (⟨by omega, hI79.2.1.up hm1 hm2 (by decide), by first | exact fun z => absurd z h5 | exact fun z => absurd z (by decide) | exact fun _ => px_s (hI79.2.2 (by omega)) (by rw [qcmp_p] at hc; omega)⟩)
                      · skip
                        refine qG.blk 3 (pc' := 136) (ls' := [(2, 95), (0, ((a9 : Nat) : Int)), (0, ((b9 : Nat) : Int)), (0, ((m9a : Nat) : Int)), (0, ((n : Nat) : Int)), (0, 0), (0, wrp (((k : Nat) : Int) + 1))]) (st' := []) (w' := (qup w7a 137 k ((w7a 137 k) * x))) (n' := 142) rfl ?_
                        rw [show wrp (((k : Nat) : Int) + 1) = ((k + 1 : Nat) : Int) from wrp_id (by omega) (by omega)]
                        refine qG.blk 1 (pc' := 79) (ls' := [(2, 95), (0, ((a9 : Nat) : Int)), (0, ((b9 : Nat) : Int)), (0, ((m9a : Nat) : Int)), (0, ((n : Nat) : Int)), (0, 0), (0, ((k + 1 : Nat) : Int))]) (st' := []) (w' := (qup w7a 137 k ((w7a 137 k) * x))) (n' := 142) rfl ?_
                        exact ih79 _ (by omega) (k + 1) ((qup w7a 137 k ((w7a 137 k) * x))) (0) rfl (⟨by omega, hI79.2.1.up hm1 hm2 (by decide), by first | exact fun z => absurd z h5 | exact fun z => absurd z (by decide) | exact fun _ => px_s (hI79.2.2 (by omega)) (by rw [qcmp_p] at hc; omega)⟩)
                    · skip
                      refine qG.blk 4 (pc' := 136) (ls' := [(2, 95), (0, ((a9 : Nat) : Int)), (0, ((b9 : Nat) : Int)), (0, ((m9a : Nat) : Int)), (0, ((n : Nat) : Int)), (0, 1), (0, wrp (((k : Nat) : Int) + 1))]) (st' := []) (w' := (qup w7a 137 k ((w7a 137 k) * x))) (n' := 142) rfl ?_
                      rw [show wrp (((k : Nat) : Int) + 1) = ((k + 1 : Nat) : Int) from wrp_id (by omega) (by omega)]
                      refine qG.blk 1 (pc' := 79) (ls' := [(2, 95), (0, ((a9 : Nat) : Int)), (0, ((b9 : Nat) : Int)), (0, ((m9a : Nat) : Int)), (0, ((n : Nat) : Int)), (0, 1), (0, ((k + 1 : Nat) : Int))]) (st' := []) (w' := (qup w7a 137 k ((w7a 137 k) * x))) (n' := 142) rfl ?_
                      exact ih79 _ (by omega) (k + 1) ((qup w7a 137 k ((w7a 137 k) * x))) (1) rfl (⟨by omega, hI79.2.1.up hm1 hm2 (by decide), by first | exact fun z => absurd z h5 | exact fun z => absurd z (by decide) | exact fun _ => px_s (hI79.2.2 (by omega)) (by rw [qcmp_p] at hc; omega)⟩)
                  · skip
                    have L139 : ∀ (m9 : Nat) (p : Nat) (w6 : qW) (x5 : Int) (x6 : qV), p = m9 → ((p = 0 → x5 = 0) ∧ (x5 = 0 → ∀ j : Nat, j < M → w6 137 j ≤ 1000000000) ∧ PW9 w w6 M 891000000000) → qG none (d + 1) 287 139 [(2, 95), (0, ((a9 : Nat) : Int)), (0, ((b9 : Nat) : Int)), (0, ((m9a : Nat) : Int)), (0, ((n : Nat) : Int)), (0, x5), x6] [] w6 142 Q9 := by
                      intro m9
                      induction m9 using Nat.strongRecOn with
                      | ind m9 ih139 =>
                      intro p w6 x5 x6 hm139 hI139
                      refine qG.blk 1 (pc' := 141) (ls' := [(2, 95), (0, ((a9 : Nat) : Int)), (0, ((b9 : Nat) : Int)), (0, ((m9a : Nat) : Int)), (0, ((n : Nat) : Int)), (0, x5), x6]) (st' := [(0, x5)]) (w' := w6) (n' := 142) rfl ?_
                      refine qG.br (P := x5 = 0) (pc1 := 207) (pc2 := 144) (st1 := []) rfl (fun h5b => ?_) (fun h5b => ?_)
                      · skip
                        refine qG.blk 1 (pc' := 210) (ls' := [(2, 95), (0, ((a9 : Nat) : Int)), (0, ((b9 : Nat) : Int)), (0, ((m9a : Nat) : Int)), (0, wrp (((n : Nat) : Int) + 1)), (0, x5), x6]) (st' := []) (w' := w6) (n' := 142) rfl ?_
                        rw [show wrp (((n : Nat) : Int) + 1) = ((n + 1 : Nat) : Int) from wrp_id (by omega) (by omega)]
                        refine qG.blk 1 (pc' := 67) (ls' := [(2, 95), (0, ((a9 : Nat) : Int)), (0, ((b9 : Nat) : Int)), (0, ((m9a : Nat) : Int)), (0, ((n + 1 : Nat) : Int)), (0, x5), x6]) (st' := []) (w' := w6) (n' := 142) rfl ?_
                        exact ih67 _ (by omega) (n + 1) (w6) ((0, x5)) (x6) rfl (⟨by omega, hI139.2.2.1, fun j hj => ⟨(hI139.2.2.2 j hj).1, hI139.2.1 (by omega) j hj⟩⟩)
                      · skip
                        refine qG.blk 4 (pc' := 150) (ls' := [(2, 95), (0, ((a9 : Nat) : Int)), (0, ((b9 : Nat) : Int)), (0, ((m9a : Nat) : Int)), (0, ((n : Nat) : Int)), (0, 0), (0, 0)]) (st' := []) (w' := w6) (n' := 142) rfl ?_
                        have L150 : ∀ (m9 : Nat) (k : Nat) (w5 : qW) (x5b : Int), M - k = m9 → (k ≤ M ∧ PX9 w w5 M k 891000000 891000000000 ∧ x5b = 0) → qG none (d + 1) 287 150 [(2, 95), (0, ((a9 : Nat) : Int)), (0, ((b9 : Nat) : Int)), (0, ((m9a : Nat) : Int)), (0, ((n : Nat) : Int)), (0, x5b), (0, ((k : Nat) : Int))] [] w5 142 Q9 := by
                          intro m9
                          induction m9 using Nat.strongRecOn with
                          | ind m9 ih150 =>
                          intro k w5 x5b hm150 hI150
                          have hq5 := hI150.2.1.2.2 k (Nat.le_refl k)
                          refine qG.blk 3 (pc' := 156) (ls' := [(2, 95), (0, ((a9 : Nat) : Int)), (0, ((b9 : Nat) : Int)), (0, ((m9a : Nat) : Int)), (0, ((n : Nat) : Int)), (0, x5b), (0, ((k : Nat) : Int))]) (st' := [(0, w5 95 55), (0, ((k : Nat) : Int))]) (w' := w5) (n' := 142) rfl ?_
                          rw [show w5 95 55 = ((M : Nat) : Int) from (hI150.2.1.1.2 95 55 (fun _ => rfl)).trans hM]
                          refine qG.br (P := ((k : Nat) : Int) < ((M : Nat) : Int)) (pc1 := 159) (pc2 := 204) (st1 := []) rfl (fun h5 => ?_) (fun h5 => ?_)
                          · skip
                            refine qG.blk 2 (pc' := 163) (ls' := [(2, 95), (0, ((a9 : Nat) : Int)), (0, ((b9 : Nat) : Int)), (0, ((m9a : Nat) : Int)), (0, ((n : Nat) : Int)), (0, x5b), (0, ((k : Nat) : Int))]) (st' := [(2, w5 95 70)]) (w' := w5) (n' := 142) rfl ?_
                            rw [show w5 95 70 = 137 from zref hI150.2.1.1.1 rfl rfl]
                            refine qG.blk 2 (pc' := 166) (ls' := [(2, 95), (0, ((a9 : Nat) : Int)), (0, ((b9 : Nat) : Int)), (0, ((m9a : Nat) : Int)), (0, ((n : Nat) : Int)), (0, x5b), (0, ((k : Nat) : Int))]) (st' := [(0, ((k : Nat) : Int)), (2, 137), (0, ((k : Nat) : Int)), (2, 137)]) (w' := w5) (n' := 142) rfl ?_
                            refine qG.ar (P := 0 ≤ ((k : Nat) : Int) ∧ ((k : Nat) : Int) < ((12 : Nat) : Int)) (P2 := 0 < (137 : Int) ∧ (137 : Int) ≤ ((142 : Nat) : Int)) (pc' := 167) (ls' := [(2, 95), (0, ((a9 : Nat) : Int)), (0, ((b9 : Nat) : Int)), (0, ((m9a : Nat) : Int)), (0, ((n : Nat) : Int)), (0, x5b), (0, ((k : Nat) : Int))]) (st' := [(1, w5 137 k), (0, ((k : Nat) : Int)), (2, 137)]) (w' := w5) (n' := 142) rfl (by omega) (by decide) ?_
                            refine qG.blk 1 (pc' := 170) (ls' := [(2, 95), (0, ((a9 : Nat) : Int)), (0, ((b9 : Nat) : Int)), (0, ((m9a : Nat) : Int)), (0, ((n : Nat) : Int)), (0, x5b), (0, ((k : Nat) : Int))]) (st' := [(1, 1000), (1, w5 137 k), (0, ((k : Nat) : Int)), (2, 137)]) (w' := w5) (n' := 142) rfl ?_
                            refine qG.gn (P := 1000 = 0) (pc' := 171) (ls' := [(2, 95), (0, ((a9 : Nat) : Int)), (0, ((b9 : Nat) : Int)), (0, ((m9a : Nat) : Int)), (0, ((n : Nat) : Int)), (0, x5b), (0, ((k : Nat) : Int))]) (st' := [(1, qldiv (w5 137 k) 1000), (0, ((k : Nat) : Int)), (2, 137)]) (w' := w5) (n' := 142) rfl (by decide) ?_
                            rw [show qldiv (w5 137 k) 1000 = w5 137 k / 1000 from qldiv_k (hq5 (by omega)).1 (hq5 (by omega)).2]
                            refine qG.ar (P := 0 ≤ ((k : Nat) : Int) ∧ ((k : Nat) : Int) < ((12 : Nat) : Int)) (P2 := 0 < (137 : Int) ∧ (137 : Int) ≤ ((142 : Nat) : Int)) (pc' := 172) (ls' := [(2, 95), (0, ((a9 : Nat) : Int)), (0, ((b9 : Nat) : Int)), (0, ((m9a : Nat) : Int)), (0, ((n : Nat) : Int)), (0, x5b), (0, ((k : Nat) : Int))]) (st' := []) (w' := (qup w5 137 k (w5 137 k / 1000))) (n' := 142) rfl (by omega) (by decide) ?_
                            refine qG.blk 1 (pc' := 174) (ls' := [(2, 95), (0, ((a9 : Nat) : Int)), (0, ((b9 : Nat) : Int)), (0, ((m9a : Nat) : Int)), (0, ((n : Nat) : Int)), (0, x5b), (0, ((k : Nat) : Int))]) (st' := [(0, x5b)]) (w' := (qup w5 137 k (w5 137 k / 1000))) (n' := 142) rfl ?_
                            have hq5 := hq5 (by omega)
                            refine qG.br (P := x5b = 0) (pc1 := 177) (pc2 := 191) (st1 := []) rfl (fun h5c => ?_) (fun h5c => ?_)
                            · skip
                              refine qG.blk 2 (pc' := 181) (ls' := [(2, 95), (0, ((a9 : Nat) : Int)), (0, ((b9 : Nat) : Int)), (0, ((m9a : Nat) : Int)), (0, ((n : Nat) : Int)), (0, x5b), (0, ((k : Nat) : Int))]) (st' := [(2, w5 95 70)]) (w' := (qup w5 137 k (w5 137 k / 1000))) (n' := 142) rfl ?_
                              rw [show w5 95 70 = 137 from zref hI150.2.1.1.1 rfl rfl]
                              refine qG.blk 1 (pc' := 183) (ls' := [(2, 95), (0, ((a9 : Nat) : Int)), (0, ((b9 : Nat) : Int)), (0, ((m9a : Nat) : Int)), (0, ((n : Nat) : Int)), (0, x5b), (0, ((k : Nat) : Int))]) (st' := [(0, ((k : Nat) : Int)), (2, 137)]) (w' := (qup w5 137 k (w5 137 k / 1000))) (n' := 142) rfl ?_
                              refine qG.ar (P := 0 ≤ ((k : Nat) : Int) ∧ ((k : Nat) : Int) < ((12 : Nat) : Int)) (P2 := 0 < (137 : Int) ∧ (137 : Int) ≤ ((142 : Nat) : Int)) (pc' := 184) (ls' := [(2, 95), (0, ((a9 : Nat) : Int)), (0, ((b9 : Nat) : Int)), (0, ((m9a : Nat) : Int)), (0, ((n : Nat) : Int)), (0, x5b), (0, ((k : Nat) : Int))]) (st' := [(1, (qup w5 137 k (w5 137 k / 1000)) 137 k)]) (w' := (qup w5 137 k (w5 137 k / 1000))) (n' := 142) rfl (by omega) (by decide) ?_
                              rw [qup_k]
                              refine qG.blk 2 (pc' := 188) (ls' := [(2, 95), (0, ((a9 : Nat) : Int)), (0, ((b9 : Nat) : Int)), (0, ((m9a : Nat) : Int)), (0, ((n : Nat) : Int)), (0, x5b), (0, ((k : Nat) : Int))]) (st' := [(0, qcmp (w5 137 k / 1000) 1000000000)]) (w' := (qup w5 137 k (w5 137 k / 1000))) (n' := 142) rfl ?_
                              refine qG.br (P := 0 < qcmp (w5 137 k / 1000) 1000000000) (pc1 := 191) (pc2 := 195) (st1 := []) rfl (fun hc2 => ?_) (fun hc2 => ?_)
                              · skip
                                refine qG.blk 4 (pc' := 201) (ls' := [(2, 95), (0, ((a9 : Nat) : Int)), (0, ((b9 : Nat) : Int)), (0, ((m9a : Nat) : Int)), (0, ((n : Nat) : Int)), (0, 1), (0, wrp (((k : Nat) : Int) + 1))]) (st' := []) (w' := (qup w5 137 k (w5 137 k / 1000))) (n' := 142) rfl ?_
                                rw [show wrp (((k : Nat) : Int) + 1) = ((k + 1 : Nat) : Int) from wrp_id (by omega) (by omega)]
                                refine qG.blk 1 (pc' := 150) (ls' := [(2, 95), (0, ((a9 : Nat) : Int)), (0, ((b9 : Nat) : Int)), (0, ((m9a : Nat) : Int)), (0, ((n : Nat) : Int)), (0, 1), (0, ((k + 1 : Nat) : Int))]) (st' := []) (w' := (qup w5 137 k (w5 137 k / 1000))) (n' := 142) rfl ?_
                                exact ih150 _ (by omega) (k + 1) ((qup w5 137 k (w5 137 k / 1000))) (1) rfl (⟨by omega, hI150.2.1.up (by omega) (by omega) (by decide), by first | rfl | (exfalso; rw [qcmp_p] at hc2; omega) | (exfalso; omega)⟩)
                              · skip
                                refine qG.blk 3 (pc' := 201) (ls' := [(2, 95), (0, ((a9 : Nat) : Int)), (0, ((b9 : Nat) : Int)), (0, ((m9a : Nat) : Int)), (0, ((n : Nat) : Int)), (0, 0), (0, wrp (((k : Nat) : Int) + 1))]) (st' := []) (w' := (qup w5 137 k (w5 137 k / 1000))) (n' := 142) rfl ?_
                                rw [show wrp (((k : Nat) : Int) + 1) = ((k + 1 : Nat) : Int) from wrp_id (by omega) (by omega)]
                                refine qG.blk 1 (pc' := 150) (ls' := [(2, 95), (0, ((a9 : Nat) : Int)), (0, ((b9 : Nat) : Int)), (0, ((m9a : Nat) : Int)), (0, ((n : Nat) : Int)), (0, 0), (0, ((k + 1 : Nat) : Int))]) (st' := []) (w' := (qup w5 137 k (w5 137 k / 1000))) (n' := 142) rfl ?_
                                exact ih150 _ (by omega) (k + 1) ((qup w5 137 k (w5 137 k / 1000))) (0) rfl (⟨by omega, hI150.2.1.up (by omega) (by omega) (by decide), by first | rfl | (exfalso; rw [qcmp_p] at hc2; omega) | (exfalso; omega)⟩)
                            · skip
                              refine qG.blk 4 (pc' := 201) (ls' := [(2, 95), (0, ((a9 : Nat) : Int)), (0, ((b9 : Nat) : Int)), (0, ((m9a : Nat) : Int)), (0, ((n : Nat) : Int)), (0, 1), (0, wrp (((k : Nat) : Int) + 1))]) (st' := []) (w' := (qup w5 137 k (w5 137 k / 1000))) (n' := 142) rfl ?_
                              rw [show wrp (((k : Nat) : Int) + 1) = ((k + 1 : Nat) : Int) from wrp_id (by omega) (by omega)]
                              refine qG.blk 1 (pc' := 150) (ls' := [(2, 95), (0, ((a9 : Nat) : Int)), (0, ((b9 : Nat) : Int)), (0, ((m9a : Nat) : Int)), (0, ((n : Nat) : Int)), (0, 1), (0, ((k + 1 : Nat) : Int))]) (st' := []) (w' := (qup w5 137 k (w5 137 k / 1000))) (n' := 142) rfl ?_
                              exact ih150 _ (by omega) (k + 1) ((qup w5 137 k (w5 137 k / 1000))) (1) rfl (⟨by omega, hI150.2.1.up (by omega) (by omega) (by decide), by first | rfl | (exfalso; rw [qcmp_p] at hc2; omega) | (exfalso; omega)⟩)
                          · skip
                            refine qG.blk 1 (pc' := 139) (ls' := [(2, 95), (0, ((a9 : Nat) : Int)), (0, ((b9 : Nat) : Int)), (0, ((m9a : Nat) : Int)), (0, ((n : Nat) : Int)), (0, x5b), (0, ((k : Nat) : Int))]) (st' := []) (w' := w5) (n' := 142) rfl ?_
                            exact ih139 _ (by have q : p ≠ 0 := fun z => h5b (hI139.1 z); omega) (0) (w5) (x5b) ((0, ((k : Nat) : Int))) rfl (⟨fun _ => hI150.2.2, fun _ j hj => by have := (hI150.2.1.2.1 j (by omega)).2; omega, ⟨hI150.2.1.1, fun j hj => by have := hI150.2.1.2.1 j (by omega); omega⟩⟩)
                        exact L150 _ (0) (w6) (0) rfl (⟨by omega, hI139.2.2.ini, rfl⟩)
                    exact L139 _ (1) (w7a) (x5) ((0, ((k : Nat) : Int))) rfl (⟨fun z => absurd z (by decide), fun z j hj => hI79.2.2 z j (by omega), hI79.2.1.fin (by omega)⟩)
                exact L79 _ (0) (w8) (0) rfl (⟨by omega, hI67.2.ini, fun _ j hj => absurd hj (Nat.not_lt_zero j)⟩)
            exact L67 _ (a9) (w9) ((9, 0)) ((9, 0)) rfl (⟨by omega, hI41.2.1, fun j hj => hI41.2.2 j (by omega)⟩)
        exact L41 _ (0) (w) rfl (⟨by omega, AW.rf hI, fun j hj => absurd hj (Nat.not_lt_zero j)⟩)
