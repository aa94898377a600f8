/-! what poses answers; J9 kept by the law's calls -/
theorem hgT_cg {P Q : Nat → Nat → Bool} (h : ∀ s t, s < 16 → t < 16 → P s t = Q s t) {v : Int} {s : Nat} (hs : s < 16) : ∀ (t : Nat) (m : Int), t ≤ 16 → hgT P v s t m = hgT Q v s t m
  | 0, _, _ => rfl
  | t + 1, m, ht => by
    unfold hgT
    rw [hgT_cg h hs t m (by omega), h s t hs (by omega)]
theorem hgS_cg {P Q : Nat → Nat → Bool} (h : ∀ s t, s < 16 → t < 16 → P s t = Q s t) {v : Int} : ∀ (s : Nat) (m : Int), s ≤ 16 → hgS P v s m = hgS Q v s m
  | 0, _, _ => rfl
  | s + 1, m, hs => by
    unfold hgS
    rw [hgS_cg h s m (by omega), hgT_cg h (by omega) 16 _ (Nat.le_refl _)]
theorem hgF_cg {P Q : Nat → Nat → Bool} (h : ∀ s t, s < 16 → t < 16 → P s t = Q s t) {v : Int} : ∀ (n : Nat) (m : Int), hgF P v n m = hgF Q v n m
  | 0, _ => rfl
  | n + 1, m => by
    unfold hgF
    rw [hgS_cg h 16 m (Nat.le_refl _), hgF_cg h n]
theorem hgR_cg {P Q : Nat → Nat → Bool} (h : ∀ s t, s < 16 → t < 16 → P s t = Q s t) {v : Int} : hgR P v = hgR Q v := by
  unfold hgR
  rw [hgF_cg h]
/-- a call of the class that may lay the poses anew: SP and J9 are kept -/
theorem SP.use9 {t : Nat} {c : yC} {n : Nat} {w : qW} {d : Nat} {as : List qV} {R : qV → qW → Nat → Prop} (T9 : yCOK w zg9 za9 zr9 (zS9 n) zgh t c) (h : SP w) (hJ : J9 n w) (hd : c.1 ≤ d) (ha : yamc c.2.1 as) (hn : c.2.2.2.2.1 = []) (hp : c.2.2.2.2.2.1 = []) (hs : spm c.2.2.2.1 = true) (hx : qG none d t 0 (qini t as) [] w 142 R) : qG none d t 0 (qini t as) [] w 142 (fun v w' n' => (∃ x, v = (c.2.2.1.1, x)) ∧ SP w' ∧ n' = 142 ∧ AW c.2.2.2.1 w w' ∧ J9 n w' ∧ R v w' n') := by
  refine qG.mono (qG.and (T9 d as w hd ha (y9_of h.1 hJ) (fun p hp => by rw [hn] at hp; cases hp) (fun e he => by rw [hp] at he; cases he)) hx) (fun v w' n' hh => ?_)
  obtain ⟨⟨⟨h1, h2, h3⟩, h4, h5, h6, -, -⟩, h7⟩ := hh
  obtain ⟨b, hJ1⟩ := y9_to h4
  have a : AW c.2.2.2.1 w w' := ⟨b, h6⟩
  exact ⟨⟨v.2, Prod.ext h1 rfl⟩, h.aw a hs, h5, a, hJ1, h7⟩
theorem qG.tt {sc : Option (Nat × (Nat → Int))} {d k pc n : Nat} {ls st : List qV} {w : qW} {Q : qV → qW → Nat → Prop} (h : qG sc d k pc ls st w n Q) : qG sc d k pc ls st w n (fun _ _ _ => True) := qG.mono h (fun _ _ _ _ => trivial)
theorem SP.use9n {t : Nat} {c : yC} {n : Nat} {w : qW} {d : Nat} {as : List qV} (T9 : yCOK w zg9 za9 zr9 (zS9 n) zgh t c) (h : SP w) (hJ : J9 n w) (hd : c.1 ≤ d) (ha : yamc c.2.1 as) (hn : c.2.2.2.2.1 = []) (hp : c.2.2.2.2.2.1 = []) (hs : spm c.2.2.2.1 = true) : qG none d t 0 (qini t as) [] w 142 (fun v w' n' => (∃ x, v = (c.2.2.1.1, x)) ∧ SP w' ∧ n' = 142 ∧ AW c.2.2.2.1 w w' ∧ J9 n w') :=
  qG.mono (SP.use9 T9 h hJ hd ha hn hp hs (qG.tt (T9 d as w hd ha (y9_of h.1 hJ) (fun p hp => by rw [hn] at hp; cases hp) (fun e he => by rw [hp] at he; cases he)))) (fun _ _ _ hh => ⟨hh.1, hh.2.1, hh.2.2.1, hh.2.2.2.1, hh.2.2.2.2.1⟩)
noncomputable def spm0 (m : List Nat) : Bool := spm2 m && (m.all (fun e => !Nat.beq (e % 1000) 102) && (m.all (fun e => !Nat.beq (e % 1000) 103) && !ymo 95 8 m))
/-- works and walls of the reference: the table is of no box then -/
theorem SP.useW {t : Nat} {c : yC} {w : qW} {d : Nat} {as : List qV} {R : qV → qW → Nat → Prop} (T : yCOK w zgf zga zra zSp zgh t c) (h : SP w) (hd : c.1 ≤ d) (ha : yamc c.2.1 as) (hn : c.2.2.2.2.1 = []) (hp : c.2.2.2.2.2.1 = []) (hs : spm0 c.2.2.2.1 = true) (hx : qG none d t 0 (qini t as) [] w 142 R) (hr : ∀ v w' n', R v w' n' → w' = w ∨ w' 95 9 = -1) : qG none d t 0 (qini t as) [] w 142 (fun v w' n' => (∃ x, v = (c.2.2.1.1, x)) ∧ SP w' ∧ n' = 142 ∧ AW c.2.2.2.1 w w' ∧ R v w' n') := by
  refine qG.mono (qG.and (T d as w hd ha h.1 (fun p hp => by rw [hn] at hp; cases hp) (fun e he => by rw [hp] at he; cases he)) hx) (fun v w' n' hh => ?_)
  obtain ⟨⟨⟨h1, h2, h3⟩, h4, h5, h6, -, -⟩, h7⟩ := hh
  have a : AW c.2.2.2.1 w w' := ⟨h4, h6⟩
  unfold spm0 at hs
  simp only [Bool.and_eq_true, Bool.not_eq_true'] at hs
  obtain ⟨m1, m2, m3, m4⟩ := hs
  have hS : S3 w' := by
    rcases hr v w' n' h7 with e | e
    · rw [e]; exact h.2.2.2
    · refine ⟨h.2.2.2.1.cong (a.2 95 8 (fun _ => m4)) (a.a (by decide) m2) (a.a (by decide) m3), fun c9 k9 b1 b2 b3 z => ?_⟩
      rw [e] at z; omega
  exact ⟨⟨v.2, Prod.ext h1 rfl⟩, h.aw2 a m1 hS, h5, a, h7⟩
theorem wk2R.c {w w1 : qW} {r : qV} (h : wk2R w r w1) : w1 = w ∨ w1 95 9 = -1 := by
  rcases h with ⟨-, h⟩ | ⟨-, h⟩
  · exact .inl h
  · exact .inr h
theorem wlRE.c {w w1 : qW} {r : qV} {c s t b : Int} (h : wlRE c s t b w r w1) : w1 = w ∨ w1 95 9 = -1 := by
  rcases h with ⟨-, -, h⟩ | ⟨-, -, -, -, -, -, -, -, -, -, -, -, -, -, h, -⟩
  · exact .inl h
  · exact .inr h
theorem wrp_up {x : Int} {n : Nat} (h0 : 0 ≤ x) (h1 : x ≤ (n : Int)) (hn : n ≤ 100000) : wrp (x + 1) = x + 1 := wrp_id (by omega) (by omega)
theorem J9.works {n : Nat} {w w1 w2 : qW} {c s b : Int} {r r2 : qV} (hn : n ≤ 100000) (h : J9 n w) (hX : wkX c s b w r w1) (hX2 : wk2X c w r w1) (hR : wkR c s b w1 r2 w2) : J9 (n + 1) w2 ∧ r = r2 := by
  obtain ⟨hK, hV, hC⟩ := h
  rcases hX with ⟨c1, rfl, rfl⟩ | ⟨c1, c9, ec, rfl, x1, x2⟩
  · rcases hR with ⟨c2, rfl, rfl⟩ | ⟨c2, -⟩
    · exact ⟨J9.up ⟨hK, hV, hC⟩ (by omega), rfl⟩
    · exact absurd c2 c1
  · rcases hR with ⟨c2, -⟩ | ⟨-, c8, ec2, rfl, y1, y2⟩
    · exact absurd c1 c2
    · obtain rfl : c8 = c9 := by omega
      unfold isWk at c1
      rcases hX2 with ⟨e, -⟩ | ⟨-, c7, ec3, hc7, z1, z2⟩
      · cases e
      obtain rfl : c7 = c8 := by omega
      have sh := hC c7 hc7
      rw [wrp_up sh.1.1 sh.1.2 hn] at z1
      have e96 : w1 96 = w 96 := funext fun k => x2 96 k (by omega)
      have e24 : ∀ k, w2 24 k = w 24 k := fun k => (y2 24 k (by omega) (by omega)).trans (x2 24 k (by omega))
      have e25 : ∀ k, w2 25 k = w 25 k := fun k => (y2 25 k (by omega) (by omega)).trans (x2 25 k (by omega))
      have e99 : ∀ k, w2 99 k = w 99 k := fun k => (y2 99 k (by omega) (by omega)).trans (x2 99 k (by omega))
      refine ⟨⟨fun c' hc' => ?_, hV.cg (fun c' k hc' => (y2 _ k (by omega) (by omega)).trans (x2 _ k (by omega))) e99, fun c' hc' => ?_⟩, rfl⟩
      · rw [y2 (64 + 5 * c') 0 (by omega) (by omega)]
        by_cases e : c' = c7
        · subst e
          rw [x1, y1, e96, hK c' hc']
        · rw [x2 _ _ (by omega), y2 96 c' (by omega) (by omega), e96]
          exact hK c' hc'
      · rw [e24, e24, y2 (64 + 5 * c') 1 (by omega) (by omega)]
        by_cases e : c' = c7
        · subst e
          rw [z1]
          refine ⟨⟨by omega, by omega⟩, fun q => ?_⟩
          have q1 := (sh.2 q).1
          exact ⟨by omega, fun q2 => by omega⟩
        · rw [x2 _ _ (by omega)]
          obtain ⟨a, b2⟩ := hC c' hc'
          refine ⟨⟨a.1, by omega⟩, fun q => ⟨(b2 q).1, fun q2 k k1 k2 q3 => ?_⟩⟩
          rw [e24] at q3
          have t := (b2 q).2 q2 k k1 k2 q3
          have eL : fpL w2 c' k 65536 = fpL w c' k 65536 := by
            unfold fpL
            rw [show fpd w2 c' k = fpd w c' k from funext fun x => by
              unfold fpd
              rw [pas_cg e99, y2 96 c' (by omega) (by omega), e96]]
          unfold TX
          rw [eL]
          exact ⟨(e24 3).trans t.1, fun j hj => (e25 j).trans (t.2.1 j hj), fun r j hr hj => by rw [eL, mvB_cg e99, mb_cg (fun i => (y2 26 i (by omega) (by omega)).trans (x2 26 i (by omega)))]; exact t.2.2 r j hr hj⟩
theorem J9.wall {n : Nat} {w w1 w2 : qW} {c s t b : Int} {r r2 : qV} (hn : n ≤ 100000) (h : J9 n w) (hX : wlXE c s t b w r w1) (hR : wlRE c s t b w1 r2 w2) : J9 (n + 1) w2 ∧ r = r2 := by
  obtain ⟨hV2, hr⟩ := h.2.1.wall hX hR
  refine ⟨?_, hr⟩
  obtain ⟨hK, hV, hC⟩ := h
  rcases hX with ⟨c1, rfl, rfl⟩ | ⟨c1, rfl, c9, s9, t9, ec, hc9, es, et, hs9, ht9, hnb, x1, x2, x3, x4⟩
  · rcases hR with ⟨c2, rfl, rfl⟩ | ⟨c2, -⟩
    · exact J9.up ⟨hK, hV, hC⟩ (by omega)
    · omega
  · rcases hR with ⟨c2, -⟩ | ⟨-, rfl, c8, s8, t8, ec2, -, es2, et2, -, -, -, y1, y2, -, y4⟩
    · omega
    · obtain rfl : c8 = c9 := by omega
      have sh := hC c8 hc9
      rw [wrp_up sh.1.1 sh.1.2 hn] at x3
      have hs8 : s8 < 16 := by omega
      have ht8 : t8 < 16 := by omega
      have eo : ∀ q k, q ≠ 99 → q ≠ 95 → q ≠ 65 + 5 * c8 → q ≠ 64 + 5 * c8 → w2 q k = w q k := fun q k a1 a2 a3 a4 => (y4 q k (fun z => a1 z.1) (fun z => a2 z.1)).trans (x4 q k (fun z => a3 z.1) (fun z => a4 z.1))
      refine ⟨fun c' hc' => ?_, hV2, fun c' hc' => ?_⟩
      · rw [y4 (64 + 5 * c') 0 (by omega) (by omega), x4 (64 + 5 * c') 0 (by omega) (by omega), eo 96 _ (by decide) (by decide) (by omega) (by omega)]
        exact hK c' hc'
      · rw [eo 24 0 (by decide) (by decide) (by omega) (by omega), eo 24 2 (by decide) (by decide) (by omega) (by omega), y4 (64 + 5 * c') 1 (by omega) (by omega)]
        by_cases e : c' = c8
        · subst e
          rw [x3]
          refine ⟨⟨by omega, by omega⟩, fun q => ?_⟩
          have q1 := (sh.2 q).1
          exact ⟨by omega, fun q2 => by omega⟩
        · rw [x4 (64 + 5 * c') 1 (by omega) (by omega)]
          obtain ⟨a, b2⟩ := hC c' hc'
          refine ⟨⟨a.1, by omega⟩, fun q => ⟨(b2 q).1, fun q2 k k1 k2 q3 => ?_⟩⟩
          rw [eo 24 1 (by decide) (by decide) (by omega) (by omega)] at q3
          have t9 := (b2 q).2 q2 k k1 k2 q3
          have eL : fpL w2 c' k 65536 = fpL w c' k 65536 := by
            unfold fpL
            rw [show fpd w2 c' k = fpd w c' k from funext fun x => by
              have eR : ∀ v, hgR (pasB w2 c') v = hgR (pasB w c') v := fun v => hgR_cg (fun u t hu ht => by
                unfold pasB
                rw [y4 99 (16 * c' + u) (by omega) (by omega), x4 99 (16 * c' + u) (by omega) (by omega)])
              unfold fpd
              rw [eR, eo 96 c' (by decide) (by decide) (by omega) (by omega)]]
          unfold TX
          rw [eL]
          exact ⟨(eo 24 3 (by decide) (by decide) (by omega) (by omega)).trans t9.1, fun j hj => (eo 25 j (by decide) (by decide) (by omega) (by omega)).trans (t9.2.1 j hj), fun r j hr hj => by rw [eL, mb_cg (fun i => eo 26 i (by decide) (by decide) (by omega) (by omega)), show mvB w2 c' k = mvB w c' k from funext fun x => funext fun y => by unfold mvB; rw [show hgR (pasB w2 c') (qor x y) = hgR (pasB w c') (qor x y) from hgR_cg (fun u t hu ht => by unfold pasB; rw [y4 99 (16 * c' + u) (by omega) (by omega), x4 99 (16 * c' + u) (by omega) (by omega)])]]; exact t9.2.2 r j hr hj⟩
