/-! the class's told shows behind a text -/
noncomputable def SHOWP (p : Nat) : Prop := p = 4 ∨ p = 79 ∨ p = 83 ∨ p = 87 ∨ p = 91
/-- the shows and their places stay -/
noncomputable def NSH (w w1 : qW) : Prop := (∀ q, w1 3 q = w 3 q) ∧ w1 1 2 = w 1 2 ∧ ∀ p, SHOWP p → w1 p 2 = w p 2 ∧ ∀ j, w1 (p + 1) j = w (p + 1) j ∧ w1 (p + 2) j = w (p + 2) j
theorem NSH.of {w w1 : qW} (h : ∀ q j, (q < 8 ∨ 15 < q) → q < 1000 → w1 q j = w q j) : NSH w w1 := ⟨fun q => h 3 q (by omega) (by omega), h 1 2 (by omega) (by omega), fun p hp => by
  unfold SHOWP at hp
  exact ⟨h p 2 (by omega) (by omega), fun j => ⟨h (p + 1) j (by omega) (by omega), h (p + 2) j (by omega) (by omega)⟩⟩⟩
noncomputable def FRS (p : Nat) (w w1 : qW) : Prop := ∀ q, SHOWP q → q ≠ p → w1 q 2 = w q 2 ∧ ∀ j, w1 (q + 1) j = w (q + 1) j ∧ w1 (q + 2) j = w (q + 2) j
/-- the show k told with the codes C; p: where the spare show lay -/
noncomputable def CSX (k p : Nat) (C : Nat → Int) (w w1 : qW) : Prop := (∃ c j : Nat, sSho C = (0, c, j) ∧ c ≤ 40 ∧ w1 p 2 = (c : Int) ∧ (∀ t, t < c → (sStep C t (stB C t)).1 = 0 ∧ w1 (p + 1) t = C (stB C t) - 10000 ∧ w1 (p + 2) t = C (stB C t + 1)) ∧ w1 3 k = (p : Int) ∧ w1 1 2 = w 3 k ∧ (∀ q, q ≠ k → w1 3 q = w 3 q) ∧ FRS p w w1) ∨ (∃ (s : Int) (c j : Nat), sSho C = (s, c, j) ∧ (s = 1 ∨ s = 2 ∨ s = 3) ∧ (∀ q, w1 3 q = w 3 q) ∧ w1 1 2 = w 1 2 ∧ FRS p w w1)
theorem CSX.o {k p : Nat} {C : Nat → Int} {w w1 w2 : qW} (hp : SHOWP p) (h : CSX k p C w w1) (e : ∀ q j, q ≠ 8 → w2 q j = w1 q j) : CSX k p C w w2 := by
  have hf : FRS p w w1 → FRS p w w2 := fun f q hq hn => by
    have := f q hq hn
    unfold SHOWP at hq
    rw [e q 2 (by omega)]
    exact ⟨this.1, fun j => by rw [e (q + 1) j (by omega), e (q + 2) j (by omega)]; exact this.2 j⟩
  unfold SHOWP at hp
  rcases h with ⟨c, j, a1, a2, a3, a4, a5, a6, a7, a8⟩ | ⟨s, c, j, a1, a2, a3, a4, a5⟩
  · refine .inl ⟨c, j, a1, a2, (e p 2 (by omega)).trans a3, fun t ht => ?_, (e 3 k (by omega)).trans a5, (e 1 2 (by omega)).trans a6, fun q hq => (e 3 q (by omega)).trans (a7 q hq), hf a8⟩
    rw [e (p + 1) t (by omega), e (p + 2) t (by omega)]
    exact a4 t ht
  · exact .inr ⟨s, c, j, a1, a2, fun q => (e 3 q (by omega)).trans (a3 q), (e 1 2 (by omega)).trans a4, hf a5⟩
theorem CSX.b {k p : Nat} {C : Nat → Int} {w w0 w1 : qW} (h : CSX k p C w0 w1) (e : ∀ q j, q ≠ 8 → w0 q j = w q j) : CSX k p C w w1 := by
  have hf : FRS p w0 w1 → FRS p w w1 := fun f q hq hn => by
    have := f q hq hn
    unfold SHOWP at hq
    rw [← e q 2 (by omega)]
    exact ⟨this.1, fun j => by rw [← e (q + 1) j (by omega), ← e (q + 2) j (by omega)]; exact this.2 j⟩
  rcases h with ⟨c, j, a1, a2, a3, a4, a5, a6, a7, a8⟩ | ⟨s, c, j, a1, a2, a3, a4, a5⟩
  · exact .inl ⟨c, j, a1, a2, a3, a4, a5, a6.trans (e 3 k (by omega)), fun q hq => (a7 q hq).trans (e 3 q (by omega)), hf a8⟩
  · exact .inr ⟨s, c, j, a1, a2, fun q => (a3 q).trans (e 3 q (by omega)), a4.trans (e 1 2 (by omega)), hf a5⟩
theorem SHM_all {p q : Nat} (hp : p < 1000) (h1 : q ≠ p) (h2 : q ≠ p + 1) (h3 : q ≠ p + 2) (hp2 : p + 2 < 1000) : (SHM_ p).all (fun e => !Nat.beq (e % 1000) q) = true := by
  have ne : ∀ e, e ≠ q → (!Nat.beq e q) = true := fun e h => by
    cases hb : Nat.beq e q with
    | true => exact absurd (Nat.eq_of_beq_eq_true hb) h
    | false => rfl
  show ((!Nat.beq ((3000 + p) % 1000) q) && ((!Nat.beq ((p + 1) % 1000) q) && ((!Nat.beq ((p + 2) % 1000) q) && true))) = true
  rw [ne _ (by omega), ne _ (by omega), ne _ (by omega)]
  rfl
theorem SHOWP.a {p : Nat} (h : SHOWP p) : p ≠ 8 ∧ p ≠ 1 ∧ p ≠ 3 ∧ p + 2 < 1000 := by unfold SHOWP at h; omega
theorem SHOWP.b {p : Nat} (h : SHOWP p) : 1 ≠ p ∧ 1 ≠ p + 1 ∧ 1 ≠ p + 2 ∧ 3 ≠ p ∧ 3 ≠ p + 1 ∧ 3 ≠ p + 2 := by unfold SHOWP at h; omega
theorem SHOWP.c {p q : Nat} (h : SHOWP p) (hq : SHOWP q) : q ≠ p + 1 ∧ q ≠ p + 2 ∧ q + 1 ≠ p ∧ q + 1 ≠ p + 2 ∧ q + 2 ≠ p ∧ q + 2 ≠ p + 1 := by unfold SHOWP at h hq; omega
theorem SHOWP.d {q : Nat} (hq : SHOWP q) : q ≠ 8 ∧ q ≠ 1 ∧ q ≠ 3 ∧ q + 1 ≠ 8 ∧ q + 1 ≠ 1 ∧ q + 1 ≠ 3 ∧ q + 2 ≠ 8 ∧ q + 2 ≠ 1 ∧ q + 2 ≠ 3 ∧ q ≠ 10 ∧ q ≠ 11 ∧ q + 1 ≠ 10 ∧ q + 1 ≠ 11 ∧ q + 2 ≠ 10 ∧ q + 2 ≠ 11 ∧ q + 2 < 1000 := by unfold SHOWP at hq; omega
theorem SHOWP.e {p : Nat} (h : SHOWP p) : p + 1 ≠ 8 ∧ p + 1 ≠ 1 ∧ p + 1 ≠ 3 ∧ p + 2 ≠ 8 ∧ p + 2 ≠ 1 ∧ p + 2 ≠ 3 := by unfold SHOWP at h; omega
theorem LSH.fin2 {p k : Nat} {w0 : qW} {l l2 : List Int} {n : Nat} {r : qV} {w1 : qW} (hp9 : SHOWP p) (h : LSH p k w0 l l2 n r w1) (h6 : w0 8 6 = 0) (h7 : w0 8 7 = -1) (ha : tkM (SHM_ p) = true) : (∃ x, r = (0, x)) ∧ w1 1 3 = w0 1 3 ∧ ∃ wT, TKA (qup w0 p 2 0) l l2 n wT ∧ TXF (sSho (cdF wT)) wT r w1 ∧ CSX k p (cdF wT) w0 w1 := by
  obtain ⟨wT, w2, hT, hA, hs⟩ := h
  obtain ⟨-, epl, -, e8⟩ := hA.cd ha
  have hp8 := hp9.a
  have fr : ∀ q j, q ≠ p → q ≠ p + 1 → q ≠ p + 2 → q ≠ 8 → q ≠ 10 → q ≠ 11 → q < 1000 → w2 q j = w0 q j := fun q j a b c d e f g =>
    (hA.2 q j (fun _ => ymo_far g (SHM_all (by omega) a b c (by omega)) j)).trans ((hT.o e f (fun z => d z.1)).trans (qup_nk a))
  have t6 : wT 8 6 = 0 := (hT.o (by decide) (by decide) (by decide)).trans ((qup_nk (by omega)).trans h6)
  have t7 : wT 8 7 = -1 := (hT.o (by decide) (by decide) (by decide)).trans ((qup_nk (by omega)).trans h7)
  have hne := hp9.b
  have t13 : w2 1 3 = w0 1 3 := fr 1 3 hne.1 hne.2.1 hne.2.2.1 (by decide) (by decide) (by decide) (by decide)
  have t12 : w2 1 2 = w0 1 2 := fr 1 2 hne.1 hne.2.1 hne.2.2.1 (by decide) (by decide) (by decide) (by decide)
  have t3 : ∀ q, w2 3 q = w0 3 q := fun q => fr 3 q hne.2.2.2.1 hne.2.2.2.2.1 hne.2.2.2.2.2 (by decide) (by decide) (by decide) (by decide)
  have frs : ∀ w9 : qW, (∀ q j, q ≠ 8 → q ≠ 1 → q ≠ 3 → w9 q j = w2 q j) → FRS p w0 w9 := fun w9 e q hq hn => by
    have hq9 := hq.d
    have hp3 := hp9.c hq
    clear hs
    refine ⟨(e q 2 (by omega) (by omega) (by omega)).trans (fr q 2 hn (by omega) (by omega) (by omega) (by omega) (by omega) (by omega)), fun j => ⟨(e (q + 1) j (by omega) (by omega) (by omega)).trans (fr (q + 1) j (by omega) (by omega) (by omega) (by omega) (by omega) (by omega) (by omega)), (e (q + 2) j (by omega) (by omega) (by omega)).trans (fr (q + 2) j (by omega) (by omega) (by omega) (by omega) (by omega) (by omega) (by omega))⟩⟩
  rcases hs with ⟨c, j, a1, a2, a3, a4, a5⟩ | ⟨k9, c, j, a1, a2, a3, a4⟩
  · have e9 : ∀ q j9, q ≠ 8 → q ≠ 1 → q ≠ 3 → w1 q j9 = w2 q j9 := fun q j9 x1 x2 x3 => by rw [a4, qup_nk x2, qup_nk x3, axW_o (fun z => x1 z.1)]
    refine ⟨⟨_, a3⟩, (by rw [a4, qup_j (by decide), qup_ne (by decide), axW_o (by decide)]; exact t13), wT, hT, .inl ⟨c, j, a1, a3, ?_, ?_⟩, .inl ⟨c, j, a1, a2, (e9 p 2 (by omega) (by omega) (by omega)).trans a5.1, fun t ht => ?_, ?_, ?_, fun q hq => ?_, frs w1 e9⟩⟩
    · rw [a4, qup_ne (by decide), qup_ne (by decide), axW_o (by decide), e8]; exact t6
    · rw [a4, qup_ne (by decide), qup_ne (by decide), axW_o (by decide), e8]; exact t7
    · have hp4 := hp9.e
      rw [e9 (p + 1) t (by omega) (by omega) (by omega), e9 (p + 2) t (by omega) (by omega) (by omega)]
      exact a5.2 t ht
    · rw [a4, qup_nk (by decide), qup_k]
    · rw [a4, qup_k]; exact t3 k
    · rw [a4, qup_nk (by decide), qup_j hq, axW_o (by omega)]; exact t3 q
  · have e9 : ∀ q j9, q ≠ 8 → w1 q j9 = w2 q j9 := fun q j9 x1 => by rw [a4]; unfold axF; rw [qup_nk x1, qup_nk x1, axW_o (fun z => x1 z.1)]
    refine ⟨⟨_, a3⟩, (e9 1 3 (by decide)).trans t13, wT, hT, .inr ⟨k9, c, j, a1, a2, a3, ?_, ?_⟩, .inr ⟨k9, c, j, a1, a2, fun q => (e9 3 q (by decide)).trans (t3 q), (e9 1 2 (by decide)).trans t12, frs w1 (fun q j x _ _ => e9 q j x)⟩⟩
    · rw [a4]; unfold axF; rw [qup_j (by decide), qup_k]
    · rw [a4]; unfold axF; rw [qup_k, epl]
theorem lp_no : ∀ e ∈ C_learnP.2.2.2.2.1, 8 ≤ e % 1000 ∧ e % 1000 ≤ 15 := by decide
theorem NSH.lp {w w1 : qW} (h : AW C_learnP.2.2.2.2.1 w w1) : NSH w w1 := NSH.of (fun q j hq h9 => h.2 q j (fun _ => ymo_far h9 (List.all_eq_true.mpr (fun e he => by
  have := lp_no e he
  cases hb : Nat.beq (e % 1000) q with
  | true => have := Nat.eq_of_beq_eq_true hb; omega
  | false => rfl)) j))
theorem NSH.tr {w w1 w2 : qW} (h : NSH w w1) (h2 : NSH w1 w2) : NSH w w2 := ⟨fun q => (h2.1 q).trans (h.1 q), h2.2.1.trans h.2.1, fun p hp => ⟨(h2.2.2 p hp).1.trans (h.2.2 p hp).1, fun j => ⟨((h2.2.2 p hp).2 j).1.trans ((h.2.2 p hp).2 j).1, ((h2.2.2 p hp).2 j).2.trans ((h.2.2 p hp).2 j).2⟩⟩⟩
theorem NSH.e8 {w w1 : qW} (e : ∀ q j, q ≠ 8 → w1 q j = w q j) : NSH w w1 := NSH.of (fun q j hq _ => e q j (by omega))
theorem cut_e {w w1 : qW} (e : w1 = w ∨ w1 = qup w 8 1 0) : ∀ q j, q ≠ 8 → w1 q j = w q j := fun q j h => by
  rcases e with e | e <;> rw [e]
  exact qup_nk h
/-- the class's text, with the shows told -/
noncomputable def TEY (k : Int) (w : qW) (n : Nat) (r : qV) (w1 : qW) : Prop := (isInV k 0 3 = 0 ∧ ¬ k = 4 ∧ r = (0, -1) ∧ w1 8 6 = 0 ∧ w1 8 7 = -1 ∧ NSH w w1) ∨ (¬ isInV k 0 3 = 0 ∧ ∃ l l2 wT, qtxb 3 = some l ∧ qtxb 4 = some l2 ∧ TKB w l l2 n wT ∧ TXF (sSho (cdF wT)) wT r w1 ∧ ∃ k9 p : Nat, k = (k9 : Int) ∧ k9 < 4 ∧ SHOWP p ∧ w 1 2 = (p : Int) ∧ CSX k9 p (cdF wT) w w1) ∨ (k = 4 ∧ ∃ l l2 wT, qtxb 1 = some l ∧ qtxb 2 = some l2 ∧ TKB w l l2 n wT ∧ TXF (sPam (cdF wT)) wT r w1 ∧ NSH w w1)
theorem K_X11_textY4 {d : Nat} (hd : 30 ≤ d) (k : Int) (l l2 : List Int) (hl : qtxb 3 = some l) (hl2 : qtxb 4 = some l2) (hl6 : l.length ≤ 600) (l3 l4 : List Int) (hl3 : qtxb 1 = some l3) (hl4 : qtxb 2 = some l4) (hl36 : l3.length ≤ 600) (n : Nat) (hn9 : n ≤ 600) (w : qW) (hI : yInv zgf zga zra zSp w) (hn : w 8 1 = (n : Int)) (h12 : w 1 2 = 4) : qG none d 169 0 [(2, 1), (0, k), (9, 0)] [] w 142 (fun (r : qV) (w1 : qW) (_ : Nat) => TEY k w n r w1) := by
  generalize hQ9 : (fun (r : qV) (w1 : qW) (_ : Nat) => TEY k w n r w1) = Q9
  obtain ⟨d, rfl⟩ : ∃ d9, d = d9 + 1 := ⟨d - 1, by omega⟩
  refine qG.blk 2 (pc' := 4) (ls' := [(2, 1), (0, k), (9, 0)]) (st' := [(2, w 1 3)]) (w' := w) (n' := 142) rfl ?_
  rw [show w 1 3 = 8 from zref hI rfl rfl]
  refine qG.call (t := 132) (na := 1) (sk := 1) (md := 1) (ls1 := [(2, 8)]) (r1 := []) rfl rfl rfl rfl rfl (K_forget (Nat.zero_le _) w) ?_
  rintro _ w7 _ ⟨rfl, hw7, rfl⟩
  obtain ⟨w0, hw0⟩ : ∃ q : qW, q = qup (qup w 8 6 0) 8 7 (-1) := ⟨_, rfl⟩
  rw [← hw0] at hw7
  rw [hw7]
  have hI0 : yInv zgf zga zra zSp w0 := by rw [hw0]; exact zup_f (zup_f hI (b := (0, 3)) rfl rfl rfl ⟨by decide, by decide⟩) (b := (-2147483648, 2147483647)) rfl rfl rfl ⟨by decide, by decide⟩
  have e6 : w0 8 6 = 0 := by rw [hw0, qup_j (by decide), qup_k]
  have e7 : w0 8 7 = -1 := by rw [hw0, qup_k]
  have hn0 : w0 8 1 = (n : Int) := by rw [hw0, qup_j (by decide), qup_j (by decide)]; exact hn
  have h120 : w0 1 2 = 4 := by rw [hw0, qup_ne (by decide), qup_ne (by decide)]; exact h12
  have h90 : ∀ j, w0 9 j = w 9 j := fun j => by rw [hw0, qup_ne (by decide), qup_ne (by decide)]
  have hw8 : ∀ q j, q ≠ 8 → w0 q j = w q j := fun q j h => by rw [hw0, qup_nk h, qup_nk h]
  show qG none (d + 1) 169 7 [(2, 1), (0, k), (9, 0)] [] w0 142 Q9
  refine qG.blk 3 (pc' := 10) (ls' := [(2, 1), (0, k), (0, (-1))]) (st' := [(0, k)]) (w' := w0) (n' := 142) rfl ?_
  refine qG.call (t := 199) (na := 1) (sk := 0) (md := 0) (ls1 := [(0, k)]) (r1 := []) rfl rfl rfl rfl rfl (K_X11_isShow (Nat.zero_le _) _ _) ?_
  rintro _ w7 _ ⟨rfl, hw7, rfl⟩
  rw [hw7]
  show qG none (d + 1) 169 13 [(2, 1), (0, k), (0, (-1))] [(0, isInV k 0 3)] w0 142 Q9
  refine qG.br (P := isInV k 0 3 = 0) (pc1 := 25) (pc2 := 16) (st1 := []) rfl (fun hk0 => ?_) (fun hk0 => ?_)
  · skip
    refine qG.blk 2 (pc' := 27) (ls' := [(2, 1), (0, k), (0, (-1))]) (st' := [(0, 4), (0, k)]) (w' := w0) (n' := 142) rfl ?_
    refine qG.br (P := k = 4) (pc1 := 30) (pc2 := 42) (st1 := []) rfl (fun hk4 => ?_) (fun hk4 => ?_)
    · skip
      refine qG.blk 2 (pc' := 34) (ls' := [(2, 1), (0, k), (0, (-1))]) (st' := [(2, w0 1 4)]) (w' := w0) (n' := 142) rfl ?_
      rw [show w0 1 4 = 12 from zref hI0 rfl rfl]
      refine qG.blk 2 (pc' := 38) (ls' := [(2, 1), (0, k), (0, (-1))]) (st' := [(2, w0 1 3), (2, 12)]) (w' := w0) (n' := 142) rfl ?_
      rw [show w0 1 3 = 8 from zref hI0 rfl rfl]
      refine qG.call (t := 75) (na := 2) (sk := 1) (md := 1) (ls1 := [(2, 12), (2, 8), (9, 0)]) (r1 := []) rfl rfl rfl rfl rfl (qG.and (K_pLearn (by omega) l3 l4 hl3 hl4 hl36 n hn9 w0 hI0 hn0) (AW.use (c := C_learnP.2) (as := [(2, 12), (2, 8)]) (m := C_learnP.2.2.2.2.1) T_learnP (AW.rf hI0) (show 23 ≤ d by omega) ⟨⟨rfl, by decide, by decide⟩, ⟨rfl, by decide, by decide⟩, trivial⟩ rfl rfl (by decide +kernel))) ?_
      rintro r3 w3 _ ⟨⟨rfl, wT, hTA, hTE⟩, x9, -, -, -, hAP, -, -⟩
      have hNS : NSH w w3 := (NSH.e8 hw8).tr (NSH.lp hAP)
      obtain ⟨⟨x3, rfl⟩, h13, hTF⟩ := hTE.fin ((hTA.o (by decide) (by decide) (by decide)).trans e6) ((hTA.o (by decide) (by decide) (by decide)).trans e7)
      have h13 : w3 1 3 = w0 1 3 := h13.trans (hTA.o (by decide) (by decide) (by decide))
      have hTB : TKB w l3 l4 n wT := TKA.b h90 (hn0.trans hn.symm) hn hTA
      show qG none (d + 1) 169 41 [(2, 1), (0, k), (0, (-1))] [(0, x3)] w3 142 Q9
      refine qG.blk 3 (pc' := 46) (ls' := [(2, 1), (0, k), (0, x3)]) (st' := [(2, w3 1 3)]) (w' := w3) (n' := 142) rfl ?_
      rw [show w3 1 3 = 8 from h13.trans (zref hI0 rfl rfl)]
      refine qG.blk 1 (pc' := 47) (ls' := [(2, 1), (0, k), (0, x3)]) (st' := [(0, 0), (2, 8)]) (w' := w3) (n' := 142) rfl ?_
      refine qG.call (t := 131) (na := 2) (sk := 1) (md := 1) (ls1 := [(2, 8), (0, 0)]) (r1 := []) rfl rfl rfl rfl rfl (K_cut0 (Nat.zero_le _) w3) ?_
      rintro _ w4 _ ⟨⟨x4, rfl⟩, hw4, rfl⟩
      show qG none (d + 1) 169 50 [(2, 1), (0, k), (0, x3)] [(0, x4)] w4 142 Q9
      refine qG.blk 2 (pc' := 52) (ls' := [(2, 1), (0, k), (0, x3)]) (st' := [(0, x3)]) (w' := w4) (n' := 142) rfl ?_
      refine qG.ret rfl rfl ?_
      subst hQ9
      first | exact .inl ⟨hk0, hk4, rfl, by rcases hw4 with e | e <;> rw [e] <;> first | exact e6 | exact (qup_j (by decide)).trans e6, by rcases hw4 with e | e <;> rw [e] <;> first | exact e7 | exact (qup_j (by decide)).trans e7, (NSH.e8 hw8).tr (NSH.e8 (cut_e hw4))⟩ | exact .inr (.inl ⟨hk0, l, l2, wT, hl, hl2, hTB, hTF.o hw4, k9, 4, rfl, by omega, by unfold SHOWP; omega, h12, (hCS.o (by unfold SHOWP; omega) (cut_e hw4)).b hw8⟩) | exact .inr (.inr ⟨hk4, l3, l4, wT, hl3, hl4, hTB, hTF.o hw4, hNS.tr (NSH.e8 (cut_e hw4))⟩)
    · skip
      refine qG.blk 2 (pc' := 46) (ls' := [(2, 1), (0, k), (0, (-1))]) (st' := [(2, w0 1 3)]) (w' := w0) (n' := 142) rfl ?_
      rw [show w0 1 3 = 8 from zref hI0 rfl rfl]
      refine qG.blk 1 (pc' := 47) (ls' := [(2, 1), (0, k), (0, (-1))]) (st' := [(0, 0), (2, 8)]) (w' := w0) (n' := 142) rfl ?_
      refine qG.call (t := 131) (na := 2) (sk := 1) (md := 1) (ls1 := [(2, 8), (0, 0)]) (r1 := []) rfl rfl rfl rfl rfl (K_cut0 (Nat.zero_le _) w0) ?_
      rintro _ w4 _ ⟨⟨x4, rfl⟩, hw4, rfl⟩
      show qG none (d + 1) 169 50 [(2, 1), (0, k), (0, (-1))] [(0, x4)] w4 142 Q9
      refine qG.blk 2 (pc' := 52) (ls' := [(2, 1), (0, k), (0, (-1))]) (st' := [(0, (-1))]) (w' := w4) (n' := 142) rfl ?_
      refine qG.ret rfl rfl ?_
      subst hQ9
      first | exact .inl ⟨hk0, hk4, rfl, by rcases hw4 with e | e <;> rw [e] <;> first | exact e6 | exact (qup_j (by decide)).trans e6, by rcases hw4 with e | e <;> rw [e] <;> first | exact e7 | exact (qup_j (by decide)).trans e7, (NSH.e8 hw8).tr (NSH.e8 (cut_e hw4))⟩ | exact .inr (.inl ⟨hk0, l, l2, wT, hl, hl2, hTB, hTF.o hw4, k9, 4, rfl, by omega, by unfold SHOWP; omega, h12, (hCS.o (by unfold SHOWP; omega) (cut_e hw4)).b hw8⟩) | exact .inr (.inr ⟨hk4, l3, l4, wT, hl3, hl4, hTB, hTF.o hw4, hNS.tr (NSH.e8 (cut_e hw4))⟩)
  · skip
    obtain ⟨k9, rfl, hk1, hk2⟩ := isIn_n (by decide) hk0
    refine qG.blk 2 (pc' := 18) (ls' := [(2, 1), (0, ((k9 : Nat) : Int)), (0, (-1))]) (st' := [(0, ((k9 : Nat) : Int)), (2, 1)]) (w' := w0) (n' := 142) rfl ?_
    refine qG.call (t := 202) (na := 2) (sk := 1) (md := 1) (ls1 := [(2, 1), (0, ((k9 : Nat) : Int)), (9, 0)]) (r1 := []) rfl rfl rfl rfl rfl (K_learnSh4 (by omega) k9 (by omega) l l2 hl hl2 hl6 n hn9 w0 hI0 hn0 h120) ?_
    rintro r3 w3 _ ⟨rfl, hL⟩
    obtain ⟨⟨x3, rfl⟩, h13, wT, hTA, hTF, hCS⟩ := hL.fin2 (by unfold SHOWP; omega) e6 e7 (by decide)
    have hTB : TKB w l l2 n wT := TKA.b (fun j => (qup_nk (by decide)).trans (h90 j)) ((qup_nk (by decide)).trans (hn0.trans hn.symm)) hn hTA
    show qG none (d + 1) 169 21 [(2, 1), (0, ((k9 : Nat) : Int)), (0, (-1))] [(0, x3)] w3 142 Q9
    refine qG.blk 4 (pc' := 46) (ls' := [(2, 1), (0, ((k9 : Nat) : Int)), (0, x3)]) (st' := [(2, w3 1 3)]) (w' := w3) (n' := 142) rfl ?_
    rw [show w3 1 3 = 8 from h13.trans (zref hI0 rfl rfl)]
    refine qG.blk 1 (pc' := 47) (ls' := [(2, 1), (0, ((k9 : Nat) : Int)), (0, x3)]) (st' := [(0, 0), (2, 8)]) (w' := w3) (n' := 142) rfl ?_
    refine qG.call (t := 131) (na := 2) (sk := 1) (md := 1) (ls1 := [(2, 8), (0, 0)]) (r1 := []) rfl rfl rfl rfl rfl (K_cut0 (Nat.zero_le _) w3) ?_
    rintro _ w4 _ ⟨⟨x4, rfl⟩, hw4, rfl⟩
    show qG none (d + 1) 169 50 [(2, 1), (0, ((k9 : Nat) : Int)), (0, x3)] [(0, x4)] w4 142 Q9
    refine qG.blk 2 (pc' := 52) (ls' := [(2, 1), (0, ((k9 : Nat) : Int)), (0, x3)]) (st' := [(0, x3)]) (w' := w4) (n' := 142) rfl ?_
    refine qG.ret rfl rfl ?_
    subst hQ9
    first | exact .inl ⟨hk0, hk4, rfl, by rcases hw4 with e | e <;> rw [e] <;> first | exact e6 | exact (qup_j (by decide)).trans e6, by rcases hw4 with e | e <;> rw [e] <;> first | exact e7 | exact (qup_j (by decide)).trans e7, (NSH.e8 hw8).tr (NSH.e8 (cut_e hw4))⟩ | exact .inr (.inl ⟨hk0, l, l2, wT, hl, hl2, hTB, hTF.o hw4, k9, 4, rfl, by omega, by unfold SHOWP; omega, h12, (hCS.o (by unfold SHOWP; omega) (cut_e hw4)).b hw8⟩) | exact .inr (.inr ⟨hk4, l3, l4, wT, hl3, hl4, hTB, hTF.o hw4, hNS.tr (NSH.e8 (cut_e hw4))⟩)
theorem K_X11_textY79 {d : Nat} (hd : 30 ≤ d) (k : Int) (l l2 : List Int) (hl : qtxb 3 = some l) (hl2 : qtxb 4 = some l2) (hl6 : l.length ≤ 600) (l3 l4 : List Int) (hl3 : qtxb 1 = some l3) (hl4 : qtxb 2 = some l4) (hl36 : l3.length ≤ 600) (n : Nat) (hn9 : n ≤ 600) (w : qW) (hI : yInv zgf zga zra zSp w) (hn : w 8 1 = (n : Int)) (h12 : w 1 2 = 79) : qG none d 169 0 [(2, 1), (0, k), (9, 0)] [] w 142 (fun (r : qV) (w1 : qW) (_ : Nat) => TEY k w n r w1) := by
  generalize hQ9 : (fun (r : qV) (w1 : qW) (_ : Nat) => TEY k w n r w1) = Q9
  obtain ⟨d, rfl⟩ : ∃ d9, d = d9 + 1 := ⟨d - 1, by omega⟩
  refine qG.blk 2 (pc' := 4) (ls' := [(2, 1), (0, k), (9, 0)]) (st' := [(2, w 1 3)]) (w' := w) (n' := 142) rfl ?_
  rw [show w 1 3 = 8 from zref hI rfl rfl]
  refine qG.call (t := 132) (na := 1) (sk := 1) (md := 1) (ls1 := [(2, 8)]) (r1 := []) rfl rfl rfl rfl rfl (K_forget (Nat.zero_le _) w) ?_
  rintro _ w7 _ ⟨rfl, hw7, rfl⟩
  obtain ⟨w0, hw0⟩ : ∃ q : qW, q = qup (qup w 8 6 0) 8 7 (-1) := ⟨_, rfl⟩
  rw [← hw0] at hw7
  rw [hw7]
  have hI0 : yInv zgf zga zra zSp w0 := by rw [hw0]; exact zup_f (zup_f hI (b := (0, 3)) rfl rfl rfl ⟨by decide, by decide⟩) (b := (-2147483648, 2147483647)) rfl rfl rfl ⟨by decide, by decide⟩
  have e6 : w0 8 6 = 0 := by rw [hw0, qup_j (by decide), qup_k]
  have e7 : w0 8 7 = -1 := by rw [hw0, qup_k]
  have hn0 : w0 8 1 = (n : Int) := by rw [hw0, qup_j (by decide), qup_j (by decide)]; exact hn
  have h120 : w0 1 2 = 79 := by rw [hw0, qup_ne (by decide), qup_ne (by decide)]; exact h12
  have h90 : ∀ j, w0 9 j = w 9 j := fun j => by rw [hw0, qup_ne (by decide), qup_ne (by decide)]
  have hw8 : ∀ q j, q ≠ 8 → w0 q j = w q j := fun q j h => by rw [hw0, qup_nk h, qup_nk h]
  show qG none (d + 1) 169 7 [(2, 1), (0, k), (9, 0)] [] w0 142 Q9
  refine qG.blk 3 (pc' := 10) (ls' := [(2, 1), (0, k), (0, (-1))]) (st' := [(0, k)]) (w' := w0) (n' := 142) rfl ?_
  refine qG.call (t := 199) (na := 1) (sk := 0) (md := 0) (ls1 := [(0, k)]) (r1 := []) rfl rfl rfl rfl rfl (K_X11_isShow (Nat.zero_le _) _ _) ?_
  rintro _ w7 _ ⟨rfl, hw7, rfl⟩
  rw [hw7]
  show qG none (d + 1) 169 13 [(2, 1), (0, k), (0, (-1))] [(0, isInV k 0 3)] w0 142 Q9
  refine qG.br (P := isInV k 0 3 = 0) (pc1 := 25) (pc2 := 16) (st1 := []) rfl (fun hk0 => ?_) (fun hk0 => ?_)
  · skip
    refine qG.blk 2 (pc' := 27) (ls' := [(2, 1), (0, k), (0, (-1))]) (st' := [(0, 4), (0, k)]) (w' := w0) (n' := 142) rfl ?_
    refine qG.br (P := k = 4) (pc1 := 30) (pc2 := 42) (st1 := []) rfl (fun hk4 => ?_) (fun hk4 => ?_)
    · skip
      refine qG.blk 2 (pc' := 34) (ls' := [(2, 1), (0, k), (0, (-1))]) (st' := [(2, w0 1 4)]) (w' := w0) (n' := 142) rfl ?_
      rw [show w0 1 4 = 12 from zref hI0 rfl rfl]
      refine qG.blk 2 (pc' := 38) (ls' := [(2, 1), (0, k), (0, (-1))]) (st' := [(2, w0 1 3), (2, 12)]) (w' := w0) (n' := 142) rfl ?_
      rw [show w0 1 3 = 8 from zref hI0 rfl rfl]
      refine qG.call (t := 75) (na := 2) (sk := 1) (md := 1) (ls1 := [(2, 12), (2, 8), (9, 0)]) (r1 := []) rfl rfl rfl rfl rfl (qG.and (K_pLearn (by omega) l3 l4 hl3 hl4 hl36 n hn9 w0 hI0 hn0) (AW.use (c := C_learnP.2) (as := [(2, 12), (2, 8)]) (m := C_learnP.2.2.2.2.1) T_learnP (AW.rf hI0) (show 23 ≤ d by omega) ⟨⟨rfl, by decide, by decide⟩, ⟨rfl, by decide, by decide⟩, trivial⟩ rfl rfl (by decide +kernel))) ?_
      rintro r3 w3 _ ⟨⟨rfl, wT, hTA, hTE⟩, x9, -, -, -, hAP, -, -⟩
      have hNS : NSH w w3 := (NSH.e8 hw8).tr (NSH.lp hAP)
      obtain ⟨⟨x3, rfl⟩, h13, hTF⟩ := hTE.fin ((hTA.o (by decide) (by decide) (by decide)).trans e6) ((hTA.o (by decide) (by decide) (by decide)).trans e7)
      have h13 : w3 1 3 = w0 1 3 := h13.trans (hTA.o (by decide) (by decide) (by decide))
      have hTB : TKB w l3 l4 n wT := TKA.b h90 (hn0.trans hn.symm) hn hTA
      show qG none (d + 1) 169 41 [(2, 1), (0, k), (0, (-1))] [(0, x3)] w3 142 Q9
      refine qG.blk 3 (pc' := 46) (ls' := [(2, 1), (0, k), (0, x3)]) (st' := [(2, w3 1 3)]) (w' := w3) (n' := 142) rfl ?_
      rw [show w3 1 3 = 8 from h13.trans (zref hI0 rfl rfl)]
      refine qG.blk 1 (pc' := 47) (ls' := [(2, 1), (0, k), (0, x3)]) (st' := [(0, 0), (2, 8)]) (w' := w3) (n' := 142) rfl ?_
      refine qG.call (t := 131) (na := 2) (sk := 1) (md := 1) (ls1 := [(2, 8), (0, 0)]) (r1 := []) rfl rfl rfl rfl rfl (K_cut0 (Nat.zero_le _) w3) ?_
      rintro _ w4 _ ⟨⟨x4, rfl⟩, hw4, rfl⟩
      show qG none (d + 1) 169 50 [(2, 1), (0, k), (0, x3)] [(0, x4)] w4 142 Q9
      refine qG.blk 2 (pc' := 52) (ls' := [(2, 1), (0, k), (0, x3)]) (st' := [(0, x3)]) (w' := w4) (n' := 142) rfl ?_
      refine qG.ret rfl rfl ?_
      subst hQ9
      first | exact .inl ⟨hk0, hk4, rfl, by rcases hw4 with e | e <;> rw [e] <;> first | exact e6 | exact (qup_j (by decide)).trans e6, by rcases hw4 with e | e <;> rw [e] <;> first | exact e7 | exact (qup_j (by decide)).trans e7, (NSH.e8 hw8).tr (NSH.e8 (cut_e hw4))⟩ | exact .inr (.inl ⟨hk0, l, l2, wT, hl, hl2, hTB, hTF.o hw4, k9, 79, rfl, by omega, by unfold SHOWP; omega, h12, (hCS.o (by unfold SHOWP; omega) (cut_e hw4)).b hw8⟩) | exact .inr (.inr ⟨hk4, l3, l4, wT, hl3, hl4, hTB, hTF.o hw4, hNS.tr (NSH.e8 (cut_e hw4))⟩)
    · skip
      refine qG.blk 2 (pc' := 46) (ls' := [(2, 1), (0, k), (0, (-1))]) (st' := [(2, w0 1 3)]) (w' := w0) (n' := 142) rfl ?_
      rw [show w0 1 3 = 8 from zref hI0 rfl rfl]
      refine qG.blk 1 (pc' := 47) (ls' := [(2, 1), (0, k), (0, (-1))]) (st' := [(0, 0), (2, 8)]) (w' := w0) (n' := 142) rfl ?_
      refine qG.call (t := 131) (na := 2) (sk := 1) (md := 1) (ls1 := [(2, 8), (0, 0)]) (r1 := []) rfl rfl rfl rfl rfl (K_cut0 (Nat.zero_le _) w0) ?_
      rintro _ w4 _ ⟨⟨x4, rfl⟩, hw4, rfl⟩
      show qG none (d + 1) 169 50 [(2, 1), (0, k), (0, (-1))] [(0, x4)] w4 142 Q9
      refine qG.blk 2 (pc' := 52) (ls' := [(2, 1), (0, k), (0, (-1))]) (st' := [(0, (-1))]) (w' := w4) (n' := 142) rfl ?_
      refine qG.ret rfl rfl ?_
      subst hQ9
      first | exact .inl ⟨hk0, hk4, rfl, by rcases hw4 with e | e <;> rw [e] <;> first | exact e6 | exact (qup_j (by decide)).trans e6, by rcases hw4 with e | e <;> rw [e] <;> first | exact e7 | exact (qup_j (by decide)).trans e7, (NSH.e8 hw8).tr (NSH.e8 (cut_e hw4))⟩ | exact .inr (.inl ⟨hk0, l, l2, wT, hl, hl2, hTB, hTF.o hw4, k9, 79, rfl, by omega, by unfold SHOWP; omega, h12, (hCS.o (by unfold SHOWP; omega) (cut_e hw4)).b hw8⟩) | exact .inr (.inr ⟨hk4, l3, l4, wT, hl3, hl4, hTB, hTF.o hw4, hNS.tr (NSH.e8 (cut_e hw4))⟩)
  · skip
    obtain ⟨k9, rfl, hk1, hk2⟩ := isIn_n (by decide) hk0
    refine qG.blk 2 (pc' := 18) (ls' := [(2, 1), (0, ((k9 : Nat) : Int)), (0, (-1))]) (st' := [(0, ((k9 : Nat) : Int)), (2, 1)]) (w' := w0) (n' := 142) rfl ?_
    refine qG.call (t := 202) (na := 2) (sk := 1) (md := 1) (ls1 := [(2, 1), (0, ((k9 : Nat) : Int)), (9, 0)]) (r1 := []) rfl rfl rfl rfl rfl (K_learnSh79 (by omega) k9 (by omega) l l2 hl hl2 hl6 n hn9 w0 hI0 hn0 h120) ?_
    rintro r3 w3 _ ⟨rfl, hL⟩
    obtain ⟨⟨x3, rfl⟩, h13, wT, hTA, hTF, hCS⟩ := hL.fin2 (by unfold SHOWP; omega) e6 e7 (by decide)
    have hTB : TKB w l l2 n wT := TKA.b (fun j => (qup_nk (by decide)).trans (h90 j)) ((qup_nk (by decide)).trans (hn0.trans hn.symm)) hn hTA
    show qG none (d + 1) 169 21 [(2, 1), (0, ((k9 : Nat) : Int)), (0, (-1))] [(0, x3)] w3 142 Q9
    refine qG.blk 4 (pc' := 46) (ls' := [(2, 1), (0, ((k9 : Nat) : Int)), (0, x3)]) (st' := [(2, w3 1 3)]) (w' := w3) (n' := 142) rfl ?_
    rw [show w3 1 3 = 8 from h13.trans (zref hI0 rfl rfl)]
    refine qG.blk 1 (pc' := 47) (ls' := [(2, 1), (0, ((k9 : Nat) : Int)), (0, x3)]) (st' := [(0, 0), (2, 8)]) (w' := w3) (n' := 142) rfl ?_
    refine qG.call (t := 131) (na := 2) (sk := 1) (md := 1) (ls1 := [(2, 8), (0, 0)]) (r1 := []) rfl rfl rfl rfl rfl (K_cut0 (Nat.zero_le _) w3) ?_
    rintro _ w4 _ ⟨⟨x4, rfl⟩, hw4, rfl⟩
    show qG none (d + 1) 169 50 [(2, 1), (0, ((k9 : Nat) : Int)), (0, x3)] [(0, x4)] w4 142 Q9
    refine qG.blk 2 (pc' := 52) (ls' := [(2, 1), (0, ((k9 : Nat) : Int)), (0, x3)]) (st' := [(0, x3)]) (w' := w4) (n' := 142) rfl ?_
    refine qG.ret rfl rfl ?_
    subst hQ9
    first | exact .inl ⟨hk0, hk4, rfl, by rcases hw4 with e | e <;> rw [e] <;> first | exact e6 | exact (qup_j (by decide)).trans e6, by rcases hw4 with e | e <;> rw [e] <;> first | exact e7 | exact (qup_j (by decide)).trans e7, (NSH.e8 hw8).tr (NSH.e8 (cut_e hw4))⟩ | exact .inr (.inl ⟨hk0, l, l2, wT, hl, hl2, hTB, hTF.o hw4, k9, 79, rfl, by omega, by unfold SHOWP; omega, h12, (hCS.o (by unfold SHOWP; omega) (cut_e hw4)).b hw8⟩) | exact .inr (.inr ⟨hk4, l3, l4, wT, hl3, hl4, hTB, hTF.o hw4, hNS.tr (NSH.e8 (cut_e hw4))⟩)
theorem K_X11_textY83 {d : Nat} (hd : 30 ≤ d) (k : Int) (l l2 : List Int) (hl : qtxb 3 = some l) (hl2 : qtxb 4 = some l2) (hl6 : l.length ≤ 600) (l3 l4 : List Int) (hl3 : qtxb 1 = some l3) (hl4 : qtxb 2 = some l4) (hl36 : l3.length ≤ 600) (n : Nat) (hn9 : n ≤ 600) (w : qW) (hI : yInv zgf zga zra zSp w) (hn : w 8 1 = (n : Int)) (h12 : w 1 2 = 83) : qG none d 169 0 [(2, 1), (0, k), (9, 0)] [] w 142 (fun (r : qV) (w1 : qW) (_ : Nat) => TEY k w n r w1) := by
  generalize hQ9 : (fun (r : qV) (w1 : qW) (_ : Nat) => TEY k w n r w1) = Q9
  obtain ⟨d, rfl⟩ : ∃ d9, d = d9 + 1 := ⟨d - 1, by omega⟩
  refine qG.blk 2 (pc' := 4) (ls' := [(2, 1), (0, k), (9, 0)]) (st' := [(2, w 1 3)]) (w' := w) (n' := 142) rfl ?_
  rw [show w 1 3 = 8 from zref hI rfl rfl]
  refine qG.call (t := 132) (na := 1) (sk := 1) (md := 1) (ls1 := [(2, 8)]) (r1 := []) rfl rfl rfl rfl rfl (K_forget (Nat.zero_le _) w) ?_
  rintro _ w7 _ ⟨rfl, hw7, rfl⟩
  obtain ⟨w0, hw0⟩ : ∃ q : qW, q = qup (qup w 8 6 0) 8 7 (-1) := ⟨_, rfl⟩
  rw [← hw0] at hw7
  rw [hw7]
  have hI0 : yInv zgf zga zra zSp w0 := by rw [hw0]; exact zup_f (zup_f hI (b := (0, 3)) rfl rfl rfl ⟨by decide, by decide⟩) (b := (-2147483648, 2147483647)) rfl rfl rfl ⟨by decide, by decide⟩
  have e6 : w0 8 6 = 0 := by rw [hw0, qup_j (by decide), qup_k]
  have e7 : w0 8 7 = -1 := by rw [hw0, qup_k]
  have hn0 : w0 8 1 = (n : Int) := by rw [hw0, qup_j (by decide), qup_j (by decide)]; exact hn
  have h120 : w0 1 2 = 83 := by rw [hw0, qup_ne (by decide), qup_ne (by decide)]; exact h12
  have h90 : ∀ j, w0 9 j = w 9 j := fun j => by rw [hw0, qup_ne (by decide), qup_ne (by decide)]
  have hw8 : ∀ q j, q ≠ 8 → w0 q j = w q j := fun q j h => by rw [hw0, qup_nk h, qup_nk h]
  show qG none (d + 1) 169 7 [(2, 1), (0, k), (9, 0)] [] w0 142 Q9
  refine qG.blk 3 (pc' := 10) (ls' := [(2, 1), (0, k), (0, (-1))]) (st' := [(0, k)]) (w' := w0) (n' := 142) rfl ?_
  refine qG.call (t := 199) (na := 1) (sk := 0) (md := 0) (ls1 := [(0, k)]) (r1 := []) rfl rfl rfl rfl rfl (K_X11_isShow (Nat.zero_le _) _ _) ?_
  rintro _ w7 _ ⟨rfl, hw7, rfl⟩
  rw [hw7]
  show qG none (d + 1) 169 13 [(2, 1), (0, k), (0, (-1))] [(0, isInV k 0 3)] w0 142 Q9
  refine qG.br (P := isInV k 0 3 = 0) (pc1 := 25) (pc2 := 16) (st1 := []) rfl (fun hk0 => ?_) (fun hk0 => ?_)
  · skip
    refine qG.blk 2 (pc' := 27) (ls' := [(2, 1), (0, k), (0, (-1))]) (st' := [(0, 4), (0, k)]) (w' := w0) (n' := 142) rfl ?_
    refine qG.br (P := k = 4) (pc1 := 30) (pc2 := 42) (st1 := []) rfl (fun hk4 => ?_) (fun hk4 => ?_)
    · skip
      refine qG.blk 2 (pc' := 34) (ls' := [(2, 1), (0, k), (0, (-1))]) (st' := [(2, w0 1 4)]) (w' := w0) (n' := 142) rfl ?_
      rw [show w0 1 4 = 12 from zref hI0 rfl rfl]
      refine qG.blk 2 (pc' := 38) (ls' := [(2, 1), (0, k), (0, (-1))]) (st' := [(2, w0 1 3), (2, 12)]) (w' := w0) (n' := 142) rfl ?_
      rw [show w0 1 3 = 8 from zref hI0 rfl rfl]
      refine qG.call (t := 75) (na := 2) (sk := 1) (md := 1) (ls1 := [(2, 12), (2, 8), (9, 0)]) (r1 := []) rfl rfl rfl rfl rfl (qG.and (K_pLearn (by omega) l3 l4 hl3 hl4 hl36 n hn9 w0 hI0 hn0) (AW.use (c := C_learnP.2) (as := [(2, 12), (2, 8)]) (m := C_learnP.2.2.2.2.1) T_learnP (AW.rf hI0) (show 23 ≤ d by omega) ⟨⟨rfl, by decide, by decide⟩, ⟨rfl, by decide, by decide⟩, trivial⟩ rfl rfl (by decide +kernel))) ?_
      rintro r3 w3 _ ⟨⟨rfl, wT, hTA, hTE⟩, x9, -, -, -, hAP, -, -⟩
      have hNS : NSH w w3 := (NSH.e8 hw8).tr (NSH.lp hAP)
      obtain ⟨⟨x3, rfl⟩, h13, hTF⟩ := hTE.fin ((hTA.o (by decide) (by decide) (by decide)).trans e6) ((hTA.o (by decide) (by decide) (by decide)).trans e7)
      have h13 : w3 1 3 = w0 1 3 := h13.trans (hTA.o (by decide) (by decide) (by decide))
      have hTB : TKB w l3 l4 n wT := TKA.b h90 (hn0.trans hn.symm) hn hTA
      show qG none (d + 1) 169 41 [(2, 1), (0, k), (0, (-1))] [(0, x3)] w3 142 Q9
      refine qG.blk 3 (pc' := 46) (ls' := [(2, 1), (0, k), (0, x3)]) (st' := [(2, w3 1 3)]) (w' := w3) (n' := 142) rfl ?_
      rw [show w3 1 3 = 8 from h13.trans (zref hI0 rfl rfl)]
      refine qG.blk 1 (pc' := 47) (ls' := [(2, 1), (0, k), (0, x3)]) (st' := [(0, 0), (2, 8)]) (w' := w3) (n' := 142) rfl ?_
      refine qG.call (t := 131) (na := 2) (sk := 1) (md := 1) (ls1 := [(2, 8), (0, 0)]) (r1 := []) rfl rfl rfl rfl rfl (K_cut0 (Nat.zero_le _) w3) ?_
      rintro _ w4 _ ⟨⟨x4, rfl⟩, hw4, rfl⟩
      show qG none (d + 1) 169 50 [(2, 1), (0, k), (0, x3)] [(0, x4)] w4 142 Q9
      refine qG.blk 2 (pc' := 52) (ls' := [(2, 1), (0, k), (0, x3)]) (st' := [(0, x3)]) (w' := w4) (n' := 142) rfl ?_
      refine qG.ret rfl rfl ?_
      subst hQ9
      first | exact .inl ⟨hk0, hk4, rfl, by rcases hw4 with e | e <;> rw [e] <;> first | exact e6 | exact (qup_j (by decide)).trans e6, by rcases hw4 with e | e <;> rw [e] <;> first | exact e7 | exact (qup_j (by decide)).trans e7, (NSH.e8 hw8).tr (NSH.e8 (cut_e hw4))⟩ | exact .inr (.inl ⟨hk0, l, l2, wT, hl, hl2, hTB, hTF.o hw4, k9, 83, rfl, by omega, by unfold SHOWP; omega, h12, (hCS.o (by unfold SHOWP; omega) (cut_e hw4)).b hw8⟩) | exact .inr (.inr ⟨hk4, l3, l4, wT, hl3, hl4, hTB, hTF.o hw4, hNS.tr (NSH.e8 (cut_e hw4))⟩)
    · skip
      refine qG.blk 2 (pc' := 46) (ls' := [(2, 1), (0, k), (0, (-1))]) (st' := [(2, w0 1 3)]) (w' := w0) (n' := 142) rfl ?_
      rw [show w0 1 3 = 8 from zref hI0 rfl rfl]
      refine qG.blk 1 (pc' := 47) (ls' := [(2, 1), (0, k), (0, (-1))]) (st' := [(0, 0), (2, 8)]) (w' := w0) (n' := 142) rfl ?_
      refine qG.call (t := 131) (na := 2) (sk := 1) (md := 1) (ls1 := [(2, 8), (0, 0)]) (r1 := []) rfl rfl rfl rfl rfl (K_cut0 (Nat.zero_le _) w0) ?_
      rintro _ w4 _ ⟨⟨x4, rfl⟩, hw4, rfl⟩
      show qG none (d + 1) 169 50 [(2, 1), (0, k), (0, (-1))] [(0, x4)] w4 142 Q9
      refine qG.blk 2 (pc' := 52) (ls' := [(2, 1), (0, k), (0, (-1))]) (st' := [(0, (-1))]) (w' := w4) (n' := 142) rfl ?_
      refine qG.ret rfl rfl ?_
      subst hQ9
      first | exact .inl ⟨hk0, hk4, rfl, by rcases hw4 with e | e <;> rw [e] <;> first | exact e6 | exact (qup_j (by decide)).trans e6, by rcases hw4 with e | e <;> rw [e] <;> first | exact e7 | exact (qup_j (by decide)).trans e7, (NSH.e8 hw8).tr (NSH.e8 (cut_e hw4))⟩ | exact .inr (.inl ⟨hk0, l, l2, wT, hl, hl2, hTB, hTF.o hw4, k9, 83, rfl, by omega, by unfold SHOWP; omega, h12, (hCS.o (by unfold SHOWP; omega) (cut_e hw4)).b hw8⟩) | exact .inr (.inr ⟨hk4, l3, l4, wT, hl3, hl4, hTB, hTF.o hw4, hNS.tr (NSH.e8 (cut_e hw4))⟩)
  · skip
    obtain ⟨k9, rfl, hk1, hk2⟩ := isIn_n (by decide) hk0
    refine qG.blk 2 (pc' := 18) (ls' := [(2, 1), (0, ((k9 : Nat) : Int)), (0, (-1))]) (st' := [(0, ((k9 : Nat) : Int)), (2, 1)]) (w' := w0) (n' := 142) rfl ?_
    refine qG.call (t := 202) (na := 2) (sk := 1) (md := 1) (ls1 := [(2, 1), (0, ((k9 : Nat) : Int)), (9, 0)]) (r1 := []) rfl rfl rfl rfl rfl (K_learnSh83 (by omega) k9 (by omega) l l2 hl hl2 hl6 n hn9 w0 hI0 hn0 h120) ?_
    rintro r3 w3 _ ⟨rfl, hL⟩
    obtain ⟨⟨x3, rfl⟩, h13, wT, hTA, hTF, hCS⟩ := hL.fin2 (by unfold SHOWP; omega) e6 e7 (by decide)
    have hTB : TKB w l l2 n wT := TKA.b (fun j => (qup_nk (by decide)).trans (h90 j)) ((qup_nk (by decide)).trans (hn0.trans hn.symm)) hn hTA
    show qG none (d + 1) 169 21 [(2, 1), (0, ((k9 : Nat) : Int)), (0, (-1))] [(0, x3)] w3 142 Q9
    refine qG.blk 4 (pc' := 46) (ls' := [(2, 1), (0, ((k9 : Nat) : Int)), (0, x3)]) (st' := [(2, w3 1 3)]) (w' := w3) (n' := 142) rfl ?_
    rw [show w3 1 3 = 8 from h13.trans (zref hI0 rfl rfl)]
    refine qG.blk 1 (pc' := 47) (ls' := [(2, 1), (0, ((k9 : Nat) : Int)), (0, x3)]) (st' := [(0, 0), (2, 8)]) (w' := w3) (n' := 142) rfl ?_
    refine qG.call (t := 131) (na := 2) (sk := 1) (md := 1) (ls1 := [(2, 8), (0, 0)]) (r1 := []) rfl rfl rfl rfl rfl (K_cut0 (Nat.zero_le _) w3) ?_
    rintro _ w4 _ ⟨⟨x4, rfl⟩, hw4, rfl⟩
    show qG none (d + 1) 169 50 [(2, 1), (0, ((k9 : Nat) : Int)), (0, x3)] [(0, x4)] w4 142 Q9
    refine qG.blk 2 (pc' := 52) (ls' := [(2, 1), (0, ((k9 : Nat) : Int)), (0, x3)]) (st' := [(0, x3)]) (w' := w4) (n' := 142) rfl ?_
    refine qG.ret rfl rfl ?_
    subst hQ9
    first | exact .inl ⟨hk0, hk4, rfl, by rcases hw4 with e | e <;> rw [e] <;> first | exact e6 | exact (qup_j (by decide)).trans e6, by rcases hw4 with e | e <;> rw [e] <;> first | exact e7 | exact (qup_j (by decide)).trans e7, (NSH.e8 hw8).tr (NSH.e8 (cut_e hw4))⟩ | exact .inr (.inl ⟨hk0, l, l2, wT, hl, hl2, hTB, hTF.o hw4, k9, 83, rfl, by omega, by unfold SHOWP; omega, h12, (hCS.o (by unfold SHOWP; omega) (cut_e hw4)).b hw8⟩) | exact .inr (.inr ⟨hk4, l3, l4, wT, hl3, hl4, hTB, hTF.o hw4, hNS.tr (NSH.e8 (cut_e hw4))⟩)
theorem K_X11_textY87 {d : Nat} (hd : 30 ≤ d) (k : Int) (l l2 : List Int) (hl : qtxb 3 = some l) (hl2 : qtxb 4 = some l2) (hl6 : l.length ≤ 600) (l3 l4 : List Int) (hl3 : qtxb 1 = some l3) (hl4 : qtxb 2 = some l4) (hl36 : l3.length ≤ 600) (n : Nat) (hn9 : n ≤ 600) (w : qW) (hI : yInv zgf zga zra zSp w) (hn : w 8 1 = (n : Int)) (h12 : w 1 2 = 87) : qG none d 169 0 [(2, 1), (0, k), (9, 0)] [] w 142 (fun (r : qV) (w1 : qW) (_ : Nat) => TEY k w n r w1) := by
  generalize hQ9 : (fun (r : qV) (w1 : qW) (_ : Nat) => TEY k w n r w1) = Q9
  obtain ⟨d, rfl⟩ : ∃ d9, d = d9 + 1 := ⟨d - 1, by omega⟩
  refine qG.blk 2 (pc' := 4) (ls' := [(2, 1), (0, k), (9, 0)]) (st' := [(2, w 1 3)]) (w' := w) (n' := 142) rfl ?_
  rw [show w 1 3 = 8 from zref hI rfl rfl]
  refine qG.call (t := 132) (na := 1) (sk := 1) (md := 1) (ls1 := [(2, 8)]) (r1 := []) rfl rfl rfl rfl rfl (K_forget (Nat.zero_le _) w) ?_
  rintro _ w7 _ ⟨rfl, hw7, rfl⟩
  obtain ⟨w0, hw0⟩ : ∃ q : qW, q = qup (qup w 8 6 0) 8 7 (-1) := ⟨_, rfl⟩
  rw [← hw0] at hw7
  rw [hw7]
  have hI0 : yInv zgf zga zra zSp w0 := by rw [hw0]; exact zup_f (zup_f hI (b := (0, 3)) rfl rfl rfl ⟨by decide, by decide⟩) (b := (-2147483648, 2147483647)) rfl rfl rfl ⟨by decide, by decide⟩
  have e6 : w0 8 6 = 0 := by rw [hw0, qup_j (by decide), qup_k]
  have e7 : w0 8 7 = -1 := by rw [hw0, qup_k]
  have hn0 : w0 8 1 = (n : Int) := by rw [hw0, qup_j (by decide), qup_j (by decide)]; exact hn
  have h120 : w0 1 2 = 87 := by rw [hw0, qup_ne (by decide), qup_ne (by decide)]; exact h12
  have h90 : ∀ j, w0 9 j = w 9 j := fun j => by rw [hw0, qup_ne (by decide), qup_ne (by decide)]
  have hw8 : ∀ q j, q ≠ 8 → w0 q j = w q j := fun q j h => by rw [hw0, qup_nk h, qup_nk h]
  show qG none (d + 1) 169 7 [(2, 1), (0, k), (9, 0)] [] w0 142 Q9
  refine qG.blk 3 (pc' := 10) (ls' := [(2, 1), (0, k), (0, (-1))]) (st' := [(0, k)]) (w' := w0) (n' := 142) rfl ?_
  refine qG.call (t := 199) (na := 1) (sk := 0) (md := 0) (ls1 := [(0, k)]) (r1 := []) rfl rfl rfl rfl rfl (K_X11_isShow (Nat.zero_le _) _ _) ?_
  rintro _ w7 _ ⟨rfl, hw7, rfl⟩
  rw [hw7]
  show qG none (d + 1) 169 13 [(2, 1), (0, k), (0, (-1))] [(0, isInV k 0 3)] w0 142 Q9
  refine qG.br (P := isInV k 0 3 = 0) (pc1 := 25) (pc2 := 16) (st1 := []) rfl (fun hk0 => ?_) (fun hk0 => ?_)
  · skip
    refine qG.blk 2 (pc' := 27) (ls' := [(2, 1), (0, k), (0, (-1))]) (st' := [(0, 4), (0, k)]) (w' := w0) (n' := 142) rfl ?_
    refine qG.br (P := k = 4) (pc1 := 30) (pc2 := 42) (st1 := []) rfl (fun hk4 => ?_) (fun hk4 => ?_)
    · skip
      refine qG.blk 2 (pc' := 34) (ls' := [(2, 1), (0, k), (0, (-1))]) (st' := [(2, w0 1 4)]) (w' := w0) (n' := 142) rfl ?_
      rw [show w0 1 4 = 12 from zref hI0 rfl rfl]
      refine qG.blk 2 (pc' := 38) (ls' := [(2, 1), (0, k), (0, (-1))]) (st' := [(2, w0 1 3), (2, 12)]) (w' := w0) (n' := 142) rfl ?_
      rw [show w0 1 3 = 8 from zref hI0 rfl rfl]
      refine qG.call (t := 75) (na := 2) (sk := 1) (md := 1) (ls1 := [(2, 12), (2, 8), (9, 0)]) (r1 := []) rfl rfl rfl rfl rfl (qG.and (K_pLearn (by omega) l3 l4 hl3 hl4 hl36 n hn9 w0 hI0 hn0) (AW.use (c := C_learnP.2) (as := [(2, 12), (2, 8)]) (m := C_learnP.2.2.2.2.1) T_learnP (AW.rf hI0) (show 23 ≤ d by omega) ⟨⟨rfl, by decide, by decide⟩, ⟨rfl, by decide, by decide⟩, trivial⟩ rfl rfl (by decide +kernel))) ?_
      rintro r3 w3 _ ⟨⟨rfl, wT, hTA, hTE⟩, x9, -, -, -, hAP, -, -⟩
      have hNS : NSH w w3 := (NSH.e8 hw8).tr (NSH.lp hAP)
      obtain ⟨⟨x3, rfl⟩, h13, hTF⟩ := hTE.fin ((hTA.o (by decide) (by decide) (by decide)).trans e6) ((hTA.o (by decide) (by decide) (by decide)).trans e7)
      have h13 : w3 1 3 = w0 1 3 := h13.trans (hTA.o (by decide) (by decide) (by decide))
      have hTB : TKB w l3 l4 n wT := TKA.b h90 (hn0.trans hn.symm) hn hTA
      show qG none (d + 1) 169 41 [(2, 1), (0, k), (0, (-1))] [(0, x3)] w3 142 Q9
      refine qG.blk 3 (pc' := 46) (ls' := [(2, 1), (0, k), (0, x3)]) (st' := [(2, w3 1 3)]) (w' := w3) (n' := 142) rfl ?_
      rw [show w3 1 3 = 8 from h13.trans (zref hI0 rfl rfl)]
      refine qG.blk 1 (pc' := 47) (ls' := [(2, 1), (0, k), (0, x3)]) (st' := [(0, 0), (2, 8)]) (w' := w3) (n' := 142) rfl ?_
      refine qG.call (t := 131) (na := 2) (sk := 1) (md := 1) (ls1 := [(2, 8), (0, 0)]) (r1 := []) rfl rfl rfl rfl rfl (K_cut0 (Nat.zero_le _) w3) ?_
      rintro _ w4 _ ⟨⟨x4, rfl⟩, hw4, rfl⟩
      show qG none (d + 1) 169 50 [(2, 1), (0, k), (0, x3)] [(0, x4)] w4 142 Q9
      refine qG.blk 2 (pc' := 52) (ls' := [(2, 1), (0, k), (0, x3)]) (st' := [(0, x3)]) (w' := w4) (n' := 142) rfl ?_
      refine qG.ret rfl rfl ?_
      subst hQ9
      first | exact .inl ⟨hk0, hk4, rfl, by rcases hw4 with e | e <;> rw [e] <;> first | exact e6 | exact (qup_j (by decide)).trans e6, by rcases hw4 with e | e <;> rw [e] <;> first | exact e7 | exact (qup_j (by decide)).trans e7, (NSH.e8 hw8).tr (NSH.e8 (cut_e hw4))⟩ | exact .inr (.inl ⟨hk0, l, l2, wT, hl, hl2, hTB, hTF.o hw4, k9, 87, rfl, by omega, by unfold SHOWP; omega, h12, (hCS.o (by unfold SHOWP; omega) (cut_e hw4)).b hw8⟩) | exact .inr (.inr ⟨hk4, l3, l4, wT, hl3, hl4, hTB, hTF.o hw4, hNS.tr (NSH.e8 (cut_e hw4))⟩)
    · skip
      refine qG.blk 2 (pc' := 46) (ls' := [(2, 1), (0, k), (0, (-1))]) (st' := [(2, w0 1 3)]) (w' := w0) (n' := 142) rfl ?_
      rw [show w0 1 3 = 8 from zref hI0 rfl rfl]
      refine qG.blk 1 (pc' := 47) (ls' := [(2, 1), (0, k), (0, (-1))]) (st' := [(0, 0), (2, 8)]) (w' := w0) (n' := 142) rfl ?_
      refine qG.call (t := 131) (na := 2) (sk := 1) (md := 1) (ls1 := [(2, 8), (0, 0)]) (r1 := []) rfl rfl rfl rfl rfl (K_cut0 (Nat.zero_le _) w0) ?_
      rintro _ w4 _ ⟨⟨x4, rfl⟩, hw4, rfl⟩
      show qG none (d + 1) 169 50 [(2, 1), (0, k), (0, (-1))] [(0, x4)] w4 142 Q9
      refine qG.blk 2 (pc' := 52) (ls' := [(2, 1), (0, k), (0, (-1))]) (st' := [(0, (-1))]) (w' := w4) (n' := 142) rfl ?_
      refine qG.ret rfl rfl ?_
      subst hQ9
      first | exact .inl ⟨hk0, hk4, rfl, by rcases hw4 with e | e <;> rw [e] <;> first | exact e6 | exact (qup_j (by decide)).trans e6, by rcases hw4 with e | e <;> rw [e] <;> first | exact e7 | exact (qup_j (by decide)).trans e7, (NSH.e8 hw8).tr (NSH.e8 (cut_e hw4))⟩ | exact .inr (.inl ⟨hk0, l, l2, wT, hl, hl2, hTB, hTF.o hw4, k9, 87, rfl, by omega, by unfold SHOWP; omega, h12, (hCS.o (by unfold SHOWP; omega) (cut_e hw4)).b hw8⟩) | exact .inr (.inr ⟨hk4, l3, l4, wT, hl3, hl4, hTB, hTF.o hw4, hNS.tr (NSH.e8 (cut_e hw4))⟩)
  · skip
    obtain ⟨k9, rfl, hk1, hk2⟩ := isIn_n (by decide) hk0
    refine qG.blk 2 (pc' := 18) (ls' := [(2, 1), (0, ((k9 : Nat) : Int)), (0, (-1))]) (st' := [(0, ((k9 : Nat) : Int)), (2, 1)]) (w' := w0) (n' := 142) rfl ?_
    refine qG.call (t := 202) (na := 2) (sk := 1) (md := 1) (ls1 := [(2, 1), (0, ((k9 : Nat) : Int)), (9, 0)]) (r1 := []) rfl rfl rfl rfl rfl (K_learnSh87 (by omega) k9 (by omega) l l2 hl hl2 hl6 n hn9 w0 hI0 hn0 h120) ?_
    rintro r3 w3 _ ⟨rfl, hL⟩
    obtain ⟨⟨x3, rfl⟩, h13, wT, hTA, hTF, hCS⟩ := hL.fin2 (by unfold SHOWP; omega) e6 e7 (by decide)
    have hTB : TKB w l l2 n wT := TKA.b (fun j => (qup_nk (by decide)).trans (h90 j)) ((qup_nk (by decide)).trans (hn0.trans hn.symm)) hn hTA
    show qG none (d + 1) 169 21 [(2, 1), (0, ((k9 : Nat) : Int)), (0, (-1))] [(0, x3)] w3 142 Q9
    refine qG.blk 4 (pc' := 46) (ls' := [(2, 1), (0, ((k9 : Nat) : Int)), (0, x3)]) (st' := [(2, w3 1 3)]) (w' := w3) (n' := 142) rfl ?_
    rw [show w3 1 3 = 8 from h13.trans (zref hI0 rfl rfl)]
    refine qG.blk 1 (pc' := 47) (ls' := [(2, 1), (0, ((k9 : Nat) : Int)), (0, x3)]) (st' := [(0, 0), (2, 8)]) (w' := w3) (n' := 142) rfl ?_
    refine qG.call (t := 131) (na := 2) (sk := 1) (md := 1) (ls1 := [(2, 8), (0, 0)]) (r1 := []) rfl rfl rfl rfl rfl (K_cut0 (Nat.zero_le _) w3) ?_
    rintro _ w4 _ ⟨⟨x4, rfl⟩, hw4, rfl⟩
    show qG none (d + 1) 169 50 [(2, 1), (0, ((k9 : Nat) : Int)), (0, x3)] [(0, x4)] w4 142 Q9
    refine qG.blk 2 (pc' := 52) (ls' := [(2, 1), (0, ((k9 : Nat) : Int)), (0, x3)]) (st' := [(0, x3)]) (w' := w4) (n' := 142) rfl ?_
    refine qG.ret rfl rfl ?_
    subst hQ9
    first | exact .inl ⟨hk0, hk4, rfl, by rcases hw4 with e | e <;> rw [e] <;> first | exact e6 | exact (qup_j (by decide)).trans e6, by rcases hw4 with e | e <;> rw [e] <;> first | exact e7 | exact (qup_j (by decide)).trans e7, (NSH.e8 hw8).tr (NSH.e8 (cut_e hw4))⟩ | exact .inr (.inl ⟨hk0, l, l2, wT, hl, hl2, hTB, hTF.o hw4, k9, 87, rfl, by omega, by unfold SHOWP; omega, h12, (hCS.o (by unfold SHOWP; omega) (cut_e hw4)).b hw8⟩) | exact .inr (.inr ⟨hk4, l3, l4, wT, hl3, hl4, hTB, hTF.o hw4, hNS.tr (NSH.e8 (cut_e hw4))⟩)
theorem K_X11_textY91 {d : Nat} (hd : 30 ≤ d) (k : Int) (l l2 : List Int) (hl : qtxb 3 = some l) (hl2 : qtxb 4 = some l2) (hl6 : l.length ≤ 600) (l3 l4 : List Int) (hl3 : qtxb 1 = some l3) (hl4 : qtxb 2 = some l4) (hl36 : l3.length ≤ 600) (n : Nat) (hn9 : n ≤ 600) (w : qW) (hI : yInv zgf zga zra zSp w) (hn : w 8 1 = (n : Int)) (h12 : w 1 2 = 91) : qG none d 169 0 [(2, 1), (0, k), (9, 0)] [] w 142 (fun (r : qV) (w1 : qW) (_ : Nat) => TEY k w n r w1) := by
  generalize hQ9 : (fun (r : qV) (w1 : qW) (_ : Nat) => TEY k w n r w1) = Q9
  obtain ⟨d, rfl⟩ : ∃ d9, d = d9 + 1 := ⟨d - 1, by omega⟩
  refine qG.blk 2 (pc' := 4) (ls' := [(2, 1), (0, k), (9, 0)]) (st' := [(2, w 1 3)]) (w' := w) (n' := 142) rfl ?_
  rw [show w 1 3 = 8 from zref hI rfl rfl]
  refine qG.call (t := 132) (na := 1) (sk := 1) (md := 1) (ls1 := [(2, 8)]) (r1 := []) rfl rfl rfl rfl rfl (K_forget (Nat.zero_le _) w) ?_
  rintro _ w7 _ ⟨rfl, hw7, rfl⟩
  obtain ⟨w0, hw0⟩ : ∃ q : qW, q = qup (qup w 8 6 0) 8 7 (-1) := ⟨_, rfl⟩
  rw [← hw0] at hw7
  rw [hw7]
  have hI0 : yInv zgf zga zra zSp w0 := by rw [hw0]; exact zup_f (zup_f hI (b := (0, 3)) rfl rfl rfl ⟨by decide, by decide⟩) (b := (-2147483648, 2147483647)) rfl rfl rfl ⟨by decide, by decide⟩
  have e6 : w0 8 6 = 0 := by rw [hw0, qup_j (by decide), qup_k]
  have e7 : w0 8 7 = -1 := by rw [hw0, qup_k]
  have hn0 : w0 8 1 = (n : Int) := by rw [hw0, qup_j (by decide), qup_j (by decide)]; exact hn
  have h120 : w0 1 2 = 91 := by rw [hw0, qup_ne (by decide), qup_ne (by decide)]; exact h12
  have h90 : ∀ j, w0 9 j = w 9 j := fun j => by rw [hw0, qup_ne (by decide), qup_ne (by decide)]
  have hw8 : ∀ q j, q ≠ 8 → w0 q j = w q j := fun q j h => by rw [hw0, qup_nk h, qup_nk h]
  show qG none (d + 1) 169 7 [(2, 1), (0, k), (9, 0)] [] w0 142 Q9
  refine qG.blk 3 (pc' := 10) (ls' := [(2, 1), (0, k), (0, (-1))]) (st' := [(0, k)]) (w' := w0) (n' := 142) rfl ?_
  refine qG.call (t := 199) (na := 1) (sk := 0) (md := 0) (ls1 := [(0, k)]) (r1 := []) rfl rfl rfl rfl rfl (K_X11_isShow (Nat.zero_le _) _ _) ?_
  rintro _ w7 _ ⟨rfl, hw7, rfl⟩
  rw [hw7]
  show qG none (d + 1) 169 13 [(2, 1), (0, k), (0, (-1))] [(0, isInV k 0 3)] w0 142 Q9
  refine qG.br (P := isInV k 0 3 = 0) (pc1 := 25) (pc2 := 16) (st1 := []) rfl (fun hk0 => ?_) (fun hk0 => ?_)
  · skip
    refine qG.blk 2 (pc' := 27) (ls' := [(2, 1), (0, k), (0, (-1))]) (st' := [(0, 4), (0, k)]) (w' := w0) (n' := 142) rfl ?_
    refine qG.br (P := k = 4) (pc1 := 30) (pc2 := 42) (st1 := []) rfl (fun hk4 => ?_) (fun hk4 => ?_)
    · skip
      refine qG.blk 2 (pc' := 34) (ls' := [(2, 1), (0, k), (0, (-1))]) (st' := [(2, w0 1 4)]) (w' := w0) (n' := 142) rfl ?_
      rw [show w0 1 4 = 12 from zref hI0 rfl rfl]
      refine qG.blk 2 (pc' := 38) (ls' := [(2, 1), (0, k), (0, (-1))]) (st' := [(2, w0 1 3), (2, 12)]) (w' := w0) (n' := 142) rfl ?_
      rw [show w0 1 3 = 8 from zref hI0 rfl rfl]
      refine qG.call (t := 75) (na := 2) (sk := 1) (md := 1) (ls1 := [(2, 12), (2, 8), (9, 0)]) (r1 := []) rfl rfl rfl rfl rfl (qG.and (K_pLearn (by omega) l3 l4 hl3 hl4 hl36 n hn9 w0 hI0 hn0) (AW.use (c := C_learnP.2) (as := [(2, 12), (2, 8)]) (m := C_learnP.2.2.2.2.1) T_learnP (AW.rf hI0) (show 23 ≤ d by omega) ⟨⟨rfl, by decide, by decide⟩, ⟨rfl, by decide, by decide⟩, trivial⟩ rfl rfl (by decide +kernel))) ?_
      rintro r3 w3 _ ⟨⟨rfl, wT, hTA, hTE⟩, x9, -, -, -, hAP, -, -⟩
      have hNS : NSH w w3 := (NSH.e8 hw8).tr (NSH.lp hAP)
      obtain ⟨⟨x3, rfl⟩, h13, hTF⟩ := hTE.fin ((hTA.o (by decide) (by decide) (by decide)).trans e6) ((hTA.o (by decide) (by decide) (by decide)).trans e7)
      have h13 : w3 1 3 = w0 1 3 := h13.trans (hTA.o (by decide) (by decide) (by decide))
      have hTB : TKB w l3 l4 n wT := TKA.b h90 (hn0.trans hn.symm) hn hTA
      show qG none (d + 1) 169 41 [(2, 1), (0, k), (0, (-1))] [(0, x3)] w3 142 Q9
      refine qG.blk 3 (pc' := 46) (ls' := [(2, 1), (0, k), (0, x3)]) (st' := [(2, w3 1 3)]) (w' := w3) (n' := 142) rfl ?_
      rw [show w3 1 3 = 8 from h13.trans (zref hI0 rfl rfl)]
      refine qG.blk 1 (pc' := 47) (ls' := [(2, 1), (0, k), (0, x3)]) (st' := [(0, 0), (2, 8)]) (w' := w3) (n' := 142) rfl ?_
      refine qG.call (t := 131) (na := 2) (sk := 1) (md := 1) (ls1 := [(2, 8), (0, 0)]) (r1 := []) rfl rfl rfl rfl rfl (K_cut0 (Nat.zero_le _) w3) ?_
      rintro _ w4 _ ⟨⟨x4, rfl⟩, hw4, rfl⟩
      show qG none (d + 1) 169 50 [(2, 1), (0, k), (0, x3)] [(0, x4)] w4 142 Q9
      refine qG.blk 2 (pc' := 52) (ls' := [(2, 1), (0, k), (0, x3)]) (st' := [(0, x3)]) (w' := w4) (n' := 142) rfl ?_
      refine qG.ret rfl rfl ?_
      subst hQ9
      first | exact .inl ⟨hk0, hk4, rfl, by rcases hw4 with e | e <;> rw [e] <;> first | exact e6 | exact (qup_j (by decide)).trans e6, by rcases hw4 with e | e <;> rw [e] <;> first | exact e7 | exact (qup_j (by decide)).trans e7, (NSH.e8 hw8).tr (NSH.e8 (cut_e hw4))⟩ | exact .inr (.inl ⟨hk0, l, l2, wT, hl, hl2, hTB, hTF.o hw4, k9, 91, rfl, by omega, by unfold SHOWP; omega, h12, (hCS.o (by unfold SHOWP; omega) (cut_e hw4)).b hw8⟩) | exact .inr (.inr ⟨hk4, l3, l4, wT, hl3, hl4, hTB, hTF.o hw4, hNS.tr (NSH.e8 (cut_e hw4))⟩)
    · skip
      refine qG.blk 2 (pc' := 46) (ls' := [(2, 1), (0, k), (0, (-1))]) (st' := [(2, w0 1 3)]) (w' := w0) (n' := 142) rfl ?_
      rw [show w0 1 3 = 8 from zref hI0 rfl rfl]
      refine qG.blk 1 (pc' := 47) (ls' := [(2, 1), (0, k), (0, (-1))]) (st' := [(0, 0), (2, 8)]) (w' := w0) (n' := 142) rfl ?_
      refine qG.call (t := 131) (na := 2) (sk := 1) (md := 1) (ls1 := [(2, 8), (0, 0)]) (r1 := []) rfl rfl rfl rfl rfl (K_cut0 (Nat.zero_le _) w0) ?_
      rintro _ w4 _ ⟨⟨x4, rfl⟩, hw4, rfl⟩
      show qG none (d + 1) 169 50 [(2, 1), (0, k), (0, (-1))] [(0, x4)] w4 142 Q9
      refine qG.blk 2 (pc' := 52) (ls' := [(2, 1), (0, k), (0, (-1))]) (st' := [(0, (-1))]) (w' := w4) (n' := 142) rfl ?_
      refine qG.ret rfl rfl ?_
      subst hQ9
      first | exact .inl ⟨hk0, hk4, rfl, by rcases hw4 with e | e <;> rw [e] <;> first | exact e6 | exact (qup_j (by decide)).trans e6, by rcases hw4 with e | e <;> rw [e] <;> first | exact e7 | exact (qup_j (by decide)).trans e7, (NSH.e8 hw8).tr (NSH.e8 (cut_e hw4))⟩ | exact .inr (.inl ⟨hk0, l, l2, wT, hl, hl2, hTB, hTF.o hw4, k9, 91, rfl, by omega, by unfold SHOWP; omega, h12, (hCS.o (by unfold SHOWP; omega) (cut_e hw4)).b hw8⟩) | exact .inr (.inr ⟨hk4, l3, l4, wT, hl3, hl4, hTB, hTF.o hw4, hNS.tr (NSH.e8 (cut_e hw4))⟩)
  · skip
    obtain ⟨k9, rfl, hk1, hk2⟩ := isIn_n (by decide) hk0
    refine qG.blk 2 (pc' := 18) (ls' := [(2, 1), (0, ((k9 : Nat) : Int)), (0, (-1))]) (st' := [(0, ((k9 : Nat) : Int)), (2, 1)]) (w' := w0) (n' := 142) rfl ?_
    refine qG.call (t := 202) (na := 2) (sk := 1) (md := 1) (ls1 := [(2, 1), (0, ((k9 : Nat) : Int)), (9, 0)]) (r1 := []) rfl rfl rfl rfl rfl (K_learnSh91 (by omega) k9 (by omega) l l2 hl hl2 hl6 n hn9 w0 hI0 hn0 h120) ?_
    rintro r3 w3 _ ⟨rfl, hL⟩
    obtain ⟨⟨x3, rfl⟩, h13, wT, hTA, hTF, hCS⟩ := hL.fin2 (by unfold SHOWP; omega) e6 e7 (by decide)
    have hTB : TKB w l l2 n wT := TKA.b (fun j => (qup_nk (by decide)).trans (h90 j)) ((qup_nk (by decide)).trans (hn0.trans hn.symm)) hn hTA
    show qG none (d + 1) 169 21 [(2, 1), (0, ((k9 : Nat) : Int)), (0, (-1))] [(0, x3)] w3 142 Q9
    refine qG.blk 4 (pc' := 46) (ls' := [(2, 1), (0, ((k9 : Nat) : Int)), (0, x3)]) (st' := [(2, w3 1 3)]) (w' := w3) (n' := 142) rfl ?_
    rw [show w3 1 3 = 8 from h13.trans (zref hI0 rfl rfl)]
    refine qG.blk 1 (pc' := 47) (ls' := [(2, 1), (0, ((k9 : Nat) : Int)), (0, x3)]) (st' := [(0, 0), (2, 8)]) (w' := w3) (n' := 142) rfl ?_
    refine qG.call (t := 131) (na := 2) (sk := 1) (md := 1) (ls1 := [(2, 8), (0, 0)]) (r1 := []) rfl rfl rfl rfl rfl (K_cut0 (Nat.zero_le _) w3) ?_
    rintro _ w4 _ ⟨⟨x4, rfl⟩, hw4, rfl⟩
    show qG none (d + 1) 169 50 [(2, 1), (0, ((k9 : Nat) : Int)), (0, x3)] [(0, x4)] w4 142 Q9
    refine qG.blk 2 (pc' := 52) (ls' := [(2, 1), (0, ((k9 : Nat) : Int)), (0, x3)]) (st' := [(0, x3)]) (w' := w4) (n' := 142) rfl ?_
    refine qG.ret rfl rfl ?_
    subst hQ9
    first | exact .inl ⟨hk0, hk4, rfl, by rcases hw4 with e | e <;> rw [e] <;> first | exact e6 | exact (qup_j (by decide)).trans e6, by rcases hw4 with e | e <;> rw [e] <;> first | exact e7 | exact (qup_j (by decide)).trans e7, (NSH.e8 hw8).tr (NSH.e8 (cut_e hw4))⟩ | exact .inr (.inl ⟨hk0, l, l2, wT, hl, hl2, hTB, hTF.o hw4, k9, 91, rfl, by omega, by unfold SHOWP; omega, h12, (hCS.o (by unfold SHOWP; omega) (cut_e hw4)).b hw8⟩) | exact .inr (.inr ⟨hk4, l3, l4, wT, hl3, hl4, hTB, hTF.o hw4, hNS.tr (NSH.e8 (cut_e hw4))⟩)
theorem K_X11_textAY {d : Nat} (hd : 30 ≤ d) (k : Int) (n : Nat) (hn9 : n ≤ 600) (w : qW) (hI : yInv zgf zga zra zSp w) (hn : w 8 1 = (n : Int)) : qG none d 169 0 (qini 169 [(2, 1), (0, k)]) [] w 142 (fun (r : qV) (w1 : qW) (_ : Nat) => TEY k w n r w1) := by
  obtain ⟨l, hl, hl6⟩ : ∃ l, qtxb 3 = some l ∧ l.length ≤ 600 := ⟨_, rfl, by decide⟩
  obtain ⟨l2, hl2⟩ : ∃ l, qtxb 4 = some l := ⟨_, rfl⟩
  obtain ⟨l3, hl3, hl36⟩ : ∃ l, qtxb 1 = some l ∧ l.length ≤ 600 := ⟨_, rfl, by decide⟩
  obtain ⟨l4, hl4⟩ : ∃ l, qtxb 2 = some l := ⟨_, rfl⟩
  have hm : w 1 2 ∈ ([4, 79, 83, 87, 91] : List Int) := hI.2.2.1 1 2 (by decide) rfl
  rcases List.mem_cons.mp hm with h | hm
  · exact K_X11_textY4 hd k l l2 hl hl2 hl6 l3 l4 hl3 hl4 hl36 n hn9 w hI hn h
  rcases List.mem_cons.mp hm with h | hm
  · exact K_X11_textY79 hd k l l2 hl hl2 hl6 l3 l4 hl3 hl4 hl36 n hn9 w hI hn h
  rcases List.mem_cons.mp hm with h | hm
  · exact K_X11_textY83 hd k l l2 hl hl2 hl6 l3 l4 hl3 hl4 hl36 n hn9 w hI hn h
  rcases List.mem_cons.mp hm with h | hm
  · exact K_X11_textY87 hd k l l2 hl hl2 hl6 l3 l4 hl3 hl4 hl36 n hn9 w hI hn h
  · exact K_X11_textY91 hd k l l2 hl hl2 hl6 l3 l4 hl3 hl4 hl36 n hn9 w hI hn (List.mem_singleton.mp hm)
/-- the show k told on both sides, p on the class's -/
noncomputable def shE (w : qW) (p k : Nat) : Prop := ∃ L : Nat, L ≤ 40 ∧ w p 2 = (L : Int) ∧ w 106 k = (L : Int) ∧ KN (w (p + 1)) (w (p + 2)) (fun i => w 104 (40 * k + i)) (fun i => w 105 (40 * k + i)) L ∧ KNr (w (p + 1)) (w (p + 2)) L ∧ KNw (w (p + 1)) (w (p + 2)) L
noncomputable def JR (w : qW) : Prop := ∃ f : Nat → Nat, (∀ k, k < 5 → SHOWP (f k)) ∧ (∀ i j, i < 5 → j < 5 → f i = f j → i = j) ∧ (∀ k, k < 4 → w 3 k = (f k : Int)) ∧ w 1 2 = (f 4 : Int) ∧ ∀ k, k < 4 → shE w (f k) k
theorem shE.cg {w w1 : qW} {p k : Nat} (h : shE w p k) (h2 : w1 p 2 = w p 2) (hr : ∀ j, w1 (p + 1) j = w (p + 1) j ∧ w1 (p + 2) j = w (p + 2) j) (h6 : w1 106 k = w 106 k) (h4 : ∀ j, j < 40 → w1 104 (40 * k + j) = w 104 (40 * k + j) ∧ w1 105 (40 * k + j) = w 105 (40 * k + j)) : shE w1 p k := by
  obtain ⟨L, a1, a2, a3, a4, a5, a6⟩ := h
  have e1 : w1 (p + 1) = w (p + 1) := funext fun j => (hr j).1
  have e2 : w1 (p + 2) = w (p + 2) := funext fun j => (hr j).2
  refine ⟨L, a1, h2.trans a2, h6.trans a3, fun i hi => ?_, ?_, ?_⟩
  · have q := a4 i hi
    have z := h4 i (by omega)
    rw [e1, e2]
    show w (p + 1) i = w1 104 (40 * k + i) ∧ (_ → w (p + 2) i = w1 105 (40 * k + i))
    rw [z.1, z.2]
    exact q
  · rw [e1, e2]; exact a5
  · rw [e1, e2]; exact a6
theorem JR.same {w w1 : qW} (h : JR w) (hN : NSH w w1) (hR : RwM w w1) : JR w1 := by
  obtain ⟨f, a1, a2, a3, a4, a5⟩ := h
  refine ⟨f, a1, a2, fun k hk => (hN.1 k).trans (a3 k hk), hN.2.1.trans a4, fun k hk => ?_⟩
  have q := hN.2.2 (f k) (a1 k (by omega))
  exact (a5 k hk).cg q.1 q.2 (hR k).2.2 (fun j _ => ⟨(hR _).1, (hR _).2.1⟩)
noncomputable def nsR : List Nat := [3, 5, 6, 80, 81, 84, 85, 88, 89, 92, 93]
noncomputable def nshM (m : List Nat) : Bool := nsR.all (fun p => m.all (fun e => !Nat.beq (e % 1000) p)) && (!ymo 1 2 m && [4, 79, 83, 87, 91].all (fun p => !ymo p 2 m))
noncomputable def rsmM (m : List Nat) : Bool := [104, 105, 106].all (fun p => m.all (fun e => !Nat.beq (e % 1000) p))
noncomputable def jrM (m : List Nat) : Bool := nshM m && rsmM m
theorem nsR_lt : ∀ p ∈ nsR, p < 1000 := by decide
theorem NSH.aw {m : List Nat} {w w1 : qW} (a : AW m w w1) (hm : nshM m = true) : NSH w w1 := by
  unfold nshM at hm
  simp only [Bool.and_eq_true, Bool.not_eq_true'] at hm
  obtain ⟨m1, m2, m3⟩ := hm
  have r : ∀ p, p ∈ nsR → ∀ j, w1 p j = w p j := fun p hp j => a.a (nsR_lt p hp) (List.all_eq_true.mp m1 p hp) j
  have s : ∀ p, SHOWP p → w1 p 2 = w p 2 := fun p hp => a.2 p 2 (fun _ => by
    have q := List.all_eq_true.mp m3 p (by unfold SHOWP at hp; rcases hp with rfl | rfl | rfl | rfl | rfl <;> decide)
    rwa [Bool.not_eq_true'] at q)
  refine ⟨fun q => r 3 (by decide) q, a.2 1 2 (fun _ => m2), fun p hp => ⟨s p hp, fun j => ?_⟩⟩
  unfold SHOWP at hp
  rcases hp with rfl | rfl | rfl | rfl | rfl
  · exact ⟨r 5 (by decide) j, r 6 (by decide) j⟩
  · exact ⟨r 80 (by decide) j, r 81 (by decide) j⟩
  · exact ⟨r 84 (by decide) j, r 85 (by decide) j⟩
  · exact ⟨r 88 (by decide) j, r 89 (by decide) j⟩
  · exact ⟨r 92 (by decide) j, r 93 (by decide) j⟩
theorem RwM.aw {m : List Nat} {w w1 : qW} (a : AW m w w1) (hm : rsmM m = true) : RwM w w1 := fun q => ⟨a.a (by decide) (List.all_eq_true.mp hm 104 (by decide)) q, a.a (by decide) (List.all_eq_true.mp hm 105 (by decide)) q, a.a (by decide) (List.all_eq_true.mp hm 106 (by decide)) q⟩
theorem jrM_ns {m : List Nat} {w w1 : qW} (a : AW m w w1) (hm : jrM m = true) : NSH w w1 ∧ RwM w w1 := by
  unfold jrM at hm
  rw [Bool.and_eq_true] at hm
  exact ⟨NSH.aw a hm.1, RwM.aw a hm.2⟩
theorem JR.aw {m : List Nat} {w w1 : qW} (h : JR w) (a : AW m w w1) (hm : jrM m = true) : JR w1 := h.same (jrM_ns a hm).1 (jrM_ns a hm).2
theorem sNum_ok {C : Nat → Int} {a b : Int} {i : Nat} (h : (sNum C a b i).1 = 0) : 0 ≤ C i ∧ C i < 10000 ∧ a ≤ C i ∧ C i ≤ b := by
  unfold sNum at h
  split at h
  · exact absurd (show (1 : Int) = 0 from h) (by decide)
  · split at h
    · exact absurd (show (2 : Int) = 0 from h) (by decide)
    · omega
/-- a step that can stand -/
theorem sStep_n {C : Nat → Int} {c i : Nat} (h : (sStep C c i).1 = 0) : (10000 ≤ C i ∧ C i < 20000) ∧ (C i = 10002 → 1 ≤ C (i + 1) ∧ C (i + 1) ≤ 20) ∧ (C i = 10000 ∨ C i = 10001 ∨ C i = 10003 → 0 ≤ C (i + 1) ∧ C (i + 1) ≤ 9) := by
  have hw := sStep_w (C := C) (c := c) (i := i) (j := (sStep C c i).2) (Prod.ext h rfl)
  by_cases hc : 40 ≤ c
  · rw [stp_3 hw hc] at h; exact absurd (show (3 : Int) = 0 from h) (by decide)
  rw [step_3 hw hc] at h
  have hk := bnd_f h
  refine ⟨hw, fun e => ?_, fun e => ?_⟩
  · rw [kd_w e] at hk
    have := sNum_ok hk; omega
  · rw [kd_d (by omega) e] at hk
    have := sNum_ok hk; omega
/-- a text of a show, told to both -/
theorem JR.text {w w1 w2 : qW} {k p : Nat} {C : Nat → Int} (h : JR w) (hk : k < 4) (hp : SHOWP p) (h12 : w 1 2 = (p : Int)) (hX : CSX k p C w w1) (hRe : RwM w w1) (hR : RWX C k w1 w2) (hN : NSH w1 w2) (hI : yInv zgf zga zra zSp w2) : JR w2 := by
  obtain ⟨f, a1, a2, a3, a4, a5⟩ := h
  have ep : f 4 = p := by rw [a4] at h12; omega
  rcases hX with ⟨c, j, b1, b2, b3, b4, b5, b6, b7, b8⟩ | ⟨s, c, j, b1, b2, b3, b4, b5⟩
  · rcases hR with ⟨c', j', c1, c2, c3, c4, c5, c6⟩ | ⟨s', c', j', c1, c2, -⟩
    · rw [b1] at c1
      obtain ⟨-, rfl, rfl⟩ : (0 : Int) = 0 ∧ c = c' ∧ j = j' := by cases c1; exact ⟨rfl, rfl, rfl⟩
      refine ⟨fun i => if i = k then f 4 else if i = 4 then f k else f i, fun i hi => ?_, fun i i2 hi hi2 e => ?_, fun i hi => ?_, ?_, fun i hi => ?_⟩
      · show SHOWP (if _ then _ else _)
        split
        · exact a1 4 (by omega)
        · split
          · exact a1 k (by omega)
          · exact a1 i hi
      · have e : (if i = k then f 4 else if i = 4 then f k else f i) = (if i2 = k then f 4 else if i2 = 4 then f k else f i2) := e
        have inj := a2
        split at e <;> (try split at e) <;> (try split at e) <;> (try split at e) <;> (have z := inj _ _ (by omega) (by omega) e; omega)
      · show w2 3 i = (((if i = k then f 4 else if i = 4 then f k else f i) : Nat) : Int)
        rw [hN.1 i]
        by_cases e : i = k
        · rw [if_pos e, e, b5, ep]
        · rw [if_neg e, if_neg (by omega), b7 i e]; exact a3 i hi
      · show w2 1 2 = (((if 4 = k then f 4 else if 4 = 4 then f k else f 4) : Nat) : Int)
        rw [if_neg (by omega), if_pos rfl, hN.2.1, b6]; exact a3 k hk
      · show shE w2 (if i = k then f 4 else if i = 4 then f k else f i) i
        by_cases e : i = k
        · rw [if_pos e, e, ep]
          have n9 := hN.2.2 p hp
          have hkk : ∀ t, t < c → w2 (p + 1) t = w2 104 (40 * k + t) := fun t ht => by rw [(n9.2 t).1, (b4 t ht).2.1, (c5 t ht).1]
          refine ⟨c, b2, n9.1.trans b3, c3, fun t ht => ⟨hkk t ht, fun z => ?_⟩, fun t ht => ?_, fun t ht z => ?_⟩
          · have q := sStep_n (b4 t ht).1
            rw [(n9.2 t).1, (b4 t ht).2.1] at z
            show w2 (p + 2) t = w2 105 (40 * k + t)
            rw [(n9.2 t).2, (b4 t ht).2.2]
            refine ((c5 t ht).2 ?_ ?_).symm <;> (have q2 := q.2.1; have q3 := q.2.2; omega)
          · have q := sStep_n (b4 t ht).1
            have z := hI.2.1 104 (40 * k + t) (0, 5) rfl rfl
            have z1 : (0 : Int) ≤ w2 104 (40 * k + t) := z.1
            have z2 : w2 104 (40 * k + t) ≤ (5 : Int) := z.2
            refine ⟨by rw [hkk t ht]; exact ⟨z1, z2⟩, fun y => ?_⟩
            rw [(n9.2 t).1, (b4 t ht).2.1] at y
            rw [(n9.2 t).2, (b4 t ht).2.2]
            have q3 := q.2.2; omega
          · have q := sStep_n (b4 t ht).1
            rw [(n9.2 t).1, (b4 t ht).2.1] at z
            rw [(n9.2 t).2, (b4 t ht).2.2]
            have q3 := q.2.1; omega
        · rw [if_neg e, if_neg (by omega)]
          have hnp : f i ≠ p := fun z => by have := a2 i 4 (by omega) (by omega) (z.trans ep.symm); omega
          have n9 := hN.2.2 (f i) (a1 i (by omega))
          have g9 := b8 (f i) (a1 i (by omega)) hnp
          refine (a5 i hi).cg (n9.1.trans g9.1) (fun j => ⟨(n9.2 j).1.trans (g9.2 j).1, (n9.2 j).2.trans (g9.2 j).2⟩) ((c4 i e).trans (hRe i).2.2) (fun j hj => ?_)
          have z := c6 (40 * i + j) (by omega)
          exact ⟨z.1.trans (hRe _).1, z.2.trans (hRe _).2.1⟩
    · rw [b1] at c1
      have : (0 : Int) = s' := congrArg Prod.fst c1
      omega
  · rcases hR with ⟨c', j', c1, -⟩ | ⟨s', c', j', c1, c2, c3⟩
    · rw [b1] at c1
      have : s = (0 : Int) := congrArg Prod.fst c1
      omega
    · refine ⟨f, a1, a2, fun i hi => (hN.1 i).trans ((b3 i).trans (a3 i hi)), hN.2.1.trans (b4.trans a4), fun i hi => ?_⟩
      have hnp : f i ≠ p := fun z => by have := a2 i 4 (by omega) (by omega) (z.trans ep.symm); omega
      have n9 := hN.2.2 (f i) (a1 i (by omega))
      have g9 := b5 (f i) (a1 i (by omega)) hnp
      exact (a5 i hi).cg (n9.1.trans g9.1) (fun j => ⟨(n9.2 j).1.trans (g9.2 j).1, (n9.2 j).2.trans (g9.2 j).2⟩) ((c3 i).2.2.trans (hRe i).2.2) (fun j _ => ⟨(c3 _).1.trans (hRe _).1, (c3 _).2.1.trans (hRe _).2.1⟩)
/-- what the reference's text does behind the class's -/
theorem TEY.ref {d : Nat} (hd : 42 ≤ d) {k : Int} {w w1 : qW} {n : Nat} {r : qV} (hI : yInv zgf zga zra zSp w) (hI1 : yInv zgf zga zra zSp w1) (hJ : JM w) (hJR : JR w) (hn9 : n ≤ 600) (hn : w 8 1 = (n : Int)) (h25 : w1 95 25 = w 95 25) (h114 : ∀ j, w1 114 j = w 114 j) (hRe : RwM w w1) (h : TEY k w n r w1) : qG none d 245 0 [(2, 95), (0, k), (9, 0)] [] w1 142 (fun (r2 : qV) (w2 : qW) (_ : Nat) => r2 = r ∧ w2 95 32 = w1 8 6 ∧ w2 95 34 = w1 8 7 ∧ (yInv zgf zga zra zSp w2 → NSH w1 w2 → JR w2)) := by
  have hpos : ∀ j, 0 ≤ w1 114 j := fun j => (hI1.2.1 114 j _ rfl rfl).1
  rcases h with ⟨a, b, c, e6, e7, hN⟩ | ⟨a, l, l2, wT, hl, hl2, hB, hF, k9, p, hk9, hk4, hp, h12, hX⟩ | ⟨a, l, l2, wT, hl, hl2, hB, hF, hN⟩
  · have hk : k < 0 ∨ 4 < k := by unfold isInV at a; (repeat' split at a) <;> omega
    refine qG.mono (K_textXY hd k hk w1 hI1) ?_
    rintro r2 w2 _ ⟨h1, h2, h3, h4⟩
    exact ⟨h1.trans c.symm, h2.trans e6.symm, h3.trans e7.symm, fun _ hN2 => (hJR.same hN hRe).same hN2 h4⟩
  · obtain ⟨t, E, hT⟩ := hB.s hI hJ hn hn9 hl hl2
    subst hk9
    refine qG.mono (K_textSY hd k9 hk4 w1 hI1 hpos (hT.cg h25 h114)) ?_
    rintro r2 w2 _ ⟨h2, hRW⟩
    obtain ⟨x1, x2, x3⟩ := hF.eq h2
    exact ⟨x1, x2, x3, fun hI2 hN2 => hJR.text hk4 hp h12 hX hRe hRW hN2 hI2⟩
  · subst a
    obtain ⟨t, E, hT⟩ := hB.p hI hJ hn hn9 hl hl2
    refine qG.mono (K_textPY hd w1 hI1 hpos (hT.cg h25 h114)) ?_
    rintro r2 w2 _ ⟨h2, h4⟩
    obtain ⟨x1, x2, x3⟩ := hF.eq h2
    exact ⟨x1, x2, x3, fun _ hN2 => (hJR.same hN hRe).same hN2 h4⟩
