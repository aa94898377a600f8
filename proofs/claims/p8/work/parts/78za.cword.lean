/-! the class's words, exactly -/
noncomputable abbrev EW (l : List Int) (i : Nat) : Prop := i = l.length ∨ l.getD i 0 = 32
noncomputable def wkF (l : List Int) : Nat → Nat
  | 0 => 0
  | i + 1 => if EW l i then wkF l i + 1 else wkF l i
noncomputable def wsF (l : List Int) : Nat → Nat
  | 0 => 0
  | i + 1 => if EW l i then i + 1 else wsF l i
theorem wk_y {l : List Int} {i : Nat} (h : EW l i) : wkF l (i + 1) = wkF l i + 1 := if_pos h
theorem wk_n {l : List Int} {i : Nat} (h : ¬ EW l i) : wkF l (i + 1) = wkF l i := if_neg h
theorem ws_y {l : List Int} {i : Nat} (h : EW l i) : wsF l (i + 1) = i + 1 := if_pos h
theorem ws_n {l : List Int} {i : Nat} (h : ¬ EW l i) : wsF l (i + 1) = wsF l i := if_neg h
theorem cok_s {x a i st : Int} (hx : 0 < x) : qcok 143 5 1 1 142 [(0, a), (0, i), (0, st), (3, x), (2, 8)] = true := by
  have h : decide (0 < x) = true := decide_eq_true hx
  show (true && true && ((true && ((false || (true && decide (0 < x))) && (true && (true && (true && true))))) && true) && true && true) = true
  rw [h]; rfl
/-- the word of the text that ends at i is the tape's from a to b -/
noncomputable def WM (w : qW) (l : List Int) (a b i : Nat) : Prop := EW l i ∧ i - wsF l i = b - a ∧ ∀ j, j < i - wsF l i → l.getD (wsF l i + j) 0 = w 9 (a + j)
theorem K_cSame {d : Nat} (hd : 4 ≤ d) (x : Int) (l : List Int) (hl : qtxb x = some l) (s e p : Nat) (hse : s ≤ e) (hel : e ≤ l.length) (n : Nat) (hn9 : n ≤ 600) (w : qW) (hI : yInv zgf zga zra zSp w) (hn : w 8 1 = (n : Int)) (hpn : p + (e - s) ≤ n) : qG none d 143 0 [(2, 8), (3, x), (0, ((s : Nat) : Int)), (0, ((e : Nat) : Int)), (0, ((p : Nat) : Int)), (9, 0), (9, 0)] [] w 142 (fun (r : qV) (w1 : qW) (n1 : Nat) => n1 = 142 ∧ w1 = w ∧ ((r = (0, 1) ∧ ∀ i, i < e - s → l.getD (s + i) 0 = w 9 (p + i)) ∨ (r = (0, 0) ∧ ∃ i, i < e - s ∧ ¬ l.getD (s + i) 0 = w 9 (p + i)))) := by
  generalize hQ9 : (fun (r : qV) (w1 : qW) (n1 : Nat) => n1 = 142 ∧ w1 = w ∧ ((r = (0, 1) ∧ ∀ i, i < e - s → l.getD (s + i) 0 = w 9 (p + i)) ∨ (r = (0, 0) ∧ ∃ i, i < e - s ∧ ¬ l.getD (s + i) 0 = w 9 (p + i)))) = Q9
  have hlen9 : l.length < 100 := (qtc_in (qtxb_in hl).2).1
  obtain ⟨d, rfl⟩ : ∃ d9, d = d9 + 1 := ⟨d - 1, by omega⟩
  refine qG.blk 2 (pc' := 3) (ls' := [(2, 8), (3, x), (0, ((s : Nat) : Int)), (0, ((e : Nat) : Int)), (0, ((p : Nat) : Int)), (0, ((s : Nat) : Int)), (9, 0)]) (st' := []) (w' := w) (n' := 142) rfl ?_
  have L3 : ∀ (m9 : Nat) (i : Nat) (q6 : qV), e - (s + i) = m9 → (s + i ≤ e ∧ ∀ j, j < i → l.getD (s + j) 0 = w 9 (p + j)) → qG none (d + 1) 143 3 [(2, 8), (3, x), (0, ((s : Nat) : Int)), (0, ((e : Nat) : Int)), (0, ((p : Nat) : Int)), (0, ((s + i : Nat) : Int)), q6] [] w 142 Q9 := by
    intro m9
    induction m9 using Nat.strongRecOn with
    | ind m9 ih3 =>
    intro i q6 hm3 hI3
    refine qG.blk 2 (pc' := 6) (ls' := [(2, 8), (3, x), (0, ((s : Nat) : Int)), (0, ((e : Nat) : Int)), (0, ((p : Nat) : Int)), (0, ((s + i : Nat) : Int)), q6]) (st' := [(0, ((e : Nat) : Int)), (0, ((s + i : Nat) : Int))]) (w' := w) (n' := 142) rfl ?_
    refine qG.br (P := ((s + i : Nat) : Int) < ((e : Nat) : Int)) (pc1 := 9) (pc2 := 65) (st1 := []) rfl (fun h1 => ?_) (fun h1 => ?_)
    · skip
      refine qG.blk 2 (pc' := 12) (ls' := [(2, 8), (3, x), (0, ((s : Nat) : Int)), (0, ((e : Nat) : Int)), (0, ((p : Nat) : Int)), (0, ((s + i : Nat) : Int)), q6]) (st' := [(3, x), (0, ((s + i : Nat) : Int))]) (w' := w) (n' := 142) rfl ?_
      refine qG.tlen hl rfl rfl (by omega) ?_
      show qG none (d + 1) 143 15 [(2, 8), (3, x), (0, ((s : Nat) : Int)), (0, ((e : Nat) : Int)), (0, ((p : Nat) : Int)), (0, ((s + i : Nat) : Int)), q6] [(0, ((l.length : Nat) : Int)), (0, ((s + i : Nat) : Int))] w 142 Q9
      refine qG.br (P := ((s + i : Nat) : Int) < ((l.length : Nat) : Int)) (pc1 := 18) (pc2 := 65) (st1 := []) rfl (fun h2 => ?_) (fun h2 => ?_)
      · skip
        refine qG.blk 3 (pc' := 23) (ls' := [(2, 8), (3, x), (0, ((s : Nat) : Int)), (0, ((e : Nat) : Int)), (0, ((p : Nat) : Int)), (0, ((s + i : Nat) : Int)), q6]) (st' := [(0, wrp (((p : Nat) : Int) + ((s + i : Nat) : Int)))]) (w' := w) (n' := 142) rfl ?_
        rw [show wrp (((p : Nat) : Int) + ((s + i : Nat) : Int)) = ((p + (s + i) : Nat) : Int) from by rw [wrp_id (by omega) (by omega)]; omega]
        refine qG.blk 2 (pc' := 25) (ls' := [(2, 8), (3, x), (0, ((s : Nat) : Int)), (0, ((e : Nat) : Int)), (0, ((p : Nat) : Int)), (0, ((s + i : Nat) : Int)), q6]) (st' := [(0, wrp (((p + (s + i) : Nat) : Int) - ((s : Nat) : Int)))]) (w' := w) (n' := 142) rfl ?_
        rw [show wrp (((p + (s + i) : Nat) : Int) - ((s : Nat) : Int)) = ((p + i : Nat) : Int) from by rw [wrp_id (by omega) (by omega)]; omega]
        refine qG.blk 2 (pc' := 29) (ls' := [(2, 8), (3, x), (0, ((s : Nat) : Int)), (0, ((e : Nat) : Int)), (0, ((p : Nat) : Int)), (0, ((s + i : Nat) : Int)), (0, ((p + i : Nat) : Int))]) (st' := [(0, ((p + i : Nat) : Int))]) (w' := w) (n' := 142) rfl ?_
        refine qG.br (P := ((p + i : Nat) : Int) < 0) (pc1 := 57) (pc2 := 32) (st1 := []) rfl (fun h3 => ?_) (fun h3 => ?_)
        · exfalso; omega
        · skip
          refine qG.blk 3 (pc' := 38) (ls' := [(2, 8), (3, x), (0, ((s : Nat) : Int)), (0, ((e : Nat) : Int)), (0, ((p : Nat) : Int)), (0, ((s + i : Nat) : Int)), (0, ((p + i : Nat) : Int))]) (st' := [(0, w 8 1), (0, ((p + i : Nat) : Int))]) (w' := w) (n' := 142) rfl ?_
          rw [show w 8 1 = ((n : Nat) : Int) from hn]
          refine qG.br (P := ((p + i : Nat) : Int) < ((n : Nat) : Int)) (pc1 := 41) (pc2 := 57) (st1 := []) rfl (fun h4 => ?_) (fun h4 => ?_)
          · skip
            refine qG.blk 2 (pc' := 44) (ls' := [(2, 8), (3, x), (0, ((s : Nat) : Int)), (0, ((e : Nat) : Int)), (0, ((p : Nat) : Int)), (0, ((s + i : Nat) : Int)), (0, ((p + i : Nat) : Int))]) (st' := [(0, ((s + i : Nat) : Int)), (3, x)]) (w' := w) (n' := 142) rfl ?_
            refine qG.tch hl rfl rfl (by omega) (by exact ⟨by omega, by omega⟩) ?_
            show qG none (d + 1) 143 47 [(2, 8), (3, x), (0, ((s : Nat) : Int)), (0, ((e : Nat) : Int)), (0, ((p : Nat) : Int)), (0, ((s + i : Nat) : Int)), (0, ((p + i : Nat) : Int))] [(0, l.getD (s + i) 0)] w 142 Q9
            refine qG.blk 2 (pc' := 51) (ls' := [(2, 8), (3, x), (0, ((s : Nat) : Int)), (0, ((e : Nat) : Int)), (0, ((p : Nat) : Int)), (0, ((s + i : Nat) : Int)), (0, ((p + i : Nat) : Int))]) (st' := [(2, w 8 0), (0, l.getD (s + i) 0)]) (w' := w) (n' := 142) rfl ?_
            rw [show w 8 0 = 9 from zref hI rfl rfl]
            refine qG.blk 1 (pc' := 53) (ls' := [(2, 8), (3, x), (0, ((s : Nat) : Int)), (0, ((e : Nat) : Int)), (0, ((p : Nat) : Int)), (0, ((s + i : Nat) : Int)), (0, ((p + i : Nat) : Int))]) (st' := [(0, ((p + i : Nat) : Int)), (2, 9), (0, l.getD (s + i) 0)]) (w' := w) (n' := 142) rfl ?_
            refine qG.cld (m := 600) rfl rfl (by omega) (by decide) ?_
            show qG none (d + 1) 143 54 [(2, 8), (3, x), (0, ((s : Nat) : Int)), (0, ((e : Nat) : Int)), (0, ((p : Nat) : Int)), (0, ((s + i : Nat) : Int)), (0, ((p + i : Nat) : Int))] [(0, w 9 (p + i)), (0, l.getD (s + i) 0)] w 142 Q9
            refine qG.br (P := l.getD (s + i) 0 = w 9 (p + i)) (pc1 := 59) (pc2 := 57) (st1 := []) rfl (fun hch => ?_) (fun hch => ?_)
            · skip
              refine qG.blk 1 (pc' := 62) (ls' := [(2, 8), (3, x), (0, ((s : Nat) : Int)), (0, ((e : Nat) : Int)), (0, ((p : Nat) : Int)), (0, wrp (((s + i : Nat) : Int) + 1)), (0, ((p + i : Nat) : Int))]) (st' := []) (w' := w) (n' := 142) rfl ?_
              rw [show wrp (((s + i : Nat) : Int) + 1) = ((s + i + 1 : Nat) : Int) from wrp_id (by omega) (by omega)]
              refine qG.blk 1 (pc' := 3) (ls' := [(2, 8), (3, x), (0, ((s : Nat) : Int)), (0, ((e : Nat) : Int)), (0, ((p : Nat) : Int)), (0, ((s + i + 1 : Nat) : Int)), (0, ((p + i : Nat) : Int))]) (st' := []) (w' := w) (n' := 142) rfl ?_
              exact ih3 _ (by omega) (i + 1) ((0, ((p + i : Nat) : Int))) rfl (⟨by omega, fun j hj => if q : j = i then (by rw [q]; exact hch) else hI3.2 j (by omega)⟩)
            · skip
              refine qG.blk 1 (pc' := 58) (ls' := [(2, 8), (3, x), (0, ((s : Nat) : Int)), (0, ((e : Nat) : Int)), (0, ((p : Nat) : Int)), (0, ((s + i : Nat) : Int)), (0, ((p + i : Nat) : Int))]) (st' := [(0, 0)]) (w' := w) (n' := 142) rfl ?_
              refine qG.ret rfl (by first | rfl | exact decide_eq_true (by omega)) ?_
              subst hQ9
              first | exact ⟨rfl, rfl, .inr ⟨rfl, i, by omega, hch⟩⟩ | exact ⟨rfl, rfl, .inl ⟨rfl, fun j hj => hI3.2 j (by omega)⟩⟩
          · exfalso; omega
      · exfalso; omega
    · skip
      refine qG.blk 1 (pc' := 66) (ls' := [(2, 8), (3, x), (0, ((s : Nat) : Int)), (0, ((e : Nat) : Int)), (0, ((p : Nat) : Int)), (0, ((s + i : Nat) : Int)), q6]) (st' := [(0, 1)]) (w' := w) (n' := 142) rfl ?_
      refine qG.ret rfl (by first | rfl | exact decide_eq_true (by omega)) ?_
      subst hQ9
      first | exact ⟨rfl, rfl, .inr ⟨rfl, i, by omega, hch⟩⟩ | exact ⟨rfl, rfl, .inl ⟨rfl, fun j hj => hI3.2 j (by omega)⟩⟩
  exact L3 _ (0) ((9, 0)) rfl (⟨by omega, fun j hj => absurd hj (Nat.not_lt_zero j)⟩)
theorem K_cWord {d : Nat} (hd : 5 ≤ d) (x : Int) (l : List Int) (hl : qtxb x = some l) (a b : Nat) (n : Nat) (hn9 : n ≤ 600) (w : qW) (hI : yInv zgf zga zra zSp w) (hn : w 8 1 = (n : Int)) (hab : a ≤ b) (hbn : b ≤ n) : qG none d 142 0 [(2, 8), (3, x), (0, ((a : Nat) : Int)), (0, ((b : Nat) : Int)), (9, 0), (9, 0), (9, 0)] [] w 142 (fun (r : qV) (w1 : qW) (n1 : Nat) => n1 = 142 ∧ w1 = w ∧ ((∃ i, i ≤ l.length ∧ WM w l a b i ∧ r = (0, 10000 + ((wkF l i : Nat) : Int))) ∨ ((∀ i, i ≤ l.length → ¬ WM w l a b i) ∧ r = (0, -1)))) := by
  generalize hQ9 : (fun (r : qV) (w1 : qW) (n1 : Nat) => n1 = 142 ∧ w1 = w ∧ ((∃ i, i ≤ l.length ∧ WM w l a b i ∧ r = (0, 10000 + ((wkF l i : Nat) : Int))) ∨ ((∀ i, i ≤ l.length → ¬ WM w l a b i) ∧ r = (0, -1)))) = Q9
  have hlen9 : l.length < 100 := (qtc_in (qtxb_in hl).2).1
  obtain ⟨d, rfl⟩ : ∃ d9, d = d9 + 1 := ⟨d - 1, by omega⟩
  refine qG.blk 6 (pc' := 9) (ls' := [(2, 8), (3, x), (0, ((a : Nat) : Int)), (0, ((b : Nat) : Int)), (0, 0), (0, 0), (0, 0)]) (st' := []) (w' := w) (n' := 142) rfl ?_
  have L9 : ∀ (m9 : Nat) (wd st i : Nat), l.length + 1 - i = m9 → (wd = wkF l i ∧ st = wsF l i ∧ st ≤ i ∧ wd ≤ i ∧ i ≤ l.length + 1 ∧ ∀ j, j < i → ¬ WM w l a b j) → qG none (d + 1) 142 9 [(2, 8), (3, x), (0, ((a : Nat) : Int)), (0, ((b : Nat) : Int)), (0, ((wd : Nat) : Int)), (0, ((st : Nat) : Int)), (0, ((i : Nat) : Int))] [] w 142 Q9 := by
    intro m9
    induction m9 using Nat.strongRecOn with
    | ind m9 ih9 =>
    intro wd st i hm9 hI9
    obtain ⟨e4, e5, hst, hwd, hil, hno⟩ := hI9
    refine qG.blk 2 (pc' := 12) (ls' := [(2, 8), (3, x), (0, ((a : Nat) : Int)), (0, ((b : Nat) : Int)), (0, ((wd : Nat) : Int)), (0, ((st : Nat) : Int)), (0, ((i : Nat) : Int))]) (st' := [(3, x), (0, ((i : Nat) : Int))]) (w' := w) (n' := 142) rfl ?_
    refine qG.tlen hl rfl rfl (by omega) ?_
    show qG none (d + 1) 142 15 [(2, 8), (3, x), (0, ((a : Nat) : Int)), (0, ((b : Nat) : Int)), (0, ((wd : Nat) : Int)), (0, ((st : Nat) : Int)), (0, ((i : Nat) : Int))] [(0, ((l.length : Nat) : Int)), (0, ((i : Nat) : Int))] w 142 Q9
    refine qG.br (P := ((l.length : Nat) : Int) < ((i : Nat) : Int)) (pc1 := 84) (pc2 := 18) (st1 := []) rfl (fun hgt => ?_) (fun hgt => ?_)
    · skip
      refine qG.blk 1 (pc' := 85) (ls' := [(2, 8), (3, x), (0, ((a : Nat) : Int)), (0, ((b : Nat) : Int)), (0, ((wd : Nat) : Int)), (0, ((st : Nat) : Int)), (0, ((i : Nat) : Int))]) (st' := [(0, (-1))]) (w' := w) (n' := 142) rfl ?_
      refine qG.ret rfl rfl ?_
      subst hQ9
      first | exact ⟨rfl, rfl, .inl ⟨i, by omega, ⟨.inl (by omega), by omega, fun j hj => by rw [← e5]; exact hz9 j (by omega)⟩, by rw [e4]⟩⟩ | exact ⟨rfl, rfl, .inl ⟨i, by omega, ⟨.inr hbl, by omega, fun j hj => by rw [← e5]; exact hz9 j (by omega)⟩, by rw [e4]⟩⟩ | exact ⟨rfl, rfl, .inr ⟨fun j hj => hno j (by omega), rfl⟩⟩
    · skip
      refine qG.blk 2 (pc' := 21) (ls' := [(2, 8), (3, x), (0, ((a : Nat) : Int)), (0, ((b : Nat) : Int)), (0, ((wd : Nat) : Int)), (0, ((st : Nat) : Int)), (0, ((i : Nat) : Int))]) (st' := [(3, x), (0, ((i : Nat) : Int))]) (w' := w) (n' := 142) rfl ?_
      refine qG.tlen hl rfl rfl (by omega) ?_
      show qG none (d + 1) 142 24 [(2, 8), (3, x), (0, ((a : Nat) : Int)), (0, ((b : Nat) : Int)), (0, ((wd : Nat) : Int)), (0, ((st : Nat) : Int)), (0, ((i : Nat) : Int))] [(0, ((l.length : Nat) : Int)), (0, ((i : Nat) : Int))] w 142 Q9
      refine qG.br (P := ((i : Nat) : Int) = ((l.length : Nat) : Int)) (pc1 := 38) (pc2 := 27) (st1 := []) rfl (fun he => ?_) (fun he => ?_)
      · skip
        refine qG.blk 3 (pc' := 43) (ls' := [(2, 8), (3, x), (0, ((a : Nat) : Int)), (0, ((b : Nat) : Int)), (0, ((wd : Nat) : Int)), (0, ((st : Nat) : Int)), (0, ((i : Nat) : Int))]) (st' := [(0, wrp (((i : Nat) : Int) - ((st : Nat) : Int)))]) (w' := w) (n' := 142) rfl ?_
        rw [show wrp (((i : Nat) : Int) - ((st : Nat) : Int)) = ((i - st : Nat) : Int) from by rw [wrp_id (by omega) (by omega)]; omega]
        refine qG.blk 3 (pc' := 46) (ls' := [(2, 8), (3, x), (0, ((a : Nat) : Int)), (0, ((b : Nat) : Int)), (0, ((wd : Nat) : Int)), (0, ((st : Nat) : Int)), (0, ((i : Nat) : Int))]) (st' := [(0, wrp (((b : Nat) : Int) - ((a : Nat) : Int))), (0, ((i - st : Nat) : Int))]) (w' := w) (n' := 142) rfl ?_
        rw [show wrp (((b : Nat) : Int) - ((a : Nat) : Int)) = ((b - a : Nat) : Int) from by rw [wrp_id (by omega) (by omega)]; omega]
        refine qG.br (P := ((i - st : Nat) : Int) = ((b - a : Nat) : Int)) (pc1 := 49) (pc2 := 69) (st1 := []) rfl (fun hl6 => ?_) (fun hl6 => ?_)
        · skip
          refine qG.blk 5 (pc' := 56) (ls' := [(2, 8), (3, x), (0, ((a : Nat) : Int)), (0, ((b : Nat) : Int)), (0, ((wd : Nat) : Int)), (0, ((st : Nat) : Int)), (0, ((i : Nat) : Int))]) (st' := [(0, ((a : Nat) : Int)), (0, ((i : Nat) : Int)), (0, ((st : Nat) : Int)), (3, x), (2, 8)]) (w' := w) (n' := 142) rfl ?_
          refine qG.call (t := 143) (na := 5) (sk := 1) (md := 1) (ls1 := [(2, 8), (3, x), (0, ((st : Nat) : Int)), (0, ((i : Nat) : Int)), (0, ((a : Nat) : Int)), (9, 0), (9, 0)]) (r1 := []) rfl rfl (cok_s (qtxb_in hl).1) rfl rfl (K_cSame (by omega) x l hl st i a hst (by omega) n hn9 w hI hn (by omega)) ?_
          rintro ⟨_, x9⟩ w7 _ ⟨rfl, hw7, ⟨hx9, hz9⟩ | ⟨hx9, hz9⟩⟩ <;> obtain ⟨rfl, rfl⟩ := Prod.mk.inj hx9 <;> rw [hw7]
          · skip
            show qG none (d + 1) 142 59 [(2, 8), (3, x), (0, ((a : Nat) : Int)), (0, ((b : Nat) : Int)), (0, ((wd : Nat) : Int)), (0, ((st : Nat) : Int)), (0, ((i : Nat) : Int))] [(0, 1)] w 142 Q9
            refine qG.br (P := (1 : Int) = 0) (pc1 := 69) (pc2 := 62) (st1 := []) rfl (fun h1 => ?_) (fun h1 => ?_)
            · exact absurd h1 (by decide)
            · skip
              refine qG.blk 3 (pc' := 68) (ls' := [(2, 8), (3, x), (0, ((a : Nat) : Int)), (0, ((b : Nat) : Int)), (0, ((wd : Nat) : Int)), (0, ((st : Nat) : Int)), (0, ((i : Nat) : Int))]) (st' := [(0, wrp (10000 + ((wd : Nat) : Int)))]) (w' := w) (n' := 142) rfl ?_
              rw [show wrp (10000 + ((wd : Nat) : Int)) = 10000 + ((wd : Nat) : Int) from wrp_id (by omega) (by omega)]
              refine qG.ret rfl rfl ?_
              subst hQ9
              first | exact ⟨rfl, rfl, .inl ⟨i, by omega, ⟨.inl (by omega), by omega, fun j hj => by rw [← e5]; exact hz9 j (by omega)⟩, by rw [e4]⟩⟩ | exact ⟨rfl, rfl, .inl ⟨i, by omega, ⟨.inr hbl, by omega, fun j hj => by rw [← e5]; exact hz9 j (by omega)⟩, by rw [e4]⟩⟩ | exact ⟨rfl, rfl, .inr ⟨fun j hj => hno j (by omega), rfl⟩⟩
          · skip
            show qG none (d + 1) 142 59 [(2, 8), (3, x), (0, ((a : Nat) : Int)), (0, ((b : Nat) : Int)), (0, ((wd : Nat) : Int)), (0, ((st : Nat) : Int)), (0, ((i : Nat) : Int))] [(0, 0)] w 142 Q9
            refine qG.br (P := (0 : Int) = 0) (pc1 := 69) (pc2 := 62) (st1 := []) rfl (fun h2 => ?_) (fun h2 => ?_)
            · skip
              refine qG.blk 1 (pc' := 72) (ls' := [(2, 8), (3, x), (0, ((a : Nat) : Int)), (0, ((b : Nat) : Int)), (0, wrp (((wd : Nat) : Int) + 1)), (0, ((st : Nat) : Int)), (0, ((i : Nat) : Int))]) (st' := []) (w' := w) (n' := 142) rfl ?_
              rw [show wrp (((wd : Nat) : Int) + 1) = ((wd + 1 : Nat) : Int) from wrp_id (by omega) (by omega)]
              refine qG.blk 3 (pc' := 76) (ls' := [(2, 8), (3, x), (0, ((a : Nat) : Int)), (0, ((b : Nat) : Int)), (0, ((wd + 1 : Nat) : Int)), (0, ((st : Nat) : Int)), (0, ((i : Nat) : Int))]) (st' := [(0, wrp (((i : Nat) : Int) + 1))]) (w' := w) (n' := 142) rfl ?_
              rw [show wrp (((i : Nat) : Int) + 1) = ((i + 1 : Nat) : Int) from by rw [wrp_id (by omega) (by omega)]; omega]
              refine qG.blk 2 (pc' := 81) (ls' := [(2, 8), (3, x), (0, ((a : Nat) : Int)), (0, ((b : Nat) : Int)), (0, ((wd + 1 : Nat) : Int)), (0, ((i + 1 : Nat) : Int)), (0, wrp (((i : Nat) : Int) + 1))]) (st' := []) (w' := w) (n' := 142) rfl ?_
              rw [show wrp (((i : Nat) : Int) + 1) = ((i + 1 : Nat) : Int) from wrp_id (by omega) (by omega)]
              refine qG.blk 1 (pc' := 9) (ls' := [(2, 8), (3, x), (0, ((a : Nat) : Int)), (0, ((b : Nat) : Int)), (0, ((wd + 1 : Nat) : Int)), (0, ((i + 1 : Nat) : Int)), (0, ((i + 1 : Nat) : Int))]) (st' := []) (w' := w) (n' := 142) rfl ?_
              exact ih9 _ (by omega) (wd + 1) (i + 1) (i + 1) rfl (⟨(by rw [e4]; first | exact (wk_y (.inl (by omega))).symm | exact (wk_y (.inr hbl)).symm | exact (wk_n (fun z => z.elim (fun q => he (by omega)) hbl)).symm), (by first | exact (ws_y (.inl (by omega))).symm | exact (ws_y (.inr hbl)).symm | (rw [e5]; exact (ws_n (fun z => z.elim (fun q => he (by omega)) hbl)).symm)), by omega, by omega, by omega, fun j hj => (if q : j = i then (by rw [q]; first | exact fun z => hl6 (by have := z.2.1; omega) | (obtain ⟨k9, k1, k2⟩ := hz9; exact fun z => k2 (by rw [e5]; exact z.2.2 k9 (by omega))) | exact fun z => z.1.elim (fun y => he (by omega)) hbl) else hno j (by omega))⟩)
            · exact absurd h2 (by decide)
        · skip
          refine qG.blk 1 (pc' := 72) (ls' := [(2, 8), (3, x), (0, ((a : Nat) : Int)), (0, ((b : Nat) : Int)), (0, wrp (((wd : Nat) : Int) + 1)), (0, ((st : Nat) : Int)), (0, ((i : Nat) : Int))]) (st' := []) (w' := w) (n' := 142) rfl ?_
          rw [show wrp (((wd : Nat) : Int) + 1) = ((wd + 1 : Nat) : Int) from wrp_id (by omega) (by omega)]
          refine qG.blk 3 (pc' := 76) (ls' := [(2, 8), (3, x), (0, ((a : Nat) : Int)), (0, ((b : Nat) : Int)), (0, ((wd + 1 : Nat) : Int)), (0, ((st : Nat) : Int)), (0, ((i : Nat) : Int))]) (st' := [(0, wrp (((i : Nat) : Int) + 1))]) (w' := w) (n' := 142) rfl ?_
          rw [show wrp (((i : Nat) : Int) + 1) = ((i + 1 : Nat) : Int) from by rw [wrp_id (by omega) (by omega)]; omega]
          refine qG.blk 2 (pc' := 81) (ls' := [(2, 8), (3, x), (0, ((a : Nat) : Int)), (0, ((b : Nat) : Int)), (0, ((wd + 1 : Nat) : Int)), (0, ((i + 1 : Nat) : Int)), (0, wrp (((i : Nat) : Int) + 1))]) (st' := []) (w' := w) (n' := 142) rfl ?_
          rw [show wrp (((i : Nat) : Int) + 1) = ((i + 1 : Nat) : Int) from wrp_id (by omega) (by omega)]
          refine qG.blk 1 (pc' := 9) (ls' := [(2, 8), (3, x), (0, ((a : Nat) : Int)), (0, ((b : Nat) : Int)), (0, ((wd + 1 : Nat) : Int)), (0, ((i + 1 : Nat) : Int)), (0, ((i + 1 : Nat) : Int))]) (st' := []) (w' := w) (n' := 142) rfl ?_
          exact ih9 _ (by omega) (wd + 1) (i + 1) (i + 1) rfl (⟨(by rw [e4]; first | exact (wk_y (.inl (by omega))).symm | exact (wk_y (.inr hbl)).symm | exact (wk_n (fun z => z.elim (fun q => he (by omega)) hbl)).symm), (by first | exact (ws_y (.inl (by omega))).symm | exact (ws_y (.inr hbl)).symm | (rw [e5]; exact (ws_n (fun z => z.elim (fun q => he (by omega)) hbl)).symm)), by omega, by omega, by omega, fun j hj => (if q : j = i then (by rw [q]; first | exact fun z => hl6 (by have := z.2.1; omega) | (obtain ⟨k9, k1, k2⟩ := hz9; exact fun z => k2 (by rw [e5]; exact z.2.2 k9 (by omega))) | exact fun z => z.1.elim (fun y => he (by omega)) hbl) else hno j (by omega))⟩)
      · skip
        refine qG.blk 2 (pc' := 30) (ls' := [(2, 8), (3, x), (0, ((a : Nat) : Int)), (0, ((b : Nat) : Int)), (0, ((wd : Nat) : Int)), (0, ((st : Nat) : Int)), (0, ((i : Nat) : Int))]) (st' := [(0, ((i : Nat) : Int)), (3, x)]) (w' := w) (n' := 142) rfl ?_
        refine qG.tch hl rfl rfl (by omega) (by exact ⟨by omega, by omega⟩) ?_
        show qG none (d + 1) 142 33 [(2, 8), (3, x), (0, ((a : Nat) : Int)), (0, ((b : Nat) : Int)), (0, ((wd : Nat) : Int)), (0, ((st : Nat) : Int)), (0, ((i : Nat) : Int))] [(0, l.getD i 0)] w 142 Q9
        refine qG.blk 1 (pc' := 35) (ls' := [(2, 8), (3, x), (0, ((a : Nat) : Int)), (0, ((b : Nat) : Int)), (0, ((wd : Nat) : Int)), (0, ((st : Nat) : Int)), (0, ((i : Nat) : Int))]) (st' := [(0, 32), (0, l.getD i 0)]) (w' := w) (n' := 142) rfl ?_
        refine qG.br (P := l.getD i 0 = 32) (pc1 := 38) (pc2 := 78) (st1 := []) rfl (fun hbl => ?_) (fun hbl => ?_)
        · skip
          refine qG.blk 3 (pc' := 43) (ls' := [(2, 8), (3, x), (0, ((a : Nat) : Int)), (0, ((b : Nat) : Int)), (0, ((wd : Nat) : Int)), (0, ((st : Nat) : Int)), (0, ((i : Nat) : Int))]) (st' := [(0, wrp (((i : Nat) : Int) - ((st : Nat) : Int)))]) (w' := w) (n' := 142) rfl ?_
          rw [show wrp (((i : Nat) : Int) - ((st : Nat) : Int)) = ((i - st : Nat) : Int) from by rw [wrp_id (by omega) (by omega)]; omega]
          refine qG.blk 3 (pc' := 46) (ls' := [(2, 8), (3, x), (0, ((a : Nat) : Int)), (0, ((b : Nat) : Int)), (0, ((wd : Nat) : Int)), (0, ((st : Nat) : Int)), (0, ((i : Nat) : Int))]) (st' := [(0, wrp (((b : Nat) : Int) - ((a : Nat) : Int))), (0, ((i - st : Nat) : Int))]) (w' := w) (n' := 142) rfl ?_
          rw [show wrp (((b : Nat) : Int) - ((a : Nat) : Int)) = ((b - a : Nat) : Int) from by rw [wrp_id (by omega) (by omega)]; omega]
          refine qG.br (P := ((i - st : Nat) : Int) = ((b - a : Nat) : Int)) (pc1 := 49) (pc2 := 69) (st1 := []) rfl (fun hl6 => ?_) (fun hl6 => ?_)
          · skip
            refine qG.blk 5 (pc' := 56) (ls' := [(2, 8), (3, x), (0, ((a : Nat) : Int)), (0, ((b : Nat) : Int)), (0, ((wd : Nat) : Int)), (0, ((st : Nat) : Int)), (0, ((i : Nat) : Int))]) (st' := [(0, ((a : Nat) : Int)), (0, ((i : Nat) : Int)), (0, ((st : Nat) : Int)), (3, x), (2, 8)]) (w' := w) (n' := 142) rfl ?_
            refine qG.call (t := 143) (na := 5) (sk := 1) (md := 1) (ls1 := [(2, 8), (3, x), (0, ((st : Nat) : Int)), (0, ((i : Nat) : Int)), (0, ((a : Nat) : Int)), (9, 0), (9, 0)]) (r1 := []) rfl rfl (cok_s (qtxb_in hl).1) rfl rfl (K_cSame (by omega) x l hl st i a hst (by omega) n hn9 w hI hn (by omega)) ?_
            rintro ⟨_, x9⟩ w7 _ ⟨rfl, hw7, ⟨hx9, hz9⟩ | ⟨hx9, hz9⟩⟩ <;> obtain ⟨rfl, rfl⟩ := Prod.mk.inj hx9 <;> rw [hw7]
            · skip
              show qG none (d + 1) 142 59 [(2, 8), (3, x), (0, ((a : Nat) : Int)), (0, ((b : Nat) : Int)), (0, ((wd : Nat) : Int)), (0, ((st : Nat) : Int)), (0, ((i : Nat) : Int))] [(0, 1)] w 142 Q9
              refine qG.br (P := (1 : Int) = 0) (pc1 := 69) (pc2 := 62) (st1 := []) rfl (fun h3 => ?_) (fun h3 => ?_)
              · exact absurd h3 (by decide)
              · skip
                refine qG.blk 3 (pc' := 68) (ls' := [(2, 8), (3, x), (0, ((a : Nat) : Int)), (0, ((b : Nat) : Int)), (0, ((wd : Nat) : Int)), (0, ((st : Nat) : Int)), (0, ((i : Nat) : Int))]) (st' := [(0, wrp (10000 + ((wd : Nat) : Int)))]) (w' := w) (n' := 142) rfl ?_
                rw [show wrp (10000 + ((wd : Nat) : Int)) = 10000 + ((wd : Nat) : Int) from wrp_id (by omega) (by omega)]
                refine qG.ret rfl rfl ?_
                subst hQ9
                first | exact ⟨rfl, rfl, .inl ⟨i, by omega, ⟨.inl (by omega), by omega, fun j hj => by rw [← e5]; exact hz9 j (by omega)⟩, by rw [e4]⟩⟩ | exact ⟨rfl, rfl, .inl ⟨i, by omega, ⟨.inr hbl, by omega, fun j hj => by rw [← e5]; exact hz9 j (by omega)⟩, by rw [e4]⟩⟩ | exact ⟨rfl, rfl, .inr ⟨fun j hj => hno j (by omega), rfl⟩⟩
            · skip
              show qG none (d + 1) 142 59 [(2, 8), (3, x), (0, ((a : Nat) : Int)), (0, ((b : Nat) : Int)), (0, ((wd : Nat) : Int)), (0, ((st : Nat) : Int)), (0, ((i : Nat) : Int))] [(0, 0)] w 142 Q9
              refine qG.br (P := (0 : Int) = 0) (pc1 := 69) (pc2 := 62) (st1 := []) rfl (fun h4 => ?_) (fun h4 => ?_)
              · skip
                refine qG.blk 1 (pc' := 72) (ls' := [(2, 8), (3, x), (0, ((a : Nat) : Int)), (0, ((b : Nat) : Int)), (0, wrp (((wd : Nat) : Int) + 1)), (0, ((st : Nat) : Int)), (0, ((i : Nat) : Int))]) (st' := []) (w' := w) (n' := 142) rfl ?_
                rw [show wrp (((wd : Nat) : Int) + 1) = ((wd + 1 : Nat) : Int) from wrp_id (by omega) (by omega)]
                refine qG.blk 3 (pc' := 76) (ls' := [(2, 8), (3, x), (0, ((a : Nat) : Int)), (0, ((b : Nat) : Int)), (0, ((wd + 1 : Nat) : Int)), (0, ((st : Nat) : Int)), (0, ((i : Nat) : Int))]) (st' := [(0, wrp (((i : Nat) : Int) + 1))]) (w' := w) (n' := 142) rfl ?_
                rw [show wrp (((i : Nat) : Int) + 1) = ((i + 1 : Nat) : Int) from by rw [wrp_id (by omega) (by omega)]; omega]
                refine qG.blk 2 (pc' := 81) (ls' := [(2, 8), (3, x), (0, ((a : Nat) : Int)), (0, ((b : Nat) : Int)), (0, ((wd + 1 : Nat) : Int)), (0, ((i + 1 : Nat) : Int)), (0, wrp (((i : Nat) : Int) + 1))]) (st' := []) (w' := w) (n' := 142) rfl ?_
                rw [show wrp (((i : Nat) : Int) + 1) = ((i + 1 : Nat) : Int) from wrp_id (by omega) (by omega)]
                refine qG.blk 1 (pc' := 9) (ls' := [(2, 8), (3, x), (0, ((a : Nat) : Int)), (0, ((b : Nat) : Int)), (0, ((wd + 1 : Nat) : Int)), (0, ((i + 1 : Nat) : Int)), (0, ((i + 1 : Nat) : Int))]) (st' := []) (w' := w) (n' := 142) rfl ?_
                exact ih9 _ (by omega) (wd + 1) (i + 1) (i + 1) rfl (⟨(by rw [e4]; first | exact (wk_y (.inl (by omega))).symm | exact (wk_y (.inr hbl)).symm | exact (wk_n (fun z => z.elim (fun q => he (by omega)) hbl)).symm), (by first | exact (ws_y (.inl (by omega))).symm | exact (ws_y (.inr hbl)).symm | (rw [e5]; exact (ws_n (fun z => z.elim (fun q => he (by omega)) hbl)).symm)), by omega, by omega, by omega, fun j hj => (if q : j = i then (by rw [q]; first | exact fun z => hl6 (by have := z.2.1; omega) | (obtain ⟨k9, k1, k2⟩ := hz9; exact fun z => k2 (by rw [e5]; exact z.2.2 k9 (by omega))) | exact fun z => z.1.elim (fun y => he (by omega)) hbl) else hno j (by omega))⟩)
              · exact absurd h4 (by decide)
          · skip
            refine qG.blk 1 (pc' := 72) (ls' := [(2, 8), (3, x), (0, ((a : Nat) : Int)), (0, ((b : Nat) : Int)), (0, wrp (((wd : Nat) : Int) + 1)), (0, ((st : Nat) : Int)), (0, ((i : Nat) : Int))]) (st' := []) (w' := w) (n' := 142) rfl ?_
            rw [show wrp (((wd : Nat) : Int) + 1) = ((wd + 1 : Nat) : Int) from wrp_id (by omega) (by omega)]
            refine qG.blk 3 (pc' := 76) (ls' := [(2, 8), (3, x), (0, ((a : Nat) : Int)), (0, ((b : Nat) : Int)), (0, ((wd + 1 : Nat) : Int)), (0, ((st : Nat) : Int)), (0, ((i : Nat) : Int))]) (st' := [(0, wrp (((i : Nat) : Int) + 1))]) (w' := w) (n' := 142) rfl ?_
            rw [show wrp (((i : Nat) : Int) + 1) = ((i + 1 : Nat) : Int) from by rw [wrp_id (by omega) (by omega)]; omega]
            refine qG.blk 2 (pc' := 81) (ls' := [(2, 8), (3, x), (0, ((a : Nat) : Int)), (0, ((b : Nat) : Int)), (0, ((wd + 1 : Nat) : Int)), (0, ((i + 1 : Nat) : Int)), (0, wrp (((i : Nat) : Int) + 1))]) (st' := []) (w' := w) (n' := 142) rfl ?_
            rw [show wrp (((i : Nat) : Int) + 1) = ((i + 1 : Nat) : Int) from wrp_id (by omega) (by omega)]
            refine qG.blk 1 (pc' := 9) (ls' := [(2, 8), (3, x), (0, ((a : Nat) : Int)), (0, ((b : Nat) : Int)), (0, ((wd + 1 : Nat) : Int)), (0, ((i + 1 : Nat) : Int)), (0, ((i + 1 : Nat) : Int))]) (st' := []) (w' := w) (n' := 142) rfl ?_
            exact ih9 _ (by omega) (wd + 1) (i + 1) (i + 1) rfl (⟨(by rw [e4]; first | exact (wk_y (.inl (by omega))).symm | exact (wk_y (.inr hbl)).symm | exact (wk_n (fun z => z.elim (fun q => he (by omega)) hbl)).symm), (by first | exact (ws_y (.inl (by omega))).symm | exact (ws_y (.inr hbl)).symm | (rw [e5]; exact (ws_n (fun z => z.elim (fun q => he (by omega)) hbl)).symm)), by omega, by omega, by omega, fun j hj => (if q : j = i then (by rw [q]; first | exact fun z => hl6 (by have := z.2.1; omega) | (obtain ⟨k9, k1, k2⟩ := hz9; exact fun z => k2 (by rw [e5]; exact z.2.2 k9 (by omega))) | exact fun z => z.1.elim (fun y => he (by omega)) hbl) else hno j (by omega))⟩)
        · skip
          refine qG.blk 1 (pc' := 81) (ls' := [(2, 8), (3, x), (0, ((a : Nat) : Int)), (0, ((b : Nat) : Int)), (0, ((wd : Nat) : Int)), (0, ((st : Nat) : Int)), (0, wrp (((i : Nat) : Int) + 1))]) (st' := []) (w' := w) (n' := 142) rfl ?_
          rw [show wrp (((i : Nat) : Int) + 1) = ((i + 1 : Nat) : Int) from wrp_id (by omega) (by omega)]
          refine qG.blk 1 (pc' := 9) (ls' := [(2, 8), (3, x), (0, ((a : Nat) : Int)), (0, ((b : Nat) : Int)), (0, ((wd : Nat) : Int)), (0, ((st : Nat) : Int)), (0, ((i + 1 : Nat) : Int))]) (st' := []) (w' := w) (n' := 142) rfl ?_
          exact ih9 _ (by omega) (wd) (st) (i + 1) rfl (⟨(by rw [e4]; first | exact (wk_y (.inl (by omega))).symm | exact (wk_y (.inr hbl)).symm | exact (wk_n (fun z => z.elim (fun q => he (by omega)) hbl)).symm), (by first | exact (ws_y (.inl (by omega))).symm | exact (ws_y (.inr hbl)).symm | (rw [e5]; exact (ws_n (fun z => z.elim (fun q => he (by omega)) hbl)).symm)), by omega, by omega, by omega, fun j hj => (if q : j = i then (by rw [q]; first | exact fun z => hl6 (by have := z.2.1; omega) | (obtain ⟨k9, k1, k2⟩ := hz9; exact fun z => k2 (by rw [e5]; exact z.2.2 k9 (by omega))) | exact fun z => z.1.elim (fun y => he (by omega)) hbl) else hno j (by omega))⟩)
  exact L9 _ (0) (0) (0) rfl (⟨rfl, rfl, Nat.le_refl _, Nat.le_refl _, by omega, fun j hj => absurd hj (Nat.not_lt_zero j)⟩)
