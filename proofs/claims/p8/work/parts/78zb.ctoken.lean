/-! one token of the class's -/
theorem qG.tiy {sc : Option (Nat × (Nat → Int))} {d k pc n : Nat} {ls r : List qV} {w : qW} {Q : qV → qW → Nat → Prop} {x c : Int} {l : List Int} (hl : qtxb x = some l) (hq : qcq k pc = some (908, 2, 1, 1)) (h8 : Nat.ble (qcat r) 8 = true) (hd : 3 ≤ d) (g : qG sc (d + 1) k (pc + 3) ls ((0, qix l c 0) :: r) w n Q) : qG sc (d + 1) k pc ls ((0, c) :: (3, x) :: r) w n Q := by
  refine qG.mth (t := 908) (na := 2) hq rfl ?_ h8 (pc' := pc + 3) (ls' := ls) (st' := (0, qix l c 0) :: r) (w' := w) (n' := n) ?_ g
  · show (Nat.beq 1 1 && Nat.ble 4 (d + 1)) = true
    rw [Nat.ble_eq_true_of_le (show 4 ≤ d + 1 by omega)]; rfl
  · show (match qtxb x with
      | some l => some (pc + 3, ls, ((0, qix l c 0) : qV) :: r, w, n)
      | none => none) = _
    rw [hl]
noncomputable def wcP (w : qW) (l : List Int) (a b : Nat) (v : Int) : Prop := (∃ i, i ≤ l.length ∧ WM w l a b i ∧ v = 10000 + ((wkF l i : Nat) : Int)) ∨ ((∀ i, i ≤ l.length → ¬ WM w l a b i) ∧ v = -1)
theorem K_cWordE {d : Nat} (hd : 5 ≤ d) (x : Int) (l : List Int) (hl : qtxb x = some l) (a b : Nat) (n : Nat) (hn9 : n ≤ 600) (w : qW) (hI : yInv zgf zga zra zSp w) (hn : w 8 1 = (n : Int)) (hab : a ≤ b) (hbn : b ≤ n) : qG none d 142 0 [(2, 8), (3, x), (0, ((a : Nat) : Int)), (0, ((b : Nat) : Int)), (9, 0), (9, 0), (9, 0)] [] w 142 (fun (r : qV) (w1 : qW) (n1 : Nat) => n1 = 142 ∧ w1 = w ∧ ∃ v, r = (0, v) ∧ wcP w l a b v) := qG.mono (K_cWord hd x l hl a b n hn9 w hI hn hab hbn) (fun r w1 n1 h => by
  obtain ⟨h1, h2, h3⟩ := h
  refine ⟨h1, h2, ?_⟩
  rcases h3 with ⟨i, a1, a2, a3⟩ | ⟨a1, a2⟩
  · exact ⟨_, a3, .inl ⟨i, a1, a2, rfl⟩⟩
  · exact ⟨_, a2, .inr ⟨a1, rfl⟩⟩)
theorem cok_w {x a e : Int} (hx : 0 < x) : qcok 142 4 1 1 142 [(0, e), (0, a), (3, x), (2, 8), (2, 8)] = true := by
  have h : decide (0 < x) = true := decide_eq_true hx
  show (true && true && ((true && ((false || (true && decide (0 < x))) && (true && (true && true)))) && true) && true && true) = true
  rw [h]; rfl
/-- the token at a, its code, where it ends -/
noncomputable def TKc (w : qW) (l l2 : List Int) (n a : Nat) (v : Int) (e : Nat) : Prop :=
  (letV (sgV w a) = 1 ∧ CL letV w n a e ∧ wcP w l a e v) ∨ (¬ letV (sgV w a) = 1 ∧ digV (sgV w a) = 1 ∧ CL digV w n a e ∧ v = if e - a ≤ 4 then nmF w a (e - a) else -1) ∨
  (¬ letV (sgV w a) = 1 ∧ ¬ digV (sgV w a) = 1 ∧ e = a + 1 ∧ v = if qix l2 (sgV w a) 0 < 0 then -1 else 20000 + sgV w a)
noncomputable def adW (w : qW) (t : Nat) (v q : Int) : qW := qup (qup (qup w 10 t v) 11 t q) 8 4 ((t + 1 : Nat) : Int)
theorem z01 {x : Int} (h : x = 0) : ¬ x = 1 := by omega
theorem K_cTok {d : Nat} (hd : 6 ≤ d) (x y : Int) (l l2 : List Int) (hl : qtxb x = some l) (hl2 : qtxb y = some l2) (a t : Nat) (ht : t ≤ 600) (n : Nat) (hn9 : n ≤ 600) (w : qW) (hI : yInv zgf zga zra zSp w) (hn : w 8 1 = (n : Int)) (ha : a < n) (ht8 : w 8 4 = (t : Int)) : qG none d 135 0 [(2, 8), (0, ((a : Nat) : Int)), (3, x), (3, y), (9, 0), (9, 0)] [] w 142 (fun (r : qV) (w1 : qW) (n1 : Nat) => n1 = 142 ∧ (((sgV w a = 32 ∨ sgV w a = 10) ∧ r = (0, ((a + 1 : Nat) : Int)) ∧ w1 = w) ∨ (¬ (sgV w a = 32 ∨ sgV w a = 10) ∧ ∃ (e : Nat) (v : Int), TKc w l l2 n a v e ∧ r = (0, (e : Int)) ∧ w1 = adW w t v ((a : Nat) : Int)))) := by
  generalize hQ9 : (fun (r : qV) (w1 : qW) (n1 : Nat) => n1 = 142 ∧ (((sgV w a = 32 ∨ sgV w a = 10) ∧ r = (0, ((a + 1 : Nat) : Int)) ∧ w1 = w) ∨ (¬ (sgV w a = 32 ∨ sgV w a = 10) ∧ ∃ (e : Nat) (v : Int), TKc w l l2 n a v e ∧ r = (0, (e : Int)) ∧ w1 = adW w t v ((a : Nat) : Int)))) = Q9
  obtain ⟨d, rfl⟩ : ∃ d9, d = d9 + 1 := ⟨d - 1, by omega⟩
  refine qG.blk 2 (pc' := 2) (ls' := [(2, 8), (0, ((a : Nat) : Int)), (3, x), (3, y), (9, 0), (9, 0)]) (st' := [(0, ((a : Nat) : Int)), (2, 8)]) (w' := w) (n' := 142) rfl ?_
  refine qG.call (t := 136) (na := 2) (sk := 1) (md := 1) (ls1 := [(2, 8), (0, ((a : Nat) : Int))]) (r1 := []) rfl rfl rfl rfl rfl (K_cSign (by omega) a n hn9 w hI hn) ?_
  rintro _ w7 _ ⟨rfl, hw7, rfl⟩
  rw [hw7]
  show qG none (d + 1) 135 5 [(2, 8), (0, ((a : Nat) : Int)), (3, x), (3, y), (9, 0), (9, 0)] [(0, sgV w a)] w 142 Q9
  refine qG.blk 3 (pc' := 11) (ls' := [(2, 8), (0, ((a : Nat) : Int)), (3, x), (3, y), (0, sgV w a), (9, 0)]) (st' := [(0, 32), (0, sgV w a)]) (w' := w) (n' := 142) rfl ?_
  refine qG.br (P := sgV w a = 32) (pc1 := 21) (pc2 := 14) (st1 := []) rfl (fun hb1 => ?_) (fun hb1 => ?_)
  · skip
    refine qG.blk 3 (pc' := 24) (ls' := [(2, 8), (0, ((a : Nat) : Int)), (3, x), (3, y), (0, sgV w a), (9, 0)]) (st' := [(0, wrp (((a : Nat) : Int) + 1))]) (w' := w) (n' := 142) rfl ?_
    rw [show wrp (((a : Nat) : Int) + 1) = ((a + 1 : Nat) : Int) from by rw [wrp_id (by omega) (by omega)]; omega]
    refine qG.ret rfl rfl ?_
    subst hQ9
    first | exact ⟨rfl, .inl ⟨.inl hb1, rfl, rfl⟩⟩ | exact ⟨rfl, .inl ⟨.inr hb2, rfl, rfl⟩⟩ | exact ⟨rfl, .inr ⟨fun z => z.elim hb1 hb2, e, v, .inl ⟨(letV_01 _).resolve_left hlt, hCL, hwc⟩, rfl, rfl⟩⟩ | exact ⟨rfl, .inr ⟨fun z => z.elim hb1 hb2, e, _, .inr (.inl ⟨z01 hlt, (isInV_01 _ 48 57).resolve_left hdg, hCL, rfl⟩), rfl, rfl⟩⟩ | exact ⟨rfl, .inr ⟨fun z => z.elim hb1 hb2, a + 1, _, .inr (.inr ⟨z01 hlt, z01 hdg, rfl, (if_pos hq).symm⟩), rfl, rfl⟩⟩ | exact ⟨rfl, .inr ⟨fun z => z.elim hb1 hb2, a + 1, _, .inr (.inr ⟨z01 hlt, z01 hdg, rfl, (if_neg hq).symm⟩), rfl, rfl⟩⟩
  · skip
    refine qG.blk 2 (pc' := 18) (ls' := [(2, 8), (0, ((a : Nat) : Int)), (3, x), (3, y), (0, sgV w a), (9, 0)]) (st' := [(0, 10), (0, sgV w a)]) (w' := w) (n' := 142) rfl ?_
    refine qG.br (P := sgV w a = 10) (pc1 := 21) (pc2 := 25) (st1 := []) rfl (fun hb2 => ?_) (fun hb2 => ?_)
    · skip
      refine qG.blk 3 (pc' := 24) (ls' := [(2, 8), (0, ((a : Nat) : Int)), (3, x), (3, y), (0, sgV w a), (9, 0)]) (st' := [(0, wrp (((a : Nat) : Int) + 1))]) (w' := w) (n' := 142) rfl ?_
      rw [show wrp (((a : Nat) : Int) + 1) = ((a + 1 : Nat) : Int) from by rw [wrp_id (by omega) (by omega)]; omega]
      refine qG.ret rfl rfl ?_
      subst hQ9
      first | exact ⟨rfl, .inl ⟨.inl hb1, rfl, rfl⟩⟩ | exact ⟨rfl, .inl ⟨.inr hb2, rfl, rfl⟩⟩ | exact ⟨rfl, .inr ⟨fun z => z.elim hb1 hb2, e, v, .inl ⟨(letV_01 _).resolve_left hlt, hCL, hwc⟩, rfl, rfl⟩⟩ | exact ⟨rfl, .inr ⟨fun z => z.elim hb1 hb2, e, _, .inr (.inl ⟨z01 hlt, (isInV_01 _ 48 57).resolve_left hdg, hCL, rfl⟩), rfl, rfl⟩⟩ | exact ⟨rfl, .inr ⟨fun z => z.elim hb1 hb2, a + 1, _, .inr (.inr ⟨z01 hlt, z01 hdg, rfl, (if_pos hq).symm⟩), rfl, rfl⟩⟩ | exact ⟨rfl, .inr ⟨fun z => z.elim hb1 hb2, a + 1, _, .inr (.inr ⟨z01 hlt, z01 hdg, rfl, (if_neg hq).symm⟩), rfl, rfl⟩⟩
    · skip
      refine qG.blk 3 (pc' := 28) (ls' := [(2, 8), (0, ((a : Nat) : Int)), (3, x), (3, y), (0, sgV w a), (9, 0)]) (st' := [(0, wrp (((a : Nat) : Int) + 1))]) (w' := w) (n' := 142) rfl ?_
      rw [show wrp (((a : Nat) : Int) + 1) = ((a + 1 : Nat) : Int) from by rw [wrp_id (by omega) (by omega)]; omega]
      refine qG.blk 2 (pc' := 32) (ls' := [(2, 8), (0, ((a : Nat) : Int)), (3, x), (3, y), (0, sgV w a), (0, ((a + 1 : Nat) : Int))]) (st' := [(0, sgV w a)]) (w' := w) (n' := 142) rfl ?_
      refine qG.call (t := 137) (na := 1) (sk := 0) (md := 0) (ls1 := [(0, sgV w a)]) (r1 := []) rfl rfl rfl rfl rfl (K_cLet (by omega) _ _) ?_
      rintro _ w7 _ ⟨rfl, hw7, rfl⟩
      rw [hw7]
      show qG none (d + 1) 135 35 [(2, 8), (0, ((a : Nat) : Int)), (3, x), (3, y), (0, sgV w a), (0, ((a + 1 : Nat) : Int))] [(0, letV (sgV w a))] w 142 Q9
      refine qG.br (P := letV (sgV w a) = 0) (pc1 := 61) (pc2 := 38) (st1 := []) rfl (fun hlt => ?_) (fun hlt => ?_)
      · skip
        refine qG.blk 1 (pc' := 63) (ls' := [(2, 8), (0, ((a : Nat) : Int)), (3, x), (3, y), (0, sgV w a), (0, ((a + 1 : Nat) : Int))]) (st' := [(0, sgV w a)]) (w' := w) (n' := 142) rfl ?_
        refine qG.call (t := 138) (na := 1) (sk := 0) (md := 0) (ls1 := [(0, sgV w a)]) (r1 := []) rfl rfl rfl rfl rfl (K_cDig (by omega) _ _) ?_
        rintro _ w7 _ ⟨rfl, hw7, rfl⟩
        rw [hw7]
        show qG none (d + 1) 135 66 [(2, 8), (0, ((a : Nat) : Int)), (3, x), (3, y), (0, sgV w a), (0, ((a + 1 : Nat) : Int))] [(0, digV (sgV w a))] w 142 Q9
        refine qG.br (P := digV (sgV w a) = 0) (pc1 := 91) (pc2 := 69) (st1 := []) rfl (fun hdg => ?_) (fun hdg => ?_)
        · skip
          refine qG.blk 4 (pc' := 96) (ls' := [(2, 8), (0, ((a : Nat) : Int)), (3, x), (3, y), (0, sgV w a), (0, ((a + 1 : Nat) : Int))]) (st' := [(0, (sgV w a) % 65536), (3, y), (2, 8)]) (w' := w) (n' := 142) rfl ?_
          rw [show (sgV w a) % 65536 = sgV w a from by have := sgV_in w a; omega]
          refine qG.tiy hl2 rfl rfl (by omega) ?_
          show qG none (d + 1) 135 99 [(2, 8), (0, ((a : Nat) : Int)), (3, x), (3, y), (0, sgV w a), (0, ((a + 1 : Nat) : Int))] [(0, qix l2 (sgV w a) 0), (2, 8)] w 142 Q9
          refine qG.br (P := qix l2 (sgV w a) 0 < 0) (pc1 := 111) (pc2 := 102) (st1 := [(2, 8)]) rfl (fun hq => ?_) (fun hq => ?_)
          · skip
            refine qG.blk 2 (pc' := 113) (ls' := [(2, 8), (0, ((a : Nat) : Int)), (3, x), (3, y), (0, sgV w a), (0, ((a + 1 : Nat) : Int))]) (st' := [(0, ((a : Nat) : Int)), (0, (-1)), (2, 8)]) (w' := w) (n' := 142) rfl ?_
            refine qG.call (t := 144) (na := 3) (sk := 1) (md := 1) (ls1 := [(2, 8), (0, (-1)), (0, ((a : Nat) : Int))]) (r1 := []) rfl rfl rfl rfl rfl (K_cAdd (by omega) (-1) ((a : Nat) : Int) t ht n hn9 w hI hn ht8) ?_
            rintro _ w7 _ ⟨rfl, rfl, hw7⟩
            rw [hw7]
            rw [show qup (qup (qup w 10 t (-1)) 11 t ((a : Nat) : Int)) 8 4 ((t + 1 : Nat) : Int) = adW w t (-1) ((a : Nat) : Int) from rfl]
            show qG none (d + 1) 135 116 [(2, 8), (0, ((a : Nat) : Int)), (3, x), (3, y), (0, sgV w a), (0, ((a + 1 : Nat) : Int))] [] (adW w t (-1) ((a : Nat) : Int)) 142 Q9
            refine qG.blk 1 (pc' := 118) (ls' := [(2, 8), (0, ((a : Nat) : Int)), (3, x), (3, y), (0, sgV w a), (0, ((a + 1 : Nat) : Int))]) (st' := [(0, ((a + 1 : Nat) : Int))]) (w' := (adW w t (-1) ((a : Nat) : Int))) (n' := 142) rfl ?_
            refine qG.ret rfl rfl ?_
            subst hQ9
            first | exact ⟨rfl, .inl ⟨.inl hb1, rfl, rfl⟩⟩ | exact ⟨rfl, .inl ⟨.inr hb2, rfl, rfl⟩⟩ | exact ⟨rfl, .inr ⟨fun z => z.elim hb1 hb2, e, v, .inl ⟨(letV_01 _).resolve_left hlt, hCL, hwc⟩, rfl, rfl⟩⟩ | exact ⟨rfl, .inr ⟨fun z => z.elim hb1 hb2, e, _, .inr (.inl ⟨z01 hlt, (isInV_01 _ 48 57).resolve_left hdg, hCL, rfl⟩), rfl, rfl⟩⟩ | exact ⟨rfl, .inr ⟨fun z => z.elim hb1 hb2, a + 1, _, .inr (.inr ⟨z01 hlt, z01 hdg, rfl, (if_pos hq).symm⟩), rfl, rfl⟩⟩ | exact ⟨rfl, .inr ⟨fun z => z.elim hb1 hb2, a + 1, _, .inr (.inr ⟨z01 hlt, z01 hdg, rfl, (if_neg hq).symm⟩), rfl, rfl⟩⟩
          · skip
            refine qG.blk 3 (pc' := 108) (ls' := [(2, 8), (0, ((a : Nat) : Int)), (3, x), (3, y), (0, sgV w a), (0, ((a + 1 : Nat) : Int))]) (st' := [(0, wrp (20000 + (sgV w a))), (2, 8)]) (w' := w) (n' := 142) rfl ?_
            rw [show wrp (20000 + (sgV w a)) = 20000 + sgV w a from wrp_id (by have := sgV_in w a; omega) (by have := sgV_in w a; omega)]
            refine qG.blk 2 (pc' := 113) (ls' := [(2, 8), (0, ((a : Nat) : Int)), (3, x), (3, y), (0, sgV w a), (0, ((a + 1 : Nat) : Int))]) (st' := [(0, ((a : Nat) : Int)), (0, 20000 + sgV w a), (2, 8)]) (w' := w) (n' := 142) rfl ?_
            refine qG.call (t := 144) (na := 3) (sk := 1) (md := 1) (ls1 := [(2, 8), (0, 20000 + sgV w a), (0, ((a : Nat) : Int))]) (r1 := []) rfl rfl rfl rfl rfl (K_cAdd (by omega) (20000 + sgV w a) ((a : Nat) : Int) t ht n hn9 w hI hn ht8) ?_
            rintro _ w7 _ ⟨rfl, rfl, hw7⟩
            rw [hw7]
            rw [show qup (qup (qup w 10 t (20000 + sgV w a)) 11 t ((a : Nat) : Int)) 8 4 ((t + 1 : Nat) : Int) = adW w t (20000 + sgV w a) ((a : Nat) : Int) from rfl]
            show qG none (d + 1) 135 116 [(2, 8), (0, ((a : Nat) : Int)), (3, x), (3, y), (0, sgV w a), (0, ((a + 1 : Nat) : Int))] [] (adW w t (20000 + sgV w a) ((a : Nat) : Int)) 142 Q9
            refine qG.blk 1 (pc' := 118) (ls' := [(2, 8), (0, ((a : Nat) : Int)), (3, x), (3, y), (0, sgV w a), (0, ((a + 1 : Nat) : Int))]) (st' := [(0, ((a + 1 : Nat) : Int))]) (w' := (adW w t (20000 + sgV w a) ((a : Nat) : Int))) (n' := 142) rfl ?_
            refine qG.ret rfl rfl ?_
            subst hQ9
            first | exact ⟨rfl, .inl ⟨.inl hb1, rfl, rfl⟩⟩ | exact ⟨rfl, .inl ⟨.inr hb2, rfl, rfl⟩⟩ | exact ⟨rfl, .inr ⟨fun z => z.elim hb1 hb2, e, v, .inl ⟨(letV_01 _).resolve_left hlt, hCL, hwc⟩, rfl, rfl⟩⟩ | exact ⟨rfl, .inr ⟨fun z => z.elim hb1 hb2, e, _, .inr (.inl ⟨z01 hlt, (isInV_01 _ 48 57).resolve_left hdg, hCL, rfl⟩), rfl, rfl⟩⟩ | exact ⟨rfl, .inr ⟨fun z => z.elim hb1 hb2, a + 1, _, .inr (.inr ⟨z01 hlt, z01 hdg, rfl, (if_pos hq).symm⟩), rfl, rfl⟩⟩ | exact ⟨rfl, .inr ⟨fun z => z.elim hb1 hb2, a + 1, _, .inr (.inr ⟨z01 hlt, z01 hdg, rfl, (if_neg hq).symm⟩), rfl, rfl⟩⟩
        · skip
          refine qG.blk 2 (pc' := 71) (ls' := [(2, 8), (0, ((a : Nat) : Int)), (3, x), (3, y), (0, sgV w a), (0, ((a + 1 : Nat) : Int))]) (st' := [(0, ((a : Nat) : Int)), (2, 8)]) (w' := w) (n' := 142) rfl ?_
          refine qG.call (t := 140) (na := 2) (sk := 1) (md := 1) (ls1 := [(2, 8), (0, ((a : Nat) : Int)), (9, 0)]) (r1 := []) rfl rfl rfl rfl rfl (K_cDigEnd (by omega) a n hn9 w hI hn (by omega)) ?_
          rintro _ w7 _ ⟨rfl, hw7, e, rfl, hCL⟩
          rw [hw7]
          show qG none (d + 1) 135 74 [(2, 8), (0, ((a : Nat) : Int)), (3, x), (3, y), (0, sgV w a), (0, ((a + 1 : Nat) : Int))] [(0, ((e : Nat) : Int))] w 142 Q9
          refine qG.blk 5 (pc' := 81) (ls' := [(2, 8), (0, ((a : Nat) : Int)), (3, x), (3, y), (0, sgV w a), (0, ((e : Nat) : Int))]) (st' := [(0, ((e : Nat) : Int)), (0, ((a : Nat) : Int)), (2, 8), (2, 8)]) (w' := w) (n' := 142) rfl ?_
          refine qG.call (t := 141) (na := 3) (sk := 1) (md := 1) (ls1 := [(2, 8), (0, ((a : Nat) : Int)), (0, ((e : Nat) : Int)), (9, 0), (9, 0)]) (r1 := [(2, 8)]) rfl rfl rfl rfl rfl (K_cNum (by omega) a e n hn9 w hI hn hCL.1 hCL.2.1 hCL.2.2.1) ?_
          rintro _ w7 _ ⟨rfl, hw7, rfl⟩
          rw [hw7]
          show qG none (d + 1) 135 84 [(2, 8), (0, ((a : Nat) : Int)), (3, x), (3, y), (0, sgV w a), (0, ((e : Nat) : Int))] [(0, (if e - a ≤ 4 then nmF w a (e - a) else -1)), (2, 8)] w 142 Q9
          refine qG.blk 1 (pc' := 85) (ls' := [(2, 8), (0, ((a : Nat) : Int)), (3, x), (3, y), (0, sgV w a), (0, ((e : Nat) : Int))]) (st' := [(0, ((a : Nat) : Int)), (0, (if e - a ≤ 4 then nmF w a (e - a) else -1)), (2, 8)]) (w' := w) (n' := 142) rfl ?_
          refine qG.call (t := 144) (na := 3) (sk := 1) (md := 1) (ls1 := [(2, 8), (0, (if e - a ≤ 4 then nmF w a (e - a) else -1)), (0, ((a : Nat) : Int))]) (r1 := []) rfl rfl rfl rfl rfl (K_cAdd (by omega) (if e - a ≤ 4 then nmF w a (e - a) else -1) ((a : Nat) : Int) t ht n hn9 w hI hn ht8) ?_
          rintro _ w7 _ ⟨rfl, rfl, hw7⟩
          rw [hw7]
          rw [show qup (qup (qup w 10 t (if e - a ≤ 4 then nmF w a (e - a) else -1)) 11 t ((a : Nat) : Int)) 8 4 ((t + 1 : Nat) : Int) = adW w t (if e - a ≤ 4 then nmF w a (e - a) else -1) ((a : Nat) : Int) from rfl]
          show qG none (d + 1) 135 88 [(2, 8), (0, ((a : Nat) : Int)), (3, x), (3, y), (0, sgV w a), (0, ((e : Nat) : Int))] [] (adW w t (if e - a ≤ 4 then nmF w a (e - a) else -1) ((a : Nat) : Int)) 142 Q9
          refine qG.blk 2 (pc' := 118) (ls' := [(2, 8), (0, ((a : Nat) : Int)), (3, x), (3, y), (0, sgV w a), (0, ((e : Nat) : Int))]) (st' := [(0, ((e : Nat) : Int))]) (w' := (adW w t (if e - a ≤ 4 then nmF w a (e - a) else -1) ((a : Nat) : Int))) (n' := 142) rfl ?_
          refine qG.ret rfl rfl ?_
          subst hQ9
          first | exact ⟨rfl, .inl ⟨.inl hb1, rfl, rfl⟩⟩ | exact ⟨rfl, .inl ⟨.inr hb2, rfl, rfl⟩⟩ | exact ⟨rfl, .inr ⟨fun z => z.elim hb1 hb2, e, v, .inl ⟨(letV_01 _).resolve_left hlt, hCL, hwc⟩, rfl, rfl⟩⟩ | exact ⟨rfl, .inr ⟨fun z => z.elim hb1 hb2, e, _, .inr (.inl ⟨z01 hlt, (isInV_01 _ 48 57).resolve_left hdg, hCL, rfl⟩), rfl, rfl⟩⟩ | exact ⟨rfl, .inr ⟨fun z => z.elim hb1 hb2, a + 1, _, .inr (.inr ⟨z01 hlt, z01 hdg, rfl, (if_pos hq).symm⟩), rfl, rfl⟩⟩ | exact ⟨rfl, .inr ⟨fun z => z.elim hb1 hb2, a + 1, _, .inr (.inr ⟨z01 hlt, z01 hdg, rfl, (if_neg hq).symm⟩), rfl, rfl⟩⟩
      · skip
        refine qG.blk 2 (pc' := 40) (ls' := [(2, 8), (0, ((a : Nat) : Int)), (3, x), (3, y), (0, sgV w a), (0, ((a + 1 : Nat) : Int))]) (st' := [(0, ((a : Nat) : Int)), (2, 8)]) (w' := w) (n' := 142) rfl ?_
        refine qG.call (t := 139) (na := 2) (sk := 1) (md := 1) (ls1 := [(2, 8), (0, ((a : Nat) : Int)), (9, 0)]) (r1 := []) rfl rfl rfl rfl rfl (K_cLetEnd (by omega) a n hn9 w hI hn (by omega)) ?_
        rintro _ w7 _ ⟨rfl, hw7, e, rfl, hCL⟩
        rw [hw7]
        show qG none (d + 1) 135 43 [(2, 8), (0, ((a : Nat) : Int)), (3, x), (3, y), (0, sgV w a), (0, ((a + 1 : Nat) : Int))] [(0, ((e : Nat) : Int))] w 142 Q9
        refine qG.blk 6 (pc' := 51) (ls' := [(2, 8), (0, ((a : Nat) : Int)), (3, x), (3, y), (0, sgV w a), (0, ((e : Nat) : Int))]) (st' := [(0, ((e : Nat) : Int)), (0, ((a : Nat) : Int)), (3, x), (2, 8), (2, 8)]) (w' := w) (n' := 142) rfl ?_
        refine qG.call (t := 142) (na := 4) (sk := 1) (md := 1) (ls1 := [(2, 8), (3, x), (0, ((a : Nat) : Int)), (0, ((e : Nat) : Int)), (9, 0), (9, 0), (9, 0)]) (r1 := [(2, 8)]) rfl rfl (cok_w (qtxb_in hl).1) rfl rfl (K_cWordE (by omega) x l hl a e n hn9 w hI hn hCL.1 hCL.2.1) ?_
        rintro _ w7 _ ⟨rfl, hw7, v, rfl, hwc⟩
        rw [hw7]
        show qG none (d + 1) 135 54 [(2, 8), (0, ((a : Nat) : Int)), (3, x), (3, y), (0, sgV w a), (0, ((e : Nat) : Int))] [(0, v), (2, 8)] w 142 Q9
        refine qG.blk 1 (pc' := 55) (ls' := [(2, 8), (0, ((a : Nat) : Int)), (3, x), (3, y), (0, sgV w a), (0, ((e : Nat) : Int))]) (st' := [(0, ((a : Nat) : Int)), (0, v), (2, 8)]) (w' := w) (n' := 142) rfl ?_
        refine qG.call (t := 144) (na := 3) (sk := 1) (md := 1) (ls1 := [(2, 8), (0, v), (0, ((a : Nat) : Int))]) (r1 := []) rfl rfl rfl rfl rfl (K_cAdd (by omega) v ((a : Nat) : Int) t ht n hn9 w hI hn ht8) ?_
        rintro _ w7 _ ⟨rfl, rfl, hw7⟩
        rw [hw7]
        rw [show qup (qup (qup w 10 t v) 11 t ((a : Nat) : Int)) 8 4 ((t + 1 : Nat) : Int) = adW w t v ((a : Nat) : Int) from rfl]
        show qG none (d + 1) 135 58 [(2, 8), (0, ((a : Nat) : Int)), (3, x), (3, y), (0, sgV w a), (0, ((e : Nat) : Int))] [] (adW w t v ((a : Nat) : Int)) 142 Q9
        refine qG.blk 2 (pc' := 118) (ls' := [(2, 8), (0, ((a : Nat) : Int)), (3, x), (3, y), (0, sgV w a), (0, ((e : Nat) : Int))]) (st' := [(0, ((e : Nat) : Int))]) (w' := (adW w t v ((a : Nat) : Int))) (n' := 142) rfl ?_
        refine qG.ret rfl rfl ?_
        subst hQ9
        first | exact ⟨rfl, .inl ⟨.inl hb1, rfl, rfl⟩⟩ | exact ⟨rfl, .inl ⟨.inr hb2, rfl, rfl⟩⟩ | exact ⟨rfl, .inr ⟨fun z => z.elim hb1 hb2, e, v, .inl ⟨(letV_01 _).resolve_left hlt, hCL, hwc⟩, rfl, rfl⟩⟩ | exact ⟨rfl, .inr ⟨fun z => z.elim hb1 hb2, e, _, .inr (.inl ⟨z01 hlt, (isInV_01 _ 48 57).resolve_left hdg, hCL, rfl⟩), rfl, rfl⟩⟩ | exact ⟨rfl, .inr ⟨fun z => z.elim hb1 hb2, a + 1, _, .inr (.inr ⟨z01 hlt, z01 hdg, rfl, (if_pos hq).symm⟩), rfl, rfl⟩⟩ | exact ⟨rfl, .inr ⟨fun z => z.elim hb1 hb2, a + 1, _, .inr (.inr ⟨z01 hlt, z01 hdg, rfl, (if_neg hq).symm⟩), rfl, rfl⟩⟩
