/-! bit counts of longs, exactly -/
theorem K_bcl {d : Nat} {w : qW} (x y1 y2 y3 y4 y5 y6 c : Int) (h1 : wrl (x - qland (qlush x 1) 6148914691236517205) = y1) (h2 : wrl (qland y1 3689348814741910323 + qland (qlush y1 2) 3689348814741910323) = y2) (h3 : qland (wrl (y2 + qlush y2 4)) 1085102592571150095 = y3) (h4 : wrl (y3 + qlush y3 8) = y4) (h5 : wrl (y4 + qlush y4 16) = y5) (h6 : wrl (y5 + qlush y5 32) = y6) (h7 : qand (wrp y6) 127 = c) (hc : qrok (qrt 304) (0, c) = true) : qG none d 304 0 [(1, x), (9, 0)] [] w 142 (fun v w1 n1 => v = (0, c) ∧ w1 = w ∧ n1 = 142) := by
  refine qG.blk 8 (pc' := 10) (ls' := [(1, wrl (x - qland (qlush x 1) 6148914691236517205)), (9, 0)]) (st' := []) (w' := w) (n' := 142) rfl ?_
  rw [h1]
  refine qG.blk 10 (pc' := 24) (ls' := [(1, wrl (qland y1 3689348814741910323 + qland (qlush y1 2) 3689348814741910323)), (9, 0)]) (st' := []) (w' := w) (n' := 142) rfl ?_
  rw [h2]
  refine qG.blk 8 (pc' := 34) (ls' := [(1, qland (wrl (y2 + qlush y2 4)) 1085102592571150095), (9, 0)]) (st' := []) (w' := w) (n' := 142) rfl ?_
  rw [h3]
  refine qG.blk 6 (pc' := 41) (ls' := [(1, wrl (y3 + qlush y3 8)), (9, 0)]) (st' := []) (w' := w) (n' := 142) rfl ?_
  rw [h4]
  refine qG.blk 6 (pc' := 48) (ls' := [(1, wrl (y4 + qlush y4 16)), (9, 0)]) (st' := []) (w' := w) (n' := 142) rfl ?_
  rw [h5]
  refine qG.blk 6 (pc' := 55) (ls' := [(1, wrl (y5 + qlush y5 32)), (9, 0)]) (st' := []) (w' := w) (n' := 142) rfl ?_
  rw [h6]
  refine qG.blk 4 (pc' := 60) (ls' := [(1, y6), (9, 0)]) (st' := [(0, qand (wrp y6) 127)]) (w' := w) (n' := 142) rfl ?_
  rw [h7]
  exact qG.ret rfl hc ⟨rfl, rfl, rfl⟩
theorem args1l {as : List qV} {a : Int} (h : yamc [(1, a, a)] as) : as = [(1, a)] := by
  match as, h with
  | [(a1, a2)], h =>
    obtain ⟨⟨x1, x2, x3⟩, -⟩ := h
    have x1 : a1 = 1 := x1
    have x2 : a ≤ a2 := x2
    have x3 : a2 ≤ a := x3
    rw [x1, show a2 = a by omega]
def C_bc_m1 : Nat × yC := (304, (0, [(1, (-1), (-1))], (0, 64, 64), [], [], [], [], 0, []))
theorem T_bc_m1 {w0 : qW} : yCOK w0 zgf zga zra zSp zgh C_bc_m1.1 C_bc_m1.2 := by
  intro d as w hd hm hI hn hp
  obtain rfl := args1l hm
  refine qG.mono (K_bcl (-1) (-6148914691236517206) 4919131752989213764 578721382704613384 580982013105803280 580990878187790368 580990878323062848 64 (by decide +kernel) (by decide +kernel) (by decide +kernel) (by decide +kernel) (by decide +kernel) (by decide +kernel) (by decide +kernel) (by decide +kernel)) (fun v w1 n1 hh => ?_)
  obtain ⟨rfl, rfl, rfl⟩ := hh
  exact ⟨⟨rfl, Int.le_refl _, Int.le_refl _⟩, hI, rfl, fun p j _ => rfl, fun e he => (by cases he), fun z => (by cases z)⟩
def C_bc_52 : Nat × yC := (304, (0, [(1, 4503599627370495, 4503599627370495)], (0, 52, 52), [], [], [], [], 0, []))
theorem T_bc_52 {w0 : qW} : yCOK w0 zgf zga zra zSp zgh C_bc_52.1 C_bc_52.2 := by
  intro d as w hd hm hI hn hp
  obtain rfl := args1l hm
  refine qG.mono (K_bcl 4503599627370495 3002399751580330 1200959900632132 1134730494347272 1139163035340816 1139180417589280 1139180417854516 52 (by decide +kernel) (by decide +kernel) (by decide +kernel) (by decide +kernel) (by decide +kernel) (by decide +kernel) (by decide +kernel) (by decide +kernel)) (fun v w1 n1 hh => ?_)
  obtain ⟨rfl, rfl, rfl⟩ := hh
  exact ⟨⟨rfl, Int.le_refl _, Int.le_refl _⟩, hI, rfl, fun p j _ => rfl, fun e he => (by cases he), fun z => (by cases z)⟩
