/-! what piece, stick, truth answer -/
/-- what piece answers -/
def pieceV (a0 a1 : Int) : Int := if a0 < 0 then 0 else if 63 < a0 then 0 else if a1 < 0 then 0 else if 12 < a1 then 0 else 1
def C_fpiece_X11_l0 : Nat × yC := (181, (2, [(2, 1, 1), (0, (-2147483648), (-1)), (0, (-2147483648), 2147483647)], (0, 0, 0), [], [], [], [], 0, []))
theorem T_fpiece_X11_l0 {w0 : qW} : yCOK w0 zgf zga zra zSp zgh C_fpiece_X11_l0.1 C_fpiece_X11_l0.2 := yctr (bv := fun _ _ => none) (bb := fun _ => none) (ct := yctl []) (an := fun k pc => none) (fk := fun k pc => none) (f := 100000) zgh0 (fun _ _ _ h => by cases h) (fun _ _ h => by cases h) zSp_ok (fun w hw => yctl_ok (P := fun t c => yCOK w zgf zga zra zSp zgh t c) ylnil) (by decide +kernel)
def C_fpiece_X11_h0 : Nat × yC := (181, (2, [(2, 1, 1), (0, 64, 2147483647), (0, (-2147483648), 2147483647)], (0, 0, 0), [], [], [], [], 0, []))
theorem T_fpiece_X11_h0 {w0 : qW} : yCOK w0 zgf zga zra zSp zgh C_fpiece_X11_h0.1 C_fpiece_X11_h0.2 := yctr (bv := fun _ _ => none) (bb := fun _ => none) (ct := yctl []) (an := fun k pc => none) (fk := fun k pc => none) (f := 100000) zgh0 (fun _ _ _ h => by cases h) (fun _ _ h => by cases h) zSp_ok (fun w hw => yctl_ok (P := fun t c => yCOK w zgf zga zra zSp zgh t c) ylnil) (by decide +kernel)
def C_fpiece_X11_l1 : Nat × yC := (181, (2, [(2, 1, 1), (0, 0, 63), (0, (-2147483648), (-1))], (0, 0, 0), [], [], [], [], 0, []))
theorem T_fpiece_X11_l1 {w0 : qW} : yCOK w0 zgf zga zra zSp zgh C_fpiece_X11_l1.1 C_fpiece_X11_l1.2 := yctr (bv := fun _ _ => none) (bb := fun _ => none) (ct := yctl []) (an := fun k pc => none) (fk := fun k pc => none) (f := 100000) zgh0 (fun _ _ _ h => by cases h) (fun _ _ h => by cases h) zSp_ok (fun w hw => yctl_ok (P := fun t c => yCOK w zgf zga zra zSp zgh t c) ylnil) (by decide +kernel)
def C_fpiece_X11_h1 : Nat × yC := (181, (2, [(2, 1, 1), (0, 0, 63), (0, 13, 2147483647)], (0, 0, 0), [], [], [], [], 0, []))
theorem T_fpiece_X11_h1 {w0 : qW} : yCOK w0 zgf zga zra zSp zgh C_fpiece_X11_h1.1 C_fpiece_X11_h1.2 := yctr (bv := fun _ _ => none) (bb := fun _ => none) (ct := yctl []) (an := fun k pc => none) (fk := fun k pc => none) (f := 100000) zgh0 (fun _ _ _ h => by cases h) (fun _ _ h => by cases h) zSp_ok (fun w hw => yctl_ok (P := fun t c => yCOK w zgf zga zra zSp zgh t c) ylnil) (by decide +kernel)
def C_fpiece_X11_ok : Nat × yC := (181, (2, [(2, 1, 1), (0, 0, 63), (0, 0, 12)], (0, 1, 1), [42, 43], [], [], [], 0, []))
theorem T_fpiece_X11_ok {w0 : qW} : yCOK w0 zgf zga zra zSp zgh C_fpiece_X11_ok.1 C_fpiece_X11_ok.2 := yctr (bv := fun _ _ => none) (bb := fun _ => none) (ct := yctl []) (an := fun k pc => none) (fk := fun k pc => none) (f := 100000) zgh0 (fun _ _ _ h => by cases h) (fun _ _ h => by cases h) zSp_ok (fun w hw => yctl_ok (P := fun t c => yCOK w zgf zga zra zSp zgh t c) ylnil) (by decide +kernel)
theorem K_X11_piece {d : Nat} (hd : 20 ≤ d) (a0 a1 : Int) (hr0 : -2147483648 ≤ a0 ∧ a0 ≤ 2147483647) (hr1 : -2147483648 ≤ a1 ∧ a1 ≤ 2147483647) (w : qW) (h : SP w) : qG none d 181 0 (qini 181 [(2, 1), (0, a0), (0, a1)]) [] w 142 (fun v w1 n1 => v = (0, pieceV a0 a1) ∧ SP w1 ∧ n1 = 142) := by
  unfold pieceV
  split
  · refine qG.mono (SP.use (c := C_fpiece_X11_l0.2) T_fpiece_X11_l0 h (Nat.le_trans (by decide) hd) ⟨⟨rfl, by decide, by decide⟩, ⟨rfl, by show ((-2147483648) : Int) ≤ a0; omega, by show a0 ≤ ((-1) : Int); omega⟩, ⟨rfl, by show ((-2147483648) : Int) ≤ a1; omega, by show a1 ≤ (2147483647 : Int); omega⟩, trivial⟩ rfl rfl (by decide +kernel)) ?_
    rintro _ w1 _ ⟨x, rfl, x1, x2, hP, rfl⟩
    exact ⟨(by rw [show x = 0 from Int.le_antisymm x2 x1]; rfl), hP, rfl⟩
  split
  · refine qG.mono (SP.use (c := C_fpiece_X11_h0.2) T_fpiece_X11_h0 h (Nat.le_trans (by decide) hd) ⟨⟨rfl, by decide, by decide⟩, ⟨rfl, by show (64 : Int) ≤ a0; omega, by show a0 ≤ (2147483647 : Int); omega⟩, ⟨rfl, by show ((-2147483648) : Int) ≤ a1; omega, by show a1 ≤ (2147483647 : Int); omega⟩, trivial⟩ rfl rfl (by decide +kernel)) ?_
    rintro _ w1 _ ⟨x, rfl, x1, x2, hP, rfl⟩
    exact ⟨(by rw [show x = 0 from Int.le_antisymm x2 x1]; rfl), hP, rfl⟩
  split
  · refine qG.mono (SP.use (c := C_fpiece_X11_l1.2) T_fpiece_X11_l1 h (Nat.le_trans (by decide) hd) ⟨⟨rfl, by decide, by decide⟩, ⟨rfl, by show (0 : Int) ≤ a0; omega, by show a0 ≤ (63 : Int); omega⟩, ⟨rfl, by show ((-2147483648) : Int) ≤ a1; omega, by show a1 ≤ ((-1) : Int); omega⟩, trivial⟩ rfl rfl (by decide +kernel)) ?_
    rintro _ w1 _ ⟨x, rfl, x1, x2, hP, rfl⟩
    exact ⟨(by rw [show x = 0 from Int.le_antisymm x2 x1]; rfl), hP, rfl⟩
  split
  · refine qG.mono (SP.use (c := C_fpiece_X11_h1.2) T_fpiece_X11_h1 h (Nat.le_trans (by decide) hd) ⟨⟨rfl, by decide, by decide⟩, ⟨rfl, by show (0 : Int) ≤ a0; omega, by show a0 ≤ (63 : Int); omega⟩, ⟨rfl, by show (13 : Int) ≤ a1; omega, by show a1 ≤ (2147483647 : Int); omega⟩, trivial⟩ rfl rfl (by decide +kernel)) ?_
    rintro _ w1 _ ⟨x, rfl, x1, x2, hP, rfl⟩
    exact ⟨(by rw [show x = 0 from Int.le_antisymm x2 x1]; rfl), hP, rfl⟩
  · refine qG.mono (SP.use (c := C_fpiece_X11_ok.2) T_fpiece_X11_ok h (Nat.le_trans (by decide) hd) ⟨⟨rfl, by decide, by decide⟩, ⟨rfl, by show (0 : Int) ≤ a0; omega, by show a0 ≤ (63 : Int); omega⟩, ⟨rfl, by show (0 : Int) ≤ a1; omega, by show a1 ≤ (12 : Int); omega⟩, trivial⟩ rfl rfl (by decide +kernel)) ?_
    rintro _ w1 _ ⟨x, rfl, x1, x2, hP, rfl⟩
    exact ⟨(by rw [show x = 1 from Int.le_antisymm x2 x1]; rfl), hP, rfl⟩
def C_fpiece_X12_l0 : Nat × yC := (275, (2, [(2, 95, 95), (0, (-2147483648), (-1)), (0, (-2147483648), 2147483647)], (0, 0, 0), [], [], [], [], 0, []))
theorem T_fpiece_X12_l0 {w0 : qW} : yCOK w0 zgf zga zra zSp zgh C_fpiece_X12_l0.1 C_fpiece_X12_l0.2 := yctr (bv := fun _ _ => none) (bb := fun _ => none) (ct := yctl []) (an := fun k pc => none) (fk := fun k pc => none) (f := 100000) zgh0 (fun _ _ _ h => by cases h) (fun _ _ h => by cases h) zSp_ok (fun w hw => yctl_ok (P := fun t c => yCOK w zgf zga zra zSp zgh t c) ylnil) (by decide +kernel)
def C_fpiece_X12_h0 : Nat × yC := (275, (2, [(2, 95, 95), (0, 64, 2147483647), (0, (-2147483648), 2147483647)], (0, 0, 0), [], [], [], [], 0, []))
theorem T_fpiece_X12_h0 {w0 : qW} : yCOK w0 zgf zga zra zSp zgh C_fpiece_X12_h0.1 C_fpiece_X12_h0.2 := yctr (bv := fun _ _ => none) (bb := fun _ => none) (ct := yctl []) (an := fun k pc => none) (fk := fun k pc => none) (f := 100000) zgh0 (fun _ _ _ h => by cases h) (fun _ _ h => by cases h) zSp_ok (fun w hw => yctl_ok (P := fun t c => yCOK w zgf zga zra zSp zgh t c) ylnil) (by decide +kernel)
def C_fpiece_X12_l1 : Nat × yC := (275, (2, [(2, 95, 95), (0, 0, 63), (0, (-2147483648), (-1))], (0, 0, 0), [], [], [], [], 0, []))
theorem T_fpiece_X12_l1 {w0 : qW} : yCOK w0 zgf zga zra zSp zgh C_fpiece_X12_l1.1 C_fpiece_X12_l1.2 := yctr (bv := fun _ _ => none) (bb := fun _ => none) (ct := yctl []) (an := fun k pc => none) (fk := fun k pc => none) (f := 100000) zgh0 (fun _ _ _ h => by cases h) (fun _ _ h => by cases h) zSp_ok (fun w hw => yctl_ok (P := fun t c => yCOK w zgf zga zra zSp zgh t c) ylnil) (by decide +kernel)
def C_fpiece_X12_h1 : Nat × yC := (275, (2, [(2, 95, 95), (0, 0, 63), (0, 13, 2147483647)], (0, 0, 0), [], [], [], [], 0, []))
theorem T_fpiece_X12_h1 {w0 : qW} : yCOK w0 zgf zga zra zSp zgh C_fpiece_X12_h1.1 C_fpiece_X12_h1.2 := yctr (bv := fun _ _ => none) (bb := fun _ => none) (ct := yctl []) (an := fun k pc => none) (fk := fun k pc => none) (f := 100000) zgh0 (fun _ _ _ h => by cases h) (fun _ _ h => by cases h) zSp_ok (fun w hw => yctl_ok (P := fun t c => yCOK w zgf zga zra zSp zgh t c) ylnil) (by decide +kernel)
def C_fpiece_X12_ok : Nat × yC := (275, (2, [(2, 95, 95), (0, 0, 63), (0, 0, 12)], (0, 1, 1), [122, 123], [], [], [], 0, []))
theorem T_fpiece_X12_ok {w0 : qW} : yCOK w0 zgf zga zra zSp zgh C_fpiece_X12_ok.1 C_fpiece_X12_ok.2 := yctr (bv := fun _ _ => none) (bb := fun _ => none) (ct := yctl []) (an := fun k pc => none) (fk := fun k pc => none) (f := 100000) zgh0 (fun _ _ _ h => by cases h) (fun _ _ h => by cases h) zSp_ok (fun w hw => yctl_ok (P := fun t c => yCOK w zgf zga zra zSp zgh t c) ylnil) (by decide +kernel)
theorem K_X12_piece {d : Nat} (hd : 20 ≤ d) (a0 a1 : Int) (hr0 : -2147483648 ≤ a0 ∧ a0 ≤ 2147483647) (hr1 : -2147483648 ≤ a1 ∧ a1 ≤ 2147483647) (w : qW) (h : SP w) : qG none d 275 0 (qini 275 [(2, 95), (0, a0), (0, a1)]) [] w 142 (fun v w1 n1 => v = (0, pieceV a0 a1) ∧ SP w1 ∧ n1 = 142) := by
  unfold pieceV
  split
  · refine qG.mono (SP.use (c := C_fpiece_X12_l0.2) T_fpiece_X12_l0 h (Nat.le_trans (by decide) hd) ⟨⟨rfl, by decide, by decide⟩, ⟨rfl, by show ((-2147483648) : Int) ≤ a0; omega, by show a0 ≤ ((-1) : Int); omega⟩, ⟨rfl, by show ((-2147483648) : Int) ≤ a1; omega, by show a1 ≤ (2147483647 : Int); omega⟩, trivial⟩ rfl rfl (by decide +kernel)) ?_
    rintro _ w1 _ ⟨x, rfl, x1, x2, hP, rfl⟩
    exact ⟨(by rw [show x = 0 from Int.le_antisymm x2 x1]; rfl), hP, rfl⟩
  split
  · refine qG.mono (SP.use (c := C_fpiece_X12_h0.2) T_fpiece_X12_h0 h (Nat.le_trans (by decide) hd) ⟨⟨rfl, by decide, by decide⟩, ⟨rfl, by show (64 : Int) ≤ a0; omega, by show a0 ≤ (2147483647 : Int); omega⟩, ⟨rfl, by show ((-2147483648) : Int) ≤ a1; omega, by show a1 ≤ (2147483647 : Int); omega⟩, trivial⟩ rfl rfl (by decide +kernel)) ?_
    rintro _ w1 _ ⟨x, rfl, x1, x2, hP, rfl⟩
    exact ⟨(by rw [show x = 0 from Int.le_antisymm x2 x1]; rfl), hP, rfl⟩
  split
  · refine qG.mono (SP.use (c := C_fpiece_X12_l1.2) T_fpiece_X12_l1 h (Nat.le_trans (by decide) hd) ⟨⟨rfl, by decide, by decide⟩, ⟨rfl, by show (0 : Int) ≤ a0; omega, by show a0 ≤ (63 : Int); omega⟩, ⟨rfl, by show ((-2147483648) : Int) ≤ a1; omega, by show a1 ≤ ((-1) : Int); omega⟩, trivial⟩ rfl rfl (by decide +kernel)) ?_
    rintro _ w1 _ ⟨x, rfl, x1, x2, hP, rfl⟩
    exact ⟨(by rw [show x = 0 from Int.le_antisymm x2 x1]; rfl), hP, rfl⟩
  split
  · refine qG.mono (SP.use (c := C_fpiece_X12_h1.2) T_fpiece_X12_h1 h (Nat.le_trans (by decide) hd) ⟨⟨rfl, by decide, by decide⟩, ⟨rfl, by show (0 : Int) ≤ a0; omega, by show a0 ≤ (63 : Int); omega⟩, ⟨rfl, by show (13 : Int) ≤ a1; omega, by show a1 ≤ (2147483647 : Int); omega⟩, trivial⟩ rfl rfl (by decide +kernel)) ?_
    rintro _ w1 _ ⟨x, rfl, x1, x2, hP, rfl⟩
    exact ⟨(by rw [show x = 0 from Int.le_antisymm x2 x1]; rfl), hP, rfl⟩
  · refine qG.mono (SP.use (c := C_fpiece_X12_ok.2) T_fpiece_X12_ok h (Nat.le_trans (by decide) hd) ⟨⟨rfl, by decide, by decide⟩, ⟨rfl, by show (0 : Int) ≤ a0; omega, by show a0 ≤ (63 : Int); omega⟩, ⟨rfl, by show (0 : Int) ≤ a1; omega, by show a1 ≤ (12 : Int); omega⟩, trivial⟩ rfl rfl (by decide +kernel)) ?_
    rintro _ w1 _ ⟨x, rfl, x1, x2, hP, rfl⟩
    exact ⟨(by rw [show x = 1 from Int.le_antisymm x2 x1]; rfl), hP, rfl⟩
