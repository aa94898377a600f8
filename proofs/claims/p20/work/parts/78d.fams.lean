/-! what piece, stick, truth answer -/
/-- what stick answers -/
def stickV (a0 : Int) : Int := if a0 < 0 then 0 else if 63 < a0 then 0 else 1
def C_fstick_X11_l0 : Nat × yC := (182, (2, [(2, 1, 1), (0, (-2147483648), (-1)), (0, 0, 1)], (0, 0, 0), [], [], [], [], 0, []))
theorem T_fstick_X11_l0 {w0 : qW} : yCOK w0 zgf zga zra zSp zgh C_fstick_X11_l0.1 C_fstick_X11_l0.2 := yctr (bv := fun _ _ => none) (bb := fun _ => none) (ct := yctl []) (an := fun k pc => none) (fk := fun k pc => none) (f := 100000) zgh0 (fun _ _ _ h => by cases h) (fun _ _ h => by cases h) zSp_ok (fun w hw => yctl_ok (P := fun t c => yCOK w zgf zga zra zSp zgh t c) ylnil) (by decide +kernel)
def C_fstick_X11_h0 : Nat × yC := (182, (2, [(2, 1, 1), (0, 64, 2147483647), (0, 0, 1)], (0, 0, 0), [], [], [], [], 0, []))
theorem T_fstick_X11_h0 {w0 : qW} : yCOK w0 zgf zga zra zSp zgh C_fstick_X11_h0.1 C_fstick_X11_h0.2 := yctr (bv := fun _ _ => none) (bb := fun _ => none) (ct := yctl []) (an := fun k pc => none) (fk := fun k pc => none) (f := 100000) zgh0 (fun _ _ _ h => by cases h) (fun _ _ h => by cases h) zSp_ok (fun w hw => yctl_ok (P := fun t c => yCOK w zgf zga zra zSp zgh t c) ylnil) (by decide +kernel)
def C_fstick_X11_ok : Nat × yC := (182, (2, [(2, 1, 1), (0, 0, 63), (0, 0, 1)], (0, 1, 1), [44], [], [], [], 0, []))
theorem T_fstick_X11_ok {w0 : qW} : yCOK w0 zgf zga zra zSp zgh C_fstick_X11_ok.1 C_fstick_X11_ok.2 := yctr (bv := fun _ _ => none) (bb := fun _ => none) (ct := yctl []) (an := fun k pc => none) (fk := fun k pc => none) (f := 100000) zgh0 (fun _ _ _ h => by cases h) (fun _ _ h => by cases h) zSp_ok (fun w hw => yctl_ok (P := fun t c => yCOK w zgf zga zra zSp zgh t c) ylnil) (by decide +kernel)
theorem K_X11_stick {d : Nat} (hd : 20 ≤ d) (a0 a1 : Int) (hr0 : -2147483648 ≤ a0 ∧ a0 ≤ 2147483647) (hb1 : 0 ≤ a1 ∧ a1 ≤ 1) (w : qW) (h : SP w) : qG none d 182 0 (qini 182 [(2, 1), (0, a0), (0, a1)]) [] w 142 (fun v w1 n1 => v = (0, stickV a0) ∧ SP w1 ∧ n1 = 142) := by
  unfold stickV
  split
  · refine qG.mono (SP.use (c := C_fstick_X11_l0.2) T_fstick_X11_l0 h (Nat.le_trans (by decide) hd) ⟨⟨rfl, by decide, by decide⟩, ⟨rfl, by show ((-2147483648) : Int) ≤ a0; omega, by show a0 ≤ ((-1) : Int); omega⟩, ⟨rfl, hb1.1, hb1.2⟩, trivial⟩ rfl rfl (by decide +kernel)) ?_
    rintro _ w1 _ ⟨x, rfl, x1, x2, hP, rfl⟩
    exact ⟨(by rw [show x = 0 from Int.le_antisymm x2 x1]; rfl), hP, rfl⟩
  split
  · refine qG.mono (SP.use (c := C_fstick_X11_h0.2) T_fstick_X11_h0 h (Nat.le_trans (by decide) hd) ⟨⟨rfl, by decide, by decide⟩, ⟨rfl, by show (64 : Int) ≤ a0; omega, by show a0 ≤ (2147483647 : Int); omega⟩, ⟨rfl, hb1.1, hb1.2⟩, trivial⟩ rfl rfl (by decide +kernel)) ?_
    rintro _ w1 _ ⟨x, rfl, x1, x2, hP, rfl⟩
    exact ⟨(by rw [show x = 0 from Int.le_antisymm x2 x1]; rfl), hP, rfl⟩
  · refine qG.mono (SP.use (c := C_fstick_X11_ok.2) T_fstick_X11_ok h (Nat.le_trans (by decide) hd) ⟨⟨rfl, by decide, by decide⟩, ⟨rfl, by show (0 : Int) ≤ a0; omega, by show a0 ≤ (63 : Int); omega⟩, ⟨rfl, hb1.1, hb1.2⟩, trivial⟩ rfl rfl (by decide +kernel)) ?_
    rintro _ w1 _ ⟨x, rfl, x1, x2, hP, rfl⟩
    exact ⟨(by rw [show x = 1 from Int.le_antisymm x2 x1]; rfl), hP, rfl⟩
def C_fstick_X12_l0 : Nat × yC := (276, (2, [(2, 95, 95), (0, (-2147483648), (-1)), (0, 0, 1)], (0, 0, 0), [], [], [], [], 0, []))
theorem T_fstick_X12_l0 {w0 : qW} : yCOK w0 zgf zga zra zSp zgh C_fstick_X12_l0.1 C_fstick_X12_l0.2 := yctr (bv := fun _ _ => none) (bb := fun _ => none) (ct := yctl []) (an := fun k pc => none) (fk := fun k pc => none) (f := 100000) zgh0 (fun _ _ _ h => by cases h) (fun _ _ h => by cases h) zSp_ok (fun w hw => yctl_ok (P := fun t c => yCOK w zgf zga zra zSp zgh t c) ylnil) (by decide +kernel)
def C_fstick_X12_h0 : Nat × yC := (276, (2, [(2, 95, 95), (0, 64, 2147483647), (0, 0, 1)], (0, 0, 0), [], [], [], [], 0, []))
theorem T_fstick_X12_h0 {w0 : qW} : yCOK w0 zgf zga zra zSp zgh C_fstick_X12_h0.1 C_fstick_X12_h0.2 := yctr (bv := fun _ _ => none) (bb := fun _ => none) (ct := yctl []) (an := fun k pc => none) (fk := fun k pc => none) (f := 100000) zgh0 (fun _ _ _ h => by cases h) (fun _ _ h => by cases h) zSp_ok (fun w hw => yctl_ok (P := fun t c => yCOK w zgf zga zra zSp zgh t c) ylnil) (by decide +kernel)
def C_fstick_X12_ok : Nat × yC := (276, (2, [(2, 95, 95), (0, 0, 63), (0, 0, 1)], (0, 1, 1), [124], [], [], [], 0, []))
theorem T_fstick_X12_ok {w0 : qW} : yCOK w0 zgf zga zra zSp zgh C_fstick_X12_ok.1 C_fstick_X12_ok.2 := yctr (bv := fun _ _ => none) (bb := fun _ => none) (ct := yctl []) (an := fun k pc => none) (fk := fun k pc => none) (f := 100000) zgh0 (fun _ _ _ h => by cases h) (fun _ _ h => by cases h) zSp_ok (fun w hw => yctl_ok (P := fun t c => yCOK w zgf zga zra zSp zgh t c) ylnil) (by decide +kernel)
theorem K_X12_stick {d : Nat} (hd : 20 ≤ d) (a0 a1 : Int) (hr0 : -2147483648 ≤ a0 ∧ a0 ≤ 2147483647) (hb1 : 0 ≤ a1 ∧ a1 ≤ 1) (w : qW) (h : SP w) : qG none d 276 0 (qini 276 [(2, 95), (0, a0), (0, a1)]) [] w 142 (fun v w1 n1 => v = (0, stickV a0) ∧ SP w1 ∧ n1 = 142) := by
  unfold stickV
  split
  · refine qG.mono (SP.use (c := C_fstick_X12_l0.2) T_fstick_X12_l0 h (Nat.le_trans (by decide) hd) ⟨⟨rfl, by decide, by decide⟩, ⟨rfl, by show ((-2147483648) : Int) ≤ a0; omega, by show a0 ≤ ((-1) : Int); omega⟩, ⟨rfl, hb1.1, hb1.2⟩, trivial⟩ rfl rfl (by decide +kernel)) ?_
    rintro _ w1 _ ⟨x, rfl, x1, x2, hP, rfl⟩
    exact ⟨(by rw [show x = 0 from Int.le_antisymm x2 x1]; rfl), hP, rfl⟩
  split
  · refine qG.mono (SP.use (c := C_fstick_X12_h0.2) T_fstick_X12_h0 h (Nat.le_trans (by decide) hd) ⟨⟨rfl, by decide, by decide⟩, ⟨rfl, by show (64 : Int) ≤ a0; omega, by show a0 ≤ (2147483647 : Int); omega⟩, ⟨rfl, hb1.1, hb1.2⟩, trivial⟩ rfl rfl (by decide +kernel)) ?_
    rintro _ w1 _ ⟨x, rfl, x1, x2, hP, rfl⟩
    exact ⟨(by rw [show x = 0 from Int.le_antisymm x2 x1]; rfl), hP, rfl⟩
  · refine qG.mono (SP.use (c := C_fstick_X12_ok.2) T_fstick_X12_ok h (Nat.le_trans (by decide) hd) ⟨⟨rfl, by decide, by decide⟩, ⟨rfl, by show (0 : Int) ≤ a0; omega, by show a0 ≤ (63 : Int); omega⟩, ⟨rfl, hb1.1, hb1.2⟩, trivial⟩ rfl rfl (by decide +kernel)) ?_
    rintro _ w1 _ ⟨x, rfl, x1, x2, hP, rfl⟩
    exact ⟨(by rw [show x = 1 from Int.le_antisymm x2 x1]; rfl), hP, rfl⟩
