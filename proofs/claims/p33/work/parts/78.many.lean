section
/-! what holds between the law's calls -/
noncomputable def SP (w : qW) : Prop := yInv zgf zga zra zSp w ∧ Sp1 w ∧ Sp2 w ∧ S3 w
noncomputable def spo (m : List Nat) (p : Nat) : Bool := m.all (fun e => !Nat.beq (e % 1000) p)
noncomputable def spm2 (m : List Nat) : Bool := spo m 104 && (spo m 105 && (spo m 111 && (spo m 112 && !ymo 95 22 m)))
noncomputable def spm (m : List Nat) : Bool := spm2 m && (spo m 102 && (spo m 103 && !ymo 95 8 m))
theorem SP.aw2 {m : List Nat} {w w1 : qW} (h : SP w) (a : AW m w w1) (hm : spm2 m = true) (hS : S3 w1) : SP w1 := by
  unfold spm2 at hm
  simp only [Bool.and_eq_true, Bool.not_eq_true'] at hm
  obtain ⟨m1, m2, m3, m4, m5⟩ := hm
  exact ⟨a.1, h.2.1.aw a m1 m2, h.2.2.1.aw a m5 m3 m4, hS⟩
theorem SP.aw {m : List Nat} {w w1 : qW} (h : SP w) (a : AW m w w1) (hm : spm m = true) : SP w1 := by
  unfold spm at hm
  simp only [Bool.and_eq_true, Bool.not_eq_true'] at hm
  obtain ⟨m1, m2, m3, m4⟩ := hm
  exact h.aw2 a m1 (h.2.2.2.aw a m4 m2 m3)
theorem SP.sq {m : List Nat} {w w1 : qW} {r : qV} {n1 : Nat} (h : SP w) (q : SQ m w r w1 n1) (hm : spm2 m = true) : SP w1 := h.aw2 q.2.2.1 hm q.2.2.2
theorem SP.tx {w w1 : qW} {r : qV} {n1 : Nat} (h : SP w) (q : TXQ w r w1 n1) : SP w1 := ⟨q.2.2.1.1, q.2.2.2.1 h.2.1, q.2.2.2.2 h.2.2.1, h.2.2.2.aw q.2.2.1 rfl (by decide) (by decide)⟩
/-- a call by its contract -/
theorem SP.use {t : Nat} {c : yC} {w : qW} {d : Nat} {as : List qV} (T : yCOK w zgf zga zra zSp zgh t c) (h : SP w) (hd : c.1 ≤ d) (ha : yamc c.2.1 as) (hn : c.2.2.2.2.1 = []) (hp : c.2.2.2.2.2.1 = []) (hs : spm c.2.2.2.1 = true) : qG none d t 0 (qini t as) [] w 142 (fun v w' n' => ∃ x, v = (c.2.2.1.1, x) ∧ c.2.2.1.2.1 ≤ x ∧ x ≤ c.2.2.1.2.2 ∧ SP w' ∧ n' = 142) := by
  refine qG.mono (T d as w hd ha h.1 (fun p hp => by rw [hn] at hp; cases hp) (fun e he => by rw [hp] at he; cases he)) (fun v w' n' hh => ?_)
  obtain ⟨⟨h1, h2, h3⟩, h4, h5, h6, -, -⟩ := hh
  exact ⟨v.2, Prod.ext h1 rfl, h2, h3, h.aw (m := c.2.2.2.1) ⟨h4, h6⟩ hs, h5⟩
end
section
/-! what wall answers -/
theorem qG.and {sc : Option (Nat × (Nat → Int))} {d k pc n : Nat} {ls st : List qV} {w : qW} {Q R : qV → qW → Nat → Prop} (h : qG sc d k pc ls st w n Q) (h2 : qG sc d k pc ls st w n R) : qG sc d k pc ls st w n (fun v w' n' => Q v w' n' ∧ R v w' n') := by
  obtain ⟨f, v, w1, n1, e, q⟩ := h
  obtain ⟨g, v2, w2, n2, e2, q2⟩ := h2
  have a := qex_le (Nat.le_max_left f g) _ _ _ _ _ _ _ _ _ e
  have b := qex_le (Nat.le_max_right f g) _ _ _ _ _ _ _ _ _ e2
  rw [a] at b
  cases b
  exact ⟨_, v, w1, n1, a, q, q2⟩
end
section
/-! what piece, stick, truth answer -/
/-- what truth answers -/
noncomputable def truthV (a0 : Int) : Int := if a0 < 0 then 0 else if 1073741823 < a0 then 0 else 1
noncomputable def C_ftruth_X11_l0 : Nat × yC := (195, (1, [(2, 1, 1), (0, (-2147483648), (-1))], (0, 0, 0), [], [], [], [], 0, []))
theorem T_ftruth_X11_l0 {w0 : qW} : yCOK w0 zgf zga zra zSp zgh C_ftruth_X11_l0.1 C_ftruth_X11_l0.2 := yctr (bv := fun _ _ => none) (bb := fun _ => none) (ct := yctl []) (an := fun k pc => none) (fk := fun k pc => none) (f := 100000) zgh0 (fun _ _ _ h => by cases h) (fun _ _ h => by cases h) zSp_ok (fun w hw => yctl_ok (P := fun t c => yCOK w zgf zga zra zSp zgh t c) ylnil) (by decide +kernel)
noncomputable def C_ftruth_X11_h0 : Nat × yC := (195, (1, [(2, 1, 1), (0, 1073741824, 2147483647)], (0, 0, 0), [], [], [], [], 0, []))
theorem T_ftruth_X11_h0 {w0 : qW} : yCOK w0 zgf zga zra zSp zgh C_ftruth_X11_h0.1 C_ftruth_X11_h0.2 := yctr (bv := fun _ _ => none) (bb := fun _ => none) (ct := yctl []) (an := fun k pc => none) (fk := fun k pc => none) (f := 100000) zgh0 (fun _ _ _ h => by cases h) (fun _ _ h => by cases h) zSp_ok (fun w hw => yctl_ok (P := fun t c => yCOK w zgf zga zra zSp zgh t c) ylnil) (by decide +kernel)
noncomputable def C_ftruth_X11_ok : Nat × yC := (195, (1, [(2, 1, 1), (0, 0, 1073741823)], (0, 1, 1), [4061], [], [], [], 0, []))
theorem T_ftruth_X11_ok {w0 : qW} : yCOK w0 zgf zga zra zSp zgh C_ftruth_X11_ok.1 C_ftruth_X11_ok.2 := yctr (bv := fun _ _ => none) (bb := fun _ => none) (ct := yctl []) (an := fun k pc => none) (fk := fun k pc => none) (f := 100000) zgh0 (fun _ _ _ h => by cases h) (fun _ _ h => by cases h) zSp_ok (fun w hw => yctl_ok (P := fun t c => yCOK w zgf zga zra zSp zgh t c) ylnil) (by decide +kernel)
theorem K_X11_truth {d : Nat} (hd : 20 ≤ d) (a0 : Int) (hr0 : -2147483648 ≤ a0 ∧ a0 ≤ 2147483647) (w : qW) (h : SP w) : qG none d 195 0 (qini 195 [(2, 1), (0, a0)]) [] w 142 (fun v w1 n1 => v = (0, truthV a0) ∧ SP w1 ∧ n1 = 142) := by
  unfold truthV
  split
  · refine qG.mono (SP.use (c := C_ftruth_X11_l0.2) T_ftruth_X11_l0 h (Nat.le_trans (by decide) hd) ⟨⟨rfl, by decide, by decide⟩, ⟨rfl, by show ((-2147483648) : Int) ≤ a0; omega, by show a0 ≤ ((-1) : Int); omega⟩, trivial⟩ rfl rfl (by decide +kernel)) ?_
    rintro _ w1 _ ⟨x, rfl, x1, x2, hP, rfl⟩
    exact ⟨(by rw [show x = 0 from Int.le_antisymm x2 x1]; rfl), hP, rfl⟩
  split
  · refine qG.mono (SP.use (c := C_ftruth_X11_h0.2) T_ftruth_X11_h0 h (Nat.le_trans (by decide) hd) ⟨⟨rfl, by decide, by decide⟩, ⟨rfl, by show (1073741824 : Int) ≤ a0; omega, by show a0 ≤ (2147483647 : Int); omega⟩, trivial⟩ rfl rfl (by decide +kernel)) ?_
    rintro _ w1 _ ⟨x, rfl, x1, x2, hP, rfl⟩
    exact ⟨(by rw [show x = 0 from Int.le_antisymm x2 x1]; rfl), hP, rfl⟩
  · refine qG.mono (SP.use (c := C_ftruth_X11_ok.2) T_ftruth_X11_ok h (Nat.le_trans (by decide) hd) ⟨⟨rfl, by decide, by decide⟩, ⟨rfl, by show (0 : Int) ≤ a0; omega, by show a0 ≤ (1073741823 : Int); omega⟩, trivial⟩ rfl rfl (by decide +kernel)) ?_
    rintro _ w1 _ ⟨x, rfl, x1, x2, hP, rfl⟩
    exact ⟨(by rw [show x = 1 from Int.le_antisymm x2 x1]; rfl), hP, rfl⟩
noncomputable def C_ftruth_X12_l0 : Nat × yC := (295, (2, [(2, 95, 95), (0, (-2147483648), (-1))], (0, 0, 0), [], [], [], [], 0, []))
theorem T_ftruth_X12_l0 {w0 : qW} : yCOK w0 zgf zga zra zSp zgh C_ftruth_X12_l0.1 C_ftruth_X12_l0.2 := yctr (bv := fun _ _ => none) (bb := fun _ => none) (ct := yctl []) (an := fun k pc => none) (fk := fun k pc => none) (f := 100000) zgh0 (fun _ _ _ h => by cases h) (fun _ _ h => by cases h) zSp_ok (fun w hw => yctl_ok (P := fun t c => yCOK w zgf zga zra zSp zgh t c) ylnil) (by decide +kernel)
noncomputable def C_ftruth_X12_h0 : Nat × yC := (295, (2, [(2, 95, 95), (0, 1073741824, 2147483647)], (0, 0, 0), [], [], [], [], 0, []))
theorem T_ftruth_X12_h0 {w0 : qW} : yCOK w0 zgf zga zra zSp zgh C_ftruth_X12_h0.1 C_ftruth_X12_h0.2 := yctr (bv := fun _ _ => none) (bb := fun _ => none) (ct := yctl []) (an := fun k pc => none) (fk := fun k pc => none) (f := 100000) zgh0 (fun _ _ _ h => by cases h) (fun _ _ h => by cases h) zSp_ok (fun w hw => yctl_ok (P := fun t c => yCOK w zgf zga zra zSp zgh t c) ylnil) (by decide +kernel)
noncomputable def C_ftruth_X12_ok : Nat × yC := (295, (2, [(2, 95, 95), (0, 0, 1073741823)], (0, 1, 1), [78095], [], [], [], 0, []))
theorem T_ftruth_X12_ok {w0 : qW} : yCOK w0 zgf zga zra zSp zgh C_ftruth_X12_ok.1 C_ftruth_X12_ok.2 := yctr (bv := fun _ _ => none) (bb := fun _ => none) (ct := yctl []) (an := fun k pc => none) (fk := fun k pc => none) (f := 100000) zgh0 (fun _ _ _ h => by cases h) (fun _ _ h => by cases h) zSp_ok (fun w hw => yctl_ok (P := fun t c => yCOK w zgf zga zra zSp zgh t c) ylnil) (by decide +kernel)
theorem K_X12_truth {d : Nat} (hd : 20 ≤ d) (a0 : Int) (hr0 : -2147483648 ≤ a0 ∧ a0 ≤ 2147483647) (w : qW) (h : SP w) : qG none d 295 0 (qini 295 [(2, 95), (0, a0)]) [] w 142 (fun v w1 n1 => v = (0, truthV a0) ∧ SP w1 ∧ n1 = 142) := by
  unfold truthV
  split
  · refine qG.mono (SP.use (c := C_ftruth_X12_l0.2) T_ftruth_X12_l0 h (Nat.le_trans (by decide) hd) ⟨⟨rfl, by decide, by decide⟩, ⟨rfl, by show ((-2147483648) : Int) ≤ a0; omega, by show a0 ≤ ((-1) : Int); omega⟩, trivial⟩ rfl rfl (by decide +kernel)) ?_
    rintro _ w1 _ ⟨x, rfl, x1, x2, hP, rfl⟩
    exact ⟨(by rw [show x = 0 from Int.le_antisymm x2 x1]; rfl), hP, rfl⟩
  split
  · refine qG.mono (SP.use (c := C_ftruth_X12_h0.2) T_ftruth_X12_h0 h (Nat.le_trans (by decide) hd) ⟨⟨rfl, by decide, by decide⟩, ⟨rfl, by show (1073741824 : Int) ≤ a0; omega, by show a0 ≤ (2147483647 : Int); omega⟩, trivial⟩ rfl rfl (by decide +kernel)) ?_
    rintro _ w1 _ ⟨x, rfl, x1, x2, hP, rfl⟩
    exact ⟨(by rw [show x = 0 from Int.le_antisymm x2 x1]; rfl), hP, rfl⟩
  · refine qG.mono (SP.use (c := C_ftruth_X12_ok.2) T_ftruth_X12_ok h (Nat.le_trans (by decide) hd) ⟨⟨rfl, by decide, by decide⟩, ⟨rfl, by show (0 : Int) ≤ a0; omega, by show a0 ≤ (1073741823 : Int); omega⟩, trivial⟩ rfl rfl (by decide +kernel)) ?_
    rintro _ w1 _ ⟨x, rfl, x1, x2, hP, rfl⟩
    exact ⟨(by rw [show x = 1 from Int.le_antisymm x2 x1]; rfl), hP, rfl⟩
end
