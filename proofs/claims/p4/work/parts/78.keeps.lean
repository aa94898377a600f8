/-! what holds between the law's calls -/
def SP (w : qW) : Prop := yInv zgf zga zra zSp w ∧ Sp1 w ∧ Sp2 w ∧ S3 w
def spo (m : List Nat) (p : Nat) : Bool := m.all (fun e => !Nat.beq (e % 1000) p)
def spm2 (m : List Nat) : Bool := spo m 104 && (spo m 105 && (spo m 111 && (spo m 112 && !ymo 95 22 m)))
def spm (m : List Nat) : Bool := spm2 m && (spo m 102 && (spo m 103 && !ymo 95 8 m))
theorem SP.aw2 {m : List Nat} {w w1 : qW} (h : SP w) (a : AW m w w1) (hm : spm2 m = true) (hS : S3 w1) : SP w1 := by
  unfold spm2 at hm
  simp only [Bool.and_eq_true, Bool.not_eq_true'] at hm
  obtain ⟨m1, m2, m3, m4, m5⟩ := hm
  exact ⟨a.1, h.2.1.aw a m1 m2, h.2.2.1.aw a m5 m3 m4, hS⟩
theorem SP.aw {m : List Nat} {w w1 : qW} (h : SP w) (a : AW m w w1) (hm : spm m = true) : SP w1 := by
  unfold spm at hm
  simp only [Bool.and_eq_true, Bool.not_eq_true'] at hm
  obtain ⟨m1, m2, m3, m4⟩ := hm
  exact h.aw2 a m1 (h.2.2.2.aw a m4 m2 m3)
theorem SP.sq {m : List Nat} {w w1 : qW} {r : qV} {n1 : Nat} (h : SP w) (q : SQ m w r w1 n1) (hm : spm2 m = true) : SP w1 := h.aw2 q.2.2.1 hm q.2.2.2
theorem SP.tx {w w1 : qW} {r : qV} {n1 : Nat} (h : SP w) (q : TXQ w r w1 n1) : SP w1 := ⟨q.2.2.1.1, q.2.2.2.1 h.2.1, q.2.2.2.2 h.2.2.1, h.2.2.2.aw q.2.2.1 rfl (by decide) (by decide)⟩
/-- a call by its contract -/
theorem SP.use {t : Nat} {c : yC} {w : qW} {d : Nat} {as : List qV} (T : yCOK w zgf zga zra zSp zgh t c) (h : SP w) (hd : c.1 ≤ d) (ha : yamc c.2.1 as) (hn : c.2.2.2.2.1 = []) (hp : c.2.2.2.2.2.1 = []) (hs : spm c.2.2.2.1 = true) : qG none d t 0 (qini t as) [] w 142 (fun v w' n' => ∃ x, v = (c.2.2.1.1, x) ∧ c.2.2.1.2.1 ≤ x ∧ x ≤ c.2.2.1.2.2 ∧ SP w' ∧ n' = 142) := by
  refine qG.mono (T d as w hd ha h.1 (fun p hp => by rw [hn] at hp; cases hp) (fun e he => by rw [hp] at he; cases he)) (fun v w' n' hh => ?_)
  obtain ⟨⟨h1, h2, h3⟩, h4, h5, h6, -, -⟩ := hh
  exact ⟨v.2, Prod.ext h1 rfl, h2, h3, h.aw (m := c.2.2.2.1) ⟨h4, h6⟩ hs, h5⟩
def C_wk_X11_ok : Nat × yC := (164, (2, [(2, 1, 1), (0, 0, 2), (0, 0, 15), (0, 0, 1)], (0, 1, 1), [1064, 1069, 1074, 2064, 2069, 2074], [], [], [], 0, []))
theorem T_wk_X11_ok {w0 : qW} : yCOK w0 zgf zga zra zSp zgh C_wk_X11_ok.1 C_wk_X11_ok.2 := yctr (bv := fun _ _ => none) (bb := fun _ => none) (ct := yctl []) (an := fun k pc => none) (fk := fun k pc => none) (f := 100000) zgh0 (fun _ _ _ h => by cases h) (fun _ _ h => by cases h) zSp_ok (fun w hw => yctl_ok (P := fun t c => yCOK w zgf zga zra zSp zgh t c) ylnil) (by decide +kernel)
def C_wk_X11_c0 : Nat × yC := (164, (1, [(2, 1, 1), (0, (-2147483648), (-1)), (0, (-2147483648), 2147483647), (0, 0, 1)], (0, 0, 0), [], [], [], [], 0, []))
theorem T_wk_X11_c0 {w0 : qW} : yCOK w0 zgf zga zra zSp zgh C_wk_X11_c0.1 C_wk_X11_c0.2 := yctr (bv := fun _ _ => none) (bb := fun _ => none) (ct := yctl []) (an := fun k pc => none) (fk := fun k pc => none) (f := 100000) zgh0 (fun _ _ _ h => by cases h) (fun _ _ h => by cases h) zSp_ok (fun w hw => yctl_ok (P := fun t c => yCOK w zgf zga zra zSp zgh t c) ylnil) (by decide +kernel)
def C_wk_X11_c3 : Nat × yC := (164, (1, [(2, 1, 1), (0, 3, 2147483647), (0, (-2147483648), 2147483647), (0, 0, 1)], (0, 0, 0), [], [], [], [], 0, []))
theorem T_wk_X11_c3 {w0 : qW} : yCOK w0 zgf zga zra zSp zgh C_wk_X11_c3.1 C_wk_X11_c3.2 := yctr (bv := fun _ _ => none) (bb := fun _ => none) (ct := yctl []) (an := fun k pc => none) (fk := fun k pc => none) (f := 100000) zgh0 (fun _ _ _ h => by cases h) (fun _ _ h => by cases h) zSp_ok (fun w hw => yctl_ok (P := fun t c => yCOK w zgf zga zra zSp zgh t c) ylnil) (by decide +kernel)
def C_wk_X11_s0 : Nat × yC := (164, (2, [(2, 1, 1), (0, 0, 2), (0, (-2147483648), (-1)), (0, 0, 1)], (0, 0, 0), [], [], [], [], 0, []))
theorem T_wk_X11_s0 {w0 : qW} : yCOK w0 zgf zga zra zSp zgh C_wk_X11_s0.1 C_wk_X11_s0.2 := yctr (bv := fun _ _ => none) (bb := fun _ => none) (ct := yctl []) (an := fun k pc => none) (fk := fun k pc => none) (f := 100000) zgh0 (fun _ _ _ h => by cases h) (fun _ _ h => by cases h) zSp_ok (fun w hw => yctl_ok (P := fun t c => yCOK w zgf zga zra zSp zgh t c) ylnil) (by decide +kernel)
def C_wk_X11_s16 : Nat × yC := (164, (2, [(2, 1, 1), (0, 0, 2), (0, 16, 2147483647), (0, 0, 1)], (0, 0, 0), [], [], [], [], 0, []))
theorem T_wk_X11_s16 {w0 : qW} : yCOK w0 zgf zga zra zSp zgh C_wk_X11_s16.1 C_wk_X11_s16.2 := yctr (bv := fun _ _ => none) (bb := fun _ => none) (ct := yctl []) (an := fun k pc => none) (fk := fun k pc => none) (f := 100000) zgh0 (fun _ _ _ h => by cases h) (fun _ _ h => by cases h) zSp_ok (fun w hw => yctl_ok (P := fun t c => yCOK w zgf zga zra zSp zgh t c) ylnil) (by decide +kernel)
def C_wk_X12_ok : Nat × yC := (214, (2, [(2, 95, 95), (0, 0, 2), (0, 0, 15), (0, 0, 1)], (0, 1, 1), [96, 10095], [], [], [], 0, []))
theorem T_wk_X12_ok {w0 : qW} : yCOK w0 zgf zga zra zSp zgh C_wk_X12_ok.1 C_wk_X12_ok.2 := yctr (bv := fun _ _ => none) (bb := fun _ => none) (ct := yctl []) (an := fun k pc => none) (fk := fun k pc => none) (f := 100000) zgh0 (fun _ _ _ h => by cases h) (fun _ _ h => by cases h) zSp_ok (fun w hw => yctl_ok (P := fun t c => yCOK w zgf zga zra zSp zgh t c) ylnil) (by decide +kernel)
def C_wk_X12_c0 : Nat × yC := (214, (2, [(2, 95, 95), (0, (-2147483648), (-1)), (0, (-2147483648), 2147483647), (0, 0, 1)], (0, 0, 0), [], [], [], [], 0, []))
theorem T_wk_X12_c0 {w0 : qW} : yCOK w0 zgf zga zra zSp zgh C_wk_X12_c0.1 C_wk_X12_c0.2 := yctr (bv := fun _ _ => none) (bb := fun _ => none) (ct := yctl []) (an := fun k pc => none) (fk := fun k pc => none) (f := 100000) zgh0 (fun _ _ _ h => by cases h) (fun _ _ h => by cases h) zSp_ok (fun w hw => yctl_ok (P := fun t c => yCOK w zgf zga zra zSp zgh t c) ylnil) (by decide +kernel)
def C_wk_X12_c3 : Nat × yC := (214, (2, [(2, 95, 95), (0, 3, 2147483647), (0, (-2147483648), 2147483647), (0, 0, 1)], (0, 0, 0), [], [], [], [], 0, []))
theorem T_wk_X12_c3 {w0 : qW} : yCOK w0 zgf zga zra zSp zgh C_wk_X12_c3.1 C_wk_X12_c3.2 := yctr (bv := fun _ _ => none) (bb := fun _ => none) (ct := yctl []) (an := fun k pc => none) (fk := fun k pc => none) (f := 100000) zgh0 (fun _ _ _ h => by cases h) (fun _ _ h => by cases h) zSp_ok (fun w hw => yctl_ok (P := fun t c => yCOK w zgf zga zra zSp zgh t c) ylnil) (by decide +kernel)
def C_wk_X12_s0 : Nat × yC := (214, (2, [(2, 95, 95), (0, 0, 2), (0, (-2147483648), (-1)), (0, 0, 1)], (0, 0, 0), [], [], [], [], 0, []))
theorem T_wk_X12_s0 {w0 : qW} : yCOK w0 zgf zga zra zSp zgh C_wk_X12_s0.1 C_wk_X12_s0.2 := yctr (bv := fun _ _ => none) (bb := fun _ => none) (ct := yctl []) (an := fun k pc => none) (fk := fun k pc => none) (f := 100000) zgh0 (fun _ _ _ h => by cases h) (fun _ _ h => by cases h) zSp_ok (fun w hw => yctl_ok (P := fun t c => yCOK w zgf zga zra zSp zgh t c) ylnil) (by decide +kernel)
def C_wk_X12_s16 : Nat × yC := (214, (2, [(2, 95, 95), (0, 0, 2), (0, 16, 2147483647), (0, 0, 1)], (0, 0, 0), [], [], [], [], 0, []))
theorem T_wk_X12_s16 {w0 : qW} : yCOK w0 zgf zga zra zSp zgh C_wk_X12_s16.1 C_wk_X12_s16.2 := yctr (bv := fun _ _ => none) (bb := fun _ => none) (ct := yctl []) (an := fun k pc => none) (fk := fun k pc => none) (f := 100000) zgh0 (fun _ _ _ h => by cases h) (fun _ _ h => by cases h) zSp_ok (fun w hw => yctl_ok (P := fun t c => yCOK w zgf zga zra zSp zgh t c) ylnil) (by decide +kernel)
/-- what works answers -/
def wkV (c s : Int) : Int := if c < 0 then 0 else if 2 < c then 0 else if s < 0 then 0 else if 15 < s then 0 else 1
theorem K_X11_works {d : Nat} (hd : 20 ≤ d) (c s b : Int) (hc : -2147483648 ≤ c ∧ c ≤ 2147483647) (hs : -2147483648 ≤ s ∧ s ≤ 2147483647) (hb : 0 ≤ b ∧ b ≤ 1) (w : qW) (h : SP w) : qG none d 164 0 (qini 164 [(2, 1), (0, c), (0, s), (0, b)]) [] w 142 (fun v w1 n1 => v = (0, wkV c s) ∧ SP w1 ∧ n1 = 142) := by
  unfold wkV
  split
  · refine qG.mono (SP.use (c := C_wk_X11_c0.2) T_wk_X11_c0 h (Nat.le_trans (by decide) hd) ⟨⟨rfl, by decide, by decide⟩, ⟨rfl, hc.1, by show c ≤ (-1 : Int); omega⟩, ⟨rfl, hs.1, hs.2⟩, ⟨rfl, hb.1, hb.2⟩, trivial⟩ rfl rfl (by decide +kernel)) ?_
    rintro _ w1 _ ⟨x, rfl, x1, x2, hP, rfl⟩
    exact ⟨(by rw [show x = 0 from Int.le_antisymm x2 x1]; rfl), hP, rfl⟩
  split
  · refine qG.mono (SP.use (c := C_wk_X11_c3.2) T_wk_X11_c3 h (Nat.le_trans (by decide) hd) ⟨⟨rfl, by decide, by decide⟩, ⟨rfl, by show (3 : Int) ≤ c; omega, hc.2⟩, ⟨rfl, hs.1, hs.2⟩, ⟨rfl, hb.1, hb.2⟩, trivial⟩ rfl rfl (by decide +kernel)) ?_
    rintro _ w1 _ ⟨x, rfl, x1, x2, hP, rfl⟩
    exact ⟨(by rw [show x = 0 from Int.le_antisymm x2 x1]; rfl), hP, rfl⟩
  split
  · refine qG.mono (SP.use (c := C_wk_X11_s0.2) T_wk_X11_s0 h (Nat.le_trans (by decide) hd) ⟨⟨rfl, by decide, by decide⟩, ⟨rfl, by show (0 : Int) ≤ c; omega, by show c ≤ (2 : Int); omega⟩, ⟨rfl, hs.1, by show s ≤ (-1 : Int); omega⟩, ⟨rfl, hb.1, hb.2⟩, trivial⟩ rfl rfl (by decide +kernel)) ?_
    rintro _ w1 _ ⟨x, rfl, x1, x2, hP, rfl⟩
    exact ⟨(by rw [show x = 0 from Int.le_antisymm x2 x1]; rfl), hP, rfl⟩
  split
  · refine qG.mono (SP.use (c := C_wk_X11_s16.2) T_wk_X11_s16 h (Nat.le_trans (by decide) hd) ⟨⟨rfl, by decide, by decide⟩, ⟨rfl, by show (0 : Int) ≤ c; omega, by show c ≤ (2 : Int); omega⟩, ⟨rfl, by show (16 : Int) ≤ s; omega, hs.2⟩, ⟨rfl, hb.1, hb.2⟩, trivial⟩ rfl rfl (by decide +kernel)) ?_
    rintro _ w1 _ ⟨x, rfl, x1, x2, hP, rfl⟩
    exact ⟨(by rw [show x = 0 from Int.le_antisymm x2 x1]; rfl), hP, rfl⟩
  · refine qG.mono (SP.use (c := C_wk_X11_ok.2) T_wk_X11_ok h (Nat.le_trans (by decide) hd) ⟨⟨rfl, by decide, by decide⟩, ⟨rfl, by show (0 : Int) ≤ c; omega, by show c ≤ (2 : Int); omega⟩, ⟨rfl, by show (0 : Int) ≤ s; omega, by show s ≤ (15 : Int); omega⟩, ⟨rfl, hb.1, hb.2⟩, trivial⟩ rfl rfl (by decide +kernel)) ?_
    rintro _ w1 _ ⟨x, rfl, x1, x2, hP, rfl⟩
    exact ⟨(by rw [show x = 1 from Int.le_antisymm x2 x1]; rfl), hP, rfl⟩
theorem K_X12_works {d : Nat} (hd : 20 ≤ d) (c s b : Int) (hc : -2147483648 ≤ c ∧ c ≤ 2147483647) (hs : -2147483648 ≤ s ∧ s ≤ 2147483647) (hb : 0 ≤ b ∧ b ≤ 1) (w : qW) (h : SP w) : qG none d 214 0 (qini 214 [(2, 95), (0, c), (0, s), (0, b)]) [] w 142 (fun v w1 n1 => v = (0, wkV c s) ∧ SP w1 ∧ n1 = 142) := by
  unfold wkV
  split
  · refine qG.mono (SP.use (c := C_wk_X12_c0.2) T_wk_X12_c0 h (Nat.le_trans (by decide) hd) ⟨⟨rfl, by decide, by decide⟩, ⟨rfl, hc.1, by show c ≤ (-1 : Int); omega⟩, ⟨rfl, hs.1, hs.2⟩, ⟨rfl, hb.1, hb.2⟩, trivial⟩ rfl rfl (by decide +kernel)) ?_
    rintro _ w1 _ ⟨x, rfl, x1, x2, hP, rfl⟩
    exact ⟨(by rw [show x = 0 from Int.le_antisymm x2 x1]; rfl), hP, rfl⟩
  split
  · refine qG.mono (SP.use (c := C_wk_X12_c3.2) T_wk_X12_c3 h (Nat.le_trans (by decide) hd) ⟨⟨rfl, by decide, by decide⟩, ⟨rfl, by show (3 : Int) ≤ c; omega, hc.2⟩, ⟨rfl, hs.1, hs.2⟩, ⟨rfl, hb.1, hb.2⟩, trivial⟩ rfl rfl (by decide +kernel)) ?_
    rintro _ w1 _ ⟨x, rfl, x1, x2, hP, rfl⟩
    exact ⟨(by rw [show x = 0 from Int.le_antisymm x2 x1]; rfl), hP, rfl⟩
  split
  · refine qG.mono (SP.use (c := C_wk_X12_s0.2) T_wk_X12_s0 h (Nat.le_trans (by decide) hd) ⟨⟨rfl, by decide, by decide⟩, ⟨rfl, by show (0 : Int) ≤ c; omega, by show c ≤ (2 : Int); omega⟩, ⟨rfl, hs.1, by show s ≤ (-1 : Int); omega⟩, ⟨rfl, hb.1, hb.2⟩, trivial⟩ rfl rfl (by decide +kernel)) ?_
    rintro _ w1 _ ⟨x, rfl, x1, x2, hP, rfl⟩
    exact ⟨(by rw [show x = 0 from Int.le_antisymm x2 x1]; rfl), hP, rfl⟩
  split
  · refine qG.mono (SP.use (c := C_wk_X12_s16.2) T_wk_X12_s16 h (Nat.le_trans (by decide) hd) ⟨⟨rfl, by decide, by decide⟩, ⟨rfl, by show (0 : Int) ≤ c; omega, by show c ≤ (2 : Int); omega⟩, ⟨rfl, by show (16 : Int) ≤ s; omega, hs.2⟩, ⟨rfl, hb.1, hb.2⟩, trivial⟩ rfl rfl (by decide +kernel)) ?_
    rintro _ w1 _ ⟨x, rfl, x1, x2, hP, rfl⟩
    exact ⟨(by rw [show x = 0 from Int.le_antisymm x2 x1]; rfl), hP, rfl⟩
  · refine qG.mono (SP.use (c := C_wk_X12_ok.2) T_wk_X12_ok h (Nat.le_trans (by decide) hd) ⟨⟨rfl, by decide, by decide⟩, ⟨rfl, by show (0 : Int) ≤ c; omega, by show c ≤ (2 : Int); omega⟩, ⟨rfl, by show (0 : Int) ≤ s; omega, by show s ≤ (15 : Int); omega⟩, ⟨rfl, hb.1, hb.2⟩, trivial⟩ rfl rfl (by decide +kernel)) ?_
    rintro _ w1 _ ⟨x, rfl, x1, x2, hP, rfl⟩
    exact ⟨(by rw [show x = 1 from Int.le_antisymm x2 x1]; rfl), hP, rfl⟩
