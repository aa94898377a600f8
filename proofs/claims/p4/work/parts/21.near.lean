/-! results that are functions: neighbours, and with a number -/
theorem ylnil {P : Nat → yC → Prop} : ∀ e ∈ ([] : List (Nat × yC)), P e.1 e.2 := fun _ h => by cases h
theorem ylcons {P : Nat → yC → Prop} {a : Nat × yC} {l : List (Nat × yC)} (ha : P a.1 a.2) (hl : ∀ e ∈ l, P e.1 e.2) : ∀ e ∈ a :: l, P e.1 e.2 := fun e he => by
  rcases List.mem_cons.mp he with rfl | he
  · exact ha
  · exact hl e he
theorem yCOK.sub {w0 w : qW} {gf : Nat → Nat → Option yI} {ga : Nat → Option yI} {ra : Nat → Nat → List Int} {Sp : qW → Prop} {gh : Nat → List Int → Int} {t : Nat} {c : yC} (h : yCOK w0 gf ga ra Sp gh t c) (hw : ∀ p, ymem p c.2.2.2.2.1 = true → ∀ j, w p j = w0 p j) : yCOK w gf ga ra Sp gh t c := fun d as w1 a1 a2 a3 a4 a5 => h d as w1 a1 a2 a3 (fun p hp j => (a4 p hp j).trans (hw p hp j)) a5
def ysubn (a b : List Nat) : Bool := a.all (fun p => ymem p b)
theorem yneed {a b : List Nat} {p : Nat} (h : ysubn a b = true) (hp : ymem p a = true) : ymem p b = true := by
  have key : ∀ (a : List Nat), ysubn a b = true → ymem p a = true → ymem p b = true := by
    intro a
    induction a with
    | nil => intro _ h; cases h
    | cons q a ih =>
      intro h hp
      unfold ysubn at h ih
      rw [List.all_cons, Bool.and_eq_true] at h
      have hp : (Nat.beq q p || ymem p a) = true := hp
      rw [Bool.or_eq_true] at hp
      rcases hp with hp | hp
      · rw [← Nat.eq_of_beq_eq_true hp]; exact h.1
      · exact ih h.2 hp
  exact key a h hp
def zgh (g : Nat) (l : List Int) : Int := bif Nat.beq g 1000 then (match l with
  | [x, c] => qand x c
  | _ => 0) else bif Nat.beq g 1 then (match l with
  | [s, t] => bif nbB s.toNat t.toNat then 1 else 0
  | _ => 0) else bif Nat.beq g 2 then (match l with
  | [s, c] => qdiv 940 (2 * s + 5 * c)
  | _ => 0) else 0
theorem zgh0 : ∀ x c, zgh 1000 [x, c] = qand x c := fun _ _ => rfl
def C_areNx : Nat × yC := (18, (1, [(0, 0, 15), (0, 0, 15)], (0, 0, 1), [], [], [], [], 1, [0, 1]))
theorem T_areNx {w0 : qW} : yCOK w0 zgf zga zra zSp zgh C_areNx.1 C_areNx.2 := yctr (bv := fun _ _ => none) (bb := fun _ => none) (ct := yctl []) (an := fun k pc => none) (fk := fun k pc => bif Nat.beq k 18 then (bif Nat.beq pc 0 then some 0 else bif Nat.beq pc 1 then some 1 else none) else none) (f := 100000) zgh0 (fun _ _ _ h => by cases h) (fun _ _ h => by cases h) zSp_ok (fun w hw => yctl_ok (P := fun t c => yCOK w zgf zga zra zSp zgh t c) ylnil) (by decide +kernel)
def C_areNm : Nat × yC := (213, (1, [(0, 0, 15), (0, 0, 15)], (0, 0, 1), [], [], [], [], 1, [0, 1]))
theorem T_areNm {w0 : qW} : yCOK w0 zgf zga zra zSp zgh C_areNm.1 C_areNm.2 := yctr (bv := fun _ _ => none) (bb := fun _ => none) (ct := yctl []) (an := fun k pc => none) (fk := fun k pc => bif Nat.beq k 213 then (bif Nat.beq pc 0 then some 0 else bif Nat.beq pc 1 then some 1 else none) else none) (f := 100000) zgh0 (fun _ _ _ h => by cases h) (fun _ _ h => by cases h) zSp_ok (fun w hw => yctl_ok (P := fun t c => yCOK w zgf zga zra zSp zgh t c) ylnil) (by decide +kernel)
def C_airx_64 : Nat × yC := (31, (4, [(2, 64, 64), (0, 1, 4), (0, 0, 3)], (0, 0, 9999), [], [64, 65, 66, 67, 68], [], [], 2, [1, 2]))
theorem T_airx_64 {w0 : qW} (hF : zF w0) : yCOK w0 zgf zga zra zSp zgh C_airx_64.1 C_airx_64.2 := yctr (bv := zbv) (bb := zbb) (ct := yctl []) (an := fun k pc => bif Nat.beq k 32 then (bif Nat.beq pc 4 then some ([none, none, some (0, 0, 10)], [], [(2, (-1))]) else none) else none) (fk := fun k pc => bif Nat.beq k 31 then (bif Nat.beq pc 0 then some 1 else bif Nat.beq pc 1 then some 2 else none) else none) (f := 100000) zgh0 (zbv_ok hF) (zbb_ok1 hF) zSp_ok (fun w hw => yctl_ok (P := fun t c => yCOK w zgf zga zra zSp zgh t c) ylnil) (by decide +kernel)
def C_airx_69 : Nat × yC := (31, (4, [(2, 69, 69), (0, 1, 4), (0, 0, 3)], (0, 0, 9999), [], [69, 70, 71, 72, 73], [], [], 2, [1, 2]))
theorem T_airx_69 {w0 : qW} (hF : zF w0) : yCOK w0 zgf zga zra zSp zgh C_airx_69.1 C_airx_69.2 := yctr (bv := zbv) (bb := zbb) (ct := yctl []) (an := fun k pc => bif Nat.beq k 32 then (bif Nat.beq pc 4 then some ([none, none, some (0, 0, 10)], [], [(2, (-1))]) else none) else none) (fk := fun k pc => bif Nat.beq k 31 then (bif Nat.beq pc 0 then some 1 else bif Nat.beq pc 1 then some 2 else none) else none) (f := 100000) zgh0 (zbv_ok hF) (zbb_ok1 hF) zSp_ok (fun w hw => yctl_ok (P := fun t c => yCOK w zgf zga zra zSp zgh t c) ylnil) (by decide +kernel)
def C_airx_74 : Nat × yC := (31, (4, [(2, 74, 74), (0, 1, 4), (0, 0, 3)], (0, 0, 9999), [], [74, 75, 76, 77, 78], [], [], 2, [1, 2]))
theorem T_airx_74 {w0 : qW} (hF : zF w0) : yCOK w0 zgf zga zra zSp zgh C_airx_74.1 C_airx_74.2 := yctr (bv := zbv) (bb := zbb) (ct := yctl []) (an := fun k pc => bif Nat.beq k 32 then (bif Nat.beq pc 4 then some ([none, none, some (0, 0, 10)], [], [(2, (-1))]) else none) else none) (fk := fun k pc => bif Nat.beq k 31 then (bif Nat.beq pc 0 then some 1 else bif Nat.beq pc 1 then some 2 else none) else none) (f := 100000) zgh0 (zbv_ok hF) (zbb_ok1 hF) zSp_ok (fun w hw => yctl_ok (P := fun t c => yCOK w zgf zga zra zSp zgh t c) ylnil) (by decide +kernel)
def C_airm : Nat × yC := (273, (4, [(2, 95, 95), (0, 0, 2), (0, 1, 4), (0, 0, 3)], (0, 0, 9999), [], [95, 96, 97, 98, 99, 100], [], [], 2, [2, 3]))
theorem T_airm {w0 : qW} (hF : zF w0) : yCOK w0 zgf zga zra zSp zgh C_airm.1 C_airm.2 := yctr (bv := zbv) (bb := zbb) (ct := yctl []) (an := fun k pc => bif Nat.beq k 211 then (bif Nat.beq pc 4 then some ([none, none, some (0, 0, 16)], [], [(2, (-1))]) else none) else bif Nat.beq k 273 then (bif Nat.beq pc 49 then some ([none, none, none, none, none, some (0, 0, 10)], [], [(5, (-1))]) else none) else none) (fk := fun k pc => bif Nat.beq k 273 then (bif Nat.beq pc 0 then some 2 else bif Nat.beq pc 1 then some 3 else none) else none) (f := 100000) zgh0 (zbv_ok hF) (zbb_ok1 hF) zSp_ok (fun w hw => yctl_ok (P := fun t c => yCOK w zgf zga zra zSp zgh t c) ylnil) (by decide +kernel)
