/-! results that are functions: neighbours, and with a number -/
theorem ylnil {P : Nat → yC → Prop} : ∀ e ∈ ([] : List (Nat × yC)), P e.1 e.2 := fun _ h => by cases h
theorem ylcons {P : Nat → yC → Prop} {a : Nat × yC} {l : List (Nat × yC)} (ha : P a.1 a.2) (hl : ∀ e ∈ l, P e.1 e.2) : ∀ e ∈ a :: l, P e.1 e.2 := fun e he => by
  rcases List.mem_cons.mp he with rfl | he
  · exact ha
  · exact hl e he
theorem yCOK.sub {w0 w : qW} {gf : Nat → Nat → Option yI} {ga : Nat → Option yI} {ra : Nat → Nat → List Int} {Sp : qW → Prop} {gh : Nat → List Int → Int} {t : Nat} {c : yC} (h : yCOK w0 gf ga ra Sp gh t c) (hw : ∀ p, ymem p c.2.2.2.2.1 = true → ∀ j, w p j = w0 p j) : yCOK w gf ga ra Sp gh t c := fun d as w1 a1 a2 a3 a4 a5 => h d as w1 a1 a2 a3 (fun p hp j => (a4 p hp j).trans (hw p hp j)) a5
noncomputable def zgh (g : Nat) (l : List Int) : Int := bif Nat.beq g 1000 then (match l with
  | [x, c] => qand x c
  | _ => 0) else bif Nat.beq g 1 then (match l with
  | [s, t] => bif nbB s.toNat t.toNat then 1 else 0
  | _ => 0) else bif Nat.beq g 2 then (match l with
  | [s, c] => qdiv 940 (2 * s + 5 * c)
  | _ => 0) else 0
theorem zgh0 : ∀ x c, zgh 1000 [x, c] = qand x c := fun _ _ => rfl
noncomputable def C_areNm : Nat × yC := (213, (1, [(0, 0, 15), (0, 0, 15)], (0, 0, 1), [], [], [], [], 1, [0, 1]))
theorem T_areNm {w0 : qW} : yCOK w0 zgf zga zra zSp zgh C_areNm.1 C_areNm.2 := yctr (bv := fun _ _ => none) (bb := fun _ => none) (ct := yctl []) (an := fun k pc => none) (fk := fun k pc => bif Nat.beq k 213 then (bif Nat.beq pc 0 then some 0 else bif Nat.beq pc 1 then some 1 else none) else none) (f := 100000) zgh0 (fun _ _ _ h => by cases h) (fun _ _ h => by cases h) zSp_ok (fun w hw => yctl_ok (P := fun t c => yCOK w zgf zga zra zSp zgh t c) ylnil) (by decide +kernel)
