section
/-! the program run over plain numbers: values (kind, number), a world w of cells and slots, n cells made -/
noncomputable abbrev qV : Type := Nat × Int
noncomputable abbrev qW : Type := Nat → Nat → Int
noncomputable abbrev qC : Type := Nat × List qV × List qV × qW × Nat
noncomputable def wrp (x : Int) : Int := (x + 2147483648) % 4294967296 - 2147483648
noncomputable def wrl (x : Int) : Int := (x + 9223372036854775808) % 18446744073709551616 - 9223372036854775808
noncomputable def qand (x y : Int) : Int := (Int32.ofInt x &&& Int32.ofInt y).toInt
noncomputable def qor (x y : Int) : Int := (Int32.ofInt x ||| Int32.ofInt y).toInt
noncomputable def qxor (x y : Int) : Int := (Int32.ofInt x ^^^ Int32.ofInt y).toInt
noncomputable def qshl (x y : Int) : Int := (Int32.ofInt x <<< (Int32.ofInt y &&& 31)).toInt
noncomputable def qshr (x y : Int) : Int := (Int32.ofInt x >>> (Int32.ofInt y &&& 31)).toInt
noncomputable def qush (x y : Int) : Int := (((Int32.ofInt x).toUInt32 >>> ((Int32.ofInt y).toUInt32 &&& Int32.toUInt32 31)).toInt32).toInt
noncomputable def qdiv (x y : Int) : Int := wrp (x.tdiv y)
noncomputable def qrem (x y : Int) : Int := wrp (x - wrp (x.tdiv y) * y)
noncomputable def qland (x y : Int) : Int := (Int64.ofInt x &&& Int64.ofInt y).toInt
noncomputable def qlor (x y : Int) : Int := (Int64.ofInt x ||| Int64.ofInt y).toInt
noncomputable def qlshl (x y : Int) : Int := (Int64.ofInt x <<< ((Int32.ofInt y).toInt64 &&& 63)).toInt
noncomputable def qlush (x y : Int) : Int := (((Int64.ofInt x).toUInt64 >>> ((Int32.ofInt y).toInt64.toUInt64 &&& Int64.toUInt64 63)).toInt64).toInt
noncomputable def qldiv (x y : Int) : Int := wrl (x.tdiv y)
noncomputable def qi2b (x : Int) : Int := (x + 128) % 256 - 128
noncomputable def qcmp (x y : Int) : Int := if x < y then -1 else if x = y then 0 else 1
noncomputable def qtg (pc : Nat) (off : Int) : Nat := ((pc : Int) + off).toNat
/-- a list's place, (9, 0) behind its end -/
noncomputable def qnt : List qV → Nat → qV
  | [], _ => (9, 0)
  | a :: _, 0 => a
  | _ :: l, i + 1 => qnt l i
noncomputable def qset : List qV → Nat → qV → List qV
  | [], _, _ => []
  | _ :: l, 0, v => v :: l
  | a :: l, i + 1, v => a :: qset l i v
/-- a local is written: a long's other half goes -/
noncomputable def qhf (ls : List qV) (i : Nat) : List qV := match i with
  | 0 => ls
  | j + 1 => match qnt ls j with
    | (1, _) => qset ls j (9, 0)
    | _ => ls
noncomputable def qst (ls : List qV) (i : Nat) (v : qV) : List qV := match v with
  | (1, _) => qset (qset (qhf ls i) i v) (i + 1) (9, 0)
  | _ => qset (qhf ls i) i v
noncomputable def qup (w : qW) (p j : Nat) (v : Int) : qW := fun p' => if p' = p then (fun j' => if j' = j then v else w p j') else w p'
/-- from cell a on the cells are new -/
noncomputable def qclr (w : qW) (a : Nat) : qW := fun p => if Nat.ble a p then (fun _ => 0) else w p
noncomputable def qbr {α : Type} (c : Jvm.ClassFile.Cond) (x y : Int) (a b : α) : α := match c with
  | .eq => if x = y then a else b
  | .ne => if x = y then b else a
  | .lt => if x < y then a else b
  | .ge => if x < y then b else a
  | .gt => if y < x then a else b
  | .le => if y < x then b else a
/-- a switch as a row of tests -/
noncomputable def qtsw (f : Nat → Option qC) (pc : Nat) (x dflt : Int) : List Int → Int → Option qC
  | [], _ => f (qtg pc dflt)
  | o :: r, c => if x = c then f (qtg pc o) else qtsw f pc x dflt r (c + 1)
noncomputable def qat (a : ArrayType) : Nat := match a with
  | .int => 0
  | .long => 1
  | .boolean => 3
  | .byte => 4
  | _ => 8
noncomputable def qpush (kd : Nat) (x : Int) (st : List qV) : Option (List qV) := match kd with
  | 0 => some ((0, x) :: st)
  | 1 => some ((1, x) :: st)
  | 2 => some ((2, x) :: st)
  | 3 => some ((0, x) :: st)
  | _ => none
/-- one instruction that neither calls nor returns -/
noncomputable def qs1 (sc : Option (Nat × (Nat → Int))) (k : Nat) (ins : Instr) (len pc : Nat) (ls st : List qV) (w : qW) (n : Nat) : Option qC :=
  match ins with
  | .iload i => match qnt ls i with
    | (0, x) => some (pc + 2, ls, (0, x) :: st, w, n)
    | _ => none
  | .iload_n i => match qnt ls i.val with
    | (0, x) => some (pc + 1, ls, (0, x) :: st, w, n)
    | _ => none
  | .lload i => match qnt ls i with
    | (1, x) => some (pc + 2, ls, (1, x) :: st, w, n)
    | _ => none
  | .lload_n i => match qnt ls i.val with
    | (1, x) => some (pc + 1, ls, (1, x) :: st, w, n)
    | _ => none
  | .aload i => match qnt ls i with
    | (2, x) => some (pc + 2, ls, (2, x) :: st, w, n)
    | (3, x) => some (pc + 2, ls, (3, x) :: st, w, n)
    | _ => none
  | .aload_n i => match qnt ls i.val with
    | (2, x) => some (pc + 1, ls, (2, x) :: st, w, n)
    | (3, x) => some (pc + 1, ls, (3, x) :: st, w, n)
    | _ => none
  | .istore i => match st with
    | (0, x) :: r => if Nat.blt i (qml k) then some (pc + 2, qst ls i (0, x), r, w, n) else none
    | _ => none
  | .istore_n i => match st with
    | (0, x) :: r => if Nat.blt i.val (qml k) then some (pc + 1, qst ls i.val (0, x), r, w, n) else none
    | _ => none
  | .lstore i => match st with
    | (1, x) :: r => if Nat.blt (i + 1) (qml k) then some (pc + 2, qst ls i (1, x), r, w, n) else none
    | _ => none
  | .lstore_n i => match st with
    | (1, x) :: r => if Nat.blt (i.val + 1) (qml k) then some (pc + 1, qst ls i.val (1, x), r, w, n) else none
    | _ => none
  | .astore_n i => match st with
    | (2, x) :: r => if Nat.blt i.val (qml k) then some (pc + 1, qst ls i.val (2, x), r, w, n) else none
    | _ => none
  | .iinc i c => match qnt ls i with
    | (0, x) => if Nat.blt i (qml k) then some (pc + 3, qst ls i (0, wrp (x + c)), st, w, n) else none
    | _ => none
  | .iconst c => some (pc + 1, ls, (0, c) :: st, w, n)
  | .bipush c => some (pc + 2, ls, (0, c) :: st, w, n)
  | .sipush c => some (pc + 3, ls, (0, c) :: st, w, n)
  | .lconst c => some (pc + 1, ls, (1, (c.val : Int)) :: st, w, n)
  | .aconst_null => some (pc + 1, ls, (2, 0) :: st, w, n)
  | .ldc i => match qkn (qow k) i with
    | some (0, v) => some (pc + 2, ls, (0, v) :: st, w, n)
    | some (3, v) => some (pc + 2, ls, (3, v) :: st, w, n)
    | _ => none
  | .ldc_w i => match qkn (qow k) i with
    | some (0, v) => some (pc + 3, ls, (0, v) :: st, w, n)
    | some (3, v) => some (pc + 3, ls, (3, v) :: st, w, n)
    | _ => none
  | .ldc2_w i => match qkn (qow k) i with
    | some (1, v) => some (pc + 3, ls, (1, v) :: st, w, n)
    | _ => none
  | .dup => match st with
    | (0, x) :: r => some (pc + 1, ls, (0, x) :: (0, x) :: r, w, n)
    | (2, x) :: r => some (pc + 1, ls, (2, x) :: (2, x) :: r, w, n)
    | _ => none
  | .dup2 => match st with
    | (0, x) :: (2, y) :: r => some (pc + 1, ls, (0, x) :: (2, y) :: (0, x) :: (2, y) :: r, w, n)
    | _ => none
  | .pop => match st with
    | (0, _) :: r => some (pc + 1, ls, r, w, n)
    | _ => none
  | .iadd => match st with
    | (0, y) :: (0, x) :: r => some (pc + 1, ls, (0, wrp (x + y)) :: r, w, n)
    | _ => none
  | .isub => match st with
    | (0, y) :: (0, x) :: r => some (pc + 1, ls, (0, wrp (x - y)) :: r, w, n)
    | _ => none
  | .imul => match st with
    | (0, y) :: (0, x) :: r => some (pc + 1, ls, (0, wrp (x * y)) :: r, w, n)
    | _ => none
  | .idiv => match st with
    | (0, y) :: (0, x) :: r => if y = 0 then none else some (pc + 1, ls, (0, qdiv x y) :: r, w, n)
    | _ => none
  | .irem => match st with
    | (0, y) :: (0, x) :: r => if y = 0 then none else some (pc + 1, ls, (0, qrem x y) :: r, w, n)
    | _ => none
  | .ineg => match st with
    | (0, x) :: r => some (pc + 1, ls, (0, wrp (-x)) :: r, w, n)
    | _ => none
  | .iand => match st with
    | (0, y) :: (0, x) :: r => some (pc + 1, ls, (0, qand x y) :: r, w, n)
    | _ => none
  | .ior => match st with
    | (0, y) :: (0, x) :: r => some (pc + 1, ls, (0, qor x y) :: r, w, n)
    | _ => none
  | .ixor => match st with
    | (0, y) :: (0, x) :: r => some (pc + 1, ls, (0, qxor x y) :: r, w, n)
    | _ => none
  | .ishl => match st with
    | (0, y) :: (0, x) :: r => some (pc + 1, ls, (0, qshl x y) :: r, w, n)
    | _ => none
  | .ishr => match st with
    | (0, y) :: (0, x) :: r => some (pc + 1, ls, (0, qshr x y) :: r, w, n)
    | _ => none
  | .iushr => match st with
    | (0, y) :: (0, x) :: r => some (pc + 1, ls, (0, qush x y) :: r, w, n)
    | _ => none
  | .ladd => match st with
    | (1, y) :: (1, x) :: r => some (pc + 1, ls, (1, wrl (x + y)) :: r, w, n)
    | _ => none
  | .lsub => match st with
    | (1, y) :: (1, x) :: r => some (pc + 1, ls, (1, wrl (x - y)) :: r, w, n)
    | _ => none
  | .lmul => match st with
    | (1, y) :: (1, x) :: r => some (pc + 1, ls, (1, wrl (x * y)) :: r, w, n)
    | _ => none
  | .ldiv => match st with
    | (1, y) :: (1, x) :: r => if y = 0 then none else some (pc + 1, ls, (1, qldiv x y) :: r, w, n)
    | _ => none
  | .land => match st with
    | (1, y) :: (1, x) :: r => some (pc + 1, ls, (1, qland x y) :: r, w, n)
    | _ => none
  | .lor => match st with
    | (1, y) :: (1, x) :: r => some (pc + 1, ls, (1, qlor x y) :: r, w, n)
    | _ => none
  | .lshl => match st with
    | (0, y) :: (1, x) :: r => some (pc + 1, ls, (1, qlshl x y) :: r, w, n)
    | _ => none
  | .lushr => match st with
    | (0, y) :: (1, x) :: r => some (pc + 1, ls, (1, qlush x y) :: r, w, n)
    | _ => none
  | .lcmp => match st with
    | (1, y) :: (1, x) :: r => some (pc + 1, ls, (0, qcmp x y) :: r, w, n)
    | _ => none
  | .i2l => match st with
    | (0, x) :: r => some (pc + 1, ls, (1, x) :: r, w, n)
    | _ => none
  | .l2i => match st with
    | (1, x) :: r => some (pc + 1, ls, (0, wrp x) :: r, w, n)
    | _ => none
  | .i2b => match st with
    | (0, x) :: r => some (pc + 1, ls, (0, qi2b x) :: r, w, n)
    | _ => none
  | .i2c => match st with
    | (0, x) :: r => some (pc + 1, ls, (0, x % 65536) :: r, w, n)
    | _ => none
  | .goto off => some (qtg pc off, ls, st, w, n)
  | .ifCond c off => match st with
    | (0, x) :: r => qbr c x 0 (some (qtg pc off, ls, r, w, n)) (some (pc + 3, ls, r, w, n))
    | _ => none
  | .if_icmp c off => match st with
    | (0, y) :: (0, x) :: r => qbr c x y (some (qtg pc off, ls, r, w, n)) (some (pc + 3, ls, r, w, n))
    | _ => none
  | .if_acmp c off => match c, st with
    | .ne, (2, y) :: (2, x) :: r => if x = y then some (pc + 3, ls, r, w, n) else some (qtg pc off, ls, r, w, n)
    | _, _ => none
  | .tableswitch dflt lo _ offs => match st with
    | (0, x) :: r => qtsw (fun t => some (t, ls, r, w, n)) pc x dflt offs.toList lo
    | _ => none
  | .getfield i => match qfd (qow k) i, st with
    | some (ci, j, kd, _), (2, p) :: r => match qpl p.toNat with
      | (0, c, _, _) => if Nat.beq c ci then (match qpush kd (w p.toNat j) r with
        | some r' => if 0 < p ∧ p ≤ n then some (pc + 3, ls, r', w, n) else none
        | none => none) else none
      | _ => none
    | _, _ => none
  | .putfield i => match qfd (qow k) i, st with
    | some (ci, j, kd, fin), (t, v) :: (2, p) :: r => match qpl p.toNat with
      | (0, c, _, _) => if Nat.beq c ci && (Nat.beq fin 0 || qin k) then (match kd, t with
        | 0, 0 => if 0 < p ∧ p ≤ n then some (pc + 3, ls, r, qup w p.toNat j v, n) else none
        | 2, 2 => if 0 < p ∧ p ≤ n then some (pc + 3, ls, r, qup w p.toNat j v, n) else none
        | 3, 0 => if (0 < p ∧ p ≤ n) ∧ 0 ≤ v ∧ v ≤ 1 then some (pc + 3, ls, r, qup w p.toNat j v, n) else none
        | _, _ => none) else none
      | _ => none
    | _, _ => none
  | .iaload => match st with
    | (0, i) :: (2, p) :: r => match qpl p.toNat with
      | (1, 0, m, _) => if 0 ≤ i ∧ i < m then (if 0 < p ∧ p ≤ n then some (pc + 1, ls, (0, w p.toNat i.toNat) :: r, w, n) else none) else none
      | _ => none
    | (0, i) :: (3, 0) :: r => match sc with
      | some (L, xs) => if 0 ≤ i ∧ i < L then some (pc + 1, ls, (0, xs i.toNat) :: r, w, n) else none
      | none => none
    | _ => none
  | .baload => match st with
    | (0, i) :: (2, p) :: r => match qpl p.toNat with
      | (1, 3, m, _) => if 0 ≤ i ∧ i < m then (if 0 < p ∧ p ≤ n then some (pc + 1, ls, (0, w p.toNat i.toNat) :: r, w, n) else none) else none
      | (1, 4, m, _) => if 0 ≤ i ∧ i < m then (if 0 < p ∧ p ≤ n then some (pc + 1, ls, (0, w p.toNat i.toNat) :: r, w, n) else none) else none
      | _ => none
    | _ => none
  | .laload => match st with
    | (0, i) :: (2, p) :: r => match qpl p.toNat with
      | (1, 1, m, _) => if 0 ≤ i ∧ i < m then (if 0 < p ∧ p ≤ n then some (pc + 1, ls, (1, w p.toNat i.toNat) :: r, w, n) else none) else none
      | _ => none
    | _ => none
  | .aaload => match st with
    | (0, i) :: (2, p) :: r => match qpl p.toNat with
      | (1, 2, m, _) => if 0 ≤ i ∧ i < m then (if 0 < p ∧ p ≤ n then some (pc + 1, ls, (2, w p.toNat i.toNat) :: r, w, n) else none) else none
      | _ => none
    | _ => none
  | .iastore => match st with
    | (0, v) :: (0, i) :: (2, p) :: r => match qpl p.toNat with
      | (1, 0, m, _) => if 0 ≤ i ∧ i < m then (if 0 < p ∧ p ≤ n then some (pc + 1, ls, r, qup w p.toNat i.toNat v, n) else none) else none
      | _ => none
    | _ => none
  | .bastore => match st with
    | (0, v) :: (0, i) :: (2, p) :: r => match qpl p.toNat with
      | (1, 3, m, _) => if (0 ≤ i ∧ i < m) ∧ 0 ≤ v ∧ v ≤ 1 then (if 0 < p ∧ p ≤ n then some (pc + 1, ls, r, qup w p.toNat i.toNat v, n) else none) else none
      | (1, 4, m, _) => if (0 ≤ i ∧ i < m) ∧ -128 ≤ v ∧ v ≤ 127 then (if 0 < p ∧ p ≤ n then some (pc + 1, ls, r, qup w p.toNat i.toNat v, n) else none) else none
      | _ => none
    | _ => none
  | .lastore => match st with
    | (1, v) :: (0, i) :: (2, p) :: r => match qpl p.toNat with
      | (1, 1, m, _) => if 0 ≤ i ∧ i < m then (if 0 < p ∧ p ≤ n then some (pc + 1, ls, r, qup w p.toNat i.toNat v, n) else none) else none
      | _ => none
    | _ => none
  | .aastore => match st with
    | (2, v) :: (0, i) :: (2, p) :: r => match qpl p.toNat, qpl v.toNat with
      | (1, 2, m, c), (0, ci, _, _) => if Nat.beq c ci then (if 0 ≤ i ∧ i < m then (if (0 < p ∧ p ≤ n) ∧ 0 < v ∧ v ≤ n then some (pc + 1, ls, r, qup w p.toNat i.toNat v, n) else none) else none) else none
      | _, _ => none
    | _ => none
  | .arraylength => match st with
    | (2, p) :: r => match qpl p.toNat with
      | (1, _, m, _) => if 0 < p ∧ p ≤ n then some (pc + 1, ls, (0, (m : Int)) :: r, w, n) else none
      | _ => none
    | (3, 0) :: r => match sc with
      | some (L, _) => some (pc + 1, ls, (0, (L : Int)) :: r, w, n)
      | none => none
    | _ => none
  | .new i => match qcl (qow k) i, qpl (n + 1) with
    | some ci, (0, c, _, _) => if Nat.beq c ci then some (pc + 3, ls, (2, (n : Int) + 1) :: st, qclr w (n + 1), n + 1) else none
    | _, _ => none
  | .newarray a => match st, qpl (n + 1) with
    | (0, v) :: r, (1, e, m, _) => if Nat.beq e (qat a) then (if v = m then some (pc + 2, ls, (2, (n : Int) + 1) :: r, qclr w (n + 1), n + 1) else none) else none
    | _, _ => none
  | .anewarray i => match qcl (qow k) i, st, qpl (n + 1) with
    | some ci, (0, v) :: r, (1, 2, m, c) => if Nat.beq c ci && Nat.blt c 13 then (if v = m then some (pc + 3, ls, (2, (n : Int) + 1) :: r, qclr w (n + 1), n + 1) else none) else none
    | _, _, _ => none
  | .multianewarray i d => match qcl (qow k) i, d, st, qpl (n + 1) with
    | some 99, 2, (0, u) :: (0, v) :: r, (1, 2, m, 99) => if v = m ∧ 0 ≤ u then (if (List.range m).all (fun i => match qpl (n + 2 + i) with
        | (1, 1, h, _) => decide ((h : Int) = u)
        | _ => false) = true then some (pc + 4, ls, (2, (n : Int) + 1) :: r, fun p => if p = n + 1 then (fun j => if j < m then ((n + 2 + j : Nat) : Int) else 0) else qclr w (n + 1) p, n + 1 + m) else none) else none
    | _, _, _, _ => none
  | _ => none
noncomputable def qcat (l : List qV) : Nat := match l with
  | [] => 0
  | (1, _) :: r => 2 + qcat r
  | _ :: r => 1 + qcat r
/-- the locals at a method's entry -/
noncomputable def qlay : List qV → List qV
  | [] => []
  | (1, x) :: r => (1, x) :: (9, 0) :: qlay r
  | a :: r => a :: qlay r
noncomputable def qpad : Nat → List qV → List qV
  | 0, _ => []
  | m + 1, [] => (9, 0) :: qpad m []
  | m + 1, a :: l => a :: qpad m l
noncomputable def qini (k : Nat) (as : List qV) : List qV := qpad (qml k) (qlay as)
noncomputable def qtk : Nat → List qV → List qV → List qV
  | 0, _, acc => acc
  | m + 1, a :: l, acc => qtk m l (a :: acc)
  | _ + 1, [], acc => acc
noncomputable def qdr : Nat → List qV → List qV
  | 0, l => l
  | m + 1, _ :: l => qdr m l
  | _ + 1, [] => []
noncomputable def qrok (rt : Nat) (v : qV) : Bool := match rt, v with
  | 1, (0, _) => true
  | 2, (0, x) => decide (0 ≤ x ∧ x ≤ 1)
  | _, _ => false
noncomputable def qpsh (v : qV) (st : List qV) : List qV := match v with
  | (9, _) => st
  | a => a :: st
/-- the arguments of a call: no text or script, and for an instance method the receiver a made object of the class of the method -/
noncomputable def qaok (t st n : Nat) (as : List qV) : Bool := as.all (fun v => Nat.blt v.1 3 || (Nat.beq v.1 3 && decide (0 < v.2))) && (match st, as with
  | 0, _ => true
  | _, (2, p) :: _ => match qpl p.toNat with
    | (0, c, _, _) => Nat.beq c (qow t) && decide (0 < p ∧ p ≤ n)
    | _ => false
  | _, _ => false)
/-- copying between arrays of ints -/
noncomputable def qcpy (w : qW) (a b s d m : Nat) : qW := fun p => if p = b then (fun j => if d ≤ j ∧ j < d + m then w a (s + (j - d)) else w b j) else w p
noncomputable def qac (pc : Nat) (ls st : List qV) (w : qW) (n : Nat) : Option qC := match st with
  | (0, m) :: (0, d) :: (2, b) :: (0, s) :: (2, a) :: r => match qpl a.toNat, qpl b.toNat with
    | (1, 0, la, _), (1, 0, lb, _) => if (0 ≤ m ∧ 0 ≤ d ∧ 0 ≤ s ∧ s + m ≤ la ∧ d + m ≤ lb) ∧ (0 < a ∧ a ≤ n) ∧ 0 < b ∧ b ≤ n then some (pc + 3, ls, r, qcpy w a.toNat b.toNat s.toNat d.toNat m.toNat, n) else none
    | _, _ => none
  | _ => none
/-- a text's bytes, where a byte stands first -/
noncomputable def qtxb (x : Int) : Option (List Int) := bif decide (x ≤ 0) then none else qtc[(x - 1).toNat]?
noncomputable def qix : List Int → Int → Int → Int
  | [], _, _ => -1
  | b :: l, c, k => if b = c then k else qix l c (k + 1)
/-- Math.abs, max, min of ints, max of longs -/
noncomputable def qmt (t pc : Nat) (ls st : List qV) (w : qW) (n : Nat) : Option qC := match t, st with
  | 902, (0, x) :: r => some (pc + 3, ls, (0, if 0 ≤ x then x else wrp (0 - x)) :: r, w, n)
  | 903, (0, y) :: (0, x) :: r => some (pc + 3, ls, (0, if x < y then y else x) :: r, w, n)
  | 904, (0, y) :: (0, x) :: r => some (pc + 3, ls, (0, if y < x then y else x) :: r, w, n)
  | 905, (1, y) :: (1, x) :: r => some (pc + 3, ls, (1, if y < x then x else y) :: r, w, n)
  | 906, (3, x) :: r => match qtxb x with
    | some l => some (pc + 3, ls, (0, (l.length : Int)) :: r, w, n)
    | none => none
  | 907, (0, i) :: (3, x) :: r => match qtxb x with
    | some l => if 0 ≤ i ∧ i < (l.length : Int) then some (pc + 3, ls, (0, l.getD i.toNat 0) :: r, w, n) else none
    | none => none
  | 908, (0, c) :: (3, x) :: r => match qtxb x with
    | some l => some (pc + 3, ls, (0, qix l c 0) :: r, w, n)
    | none => none
  | _, _ => none
/-- how Math's and String's members are called: the depth that they want -/
noncomputable def qmm (t md d : Nat) : Bool := bif Nat.ble 906 t then Nat.beq md 1 && Nat.ble 4 d else Nat.beq md 0 && Nat.ble 1 d
noncomputable abbrev qR : Type := Option (qV × qW × Nat)
noncomputable abbrev qXt : Type := Option (Nat × (Nat → Int)) → Nat → Nat → Nat → List qV → List qV → qW → Nat → qR
/-- what comes behind an instruction within a method -/
noncomputable def qgo (X : qXt) (sc : Option (Nat × (Nat → Int))) (d k : Nat) (o : Option qC) : qR := match o with
  | some (pc', ls', st', w', n') => X sc d k pc' ls' st' w' n'
  | none => none
noncomputable def qmok (md sk t : Nat) : Bool := match md with
  | 0 => Nat.beq sk 0
  | 1 => Nat.beq sk 1 && !qin t
  | _ => Nat.ble 1 sk && qin t
/-- a call of method t with na arguments (with the receiver), sk: static 0, instance 1, nest mate 2; md: invokestatic 0, invokevirtual 1, invokespecial 2 -/
noncomputable def qcl1 (X : qXt) (sc : Option (Nat × (Nat → Int))) (d k t na sk md pc : Nat) (ls st : List qV) (w : qW) (n : Nat) : qR :=
  match d with
  | 0 => none
  | d' + 1 => if Nat.ble na st.length && Nat.ble (qcat (qdr na st)) 8 && qaok t sk n (qtk na st []) && Nat.ble (qlay (qtk na st [])).length (qml t) && qmok md sk t then
    (match X none d' t 0 (qini t (qtk na st [])) [] w n with
      | some (v, w', n') => X sc (d' + 1) k (pc + 3) ls (qpsh v (qdr na st)) w' n'
      | none => none) else none
/-- an invocation -/
noncomputable def qinv (X : qXt) (sc : Option (Nat × (Nat → Int))) (d k i md pc : Nat) (ls st : List qV) (w : qW) (n : Nat) : qR :=
  match qmd (qow k) i with
  | some (t, na, sk) =>
    if t = 900 then (match md, st with
      | 2, (2, x) :: r => if Nat.ble 1 d && Nat.ble (qcat r) 8 && decide (0 < x) then X sc d k (pc + 3) ls r w n else none
      | _, _ => none)
    else if t = 901 then (if Nat.beq md 0 && Nat.ble 1 d && Nat.ble (qcat (qdr 5 st)) 8 then qgo X sc d k (qac pc ls st w n) else none)
    else if Nat.ble 902 t then (if qmm t md d && Nat.ble (qcat (qdr na st)) 8 then qgo X sc d k (qmt t pc ls st w n) else none)
    else qcl1 X sc d k t na sk md pc ls st w n
  | none => none
noncomputable def qst1 (X : qXt) (sc : Option (Nat × (Nat → Int))) (d k : Nat) (ins : Instr) (len pc : Nat) (ls st : List qV) (w : qW) (n : Nat) : qR :=
  match ins with
  | .ireturn => match st with
    | [(0, x)] => if qrok (qrt k) (0, x) then some ((0, x), w, n) else none
    | _ => none
  | .return_ => match st with
    | [] => if Nat.beq (qrt k) 0 then some ((9, 0), w, n) else none
    | _ => none
  | .invokestatic i => qinv X sc d k i 0 pc ls st w n
  | .invokevirtual i => qinv X sc d k i 1 pc ls st w n
  | .invokespecial i => qinv X sc d k i 2 pc ls st w n
  | i => qgo X sc d k (qs1 sc k i len pc ls st w n)
/-- the run of method k: fuel f, calls d deep at most -/
noncomputable def qex : Nat → qXt
  | 0, _, _, _, _, _, _, _, _ => none
  | f + 1, sc, d, k, pc, ls, st, w, n => match qcd k pc with
    | some (ins, len) => qst1 (qex f) sc d k ins len pc ls st w n
    | none => none
end
section
/-! numbers: the machine's ints and longs as plain numbers in their range -/
noncomputable def qi32 (x : Int) : Prop := -2147483648 ≤ x ∧ x < 2147483648
noncomputable def qi64 (x : Int) : Prop := -9223372036854775808 ≤ x ∧ x < 9223372036854775808
theorem wrp_in (x : Int) : qi32 (wrp x) := by unfold qi32 wrp; omega
theorem wrl_in (x : Int) : qi64 (wrl x) := by unfold qi64 wrl; omega
theorem wrp_id {x : Int} (h1 : -2147483648 ≤ x) (h2 : x < 2147483648) : wrp x = x := by unfold wrp; omega
theorem wrl_id {x : Int} (h1 : -9223372036854775808 ≤ x) (h2 : x < 9223372036854775808) : wrl x = x := by unfold wrl; omega
theorem wrp_bmod (x : Int) : wrp x = x.bmod 4294967296 := by
  rw [Int.bmod_def]; unfold wrp; split <;> omega
theorem wrl_bmod (x : Int) : wrl x = x.bmod 18446744073709551616 := by
  rw [Int.bmod_def]; unfold wrl; split <;> omega
theorem o32 (x : Int) : (Int32.ofInt x).toInt = wrp x := by rw [Int32.toInt_ofInt, wrp_bmod]
theorem o64 (x : Int) : (Int64.ofInt x).toInt = wrl x := by rw [Int64.toInt_ofInt, wrl_bmod]
theorem t32 {x : Int} (h : qi32 x) : (Int32.ofInt x).toInt = x := by rw [o32, wrp_id h.1 h.2]
theorem t64 {x : Int} (h : qi64 x) : (Int64.ofInt x).toInt = x := by rw [o64, wrl_id h.1 h.2]
theorem i32_in (x : Int32) : qi32 x.toInt := by
  have h1 := Int32.toInt_lt x
  have h2 := Int32.le_toInt x
  unfold qi32; omega
theorem i64_in (x : Int64) : qi64 x.toInt := by
  have h1 := Int64.toInt_lt x
  have h2 := Int64.le_toInt x
  unfold qi64; omega
theorem w32 (x : Int) : Int32.ofInt (wrp x) = Int32.ofInt x := by rw [← o32, Int32.ofInt_toInt]
theorem w64 (x : Int) : Int64.ofInt (wrl x) = Int64.ofInt x := by rw [← o64, Int64.ofInt_toInt]
theorem e_add (x y : Int) : Int32.ofInt x + Int32.ofInt y = Int32.ofInt (wrp (x + y)) := by rw [w32, Int32.ofInt_add]
theorem e_sub (x y : Int) : Int32.ofInt x - Int32.ofInt y = Int32.ofInt (wrp (x - y)) := by rw [w32, Int32.ofInt_sub]
theorem e_mul (x y : Int) : Int32.ofInt x * Int32.ofInt y = Int32.ofInt (wrp (x * y)) := by rw [w32, Int32.ofInt_mul]
theorem e_neg (x : Int) : -Int32.ofInt x = Int32.ofInt (wrp (-x)) := by rw [w32, Int32.ofInt_neg]
theorem e_and (x y : Int) : Int32.ofInt x &&& Int32.ofInt y = Int32.ofInt (qand x y) := by unfold qand; rw [Int32.ofInt_toInt]
theorem e_or (x y : Int) : Int32.ofInt x ||| Int32.ofInt y = Int32.ofInt (qor x y) := by unfold qor; rw [Int32.ofInt_toInt]
theorem e_xor (x y : Int) : Int32.ofInt x ^^^ Int32.ofInt y = Int32.ofInt (qxor x y) := by unfold qxor; rw [Int32.ofInt_toInt]
theorem e_shl (x y : Int) : Int32.ofInt x <<< (Int32.ofInt y &&& 31) = Int32.ofInt (qshl x y) := by unfold qshl; rw [Int32.ofInt_toInt]
theorem e_shr (x y : Int) : Int32.ofInt x >>> (Int32.ofInt y &&& 31) = Int32.ofInt (qshr x y) := by unfold qshr; rw [Int32.ofInt_toInt]
theorem e_ush (x y : Int) : ((Int32.ofInt x).toUInt32 >>> ((Int32.ofInt y).toUInt32 &&& Int32.toUInt32 31)).toInt32 = Int32.ofInt (qush x y) := by unfold qush; rw [Int32.ofInt_toInt]
theorem e_ladd (x y : Int) : Int64.ofInt x + Int64.ofInt y = Int64.ofInt (wrl (x + y)) := by rw [w64, Int64.ofInt_add]
theorem e_lsub (x y : Int) : Int64.ofInt x - Int64.ofInt y = Int64.ofInt (wrl (x - y)) := by rw [w64, Int64.ofInt_sub]
theorem e_lmul (x y : Int) : Int64.ofInt x * Int64.ofInt y = Int64.ofInt (wrl (x * y)) := by rw [w64, Int64.ofInt_mul]
theorem e_land (x y : Int) : Int64.ofInt x &&& Int64.ofInt y = Int64.ofInt (qland x y) := by unfold qland; rw [Int64.ofInt_toInt]
theorem e_lor (x y : Int) : Int64.ofInt x ||| Int64.ofInt y = Int64.ofInt (qlor x y) := by unfold qlor; rw [Int64.ofInt_toInt]
theorem e_lshl (x y : Int) : Int64.ofInt x <<< ((Int32.ofInt y).toInt64 &&& 63) = Int64.ofInt (qlshl x y) := by unfold qlshl; rw [Int64.ofInt_toInt]
theorem e_lush (x y : Int) : ((Int64.ofInt x).toUInt64 >>> ((Int32.ofInt y).toInt64.toUInt64 &&& Int64.toUInt64 63)).toInt64 = Int64.ofInt (qlush x y) := by unfold qlush; rw [Int64.ofInt_toInt]
theorem e_div {x y : Int} (hx : qi32 x) (hy : qi32 y) : Int32.ofInt x / Int32.ofInt y = Int32.ofInt (qdiv x y) := by
  apply Int32.toInt_inj.1
  rw [Int32.toInt_div, t32 hx, t32 hy, o32, qdiv, wrp_id (wrp_in _).1 (wrp_in _).2, wrp_bmod]
theorem e_rem {x y : Int} (hx : qi32 x) (hy : qi32 y) : Int32.ofInt x - Int32.ofInt x / Int32.ofInt y * Int32.ofInt y = Int32.ofInt (qrem x y) := by
  rw [e_div hx hy, e_mul, e_sub, w32, qrem, w32]
  apply Int32.toInt_inj.1
  rw [o32, o32, qdiv]
  unfold wrp
  omega
theorem e_ldiv {x y : Int} (hx : qi64 x) (hy : qi64 y) : Int64.ofInt x / Int64.ofInt y = Int64.ofInt (qldiv x y) := by
  apply Int64.toInt_inj.1
  rw [Int64.toInt_div, t64 hx, t64 hy, o64, qldiv, wrl_id (wrl_in _).1 (wrl_in _).2, wrl_bmod]
theorem e_i2l {x : Int} (h : qi32 x) : (Int32.ofInt x).toInt64 = Int64.ofInt x := by
  apply Int64.toInt_inj.1
  rw [Int32.toInt_toInt64, t32 h, t64 ⟨by have := h.1; omega, by have := h.2; omega⟩]
theorem e_l2i (x : Int) : (Int64.ofInt x).toInt32 = Int32.ofInt (wrp x) := by
  apply Int32.toInt_inj.1
  rw [Int64.toInt_toInt32, o64, o32]
  rw [wrl_bmod, wrp_bmod, wrp_bmod]
  rw [Int.bmod_bmod_of_dvd (by decide), Int.bmod_bmod]
theorem e_i2b (x : Int) : (Int32.ofInt x).toInt8.toInt32 = Int32.ofInt (qi2b x) := by
  apply Int32.toInt_inj.1
  rw [Int8.toInt_toInt32, Int32.toInt_toInt8, o32, o32, Int.bmod_def]
  unfold wrp qi2b
  split <;> omega
theorem e_i2c (x : Int) : ((Int32.ofInt x).toUInt32 % 65536).toInt32 = Int32.ofInt (x % 65536) := by
  rw [pk_char]
  have h : ((Int32.ofInt x).toBitVec.toNat : Int) = x % 4294967296 := by
    have h1 : (Int32.ofInt x).toBitVec = BitVec.ofInt 32 x := rfl
    rw [h1, BitVec.toNat_ofInt]
    have : 0 ≤ x % 4294967296 := by omega
    exact Int.toNat_of_nonneg this
  apply Int32.toInt_inj.1
  have h2 : (Int32.ofInt x).toBitVec.toNat < 4294967296 := (Int32.ofInt x).toBitVec.isLt
  rw [nI_toInt (by omega), t32 ⟨by omega, by omega⟩]
  omega
theorem e_neg1 {x : Int} (h : qi32 x) : Int32.ofInt x < 0 ↔ x < 0 := by
  rw [Int32.lt_iff_toInt_lt, t32 h]; rfl
theorem e_lt {x y : Int} (hx : qi32 x) (hy : qi32 y) : Int32.ofInt x < Int32.ofInt y ↔ x < y := by
  rw [Int32.lt_iff_toInt_lt, t32 hx, t32 hy]
theorem e_le {x y : Int} (hx : qi32 x) (hy : qi32 y) : Int32.ofInt x ≤ Int32.ofInt y ↔ x ≤ y := by
  rw [Int32.le_iff_toInt_le, t32 hx, t32 hy]
theorem e_eq {x y : Int} (hx : qi32 x) (hy : qi32 y) : Int32.ofInt x = Int32.ofInt y ↔ x = y := by
  rw [← Int32.toInt_inj, t32 hx, t32 hy]
theorem e_leq {x y : Int} (hx : qi64 x) (hy : qi64 y) : Int64.ofInt x = Int64.ofInt y ↔ x = y := by
  rw [← Int64.toInt_inj, t64 hx, t64 hy]
theorem e_llt {x y : Int} (hx : qi64 x) (hy : qi64 y) : Int64.ofInt x < Int64.ofInt y ↔ x < y := by
  rw [Int64.lt_iff_toInt_lt, t64 hx, t64 hy]
theorem e_cl {x : Int} (h : qi32 x) : (Int32.ofInt x).toNatClampNeg = x.toNat := by
  show (Int32.ofInt x).toInt.toNat = _
  rw [t32 h]
theorem e_in {x : Int} {n : Nat} (h : qi32 x) (h0 : 0 ≤ x) (h1 : x < n) : vp_in (Int32.ofInt x) n := by
  rw [vp_in_iff, t32 h]; exact ⟨h0, h1⟩
theorem e_nat {n : Nat} (h : n < 2147483648) : Int32.ofInt (n : Int) = Int32.ofNat n := by
  apply Int32.toInt_inj.1
  rw [t32 ⟨by omega, by omega⟩]
  exact (nI_toInt (by omega)).symm
theorem e_cmp {x y : Int} (hx : qi64 x) (hy : qi64 y) : lg_cmp (Int64.ofInt x) (Int64.ofInt y) = Int32.ofInt (qcmp x y) := by
  unfold lg_cmp qcmp
  simp only [e_leq hx hy, e_llt hx hy, gt_iff_lt, e_llt hy hx]
  (repeat' split) <;> first | rfl | omega
theorem e_bip {i : Int} (h1 : -128 ≤ i) (h2 : i ≤ 127) : (Int8.ofInt i).toInt32 = Int32.ofInt i := by
  apply Int32.toInt_inj.1
  rw [Int8.toInt_toInt32, Int8.toInt_ofInt_of_le (by omega) (by omega), t32 ⟨by omega, by omega⟩]
theorem e_sip {i : Int} (h1 : -32768 ≤ i) (h2 : i ≤ 32767) : (Int16.ofInt i).toInt32 = Int32.ofInt i := by
  apply Int32.toInt_inj.1
  rw [Int16.toInt_toInt32, Int16.toInt_ofInt_of_le (by omega) (by omega), t32 ⟨by omega, by omega⟩]
end
section
/-! the world of plain numbers over the machine's heap -/
noncomputable def qrf (ad : Nat → Nat) (x : Int) : Option Nat := if x = 0 then none else some (ad x.toNat)
noncomputable def qcv (ad sa : Nat → Nat) (v : qV) : Value := match v with
  | (0, x) => .int (Int32.ofInt x)
  | (1, x) => .long (Int64.ofInt x)
  | (2, x) => va_rf (qrf ad x)
  | (_, x) => .ref (sa x.toNat)
noncomputable def qrx (kd n : Nat) (x : Int) : Prop := match kd with
  | 1 => qi64 x
  | 2 => 0 ≤ x ∧ x ≤ n
  | _ => qi32 x
noncomputable def qrg (n : Nat) (v : qV) : Prop := v.1 < 3 → qrx v.1 n v.2
noncomputable def qfv (ad : Nat → Nat) (kd : Nat) (x : Int) : Value := match kd with
  | 1 => .long (Int64.ofInt x)
  | 2 => va_rf (qrf ad x)
  | _ => .int (Int32.ofInt x)
noncomputable def qca (ad : Nat → Nat) (e : Nat) (f : Nat → Int) : (Nat → Int32) ⊕ (Nat → Int64) ⊕ (Nat → UInt32) ⊕ (Nat → UInt64) ⊕ (Nat → Option Nat) := match e with
  | 1 => .inr (.inl (fun j => Int64.ofInt (f j)))
  | 2 => .inr (.inr (.inr (.inr (fun j => qrf ad (f j)))))
  | _ => .inl (fun j => Int32.ofInt (f j))
noncomputable def qce (ad : Nat → Nat) (ac : Nat → ClassId) (w : qW) (p : Nat) : va_E := match qpl p with
  | (0, c, m, _) => .inr (c, (List.range m).map (fun j => qfv ad (qfk c j) (w p j)))
  | (_, e, m, _) => .inl (ac p, m, qca ad e (w p))
noncomputable def qws (ad : Nat → Nat) (ac : Nat → ClassId) (w : qW) (n : Nat) : va_W := (List.range n).map (fun i => (ad (i + 1), qce ad ac w (i + 1)))
/-- what a slot of a cell holds -/
noncomputable def qkd (p j : Nat) : Nat := match qpl p with
  | (0, c, _, _) => qfk c j
  | (_, e, _, _) => e
noncomputable def qet (e c : Nat) : FieldType := match e with
  | 0 => .int
  | 1 => .long
  | 3 => .boolean
  | 4 => .byte
  | _ => if c = 99 then .array .long else .object (qcn c)
noncomputable def qSz (n : Nat) : Nat := ((List.range n).map (fun i => (qpl (i + 1)).2.2.1)).sum
noncomputable def qWr (D : va_G) (A : Nat → Prop) (s : State) (H : Heap) (ad : Nat → Nat) (ac : Nat → ClassId) (w : qW) (n : Nat) : Prop :=
  va_P D vwCl (qws ad ac w n) H ∧ va_D A (qws ad ac w n) ∧ va_K D vwCl [] s ∧ (∀ p e m c, 0 < p → p ≤ n → qpl p = (1, e, m, c) → va_K D vwCl [(ac p, qet e c)] s) ∧ ∀ p, 0 < p → p ≤ n → ∀ j, j < (qpl p).2.2.1 → qrx (qkd p j) n (w p j)
noncomputable def qLr (ad sa : Nat → Nat) (n : Nat) (ls : List qV) (arr : Array Slot) : Prop :=
  lv_has arr ls.length [] ∧ (∀ i, (qnt ls i).1 < 4 → arr[i]? = some (.val (qcv ad sa (qnt ls i)))) ∧ ∀ i, qrg n (qnt ls i)
noncomputable def qSr (n : Nat) (st : List qV) : Prop := ∀ v ∈ st, v.1 < 4 ∧ qrg n v
noncomputable def qRel (D : va_G) (A : Nat → Prop) (s : State) (H0 : Heap) (sa : Nat → Nat) (k : Nat) (ls st : List qV) (w : qW) (n : Nat) (ad : Nat → Nat) (ac : Nat → ClassId) (arr : Array Slot) (H : Heap) (locs : List Loc) : Prop :=
  qWr D A s H ad ac w n ∧ qLr ad sa n ls arr ∧ ls.length = qml k ∧ qSr n st ∧ va_S A H0 H locs
-- the words of the tables that hold all along
noncomputable def qAL : List Cond := lw_tbl.filter goodWord
/-- what the tables say beside their steady words: the texts' addresses, arrays over classes, nest mates -/
noncomputable def qSt (sa : Nat → Nat) (s : State) : Prop := (∀ (i : Nat) (x : String × Nat × String), qtx[i]? = some x → vk_R x.1 x.2.1 x.2.2 (sa (i + 1)) s) ∧ (∀ ty ∈ [FieldType.object (qcn 2), .object (qcn 7), .array .long], (Cond.arrayOver ty).before #[] s = true) ∧ ∀ (o i t na : Nat), qmd o i = some (t, na, 2) → va_Nw (.methodLinkNest (qcn o) i (qnm t) RX11) s
theorem qSt.warm {sa : Nat → Nat} {s U : State} (hW : s.WarmedH U.vm) (h : qSt sa s) : qSt sa U := by
  refine ⟨fun i x hx => (h.1 i x hx).warm hW, fun ty hty => ?_, fun o i t na hq => va_Nw.warmM hW (h.2.2 o i t na hq)⟩
  have e : (Cond.arrayOver ty).before #[] U = (Cond.arrayOver ty).before #[] (s.setVm U.vm) := by
    first | rfl | (simp only [Cond.before, Cond.holds, Cond.value, State.vm_setVm]; rfl)
  rw [e, Cond.arrayOver_setVmC hW.alike]
  exact h.2.1 ty hty
theorem qSt.same {sa : Nat → Nat} {s U : State} (hv : U.vm = s.vm) (h : qSt sa s) : qSt sa U := qSt.warm (by rw [hv]; exact State.WarmedH.refl s) h
noncomputable def qSc (sc : Option (Nat × (Nat → Int))) (sa : Nat → Nat) (A : Nat → Prop) (H0 : Heap) (s : State) : Prop := ∀ L xs, sc = some (L, xs) → va_X (sa 0) L (fun j => Int32.ofInt (xs j)) s H0 ∧ sa 0 < H0.size ∧ ¬ A (sa 0) ∧ L < 2147483648 ∧ ∀ j, qi32 (xs j)
/-- a text at an address: object, bytes; the statics that String wants -/
noncomputable def jq_T (a v L : Nat) (f : Nat → Int32) (A : Nat → Prop) (U : State) (H : Heap) : Prop := va_O "java/lang/String" a A U H ∧ va_OF "java/lang/String" "coder" "B" (.int 0) a A U H ∧ va_OF "java/lang/String" "value" "[B" (.ref v) a A U H ∧ va_T .byte v L (fun j => .int (f j)) A U H
noncomputable def jq_Z (A : Nat → Prop) (U : State) (H : Heap) : Prop := va_Z "java/lang/String" "COMPACT_STRINGS" "Z" (.int 1) A U H ∧ ((∃ r : Nat, va_Z "jdk/internal/util/Preconditions" "SIOOBE_FORMATTER" "Ljava/util/function/BiFunction;" (.ref r) A U H) ∨ va_Z "jdk/internal/util/Preconditions" "SIOOBE_FORMATTER" "Ljava/util/function/BiFunction;" .null A U H)
theorem jq_T.moved {a v L : Nat} {f : Nat → Int32} {A : Nat → Prop} {u U : State} {H : Heap} (hvm : u.vm.Alike U.vm) (h : jq_T a v L f A u H) : jq_T a v L f A U H := ⟨h.1.moved hvm, h.2.1.moved hvm, h.2.2.1.moved hvm, h.2.2.2.moved hvm⟩
theorem jq_Z.moved {A : Nat → Prop} {u U : State} {H : Heap} (hvm : u.vm.Alike U.vm) (h : jq_Z A u H) : jq_Z A U H := ⟨h.1.moved hvm, h.2.imp (fun h => h.imp fun _ h => h.moved hvm) (fun h => h.moved hvm)⟩
theorem jq_T.go {a v L : Nat} {f : Nat → Int32} {A B : Nat → Prop} {s : State} {H0 H : Heap} {locs : List Loc} (hS : va_S A H0 H locs) (hAB : ∀ q, B q → A q) (h : jq_T a v L f A s H0) : jq_T a v L f B s H := ⟨(h.1.kept hS.2.1).narrow hAB, (h.2.1.kept hS.2.1).narrow hAB, (h.2.2.1.kept hS.2.1).narrow hAB, (h.2.2.2.kept hS.2.1).narrow hAB⟩
theorem jq_Z.go {A B : Nat → Prop} {s : State} {H0 H : Heap} {locs : List Loc} (hS : va_S A H0 H locs) (hAB : ∀ q, B q → A q) (h : jq_Z A s H0) : jq_Z B s H := ⟨(h.1.kept hS.2.1).narrow hAB, h.2.imp (fun h => h.imp fun _ h => (h.kept hS.2.1).narrow hAB) (fun h => (h.kept hS.2.1).narrow hAB)⟩
noncomputable def qtf (l : List Int) (j : Nat) : Int32 := Int32.ofInt (l.getD j 0)
/-- the texts lie where the constants point, apart from what changes -/
noncomputable def qStr (sa : Nat → Nat) (A : Nat → Prop) (U : State) (H : Heap) : Prop := (∀ (i : Nat) (l : List Int), qtc[i]? = some l → ∃ v, jq_T (sa (i + 1)) v l.length (qtf l) A U H) ∧ jq_Z A U H
theorem qStr.moved {sa : Nat → Nat} {A : Nat → Prop} {u U : State} {H : Heap} (hvm : u.vm.Alike U.vm) (h : qStr sa A u H) : qStr sa A U H := ⟨fun i l hl => (h.1 i l hl).imp fun _ h => h.moved hvm, h.2.moved hvm⟩
theorem qStr.go {sa : Nat → Nat} {A B : Nat → Prop} {s : State} {H0 H : Heap} {locs : List Loc} (hS : va_S A H0 H locs) (hAB : ∀ q, B q → A q) (h : qStr sa A s H0) : qStr sa B s H := ⟨fun i l hl => (h.1 i l hl).imp fun _ h => h.go hS hAB, h.2.go hS hAB⟩
/-- what holds all along in a frame of method k -/
noncomputable def qFx (p : Program) (s : State) (m : MethodId) (args : Array Value) (meth : Method) (c : Code) (A : Nat → Prop) (H0 : Heap) (sa : Nat → Nat) (sc : Option (Nat × (Nat → Int))) (k : Nat) : Prop :=
  p.tables.exec = Jvm.exec ∧ c.code = qby k ∧ c.maxLocals = qml k ∧ s.vm.findClass (qcn (qow k)) = some m.cls ∧ (∀ w ∈ qAL, w.before args s = true) ∧ (qin k = true → meth.name = "<init>") ∧ (∀ q, H0.size ≤ q → A q) ∧ qSc sc sa A H0 s ∧ qSt sa s ∧ qStr sa A s H0
-- lists by places
theorem qnt_len : ∀ (l : List qV) (i : Nat), l.length ≤ i → qnt l i = (9, 0)
  | [], _, _ => rfl
  | _ :: _, 0, h => absurd h (by simp)
  | _ :: l, i + 1, h => qnt_len l i (by simpa using h)
theorem qset_len : ∀ (l : List qV) (i : Nat) (v : qV), (qset l i v).length = l.length
  | [], _, _ => rfl
  | _ :: _, 0, _ => rfl
  | _ :: l, i + 1, v => by show (qset l i v).length + 1 = l.length + 1; rw [qset_len l i v]
theorem qnt_set : ∀ (l : List qV) (i j : Nat) (v : qV), qnt (qset l i v) j = if j = i ∧ i < l.length then v else qnt l j
  | [], i, j, v => by rw [if_neg (by simp)]; rfl
  | a :: l, 0, 0, v => by rw [if_pos ⟨rfl, by simp⟩]; rfl
  | a :: l, 0, j + 1, v => by rw [if_neg (by omega)]; rfl
  | a :: l, i + 1, 0, v => by rw [if_neg (by omega)]; rfl
  | a :: l, i + 1, j + 1, v => by
    show qnt (qset l i v) j = _
    rw [qnt_set l i j v]
    by_cases h : j = i ∧ i < l.length
    · rw [if_pos h, if_pos ⟨by omega, by simpa using h.2⟩]
    · rw [if_neg h, if_neg (fun q => h ⟨by omega, by simpa using q.2⟩)]; rfl
theorem qhf_len (ls : List qV) (i : Nat) : (qhf ls i).length = ls.length := by
  unfold qhf
  split
  · rfl
  · split <;> simp [qset_len]
theorem qhf_nt (ls : List qV) (i j : Nat) (hi : i < ls.length) (hj : j ≠ i) : qnt (qhf ls i) j = if j + 1 = i ∧ (qnt ls j).1 = 1 then (9, 0) else qnt ls j := by
  unfold qhf
  split
  · rw [if_neg (by omega)]
  · rename_i i
    split
    · rename_i h
      rw [qnt_set]
      by_cases a : j = i
      · subst a
        rw [if_pos ⟨rfl, by omega⟩, if_pos ⟨rfl, by rw [h]⟩]
      · rw [if_neg (fun q => a q.1), if_neg (by omega)]
    · rename_i h
      rw [if_neg]
      intro q
      have e : j = i := by omega
      subst e
      exact h (qnt ls j).2 (Prod.ext q.2 rfl)
theorem qst_len (ls : List qV) (i : Nat) (v : qV) : (qst ls i v).length = ls.length := by
  unfold qst
  split <;> simp [qset_len, qhf_len]
theorem qst_nt (ls : List qV) (i j : Nat) (v : qV) (hi : i < ls.length) : qnt (qst ls i v) j = if j = i then v else if (v.1 = 1 ∧ j = i + 1) ∨ (j + 1 = i ∧ (qnt ls j).1 = 1) then (if j < ls.length then (9, 0) else qnt ls j) else qnt ls j := by
  have h1 := qhf_len ls i
  have h2 := fun j hj => qhf_nt ls i j hi hj
  unfold qst
  generalize qhf ls i = l1 at h1 h2 ⊢
  split
  · rename_i x
    rw [qnt_set, qset_len, h1, qnt_set, h1]
    by_cases a : j = i
    · subst a
      rw [if_neg (by omega), if_pos ⟨rfl, hi⟩, if_pos rfl]
    · rw [if_neg a]
      by_cases b : j = i + 1
      · subst b
        rw [if_pos (Or.inl ⟨rfl, rfl⟩)]
        by_cases c : i + 1 < ls.length
        · rw [if_pos ⟨rfl, c⟩, if_pos c]
        · rw [if_neg (fun q => c q.2), if_neg (fun q => a q.1), if_neg c, h2 _ a, if_neg (by omega)]
      · rw [if_neg (fun q => b q.1), if_neg (fun q => a q.1), h2 _ a]
        by_cases c : j + 1 = i ∧ (qnt ls j).1 = 1
        · rw [if_pos c, if_pos (Or.inr c), if_pos (by omega)]
        · rw [if_neg c, if_neg (by intro q; rcases q with q | q; exact b q.2; exact c q)]
  · rename_i h9
    have ht : ¬ v.1 = 1 := fun q => h9 v.2 (Prod.ext q rfl)
    rw [qnt_set, h1]
    by_cases a : j = i
    · subst a
      rw [if_pos ⟨rfl, hi⟩, if_pos rfl]
    · rw [if_neg (fun q => a q.1), if_neg a, h2 _ a]
      by_cases c : j + 1 = i ∧ (qnt ls j).1 = 1
      · rw [if_pos c, if_pos (Or.inr c), if_pos (by omega)]
      · rw [if_neg c, if_neg (by intro q; rcases q with q | q; exact ht q.1; exact c q)]
theorem qcv_cat {ad sa : Nat → Nat} {v : qV} (h : v.1 ≠ 1) : ¬ (qcv ad sa v).category = 2 := by
  obtain ⟨t, x⟩ := v
  match t, h with
  | 0, _ => simp [qcv, Value.category]
  | 1, h => exact absurd rfl h
  | 2, _ => cases hq : qrf ad x <;> simp [qcv, hq, va_rf, Value.category]
  | _ + 3, _ => simp [qcv, Value.category]
/-- the locals' list for a store -/
noncomputable def qll (ad sa : Nat → Nat) (ls : List qV) : List (Nat × Value) := (List.range ls.length).filterMap (fun i => if (qnt ls i).1 < 4 then some (i, qcv ad sa (qnt ls i)) else none)
theorem qLr.has {ad sa : Nat → Nat} {n : Nat} {ls : List qV} {arr : Array Slot} (h : qLr ad sa n ls arr) : lv_has arr ls.length (qll ad sa ls) := by
  refine ⟨h.1.1, h.1.2.1, fun q hq => ?_⟩
  obtain ⟨i, -, hi⟩ := List.mem_filterMap.mp hq
  by_cases c : (qnt ls i).1 < 4
  · rw [if_pos c] at hi
    cases hi
    exact h.2.1 i c
  · rw [if_neg c] at hi; cases hi
theorem qll_mem {ad sa : Nat → Nat} {ls : List qV} {j : Nat} (h : (qnt ls j).1 < 4) : (j, qcv ad sa (qnt ls j)) ∈ qll ad sa ls := by
  refine List.mem_filterMap.mpr ⟨j, List.mem_range.mpr ?_, if_pos h⟩
  by_cases c : j < ls.length
  · exact c
  · rw [qnt_len ls j (by omega)] at h; exact absurd h (by decide)
/-- behind a store of one slot -/
theorem qLr.put1 {ad sa : Nat → Nat} {n : Nat} {ls : List qV} {arr arr' : Array Slot} {i : Nat} {v : qV} (h : qLr ad sa n ls arr) (hi : i < ls.length) (hv : v.1 ≠ 1) (hr : qrg n v)
    (h' : lv_has arr' ls.length ((i, qcv ad sa v) :: (qll ad sa ls).filter (fun q => !(q.1 == i) && !(q.1 + 1 == i && q.2.category == 2)))) : qLr ad sa n (qst ls i v) arr' := by
  refine ⟨?_, fun j hj => ?_, fun j => ?_⟩
  · rw [qst_len]; exact ⟨h'.1, h'.2.1, fun q hq => by cases hq⟩
  · rw [qst_nt ls i j v hi] at hj ⊢
    by_cases a : j = i
    · subst a
      rw [if_pos rfl]
      exact h'.2.2 (j, qcv ad sa v) List.mem_cons_self
    · rw [if_neg a] at hj ⊢
      by_cases b : (v.1 = 1 ∧ j = i + 1) ∨ (j + 1 = i ∧ (qnt ls j).1 = 1)
      · rw [if_pos b] at hj ⊢
        by_cases c : j < ls.length
        · rw [if_pos c] at hj; exact absurd hj (by decide)
        · rw [if_neg c, qnt_len ls j (by omega)] at hj; exact absurd hj (by decide)
      · rw [if_neg b] at hj ⊢
        refine h'.2.2 (j, qcv ad sa (qnt ls j)) (List.mem_cons_of_mem _ (List.mem_filter.mpr ⟨qll_mem hj, ?_⟩))
        simp only [Bool.and_eq_true, Bool.not_eq_true', beq_eq_false_iff_ne, ne_eq, Bool.and_eq_false_iff]
        refine ⟨a, ?_⟩
        by_cases c : j + 1 = i
        · exact Or.inr (qcv_cat (fun q => b (Or.inr ⟨c, q⟩)))
        · exact Or.inl c
  · rw [qst_nt ls i j v hi]
    by_cases a : j = i
    · rw [if_pos a]; exact hr
    · rw [if_neg a]
      split
      · split
        · intro q; exact absurd q (by decide)
        · exact h.2.2 j
      · exact h.2.2 j
/-- behind a store of a long -/
theorem qLr.put2 {ad sa : Nat → Nat} {n : Nat} {ls : List qV} {arr arr' : Array Slot} {i : Nat} {v : qV} (h : qLr ad sa n ls arr) (hi : i < ls.length) (hv : v.1 = 1) (hr : qrg n v)
    (h' : lv_has arr' ls.length ((i, qcv ad sa v) :: (qll ad sa ls).filter (fun q => !(q.1 == i) && (!(q.1 == i + 1) && !(q.1 + 1 == i && q.2.category == 2))))) : qLr ad sa n (qst ls i v) arr' := by
  refine ⟨?_, fun j hj => ?_, fun j => ?_⟩
  · rw [qst_len]; exact ⟨h'.1, h'.2.1, fun q hq => by cases hq⟩
  · rw [qst_nt ls i j v hi] at hj ⊢
    by_cases a : j = i
    · subst a
      rw [if_pos rfl]
      exact h'.2.2 (j, qcv ad sa v) List.mem_cons_self
    · rw [if_neg a] at hj ⊢
      by_cases b : (v.1 = 1 ∧ j = i + 1) ∨ (j + 1 = i ∧ (qnt ls j).1 = 1)
      · rw [if_pos b] at hj ⊢
        by_cases c : j < ls.length
        · rw [if_pos c] at hj; exact absurd hj (by decide)
        · rw [if_neg c, qnt_len ls j (by omega)] at hj; exact absurd hj (by decide)
      · rw [if_neg b] at hj ⊢
        refine h'.2.2 (j, qcv ad sa (qnt ls j)) (List.mem_cons_of_mem _ (List.mem_filter.mpr ⟨qll_mem hj, ?_⟩))
        simp only [Bool.and_eq_true, Bool.not_eq_true', beq_eq_false_iff_ne, ne_eq, Bool.and_eq_false_iff]
        refine ⟨a, fun q => b (Or.inl ⟨hv, q⟩), ?_⟩
        by_cases c : j + 1 = i
        · exact Or.inr (qcv_cat (fun q => b (Or.inr ⟨c, q⟩)))
        · exact Or.inl c
  · rw [qst_nt ls i j v hi]
    by_cases a : j = i
    · rw [if_pos a]; exact hr
    · rw [if_neg a]
      split
      · split
        · intro q; exact absurd q (by decide)
        · exact h.2.2 j
      · exact h.2.2 j
-- the cells
theorem qws_at {ad : Nat → Nat} {ac : Nat → ClassId} {w : qW} {n p : Nat} (h0 : 0 < p) (h : p ≤ n) : (qws ad ac w n)[p - 1]? = some (ad p, qce ad ac w p) := by
  unfold qws
  rw [List.getElem?_map, List.getElem?_range (by omega)]
  show some (ad (p - 1 + 1), qce ad ac w (p - 1 + 1)) = _
  rw [show p - 1 + 1 = p by omega]
theorem qws_len {ad : Nat → Nat} {ac : Nat → ClassId} {w : qW} {n : Nat} : (qws ad ac w n).length = n := by simp [qws]
theorem qws_none {ad : Nat → Nat} {ac : Nat → ClassId} {w : qW} {n i : Nat} (h : n ≤ i) : (qws ad ac w n)[i]? = none := List.getElem?_eq_none (by rw [qws_len]; exact h)
/-- cells that differ at one place alone -/
theorem qws_set {ad : Nat → Nat} {ac : Nat → ClassId} {w w' : qW} {n p : Nat} (h0 : 0 < p) (h : p ≤ n) (hw : ∀ q, q ≠ p → w' q = w q) {x : va_E} (hx : x = qce ad ac w' p) : (qws ad ac w n).set (p - 1) (ad p, x) = qws ad ac w' n := by
  subst hx
  apply List.ext_getElem?
  intro i
  rw [List.getElem?_set, qws_len]
  by_cases c : i < n
  · have e1 := qws_at (ad := ad) (ac := ac) (w := w) (n := n) (p := i + 1) (by omega) (by omega)
    have e2 := qws_at (ad := ad) (ac := ac) (w := w') (n := n) (p := i + 1) (by omega) (by omega)
    rw [show i + 1 - 1 = i by omega] at e1 e2
    rw [e1, e2]
    by_cases a : p - 1 = i
    · subst a
      rw [if_pos rfl, if_pos (by omega), show p - 1 + 1 = p by omega]
    · rw [if_neg a]
      have : i + 1 ≠ p := by omega
      unfold qce
      rw [hw _ this]
  · rw [qws_none (by omega), qws_none (by omega), if_neg (by omega)]
theorem qup_ne {w : qW} {p j q : Nat} {v : Int} (h : q ≠ p) : qup w p j v q = w q := by unfold qup; rw [if_neg h]
theorem qup_p {w : qW} {p j : Nat} {v : Int} : qup w p j v p = fun j' => if j' = j then v else w p j' := by unfold qup; rw [if_pos rfl]
theorem qup_rng {w : qW} {n p j : Nat} {v : Int} (h : ∀ p, 0 < p → p ≤ n → ∀ j, j < (qpl p).2.2.1 → qrx (qkd p j) n (w p j)) (hv : qrx (qkd p j) n v) : ∀ p', 0 < p' → p' ≤ n → ∀ j', j' < (qpl p').2.2.1 → qrx (qkd p' j') n (qup w p j v p' j') := by
  intro p' h0 h1 j' hj
  by_cases a : p' = p
  · subst a
    rw [qup_p]
    show qrx _ _ (if j' = j then v else w p' j')
    by_cases b : j' = j
    · rw [if_pos b, b]; exact hv
    · rw [if_neg b]; exact h p' h0 h1 j' hj
  · rw [qup_ne a]; exact h p' h0 h1 j' hj
end
section
/-! the JDK's own members of String over a literal: contracts of length, charAt, indexOf -/
theorem jw_c_coder : Cond.code yJ0_coder_7d493 cJ0_coder_7d493 1 (some .byte) ∈ qAL := qwd1_in (i := 3030) (by decide +kernel)
theorem jw_i_coder : Cond.instanceMethod yJ0_coder_7d493 ∈ qAL := qwd1_in (i := 3028) (by decide +kernel)
theorem jw_v_coder : Cond.selects RJ0 yJ0_coder_7d493 yJ0_coder_7d493 ∈ qAL := qwd1_in (i := 3029) (by decide +kernel)
theorem jw_c_isLatin1 : Cond.code yJ0_isLatin1_aae02 cJ0_isLatin1_aae02 1 (some .boolean) ∈ qAL := qwd1_in (i := 3040) (by decide +kernel)
theorem jw_i_isLatin1 : Cond.instanceMethod yJ0_isLatin1_aae02 ∈ qAL := qwd1_in (i := 3038) (by decide +kernel)
theorem jw_v_isLatin1 : Cond.selects RJ0 yJ0_isLatin1_aae02 yJ0_isLatin1_aae02 ∈ qAL := qwd1_in (i := 3039) (by decide +kernel)
theorem jw_c_length : Cond.code yJ0_length_8abf5 cJ0_length_8abf5 1 (some .int) ∈ qAL := qwd1_in (i := 3026) (by decide +kernel)
theorem jw_i_length : Cond.instanceMethod yJ0_length_8abf5 ∈ qAL := qwd1_in (i := 3024) (by decide +kernel)
theorem jw_v_length : Cond.selects RJ0 yJ0_length_8abf5 yJ0_length_8abf5 ∈ qAL := qwd1_in (i := 3025) (by decide +kernel)
theorem jw_c_pci : Cond.code yJ3_checkIndex_8e157 cJ3_checkIndex_8e157 3 (some .int) ∈ qAL := qwd1_in (i := 3051) (by decide +kernel)
theorem jw_s_pci : Cond.static yJ3_checkIndex_8e157 ∈ qAL := qwd1_in (i := 3050) (by decide +kernel)
theorem jw_c_pcn : Cond.code yJ3_checkIndex_8e157 cJ3_checkIndex_8e157 3 (some .int) ∈ qAL := qwd1_in (i := 3051) (by decide +kernel)
theorem jw_s_pcn : Cond.static yJ3_checkIndex_8e157 ∈ qAL := qwd1_in (i := 3050) (by decide +kernel)
theorem jw_c_ci : Cond.code yJ0_checkIndex_df160 cJ0_checkIndex_df160 2 none ∈ qAL := qwd1_in (i := 3046) (by decide +kernel)
theorem jw_s_ci : Cond.static yJ0_checkIndex_df160 ∈ qAL := qwd1_in (i := 3045) (by decide +kernel)
theorem jw_c_lcharAt : Cond.code yJ1_charAt_3b067 cJ1_charAt_3b067 2 (some .char) ∈ qAL := qwd1_in (i := 3043) (by decide +kernel)
theorem jw_s_lcharAt : Cond.static yJ1_charAt_3b067 ∈ qAL := qwd1_in (i := 3042) (by decide +kernel)
theorem jw_c_charAt : Cond.code yJ0_charAt_5068e cJ0_charAt_5068e 2 (some .char) ∈ qAL := qwd1_in (i := 3036) (by decide +kernel)
theorem jw_i_charAt : Cond.instanceMethod yJ0_charAt_5068e ∈ qAL := qwd1_in (i := 3034) (by decide +kernel)
theorem jw_v_charAt : Cond.selects RJ0 yJ0_charAt_5068e yJ0_charAt_5068e ∈ qAL := qwd1_in (i := 3035) (by decide +kernel)
theorem jw_c_canEncode : Cond.code yJ1_canEncode_9a6ad cJ1_canEncode_9a6ad 1 (some .boolean) ∈ qAL := qwd1_in (i := 3104) (by decide +kernel)
theorem jw_s_canEncode : Cond.static yJ1_canEncode_9a6ad ∈ qAL := qwd1_in (i := 3103) (by decide +kernel)
theorem jw_c_ioc : Cond.code yJ1_indexOfChar_4cfef cJ1_indexOfChar_4cfef 6 (some .int) ∈ qAL := qwd1_in (i := 3113) (by decide +kernel)
theorem jw_s_ioc : Cond.static yJ1_indexOfChar_4cfef ∈ qAL := qwd1_in (i := 3112) (by decide +kernel)
theorem jw_c_lio : Cond.code yJ1_indexOf_4cfef cJ1_indexOf_4cfef 4 (some .int) ∈ qAL := qwd1_in (i := 3101) (by decide +kernel)
theorem jw_s_lio : Cond.static yJ1_indexOf_4cfef ∈ qAL := qwd1_in (i := 3100) (by decide +kernel)
theorem jw_c_io2 : Cond.code yJ0_indexOf_7cf53 cJ0_indexOf_7cf53 3 (some .int) ∈ qAL := qwd1_in (i := 3097) (by decide +kernel)
theorem jw_i_io2 : Cond.instanceMethod yJ0_indexOf_7cf53 ∈ qAL := qwd1_in (i := 3095) (by decide +kernel)
theorem jw_v_io2 : Cond.selects RJ0 yJ0_indexOf_7cf53 yJ0_indexOf_7cf53 ∈ qAL := qwd1_in (i := 3096) (by decide +kernel)
theorem jw_c_io1 : Cond.code yJ0_indexOf_0f7a4 cJ0_indexOf_0f7a4 2 (some .int) ∈ qAL := qwd1_in (i := 3093) (by decide +kernel)
theorem jw_i_io1 : Cond.instanceMethod yJ0_indexOf_0f7a4 ∈ qAL := qwd1_in (i := 3091) (by decide +kernel)
theorem jw_v_io1 : Cond.selects RJ0 yJ0_indexOf_0f7a4 yJ0_indexOf_0f7a4 ∈ qAL := qwd1_in (i := 3092) (by decide +kernel)
theorem jw_n_RJ0 : Cond.initialized RJ0 ∈ qAL := qwd1_in (i := 1015) (by decide +kernel)
theorem jw_n_RJ1 : Cond.initialized RJ1 ∈ qAL := qwd1_in (i := 1016) (by decide +kernel)
theorem jw_n_RJ3 : Cond.initialized RJ3 ∈ qAL := qwd1_in (i := 1017) (by decide +kernel)
theorem jw_f_RJ0_38 : Cond.fieldLink RJ0 38 "java/lang/String" "COMPACT_STRINGS" "Z" ∈ qAL := qwd1_in (i := 3031) (by decide +kernel)
theorem jw_f_RJ0_15 : Cond.fieldLink RJ0 15 "java/lang/String" "coder" "B" ∈ qAL := qwd1_in (i := 9055) (by decide +kernel)
theorem jw_f_RJ0_9 : Cond.fieldLink RJ0 9 "java/lang/String" "value" "[B" ∈ qAL := qwd1_in (i := 9054) (by decide +kernel)
theorem jw_f_RJ0_1053 : Cond.fieldLink RJ0 1053 "jdk/internal/util/Preconditions" "SIOOBE_FORMATTER" "Ljava/util/function/BiFunction;" ∈ qAL := qwd1_in (i := 3047) (by decide +kernel)
theorem jw_m_RJ0_335 : Cond.methodLink RJ0 335 yJ0_coder_7d493 ∈ qAL := qwd1_in (i := 3027) (by decide +kernel)
theorem jw_m_RJ0_492 : Cond.methodLink RJ0 492 yJ0_isLatin1_aae02 ∈ qAL := qwd1_in (i := 3037) (by decide +kernel)
theorem jw_m_RJ0_495 : Cond.methodLink RJ0 495 yJ1_charAt_3b067 ∈ qAL := qwd1_in (i := 3041) (by decide +kernel)
theorem jw_m_RJ0_1059 : Cond.methodLink RJ0 1059 yJ3_checkIndex_8e157 ∈ qAL := qwd1_in (i := 3049) (by decide +kernel)
theorem jw_m_RJ1_9 : Cond.methodLink RJ1 9 yJ0_checkIndex_df160 ∈ qAL := qwd1_in (i := 3044) (by decide +kernel)
theorem jw_m_RJ0_633 : Cond.methodLink RJ0 633 yJ0_indexOf_7cf53 ∈ qAL := qwd1_in (i := 3094) (by decide +kernel)
theorem jw_m_RJ0_505 : Cond.methodLink RJ0 505 yJ0_length_8abf5 ∈ qAL := qwd1_in (i := 3098) (by decide +kernel)
theorem jw_m_RJ0_637 : Cond.methodLink RJ0 637 yJ1_indexOf_4cfef ∈ qAL := qwd1_in (i := 3099) (by decide +kernel)
theorem jw_m_RJ1_88 : Cond.methodLink RJ1 88 yJ1_canEncode_9a6ad ∈ qAL := qwd1_in (i := 3102) (by decide +kernel)
theorem jw_m_RJ1_95 : Cond.methodLink RJ1 95 yJ1_indexOfChar_4cfef ∈ qAL := qwd1_in (i := 3111) (by decide +kernel)
theorem jw_m_RJ1_92 : Cond.methodLink RJ1 92 Lib.Math.max.name ∈ qAL := qwd1_in (i := 3105) (by decide +kernel)
theorem jw_m_RJ1_38 : Cond.methodLink RJ1 38 Lib.Math.min.name ∈ qAL := qwd1_in (i := 3108) (by decide +kernel)
theorem jw_l_CS : Cond.laysStatic "java/lang/String" "COMPACT_STRINGS" "Z" ∈ lw_tbl := qwa_in (i := 3032) (by decide +kernel)
theorem jw_l_SF : Cond.laysStatic "jdk/internal/util/Preconditions" "SIOOBE_FORMATTER" "Ljava/util/function/BiFunction;" ∈ lw_tbl := qwa_in (i := 3048) (by decide +kernel)
theorem jd_coder_0 : decode cJ0_coder_7d493 0 = .ok (.getstatic 38, 3) := by decide +kernel
theorem jd_coder_3 : decode cJ0_coder_7d493 3 = .ok (.ifCond .eq 10, 3) := by decide +kernel
theorem jd_coder_6 : decode cJ0_coder_7d493 6 = .ok (.aload_n 0, 1) := by decide +kernel
theorem jd_coder_7 : decode cJ0_coder_7d493 7 = .ok (.getfield 15, 3) := by decide +kernel
theorem jd_coder_10 : decode cJ0_coder_7d493 10 = .ok (.goto 4, 3) := by decide +kernel
theorem jd_coder_14 : decode cJ0_coder_7d493 14 = .ok (.ireturn, 1) := by decide +kernel
noncomputable def jws_coder : List Cond := .code yJ0_coder_7d493 cJ0_coder_7d493 1 (some .byte) :: qAL
theorem jws_coder_in : ∀ w ∈ jws_coder, w ∈ qAL := fun w hw => by
  rcases List.mem_cons.mp hw with rfl | hw
  · exact jw_c_coder
  · exact hw
theorem jd_isLatin1_0 : decode cJ0_isLatin1_aae02 0 = .ok (.getstatic 38, 3) := by decide +kernel
theorem jd_isLatin1_3 : decode cJ0_isLatin1_aae02 3 = .ok (.ifCond .eq 14, 3) := by decide +kernel
theorem jd_isLatin1_6 : decode cJ0_isLatin1_aae02 6 = .ok (.aload_n 0, 1) := by decide +kernel
theorem jd_isLatin1_7 : decode cJ0_isLatin1_aae02 7 = .ok (.getfield 15, 3) := by decide +kernel
theorem jd_isLatin1_10 : decode cJ0_isLatin1_aae02 10 = .ok (.ifCond .ne 7, 3) := by decide +kernel
theorem jd_isLatin1_13 : decode cJ0_isLatin1_aae02 13 = .ok (.iconst 1, 1) := by decide +kernel
theorem jd_isLatin1_14 : decode cJ0_isLatin1_aae02 14 = .ok (.goto 4, 3) := by decide +kernel
theorem jd_isLatin1_18 : decode cJ0_isLatin1_aae02 18 = .ok (.ireturn, 1) := by decide +kernel
noncomputable def jws_isLatin1 : List Cond := .code yJ0_isLatin1_aae02 cJ0_isLatin1_aae02 1 (some .boolean) :: qAL
theorem jws_isLatin1_in : ∀ w ∈ jws_isLatin1, w ∈ qAL := fun w hw => by
  rcases List.mem_cons.mp hw with rfl | hw
  · exact jw_c_isLatin1
  · exact hw
theorem jd_length_0 : decode cJ0_length_8abf5 0 = .ok (.aload_n 0, 1) := by decide +kernel
theorem jd_length_1 : decode cJ0_length_8abf5 1 = .ok (.getfield 9, 3) := by decide +kernel
theorem jd_length_4 : decode cJ0_length_8abf5 4 = .ok (.arraylength, 1) := by decide +kernel
theorem jd_length_5 : decode cJ0_length_8abf5 5 = .ok (.aload_n 0, 1) := by decide +kernel
theorem jd_length_6 : decode cJ0_length_8abf5 6 = .ok (.invokevirtual 335, 3) := by decide +kernel
theorem jd_length_9 : decode cJ0_length_8abf5 9 = .ok (.ishr, 1) := by decide +kernel
theorem jd_length_10 : decode cJ0_length_8abf5 10 = .ok (.ireturn, 1) := by decide +kernel
noncomputable def jws_length : List Cond := .code yJ0_length_8abf5 cJ0_length_8abf5 1 (some .int) :: qAL
theorem jws_length_in : ∀ w ∈ jws_length, w ∈ qAL := fun w hw => by
  rcases List.mem_cons.mp hw with rfl | hw
  · exact jw_c_length
  · exact hw
theorem jd_pci_0 : decode cJ3_checkIndex_8e157 0 = .ok (.iload_n 0, 1) := by decide +kernel
theorem jd_pci_1 : decode cJ3_checkIndex_8e157 1 = .ok (.ifCond .lt 8, 3) := by decide +kernel
theorem jd_pci_4 : decode cJ3_checkIndex_8e157 4 = .ok (.iload_n 0, 1) := by decide +kernel
theorem jd_pci_5 : decode cJ3_checkIndex_8e157 5 = .ok (.iload_n 1, 1) := by decide +kernel
theorem jd_pci_6 : decode cJ3_checkIndex_8e157 6 = .ok (.if_icmp .lt 10, 3) := by decide +kernel
theorem jd_pci_16 : decode cJ3_checkIndex_8e157 16 = .ok (.iload_n 0, 1) := by decide +kernel
theorem jd_pci_17 : decode cJ3_checkIndex_8e157 17 = .ok (.ireturn, 1) := by decide +kernel
noncomputable def jws_pci : List Cond := .code yJ3_checkIndex_8e157 cJ3_checkIndex_8e157 3 (some .int) :: qAL
theorem jws_pci_in : ∀ w ∈ jws_pci, w ∈ qAL := fun w hw => by
  rcases List.mem_cons.mp hw with rfl | hw
  · exact jw_c_pci
  · exact hw
theorem jd_pcn_0 : decode cJ3_checkIndex_8e157 0 = .ok (.iload_n 0, 1) := by decide +kernel
theorem jd_pcn_1 : decode cJ3_checkIndex_8e157 1 = .ok (.ifCond .lt 8, 3) := by decide +kernel
theorem jd_pcn_4 : decode cJ3_checkIndex_8e157 4 = .ok (.iload_n 0, 1) := by decide +kernel
theorem jd_pcn_5 : decode cJ3_checkIndex_8e157 5 = .ok (.iload_n 1, 1) := by decide +kernel
theorem jd_pcn_6 : decode cJ3_checkIndex_8e157 6 = .ok (.if_icmp .lt 10, 3) := by decide +kernel
theorem jd_pcn_16 : decode cJ3_checkIndex_8e157 16 = .ok (.iload_n 0, 1) := by decide +kernel
theorem jd_pcn_17 : decode cJ3_checkIndex_8e157 17 = .ok (.ireturn, 1) := by decide +kernel
noncomputable def jws_pcn : List Cond := .code yJ3_checkIndex_8e157 cJ3_checkIndex_8e157 3 (some .int) :: qAL
theorem jws_pcn_in : ∀ w ∈ jws_pcn, w ∈ qAL := fun w hw => by
  rcases List.mem_cons.mp hw with rfl | hw
  · exact jw_c_pcn
  · exact hw
theorem jd_ci_0 : decode cJ0_checkIndex_df160 0 = .ok (.iload_n 0, 1) := by decide +kernel
theorem jd_ci_1 : decode cJ0_checkIndex_df160 1 = .ok (.iload_n 1, 1) := by decide +kernel
theorem jd_ci_2 : decode cJ0_checkIndex_df160 2 = .ok (.getstatic 1053, 3) := by decide +kernel
theorem jd_ci_5 : decode cJ0_checkIndex_df160 5 = .ok (.invokestatic 1059, 3) := by decide +kernel
theorem jd_ci_8 : decode cJ0_checkIndex_df160 8 = .ok (.pop, 1) := by decide +kernel
theorem jd_ci_9 : decode cJ0_checkIndex_df160 9 = .ok (.return_, 1) := by decide +kernel
noncomputable def jws_ci : List Cond := .code yJ0_checkIndex_df160 cJ0_checkIndex_df160 2 none :: qAL
theorem jws_ci_in : ∀ w ∈ jws_ci, w ∈ qAL := fun w hw => by
  rcases List.mem_cons.mp hw with rfl | hw
  · exact jw_c_ci
  · exact hw
theorem jd_lcharAt_0 : decode cJ1_charAt_3b067 0 = .ok (.iload_n 1, 1) := by decide +kernel
theorem jd_lcharAt_1 : decode cJ1_charAt_3b067 1 = .ok (.aload_n 0, 1) := by decide +kernel
theorem jd_lcharAt_2 : decode cJ1_charAt_3b067 2 = .ok (.arraylength, 1) := by decide +kernel
theorem jd_lcharAt_3 : decode cJ1_charAt_3b067 3 = .ok (.invokestatic 9, 3) := by decide +kernel
theorem jd_lcharAt_6 : decode cJ1_charAt_3b067 6 = .ok (.aload_n 0, 1) := by decide +kernel
theorem jd_lcharAt_7 : decode cJ1_charAt_3b067 7 = .ok (.iload_n 1, 1) := by decide +kernel
theorem jd_lcharAt_8 : decode cJ1_charAt_3b067 8 = .ok (.baload, 1) := by decide +kernel
theorem jd_lcharAt_9 : decode cJ1_charAt_3b067 9 = .ok (.sipush 255, 3) := by decide +kernel
theorem jd_lcharAt_12 : decode cJ1_charAt_3b067 12 = .ok (.iand, 1) := by decide +kernel
theorem jd_lcharAt_13 : decode cJ1_charAt_3b067 13 = .ok (.i2c, 1) := by decide +kernel
theorem jd_lcharAt_14 : decode cJ1_charAt_3b067 14 = .ok (.ireturn, 1) := by decide +kernel
noncomputable def jws_lcharAt : List Cond := .code yJ1_charAt_3b067 cJ1_charAt_3b067 2 (some .char) :: qAL
theorem jws_lcharAt_in : ∀ w ∈ jws_lcharAt, w ∈ qAL := fun w hw => by
  rcases List.mem_cons.mp hw with rfl | hw
  · exact jw_c_lcharAt
  · exact hw
theorem jd_charAt_0 : decode cJ0_charAt_5068e 0 = .ok (.aload_n 0, 1) := by decide +kernel
theorem jd_charAt_1 : decode cJ0_charAt_5068e 1 = .ok (.invokevirtual 492, 3) := by decide +kernel
theorem jd_charAt_4 : decode cJ0_charAt_5068e 4 = .ok (.ifCond .eq 12, 3) := by decide +kernel
theorem jd_charAt_7 : decode cJ0_charAt_5068e 7 = .ok (.aload_n 0, 1) := by decide +kernel
theorem jd_charAt_8 : decode cJ0_charAt_5068e 8 = .ok (.getfield 9, 3) := by decide +kernel
theorem jd_charAt_11 : decode cJ0_charAt_5068e 11 = .ok (.iload_n 1, 1) := by decide +kernel
theorem jd_charAt_12 : decode cJ0_charAt_5068e 12 = .ok (.invokestatic 495, 3) := by decide +kernel
theorem jd_charAt_15 : decode cJ0_charAt_5068e 15 = .ok (.ireturn, 1) := by decide +kernel
noncomputable def jws_charAt : List Cond := .code yJ0_charAt_5068e cJ0_charAt_5068e 2 (some .char) :: qAL
theorem jws_charAt_in : ∀ w ∈ jws_charAt, w ∈ qAL := fun w hw => by
  rcases List.mem_cons.mp hw with rfl | hw
  · exact jw_c_charAt
  · exact hw
theorem jd_canEncode_0 : decode cJ1_canEncode_9a6ad 0 = .ok (.iload_n 0, 1) := by decide +kernel
theorem jd_canEncode_1 : decode cJ1_canEncode_9a6ad 1 = .ok (.ifCond .lt 14, 3) := by decide +kernel
theorem jd_canEncode_4 : decode cJ1_canEncode_9a6ad 4 = .ok (.iload_n 0, 1) := by decide +kernel
theorem jd_canEncode_5 : decode cJ1_canEncode_9a6ad 5 = .ok (.sipush 255, 3) := by decide +kernel
theorem jd_canEncode_8 : decode cJ1_canEncode_9a6ad 8 = .ok (.if_icmp .gt 7, 3) := by decide +kernel
theorem jd_canEncode_11 : decode cJ1_canEncode_9a6ad 11 = .ok (.iconst 1, 1) := by decide +kernel
theorem jd_canEncode_12 : decode cJ1_canEncode_9a6ad 12 = .ok (.goto 4, 3) := by decide +kernel
theorem jd_canEncode_15 : decode cJ1_canEncode_9a6ad 15 = .ok (.iconst 0, 1) := by decide +kernel
theorem jd_canEncode_16 : decode cJ1_canEncode_9a6ad 16 = .ok (.ireturn, 1) := by decide +kernel
noncomputable def jws_canEncode : List Cond := .code yJ1_canEncode_9a6ad cJ1_canEncode_9a6ad 1 (some .boolean) :: qAL
theorem jws_canEncode_in : ∀ w ∈ jws_canEncode, w ∈ qAL := fun w hw => by
  rcases List.mem_cons.mp hw with rfl | hw
  · exact jw_c_canEncode
  · exact hw
theorem jd_ioc_0 : decode cJ1_indexOfChar_4cfef 0 = .ok (.iload_n 1, 1) := by decide +kernel
theorem jd_ioc_1 : decode cJ1_indexOfChar_4cfef 1 = .ok (.i2b, 1) := by decide +kernel
theorem jd_ioc_2 : decode cJ1_indexOfChar_4cfef 2 = .ok (.istore 4, 2) := by decide +kernel
theorem jd_ioc_4 : decode cJ1_indexOfChar_4cfef 4 = .ok (.iload_n 2, 1) := by decide +kernel
theorem jd_ioc_5 : decode cJ1_indexOfChar_4cfef 5 = .ok (.istore 5, 2) := by decide +kernel
theorem jd_ioc_7 : decode cJ1_indexOfChar_4cfef 7 = .ok (.iload 5, 2) := by decide +kernel
theorem jd_ioc_9 : decode cJ1_indexOfChar_4cfef 9 = .ok (.iload_n 3, 1) := by decide +kernel
theorem jd_ioc_10 : decode cJ1_indexOfChar_4cfef 10 = .ok (.if_icmp .ge 21, 3) := by decide +kernel
theorem jd_ioc_13 : decode cJ1_indexOfChar_4cfef 13 = .ok (.aload_n 0, 1) := by decide +kernel
theorem jd_ioc_14 : decode cJ1_indexOfChar_4cfef 14 = .ok (.iload 5, 2) := by decide +kernel
theorem jd_ioc_16 : decode cJ1_indexOfChar_4cfef 16 = .ok (.baload, 1) := by decide +kernel
theorem jd_ioc_17 : decode cJ1_indexOfChar_4cfef 17 = .ok (.iload 4, 2) := by decide +kernel
theorem jd_ioc_19 : decode cJ1_indexOfChar_4cfef 19 = .ok (.if_icmp .ne 6, 3) := by decide +kernel
theorem jd_ioc_22 : decode cJ1_indexOfChar_4cfef 22 = .ok (.iload 5, 2) := by decide +kernel
theorem jd_ioc_24 : decode cJ1_indexOfChar_4cfef 24 = .ok (.ireturn, 1) := by decide +kernel
theorem jd_ioc_25 : decode cJ1_indexOfChar_4cfef 25 = .ok (.iinc 5 1, 3) := by decide +kernel
theorem jd_ioc_28 : decode cJ1_indexOfChar_4cfef 28 = .ok (.goto (-21), 3) := by decide +kernel
theorem jd_ioc_31 : decode cJ1_indexOfChar_4cfef 31 = .ok (.iconst (-1), 1) := by decide +kernel
theorem jd_ioc_32 : decode cJ1_indexOfChar_4cfef 32 = .ok (.ireturn, 1) := by decide +kernel
noncomputable def jws_ioc : List Cond := .code yJ1_indexOfChar_4cfef cJ1_indexOfChar_4cfef 6 (some .int) :: qAL
theorem jws_ioc_in : ∀ w ∈ jws_ioc, w ∈ qAL := fun w hw => by
  rcases List.mem_cons.mp hw with rfl | hw
  · exact jw_c_ioc
  · exact hw
theorem jd_lio_0 : decode cJ1_indexOf_4cfef 0 = .ok (.iload_n 1, 1) := by decide +kernel
theorem jd_lio_1 : decode cJ1_indexOf_4cfef 1 = .ok (.invokestatic 88, 3) := by decide +kernel
theorem jd_lio_4 : decode cJ1_indexOf_4cfef 4 = .ok (.ifCond .ne 5, 3) := by decide +kernel
theorem jd_lio_7 : decode cJ1_indexOf_4cfef 7 = .ok (.iconst (-1), 1) := by decide +kernel
theorem jd_lio_8 : decode cJ1_indexOf_4cfef 8 = .ok (.ireturn, 1) := by decide +kernel
theorem jd_lio_9 : decode cJ1_indexOf_4cfef 9 = .ok (.iload_n 2, 1) := by decide +kernel
theorem jd_lio_10 : decode cJ1_indexOf_4cfef 10 = .ok (.iconst 0, 1) := by decide +kernel
theorem jd_lio_11 : decode cJ1_indexOf_4cfef 11 = .ok (.invokestatic 92, 3) := by decide +kernel
theorem jd_lio_14 : decode cJ1_indexOf_4cfef 14 = .ok (.istore_n 2, 1) := by decide +kernel
theorem jd_lio_15 : decode cJ1_indexOf_4cfef 15 = .ok (.iload_n 3, 1) := by decide +kernel
theorem jd_lio_16 : decode cJ1_indexOf_4cfef 16 = .ok (.aload_n 0, 1) := by decide +kernel
theorem jd_lio_17 : decode cJ1_indexOf_4cfef 17 = .ok (.arraylength, 1) := by decide +kernel
theorem jd_lio_18 : decode cJ1_indexOf_4cfef 18 = .ok (.invokestatic 38, 3) := by decide +kernel
theorem jd_lio_21 : decode cJ1_indexOf_4cfef 21 = .ok (.istore_n 3, 1) := by decide +kernel
theorem jd_lio_22 : decode cJ1_indexOf_4cfef 22 = .ok (.iload_n 2, 1) := by decide +kernel
theorem jd_lio_23 : decode cJ1_indexOf_4cfef 23 = .ok (.iload_n 3, 1) := by decide +kernel
theorem jd_lio_24 : decode cJ1_indexOf_4cfef 24 = .ok (.if_icmp .lt 5, 3) := by decide +kernel
theorem jd_lio_27 : decode cJ1_indexOf_4cfef 27 = .ok (.iconst (-1), 1) := by decide +kernel
theorem jd_lio_28 : decode cJ1_indexOf_4cfef 28 = .ok (.ireturn, 1) := by decide +kernel
theorem jd_lio_29 : decode cJ1_indexOf_4cfef 29 = .ok (.aload_n 0, 1) := by decide +kernel
theorem jd_lio_30 : decode cJ1_indexOf_4cfef 30 = .ok (.iload_n 1, 1) := by decide +kernel
theorem jd_lio_31 : decode cJ1_indexOf_4cfef 31 = .ok (.iload_n 2, 1) := by decide +kernel
theorem jd_lio_32 : decode cJ1_indexOf_4cfef 32 = .ok (.iload_n 3, 1) := by decide +kernel
theorem jd_lio_33 : decode cJ1_indexOf_4cfef 33 = .ok (.invokestatic 95, 3) := by decide +kernel
theorem jd_lio_36 : decode cJ1_indexOf_4cfef 36 = .ok (.ireturn, 1) := by decide +kernel
noncomputable def jws_lio : List Cond := .code yJ1_indexOf_4cfef cJ1_indexOf_4cfef 4 (some .int) :: qAL
theorem jws_lio_in : ∀ w ∈ jws_lio, w ∈ qAL := fun w hw => by
  rcases List.mem_cons.mp hw with rfl | hw
  · exact jw_c_lio
  · exact hw
theorem jd_io2_0 : decode cJ0_indexOf_7cf53 0 = .ok (.aload_n 0, 1) := by decide +kernel
theorem jd_io2_1 : decode cJ0_indexOf_7cf53 1 = .ok (.invokevirtual 492, 3) := by decide +kernel
theorem jd_io2_4 : decode cJ0_indexOf_7cf53 4 = .ok (.ifCond .eq 19, 3) := by decide +kernel
theorem jd_io2_7 : decode cJ0_indexOf_7cf53 7 = .ok (.aload_n 0, 1) := by decide +kernel
theorem jd_io2_8 : decode cJ0_indexOf_7cf53 8 = .ok (.getfield 9, 3) := by decide +kernel
theorem jd_io2_11 : decode cJ0_indexOf_7cf53 11 = .ok (.iload_n 1, 1) := by decide +kernel
theorem jd_io2_12 : decode cJ0_indexOf_7cf53 12 = .ok (.iload_n 2, 1) := by decide +kernel
theorem jd_io2_13 : decode cJ0_indexOf_7cf53 13 = .ok (.aload_n 0, 1) := by decide +kernel
theorem jd_io2_14 : decode cJ0_indexOf_7cf53 14 = .ok (.invokevirtual 505, 3) := by decide +kernel
theorem jd_io2_17 : decode cJ0_indexOf_7cf53 17 = .ok (.invokestatic 637, 3) := by decide +kernel
theorem jd_io2_20 : decode cJ0_indexOf_7cf53 20 = .ok (.goto 16, 3) := by decide +kernel
theorem jd_io2_36 : decode cJ0_indexOf_7cf53 36 = .ok (.ireturn, 1) := by decide +kernel
noncomputable def jws_io2 : List Cond := .code yJ0_indexOf_7cf53 cJ0_indexOf_7cf53 3 (some .int) :: qAL
theorem jws_io2_in : ∀ w ∈ jws_io2, w ∈ qAL := fun w hw => by
  rcases List.mem_cons.mp hw with rfl | hw
  · exact jw_c_io2
  · exact hw
theorem jd_io1_0 : decode cJ0_indexOf_0f7a4 0 = .ok (.aload_n 0, 1) := by decide +kernel
theorem jd_io1_1 : decode cJ0_indexOf_0f7a4 1 = .ok (.iload_n 1, 1) := by decide +kernel
theorem jd_io1_2 : decode cJ0_indexOf_0f7a4 2 = .ok (.iconst 0, 1) := by decide +kernel
theorem jd_io1_3 : decode cJ0_indexOf_0f7a4 3 = .ok (.invokevirtual 633, 3) := by decide +kernel
theorem jd_io1_6 : decode cJ0_indexOf_0f7a4 6 = .ok (.ireturn, 1) := by decide +kernel
noncomputable def jws_io1 : List Cond := .code yJ0_indexOf_0f7a4 cJ0_indexOf_0f7a4 2 (some .int) :: qAL
theorem jws_io1_in : ∀ w ∈ jws_io1, w ∈ qAL := fun w hw => by
  rcases List.mem_cons.mp hw with rfl | hw
  · exact jw_c_io1
  · exact hw
/-- a text and the statics that hold it -/
noncomputable def jq_B (a v L : Nat) (f : Nat → Int32) (sz : Nat) : State → Prop := fun U => U.heap.size = sz ∧ jq_T a v L f (fun q => sz ≤ q) U U.heap ∧ jq_Z (fun q => sz ≤ q) U U.heap
theorem jq_blind (a v L : Nat) (f : Nat → Int32) (sz : Nat) (av : List Value) : FrameBlind (va_Pc av (jq_B a v L f sz)) := fun a U g mk q => by
  obtain ⟨q0, q1, q2, q3⟩ := q
  exact ⟨q0, q1, q2.moved (u := U) (U := U.calling g mk a) (Vm.Alike.refl U.vm), q3.moved (u := U) (U := U.calling g mk a) (Vm.Alike.refl U.vm)⟩
noncomputable def jrm (d : Nat) : Room := { frames := d, cells := 0, slots := 0, locals := 60 * d }
theorem jpre {a v L : Nat} {f : Nat → Int32} {A : Nat → Prop} {s : State} {H0 H : Heap} {locs : List Loc} (hS : va_S A H0 H locs) (hA : ∀ q, H0.size ≤ q → A q) (hT : jq_T a v L f A s H0) (hZ : jq_Z A s H0) (av : List Value) : ∀ U : State, U.heap = H → s.WarmedH U.vm → va_Pc av (jq_B a v L f H.size) av.toArray U := fun U hU hW => by
  have hAB : ∀ q, H.size ≤ q → A q := fun q h => hA q (Nat.le_trans hS.1 h)
  exact ⟨rfl, by rw [hU], by rw [hU]; exact (hT.go hS hAB).moved hW.alike, by rw [hU]; exact (hZ.go hS hAB).moved hW.alike⟩
noncomputable def jQ (x : Int32) (sz : Nat) : Array Value → State → Outcome → State → Prop := va_Qi (fun r (_ : Unit) => r = x) (fun _ _ => True) (fun q => sz ≤ q)

set_option maxHeartbeats 4000000 in
theorem jc_coder (l : Launch) (a v L : Nat) (f : Nat → Int32) (sz : Nat)  : Met l yJ0_coder_7d493 jws_coder (jrm 0) (va_Pc [.ref a] (jq_B a v L f sz)) (jQ 0 sz) 0 0 (fun q => sz ≤ q) := by
  refine Met.ofW (cc := cJ0_coder_7d493) (maxL := 1) (ret := (some .byte)) (by decide) rfl ?_
  intro p e s m args below meth c s₁ B hml hv
  obtain ⟨rfl, rfl, hT, hZ⟩ := hv
  have hx := B.exec
  have hb := B.bytes
  have hr := B.returns
  have hts0 := atoms_spec (ws := jws_coder) B.pre
  have hts : ∀ w ∈ qAL, w.before _ s = true := fun w hw => hts0 w (List.mem_cons_of_mem _ hw)
  have hlocks := B.notSynchronized
  have hown : s.vm.findClass RJ0 = some m.cls := findClass_of_methodNamed B.named
  have hA : ∀ q : Nat, s.heap.size ≤ q → s.heap.size ≤ q := fun q h => h
  have hS : va_S (fun q => s.heap.size ≤ q) s.heap s.heap [] := va_S.rf
  have hl := lv_entry ([.ref a]) (n := 1) (Nat.le_of_ble_eq_true rfl)
  rw [lg_entry_eq]
  generalize (lg_sl ([.ref a]) ++ List.replicate (1 - (lg_sl ([.ref a])).length) Slot.unset).toArray = ls at hl ⊢
  have hl : lv_has ls 1 [(0, .ref a)] := hl
  refine va_gets (C := "java/lang/String") (n := "COMPACT_STRINGS") (d := "Z") (own := RJ0) (ref := "java/lang/String") hx hb hZ.1 hS hown (hts _ jw_f_RJ0_38) (fun _ h => h) jd_coder_0 ?_
  refine lv_if_eq (tgt := 13) hx hb jd_coder_3 rfl (fun h => absurd h (by decide)) (fun _ => ?_)
  refine lv_aload_n hx hb jd_coder_6 rfl (lv_at hl 0 rfl) ?_
  refine vk_getf (o := "java/lang/String") (n := "coder") (d := "B") (own := RJ0) (ref := "java/lang/String") hx hb hT.2.1 hS hown (hts _ jw_f_RJ0_15) (fun _ h => h) jd_coder_7 ?_
  refine lv_goto (tgt := 14) hx hb jd_coder_10 rfl ?_
  exact W.zret hx hb hr (ty := .byte) (by first | rfl | decide | assumption | exact pk_nc _) (fun t ht hW => ⟨⟨_, (), rfl, rfl, trivial⟩, hS.F ht⟩) hS.2.2 jd_coder_14
set_option maxHeartbeats 4000000 in
theorem jc_isLatin1 (l : Launch) (a v L : Nat) (f : Nat → Int32) (sz : Nat)  : Met l yJ0_isLatin1_aae02 jws_isLatin1 (jrm 0) (va_Pc [.ref a] (jq_B a v L f sz)) (jQ 1 sz) 0 0 (fun q => sz ≤ q) := by
  refine Met.ofW (cc := cJ0_isLatin1_aae02) (maxL := 1) (ret := (some .boolean)) (by decide) rfl ?_
  intro p e s m args below meth c s₁ B hml hv
  obtain ⟨rfl, rfl, hT, hZ⟩ := hv
  have hx := B.exec
  have hb := B.bytes
  have hr := B.returns
  have hts0 := atoms_spec (ws := jws_isLatin1) B.pre
  have hts : ∀ w ∈ qAL, w.before _ s = true := fun w hw => hts0 w (List.mem_cons_of_mem _ hw)
  have hlocks := B.notSynchronized
  have hown : s.vm.findClass RJ0 = some m.cls := findClass_of_methodNamed B.named
  have hA : ∀ q : Nat, s.heap.size ≤ q → s.heap.size ≤ q := fun q h => h
  have hS : va_S (fun q => s.heap.size ≤ q) s.heap s.heap [] := va_S.rf
  have hl := lv_entry ([.ref a]) (n := 1) (Nat.le_of_ble_eq_true rfl)
  rw [lg_entry_eq]
  generalize (lg_sl ([.ref a]) ++ List.replicate (1 - (lg_sl ([.ref a])).length) Slot.unset).toArray = ls at hl ⊢
  have hl : lv_has ls 1 [(0, .ref a)] := hl
  refine va_gets (C := "java/lang/String") (n := "COMPACT_STRINGS") (d := "Z") (own := RJ0) (ref := "java/lang/String") hx hb hZ.1 hS hown (hts _ jw_f_RJ0_38) (fun _ h => h) jd_isLatin1_0 ?_
  refine lv_if_eq (tgt := 17) hx hb jd_isLatin1_3 rfl (fun h => absurd h (by decide)) (fun _ => ?_)
  refine lv_aload_n hx hb jd_isLatin1_6 rfl (lv_at hl 0 rfl) ?_
  refine vk_getf (o := "java/lang/String") (n := "coder") (d := "B") (own := RJ0) (ref := "java/lang/String") hx hb hT.2.1 hS hown (hts _ jw_f_RJ0_15) (fun _ h => h) jd_isLatin1_7 ?_
  refine lv_if_ne (tgt := 17) hx hb jd_isLatin1_10 rfl (fun h => absurd rfl h) (fun _ => ?_)
  refine lv_iconst hx hb jd_isLatin1_13 rfl ?_
  refine lv_goto (tgt := 18) hx hb jd_isLatin1_14 rfl ?_
  exact W.zret hx hb hr (ty := .boolean) (by first | rfl | decide | assumption | exact pk_nc _) (fun t ht hW => ⟨⟨_, (), rfl, rfl, trivial⟩, hS.F ht⟩) hS.2.2 jd_isLatin1_18
theorem jgood {ws : List Cond} (h : ∀ w ∈ ws, w ∈ qAL) : GoodIn qAL ws := fun w hw => ⟨h w hw, good_of_word (List.mem_filter.mp (h w hw)).2⟩
theorem jgS {own : String} {i : Nat} {y : MethodName} {ws : List Cond} (h1 : Cond.methodLink own i y ∈ qAL) (h2 : Cond.static y ∈ qAL) (h3 : Cond.initialized y.cls ∈ qAL) (h4 : ∀ w ∈ ws, w ∈ qAL) : GoodIn qAL (va_wsS own i y ws) := jgood fun x hx => by
  have hx : x ∈ ([.methodLink own i y, .static y, .initialized y.cls] : List Cond) ++ ws := hx
  rcases List.mem_append.mp hx with h | h
  · simp only [List.mem_cons, List.not_mem_nil, or_false] at h
    rcases h with rfl | rfl | rfl <;> assumption
  · exact h4 x h
theorem jgV {own C : String} {i : Nat} {y : MethodName} {ws : List Cond} (h1 : Cond.methodLink own i y ∈ qAL) (h2 : Cond.instanceMethod y ∈ qAL) (h5 : Cond.selects C y y ∈ qAL) (h3 : Cond.initialized C ∈ qAL) (h4 : ∀ w ∈ ws, w ∈ qAL) : GoodIn qAL (wsV own i C y ws) := jgood fun x hx => by
  have hx : x ∈ ([.methodLink own i y, .instanceMethod y, .selects C y y, .initialized C] : List Cond) ++ ws := hx
  rcases List.mem_append.mp hx with h | h
  · simp only [List.mem_cons, List.not_mem_nil, or_false] at h
    rcases h with rfl | rfl | rfl | rfl <;> assumption
  · exact h4 x h
theorem jrecv {a v L : Nat} {f : Nat → Int32} {A : Nat → Prop} {s : State} {H0 H : Heap} {locs : List Loc} (hS : va_S A H0 H locs) (hT : jq_T a v L f A s H0) : ∃ cell : Cell, H[a]? = some cell ∧ cell.vm.isStatics = false ∧ s.vm.findClass "java/lang/String" = some cell.cls := by
  obtain ⟨cell, h1, h2, h3, -⟩ := hT.1.kept hS.2.1
  exact ⟨cell, h1, h2, h3⟩
theorem jshr0 {n : Nat} (h : n < 2147483648) : nI n >>> ((0 : Int32) &&& 31) = nI n := by
  have := pk_shrN (n := n) (by omega) ((0 : Int32) &&& 31) 0 (by decide)
  rw [this]; simp
set_option maxHeartbeats 4000000 in
theorem jc_length (l : Launch) (a v L : Nat) (f : Nat → Int32) (sz : Nat) (hL : L < 2147483648) : Met l yJ0_length_8abf5 jws_length (jrm 1) (va_Pc [.ref a] (jq_B a v L f sz)) (jQ (nI L) sz) 0 0 (fun q => sz ≤ q) := by
  refine Met.ofW (cc := cJ0_length_8abf5) (maxL := 1) (ret := (some .int)) (by decide) rfl ?_
  intro p e s m args below meth c s₁ B hml hv
  obtain ⟨rfl, rfl, hT, hZ⟩ := hv
  have hx := B.exec
  have hb := B.bytes
  have hr := B.returns
  have hts0 := atoms_spec (ws := jws_length) B.pre
  have hts : ∀ w ∈ qAL, w.before _ s = true := fun w hw => hts0 w (List.mem_cons_of_mem _ hw)
  have hlocks := B.notSynchronized
  have hown : s.vm.findClass RJ0 = some m.cls := findClass_of_methodNamed B.named
  have hA : ∀ q : Nat, s.heap.size ≤ q → s.heap.size ≤ q := fun q h => h
  have hS : va_S (fun q => s.heap.size ≤ q) s.heap s.heap [] := va_S.rf
  have hl := lv_entry ([.ref a]) (n := 1) (Nat.le_of_ble_eq_true rfl)
  rw [lg_entry_eq]
  generalize (lg_sl ([.ref a]) ++ List.replicate (1 - (lg_sl ([.ref a])).length) Slot.unset).toArray = ls at hl ⊢
  have hl : lv_has ls 1 [(0, .ref a)] := hl
  refine lv_aload_n hx hb jd_length_0 rfl (lv_at hl 0 rfl) ?_
  refine vk_getf (o := "java/lang/String") (n := "value") (d := "[B") (own := RJ0) (ref := "java/lang/String") hx hb hT.2.2.1 hS hown (hts _ jw_f_RJ0_9) (fun _ h => h) jd_length_1 ?_
  refine va_tlen hx hb hT.2.2.2 hS (v := nI L) rfl jd_length_4 ?_
  refine lv_aload_n hx hb jd_length_5 rfl (lv_at hl 0 rfl) ?_
  refine va_calli (post := fun r (_ : Unit) => r = 0) (B := fun _ _ => True) (A1 := fun q => _ ≤ q) (va_runV (As := []) (rest := [.int (nI L)]) (b := a) (C := RJ0) ⟨hx, hb, hml, hown, hts⟩ (jc_coder l a v L f _ ) (cwV 0 hts (jgV jw_m_RJ0_335 jw_i_coder jw_v_coder jw_n_RJ0 jws_coder_in) rfl rfl rfl ⟨rfl, by decide, by decide, by decide +kernel⟩ ⟨by decide, by decide⟩) ⟨jq_blind _ _ _ _ _ _, jrecv hS hT, jpre hS hA hT hZ _⟩ rfl rfl hl.1 rfl (lv_room (Nat.le_of_ble_eq_true rfl)) jd_length_6 ⟨Nat.zero_le _, Nat.zero_le _⟩) hS (fun q h9 h => absurd h (Nat.not_le.mpr h9)) (fun q h => hA q (Nat.le_trans hS.1 h)) (fun r _ t H locs ht hvm hr _ _ _ hS => ?_)
  subst hr
  refine lv_ishr hx hb jd_length_9 ?_
  rw [jshr0 hL]
  exact W.zret hx hb hr (ty := .int) (rfl) (fun t ht hW => ⟨⟨_, (), rfl, rfl, trivial⟩, hS.F ht⟩) hS.2.2 jd_length_10
set_option maxHeartbeats 4000000 in
theorem jc_pci (l : Launch) (a v L : Nat) (f : Nat → Int32) (sz : Nat) (i n g : Nat) (hi : i < n) (hn : n < 2147483648) : Met l yJ3_checkIndex_8e157 jws_pci (jrm 0) (va_Pc [.int (nI i), .int (nI n), .ref g] (jq_B a v L f sz)) (jQ (nI i) sz) 0 0 (fun q => sz ≤ q) := by
  refine Met.ofW (cc := cJ3_checkIndex_8e157) (maxL := 3) (ret := (some .int)) (by decide) rfl ?_
  intro p e s m args below meth c s₁ B hml hv
  obtain ⟨rfl, rfl, hT, hZ⟩ := hv
  have hx := B.exec
  have hb := B.bytes
  have hr := B.returns
  have hts0 := atoms_spec (ws := jws_pci) B.pre
  have hts : ∀ w ∈ qAL, w.before _ s = true := fun w hw => hts0 w (List.mem_cons_of_mem _ hw)
  have hlocks := B.notSynchronized
  have hown : s.vm.findClass RJ3 = some m.cls := findClass_of_methodNamed B.named
  have hA : ∀ q : Nat, s.heap.size ≤ q → s.heap.size ≤ q := fun q h => h
  have hS : va_S (fun q => s.heap.size ≤ q) s.heap s.heap [] := va_S.rf
  have hl := lv_entry ([.int (nI i), .int (nI n), .ref g]) (n := 3) (Nat.le_of_ble_eq_true rfl)
  rw [lg_entry_eq]
  generalize (lg_sl ([.int (nI i), .int (nI n), .ref g]) ++ List.replicate (3 - (lg_sl ([.int (nI i), .int (nI n), .ref g])).length) Slot.unset).toArray = ls at hl ⊢
  have hl : lv_has ls 3 [(0, .int (nI i)), (1, .int (nI n)), (2, .ref g)] := hl
  refine lv_iload_n hx hb jd_pci_0 rfl (lv_at hl 0 rfl) ?_
  refine lv_if_lt (tgt := 9) hx hb jd_pci_1 rfl (fun h => absurd h (nI_pos (by omega))) (fun _ => ?_)
  refine lv_iload_n hx hb jd_pci_4 rfl (lv_at hl 0 rfl) ?_
  refine lv_iload_n hx hb jd_pci_5 rfl (lv_at hl 1 rfl) ?_
  refine lv_icmp_lt (tgt := 16) hx hb jd_pci_6 rfl (fun _ => ?_) (fun h => absurd (nI_lt hi (by omega)) h)
  refine lv_iload_n hx hb jd_pci_16 rfl (lv_at hl 0 rfl) ?_
  exact W.zret hx hb hr (ty := .int) (rfl) (fun t ht hW => ⟨⟨_, (), rfl, rfl, trivial⟩, hS.F ht⟩) hS.2.2 jd_pci_17
set_option maxHeartbeats 4000000 in
theorem jc_pcn (l : Launch) (a v L : Nat) (f : Nat → Int32) (sz : Nat) (i n : Nat) (hi : i < n) (hn : n < 2147483648) : Met l yJ3_checkIndex_8e157 jws_pcn (jrm 0) (va_Pc [.int (nI i), .int (nI n), .null] (jq_B a v L f sz)) (jQ (nI i) sz) 0 0 (fun q => sz ≤ q) := by
  refine Met.ofW (cc := cJ3_checkIndex_8e157) (maxL := 3) (ret := (some .int)) (by decide) rfl ?_
  intro p e s m args below meth c s₁ B hml hv
  obtain ⟨rfl, rfl, hT, hZ⟩ := hv
  have hx := B.exec
  have hb := B.bytes
  have hr := B.returns
  have hts0 := atoms_spec (ws := jws_pcn) B.pre
  have hts : ∀ w ∈ qAL, w.before _ s = true := fun w hw => hts0 w (List.mem_cons_of_mem _ hw)
  have hlocks := B.notSynchronized
  have hown : s.vm.findClass RJ3 = some m.cls := findClass_of_methodNamed B.named
  have hA : ∀ q : Nat, s.heap.size ≤ q → s.heap.size ≤ q := fun q h => h
  have hS : va_S (fun q => s.heap.size ≤ q) s.heap s.heap [] := va_S.rf
  have hl := lv_entry ([.int (nI i), .int (nI n), .null]) (n := 3) (Nat.le_of_ble_eq_true rfl)
  rw [lg_entry_eq]
  generalize (lg_sl ([.int (nI i), .int (nI n), .null]) ++ List.replicate (3 - (lg_sl ([.int (nI i), .int (nI n), .null])).length) Slot.unset).toArray = ls at hl ⊢
  have hl : lv_has ls 3 [(0, .int (nI i)), (1, .int (nI n)), (2, .null)] := hl
  refine lv_iload_n hx hb jd_pci_0 rfl (lv_at hl 0 rfl) ?_
  refine lv_if_lt (tgt := 9) hx hb jd_pci_1 rfl (fun h => absurd h (nI_pos (by omega))) (fun _ => ?_)
  refine lv_iload_n hx hb jd_pci_4 rfl (lv_at hl 0 rfl) ?_
  refine lv_iload_n hx hb jd_pci_5 rfl (lv_at hl 1 rfl) ?_
  refine lv_icmp_lt (tgt := 16) hx hb jd_pci_6 rfl (fun _ => ?_) (fun h => absurd (nI_lt hi (by omega)) h)
  refine lv_iload_n hx hb jd_pci_16 rfl (lv_at hl 0 rfl) ?_
  exact W.zret hx hb hr (ty := .int) (rfl) (fun t ht hW => ⟨⟨_, (), rfl, rfl, trivial⟩, hS.F ht⟩) hS.2.2 jd_pci_17
set_option maxHeartbeats 4000000 in
theorem jc_ci (l : Launch) (a v L : Nat) (f : Nat → Int32) (sz : Nat) (i n : Nat) (hi : i < n) (hn : n < 2147483648) : Met l yJ0_checkIndex_df160 jws_ci (jrm 1) (va_Pc [.int (nI i), .int (nI n)] (jq_B a v L f sz)) (va_Qv (fun (_ : Unit) => True) (fun _ _ => True) (fun q => sz ≤ q)) 0 0 (fun q => sz ≤ q) := by
  refine Met.ofW (cc := cJ0_checkIndex_df160) (maxL := 2) (ret := none) (by decide) rfl ?_
  intro p e s m args below meth c s₁ B hml hv
  obtain ⟨rfl, rfl, hT, hZ⟩ := hv
  have hx := B.exec
  have hb := B.bytes
  have hr := B.returns
  have hts0 := atoms_spec (ws := jws_ci) B.pre
  have hts : ∀ w ∈ qAL, w.before _ s = true := fun w hw => hts0 w (List.mem_cons_of_mem _ hw)
  have hlocks := B.notSynchronized
  have hown : s.vm.findClass RJ0 = some m.cls := findClass_of_methodNamed B.named
  have hA : ∀ q : Nat, s.heap.size ≤ q → s.heap.size ≤ q := fun q h => h
  have hS : va_S (fun q => s.heap.size ≤ q) s.heap s.heap [] := va_S.rf
  have hl := lv_entry ([.int (nI i), .int (nI n)]) (n := 2) (Nat.le_of_ble_eq_true rfl)
  rw [lg_entry_eq]
  generalize (lg_sl ([.int (nI i), .int (nI n)]) ++ List.replicate (2 - (lg_sl ([.int (nI i), .int (nI n)])).length) Slot.unset).toArray = ls at hl ⊢
  have hl : lv_has ls 2 [(0, .int (nI i)), (1, .int (nI n))] := hl
  rcases hZ.2 with ⟨g, hg⟩ | hg
  · refine lv_iload_n hx hb jd_ci_0 rfl (lv_at hl 0 rfl) ?_
    refine lv_iload_n hx hb jd_ci_1 rfl (lv_at hl 1 rfl) ?_
    refine va_gets (C := "jdk/internal/util/Preconditions") (n := "SIOOBE_FORMATTER") (d := "Ljava/util/function/BiFunction;") (own := RJ0) (ref := "jdk/internal/util/Preconditions") hx hb hg hS hown (hts _ jw_f_RJ0_1053) (fun _ h => h) jd_ci_2 ?_
    refine va_calli (post := fun r (_ : Unit) => r = nI i) (B := fun _ _ => True) (A1 := fun q => _ ≤ q) (va_runS (As := [.int (nI i), .int (nI n), .ref g]) (rest := []) ⟨hx, hb, hml, hown, hts⟩ (jc_pci l a v L f _ i n g hi hn) (va_cwS 3 hts (jgS jw_m_RJ0_1059 jw_s_pci jw_n_RJ3 jws_pci_in) rfl rfl rfl ⟨by decide, by decide, by decide +kernel⟩ ⟨by decide, by decide⟩) ⟨jq_blind _ _ _ _ _ _, jpre hS hA hT hZ _⟩ rfl rfl hl.1 rfl (lv_room (Nat.le_of_ble_eq_true rfl)) jd_ci_5 ⟨Nat.zero_le _, Nat.zero_le _⟩) hS (fun q h9 h => absurd h (Nat.not_le.mpr h9)) (fun q h => hA q (Nat.le_trans hS.1 h)) (fun r _ t H locs ht hvm hr _ _ _ hS => ?_)
    subst hr
    refine lv_pop hx hb jd_ci_8 rfl ?_
    exact W.vret hx hb hr (fun t ht hW => ⟨⟨(), rfl, trivial, trivial⟩, hS.F ht⟩) hS.2.2 jd_ci_9
  · refine lv_iload_n hx hb jd_ci_0 rfl (lv_at hl 0 rfl) ?_
    refine lv_iload_n hx hb jd_ci_1 rfl (lv_at hl 1 rfl) ?_
    refine va_gets (C := "jdk/internal/util/Preconditions") (n := "SIOOBE_FORMATTER") (d := "Ljava/util/function/BiFunction;") (own := RJ0) (ref := "jdk/internal/util/Preconditions") hx hb hg hS hown (hts _ jw_f_RJ0_1053) (fun _ h => h) jd_ci_2 ?_
    refine va_calli (post := fun r (_ : Unit) => r = nI i) (B := fun _ _ => True) (A1 := fun q => _ ≤ q) (va_runS (As := [.int (nI i), .int (nI n), .null]) (rest := []) ⟨hx, hb, hml, hown, hts⟩ (jc_pcn l a v L f _ i n hi hn) (va_cwS 3 hts (jgS jw_m_RJ0_1059 jw_s_pcn jw_n_RJ3 jws_pcn_in) rfl rfl rfl ⟨by decide, by decide, by decide +kernel⟩ ⟨by decide, by decide⟩) ⟨jq_blind _ _ _ _ _ _, jpre hS hA hT hZ _⟩ rfl rfl hl.1 rfl (lv_room (Nat.le_of_ble_eq_true rfl)) jd_ci_5 ⟨Nat.zero_le _, Nat.zero_le _⟩) hS (fun q h9 h => absurd h (Nat.not_le.mpr h9)) (fun q h => hA q (Nat.le_trans hS.1 h)) (fun r _ t H locs ht hvm hr _ _ _ hS => ?_)
    subst hr
    refine lv_pop hx hb jd_ci_8 rfl ?_
    exact W.vret hx hb hr (fun t ht hW => ⟨⟨(), rfl, trivial, trivial⟩, hS.F ht⟩) hS.2.2 jd_ci_9
set_option maxHeartbeats 4000000 in
theorem jc_lcharAt (l : Launch) (a v L : Nat) (f : Nat → Int32) (sz : Nat) (i : Nat) (hi : i < L) (hL : L < 2147483648) : Met l yJ1_charAt_3b067 jws_lcharAt (jrm 2) (va_Pc [.ref v, .int (nI i)] (jq_B a v L f sz)) (jQ (((f i &&& 255).toUInt32 % 65536).toInt32) sz) 0 0 (fun q => sz ≤ q) := by
  refine Met.ofW (cc := cJ1_charAt_3b067) (maxL := 2) (ret := (some .char)) (by decide) rfl ?_
  intro p e s m args below meth c s₁ B hml hv
  obtain ⟨rfl, rfl, hT, hZ⟩ := hv
  have hx := B.exec
  have hb := B.bytes
  have hr := B.returns
  have hts0 := atoms_spec (ws := jws_lcharAt) B.pre
  have hts : ∀ w ∈ qAL, w.before _ s = true := fun w hw => hts0 w (List.mem_cons_of_mem _ hw)
  have hlocks := B.notSynchronized
  have hown : s.vm.findClass RJ1 = some m.cls := findClass_of_methodNamed B.named
  have hA : ∀ q : Nat, s.heap.size ≤ q → s.heap.size ≤ q := fun q h => h
  have hS : va_S (fun q => s.heap.size ≤ q) s.heap s.heap [] := va_S.rf
  have hl := lv_entry ([.ref v, .int (nI i)]) (n := 2) (Nat.le_of_ble_eq_true rfl)
  rw [lg_entry_eq]
  generalize (lg_sl ([.ref v, .int (nI i)]) ++ List.replicate (2 - (lg_sl ([.ref v, .int (nI i)])).length) Slot.unset).toArray = ls at hl ⊢
  have hl : lv_has ls 2 [(0, .ref v), (1, .int (nI i))] := hl
  refine lv_iload_n hx hb jd_lcharAt_0 rfl (lv_at hl 1 rfl) ?_
  refine lv_aload_n hx hb jd_lcharAt_1 rfl (lv_at hl 0 rfl) ?_
  refine va_tlen hx hb hT.2.2.2 hS (v := nI L) rfl jd_lcharAt_2 ?_
  refine va_callv (post := fun (_ : Unit) => True) (B := fun _ _ => True) (A1 := fun q => _ ≤ q) (va_runS (As := [.int (nI i), .int (nI L)]) (rest := []) ⟨hx, hb, hml, hown, hts⟩ (jc_ci l a v L f _ i L hi hL) (va_cwS 2 hts (jgS jw_m_RJ1_9 jw_s_ci jw_n_RJ0 jws_ci_in) rfl rfl rfl ⟨by decide, by decide, by decide +kernel⟩ ⟨by decide, by decide⟩) ⟨jq_blind _ _ _ _ _ _, jpre hS hA hT hZ _⟩ rfl rfl hl.1 rfl (lv_room (Nat.le_of_ble_eq_true rfl)) jd_lcharAt_3 ⟨Nat.zero_le _, Nat.zero_le _⟩) hS (fun q h9 h => absurd h (Nat.not_le.mpr h9)) (fun q h => hA q (Nat.le_trans hS.1 h)) (fun _ t H locs ht hvm _ _ _ _ hS => ?_)
  refine lv_aload_n hx hb jd_lcharAt_6 rfl (lv_at hl 0 rfl) ?_
  refine lv_iload_n hx hb jd_lcharAt_7 rfl (lv_at hl 1 rfl) ?_
  refine va_tb hx hb hT.2.2.2 hS (vp_in_nI hi (by omega)) (v := .int (f i)) (by rw [nI_clamp (by omega)]) jd_lcharAt_8 ?_
  refine lv_sipush hx hb jd_lcharAt_9 (v := 255) (by decide) ?_
  refine lv_iand hx hb jd_lcharAt_12 ?_
  refine lv_i2c hx hb jd_lcharAt_13 rfl ?_
  exact W.zret hx hb hr (ty := .char) (by first | rfl | decide | assumption | exact pk_nc _) (fun t ht hW => ⟨⟨_, (), rfl, rfl, trivial⟩, hS.F ht⟩) hS.2.2 jd_lcharAt_14
set_option maxHeartbeats 4000000 in
theorem jc_charAt (l : Launch) (a v L : Nat) (f : Nat → Int32) (sz : Nat) (i : Nat) (hi : i < L) (hL : L < 2147483648) : Met l yJ0_charAt_5068e jws_charAt (jrm 3) (va_Pc [.ref a, .int (nI i)] (jq_B a v L f sz)) (jQ (((f i &&& 255).toUInt32 % 65536).toInt32) sz) 0 0 (fun q => sz ≤ q) := by
  refine Met.ofW (cc := cJ0_charAt_5068e) (maxL := 2) (ret := (some .char)) (by decide) rfl ?_
  intro p e s m args below meth c s₁ B hml hv
  obtain ⟨rfl, rfl, hT, hZ⟩ := hv
  have hx := B.exec
  have hb := B.bytes
  have hr := B.returns
  have hts0 := atoms_spec (ws := jws_charAt) B.pre
  have hts : ∀ w ∈ qAL, w.before _ s = true := fun w hw => hts0 w (List.mem_cons_of_mem _ hw)
  have hlocks := B.notSynchronized
  have hown : s.vm.findClass RJ0 = some m.cls := findClass_of_methodNamed B.named
  have hA : ∀ q : Nat, s.heap.size ≤ q → s.heap.size ≤ q := fun q h => h
  have hS : va_S (fun q => s.heap.size ≤ q) s.heap s.heap [] := va_S.rf
  have hl := lv_entry ([.ref a, .int (nI i)]) (n := 2) (Nat.le_of_ble_eq_true rfl)
  rw [lg_entry_eq]
  generalize (lg_sl ([.ref a, .int (nI i)]) ++ List.replicate (2 - (lg_sl ([.ref a, .int (nI i)])).length) Slot.unset).toArray = ls at hl ⊢
  have hl : lv_has ls 2 [(0, .ref a), (1, .int (nI i))] := hl
  refine lv_aload_n hx hb jd_charAt_0 rfl (lv_at hl 0 rfl) ?_
  refine va_calli (post := fun r (_ : Unit) => r = 1) (B := fun _ _ => True) (A1 := fun q => _ ≤ q) (va_runV (As := []) (rest := []) (b := a) (C := RJ0) ⟨hx, hb, hml, hown, hts⟩ (jc_isLatin1 l a v L f _ ) (cwV 0 hts (jgV jw_m_RJ0_492 jw_i_isLatin1 jw_v_isLatin1 jw_n_RJ0 jws_isLatin1_in) rfl rfl rfl ⟨rfl, by decide, by decide, by decide +kernel⟩ ⟨by decide, by decide⟩) ⟨jq_blind _ _ _ _ _ _, jrecv hS hT, jpre hS hA hT hZ _⟩ rfl rfl hl.1 rfl (lv_room (Nat.le_of_ble_eq_true rfl)) jd_charAt_1 ⟨Nat.zero_le _, Nat.zero_le _⟩) hS (fun q h9 h => absurd h (Nat.not_le.mpr h9)) (fun q h => hA q (Nat.le_trans hS.1 h)) (fun r _ t H locs ht hvm hr _ _ _ hS => ?_)
  subst hr
  refine lv_if_eq (tgt := 16) hx hb jd_charAt_4 rfl (fun h => absurd h (by decide)) (fun _ => ?_)
  refine lv_aload_n hx hb jd_charAt_7 rfl (lv_at hl 0 rfl) ?_
  refine vk_getf (o := "java/lang/String") (n := "value") (d := "[B") (own := RJ0) (ref := "java/lang/String") hx hb hT.2.2.1 hS hown (hts _ jw_f_RJ0_9) (fun _ h => h) jd_charAt_8 ?_
  refine lv_iload_n hx hb jd_charAt_11 rfl (lv_at hl 1 rfl) ?_
  refine va_calli (post := fun r (_ : Unit) => r = ((f i &&& 255).toUInt32 % 65536).toInt32) (B := fun _ _ => True) (A1 := fun q => _ ≤ q) (va_runS (As := [.ref v, .int (nI i)]) (rest := []) ⟨hx, hb, hml, hown, hts⟩ (jc_lcharAt l a v L f _ i hi hL) (va_cwS 2 hts (jgS jw_m_RJ0_495 jw_s_lcharAt jw_n_RJ1 jws_lcharAt_in) rfl rfl rfl ⟨by decide, by decide, by decide +kernel⟩ ⟨by decide, by decide⟩) ⟨jq_blind _ _ _ _ _ _, jpre hS hA hT hZ _⟩ rfl rfl hl.1 rfl (lv_room (Nat.le_of_ble_eq_true rfl)) jd_charAt_12 ⟨Nat.zero_le _, Nat.zero_le _⟩) hS (fun q h9 h => absurd h (Nat.not_le.mpr h9)) (fun q h => hA q (Nat.le_trans hS.1 h)) (fun r _ t H locs ht hvm hr _ _ _ hS => ?_)
  subst hr
  exact W.zret hx hb hr (ty := .char) (by first | rfl | decide | assumption | exact pk_nc _) (fun t ht hW => ⟨⟨_, (), rfl, rfl, trivial⟩, hS.F ht⟩) hS.2.2 jd_charAt_15
set_option maxHeartbeats 4000000 in
theorem jc_canEncode (l : Launch) (a v L : Nat) (f : Nat → Int32) (sz : Nat) (x : Int32) : Met l yJ1_canEncode_9a6ad jws_canEncode (jrm 0) (va_Pc [.int x] (jq_B a v L f sz)) (jQ (if x < 0 then 0 else if 255 < x then 0 else 1) sz) 0 0 (fun q => sz ≤ q) := by
  refine Met.ofW (cc := cJ1_canEncode_9a6ad) (maxL := 1) (ret := (some .boolean)) (by decide) rfl ?_
  intro p e s m args below meth c s₁ B hml hv
  obtain ⟨rfl, rfl, hT, hZ⟩ := hv
  have hx := B.exec
  have hb := B.bytes
  have hr := B.returns
  have hts0 := atoms_spec (ws := jws_canEncode) B.pre
  have hts : ∀ w ∈ qAL, w.before _ s = true := fun w hw => hts0 w (List.mem_cons_of_mem _ hw)
  have hlocks := B.notSynchronized
  have hown : s.vm.findClass RJ1 = some m.cls := findClass_of_methodNamed B.named
  have hA : ∀ q : Nat, s.heap.size ≤ q → s.heap.size ≤ q := fun q h => h
  have hS : va_S (fun q => s.heap.size ≤ q) s.heap s.heap [] := va_S.rf
  have hl := lv_entry ([.int x]) (n := 1) (Nat.le_of_ble_eq_true rfl)
  rw [lg_entry_eq]
  generalize (lg_sl ([.int x]) ++ List.replicate (1 - (lg_sl ([.int x])).length) Slot.unset).toArray = ls at hl ⊢
  have hl : lv_has ls 1 [(0, .int x)] := hl
  refine lv_iload_n hx hb jd_canEncode_0 rfl (lv_at hl 0 rfl) ?_
  refine lv_if_lt (tgt := 15) hx hb jd_canEncode_1 rfl (fun h => ?_) (fun h => ?_)
  · rw [if_pos h]
    refine lv_iconst hx hb jd_canEncode_15 rfl ?_
    exact W.zret hx hb hr (ty := .boolean) (by first | rfl | decide | assumption | exact pk_nc _) (fun t ht hW => ⟨⟨_, (), rfl, rfl, trivial⟩, hS.F ht⟩) hS.2.2 jd_canEncode_16
  · rw [if_neg h]
    refine lv_iload_n hx hb jd_canEncode_4 rfl (lv_at hl 0 rfl) ?_
    refine lv_sipush hx hb jd_canEncode_5 (v := 255) (by decide) ?_
    refine lv_icmp_gt (tgt := 15) hx hb jd_canEncode_8 rfl (fun h2 => ?_) (fun h2 => ?_)
    · rw [if_pos h2]
      refine lv_iconst hx hb jd_canEncode_15 rfl ?_
      exact W.zret hx hb hr (ty := .boolean) (by first | rfl | decide | assumption | exact pk_nc _) (fun t ht hW => ⟨⟨_, (), rfl, rfl, trivial⟩, hS.F ht⟩) hS.2.2 jd_canEncode_16
    · rw [if_neg h2]
      refine lv_iconst hx hb jd_canEncode_11 rfl ?_
      refine lv_goto (tgt := 16) hx hb jd_canEncode_12 rfl ?_
      exact W.zret hx hb hr (ty := .boolean) (by first | rfl | decide | assumption | exact pk_nc _) (fun t ht hW => ⟨⟨_, (), rfl, rfl, trivial⟩, hS.F ht⟩) hS.2.2 jd_canEncode_16
/-- where a byte stands first, from k on, n places -/
noncomputable def jix (f : Nat → Int32) (b : Int32) : Nat → Nat → Int32
  | 0, _ => -1
  | n + 1, k => if f k = b then nI k else jix f b n (k + 1)
set_option maxHeartbeats 4000000 in
theorem jc_ioc (l : Launch) (a v L : Nat) (f : Nat → Int32) (sz : Nat) (x : Int32) (hL : L < 2147483648) : Met l yJ1_indexOfChar_4cfef jws_ioc (jrm 0) (va_Pc [.ref v, .int x, .int (nI 0), .int (nI L)] (jq_B a v L f sz)) (jQ (jix f x.toInt8.toInt32 L 0) sz) 0 0 (fun q => sz ≤ q) := by
  refine Met.ofW (cc := cJ1_indexOfChar_4cfef) (maxL := 6) (ret := (some .int)) (by decide) rfl ?_
  intro p e s m args below meth c s₁ B hml hv
  obtain ⟨rfl, rfl, hT, hZ⟩ := hv
  have hx := B.exec
  have hb := B.bytes
  have hr := B.returns
  have hts0 := atoms_spec (ws := jws_ioc) B.pre
  have hts : ∀ w ∈ qAL, w.before _ s = true := fun w hw => hts0 w (List.mem_cons_of_mem _ hw)
  have hlocks := B.notSynchronized
  have hown : s.vm.findClass RJ1 = some m.cls := findClass_of_methodNamed B.named
  have hA : ∀ q : Nat, s.heap.size ≤ q → s.heap.size ≤ q := fun q h => h
  have hS : va_S (fun q => s.heap.size ≤ q) s.heap s.heap [] := va_S.rf
  have hl := lv_entry ([.ref v, .int x, .int (nI 0), .int (nI L)]) (n := 6) (Nat.le_of_ble_eq_true rfl)
  rw [lg_entry_eq]
  generalize (lg_sl ([.ref v, .int x, .int (nI 0), .int (nI L)]) ++ List.replicate (6 - (lg_sl ([.ref v, .int x, .int (nI 0), .int (nI L)])).length) Slot.unset).toArray = ls at hl ⊢
  have hl : lv_has ls 6 [(0, .ref v), (1, .int x), (2, .int (nI 0)), (3, .int (nI L))] := hl
  refine lv_iload_n hx hb jd_ioc_0 rfl (lv_at hl 1 rfl) ?_
  refine lv_i2b hx hb jd_ioc_1 rfl ?_
  refine lv_istore hx hb jd_ioc_2 hl (by decide) rfl (fun ls hl => ?_)
  have hl : lv_has ls 6 [(4, .int x.toInt8.toInt32), (0, .ref v), (1, .int x), (2, .int (nI 0)), (3, .int (nI L))] := hl
  refine lv_iload_n hx hb jd_ioc_4 rfl (lv_at hl 3 rfl) ?_
  refine lv_istore hx hb jd_ioc_5 hl (by decide) rfl (fun ls hl => ?_)
  have hl : lv_has ls 6 [(5, .int (nI 0)), (4, .int x.toInt8.toInt32), (0, .ref v), (1, .int x), (2, .int (nI 0)), (3, .int (nI L))] := hl
  have key : ∀ (n k : Nat) (ls : Array Slot), k + n = L → jix f x.toInt8.toInt32 L 0 = jix f x.toInt8.toInt32 n k → lv_has ls 6 [(5, .int (nI k)), (4, .int x.toInt8.toInt32), (0, .ref v), (1, .int x), (2, .int (nI 0)), (3, .int (nI L))] → W p l e (jrm 0) s m #[Value.ref v, Value.int x, Value.int (nI 0), Value.int (nI L)] below meth c s.heap [] 0 0 (MQ below (jQ (jix f x.toInt8.toInt32 L 0) s.heap.size) #[Value.ref v, Value.int x, Value.int (nI 0), Value.int (nI L)] s 0 0 (fun q => s.heap.size ≤ q)) (F0 m 7 ls []) := by
    intro n
    induction n with
    | zero =>
      intro k ls hk he hl
      refine lv_iload hx hb jd_ioc_7 (lv_at hl 0 rfl) ?_
      refine lv_iload_n hx hb jd_ioc_9 rfl (lv_at hl 5 rfl) ?_
      refine lv_icmp_ge (tgt := 31) hx hb jd_ioc_10 rfl (fun _ => ?_) (fun h => absurd (nI_le (by omega) (by omega)) h)
      refine lv_iconst hx hb jd_ioc_31 rfl ?_
      rw [he]
      exact W.zret hx hb hr (ty := .int) rfl (fun t ht hW => ⟨⟨_, (), rfl, rfl, trivial⟩, hS.F ht⟩) hS.2.2 jd_ioc_32
    | succ n ih =>
      intro k ls hk he hl
      refine lv_iload hx hb jd_ioc_7 (lv_at hl 0 rfl) ?_
      refine lv_iload_n hx hb jd_ioc_9 rfl (lv_at hl 5 rfl) ?_
      refine lv_icmp_ge (tgt := 31) hx hb jd_ioc_10 rfl (fun h => absurd h (nI_ge (by omega) (by omega))) (fun _ => ?_)
      refine lv_aload_n hx hb jd_ioc_13 rfl (lv_at hl 2 rfl) ?_
      refine lv_iload hx hb jd_ioc_14 (lv_at hl 0 rfl) ?_
      refine va_tb hx hb hT.2.2.2 hS (vp_in_nI (show k < L by omega) (by omega)) (v := .int (f k)) (by rw [nI_clamp (by omega)]) jd_ioc_16 ?_
      refine lv_iload hx hb jd_ioc_17 (lv_at hl 1 rfl) ?_
      refine lv_icmp_ne (tgt := 25) hx hb jd_ioc_19 rfl (fun h => ?_) (fun h => ?_)
      · refine lv_iinc hx hb jd_ioc_25 hl (k := 0) (v := nI (k + 1)) rfl (nI_1 k) (by decide) rfl (fun ls hl => ?_)
        have hl : lv_has ls 6 [(5, .int (nI (k + 1))), (4, .int x.toInt8.toInt32), (0, .ref v), (1, .int x), (2, .int (nI 0)), (3, .int (nI L))] := hl
        refine lv_goto (tgt := 7) hx hb jd_ioc_28 rfl ?_
        exact ih (k + 1) ls (by omega) (by rw [he]; exact if_neg h) hl
      · refine lv_iload hx hb jd_ioc_22 (lv_at hl 0 rfl) ?_
        rw [he, show jix f x.toInt8.toInt32 (n + 1) k = nI k from if_pos h]
        exact W.zret hx hb hr (ty := .int) rfl (fun t ht hW => ⟨⟨_, (), rfl, rfl, trivial⟩, hS.F ht⟩) hS.2.2 jd_ioc_24
  exact key L 0 ls (by omega) rfl hl
set_option maxHeartbeats 4000000 in
theorem jc_lio (l : Launch) (a v L : Nat) (f : Nat → Int32) (sz : Nat) (x : Int32) (hL : L < 2147483648) : Met l yJ1_indexOf_4cfef jws_lio (jrm 1) (va_Pc [.ref v, .int x, .int (nI 0), .int (nI L)] (jq_B a v L f sz)) (jQ (if x < 0 then -1 else if 255 < x then -1 else jix f x.toInt8.toInt32 L 0) sz) 0 0 (fun q => sz ≤ q) := by
  refine Met.ofW (cc := cJ1_indexOf_4cfef) (maxL := 4) (ret := (some .int)) (by decide) rfl ?_
  intro p e s m args below meth c s₁ B hml hv
  obtain ⟨rfl, rfl, hT, hZ⟩ := hv
  have hx := B.exec
  have hb := B.bytes
  have hr := B.returns
  have hts0 := atoms_spec (ws := jws_lio) B.pre
  have hts : ∀ w ∈ qAL, w.before _ s = true := fun w hw => hts0 w (List.mem_cons_of_mem _ hw)
  have hlocks := B.notSynchronized
  have hown : s.vm.findClass RJ1 = some m.cls := findClass_of_methodNamed B.named
  have hA : ∀ q : Nat, s.heap.size ≤ q → s.heap.size ≤ q := fun q h => h
  have hS : va_S (fun q => s.heap.size ≤ q) s.heap s.heap [] := va_S.rf
  have hl := lv_entry ([.ref v, .int x, .int (nI 0), .int (nI L)]) (n := 4) (Nat.le_of_ble_eq_true rfl)
  rw [lg_entry_eq]
  generalize (lg_sl ([.ref v, .int x, .int (nI 0), .int (nI L)]) ++ List.replicate (4 - (lg_sl ([.ref v, .int x, .int (nI 0), .int (nI L)])).length) Slot.unset).toArray = ls at hl ⊢
  have hl : lv_has ls 4 [(0, .ref v), (1, .int x), (2, .int (nI 0)), (3, .int (nI L))] := hl
  refine lv_iload_n hx hb jd_lio_0 rfl (lv_at hl 1 rfl) ?_
  refine va_calli (post := fun r (_ : Unit) => r = (if x < 0 then 0 else if 255 < x then 0 else 1)) (B := fun _ _ => True) (A1 := fun q => _ ≤ q) (va_runS (As := [.int x]) (rest := []) ⟨hx, hb, hml, hown, hts⟩ (jc_canEncode l a v L f _ x) (va_cwS 1 hts (jgS jw_m_RJ1_88 jw_s_canEncode jw_n_RJ1 jws_canEncode_in) rfl rfl rfl ⟨by decide, by decide, by decide +kernel⟩ ⟨by decide, by decide⟩) ⟨jq_blind _ _ _ _ _ _, jpre hS hA hT hZ _⟩ rfl rfl hl.1 rfl (lv_room (Nat.le_of_ble_eq_true rfl)) jd_lio_1 ⟨Nat.zero_le _, Nat.zero_le _⟩) hS (fun q h9 h => absurd h (Nat.not_le.mpr h9)) (fun q h => hA q (Nat.le_trans hS.1 h)) (fun r _ t H locs ht hvm hr _ _ _ hS => ?_)
  subst hr
  have neg : (if x < 0 then -1 else if 255 < x then -1 else jix f x.toInt8.toInt32 L 0) = -1 → W p l e (jrm 1) s m #[Value.ref v, Value.int x, Value.int (nI 0), Value.int (nI L)] below meth c H locs (0 + 0) (0 + 0) (MQ below (jQ (if x < 0 then -1 else if 255 < x then -1 else jix f x.toInt8.toInt32 L 0) s.heap.size) #[Value.ref v, Value.int x, Value.int (nI 0), Value.int (nI L)] s 0 0 (fun q => s.heap.size ≤ q)) (F0 m 7 ls []) := fun he => by
    refine lv_iconst hx hb jd_lio_7 rfl ?_
    rw [he]
    exact W.zret hx hb hr (ty := .int) (rfl) (fun t ht hW => ⟨⟨_, (), rfl, rfl, trivial⟩, hS.F ht⟩) hS.2.2 jd_lio_8
  by_cases h0 : x < 0
  · refine lv_if_ne (tgt := 9) hx hb jd_lio_4 rfl (fun h => absurd (if_pos h0) h) (fun _ => neg (if_pos h0))
  by_cases h1 : 255 < x
  · refine lv_if_ne (tgt := 9) hx hb jd_lio_4 rfl (fun h => absurd (by rw [if_neg h0, if_pos h1]) h) (fun _ => neg (by rw [if_neg h0, if_pos h1]))
  refine lv_if_ne (tgt := 9) hx hb jd_lio_4 rfl (fun _ => ?_) (fun h => absurd h (by rw [if_neg h0, if_neg h1]; decide))
  rw [if_neg h0, if_neg h1]
  refine lv_iload_n hx hb jd_lio_9 rfl (lv_at hl 2 rfl) ?_
  refine lv_iconst hx hb jd_lio_10 (v := nI 0) rfl ?_
  refine va_mmax hx hb (by rw [hml]; exact hl.1.symm) hown (hts _ jw_m_RJ1_92) (hts _ qwMs_max) (hts _ qwMi) (hts _ qwMc_max) (by decide) (Nat.le_of_ble_eq_true rfl) (Nat.le_refl 0) (Nat.le_refl 0) jd_lio_11 ?_
  rw [show (if nI 0 < nI 0 then nI 0 else nI 0) = nI 0 from by split <;> rfl]
  refine lv_istore_n hx hb jd_lio_14 rfl hl (by decide) rfl (fun ls hl => ?_)
  have hl : lv_has ls 4 [(2, .int (nI 0)), (0, .ref v), (1, .int x), (3, .int (nI L))] := hl
  refine lv_iload_n hx hb jd_lio_15 rfl (lv_at hl 3 rfl) ?_
  refine lv_aload_n hx hb jd_lio_16 rfl (lv_at hl 1 rfl) ?_
  refine va_tlen hx hb hT.2.2.2 hS (v := nI L) rfl jd_lio_17 ?_
  refine va_mmin hx hb (by rw [hml]; exact hl.1.symm) hown (hts _ jw_m_RJ1_38) (hts _ qwMs_min) (hts _ qwMi) (hts _ qwMc_min) (by decide) (Nat.le_of_ble_eq_true rfl) (Nat.le_refl 0) (Nat.le_refl 0) jd_lio_18 ?_
  rw [show (if nI L < nI L then nI L else nI L) = nI L from by split <;> rfl]
  refine lv_istore_n hx hb jd_lio_21 rfl hl (by decide) rfl (fun ls hl => ?_)
  have hl : lv_has ls 4 [(3, .int (nI L)), (2, .int (nI 0)), (0, .ref v), (1, .int x)] := hl
  refine lv_iload_n hx hb jd_lio_22 rfl (lv_at hl 1 rfl) ?_
  refine lv_iload_n hx hb jd_lio_23 rfl (lv_at hl 0 rfl) ?_
  refine lv_icmp_lt (tgt := 29) hx hb jd_lio_24 rfl (fun _ => ?_) (fun h => ?_)
  · refine lv_aload_n hx hb jd_lio_29 rfl (lv_at hl 2 rfl) ?_
    refine lv_iload_n hx hb jd_lio_30 rfl (lv_at hl 3 rfl) ?_
    refine lv_iload_n hx hb jd_lio_31 rfl (lv_at hl 1 rfl) ?_
    refine lv_iload_n hx hb jd_lio_32 rfl (lv_at hl 0 rfl) ?_
    refine va_calli (post := fun r (_ : Unit) => r = jix f x.toInt8.toInt32 L 0) (B := fun _ _ => True) (A1 := fun q => _ ≤ q) (va_runS (As := [.ref v, .int x, .int (nI 0), .int (nI L)]) (rest := []) ⟨hx, hb, hml, hown, hts⟩ (jc_ioc l a v L f _ x hL) (va_cwS 4 hts (jgS jw_m_RJ1_95 jw_s_ioc jw_n_RJ1 jws_ioc_in) rfl rfl rfl ⟨by decide, by decide, by decide +kernel⟩ ⟨by decide, by decide⟩) ⟨jq_blind _ _ _ _ _ _, jpre hS hA hT hZ _⟩ rfl rfl hl.1 rfl (lv_room (Nat.le_of_ble_eq_true rfl)) jd_lio_33 ⟨Nat.zero_le _, Nat.zero_le _⟩) hS (fun q h9 h => absurd h (Nat.not_le.mpr h9)) (fun q h => hA q (Nat.le_trans hS.1 h)) (fun r2 _ t H locs ht hvm hr2 _ _ _ hS => ?_)
    subst hr2
    exact W.zret hx hb hr (ty := .int) (rfl) (fun t ht hW => ⟨⟨_, (), rfl, rfl, trivial⟩, hS.F ht⟩) hS.2.2 jd_lio_36
  · have hL0 : L = 0 := Nat.eq_zero_of_not_pos (fun z => h (nI_lt z (by omega)))
    subst hL0
    refine lv_iconst hx hb jd_lio_27 rfl ?_
    exact W.zret hx hb hr (ty := .int) (rfl) (fun t ht hW => ⟨⟨_, (), rfl, rfl, trivial⟩, hS.F ht⟩) hS.2.2 jd_lio_28
set_option maxHeartbeats 4000000 in
theorem jc_io2 (l : Launch) (a v L : Nat) (f : Nat → Int32) (sz : Nat) (x : Int32) (hL : L < 2147483648) : Met l yJ0_indexOf_7cf53 jws_io2 (jrm 2) (va_Pc [.ref a, .int x, .int (nI 0)] (jq_B a v L f sz)) (jQ (if x < 0 then -1 else if 255 < x then -1 else jix f x.toInt8.toInt32 L 0) sz) 0 0 (fun q => sz ≤ q) := by
  refine Met.ofW (cc := cJ0_indexOf_7cf53) (maxL := 3) (ret := (some .int)) (by decide) rfl ?_
  intro p e s m args below meth c s₁ B hml hv
  obtain ⟨rfl, rfl, hT, hZ⟩ := hv
  have hx := B.exec
  have hb := B.bytes
  have hr := B.returns
  have hts0 := atoms_spec (ws := jws_io2) B.pre
  have hts : ∀ w ∈ qAL, w.before _ s = true := fun w hw => hts0 w (List.mem_cons_of_mem _ hw)
  have hlocks := B.notSynchronized
  have hown : s.vm.findClass RJ0 = some m.cls := findClass_of_methodNamed B.named
  have hA : ∀ q : Nat, s.heap.size ≤ q → s.heap.size ≤ q := fun q h => h
  have hS : va_S (fun q => s.heap.size ≤ q) s.heap s.heap [] := va_S.rf
  have hl := lv_entry ([.ref a, .int x, .int (nI 0)]) (n := 3) (Nat.le_of_ble_eq_true rfl)
  rw [lg_entry_eq]
  generalize (lg_sl ([.ref a, .int x, .int (nI 0)]) ++ List.replicate (3 - (lg_sl ([.ref a, .int x, .int (nI 0)])).length) Slot.unset).toArray = ls at hl ⊢
  have hl : lv_has ls 3 [(0, .ref a), (1, .int x), (2, .int (nI 0))] := hl
  refine lv_aload_n hx hb jd_io2_0 rfl (lv_at hl 0 rfl) ?_
  refine va_calli (post := fun r (_ : Unit) => r = 1) (B := fun _ _ => True) (A1 := fun q => _ ≤ q) (va_runV (As := []) (rest := []) (b := a) (C := RJ0) ⟨hx, hb, hml, hown, hts⟩ (jc_isLatin1 l a v L f _ ) (cwV 0 hts (jgV jw_m_RJ0_492 jw_i_isLatin1 jw_v_isLatin1 jw_n_RJ0 jws_isLatin1_in) rfl rfl rfl ⟨rfl, by decide, by decide, by decide +kernel⟩ ⟨by decide, by decide⟩) ⟨jq_blind _ _ _ _ _ _, jrecv hS hT, jpre hS hA hT hZ _⟩ rfl rfl hl.1 rfl (lv_room (Nat.le_of_ble_eq_true rfl)) jd_io2_1 ⟨Nat.zero_le _, Nat.zero_le _⟩) hS (fun q h9 h => absurd h (Nat.not_le.mpr h9)) (fun q h => hA q (Nat.le_trans hS.1 h)) (fun r _ t H locs ht hvm hr _ _ _ hS => ?_)
  subst hr
  refine lv_if_eq (tgt := 23) hx hb jd_io2_4 rfl (fun h => absurd h (by decide)) (fun _ => ?_)
  refine lv_aload_n hx hb jd_io2_7 rfl (lv_at hl 0 rfl) ?_
  refine vk_getf (o := "java/lang/String") (n := "value") (d := "[B") (own := RJ0) (ref := "java/lang/String") hx hb hT.2.2.1 hS hown (hts _ jw_f_RJ0_9) (fun _ h => h) jd_io2_8 ?_
  refine lv_iload_n hx hb jd_io2_11 rfl (lv_at hl 1 rfl) ?_
  refine lv_iload_n hx hb jd_io2_12 rfl (lv_at hl 2 rfl) ?_
  refine lv_aload_n hx hb jd_io2_13 rfl (lv_at hl 0 rfl) ?_
  refine va_calli (post := fun r (_ : Unit) => r = nI L) (B := fun _ _ => True) (A1 := fun q => _ ≤ q) (va_runV (As := []) (rest := [.int (nI 0), .int x, .ref v]) (b := a) (C := RJ0) ⟨hx, hb, hml, hown, hts⟩ (jc_length l a v L f _ hL) (cwV 0 hts (jgV jw_m_RJ0_505 jw_i_length jw_v_length jw_n_RJ0 jws_length_in) rfl rfl rfl ⟨rfl, by decide, by decide, by decide +kernel⟩ ⟨by decide, by decide⟩) ⟨jq_blind _ _ _ _ _ _, jrecv hS hT, jpre hS hA hT hZ _⟩ rfl rfl hl.1 rfl (lv_room (Nat.le_of_ble_eq_true rfl)) jd_io2_14 ⟨Nat.zero_le _, Nat.zero_le _⟩) hS (fun q h9 h => absurd h (Nat.not_le.mpr h9)) (fun q h => hA q (Nat.le_trans hS.1 h)) (fun r2 _ t H locs ht hvm hr2 _ _ _ hS => ?_)
  subst hr2
  refine va_calli (post := fun r (_ : Unit) => r = (if x < 0 then -1 else if 255 < x then -1 else jix f x.toInt8.toInt32 L 0)) (B := fun _ _ => True) (A1 := fun q => _ ≤ q) (va_runS (As := [.ref v, .int x, .int (nI 0), .int (nI L)]) (rest := []) ⟨hx, hb, hml, hown, hts⟩ (jc_lio l a v L f _ x hL) (va_cwS 4 hts (jgS jw_m_RJ0_637 jw_s_lio jw_n_RJ1 jws_lio_in) rfl rfl rfl ⟨by decide, by decide, by decide +kernel⟩ ⟨by decide, by decide⟩) ⟨jq_blind _ _ _ _ _ _, jpre hS hA hT hZ _⟩ rfl rfl hl.1 rfl (lv_room (Nat.le_of_ble_eq_true rfl)) jd_io2_17 ⟨Nat.zero_le _, Nat.zero_le _⟩) hS (fun q h9 h => absurd h (Nat.not_le.mpr h9)) (fun q h => hA q (Nat.le_trans hS.1 h)) (fun r3 _ t H locs ht hvm hr3 _ _ _ hS => ?_)
  subst hr3
  refine lv_goto (tgt := 36) hx hb jd_io2_20 rfl ?_
  exact W.zret hx hb hr (ty := .int) (rfl) (fun t ht hW => ⟨⟨_, (), rfl, rfl, trivial⟩, hS.F ht⟩) hS.2.2 jd_io2_36
set_option maxHeartbeats 4000000 in
theorem jc_io1 (l : Launch) (a v L : Nat) (f : Nat → Int32) (sz : Nat) (x : Int32) (hL : L < 2147483648) : Met l yJ0_indexOf_0f7a4 jws_io1 (jrm 3) (va_Pc [.ref a, .int x] (jq_B a v L f sz)) (jQ (if x < 0 then -1 else if 255 < x then -1 else jix f x.toInt8.toInt32 L 0) sz) 0 0 (fun q => sz ≤ q) := by
  refine Met.ofW (cc := cJ0_indexOf_0f7a4) (maxL := 2) (ret := (some .int)) (by decide) rfl ?_
  intro p e s m args below meth c s₁ B hml hv
  obtain ⟨rfl, rfl, hT, hZ⟩ := hv
  have hx := B.exec
  have hb := B.bytes
  have hr := B.returns
  have hts0 := atoms_spec (ws := jws_io1) B.pre
  have hts : ∀ w ∈ qAL, w.before _ s = true := fun w hw => hts0 w (List.mem_cons_of_mem _ hw)
  have hlocks := B.notSynchronized
  have hown : s.vm.findClass RJ0 = some m.cls := findClass_of_methodNamed B.named
  have hA : ∀ q : Nat, s.heap.size ≤ q → s.heap.size ≤ q := fun q h => h
  have hS : va_S (fun q => s.heap.size ≤ q) s.heap s.heap [] := va_S.rf
  have hl := lv_entry ([.ref a, .int x]) (n := 2) (Nat.le_of_ble_eq_true rfl)
  rw [lg_entry_eq]
  generalize (lg_sl ([.ref a, .int x]) ++ List.replicate (2 - (lg_sl ([.ref a, .int x])).length) Slot.unset).toArray = ls at hl ⊢
  have hl : lv_has ls 2 [(0, .ref a), (1, .int x)] := hl
  refine lv_aload_n hx hb jd_io1_0 rfl (lv_at hl 0 rfl) ?_
  refine lv_iload_n hx hb jd_io1_1 rfl (lv_at hl 1 rfl) ?_
  refine lv_iconst hx hb jd_io1_2 (v := nI 0) rfl ?_
  refine va_calli (post := fun r (_ : Unit) => r = (if x < 0 then -1 else if 255 < x then -1 else jix f x.toInt8.toInt32 L 0)) (B := fun _ _ => True) (A1 := fun q => _ ≤ q) (va_runV (As := [.int x, .int (nI 0)]) (rest := []) (b := a) (C := RJ0) ⟨hx, hb, hml, hown, hts⟩ (jc_io2 l a v L f _ x hL) (cwV 2 hts (jgV jw_m_RJ0_633 jw_i_io2 jw_v_io2 jw_n_RJ0 jws_io2_in) rfl rfl rfl ⟨rfl, by decide, by decide, by decide +kernel⟩ ⟨by decide, by decide⟩) ⟨jq_blind _ _ _ _ _ _, jrecv hS hT, jpre hS hA hT hZ _⟩ rfl rfl hl.1 rfl (lv_room (Nat.le_of_ble_eq_true rfl)) jd_io1_3 ⟨Nat.zero_le _, Nat.zero_le _⟩) hS (fun q h9 h => absurd h (Nat.not_le.mpr h9)) (fun q h => hA q (Nat.le_trans hS.1 h)) (fun r _ t H locs ht hvm hr _ _ _ hS => ?_)
  subst hr
  exact W.zret hx hb hr (ty := .int) (rfl) (fun t ht hW => ⟨⟨_, (), rfl, rfl, trivial⟩, hS.F ht⟩) hS.2.2 jd_io1_6
theorem qtc_all : qtc.all (fun l => Nat.blt l.length 100 && l.all (fun b => decide (0 ≤ b ∧ b ≤ 127))) = true := by decide +kernel
theorem qtc_in {i : Nat} {l : List Int} (h : qtc[i]? = some l) : l.length < 100 ∧ ∀ j, 0 ≤ l.getD j 0 ∧ l.getD j 0 ≤ 127 := by
  have := List.all_eq_true.mp qtc_all l (List.mem_of_getElem? h)
  rw [Bool.and_eq_true, Nat.blt_eq] at this
  refine ⟨this.1, fun j => ?_⟩
  rw [List.getD_eq_getElem?_getD]
  cases hq : l[j]? with
  | none => exact ⟨by decide, by decide⟩
  | some b => exact of_decide_eq_true (List.all_eq_true.mp this.2 b (List.mem_of_getElem? hq))
theorem qtxb_in {x : Int} {l : List Int} (h : qtxb x = some l) : 0 < x ∧ qtc[(x - 1).toNat]? = some l := by
  unfold qtxb at h
  by_cases c : x ≤ 0
  · rw [decide_eq_true c] at h; cases h
  · rw [decide_eq_false c] at h
    exact ⟨by omega, h⟩
theorem qch7n : ∀ n : Nat, n < 128 → (((Int32.ofInt (n : Int) &&& 255).toUInt32 % 65536).toInt32) = Int32.ofInt (n : Int) := by decide +kernel
theorem qch7 {b : Int} (h0 : 0 ≤ b) (h1 : b ≤ 127) : (((Int32.ofInt b &&& 255).toUInt32 % 65536).toInt32) = Int32.ofInt b := by
  have := qch7n b.toNat (by omega)
  rwa [show ((b.toNat : Nat) : Int) = b by omega] at this
theorem qix_in : ∀ (l : List Int) (c k : Int), 0 ≤ k → (k ≤ qix l c k ∧ qix l c k < k + l.length) ∨ qix l c k = -1
  | [], _, _, _ => Or.inr rfl
  | b :: l, c, k, hk => by
    unfold qix
    by_cases h : b = c
    · rw [if_pos h]; left; simp only [List.length_cons]; omega
    · rw [if_neg h]
      have := qix_in l c (k + 1) (by omega)
      simp only [List.length_cons]
      omega
theorem jix_ok {f : Nat → Int32} {b : Int32} {c : Int} : ∀ (l : List Int) (k : Nat), k + l.length < 1000 → (∀ j, j < l.length → (f (k + j) = b ↔ l.getD j 0 = c)) → jix f b l.length k = Int32.ofInt (qix l c k)
  | [], _, _, _ => rfl
  | a :: l, k, hk, h => by
    have h0 := h 0 (by simp)
    simp only [Nat.add_zero, List.getD_cons_zero] at h0
    show (if f k = b then nI k else jix f b l.length (k + 1)) = Int32.ofInt (if a = c then (k : Int) else qix l c ((k : Int) + 1))
    by_cases e : a = c
    · rw [if_pos (h0.mpr e), if_pos e, e_nat (by omega)]; rfl
    · rw [if_neg (fun z => e (h0.mp z)), if_neg e]
      have := jix_ok (f := f) (b := b) (c := c) l (k + 1) (by simp only [List.length_cons] at hk; omega) (fun j hj => by
        have := h (j + 1) (by simp only [List.length_cons]; omega)
        rw [List.getD_cons_succ, show k + (j + 1) = k + 1 + j by omega] at this
        exact this)
      rw [this, show ((k + 1 : Nat) : Int) = (k : Int) + 1 by omega]
theorem qix_out {c : Int} : ∀ (l : List Int) (k : Int), (∀ b ∈ l, ¬ b = c) → qix l c k = -1
  | [], _, _ => rfl
  | a :: l, k, h => by
    show (if a = c then k else qix l c (k + 1)) = -1
    rw [if_neg (h a List.mem_cons_self)]
    exact qix_out l (k + 1) (fun b hb => h b (List.mem_cons_of_mem _ hb))
theorem qix_ok {l : List Int} {c : Int} (hc : qi32 c) (h1 : l.length < 100) (h2 : ∀ j, 0 ≤ l.getD j 0 ∧ l.getD j 0 ≤ 127) : Int32.ofInt (qix l c 0) = (if Int32.ofInt c < 0 then -1 else if 255 < Int32.ofInt c then -1 else jix (qtf l) (Int32.ofInt c).toInt8.toInt32 l.length 0) := by
  have hm : ∀ b ∈ l, 0 ≤ b ∧ b ≤ 127 := fun b hb => by
    obtain ⟨j, hj, rfl⟩ := List.mem_iff_getElem.mp hb
    have := h2 j
    rwa [List.getD_eq_getElem?_getD, List.getElem?_eq_getElem hj, Option.getD_some] at this
  by_cases c0 : c < 0
  · rw [if_pos ((e_neg1 hc).mpr c0), qix_out l 0 (fun b hb => by have := hm b hb; omega)]; rfl
  rw [if_neg (fun z => c0 ((e_neg1 hc).mp z))]
  have e255 : (255 : Int32) < Int32.ofInt c ↔ 255 < c := e_lt (x := 255) ⟨by decide, by decide⟩ hc
  by_cases c1 : 255 < c
  · rw [if_pos (e255.mpr c1), qix_out l 0 (fun b hb => by have := hm b hb; omega)]; rfl
  rw [if_neg (fun z => c1 (e255.mp z))]
  have := jix_ok (f := qtf l) (b := (Int32.ofInt c).toInt8.toInt32) (c := c) l 0 (by omega) (fun j hj => by
    rw [e_i2b, Nat.zero_add]
    have hj := h2 j
    unfold qtf
    rw [e_eq ⟨by omega, by omega⟩ (by unfold qi2b; exact ⟨by omega, by omega⟩)]
    unfold qi2b
    omega)
  rw [this]; rfl
end
section
/-! one instruction of the plain run, and the machine's: what neither makes nor writes cells -/
section QS
variable {p : Program} {l : Launch} {e : Env} {R : Room} {s : State} {m : MethodId} {args : Array Value} {below : List Frame} {meth : Method} {c : Code} {Q : State → Prop}
variable {D : va_G} {A : Nat → Prop} {H0 : Heap} {sa : Nat → Nat} {sc : Option (Nat × (Nat → Int))} {k : Nat}
noncomputable def qStep (p : Program) (l : Launch) (e : Env) (R : Room) (s : State) (m : MethodId) (args : Array Value) (below : List Frame) (meth : Method) (c : Code) (Q : State → Prop) (D : va_G) (A : Nat → Prop) (H0 : Heap) (sa : Nat → Nat) (sc : Option (Nat × (Nat → Int))) (k : Nat) (ins : Instr) : Prop :=
  ∀ (len pc : Nat) (ls st : List qV) (w : qW) (n pc' : Nat) (ls' st' : List qV) (w' : qW) (n' : Nat) (ad : Nat → Nat) (ac : Nat → ClassId) (arr : Array Slot) (H : Heap) (locs : List Loc) (cells slots : Nat),
    decode (qby k) pc = .ok (ins, len) → qok pc ins len = true → qs1 sc k ins len pc ls st w n = some (pc', ls', st', w', n') →
    qRel D A s H0 sa k ls st w n ad ac arr H locs → (cells + n' ≤ R.cells + n ∧ slots + qSz n' ≤ R.slots + qSz n) →
    (∀ (ad' : Nat → Nat) (ac' : Nat → ClassId) (arr' : Array Slot) (H' : Heap) (locs' : List Loc) (cells' slots' : Nat), (∀ i, i ≤ n → ad' i = ad i ∧ ac' i = ac i) → cells' + n = cells + n' → slots' + qSz n = slots + qSz n' →
      qRel D A s H0 sa k ls' st' w' n' ad' ac' arr' H' locs' → W p l e R s m args below meth c H' locs' cells' slots' Q (F0 m pc' arr' (st'.map (qcv ad' sa)))) →
    W p l e R s m args below meth c H locs cells slots Q (F0 m pc arr (st.map (qcv ad sa)))
theorem qSr.t {n : Nat} {v : qV} {r : List qV} (h : qSr n (v :: r)) : qSr n r := fun x hx => h x (List.mem_cons_of_mem _ hx)
theorem qSr.cn {n : Nat} {v : qV} {r : List qV} (h1 : v.1 < 4) (h2 : qrg n v) (h : qSr n r) : qSr n (v :: r) := fun x hx => by
  rcases List.mem_cons.mp hx with rfl | hx
  · exact ⟨h1, h2⟩
  · exact h x hx
theorem qSr.h {n : Nat} {v : qV} {r : List qV} (h : qSr n (v :: r)) : v.1 < 4 ∧ qrg n v := h v List.mem_cons_self
theorem qrg.i {n : Nat} {x : Int} (h : qrg n (0, x)) : qi32 x := h (Nat.le_of_ble_eq_true rfl)
theorem q4 {t : Nat} {x : Int} (h : Nat.blt t 4 = true) : ((t, x) : qV).1 < 4 := Nat.blt_eq.mp h
theorem qrg.lg {n : Nat} {x : Int} (h : qrg n (1, x)) : qi64 x := h (Nat.le_of_ble_eq_true rfl)
theorem qrg.mki {n : Nat} {x : Int} (h : qi32 x) : qrg n (0, x) := fun _ => h
theorem qrg.mkl {n : Nat} {x : Int} (h : qi64 x) : qrg n (1, x) := fun _ => h
theorem qrg.mk3 {n : Nat} {x : Int} : qrg n (3, x) := fun h => absurd (show (3 : Nat) < 3 from h) (by decide)
theorem qLr.at {ad sa : Nat → Nat} {n : Nat} {ls : List qV} {arr : Array Slot} (h : qLr ad sa n ls arr) {i : Nat} {v : qV} (hv : qnt ls i = v) (h4 : v.1 < 4) : arr[i]? = some (.val (qcv ad sa v)) ∧ qrg n v := by
  subst hv
  exact ⟨h.2.1 i h4, h.2.2 i⟩
theorem qn1 {t : Nat} {x : Int} (h : Nat.beq t 1 = false := by rfl) : ((t, x) : qV).1 ≠ 1 := fun q => by have q : t = 1 := q; rw [q] at h; cases h
theorem qtg_eq {pc : Nat} {off : Int} (h : 0 ≤ (pc : Int) + off) : (pc : Int) + off = (qtg pc off : Int) := by
  unfold qtg; omega
theorem va_rf_cat (r : Option Nat) : (va_rf r).category = 1 := by cases r <;> rfl

theorem q_iadd (F : qFx p s m args meth c A H0 sa sc k) : qStep p l e R s m args below meth c Q D A H0 sa sc k (.iadd) := by
  intro len pc ls st w n pc' ls' st' w' n' ad ac arr H locs cells slots hd ho h X hr kk
  obtain ⟨hx, hb, hml, hown, hts, hinit, hA, hsc, hst⟩ := F
  have hlen : len = 1 := by simpa [qok, qlen] using ho
  subst hlen
  simp only [qs1] at h
  split at h
  · rename_i y x r
    cases h
    obtain ⟨hW, hL, hn, hs, hS⟩ := X
    have hy := hs.h.2.i
    have hx' := hs.t.h.2.i
    refine lv_iadd hx hb hd ?_
    rw [e_add]
    exact kk ad ac arr H locs cells slots (fun _ _ => ⟨rfl, rfl⟩) rfl rfl ⟨hW, hL, hn, .cn (q4 rfl) (.mki (wrp_in _)) hs.t.t, hS⟩
  · cases h

theorem q_isub (F : qFx p s m args meth c A H0 sa sc k) : qStep p l e R s m args below meth c Q D A H0 sa sc k (.isub) := by
  intro len pc ls st w n pc' ls' st' w' n' ad ac arr H locs cells slots hd ho h X hr kk
  obtain ⟨hx, hb, hml, hown, hts, hinit, hA, hsc, hst⟩ := F
  have hlen : len = 1 := by simpa [qok, qlen] using ho
  subst hlen
  simp only [qs1] at h
  split at h
  · rename_i y x r
    cases h
    obtain ⟨hW, hL, hn, hs, hS⟩ := X
    have hy := hs.h.2.i
    have hx' := hs.t.h.2.i
    refine lv_isub hx hb hd ?_
    rw [e_sub]
    exact kk ad ac arr H locs cells slots (fun _ _ => ⟨rfl, rfl⟩) rfl rfl ⟨hW, hL, hn, .cn (q4 rfl) (.mki (wrp_in _)) hs.t.t, hS⟩
  · cases h

theorem q_imul (F : qFx p s m args meth c A H0 sa sc k) : qStep p l e R s m args below meth c Q D A H0 sa sc k (.imul) := by
  intro len pc ls st w n pc' ls' st' w' n' ad ac arr H locs cells slots hd ho h X hr kk
  obtain ⟨hx, hb, hml, hown, hts, hinit, hA, hsc, hst⟩ := F
  have hlen : len = 1 := by simpa [qok, qlen] using ho
  subst hlen
  simp only [qs1] at h
  split at h
  · rename_i y x r
    cases h
    obtain ⟨hW, hL, hn, hs, hS⟩ := X
    have hy := hs.h.2.i
    have hx' := hs.t.h.2.i
    refine lv_imul hx hb hd ?_
    rw [e_mul]
    exact kk ad ac arr H locs cells slots (fun _ _ => ⟨rfl, rfl⟩) rfl rfl ⟨hW, hL, hn, .cn (q4 rfl) (.mki (wrp_in _)) hs.t.t, hS⟩
  · cases h

theorem q_iand (F : qFx p s m args meth c A H0 sa sc k) : qStep p l e R s m args below meth c Q D A H0 sa sc k (.iand) := by
  intro len pc ls st w n pc' ls' st' w' n' ad ac arr H locs cells slots hd ho h X hr kk
  obtain ⟨hx, hb, hml, hown, hts, hinit, hA, hsc, hst⟩ := F
  have hlen : len = 1 := by simpa [qok, qlen] using ho
  subst hlen
  simp only [qs1] at h
  split at h
  · rename_i y x r
    cases h
    obtain ⟨hW, hL, hn, hs, hS⟩ := X
    have hy := hs.h.2.i
    have hx' := hs.t.h.2.i
    refine lv_iand hx hb hd ?_
    rw [e_and]
    exact kk ad ac arr H locs cells slots (fun _ _ => ⟨rfl, rfl⟩) rfl rfl ⟨hW, hL, hn, .cn (q4 rfl) (.mki (i32_in _)) hs.t.t, hS⟩
  · cases h

theorem q_ior (F : qFx p s m args meth c A H0 sa sc k) : qStep p l e R s m args below meth c Q D A H0 sa sc k (.ior) := by
  intro len pc ls st w n pc' ls' st' w' n' ad ac arr H locs cells slots hd ho h X hr kk
  obtain ⟨hx, hb, hml, hown, hts, hinit, hA, hsc, hst⟩ := F
  have hlen : len = 1 := by simpa [qok, qlen] using ho
  subst hlen
  simp only [qs1] at h
  split at h
  · rename_i y x r
    cases h
    obtain ⟨hW, hL, hn, hs, hS⟩ := X
    have hy := hs.h.2.i
    have hx' := hs.t.h.2.i
    refine lv_ior hx hb hd ?_
    rw [e_or]
    exact kk ad ac arr H locs cells slots (fun _ _ => ⟨rfl, rfl⟩) rfl rfl ⟨hW, hL, hn, .cn (q4 rfl) (.mki (i32_in _)) hs.t.t, hS⟩
  · cases h

theorem q_ixor (F : qFx p s m args meth c A H0 sa sc k) : qStep p l e R s m args below meth c Q D A H0 sa sc k (.ixor) := by
  intro len pc ls st w n pc' ls' st' w' n' ad ac arr H locs cells slots hd ho h X hr kk
  obtain ⟨hx, hb, hml, hown, hts, hinit, hA, hsc, hst⟩ := F
  have hlen : len = 1 := by simpa [qok, qlen] using ho
  subst hlen
  simp only [qs1] at h
  split at h
  · rename_i y x r
    cases h
    obtain ⟨hW, hL, hn, hs, hS⟩ := X
    have hy := hs.h.2.i
    have hx' := hs.t.h.2.i
    refine lv_ixor hx hb hd ?_
    rw [e_xor]
    exact kk ad ac arr H locs cells slots (fun _ _ => ⟨rfl, rfl⟩) rfl rfl ⟨hW, hL, hn, .cn (q4 rfl) (.mki (i32_in _)) hs.t.t, hS⟩
  · cases h

theorem q_ishl (F : qFx p s m args meth c A H0 sa sc k) : qStep p l e R s m args below meth c Q D A H0 sa sc k (.ishl) := by
  intro len pc ls st w n pc' ls' st' w' n' ad ac arr H locs cells slots hd ho h X hr kk
  obtain ⟨hx, hb, hml, hown, hts, hinit, hA, hsc, hst⟩ := F
  have hlen : len = 1 := by simpa [qok, qlen] using ho
  subst hlen
  simp only [qs1] at h
  split at h
  · rename_i y x r
    cases h
    obtain ⟨hW, hL, hn, hs, hS⟩ := X
    have hy := hs.h.2.i
    have hx' := hs.t.h.2.i
    refine lv_ishl hx hb hd ?_
    rw [e_shl]
    exact kk ad ac arr H locs cells slots (fun _ _ => ⟨rfl, rfl⟩) rfl rfl ⟨hW, hL, hn, .cn (q4 rfl) (.mki (i32_in _)) hs.t.t, hS⟩
  · cases h

theorem q_ishr (F : qFx p s m args meth c A H0 sa sc k) : qStep p l e R s m args below meth c Q D A H0 sa sc k (.ishr) := by
  intro len pc ls st w n pc' ls' st' w' n' ad ac arr H locs cells slots hd ho h X hr kk
  obtain ⟨hx, hb, hml, hown, hts, hinit, hA, hsc, hst⟩ := F
  have hlen : len = 1 := by simpa [qok, qlen] using ho
  subst hlen
  simp only [qs1] at h
  split at h
  · rename_i y x r
    cases h
    obtain ⟨hW, hL, hn, hs, hS⟩ := X
    have hy := hs.h.2.i
    have hx' := hs.t.h.2.i
    refine lv_ishr hx hb hd ?_
    rw [e_shr]
    exact kk ad ac arr H locs cells slots (fun _ _ => ⟨rfl, rfl⟩) rfl rfl ⟨hW, hL, hn, .cn (q4 rfl) (.mki (i32_in _)) hs.t.t, hS⟩
  · cases h

theorem q_iushr (F : qFx p s m args meth c A H0 sa sc k) : qStep p l e R s m args below meth c Q D A H0 sa sc k (.iushr) := by
  intro len pc ls st w n pc' ls' st' w' n' ad ac arr H locs cells slots hd ho h X hr kk
  obtain ⟨hx, hb, hml, hown, hts, hinit, hA, hsc, hst⟩ := F
  have hlen : len = 1 := by simpa [qok, qlen] using ho
  subst hlen
  simp only [qs1] at h
  split at h
  · rename_i y x r
    cases h
    obtain ⟨hW, hL, hn, hs, hS⟩ := X
    exact lv_iushr hx hb hd (e_ush x y) (kk ad ac arr H locs cells slots (fun _ _ => ⟨rfl, rfl⟩) rfl rfl ⟨hW, hL, hn, .cn (q4 rfl) (.mki (i32_in _)) hs.t.t, hS⟩)
  · cases h

theorem q_idiv (F : qFx p s m args meth c A H0 sa sc k) : qStep p l e R s m args below meth c Q D A H0 sa sc k (.idiv) := by
  intro len pc ls st w n pc' ls' st' w' n' ad ac arr H locs cells slots hd ho h X hr kk
  obtain ⟨hx, hb, hml, hown, hts, hinit, hA, hsc, hst⟩ := F
  have hlen : len = 1 := by simpa [qok, qlen] using ho
  subst hlen
  simp only [qs1] at h
  split at h
  · rename_i y x r
    split at h
    · cases h
    rename_i h0
    cases h
    obtain ⟨hW, hL, hn, hs, hS⟩ := X
    have hy9 := hs.h.2.i
    have hx9 := hs.t.h.2.i
    refine lv_idiv hx hb hd (fun q => h0 ((e_eq hy9 ⟨by decide, by decide⟩).mp q)) ?_
    rw [e_div hx9 hy9]
    exact kk ad ac arr H locs cells slots (fun _ _ => ⟨rfl, rfl⟩) rfl rfl ⟨hW, hL, hn, .cn (q4 rfl) (.mki (wrp_in _)) hs.t.t, hS⟩
  · cases h

theorem q_irem (F : qFx p s m args meth c A H0 sa sc k) : qStep p l e R s m args below meth c Q D A H0 sa sc k (.irem) := by
  intro len pc ls st w n pc' ls' st' w' n' ad ac arr H locs cells slots hd ho h X hr kk
  obtain ⟨hx, hb, hml, hown, hts, hinit, hA, hsc, hst⟩ := F
  have hlen : len = 1 := by simpa [qok, qlen] using ho
  subst hlen
  simp only [qs1] at h
  split at h
  · rename_i y x r
    split at h
    · cases h
    rename_i h0
    cases h
    obtain ⟨hW, hL, hn, hs, hS⟩ := X
    have hy9 := hs.h.2.i
    have hx9 := hs.t.h.2.i
    refine lv_irem hx hb hd (fun q => h0 ((e_eq hy9 ⟨by decide, by decide⟩).mp q)) ?_
    rw [e_rem hx9 hy9]
    exact kk ad ac arr H locs cells slots (fun _ _ => ⟨rfl, rfl⟩) rfl rfl ⟨hW, hL, hn, .cn (q4 rfl) (.mki (wrp_in _)) hs.t.t, hS⟩
  · cases h

theorem q_ineg (F : qFx p s m args meth c A H0 sa sc k) : qStep p l e R s m args below meth c Q D A H0 sa sc k (.ineg) := by
  intro len pc ls st w n pc' ls' st' w' n' ad ac arr H locs cells slots hd ho h X hr kk
  obtain ⟨hx, hb, hml, hown, hts, hinit, hA, hsc, hst⟩ := F
  have hlen : len = 1 := by simpa [qok, qlen] using ho
  subst hlen
  simp only [qs1] at h
  split at h
  · rename_i x r
    cases h
    obtain ⟨hW, hL, hn, hs, hS⟩ := X
    refine lv_ineg hx hb hd ?_
    rw [e_neg]
    exact kk ad ac arr H locs cells slots (fun _ _ => ⟨rfl, rfl⟩) rfl rfl ⟨hW, hL, hn, .cn (q4 rfl) (.mki (wrp_in _)) hs.t, hS⟩
  · cases h

theorem q_ladd (F : qFx p s m args meth c A H0 sa sc k) : qStep p l e R s m args below meth c Q D A H0 sa sc k (.ladd) := by
  intro len pc ls st w n pc' ls' st' w' n' ad ac arr H locs cells slots hd ho h X hr kk
  obtain ⟨hx, hb, hml, hown, hts, hinit, hA, hsc, hst⟩ := F
  have hlen : len = 1 := by simpa [qok, qlen] using ho
  subst hlen
  simp only [qs1] at h
  split at h
  · rename_i y x r
    cases h
    obtain ⟨hW, hL, hn, hs, hS⟩ := X
    refine lv_ladd hx hb hd ?_
    rw [e_ladd]
    exact kk ad ac arr H locs cells slots (fun _ _ => ⟨rfl, rfl⟩) rfl rfl ⟨hW, hL, hn, .cn (q4 rfl) (.mkl (wrl_in _)) hs.t.t, hS⟩
  · cases h

theorem q_lsub (F : qFx p s m args meth c A H0 sa sc k) : qStep p l e R s m args below meth c Q D A H0 sa sc k (.lsub) := by
  intro len pc ls st w n pc' ls' st' w' n' ad ac arr H locs cells slots hd ho h X hr kk
  obtain ⟨hx, hb, hml, hown, hts, hinit, hA, hsc, hst⟩ := F
  have hlen : len = 1 := by simpa [qok, qlen] using ho
  subst hlen
  simp only [qs1] at h
  split at h
  · rename_i y x r
    cases h
    obtain ⟨hW, hL, hn, hs, hS⟩ := X
    refine lv_lsub hx hb hd ?_
    rw [e_lsub]
    exact kk ad ac arr H locs cells slots (fun _ _ => ⟨rfl, rfl⟩) rfl rfl ⟨hW, hL, hn, .cn (q4 rfl) (.mkl (wrl_in _)) hs.t.t, hS⟩
  · cases h

theorem q_lmul (F : qFx p s m args meth c A H0 sa sc k) : qStep p l e R s m args below meth c Q D A H0 sa sc k (.lmul) := by
  intro len pc ls st w n pc' ls' st' w' n' ad ac arr H locs cells slots hd ho h X hr kk
  obtain ⟨hx, hb, hml, hown, hts, hinit, hA, hsc, hst⟩ := F
  have hlen : len = 1 := by simpa [qok, qlen] using ho
  subst hlen
  simp only [qs1] at h
  split at h
  · rename_i y x r
    cases h
    obtain ⟨hW, hL, hn, hs, hS⟩ := X
    refine lv_lmul hx hb hd ?_
    rw [e_lmul]
    exact kk ad ac arr H locs cells slots (fun _ _ => ⟨rfl, rfl⟩) rfl rfl ⟨hW, hL, hn, .cn (q4 rfl) (.mkl (wrl_in _)) hs.t.t, hS⟩
  · cases h

theorem q_land (F : qFx p s m args meth c A H0 sa sc k) : qStep p l e R s m args below meth c Q D A H0 sa sc k (.land) := by
  intro len pc ls st w n pc' ls' st' w' n' ad ac arr H locs cells slots hd ho h X hr kk
  obtain ⟨hx, hb, hml, hown, hts, hinit, hA, hsc, hst⟩ := F
  have hlen : len = 1 := by simpa [qok, qlen] using ho
  subst hlen
  simp only [qs1] at h
  split at h
  · rename_i y x r
    cases h
    obtain ⟨hW, hL, hn, hs, hS⟩ := X
    refine lv_land hx hb hd ?_
    rw [e_land]
    exact kk ad ac arr H locs cells slots (fun _ _ => ⟨rfl, rfl⟩) rfl rfl ⟨hW, hL, hn, .cn (q4 rfl) (.mkl (i64_in _)) hs.t.t, hS⟩
  · cases h

theorem q_lor (F : qFx p s m args meth c A H0 sa sc k) : qStep p l e R s m args below meth c Q D A H0 sa sc k (.lor) := by
  intro len pc ls st w n pc' ls' st' w' n' ad ac arr H locs cells slots hd ho h X hr kk
  obtain ⟨hx, hb, hml, hown, hts, hinit, hA, hsc, hst⟩ := F
  have hlen : len = 1 := by simpa [qok, qlen] using ho
  subst hlen
  simp only [qs1] at h
  split at h
  · rename_i y x r
    cases h
    obtain ⟨hW, hL, hn, hs, hS⟩ := X
    refine lv_lor hx hb hd ?_
    rw [e_lor]
    exact kk ad ac arr H locs cells slots (fun _ _ => ⟨rfl, rfl⟩) rfl rfl ⟨hW, hL, hn, .cn (q4 rfl) (.mkl (i64_in _)) hs.t.t, hS⟩
  · cases h

theorem q_lshl (F : qFx p s m args meth c A H0 sa sc k) : qStep p l e R s m args below meth c Q D A H0 sa sc k (.lshl) := by
  intro len pc ls st w n pc' ls' st' w' n' ad ac arr H locs cells slots hd ho h X hr kk
  obtain ⟨hx, hb, hml, hown, hts, hinit, hA, hsc, hst⟩ := F
  have hlen : len = 1 := by simpa [qok, qlen] using ho
  subst hlen
  simp only [qs1] at h
  split at h
  · rename_i y x r
    cases h
    obtain ⟨hW, hL, hn, hs, hS⟩ := X
    exact lv_lshl hx hb hd (e_lshl x y) (kk ad ac arr H locs cells slots (fun _ _ => ⟨rfl, rfl⟩) rfl rfl ⟨hW, hL, hn, .cn (q4 rfl) (.mkl (i64_in _)) hs.t.t, hS⟩)
  · cases h

theorem q_lushr (F : qFx p s m args meth c A H0 sa sc k) : qStep p l e R s m args below meth c Q D A H0 sa sc k (.lushr) := by
  intro len pc ls st w n pc' ls' st' w' n' ad ac arr H locs cells slots hd ho h X hr kk
  obtain ⟨hx, hb, hml, hown, hts, hinit, hA, hsc, hst⟩ := F
  have hlen : len = 1 := by simpa [qok, qlen] using ho
  subst hlen
  simp only [qs1] at h
  split at h
  · rename_i y x r
    cases h
    obtain ⟨hW, hL, hn, hs, hS⟩ := X
    exact lv_lushr hx hb hd (e_lush x y) (kk ad ac arr H locs cells slots (fun _ _ => ⟨rfl, rfl⟩) rfl rfl ⟨hW, hL, hn, .cn (q4 rfl) (.mkl (i64_in _)) hs.t.t, hS⟩)
  · cases h

theorem q_ldiv (F : qFx p s m args meth c A H0 sa sc k) : qStep p l e R s m args below meth c Q D A H0 sa sc k (.ldiv) := by
  intro len pc ls st w n pc' ls' st' w' n' ad ac arr H locs cells slots hd ho h X hr kk
  obtain ⟨hx, hb, hml, hown, hts, hinit, hA, hsc, hst⟩ := F
  have hlen : len = 1 := by simpa [qok, qlen] using ho
  subst hlen
  simp only [qs1] at h
  split at h
  · rename_i y x r
    split at h
    · cases h
    rename_i h0
    cases h
    obtain ⟨hW, hL, hn, hs, hS⟩ := X
    have hy9 := hs.h.2.lg
    have hx9 := hs.t.h.2.lg
    refine lv_ldiv hx hb hd (fun q => h0 ((e_leq hy9 ⟨by decide, by decide⟩).mp q)) ?_
    rw [e_ldiv hx9 hy9]
    exact kk ad ac arr H locs cells slots (fun _ _ => ⟨rfl, rfl⟩) rfl rfl ⟨hW, hL, hn, .cn (q4 rfl) (.mkl (wrl_in _)) hs.t.t, hS⟩
  · cases h

theorem q_lcmp (F : qFx p s m args meth c A H0 sa sc k) : qStep p l e R s m args below meth c Q D A H0 sa sc k (.lcmp) := by
  intro len pc ls st w n pc' ls' st' w' n' ad ac arr H locs cells slots hd ho h X hr kk
  obtain ⟨hx, hb, hml, hown, hts, hinit, hA, hsc, hst⟩ := F
  have hlen : len = 1 := by simpa [qok, qlen] using ho
  subst hlen
  simp only [qs1] at h
  split at h
  · rename_i y x r
    cases h
    obtain ⟨hW, hL, hn, hs, hS⟩ := X
    refine W.lcmp hx hb hd ?_
    rw [e_cmp hs.t.h.2.lg hs.h.2.lg]
    exact kk ad ac arr H locs cells slots (fun _ _ => ⟨rfl, rfl⟩) rfl rfl ⟨hW, hL, hn, .cn (q4 rfl) (.mki (by unfold qcmp qi32; repeat' split <;> omega)) hs.t.t, hS⟩
  · cases h

theorem q_i2l (F : qFx p s m args meth c A H0 sa sc k) : qStep p l e R s m args below meth c Q D A H0 sa sc k (.i2l) := by
  intro len pc ls st w n pc' ls' st' w' n' ad ac arr H locs cells slots hd ho h X hr kk
  obtain ⟨hx, hb, hml, hown, hts, hinit, hA, hsc, hst⟩ := F
  have hlen : len = 1 := by simpa [qok, qlen] using ho
  subst hlen
  simp only [qs1] at h
  split at h
  · rename_i x r
    cases h
    obtain ⟨hW, hL, hn, hs, hS⟩ := X
    exact lv_i2l hx hb hd (e_i2l hs.h.2.i) (kk ad ac arr H locs cells slots (fun _ _ => ⟨rfl, rfl⟩) rfl rfl ⟨hW, hL, hn, .cn (q4 rfl) (.mkl (by have := hs.h.2.i; unfold qi32 at this; unfold qi64; omega)) hs.t, hS⟩)
  · cases h

theorem q_l2i (F : qFx p s m args meth c A H0 sa sc k) : qStep p l e R s m args below meth c Q D A H0 sa sc k (.l2i) := by
  intro len pc ls st w n pc' ls' st' w' n' ad ac arr H locs cells slots hd ho h X hr kk
  obtain ⟨hx, hb, hml, hown, hts, hinit, hA, hsc, hst⟩ := F
  have hlen : len = 1 := by simpa [qok, qlen] using ho
  subst hlen
  simp only [qs1] at h
  split at h
  · rename_i x r
    cases h
    obtain ⟨hW, hL, hn, hs, hS⟩ := X
    exact lv_l2i hx hb hd (e_l2i x) (kk ad ac arr H locs cells slots (fun _ _ => ⟨rfl, rfl⟩) rfl rfl ⟨hW, hL, hn, .cn (q4 rfl) (.mki (wrp_in _)) hs.t, hS⟩)
  · cases h

theorem q_i2b (F : qFx p s m args meth c A H0 sa sc k) : qStep p l e R s m args below meth c Q D A H0 sa sc k (.i2b) := by
  intro len pc ls st w n pc' ls' st' w' n' ad ac arr H locs cells slots hd ho h X hr kk
  obtain ⟨hx, hb, hml, hown, hts, hinit, hA, hsc, hst⟩ := F
  have hlen : len = 1 := by simpa [qok, qlen] using ho
  subst hlen
  simp only [qs1] at h
  split at h
  · rename_i x r
    cases h
    obtain ⟨hW, hL, hn, hs, hS⟩ := X
    exact lv_i2b hx hb hd (e_i2b x) (kk ad ac arr H locs cells slots (fun _ _ => ⟨rfl, rfl⟩) rfl rfl ⟨hW, hL, hn, .cn (q4 rfl) (.mki (by unfold qi2b qi32; omega)) hs.t, hS⟩)
  · cases h

theorem q_i2c (F : qFx p s m args meth c A H0 sa sc k) : qStep p l e R s m args below meth c Q D A H0 sa sc k (.i2c) := by
  intro len pc ls st w n pc' ls' st' w' n' ad ac arr H locs cells slots hd ho h X hr kk
  obtain ⟨hx, hb, hml, hown, hts, hinit, hA, hsc, hst⟩ := F
  have hlen : len = 1 := by simpa [qok, qlen] using ho
  subst hlen
  simp only [qs1] at h
  split at h
  · rename_i x r
    cases h
    obtain ⟨hW, hL, hn, hs, hS⟩ := X
    exact lv_i2c hx hb hd (e_i2c x) (kk ad ac arr H locs cells slots (fun _ _ => ⟨rfl, rfl⟩) rfl rfl ⟨hW, hL, hn, .cn (q4 rfl) (.mki (by unfold qi32; omega)) hs.t, hS⟩)
  · cases h

theorem q_iconst {i : Int} (F : qFx p s m args meth c A H0 sa sc k) : qStep p l e R s m args below meth c Q D A H0 sa sc k (.iconst i) := by
  intro len pc ls st w n pc' ls' st' w' n' ad ac arr H locs cells slots hd ho h X hr kk
  obtain ⟨hx, hb, hml, hown, hts, hinit, hA, hsc, hst⟩ := F
  simp only [qok, Bool.and_eq_true, Nat.beq_eq_true_eq, decide_eq_true_eq] at ho
  obtain ⟨hlen, hi⟩ := ho
  have hlen := Nat.eq_of_beq_eq_true hlen
  subst hlen
  simp only [qs1] at h
  cases h
  obtain ⟨hW, hL, hn, hs, hS⟩ := X
  exact lv_iconst hx hb hd rfl (kk ad ac arr H locs cells slots (fun _ _ => ⟨rfl, rfl⟩) rfl rfl ⟨hW, hL, hn, .cn (q4 rfl) (.mki (by unfold qi32; omega)) hs, hS⟩)

theorem q_bipush {i : Int} (F : qFx p s m args meth c A H0 sa sc k) : qStep p l e R s m args below meth c Q D A H0 sa sc k (.bipush i) := by
  intro len pc ls st w n pc' ls' st' w' n' ad ac arr H locs cells slots hd ho h X hr kk
  obtain ⟨hx, hb, hml, hown, hts, hinit, hA, hsc, hst⟩ := F
  simp only [qok, Bool.and_eq_true, Nat.beq_eq_true_eq, decide_eq_true_eq] at ho
  obtain ⟨hlen, hi⟩ := ho
  have hlen := Nat.eq_of_beq_eq_true hlen
  subst hlen
  simp only [qs1] at h
  cases h
  obtain ⟨hW, hL, hn, hs, hS⟩ := X
  exact lv_bipush hx hb hd (e_bip hi.1 hi.2) (kk ad ac arr H locs cells slots (fun _ _ => ⟨rfl, rfl⟩) rfl rfl ⟨hW, hL, hn, .cn (q4 rfl) (.mki (by unfold qi32; omega)) hs, hS⟩)

theorem q_sipush {i : Int} (F : qFx p s m args meth c A H0 sa sc k) : qStep p l e R s m args below meth c Q D A H0 sa sc k (.sipush i) := by
  intro len pc ls st w n pc' ls' st' w' n' ad ac arr H locs cells slots hd ho h X hr kk
  obtain ⟨hx, hb, hml, hown, hts, hinit, hA, hsc, hst⟩ := F
  simp only [qok, Bool.and_eq_true, Nat.beq_eq_true_eq, decide_eq_true_eq] at ho
  obtain ⟨hlen, hi⟩ := ho
  have hlen := Nat.eq_of_beq_eq_true hlen
  subst hlen
  simp only [qs1] at h
  cases h
  obtain ⟨hW, hL, hn, hs, hS⟩ := X
  exact lv_sipush hx hb hd (e_sip hi.1 hi.2) (kk ad ac arr H locs cells slots (fun _ _ => ⟨rfl, rfl⟩) rfl rfl ⟨hW, hL, hn, .cn (q4 rfl) (.mki (by unfold qi32; omega)) hs, hS⟩)

theorem q_lconst {i : Fin 2} (F : qFx p s m args meth c A H0 sa sc k) : qStep p l e R s m args below meth c Q D A H0 sa sc k (.lconst i) := by
  intro len pc ls st w n pc' ls' st' w' n' ad ac arr H locs cells slots hd ho h X hr kk
  obtain ⟨hx, hb, hml, hown, hts, hinit, hA, hsc, hst⟩ := F
  have hlen : len = 1 := by simpa [qok, qlen] using ho
  subst hlen
  simp only [qs1] at h
  cases h
  obtain ⟨hW, hL, hn, hs, hS⟩ := X
  exact lv_lconst hx hb hd (by rfl) (kk ad ac arr H locs cells slots (fun _ _ => ⟨rfl, rfl⟩) rfl rfl ⟨hW, hL, hn, .cn (q4 rfl) (.mkl (by have := i.isLt; unfold qi64; omega)) hs, hS⟩)

theorem q_aconst_null (F : qFx p s m args meth c A H0 sa sc k) : qStep p l e R s m args below meth c Q D A H0 sa sc k (.aconst_null) := by
  intro len pc ls st w n pc' ls' st' w' n' ad ac arr H locs cells slots hd ho h X hr kk
  obtain ⟨hx, hb, hml, hown, hts, hinit, hA, hsc, hst⟩ := F
  have hlen : len = 1 := by simpa [qok, qlen] using ho
  subst hlen
  simp only [qs1] at h
  cases h
  obtain ⟨hW, hL, hn, hs, hS⟩ := X
  exact lv_null hx hb hd (kk ad ac arr H locs cells slots (fun _ _ => ⟨rfl, rfl⟩) rfl rfl ⟨hW, hL, hn, .cn (q4 rfl) (fun _ => ⟨by omega, by omega⟩) hs, hS⟩)

theorem q_iload {i : Nat} (F : qFx p s m args meth c A H0 sa sc k) : qStep p l e R s m args below meth c Q D A H0 sa sc k (.iload i) := by
  intro len pc ls st w n pc' ls' st' w' n' ad ac arr H locs cells slots hd ho h X hr kk
  obtain ⟨hx, hb, hml, hown, hts, hinit, hA, hsc, hst⟩ := F
  have hlen : len = 2 := by simpa [qok, qlen] using ho
  subst hlen
  simp only [qs1] at h
  split at h
  · rename_i x hq
    cases h
    obtain ⟨hW, hL, hn, hs, hS⟩ := X
    obtain ⟨h1, h2⟩ := hL.at hq (q4 rfl)
    exact lv_iload hx hb hd  h1 (kk ad ac arr H locs cells slots (fun _ _ => ⟨rfl, rfl⟩) rfl rfl ⟨hW, hL, hn, .cn (q4 rfl) h2 hs, hS⟩)
  · cases h

theorem q_lload {i : Nat} (F : qFx p s m args meth c A H0 sa sc k) : qStep p l e R s m args below meth c Q D A H0 sa sc k (.lload i) := by
  intro len pc ls st w n pc' ls' st' w' n' ad ac arr H locs cells slots hd ho h X hr kk
  obtain ⟨hx, hb, hml, hown, hts, hinit, hA, hsc, hst⟩ := F
  have hlen : len = 2 := by simpa [qok, qlen] using ho
  subst hlen
  simp only [qs1] at h
  split at h
  · rename_i x hq
    cases h
    obtain ⟨hW, hL, hn, hs, hS⟩ := X
    obtain ⟨h1, h2⟩ := hL.at hq (q4 rfl)
    exact lv_lload hx hb hd  h1 (kk ad ac arr H locs cells slots (fun _ _ => ⟨rfl, rfl⟩) rfl rfl ⟨hW, hL, hn, .cn (q4 rfl) h2 hs, hS⟩)
  · cases h

theorem q_iload_n {i : Fin 4} (F : qFx p s m args meth c A H0 sa sc k) : qStep p l e R s m args below meth c Q D A H0 sa sc k (.iload_n i) := by
  intro len pc ls st w n pc' ls' st' w' n' ad ac arr H locs cells slots hd ho h X hr kk
  obtain ⟨hx, hb, hml, hown, hts, hinit, hA, hsc, hst⟩ := F
  have hlen : len = 1 := by simpa [qok, qlen] using ho
  subst hlen
  simp only [qs1] at h
  split at h
  · rename_i x hq
    cases h
    obtain ⟨hW, hL, hn, hs, hS⟩ := X
    obtain ⟨h1, h2⟩ := hL.at hq (q4 rfl)
    exact lv_iload_n hx hb hd rfl  h1 (kk ad ac arr H locs cells slots (fun _ _ => ⟨rfl, rfl⟩) rfl rfl ⟨hW, hL, hn, .cn (q4 rfl) h2 hs, hS⟩)
  · cases h

theorem q_lload_n {i : Fin 4} (F : qFx p s m args meth c A H0 sa sc k) : qStep p l e R s m args below meth c Q D A H0 sa sc k (.lload_n i) := by
  intro len pc ls st w n pc' ls' st' w' n' ad ac arr H locs cells slots hd ho h X hr kk
  obtain ⟨hx, hb, hml, hown, hts, hinit, hA, hsc, hst⟩ := F
  have hlen : len = 1 := by simpa [qok, qlen] using ho
  subst hlen
  simp only [qs1] at h
  split at h
  · rename_i x hq
    cases h
    obtain ⟨hW, hL, hn, hs, hS⟩ := X
    obtain ⟨h1, h2⟩ := hL.at hq (q4 rfl)
    exact lv_lload_n hx hb hd rfl  h1 (kk ad ac arr H locs cells slots (fun _ _ => ⟨rfl, rfl⟩) rfl rfl ⟨hW, hL, hn, .cn (q4 rfl) h2 hs, hS⟩)
  · cases h

theorem q_aload {i : Nat} (F : qFx p s m args meth c A H0 sa sc k) : qStep p l e R s m args below meth c Q D A H0 sa sc k (.aload i) := by
  intro len pc ls st w n pc' ls' st' w' n' ad ac arr H locs cells slots hd ho h X hr kk
  obtain ⟨hx, hb, hml, hown, hts, hinit, hA, hsc, hst⟩ := F
  have hlen : len = 2 := by simpa [qok, qlen] using ho
  subst hlen
  simp only [qs1] at h
  split at h
  · rename_i x hq
    cases h
    obtain ⟨hW, hL, hn, hs, hS⟩ := X
    obtain ⟨h1, h2⟩ := hL.at hq (q4 rfl)
    have K := kk ad ac arr H locs cells slots (fun _ _ => ⟨rfl, rfl⟩) rfl rfl ⟨hW, hL, hn, .cn (q4 rfl) h2 hs, hS⟩
    have e1 : qcv ad sa (2, x) = va_rf (qrf ad x) := rfl
    rw [e1] at h1
    rw [List.map_cons, e1] at K
    cases hv : qrf ad x with
    | none =>
      rw [hv] at h1 K
      exact lv_aloadN hx hb hd  h1 K
    | some a =>
      rw [hv] at h1 K
      exact lv_aload hx hb hd  h1 K
  · rename_i x hq
    cases h
    obtain ⟨hW, hL, hn, hs, hS⟩ := X
    obtain ⟨h1, h2⟩ := hL.at hq (q4 rfl)
    exact lv_aload hx hb hd  h1 (kk ad ac arr H locs cells slots (fun _ _ => ⟨rfl, rfl⟩) rfl rfl ⟨hW, hL, hn, .cn (q4 rfl) h2 hs, hS⟩)
  · cases h

theorem q_aload_n {i : Fin 4} (F : qFx p s m args meth c A H0 sa sc k) : qStep p l e R s m args below meth c Q D A H0 sa sc k (.aload_n i) := by
  intro len pc ls st w n pc' ls' st' w' n' ad ac arr H locs cells slots hd ho h X hr kk
  obtain ⟨hx, hb, hml, hown, hts, hinit, hA, hsc, hst⟩ := F
  have hlen : len = 1 := by simpa [qok, qlen] using ho
  subst hlen
  simp only [qs1] at h
  split at h
  · rename_i x hq
    cases h
    obtain ⟨hW, hL, hn, hs, hS⟩ := X
    obtain ⟨h1, h2⟩ := hL.at hq (q4 rfl)
    have K := kk ad ac arr H locs cells slots (fun _ _ => ⟨rfl, rfl⟩) rfl rfl ⟨hW, hL, hn, .cn (q4 rfl) h2 hs, hS⟩
    have e1 : qcv ad sa (2, x) = va_rf (qrf ad x) := rfl
    rw [e1] at h1
    rw [List.map_cons, e1] at K
    cases hv : qrf ad x with
    | none =>
      rw [hv] at h1 K
      exact lv_aload_nN hx hb hd rfl  h1 K
    | some a =>
      rw [hv] at h1 K
      exact lv_aload_n hx hb hd rfl  h1 K
  · rename_i x hq
    cases h
    obtain ⟨hW, hL, hn, hs, hS⟩ := X
    obtain ⟨h1, h2⟩ := hL.at hq (q4 rfl)
    exact lv_aload_n hx hb hd rfl  h1 (kk ad ac arr H locs cells slots (fun _ _ => ⟨rfl, rfl⟩) rfl rfl ⟨hW, hL, hn, .cn (q4 rfl) h2 hs, hS⟩)
  · cases h

theorem q_istore {i : Nat} (F : qFx p s m args meth c A H0 sa sc k) : qStep p l e R s m args below meth c Q D A H0 sa sc k (.istore i) := by
  intro len pc ls st w n pc' ls' st' w' n' ad ac arr H locs cells slots hd ho h X hr kk
  obtain ⟨hx, hb, hml, hown, hts, hinit, hA, hsc, hst⟩ := F
  have hlen : len = 2 := by simpa [qok, qlen] using ho
  subst hlen
  simp only [qs1] at h
  split at h
  · rename_i x r
    split at h
    · rename_i hlt
      cases h
      have hlt := Nat.blt_eq.mp hlt
      obtain ⟨hW, hL, hn, hs, hS⟩ := X
      exact lv_istore hx hb hd  hL.has (by rw [hn]; omega) rfl (fun arr' h' => kk ad ac arr' H locs cells slots (fun _ _ => ⟨rfl, rfl⟩) rfl rfl ⟨hW, hL.put1 (by rw [hn]; omega) qn1 hs.h.2 h', by rw [qst_len]; exact hn, hs.t, hS⟩)
    · cases h
  · cases h

theorem q_istore_n {i : Fin 4} (F : qFx p s m args meth c A H0 sa sc k) : qStep p l e R s m args below meth c Q D A H0 sa sc k (.istore_n i) := by
  intro len pc ls st w n pc' ls' st' w' n' ad ac arr H locs cells slots hd ho h X hr kk
  obtain ⟨hx, hb, hml, hown, hts, hinit, hA, hsc, hst⟩ := F
  have hlen : len = 1 := by simpa [qok, qlen] using ho
  subst hlen
  simp only [qs1] at h
  split at h
  · rename_i x r
    split at h
    · rename_i hlt
      cases h
      have hlt := Nat.blt_eq.mp hlt
      obtain ⟨hW, hL, hn, hs, hS⟩ := X
      exact lv_istore_n hx hb hd rfl  hL.has (by rw [hn]; omega) rfl (fun arr' h' => kk ad ac arr' H locs cells slots (fun _ _ => ⟨rfl, rfl⟩) rfl rfl ⟨hW, hL.put1 (by rw [hn]; omega) qn1 hs.h.2 h', by rw [qst_len]; exact hn, hs.t, hS⟩)
    · cases h
  · cases h

theorem q_lstore {i : Nat} (F : qFx p s m args meth c A H0 sa sc k) : qStep p l e R s m args below meth c Q D A H0 sa sc k (.lstore i) := by
  intro len pc ls st w n pc' ls' st' w' n' ad ac arr H locs cells slots hd ho h X hr kk
  obtain ⟨hx, hb, hml, hown, hts, hinit, hA, hsc, hst⟩ := F
  have hlen : len = 2 := by simpa [qok, qlen] using ho
  subst hlen
  simp only [qs1] at h
  split at h
  · rename_i x r
    split at h
    · rename_i hlt
      cases h
      have hlt := Nat.blt_eq.mp hlt
      obtain ⟨hW, hL, hn, hs, hS⟩ := X
      exact lv_lstore hx hb hd  hL.has (by rw [hn]; omega) rfl (fun arr' h' => kk ad ac arr' H locs cells slots (fun _ _ => ⟨rfl, rfl⟩) rfl rfl ⟨hW, hL.put2 (by rw [hn]; omega) rfl hs.h.2 h', by rw [qst_len]; exact hn, hs.t, hS⟩)
    · cases h
  · cases h

theorem q_lstore_n {i : Fin 4} (F : qFx p s m args meth c A H0 sa sc k) : qStep p l e R s m args below meth c Q D A H0 sa sc k (.lstore_n i) := by
  intro len pc ls st w n pc' ls' st' w' n' ad ac arr H locs cells slots hd ho h X hr kk
  obtain ⟨hx, hb, hml, hown, hts, hinit, hA, hsc, hst⟩ := F
  have hlen : len = 1 := by simpa [qok, qlen] using ho
  subst hlen
  simp only [qs1] at h
  split at h
  · rename_i x r
    split at h
    · rename_i hlt
      cases h
      have hlt := Nat.blt_eq.mp hlt
      obtain ⟨hW, hL, hn, hs, hS⟩ := X
      exact lv_lstore_n hx hb hd rfl  hL.has (by rw [hn]; omega) rfl (fun arr' h' => kk ad ac arr' H locs cells slots (fun _ _ => ⟨rfl, rfl⟩) rfl rfl ⟨hW, hL.put2 (by rw [hn]; omega) rfl hs.h.2 h', by rw [qst_len]; exact hn, hs.t, hS⟩)
    · cases h
  · cases h

theorem q_astore_n {i : Fin 4} (F : qFx p s m args meth c A H0 sa sc k) : qStep p l e R s m args below meth c Q D A H0 sa sc k (.astore_n i) := by
  intro len pc ls st w n pc' ls' st' w' n' ad ac arr H locs cells slots hd ho h X hr kk
  obtain ⟨hx, hb, hml, hown, hts, hinit, hA, hsc, hst⟩ := F
  have hlen : len = 1 := by simpa [qok, qlen] using ho
  subst hlen
  simp only [qs1] at h
  split at h
  · rename_i x r
    split at h
    · rename_i hlt
      cases h
      have hlt := Nat.blt_eq.mp hlt
      obtain ⟨hW, hL, hn, hs, hS⟩ := X
      have K := fun arr' h' => kk ad ac arr' H locs cells slots (fun _ _ => ⟨rfl, rfl⟩) rfl rfl ⟨hW, hL.put1 (arr' := arr') (i := i.val) (by rw [hn]; omega) qn1 hs.h.2 h', by rw [qst_len]; exact hn, hs.t, hS⟩
      have e1 : qcv ad sa (2, x) = va_rf (qrf ad x) := rfl
      rw [e1] at K
      rw [List.map_cons, e1]
      cases hv : qrf ad x with
      | none =>
        rw [hv] at K
        exact lv_astore_nN hx hb hd rfl hL.has (by rw [hn]; omega) rfl K
      | some a =>
        rw [hv] at K
        exact lv_astore_n hx hb hd rfl hL.has (by rw [hn]; omega) rfl K
    · cases h
  · cases h

theorem q_iinc {i : Nat} {v : Int} (F : qFx p s m args meth c A H0 sa sc k) : qStep p l e R s m args below meth c Q D A H0 sa sc k (.iinc i v) := by
  intro len pc ls st w n pc' ls' st' w' n' ad ac arr H locs cells slots hd ho h X hr kk
  obtain ⟨hx, hb, hml, hown, hts, hinit, hA, hsc, hst⟩ := F
  simp only [qok, Bool.and_eq_true, Nat.beq_eq_true_eq, decide_eq_true_eq] at ho
  obtain ⟨hlen, hi⟩ := ho
  have hlen := Nat.eq_of_beq_eq_true hlen
  subst hlen
  simp only [qs1] at h
  split at h
  · rename_i x hq
    split at h
    · rename_i hlt
      cases h
      have hlt := Nat.blt_eq.mp hlt
      obtain ⟨hW, hL, hn, hs, hS⟩ := X
      have hm := qll_mem (ad := ad) (sa := sa) (ls := ls) (j := i) (by rw [hq]; exact q4 rfl)
      rw [hq] at hm
      obtain ⟨k9, hk9⟩ := List.getElem?_of_mem hm
      exact lv_iinc hx hb hd hL.has hk9 (e_add x v) (by rw [hn]; omega) rfl (fun arr' h' => kk ad ac arr' H locs cells slots (fun _ _ => ⟨rfl, rfl⟩) rfl rfl ⟨hW, hL.put1 (by rw [hn]; omega) qn1 (.mki (wrp_in _)) h', by rw [qst_len]; exact hn, hs, hS⟩)
    · cases h
  · cases h

theorem q_dup (F : qFx p s m args meth c A H0 sa sc k) : qStep p l e R s m args below meth c Q D A H0 sa sc k (.dup) := by
  intro len pc ls st w n pc' ls' st' w' n' ad ac arr H locs cells slots hd ho h X hr kk
  obtain ⟨hx, hb, hml, hown, hts, hinit, hA, hsc, hst⟩ := F
  have hlen : len = 1 := by simpa [qok, qlen] using ho
  subst hlen
  simp only [qs1] at h
  split at h
  · rename_i x r
    cases h
    obtain ⟨hW, hL, hn, hs, hS⟩ := X
    exact lv_dup hx hb hd rfl (kk ad ac arr H locs cells slots (fun _ _ => ⟨rfl, rfl⟩) rfl rfl ⟨hW, hL, hn, .cn hs.h.1 hs.h.2 hs, hS⟩)
  · rename_i x r
    cases h
    obtain ⟨hW, hL, hn, hs, hS⟩ := X
    exact lv_dup hx hb hd (va_rf_cat _) (kk ad ac arr H locs cells slots (fun _ _ => ⟨rfl, rfl⟩) rfl rfl ⟨hW, hL, hn, .cn hs.h.1 hs.h.2 hs, hS⟩)
  · cases h

theorem q_dup2 (F : qFx p s m args meth c A H0 sa sc k) : qStep p l e R s m args below meth c Q D A H0 sa sc k (.dup2) := by
  intro len pc ls st w n pc' ls' st' w' n' ad ac arr H locs cells slots hd ho h X hr kk
  obtain ⟨hx, hb, hml, hown, hts, hinit, hA, hsc, hst⟩ := F
  have hlen : len = 1 := by simpa [qok, qlen] using ho
  subst hlen
  simp only [qs1] at h
  split at h
  · rename_i x y r
    cases h
    obtain ⟨hW, hL, hn, hs, hS⟩ := X
    exact lv_dup2_11 hx hb hd rfl (va_rf_cat _) (kk ad ac arr H locs cells slots (fun _ _ => ⟨rfl, rfl⟩) rfl rfl ⟨hW, hL, hn, .cn hs.h.1 hs.h.2 (.cn hs.t.h.1 hs.t.h.2 hs), hS⟩)
  · cases h

theorem q_pop (F : qFx p s m args meth c A H0 sa sc k) : qStep p l e R s m args below meth c Q D A H0 sa sc k (.pop) := by
  intro len pc ls st w n pc' ls' st' w' n' ad ac arr H locs cells slots hd ho h X hr kk
  obtain ⟨hx, hb, hml, hown, hts, hinit, hA, hsc, hst⟩ := F
  have hlen : len = 1 := by simpa [qok, qlen] using ho
  subst hlen
  simp only [qs1] at h
  split at h
  · rename_i x r
    cases h
    obtain ⟨hW, hL, hn, hs, hS⟩ := X
    exact lv_pop hx hb hd rfl (kk ad ac arr H locs cells slots (fun _ _ => ⟨rfl, rfl⟩) rfl rfl ⟨hW, hL, hn, hs.t, hS⟩)
  · cases h

theorem q_goto {off : Int} (F : qFx p s m args meth c A H0 sa sc k) : qStep p l e R s m args below meth c Q D A H0 sa sc k (.goto off) := by
  intro len pc ls st w n pc' ls' st' w' n' ad ac arr H locs cells slots hd ho h X hr kk
  obtain ⟨hx, hb, hml, hown, hts, hinit, hA, hsc, hst⟩ := F
  simp only [qok, Bool.and_eq_true, Nat.beq_eq_true_eq, decide_eq_true_eq] at ho
  obtain ⟨hlen, hi⟩ := ho
  have hlen := Nat.eq_of_beq_eq_true hlen
  subst hlen
  simp only [qs1] at h
  cases h
  obtain ⟨hW, hL, hn, hs, hS⟩ := X
  exact lv_goto hx hb hd (qtg_eq hi) (kk ad ac arr H locs cells slots (fun _ _ => ⟨rfl, rfl⟩) rfl rfl ⟨hW, hL, hn, hs, hS⟩)

theorem e_ge {x y : Int} (hx : qi32 x) (hy : qi32 y) : Int32.ofInt y ≤ Int32.ofInt x ↔ ¬ x < y := by rw [e_le hy hx]; omega
theorem e_ne {x y : Int} (hx : qi32 x) (hy : qi32 y) : ¬ Int32.ofInt x = Int32.ofInt y ↔ ¬ x = y := by rw [e_eq hx hy]
theorem e_z : qi32 0 := ⟨by decide, by decide⟩
theorem q_ifCond {cd : Jvm.ClassFile.Cond} {off : Int} (F : qFx p s m args meth c A H0 sa sc k) : qStep p l e R s m args below meth c Q D A H0 sa sc k (.ifCond cd off) := by
  intro len pc ls st w n pc' ls' st' w' n' ad ac arr H locs cells slots hd ho h X hr kk
  obtain ⟨hx, hb, hml, hown, hts, hinit, hA, hsc, hst⟩ := F
  simp only [qok, Bool.and_eq_true, Nat.beq_eq_true_eq, decide_eq_true_eq] at ho
  obtain ⟨hlen, hi⟩ := ho
  have hlen := Nat.eq_of_beq_eq_true hlen
  subst hlen
  simp only [qs1] at h
  split at h
  · rename_i x r
    obtain ⟨hW, hL, hn, hs, hS⟩ := X
    have hx9 := hs.h.2.i
    have hy9 := e_z
    have K : ∀ q, some (q, ls, r, w, n) = some (pc', ls', st', w', n') → W p l e R s m args below meth c H locs cells slots Q (F0 m q arr (r.map (qcv ad sa))) := fun q hq => by
      cases hq
      exact kk ad ac arr H locs cells slots (fun _ _ => ⟨rfl, rfl⟩) rfl rfl ⟨hW, hL, hn, hs.t, hS⟩
    cases cd <;> simp only [qbr] at h
    · refine lv_if_eq hx hb hd (qtg_eq hi) (fun q => K _ ?_) (fun q => K _ ?_)
      · rw [if_pos ((e_eq hx9 hy9).mp q)] at h; exact h
      · rw [if_neg (fun z => q ((e_eq hx9 hy9).mpr z))] at h; exact h
    · refine lv_if_ne hx hb hd (qtg_eq hi) (fun q => K _ ?_) (fun q => K _ ?_)
      · rw [if_neg ((e_ne hx9 hy9).mp q)] at h; exact h
      · rw [if_pos ((e_eq hx9 hy9).mp q)] at h; exact h
    · refine lv_if_lt hx hb hd (qtg_eq hi) (fun q => K _ ?_) (fun q => K _ ?_)
      · rw [if_pos ((e_lt hx9 hy9).mp q)] at h; exact h
      · rw [if_neg (fun z => q ((e_lt hx9 hy9).mpr z))] at h; exact h
    · refine lv_if_ge hx hb hd (qtg_eq hi) (fun q => K _ ?_) (fun q => K _ ?_)
      · rw [if_neg ((e_ge hx9 hy9).mp q)] at h; exact h
      · rw [if_pos (Decidable.of_not_not (fun z => q ((e_ge hx9 hy9).mpr z)))] at h; exact h
    · refine lv_if_gt hx hb hd (qtg_eq hi) (fun q => K _ ?_) (fun q => K _ ?_)
      · rw [if_pos ((e_lt hy9 hx9).mp q)] at h; exact h
      · rw [if_neg (fun z => q ((e_lt hy9 hx9).mpr z))] at h; exact h
    · refine lv_if_le hx hb hd (qtg_eq hi) (fun q => K _ ?_) (fun q => K _ ?_)
      · rw [if_neg ((e_ge hy9 hx9).mp q)] at h; exact h
      · rw [if_pos (Decidable.of_not_not (fun z => q ((e_ge hy9 hx9).mpr z)))] at h; exact h
  · cases h

theorem q_if_icmp {cd : Jvm.ClassFile.Cond} {off : Int} (F : qFx p s m args meth c A H0 sa sc k) : qStep p l e R s m args below meth c Q D A H0 sa sc k (.if_icmp cd off) := by
  intro len pc ls st w n pc' ls' st' w' n' ad ac arr H locs cells slots hd ho h X hr kk
  obtain ⟨hx, hb, hml, hown, hts, hinit, hA, hsc, hst⟩ := F
  simp only [qok, Bool.and_eq_true, Nat.beq_eq_true_eq, decide_eq_true_eq] at ho
  obtain ⟨hlen, hi⟩ := ho
  have hlen := Nat.eq_of_beq_eq_true hlen
  subst hlen
  simp only [qs1] at h
  split at h
  · rename_i y x r
    obtain ⟨hW, hL, hn, hs, hS⟩ := X
    have hx9 := hs.t.h.2.i
    have hy9 := hs.h.2.i
    have K : ∀ q, some (q, ls, r, w, n) = some (pc', ls', st', w', n') → W p l e R s m args below meth c H locs cells slots Q (F0 m q arr (r.map (qcv ad sa))) := fun q hq => by
      cases hq
      exact kk ad ac arr H locs cells slots (fun _ _ => ⟨rfl, rfl⟩) rfl rfl ⟨hW, hL, hn, hs.t.t, hS⟩
    cases cd <;> simp only [qbr] at h
    · refine lv_icmp_eq hx hb hd (qtg_eq hi) (fun q => K _ ?_) (fun q => K _ ?_)
      · rw [if_pos ((e_eq hx9 hy9).mp q)] at h; exact h
      · rw [if_neg (fun z => q ((e_eq hx9 hy9).mpr z))] at h; exact h
    · refine lv_icmp_ne hx hb hd (qtg_eq hi) (fun q => K _ ?_) (fun q => K _ ?_)
      · rw [if_neg ((e_ne hx9 hy9).mp q)] at h; exact h
      · rw [if_pos ((e_eq hx9 hy9).mp q)] at h; exact h
    · refine lv_icmp_lt hx hb hd (qtg_eq hi) (fun q => K _ ?_) (fun q => K _ ?_)
      · rw [if_pos ((e_lt hx9 hy9).mp q)] at h; exact h
      · rw [if_neg (fun z => q ((e_lt hx9 hy9).mpr z))] at h; exact h
    · refine lv_icmp_ge hx hb hd (qtg_eq hi) (fun q => K _ ?_) (fun q => K _ ?_)
      · rw [if_neg ((e_ge hx9 hy9).mp q)] at h; exact h
      · rw [if_pos (Decidable.of_not_not (fun z => q ((e_ge hx9 hy9).mpr z)))] at h; exact h
    · refine lv_icmp_gt hx hb hd (qtg_eq hi) (fun q => K _ ?_) (fun q => K _ ?_)
      · rw [if_pos ((e_lt hy9 hx9).mp q)] at h; exact h
      · rw [if_neg (fun z => q ((e_lt hy9 hx9).mpr z))] at h; exact h
    · refine lv_icmp_le hx hb hd (qtg_eq hi) (fun q => K _ ?_) (fun q => K _ ?_)
      · rw [if_neg ((e_ge hy9 hx9).mp q)] at h; exact h
      · rw [if_pos (Decidable.of_not_not (fun z => q ((e_ge hy9 hx9).mpr z)))] at h; exact h
  · cases h

end QS
end
section
/-! one instruction of the plain run, and the machine's: constants, switches, cells -/
theorem qkn_bd {o i : Nat} {x : Nat × Int} (h : qkn o i = some x) : o < 16 ∧ i < 800 := by
  unfold qkn at h
  cases hb : (Nat.blt o 16 && Nat.blt i 800)
  · rw [hb] at h; cases h
  · simpa only [Bool.and_eq_true, Nat.blt_eq] using hb
theorem qfd_bd {o i : Nat} {x : Nat × Nat × Nat × Nat} (h : qfd o i = some x) : o < 16 ∧ i < 800 := by
  unfold qfd at h
  cases hb : (Nat.blt o 16 && Nat.blt i 800)
  · rw [hb] at h; cases h
  · simpa only [Bool.and_eq_true, Nat.blt_eq] using hb
theorem qmd_bd {o i : Nat} {x : Nat × Nat × Nat} (h : qmd o i = some x) : o < 16 ∧ i < 800 := by
  unfold qmd at h
  cases hb : (Nat.blt o 16 && Nat.blt i 800)
  · rw [hb] at h; cases h
  · simpa only [Bool.and_eq_true, Nat.blt_eq] using hb
theorem qcl_bd {o i : Nat} {x : Nat} (h : qcl o i = some x) : o < 16 ∧ i < 800 := by
  unfold qcl at h
  cases hb : (Nat.blt o 16 && Nat.blt i 800)
  · rw [hb] at h; cases h
  · simpa only [Bool.and_eq_true, Nat.blt_eq] using hb
theorem qK_i {o i : Nat} {v : Int} (h : qkn o i = some (0, v)) : Cond.constant (qcn o) i (Int32.ofInt v) ∈ qAL ∧ qi32 v := by
  obtain ⟨h1, h2⟩ := qkn_bd h
  have hc := qall_of qckK_all h1 h2
  unfold qckK at hc
  rw [h] at hc
  simp only [Bool.and_eq_true, decide_eq_true_eq] at hc
  exact ⟨qwd1_in hc.1, hc.2⟩
theorem qK_l {o i : Nat} {v : Int} (h : qkn o i = some (1, v)) : Cond.constantLong (qcn o) i (Int64.ofInt v) ∈ qAL ∧ qi64 v := by
  obtain ⟨h1, h2⟩ := qkn_bd h
  have hc := qall_of qckK_all h1 h2
  unfold qckK at hc
  rw [h] at hc
  simp only [Bool.and_eq_true, decide_eq_true_eq] at hc
  exact ⟨qwd1_in hc.1, hc.2⟩
theorem qK_s {o i : Nat} {v : Int} (h : qkn o i = some (3, v)) : ∃ tx, qtx[v.toNat - 1]? = some (qcn o, i, tx) ∧ 0 < v := by
  obtain ⟨h1, h2⟩ := qkn_bd h
  have hc := qall_of qckK_all h1 h2
  unfold qckK at hc
  rw [h] at hc
  replace hc : (match qtx[v.toNat - 1]? with
    | some (c, j, _) => decide (c = qcn o) && Nat.beq j i && decide (0 < v)
    | none => false) = true := hc
  split at hc
  · rename_i c j tx hq
    simp only [Bool.and_eq_true, decide_eq_true_eq] at hc
    obtain ⟨⟨rfl, h4⟩, h5⟩ := hc
    have h4 := Nat.eq_of_beq_eq_true h4
    subst h4
    exact ⟨tx, hq, h5⟩
  · cases hc
noncomputable def qckP (p : Nat) : Bool := match qpl p with
  | (0, c, m, _) => Nat.blt c 13 && Nat.beq m (qNf c)
  | (1, e, m, c) => Nat.ble e 4 && Nat.ble m 100000 && (!(Nat.beq e 2) || Nat.beq c 99 || Nat.blt c 13)
  | _ => true
theorem qckP_all : (List.range 143).all qckP = true := by decide +kernel
theorem qckP_of (p : Nat) : qckP p = true := by
  by_cases h : p < 143
  · exact List.all_eq_true.mp qckP_all p (List.mem_range.mpr h)
  · have hb : Nat.blt p 143 = false := by
      cases hq : Nat.blt p 143
      · rfl
      · exact absurd (Nat.blt_eq.mp hq) h
    have : qpl p = (9, 0, 0, 0) := by unfold qpl; rw [hb]; rfl
    unfold qckP
    rw [this]; rfl
theorem qpl_o {p c m x : Nat} (h : qpl p = (0, c, m, x)) : c < 13 ∧ m = qNf c := by
  have hc := qckP_of p
  unfold qckP at hc
  rw [h] at hc
  simp only [Bool.and_eq_true, Nat.blt_eq] at hc
  exact ⟨hc.1, Nat.eq_of_beq_eq_true hc.2⟩
theorem qpl_a {p e m c : Nat} (h : qpl p = (1, e, m, c)) : e ≤ 4 ∧ m ≤ 100000 ∧ (e = 2 → c = 99 ∨ c < 13) := by
  have hc := qckP_of p
  unfold qckP at hc
  rw [h] at hc
  simp only [Bool.and_eq_true, Bool.or_eq_true, Nat.blt_eq] at hc
  refine ⟨Nat.le_of_ble_eq_true hc.1.1, Nat.le_of_ble_eq_true hc.1.2, fun he => ?_⟩
  rcases hc.2 with (q | q) | q
  · rw [he] at q; cases q
  · exact Or.inl (Nat.eq_of_beq_eq_true q)
  · exact Or.inr q
theorem qce_o {ad : Nat → Nat} {ac : Nat → ClassId} {w : qW} {p c m x : Nat} (h : qpl p = (0, c, m, x)) : qce ad ac w p = .inr (c, (List.range m).map (fun j => qfv ad (qfk c j) (w p j))) := by
  unfold qce; rw [h]; rfl
theorem qce_a {ad : Nat → Nat} {ac : Nat → ClassId} {w : qW} {p e m c : Nat} (h : qpl p = (1, e, m, c)) : qce ad ac w p = .inl (ac p, m, qca ad e (w p)) := by
  unfold qce; rw [h]; rfl
theorem qkd_o {p c m x j : Nat} (h : qpl p = (0, c, m, x)) : qkd p j = qfk c j := by unfold qkd; rw [h]; rfl
theorem qkd_a {p e m c j : Nat} (h : qpl p = (1, e, m, c)) : qkd p j = e := by unfold qkd; rw [h]; rfl
theorem qcv_ref {ad sa : Nat → Nat} {p : Int} (h : 0 < p) : qcv ad sa (2, p) = .ref (ad p.toNat) := by
  show va_rf (qrf ad p) = _
  unfold qrf
  rw [if_neg (by omega)]; rfl
theorem qF_in {o i ci j kd fin : Nat} (h : qfd o i = some (ci, j, kd, fin)) : ci < 13 ∧ j < qNf ci ∧ Cond.fieldLink (qcn o) i (qT ci j).1 (qT ci j).2.1 (qT ci j).2.2.1 ∈ qAL ∧ kd = qfk ci j ∧ qtyk (qty ci j) kd = true ∧ (qT ci j).2.2.2 = Nat.beq fin 1 ∧ (fin = 0 ∨ (qT ci j).1 = qcn o) := by
  obtain ⟨h1, h2⟩ := qfd_bd h
  have hc := qall_of qckF_all h1 h2
  unfold qckF at hc
  rw [h] at hc
  simp only [Bool.and_eq_true, Bool.or_eq_true, decide_eq_true_eq, Nat.blt_eq] at hc
  obtain ⟨⟨⟨⟨⟨⟨a1, a2⟩, a3⟩, a4⟩, a5⟩, a6⟩, a7⟩ := hc
  exact ⟨a1, a2, qwd1_in a3, Nat.eq_of_beq_eq_true a4, a5, a6, a7.imp Nat.eq_of_beq_eq_true id⟩
theorem qrf_inj {ad : Nat → Nat} {ac : Nat → ClassId} {w : qW} {n : Nat} {A : Nat → Prop} (hD : va_D A (qws ad ac w n)) {x y : Int} (hx : 0 ≤ x ∧ x ≤ n) (hy : 0 ≤ y ∧ y ≤ n) (h : qrf ad x = qrf ad y) : x = y := by
  unfold qrf at h
  by_cases a : x = 0 <;> by_cases b : y = 0
  · omega
  · rw [if_pos a, if_neg b] at h; cases h
  · rw [if_neg a, if_pos b] at h; cases h
  · rw [if_neg a, if_neg b] at h
    injection h with h
    have := hD.1 (x.toNat - 1) (y.toNat - 1) _ _ (qws_at (by omega) (by omega)) (qws_at (by omega) (by omega)) h
    omega
theorem qtsw_of {f : Nat → Option qC} {pc : Nat} {x dflt : Int} {r : qC} : ∀ (l : List Int) (c : Int), qtsw f pc x dflt l c = some r → (∃ (j : Nat) (o : Int), l[j]? = some o ∧ x = c + j ∧ f (qtg pc o) = some r) ∨ ((x < c ∨ c + l.length ≤ x) ∧ f (qtg pc dflt) = some r)
  | [], c, h => Or.inr ⟨by simp; omega, h⟩
  | o :: l, c, h => by
    unfold qtsw at h
    by_cases hx : x = c
    · rw [if_pos hx] at h
      exact Or.inl ⟨0, o, rfl, by simpa using hx, h⟩
    · rw [if_neg hx] at h
      rcases qtsw_of l (c + 1) h with ⟨j, o', h1, h2, h3⟩ | ⟨h1, h2⟩
      · exact Or.inl ⟨j + 1, o', h1, by omega, h3⟩
      · refine Or.inr ⟨?_, h2⟩
        rcases h1 with h1 | h1
        · exact Or.inl (by omega)
        · exact Or.inr (by simp only [List.length_cons]; omega)
theorem qKi {D : va_G} {cl : List vw_C} {s : State} {t1 t2 : ClassId × FieldType} (h1 : va_K D cl [t1] s) (h2 : va_K D cl [t2] s) : va_K D cl [t1, t2] s := h1.app h2
section QH
variable {p : Program} {l : Launch} {e : Env} {R : Room} {s : State} {m : MethodId} {args : Array Value} {below : List Frame} {meth : Method} {c : Code} {Q : State → Prop}
variable {D : va_G} {A : Nat → Prop} {H0 : Heap} {sa : Nat → Nat} {sc : Option (Nat × (Nat → Int))} {k : Nat}
theorem q_ldc {i : Nat} (F : qFx p s m args meth c A H0 sa sc k) : qStep p l e R s m args below meth c Q D A H0 sa sc k (.ldc i) := by
  intro len pc ls st w n pc' ls' st' w' n' ad ac arr H locs cells slots hd ho h X hr kk
  obtain ⟨hx, hb, hml, hown, hts, hinit, hA, hsc, hst⟩ := F
  have hlen : len = 2 := by simpa [qok, qlen] using ho
  subst hlen
  obtain ⟨hW, hL, hn, hs, hS⟩ := X
  simp only [qs1] at h
  split at h
  · rename_i v hq
    cases h
    obtain ⟨h1, h2⟩ := qK_i hq
    exact lv_ldc hx hb hown (hts _ h1) hd (kk ad ac arr H locs cells slots (fun _ _ => ⟨rfl, rfl⟩) rfl rfl ⟨hW, hL, hn, .cn (q4 rfl) (.mki h2) hs, hS⟩)
  · rename_i v hq
    cases h
    obtain ⟨tx, h1, h2⟩ := qK_s hq
    have h3 := hst.1.1 _ _ h1
    rw [show v.toNat - 1 + 1 = v.toNat by omega] at h3
    exact va_ldcS hx hb hown h3 hd (kk ad ac arr H locs cells slots (fun _ _ => ⟨rfl, rfl⟩) rfl rfl ⟨hW, hL, hn, .cn (q4 rfl) .mk3 hs, hS⟩)
  · cases h
theorem va_ldcwS {cc : ByteArray} {pc : Nat} {ls : Array Slot} {rest : List Value} {H : Heap} {locs : List Loc} {cells slots : Nat} (hexec : p.tables.exec = Jvm.exec) (hb : c.code = cc) {own tx : String} {index q : Nat} (hown : s.vm.findClass own = some m.cls) (hZ : vk_R own index tx q s) (hdg : decode cc pc = .ok (.ldc_w index, 3))
    (k : W p l e R s m args below meth c H locs cells slots Q (F0 m (pc + 3) ls (.ref q :: rest))) : W p l e R s m args below meth c H locs cells slots Q (F0 m pc ls rest) := by
  intro T hT X
  obtain ⟨t, a1, b1⟩ := k T hT X
  exact ⟨t, X.ldcStringW hexec hown (text := tx) (a := q) hZ.1 hZ.2 (g := F0 m pc ls rest) rfl (by rw [hb]; exact hdg) t a1, b1⟩
theorem q_ldc_w {i : Nat} (F : qFx p s m args meth c A H0 sa sc k) : qStep p l e R s m args below meth c Q D A H0 sa sc k (.ldc_w i) := by
  intro len pc ls st w n pc' ls' st' w' n' ad ac arr H locs cells slots hd ho h X hr kk
  obtain ⟨hx, hb, hml, hown, hts, hinit, hA, hsc, hst⟩ := F
  have hlen : len = 3 := by simpa [qok, qlen] using ho
  subst hlen
  obtain ⟨hW, hL, hn, hs, hS⟩ := X
  simp only [qs1] at h
  split at h
  · rename_i v hq
    cases h
    obtain ⟨h1, h2⟩ := qK_i hq
    exact lv_ldcw hx hb hown (hts _ h1) hd (kk ad ac arr H locs cells slots (fun _ _ => ⟨rfl, rfl⟩) rfl rfl ⟨hW, hL, hn, .cn (q4 rfl) (.mki h2) hs, hS⟩)
  · rename_i v hq
    cases h
    obtain ⟨tx, h1, h2⟩ := qK_s hq
    have h3 := hst.1.1 _ _ h1
    rw [show v.toNat - 1 + 1 = v.toNat by omega] at h3
    exact va_ldcwS hx hb hown h3 hd (kk ad ac arr H locs cells slots (fun _ _ => ⟨rfl, rfl⟩) rfl rfl ⟨hW, hL, hn, .cn (q4 rfl) .mk3 hs, hS⟩)
  · cases h
theorem q_ldc2_w {i : Nat} (F : qFx p s m args meth c A H0 sa sc k) : qStep p l e R s m args below meth c Q D A H0 sa sc k (.ldc2_w i) := by
  intro len pc ls st w n pc' ls' st' w' n' ad ac arr H locs cells slots hd ho h X hr kk
  obtain ⟨hx, hb, hml, hown, hts, hinit, hA, hsc, hst⟩ := F
  have hlen : len = 3 := by simpa [qok, qlen] using ho
  subst hlen
  obtain ⟨hW, hL, hn, hs, hS⟩ := X
  simp only [qs1] at h
  split at h
  · rename_i v hq
    cases h
    obtain ⟨h1, h2⟩ := qK_l hq
    exact lv_ldc2 hx hb hown (hts _ h1) hd (kk ad ac arr H locs cells slots (fun _ _ => ⟨rfl, rfl⟩) rfl rfl ⟨hW, hL, hn, .cn (q4 rfl) (.mkl h2) hs, hS⟩)
  · cases h
theorem q_if_acmp {cd : Jvm.ClassFile.ACond} {off : Int} (F : qFx p s m args meth c A H0 sa sc k) : qStep p l e R s m args below meth c Q D A H0 sa sc k (.if_acmp cd off) := by
  intro len pc ls st w n pc' ls' st' w' n' ad ac arr H locs cells slots hd ho h X hr kk
  obtain ⟨hx, hb, hml, hown, hts, hinit, hA, hsc, hst⟩ := F
  simp only [qok, Bool.and_eq_true, decide_eq_true_eq] at ho
  obtain ⟨hlen, hi⟩ := ho
  have hlen := Nat.eq_of_beq_eq_true hlen
  subst hlen
  obtain ⟨hW, hL, hn, hs, hS⟩ := X
  simp only [qs1] at h
  split at h
  · rename_i y x r
    have hy := hs.h.2 (Nat.le_of_ble_eq_true rfl)
    have hx' := hs.t.h.2 (Nat.le_of_ble_eq_true rfl)
    refine lv_acmp_ne hx hb hd (qtg_eq hi) (fun q => ?_) (fun q => ?_)
    · rw [if_neg (fun z => q (by rw [z]))] at h
      cases h
      exact kk ad ac arr H locs cells slots (fun _ _ => ⟨rfl, rfl⟩) rfl rfl ⟨hW, hL, hn, hs.t.t, hS⟩
    · rw [if_pos (qrf_inj hW.2.1 hx' hy q)] at h
      cases h
      exact kk ad ac arr H locs cells slots (fun _ _ => ⟨rfl, rfl⟩) rfl rfl ⟨hW, hL, hn, hs.t.t, hS⟩
  · cases h
theorem q_tableswitch {d lo hi : Int} {offs : Array Int} (F : qFx p s m args meth c A H0 sa sc k) : qStep p l e R s m args below meth c Q D A H0 sa sc k (.tableswitch d lo hi offs) := by
  intro len pc ls st w n pc' ls' st' w' n' ad ac arr H locs cells slots hd ho h X hr kk
  obtain ⟨hx, hb, hml, hown, hts, hinit, hA, hsc, hst⟩ := F
  simp only [qok, Bool.and_eq_true, decide_eq_true_eq] at ho
  obtain ⟨⟨⟨⟨o1, o2⟩, o3⟩, o4⟩, o5⟩ := ho
  obtain ⟨hW, hL, hn, hs, hS⟩ := X
  simp only [qs1] at h
  split at h
  · rename_i x r
    have hx9 := hs.h.2.i
    rcases qtsw_of _ _ h with ⟨j, o, h1, h2, h3⟩ | ⟨h1, h2⟩
    · cases h3
      have hj : offs[j]? = some o := by rw [← Array.getElem?_toList]; exact h1
      have hlt : j < offs.size := (Array.getElem?_eq_some_iff.mp hj).1
      have ho9 := List.all_eq_true.mp o5 o (List.mem_of_getElem? h1)
      simp only [decide_eq_true_eq] at ho9
      refine lv_tableIn (off := o) hx hb hd (by rw [t32 hx9]; omega) (by rw [t32 hx9]; omega) ?_ (qtg_eq ho9) (kk ad ac arr H locs cells slots (fun _ _ => ⟨rfl, rfl⟩) rfl rfl ⟨hW, hL, hn, hs.t, hS⟩)
      rw [t32 hx9, show (x - lo).toNat = j by omega]
      exact hj
    · cases h2
      refine lv_tableOut hx hb hd ?_ (qtg_eq o4) (kk ad ac arr H locs cells slots (fun _ _ => ⟨rfl, rfl⟩) rfl rfl ⟨hW, hL, hn, hs.t, hS⟩)
      rw [t32 hx9]
      rw [Array.length_toList] at h1
      omega
  · cases h
theorem q_getfield {i : Nat} (F : qFx p s m args meth c A H0 sa sc k) : qStep p l e R s m args below meth c Q D A H0 sa sc k (.getfield i) := by
  intro len pc ls st w n pc' ls' st' w' n' ad ac arr H locs cells slots hd ho h X hr kk
  obtain ⟨hx, hb, hml, hown, hts, hinit, hA, hsc, hst⟩ := F
  have hlen : len = 3 := by simpa [qok, qlen] using ho
  subst hlen
  obtain ⟨hW, hL, hn, hs, hS⟩ := X
  simp only [qs1] at h
  split at h
  · rename_i ci j kd fin p0 r hq
    split at h
    · rename_i c0 m0 x0 hpl
      split at h
      · rename_i hc
        have hc := Nat.eq_of_beq_eq_true hc
        subst hc
        split at h
        · rename_i r' hp
          split at h
          · rename_i hn9
            cases h
            obtain ⟨g1, g2, g3, g4, g5, g6, g7⟩ := qF_in hq
            obtain ⟨y1, y2⟩ := qpl_o hpl
            subst y2
            have he := qws_at (ad := ad) (ac := ac) (w := w) (n := n) (p := p0.toNat) (by omega) (by omega)
            rw [qce_o hpl] at he
            have hv : ((List.range (qNf c0)).map (fun j => qfv ad (qfk c0 j) (w p0.toNat j)))[j]? = some (qfv ad (qfk c0 j) (w p0.toNat j)) := by
              rw [List.getElem?_map, List.getElem?_range g2]; rfl
            have hrg := hW.2.2.2.2 p0.toNat (by omega) (by omega) j (by rw [hpl]; exact g2)
            rw [qkd_o hpl] at hrg
            rw [List.map_cons, qcv_ref hn9.1]
            refine va_get (D := D) (ci := c0) (C := qcn c0) (T := qT c0) (N := qNf c0) hx hb hts (qwT_in g1) hown hW.2.2.1 hW.1 (p0.toNat - 1) he (qcl_at g1) j g2 (hts _ g3) (fun _ h9 => h9) hv hd ?_
            have hgo : W p l e R s m args below meth c H locs cells slots Q (F0 m (pc + 3) arr (List.map (qcv ad sa) st')) := kk ad ac arr H locs cells slots (fun _ _ => ⟨rfl, rfl⟩) rfl rfl ⟨hW, hL, hn, by
              rw [← g4] at hrg
              unfold qpush at hp
              split at hp <;> cases hp
              · exact .cn (q4 rfl) (fun _ => hrg) hs.t
              · exact .cn (q4 rfl) (fun _ => hrg) hs.t
              · exact .cn (q4 rfl) (fun _ => hrg) hs.t
              · exact .cn (q4 rfl) (fun _ => hrg) hs.t, hS⟩
            rw [← g4]
            unfold qpush at hp
            split at hp <;> cases hp <;> exact hgo
          · cases h
        · cases h
      · cases h
    · cases h
  · cases h
end QH
end
section
/-! one instruction of the plain run, and the machine's: writes of cells, arrays -/
theorem q_mapset {m j : Nat} {g g' : Nat → Value} {V : Value} (h : ∀ i, g' i = if i = j then V else g i) : ((List.range m).map g).set j V = (List.range m).map g' := by
  apply List.ext_getElem?
  intro i
  rw [List.getElem?_set, List.getElem?_map, List.getElem?_map, List.length_map, List.length_range]
  by_cases c : i < m
  · rw [List.getElem?_range c]
    by_cases a : j = i
    · subst a
      rw [if_pos rfl, if_pos c]
      show some V = some (g' j)
      rw [h, if_pos rfl]
    · rw [if_neg a]
      show some (g i) = some (g' i)
      rw [h, if_neg (fun q => a q.symm)]
  · rw [List.getElem?_eq_none (by rw [List.length_range]; omega)]
    by_cases a : j = i
    · rw [if_pos a, if_neg (show ¬ j < m by omega)]; rfl
    · rw [if_neg a]; rfl
theorem qty_0 {ty : FieldType} (h : qtyk ty 0 = true) : ty = .int := by
  cases ty <;> first | rfl | exact Bool.noConfusion h
theorem qty_3 {ty : FieldType} (h : qtyk ty 3 = true) : ty = .boolean := by
  cases ty <;> first | rfl | exact Bool.noConfusion h
theorem qty_2 {ty : FieldType} (h : qtyk ty 2 = true) : (∃ C, ty = .object C) ∨ ∃ t, ty = .array t := by
  cases ty <;> first | exact Or.inl ⟨_, rfl⟩ | exact Or.inr ⟨_, rfl⟩ | exact Bool.noConfusion h
theorem q_nf2 {ty : FieldType} (h : qtyk ty 2 = true) (r : Option Nat) : narrow ty (va_rf r) = va_rf r ∧ fits ty (va_rf r) = true := by
  rcases qty_2 h with ⟨C, rfl⟩ | ⟨t, rfl⟩ <;> cases r <;> exact ⟨rfl, rfl⟩
theorem q_b01 {v : Int} (h : 0 ≤ v ∧ v ≤ 1) : narrow .boolean (.int (Int32.ofInt v)) = .int (Int32.ofInt v) ∧ fits .boolean (.int (Int32.ofInt v)) = true := by
  rcases (show v = 0 ∨ v = 1 by omega) with rfl | rfl <;> exact ⟨by decide +kernel, by decide +kernel⟩
theorem q_vz {v : Int} (h : 0 ≤ v ∧ v ≤ 1) : vp_nar .boolean (Int32.ofInt v) = Int32.ofInt v := by
  rcases (show v = 0 ∨ v = 1 by omega) with rfl | rfl <;> decide +kernel
theorem q_vb {v : Int} (h : -128 ≤ v ∧ v ≤ 127) : vp_nar .byte (Int32.ofInt v) = Int32.ofInt v := by
  rw [vp_nar_byte, e_i2b]
  congr 1
  unfold qi2b; omega
section QP
variable {p : Program} {l : Launch} {e : Env} {R : Room} {s : State} {m : MethodId} {args : Array Value} {below : List Frame} {meth : Method} {c : Code} {Q : State → Prop}
variable {D : va_G} {A : Nat → Prop} {H0 : Heap} {sa : Nat → Nat} {sc : Option (Nat × (Nat → Int))} {k : Nat}
theorem q_putH {pc n i ci j kd fin m0 x0 cells slots : Nat} {p0 v : Int} {V : Value} {ad : Nat → Nat} {ac : Nat → ClassId} {w : qW} {arr : Array Slot} {rest : List Value} {H : Heap} {locs : List Loc} (F : qFx p s m args meth c A H0 sa sc k)
    (hd : decode (qby k) pc = .ok (.putfield i, 3)) (hq : qfd (qow k) i = some (ci, j, kd, fin)) (hpl : qpl p0.toNat = (0, ci, m0, x0)) (hf : fin = 0 ∨ qin k = true) (hp : 0 < p0 ∧ p0 ≤ n) (hV : qfv ad kd v = V) (hnar : narrow (qty ci j) V = V) (hfit : fits (qty ci j) V = true) (hrg : qrx kd n v)
    (hW : qWr D A s H ad ac w n) (hS : va_S A H0 H locs)
    (kk : ∀ (H1 : Heap) (locs1 : List Loc), qWr D A s H1 ad ac (qup w p0.toNat j v) n → va_S A H0 H1 locs1 → W p l e R s m args below meth c H1 locs1 cells slots Q (F0 m (pc + 3) arr rest)) :
    W p l e R s m args below meth c H locs cells slots Q (F0 m pc arr (V :: .ref (ad p0.toNat) :: rest)) := by
  obtain ⟨hx, hb, hml, hown, hts, hinit, hA, hsc, hst⟩ := F
  obtain ⟨g1, g2, g3, g4, g5, g6, g7⟩ := qF_in hq
  obtain ⟨y1, y2⟩ := qpl_o hpl
  subst y2
  have he := qws_at (ad := ad) (ac := ac) (w := w) (n := n) (p := p0.toNat) (by omega) (by omega)
  rw [qce_o hpl] at he
  have hset : (qws ad ac w n).set (p0.toNat - 1) (ad p0.toNat, .inr (ci, ((List.range (qNf ci)).map (fun j => qfv ad (qfk ci j) (w p0.toNat j))).set j V)) = qws ad ac (qup w p0.toNat j v) n := by
    refine qws_set (by omega) (by omega) (fun q hq => qup_ne hq) ?_
    rw [qce_o hpl]
    congr 2
    refine q_mapset (fun i => ?_)
    rw [qup_p]
    show qfv ad (qfk ci i) (if i = j then v else w p0.toNat i) = _
    by_cases a : i = j
    · rw [if_pos a, if_pos a, a, ← g4, hV]
    · rw [if_neg a, if_neg a]
  have hR := qup_rng (w := w) (n := n) (p := p0.toNat) (j := j) (v := v) hW.2.2.2.2 (by rw [qkd_o hpl, ← g4]; exact hrg)
  have hl : j < ((List.range (qNf ci)).map (fun j => qfv ad (qfk ci j) (w p0.toNat j))).length := by rw [List.length_map, List.length_range]; exact g2
  have KK : ∀ (H1 : Heap) (locs1 : List Loc), va_P D vwCl ((qws ad ac w n).set (p0.toNat - 1) (ad p0.toNat, .inr (ci, ((List.range (qNf ci)).map (fun j => qfv ad (qfk ci j) (w p0.toNat j))).set j V))) H1 → va_D A ((qws ad ac w n).set (p0.toNat - 1) (ad p0.toNat, .inr (ci, ((List.range (qNf ci)).map (fun j => qfv ad (qfk ci j) (w p0.toNat j))).set j V))) → va_S A H0 H1 locs1 → W p l e R s m args below meth c H1 locs1 cells slots Q (F0 m (pc + 3) arr rest) := fun H1 locs1 h1 h2 h3 => by
    rw [hset] at h1 h2
    exact kk H1 locs1 ⟨h1, h2, hW.2.2.1, hW.2.2.2.1, hR⟩ h3
  cases hfin : (qT ci j).2.2.2 with
  | false => exact va_put (D := D) (ci := ci) (C := qcn ci) (T := qT ci) (N := qNf ci) hx hb hts (qwT_in g1) (qty ci) (qty_ok g1) (qnm_ok g1) hown hW.2.2.1 hW.1 hW.2.1 hS (p0.toNat - 1) he (qcl_at g1) j g2 (hts _ g3) (fun _ h9 => h9) hfin (qty_ok g1 j g2) hnar hfit hl hd KK
  | true =>
    have h1 : fin = 1 := Nat.eq_of_beq_eq_true (by rw [← g6, hfin])
    have h2 : qin k = true := hf.resolve_left (by omega)
    exact va_putF (D := D) (ci := ci) (C := qcn ci) (T := qT ci) (N := qNf ci) hx hb hts (qwT_in g1) (qty ci) (qty_ok g1) (qnm_ok g1) hown hW.2.2.1 hW.1 hW.2.1 hS (p0.toNat - 1) he (qcl_at g1) j g2 (hts _ g3) (fun _ h9 => h9) hfin (hinit h2) (g7.resolve_left (by omega)) (qty_ok g1 j g2) hnar hfit hl hd KK
theorem q_putfield {i : Nat} (F : qFx p s m args meth c A H0 sa sc k) : qStep p l e R s m args below meth c Q D A H0 sa sc k (.putfield i) := by
  intro len pc ls st w n pc' ls' st' w' n' ad ac arr H locs cells slots hd ho h X hr kk
  have hlen : len = 3 := by simpa [qok, qlen] using ho
  subst hlen
  obtain ⟨hW, hL, hn, hs, hS⟩ := X
  simp only [qs1] at h
  split at h
  · rename_i ci j kd fin t v p0 r hq
    split at h
    · rename_i c0 m0 x0 hpl
      split at h
      · rename_i hc
        simp only [Bool.and_eq_true, Bool.or_eq_true] at hc
        obtain ⟨hc, hf⟩ := hc
        have hc := Nat.eq_of_beq_eq_true hc
        subst hc
        have hf : fin = 0 ∨ qin k = true := hf.imp Nat.eq_of_beq_eq_true id
        obtain ⟨g1, g2, g3, g4, g5, g6, g7⟩ := qF_in hq
        have hv9 := hs.h.2
        split at h
        · split at h
          · rename_i hp
            cases h
            have hty := qty_0 g5
            rw [List.map_cons, List.map_cons, qcv_ref hp.1]
            exact q_putH F hd hq hpl hf hp rfl (by rw [hty]; rfl) (by rw [hty]; rfl) hv9.i hW hS (fun H1 locs1 h1 h2 => kk ad ac arr H1 locs1 cells slots (fun _ _ => ⟨rfl, rfl⟩) rfl rfl ⟨h1, hL, hn, hs.t.t, h2⟩)
          · cases h
        · split at h
          · rename_i hp
            cases h
            rw [List.map_cons, List.map_cons, qcv_ref hp.1]
            exact q_putH F hd hq hpl hf hp rfl (q_nf2 g5 _).1 (q_nf2 g5 _).2 (hv9 (Nat.le_of_ble_eq_true rfl)) hW hS (fun H1 locs1 h1 h2 => kk ad ac arr H1 locs1 cells slots (fun _ _ => ⟨rfl, rfl⟩) rfl rfl ⟨h1, hL, hn, hs.t.t, h2⟩)
          · cases h
        · split at h
          · rename_i hp
            cases h
            have hty := qty_3 g5
            rw [List.map_cons, List.map_cons, qcv_ref hp.1.1]
            exact q_putH F hd hq hpl hf hp.1 rfl (by rw [hty]; exact (q_b01 hp.2).1) (by rw [hty]; exact (q_b01 hp.2).2) hv9.i hW hS (fun H1 locs1 h1 h2 => kk ad ac arr H1 locs1 cells slots (fun _ _ => ⟨rfl, rfl⟩) rfl rfl ⟨h1, hL, hn, hs.t.t, h2⟩)
          · cases h
        · cases h
      · cases h
    · cases h
  · cases h

theorem va_ald99 {D : va_G} {cl : List vw_C} {tys : List (ClassId × FieldType)} {ws : va_W} {H : Heap} {locs : List Loc} {cells slots pc a : Nat} {ls : Array Slot} {rest : List Value} {cc : ByteArray} (hexec : p.tables.exec = Jvm.exec) (hb : c.code = cc) (hK : va_K D cl tys s) (hP : va_P D cl ws H) (q0 t0 : Nat) {cA : ClassId} {e0 c0 n : Nat} {f : Nat → Option Nat} (ha : ws[q0]? = some (a, .inl (cA, n, .inr (.inr (.inr (.inr f)))))) (ht : tys[t0]? = some (cA, qet 2 c0)) {i : Int32} (hin : vp_in i n) (hdg : decode cc pc = .ok (.aaload, 1))
    (kk : W p l e R s m args below meth c H locs cells slots Q (F0 m (pc + 1) ls (va_rf (f i.toNatClampNeg) :: rest))) : W p l e R s m args below meth c H locs cells slots Q (F0 m pc ls (.int i :: .ref a :: rest)) := by
  have hlt : i.toNatClampNeg < n := Nat.not_le.mp fun q => hin (Or.inr q)
  have hty : qet 2 c0 = (if c0 = 99 then .array .long else .object (qcn c0)) := rfl
  rw [hty] at ht
  by_cases h9 : c0 = 99
  · rw [if_pos h9] at ht
    exact W.aald (v := va_rf (f i.toNatClampNeg)) (ty := .array .long) hexec hb (hP q0 _ ha) ((hK.2 t0 _ ht).1 n (fun j => va_rf (f j))) rfl (fun q => by cases q) (by show ¬ (i < 0 ∨ (arrV _ _ _).slots.size ≤ _); rw [arrV_size]; exact hin) (by show (arrV _ _ _).slots[_]? = _; rw [arrV_read _ _ hlt]) rfl rfl hdg kk
  · rw [if_neg h9] at ht
    exact va_aldq hexec hb hK hP q0 t0 ha ht hin hdg kk
theorem q_iaload (F : qFx p s m args meth c A H0 sa sc k) : qStep p l e R s m args below meth c Q D A H0 sa sc k (.iaload) := by
  intro len pc ls st w n pc' ls' st' w' n' ad ac arr H locs cells slots hd ho h X hr kk
  obtain ⟨hx, hb, hml, hown, hts, hinit, hA, hsc, hst⟩ := F
  have hlen : len = 1 := by simpa [qok, qlen] using ho
  subst hlen
  obtain ⟨hW, hL, hn, hs, hS⟩ := X
  simp only [qs1] at h
  split at h
  · rename_i i p0 r
    split at h
    · rename_i m0 x0 hpl
      split at h
      · rename_i hi
        split at h
        · rename_i hp
          cases h
          have he := qws_at (ad := ad) (ac := ac) (w := w) (n := n) (p := p0.toNat) (by omega) (by omega)
          rw [qce_a hpl] at he
          have hK := hW.2.2.2.1 p0.toNat _ _ _ (by omega) (by omega) hpl
          have hi9 := hs.h.2.i
          have hv := hW.2.2.2.2 p0.toNat (by omega) (by omega) i.toNat (by rw [hpl]; show i.toNat < m0; omega)
          rw [qkd_a hpl] at hv
          rw [List.map_cons, List.map_cons, qcv_ref hp.1]
          refine va_iald hx hb hK hW.1 (p0.toNat - 1) 0 he rfl (e_in hi9 hi.1 hi.2) hd ?_
          rw [e_cl hi9]
          exact kk ad ac arr H locs cells slots (fun _ _ => ⟨rfl, rfl⟩) rfl rfl ⟨hW, hL, hn, .cn (q4 rfl) (fun _ => hv) hs.t.t, hS⟩
        · cases h
      · cases h
    · cases h
  · rename_i i r
    split at h
    · rename_i L xs
      split at h
      · rename_i hi
        cases h
        obtain ⟨z1, z2, z3, z4, z5⟩ := hsc L xs rfl
        have hi9 := hs.h.2.i
        refine va_sld hx hb z1 z2 z3 hS (e_in hi9 hi.1 hi.2) hd ?_
        rw [e_cl hi9]
        exact kk ad ac arr H locs cells slots (fun _ _ => ⟨rfl, rfl⟩) rfl rfl ⟨hW, hL, hn, .cn (q4 rfl) (.mki (z5 _)) hs.t.t, hS⟩
      · cases h
    · cases h
  · cases h
theorem q_baload (F : qFx p s m args meth c A H0 sa sc k) : qStep p l e R s m args below meth c Q D A H0 sa sc k (.baload) := by
  intro len pc ls st w n pc' ls' st' w' n' ad ac arr H locs cells slots hd ho h X hr kk
  obtain ⟨hx, hb, hml, hown, hts, hinit, hA, hsc, hst⟩ := F
  have hlen : len = 1 := by simpa [qok, qlen] using ho
  subst hlen
  obtain ⟨hW, hL, hn, hs, hS⟩ := X
  simp only [qs1] at h
  split at h
  · rename_i i p0 r
    split at h
    · rename_i m0 x0 hpl
      split at h
      · rename_i hi
        split at h
        · rename_i hp
          cases h
          have he := qws_at (ad := ad) (ac := ac) (w := w) (n := n) (p := p0.toNat) (by omega) (by omega)
          rw [qce_a hpl] at he
          have hK := hW.2.2.2.1 p0.toNat _ _ _ (by omega) (by omega) hpl
          have hi9 := hs.h.2.i
          have hv := hW.2.2.2.2 p0.toNat (by omega) (by omega) i.toNat (by rw [hpl]; show i.toNat < m0; omega)
          rw [qkd_a hpl] at hv
          rw [List.map_cons, List.map_cons, qcv_ref hp.1]
          refine va_zald hx hb hK hW.1 (p0.toNat - 1) 0 he rfl (e_in hi9 hi.1 hi.2) hd ?_
          rw [e_cl hi9]
          exact kk ad ac arr H locs cells slots (fun _ _ => ⟨rfl, rfl⟩) rfl rfl ⟨hW, hL, hn, .cn (q4 rfl) (fun _ => hv) hs.t.t, hS⟩
        · cases h
      · cases h
    · rename_i m0 x0 hpl
      split at h
      · rename_i hi
        split at h
        · rename_i hp
          cases h
          have he := qws_at (ad := ad) (ac := ac) (w := w) (n := n) (p := p0.toNat) (by omega) (by omega)
          rw [qce_a hpl] at he
          have hK := hW.2.2.2.1 p0.toNat _ _ _ (by omega) (by omega) hpl
          have hi9 := hs.h.2.i
          have hv := hW.2.2.2.2 p0.toNat (by omega) (by omega) i.toNat (by rw [hpl]; show i.toNat < m0; omega)
          rw [qkd_a hpl] at hv
          rw [List.map_cons, List.map_cons, qcv_ref hp.1]
          refine va_bald hx hb hK hW.1 (p0.toNat - 1) 0 he rfl (e_in hi9 hi.1 hi.2) hd ?_
          rw [e_cl hi9]
          exact kk ad ac arr H locs cells slots (fun _ _ => ⟨rfl, rfl⟩) rfl rfl ⟨hW, hL, hn, .cn (q4 rfl) (fun _ => hv) hs.t.t, hS⟩
        · cases h
      · cases h
    · cases h
  · cases h
theorem q_laload (F : qFx p s m args meth c A H0 sa sc k) : qStep p l e R s m args below meth c Q D A H0 sa sc k (.laload) := by
  intro len pc ls st w n pc' ls' st' w' n' ad ac arr H locs cells slots hd ho h X hr kk
  obtain ⟨hx, hb, hml, hown, hts, hinit, hA, hsc, hst⟩ := F
  have hlen : len = 1 := by simpa [qok, qlen] using ho
  subst hlen
  obtain ⟨hW, hL, hn, hs, hS⟩ := X
  simp only [qs1] at h
  split at h
  · rename_i i p0 r
    split at h
    · rename_i m0 x0 hpl
      split at h
      · rename_i hi
        split at h
        · rename_i hp
          cases h
          have he := qws_at (ad := ad) (ac := ac) (w := w) (n := n) (p := p0.toNat) (by omega) (by omega)
          rw [qce_a hpl] at he
          have hK := hW.2.2.2.1 p0.toNat _ _ _ (by omega) (by omega) hpl
          have hi9 := hs.h.2.i
          have hv := hW.2.2.2.2 p0.toNat (by omega) (by omega) i.toNat (by rw [hpl]; show i.toNat < m0; omega)
          rw [qkd_a hpl] at hv
          rw [List.map_cons, List.map_cons, qcv_ref hp.1]
          refine va_lald hx hb hK hW.1 (p0.toNat - 1) 0 he rfl (e_in hi9 hi.1 hi.2) hd ?_
          rw [e_cl hi9]
          exact kk ad ac arr H locs cells slots (fun _ _ => ⟨rfl, rfl⟩) rfl rfl ⟨hW, hL, hn, .cn (q4 rfl) (fun _ => hv) hs.t.t, hS⟩
        · cases h
      · cases h
    · cases h
  · cases h
theorem q_aaload (F : qFx p s m args meth c A H0 sa sc k) : qStep p l e R s m args below meth c Q D A H0 sa sc k (.aaload) := by
  intro len pc ls st w n pc' ls' st' w' n' ad ac arr H locs cells slots hd ho h X hr kk
  obtain ⟨hx, hb, hml, hown, hts, hinit, hA, hsc, hst⟩ := F
  have hlen : len = 1 := by simpa [qok, qlen] using ho
  subst hlen
  obtain ⟨hW, hL, hn, hs, hS⟩ := X
  simp only [qs1] at h
  split at h
  · rename_i i p0 r
    split at h
    · rename_i m0 x0 hpl
      split at h
      · rename_i hi
        split at h
        · rename_i hp
          cases h
          have he := qws_at (ad := ad) (ac := ac) (w := w) (n := n) (p := p0.toNat) (by omega) (by omega)
          rw [qce_a hpl] at he
          have hK := hW.2.2.2.1 p0.toNat _ _ _ (by omega) (by omega) hpl
          have hi9 := hs.h.2.i
          have hv := hW.2.2.2.2 p0.toNat (by omega) (by omega) i.toNat (by rw [hpl]; show i.toNat < m0; omega)
          rw [qkd_a hpl] at hv
          rw [List.map_cons, List.map_cons, qcv_ref hp.1]
          refine va_ald99 (e0 := 2) (c0 := x0) hx hb hK hW.1 (p0.toNat - 1) 0 he rfl (e_in hi9 hi.1 hi.2) hd ?_
          rw [e_cl hi9]
          exact kk ad ac arr H locs cells slots (fun _ _ => ⟨rfl, rfl⟩) rfl rfl ⟨hW, hL, hn, .cn (q4 rfl) (fun _ => hv) hs.t.t, hS⟩
        · cases h
      · cases h
    · cases h
  · cases h
theorem q_iastore (F : qFx p s m args meth c A H0 sa sc k) : qStep p l e R s m args below meth c Q D A H0 sa sc k (.iastore) := by
  intro len pc ls st w n pc' ls' st' w' n' ad ac arr H locs cells slots hd ho h X hr kk
  obtain ⟨hx, hb, hml, hown, hts, hinit, hA, hsc, hst⟩ := F
  have hlen : len = 1 := by simpa [qok, qlen] using ho
  subst hlen
  obtain ⟨hW, hL, hn, hs, hS⟩ := X
  simp only [qs1] at h
  split at h
  · rename_i v i p0 r
    split at h
    · rename_i m0 x0 hpl
      split at h
      · rename_i hi
        split at h
        · rename_i hp
          cases h
          have he := qws_at (ad := ad) (ac := ac) (w := w) (n := n) (p := p0.toNat) (by omega) (by omega)
          rw [qce_a hpl] at he
          have hK := hW.2.2.2.1 p0.toNat _ _ _ (by omega) (by omega) hpl
          have hi9 := hs.t.h.2.i
          have hv9 := hs.h.2
          rw [List.map_cons, List.map_cons, List.map_cons, qcv_ref hp.1]
          refine va_iast hx hb hK hW.1 hW.2.1 hS (p0.toNat - 1) 0 he rfl (e_in hi9 hi.1 hi.2) hd (fun H1 locs1 h1 h2 h3 => ?_)
          rw [e_cl hi9] at h1 h2
          have hset : (qws ad ac w n).set (p0.toNat - 1) (ad p0.toNat, .inl (ac p0.toNat, m0, .inl (upd (fun j => Int32.ofInt (w p0.toNat j)) i.toNat (Int32.ofInt v)))) = qws ad ac (qup w p0.toNat i.toNat v) n := by
            refine qws_set (by omega) (by omega) (fun q hq => qup_ne hq) ?_
            rw [qce_a hpl, qup_p]
            congr 3
            unfold qca
            congr 1
            funext j
            unfold upd
            dsimp only
            by_cases a : j = i.toNat
            · rw [if_pos a, if_pos a]
            · rw [if_neg a, if_neg a]
          rw [hset] at h1 h2
          exact kk ad ac arr H1 locs1 cells slots (fun _ _ => ⟨rfl, rfl⟩) rfl rfl ⟨⟨h1, h2, hW.2.2.1, hW.2.2.2.1, qup_rng hW.2.2.2.2 (by rw [qkd_a hpl]; exact hv9.i)⟩, hL, hn, hs.t.t.t, h3⟩
        · cases h
      · cases h
    · cases h
  · cases h
theorem q_bastore (F : qFx p s m args meth c A H0 sa sc k) : qStep p l e R s m args below meth c Q D A H0 sa sc k (.bastore) := by
  intro len pc ls st w n pc' ls' st' w' n' ad ac arr H locs cells slots hd ho h X hr kk
  obtain ⟨hx, hb, hml, hown, hts, hinit, hA, hsc, hst⟩ := F
  have hlen : len = 1 := by simpa [qok, qlen] using ho
  subst hlen
  obtain ⟨hW, hL, hn, hs, hS⟩ := X
  simp only [qs1] at h
  split at h
  · rename_i v i p0 r
    split at h
    · rename_i m0 x0 hpl
      split at h
      · rename_i hi
        split at h
        · rename_i hp
          cases h
          have he := qws_at (ad := ad) (ac := ac) (w := w) (n := n) (p := p0.toNat) (by omega) (by omega)
          rw [qce_a hpl] at he
          have hK := hW.2.2.2.1 p0.toNat _ _ _ (by omega) (by omega) hpl
          have hi9 := hs.t.h.2.i
          have hv9 := hs.h.2
          rw [List.map_cons, List.map_cons, List.map_cons, qcv_ref hp.1]
          refine va_zast hx hb hK hW.1 hW.2.1 hS (p0.toNat - 1) 0 he rfl (e_in hi9 hi.1.1 hi.1.2) hd (fun H1 locs1 h1 h2 h3 => ?_)
          rw [q_vz hi.2, e_cl hi9] at h1 h2
          have hset : (qws ad ac w n).set (p0.toNat - 1) (ad p0.toNat, .inl (ac p0.toNat, m0, .inl (upd (fun j => Int32.ofInt (w p0.toNat j)) i.toNat (Int32.ofInt v)))) = qws ad ac (qup w p0.toNat i.toNat v) n := by
            refine qws_set (by omega) (by omega) (fun q hq => qup_ne hq) ?_
            rw [qce_a hpl, qup_p]
            congr 3
            unfold qca
            congr 1
            funext j
            unfold upd
            dsimp only
            by_cases a : j = i.toNat
            · rw [if_pos a, if_pos a]
            · rw [if_neg a, if_neg a]
          rw [hset] at h1 h2
          exact kk ad ac arr H1 locs1 cells slots (fun _ _ => ⟨rfl, rfl⟩) rfl rfl ⟨⟨h1, h2, hW.2.2.1, hW.2.2.2.1, qup_rng hW.2.2.2.2 (by rw [qkd_a hpl]; exact hv9.i)⟩, hL, hn, hs.t.t.t, h3⟩
        · cases h
      · cases h
    · rename_i m0 x0 hpl
      split at h
      · rename_i hi
        split at h
        · rename_i hp
          cases h
          have he := qws_at (ad := ad) (ac := ac) (w := w) (n := n) (p := p0.toNat) (by omega) (by omega)
          rw [qce_a hpl] at he
          have hK := hW.2.2.2.1 p0.toNat _ _ _ (by omega) (by omega) hpl
          have hi9 := hs.t.h.2.i
          have hv9 := hs.h.2
          rw [List.map_cons, List.map_cons, List.map_cons, qcv_ref hp.1]
          refine va_bast hx hb hK hW.1 hW.2.1 hS (p0.toNat - 1) 0 he rfl (e_in hi9 hi.1.1 hi.1.2) hd (fun H1 locs1 h1 h2 h3 => ?_)
          rw [q_vb hi.2, e_cl hi9] at h1 h2
          have hset : (qws ad ac w n).set (p0.toNat - 1) (ad p0.toNat, .inl (ac p0.toNat, m0, .inl (upd (fun j => Int32.ofInt (w p0.toNat j)) i.toNat (Int32.ofInt v)))) = qws ad ac (qup w p0.toNat i.toNat v) n := by
            refine qws_set (by omega) (by omega) (fun q hq => qup_ne hq) ?_
            rw [qce_a hpl, qup_p]
            congr 3
            unfold qca
            congr 1
            funext j
            unfold upd
            dsimp only
            by_cases a : j = i.toNat
            · rw [if_pos a, if_pos a]
            · rw [if_neg a, if_neg a]
          rw [hset] at h1 h2
          exact kk ad ac arr H1 locs1 cells slots (fun _ _ => ⟨rfl, rfl⟩) rfl rfl ⟨⟨h1, h2, hW.2.2.1, hW.2.2.2.1, qup_rng hW.2.2.2.2 (by rw [qkd_a hpl]; exact hv9.i)⟩, hL, hn, hs.t.t.t, h3⟩
        · cases h
      · cases h
    · cases h
  · cases h
theorem q_lastore (F : qFx p s m args meth c A H0 sa sc k) : qStep p l e R s m args below meth c Q D A H0 sa sc k (.lastore) := by
  intro len pc ls st w n pc' ls' st' w' n' ad ac arr H locs cells slots hd ho h X hr kk
  obtain ⟨hx, hb, hml, hown, hts, hinit, hA, hsc, hst⟩ := F
  have hlen : len = 1 := by simpa [qok, qlen] using ho
  subst hlen
  obtain ⟨hW, hL, hn, hs, hS⟩ := X
  simp only [qs1] at h
  split at h
  · rename_i v i p0 r
    split at h
    · rename_i m0 x0 hpl
      split at h
      · rename_i hi
        split at h
        · rename_i hp
          cases h
          have he := qws_at (ad := ad) (ac := ac) (w := w) (n := n) (p := p0.toNat) (by omega) (by omega)
          rw [qce_a hpl] at he
          have hK := hW.2.2.2.1 p0.toNat _ _ _ (by omega) (by omega) hpl
          have hi9 := hs.t.h.2.i
          have hv9 := hs.h.2
          rw [List.map_cons, List.map_cons, List.map_cons, qcv_ref hp.1]
          refine va_last hx hb hK hW.1 hW.2.1 hS (p0.toNat - 1) 0 he rfl (e_in hi9 hi.1 hi.2) hd (fun H1 locs1 h1 h2 h3 => ?_)
          rw [e_cl hi9] at h1 h2
          have hset : (qws ad ac w n).set (p0.toNat - 1) (ad p0.toNat, .inl (ac p0.toNat, m0, .inr (.inl (vp_updL (fun j => Int64.ofInt (w p0.toNat j)) i.toNat (Int64.ofInt v))))) = qws ad ac (qup w p0.toNat i.toNat v) n := by
            refine qws_set (by omega) (by omega) (fun q hq => qup_ne hq) ?_
            rw [qce_a hpl, qup_p]
            congr 3
            unfold qca
            congr 1
            congr 1
            funext j
            unfold vp_updL
            dsimp only
            by_cases a : j = i.toNat
            · rw [if_pos a, if_pos a]
            · rw [if_neg a, if_neg a]
          rw [hset] at h1 h2
          exact kk ad ac arr H1 locs1 cells slots (fun _ _ => ⟨rfl, rfl⟩) rfl rfl ⟨⟨h1, h2, hW.2.2.1, hW.2.2.2.1, qup_rng hW.2.2.2.2 (by rw [qkd_a hpl]; exact hv9.lg)⟩, hL, hn, hs.t.t.t, h3⟩
        · cases h
      · cases h
    · cases h
  · cases h
theorem q_aastore (F : qFx p s m args meth c A H0 sa sc k) : qStep p l e R s m args below meth c Q D A H0 sa sc k (.aastore) := by
  intro len pc ls st w n pc' ls' st' w' n' ad ac arr H locs cells slots hd ho h X hr kk
  obtain ⟨hx, hb, hml, hown, hts, hinit, hA, hsc, hst⟩ := F
  have hlen : len = 1 := by simpa [qok, qlen] using ho
  subst hlen
  obtain ⟨hW, hL, hn, hs, hS⟩ := X
  simp only [qs1] at h
  split at h
  · rename_i v i p0 r
    split at h
    · rename_i m0 c0 ci m1 x1 hpl hpv
      split at h
      · rename_i hc
        have hc := Nat.eq_of_beq_eq_true hc
        subst hc
        split at h
        · rename_i hi
          split at h
          · rename_i hp
            cases h
            obtain ⟨y1, y2⟩ := qpl_o hpv
            have he := qws_at (ad := ad) (ac := ac) (w := w) (n := n) (p := p0.toNat) (by omega) (by omega)
            rw [qce_a hpl] at he
            have he2 := qws_at (ad := ad) (ac := ac) (w := w) (n := n) (p := v.toNat) (by omega) (by omega)
            rw [qce_o hpv] at he2
            have hK := hW.2.2.2.1 p0.toNat _ _ _ (by omega) (by omega) hpl
            have hty : qet 2 c0 = .object (qcn c0) := by
              show (if c0 = 99 then _ else _) = _
              rw [if_neg (by omega)]
            rw [hty] at hK
            have hi9 := hs.t.h.2.i
            rw [List.map_cons, List.map_cons, List.map_cons, qcv_ref hp.1.1, qcv_ref hp.2.1]
            refine va_astq (r := (qcn c0, qT c0, qNf c0)) hx hb hK hW.1 hW.2.1 hS (p0.toNat - 1) 0 (v.toNat - 1) c0 he rfl he2 (qcl_at y1) (e_in hi9 hi.1 hi.2) hd (fun H1 locs1 h1 h2 h3 => ?_)
            rw [e_cl hi9] at h1 h2
            have hset : (qws ad ac w n).set (p0.toNat - 1) (ad p0.toNat, .inl (ac p0.toNat, m0, .inr (.inr (.inr (.inr (va_up (fun j => qrf ad (w p0.toNat j)) i.toNat (some (ad v.toNat)))))))) = qws ad ac (qup w p0.toNat i.toNat v) n := by
              refine qws_set (by omega) (by omega) (fun q hq => qup_ne hq) ?_
              rw [qce_a hpl, qup_p]
              congr 3
              unfold qca
              congr 4
              funext j
              unfold va_up
              dsimp only
              by_cases a : j = i.toNat
              · rw [if_pos a, if_pos a]
                unfold qrf
                rw [if_neg (by omega)]
              · rw [if_neg a, if_neg a]
            rw [hset] at h1 h2
            exact kk ad ac arr H1 locs1 cells slots (fun _ _ => ⟨rfl, rfl⟩) rfl rfl ⟨⟨h1, h2, hW.2.2.1, hW.2.2.2.1, qup_rng hW.2.2.2.2 (by rw [qkd_a hpl]; exact hs.h.2 (Nat.le_of_ble_eq_true rfl))⟩, hL, hn, hs.t.t.t, h3⟩
          · cases h
        · cases h
      · cases h
    · cases h
  · cases h
theorem q_arraylength (F : qFx p s m args meth c A H0 sa sc k) : qStep p l e R s m args below meth c Q D A H0 sa sc k (.arraylength) := by
  intro len pc ls st w n pc' ls' st' w' n' ad ac arr H locs cells slots hd ho h X hr kk
  obtain ⟨hx, hb, hml, hown, hts, hinit, hA, hsc, hst⟩ := F
  have hlen : len = 1 := by simpa [qok, qlen] using ho
  subst hlen
  obtain ⟨hW, hL, hn, hs, hS⟩ := X
  simp only [qs1] at h
  split at h
  · rename_i p0 r
    split at h
    · rename_i e0 m0 x0 hpl
      split at h
      · rename_i hp
        cases h
        have he := qws_at (ad := ad) (ac := ac) (w := w) (n := n) (p := p0.toNat) (by omega) (by omega)
        rw [qce_a hpl] at he
        have hK := hW.2.2.2.1 p0.toNat _ _ _ (by omega) (by omega) hpl
        have hm := (qpl_a hpl).2.1
        rw [List.map_cons, qcv_ref hp.1]
        exact va_alen hx hb hK hW.1 (p0.toNat - 1) 0 he rfl (e_nat (show m0 < 2147483648 by omega)).symm hd (kk ad ac arr H locs cells slots (fun _ _ => ⟨rfl, rfl⟩) rfl rfl ⟨hW, hL, hn, .cn (q4 rfl) (.mki ⟨by omega, by omega⟩) hs.t, hS⟩)
      · cases h
    · cases h
  · rename_i r
    split at h
    · rename_i L xs
      cases h
      obtain ⟨z1, z2, z3, z4, z5⟩ := hsc L xs rfl
      refine va_slen hx hb z1 z2 z3 hS hd ?_
      rw [← e_nat z4]
      exact kk ad ac arr H locs cells slots (fun _ _ => ⟨rfl, rfl⟩) rfl rfl ⟨hW, hL, hn, .cn (q4 rfl) (.mki ⟨by omega, by omega⟩) hs.t, hS⟩
    · cases h
  · cases h
end QP
end
section
/-! one instruction of the plain run, and the machine's: what makes cells -/
theorem arrV_cg (c : ClassId) (K : Nat) {f g : Nat → Value} (h : ∀ j, j < K → f j = g j) : arrV c K f = arrV c K g := by
  unfold arrV
  congr 1
  exact congrArg Array.ofFn (funext fun j => h j.val j.isLt)
theorem qrf_cg {ad ad' : Nat → Nat} {n : Nat} {x : Int} (ha : ∀ i, i ≤ n → ad' i = ad i) (hx : 0 ≤ x ∧ x ≤ n) : qrf ad' x = qrf ad x := by
  unfold qrf
  rw [ha x.toNat (by omega)]
theorem qfv_cg {ad ad' : Nat → Nat} {n kd : Nat} {x : Int} (ha : ∀ i, i ≤ n → ad' i = ad i) (hx : qrx kd n x) : qfv ad' kd x = qfv ad kd x := by
  unfold qfv
  split
  · rfl
  · rw [qrf_cg ha hx]
  · rfl
theorem qca_cg {ad ad' : Nat → Nat} {n e m : Nat} {f : Nat → Int} (c : ClassId) (ha : ∀ i, i ≤ n → ad' i = ad i) (h : e = 2 → ∀ j, j < m → 0 ≤ f j ∧ f j ≤ n) : vp_cell c (m, qca ad' e f) = vp_cell c (m, qca ad e f) := by
  by_cases he : e = 2
  · subst he
    show vp_cell c (m, .inr (.inr (.inr (.inr (fun j => qrf ad' (f j)))))) = vp_cell c (m, .inr (.inr (.inr (.inr (fun j => qrf ad (f j))))))
    rw [vp_cell_q, vp_cell_q]
    exact arrV_cg _ _ (fun j hj => by rw [qrf_cg ha (h rfl j hj)])
  · unfold qca
    split
    · rfl
    · exact absurd rfl he
    · rfl
theorem qce_t {ad : Nat → Nat} {ac : Nat → ClassId} {w : qW} {p t e m c : Nat} (ht : t ≠ 0) (h : qpl p = (t, e, m, c)) : qce ad ac w p = .inl (ac p, m, qca ad e (w p)) := by
  unfold qce; rw [h]
  split
  · rename_i h9; cases h9; exact absurd rfl ht
  · rename_i h9; cases h9; rfl
theorem qkd_t {p t e m c j : Nat} (ht : t ≠ 0) (h : qpl p = (t, e, m, c)) : qkd p j = e := by
  unfold qkd; rw [h]
  split
  · rename_i h9; cases h9; exact absurd rfl ht
  · rename_i h9; cases h9; rfl
theorem q_atcg {D : va_G} {H : Heap} {a p n : Nat} {ad ad' : Nat → Nat} {ac ac' : Nat → ClassId} {w w' : qW} (hr : ∀ j, j < (qpl p).2.2.1 → qrx (qkd p j) n (w p j)) (ha : ∀ i, i ≤ n → ad' i = ad i) (hc : ac' p = ac p) (hw : w' p = w p) (h : va_at D vwCl (a, qce ad ac w p) H) : va_at D vwCl (a, qce ad' ac' w' p) H := by
  rcases hq : qpl p with ⟨t, e, m, x⟩
  by_cases ht : t = 0
  · subst ht
    rw [qce_o hq] at h ⊢
    have e9 : (List.range m).map (fun j => qfv ad' (qfk e j) (w' p j)) = (List.range m).map (fun j => qfv ad (qfk e j) (w p j)) := by
      apply List.map_congr_left
      intro j hj
      rw [hw]
      refine qfv_cg ha ?_
      have := hr j (by rw [hq]; exact List.mem_range.mp hj)
      rwa [qkd_o hq] at this
    rw [e9]; exact h
  · rw [qce_t ht hq] at h ⊢
    show H[a]? = some (vp_cell (ac' p) (m, qca ad' e (w' p)))
    rw [hc, hw, qca_cg (ac p) ha (fun he j hj => ?_)]
    · exact h
    · have := hr j (by rw [hq]; exact hj)
      rw [qkd_t ht hq, he] at this
      exact this
theorem qws_inv {ad : Nat → Nat} {ac : Nat → ClassId} {w : qW} {n k : Nat} {q : Nat × va_E} (h : (qws ad ac w n)[k]? = some q) : k < n ∧ q = (ad (k + 1), qce ad ac w (k + 1)) := by
  by_cases c : k < n
  · have := qws_at (ad := ad) (ac := ac) (w := w) (n := n) (p := k + 1) (by omega) (by omega)
    rw [show k + 1 - 1 = k by omega, h] at this
    exact ⟨c, Option.some.inj this⟩
  · rw [qws_none (by omega)] at h; cases h
theorem qP_of {D : va_G} {H : Heap} {ad : Nat → Nat} {ac : Nat → ClassId} {w : qW} {n : Nat} (h : ∀ p, 0 < p → p ≤ n → va_at D vwCl (ad p, qce ad ac w p) H) : va_P D vwCl (qws ad ac w n) H := by
  intro k q hk
  obtain ⟨h1, rfl⟩ := qws_inv hk
  exact h (k + 1) (by omega) (by omega)
theorem qP_at {D : va_G} {H : Heap} {ad : Nat → Nat} {ac : Nat → ClassId} {w : qW} {n p : Nat} {X : va_W} (h : va_P D vwCl (qws ad ac w n ++ X) H) (h0 : 0 < p) (h1 : p ≤ n) : va_at D vwCl (ad p, qce ad ac w p) H := by
  refine h (p - 1) _ ?_
  rw [List.getElem?_append_left (by rw [qws_len]; omega)]
  exact qws_at h0 h1
theorem va_D_fst {A : Nat → Prop} {ws ws' : va_W} (h : ws'.map Prod.fst = ws.map Prod.fst) (hD : va_D A ws) : va_D A ws' := by
  have key : ∀ (i : Nat) (p : Nat × va_E), ws'[i]? = some p → ∃ q, ws[i]? = some q ∧ q.1 = p.1 := by
    intro i p hp
    have h1 : (ws'.map Prod.fst)[i]? = some p.1 := by rw [List.getElem?_map, hp]; rfl
    rw [h, List.getElem?_map] at h1
    cases hq : ws[i]? with
    | none => rw [hq] at h1; cases h1
    | some q =>
      rw [hq] at h1
      exact ⟨q, rfl, Option.some.inj h1⟩
  refine ⟨fun i j p q hp hq e => ?_, fun k q hq => ?_⟩
  · obtain ⟨p', hp', e1⟩ := key i p hp
    obtain ⟨q', hq', e2⟩ := key j q hq
    exact hD.1 i j p' q' hp' hq' (by rw [e1, e2, e])
  · obtain ⟨q', hq', e2⟩ := key k q hq
    rw [← e2]; exact hD.2 k q' hq'
theorem qws_fst {ad : Nat → Nat} {ac : Nat → ClassId} {w : qW} {n : Nat} : (qws ad ac w n).map Prod.fst = (List.range n).map (fun i => ad (i + 1)) := by
  unfold qws; rw [List.map_map]; rfl
theorem qrx_mono {kd n n' : Nat} {x : Int} (hn : n ≤ n') (h : qrx kd n x) : qrx kd n' x := by
  unfold qrx at h ⊢
  split at h
  · exact h
  · exact ⟨h.1, by have := h.2; omega⟩
  · exact h
theorem qrg_mono {n n' : Nat} {v : qV} (hn : n ≤ n') (h : qrg n v) : qrg n' v := fun h3 => qrx_mono hn (h h3)
theorem qcv_cg {ad ad' sa : Nat → Nat} {n : Nat} {v : qV} (ha : ∀ i, i ≤ n → ad' i = ad i) (h : qrg n v) : qcv ad' sa v = qcv ad sa v := by
  obtain ⟨t, x⟩ := v
  match t, h with
  | 0, _ => rfl
  | 1, _ => rfl
  | 2, h => show va_rf (qrf ad' x) = va_rf (qrf ad x); rw [qrf_cg ha (h (Nat.le_of_ble_eq_true rfl))]
  | _ + 3, _ => rfl
theorem qLr.up {ad ad' sa : Nat → Nat} {n n' : Nat} {ls : List qV} {arr : Array Slot} (h : qLr ad sa n ls arr) (ha : ∀ i, i ≤ n → ad' i = ad i) (hn : n ≤ n') : qLr ad' sa n' ls arr :=
  ⟨h.1, fun i hi => by rw [qcv_cg ha (h.2.2 i)]; exact h.2.1 i hi, fun i => qrg_mono hn (h.2.2 i)⟩
theorem qSr.up {n n' : Nat} {st : List qV} (h : qSr n st) (hn : n ≤ n') : qSr n' st := fun v hv => ⟨(h v hv).1, qrg_mono hn (h v hv).2⟩
theorem q_stk {ad ad' sa : Nat → Nat} {n : Nat} {st : List qV} (h : qSr n st) (ha : ∀ i, i ≤ n → ad' i = ad i) : st.map (qcv ad' sa) = st.map (qcv ad sa) :=
  List.map_congr_left fun v hv => qcv_cg ha (h v hv).2
theorem qSz_s (n : Nat) : qSz (n + 1) = qSz n + (qpl (n + 1)).2.2.1 := by
  unfold qSz
  rw [List.range_succ, List.map_append, List.sum_append]
  simp
theorem va_up_at {α : Type} (f : Nat → α) (k : Nat) (v : α) : va_up f k v k = v := if_pos rfl
theorem va_up_ne9 {α : Type} (f : Nat → α) {k j : Nat} (v : α) (h : j ≠ k) : va_up f k v j = f j := if_neg h
/-- one cell more -/
theorem q_grow {D : va_G} {A : Nat → Prop} {s : State} {H H1 : Heap} {n q : Nat} {cA : ClassId} {x : va_E} {ad : Nat → Nat} {ac : Nat → ClassId} {w w' : qW} (hW : qWr D A s H ad ac w n)
    (hP : va_P D vwCl (qws ad ac w n ++ [(q, x)]) H1) (hD : va_D A (qws ad ac w n ++ [(q, x)])) (hw : ∀ p, p ≤ n → w' p = w p)
    (hx : va_at D vwCl (q, x) H1 → va_at D vwCl (q, qce (va_up ad (n + 1) q) (va_up ac (n + 1) cA) w' (n + 1)) H1)
    (hK : ∀ e m c, qpl (n + 1) = (1, e, m, c) → va_K D vwCl [(cA, qet e c)] s) (hr : ∀ j, j < (qpl (n + 1)).2.2.1 → qrx (qkd (n + 1) j) (n + 1) (w' (n + 1) j)) :
    qWr D A s H1 (va_up ad (n + 1) q) (va_up ac (n + 1) cA) w' (n + 1) := by
  have ha : ∀ i, i ≤ n → va_up ad (n + 1) q i = ad i := fun i hi => va_up_ne9 _ _ (by omega)
  refine ⟨qP_of fun p h0 h1 => ?_, va_D_fst ?_ hD, hW.2.2.1, fun p e m c h0 h1 hq => ?_, fun p h0 h1 j hj => ?_⟩
  · by_cases hp : p = n + 1
    · subst hp
      rw [va_up_at]
      refine hx (hP n _ ?_)
      rw [List.getElem?_append_right (by rw [qws_len]; omega), qws_len, Nat.sub_self]; rfl
    · rw [ha p (by omega)]
      exact q_atcg (hW.2.2.2.2 p h0 (by omega)) ha (va_up_ne9 _ _ hp) (hw p (by omega)) (qP_at hP h0 (by omega))
  · rw [qws_fst, List.map_append, qws_fst, List.range_succ, List.map_append]
    congr 1
    · apply List.map_congr_left
      intro i hi
      have := List.mem_range.mp hi
      exact ha (i + 1) (by omega)
    · show [va_up ad (n + 1) q (n + 1)] = [q]
      rw [va_up_at]
  · by_cases hp : p = n + 1
    · subst hp
      rw [va_up_at]
      exact hK e m c hq
    · rw [va_up_ne9 _ _ hp]
      exact hW.2.2.2.1 p e m c h0 (by omega) hq
  · by_cases hp : p = n + 1
    · subst hp
      exact hr j hj
    · rw [hw p (by omega)]
      exact qrx_mono (by omega) (hW.2.2.2.2 p h0 (by omega) j hj)
theorem qclr_lo {w : qW} {a p : Nat} (h : p < a) : qclr w a p = w p := by
  unfold qclr
  cases hb : Nat.ble a p
  · rfl
  · exact absurd (Nat.le_of_ble_eq_true hb) (by omega)
theorem qclr_hi {w : qW} {a p : Nat} (h : a ≤ p) : qclr w a p = fun _ => 0 := by
  unfold qclr
  rw [Nat.ble_eq_true_of_le h]; rfl
theorem qrx_0 (kd n : Nat) : qrx kd n 0 := by
  unfold qrx
  split
  · exact ⟨by decide, by decide⟩
  · exact ⟨by omega, by omega⟩
  · exact ⟨by decide, by decide⟩
noncomputable def qckY (c : Nat) : Bool := (List.range (qNf c)).all (fun j => qtyk (qty c j) (qfk c j))
theorem qckY_all : (List.range 13).all qckY = true := by decide +kernel
theorem qY_ok {c j : Nat} (h : c < 13) (hj : j < qNf c) : qtyk (qty c j) (qfk c j) = true :=
  List.all_eq_true.mp (List.all_eq_true.mp qckY_all c (List.mem_range.mpr h)) j (List.mem_range.mpr hj)
theorem q_dv {ty : FieldType} {kd : Nat} (ad : Nat → Nat) (h : qtyk ty kd = true) : defaultValue ty = qfv ad kd 0 := by
  match kd, h with
  | 0, h => rw [qty_0 h]; rfl
  | 1, h => cases ty <;> first | rfl | exact Bool.noConfusion h
  | 2, h => rcases qty_2 h with ⟨C, rfl⟩ | ⟨t, rfl⟩ <;> rfl
  | 3, h => rw [qty_3 h]; rfl
  | _ + 4, h => cases ty <;> exact Bool.noConfusion h
theorem qC_in {o i ci : Nat} (h : qcl o i = some ci) (h9 : ci ≠ 99) : Cond.classLink (qcn o) i (qcn ci) ∈ qAL ∧ Cond.instantiable (qcn ci) (qNf ci) ∈ qAL ∧ Cond.initialized (qcn ci) ∈ qAL := by
  obtain ⟨h1, h2⟩ := qcl_bd h
  have hc := qall_of qckC_all h1 h2
  unfold qckC at hc
  rw [h] at hc
  replace hc : (if ci = 99 then qwd1 (qcp o i) (.classLink (qcn o) i ("[" ++ (FieldType.array .long).toString)) else Nat.blt ci 13 && qwd1 (qcp o i) (.classLink (qcn o) i (qcn ci)) && qwd1 (qpN ci) (.instantiable (qcn ci) (qNf ci)) && qwd1 (qpJ ci) (.initialized (qcn ci))) = true := hc
  rw [if_neg h9] at hc
  simp only [Bool.and_eq_true] at hc
  exact ⟨qwd1_in hc.1.1.2, qwd1_in hc.1.2, qwd1_in hc.2⟩
theorem qC_99 {o i : Nat} (h : qcl o i = some 99) : Cond.classLink (qcn o) i ("[" ++ (FieldType.array .long).toString) ∈ qAL := by
  obtain ⟨h1, h2⟩ := qcl_bd h
  have hc := qall_of qckC_all h1 h2
  unfold qckC at hc
  rw [h] at hc
  exact qwd1_in hc
noncomputable def qckR (p : Nat) : Bool := match qpl p with
  | (1, 2, m, c) => (Nat.beq c 2 || Nat.beq c 7 || (Nat.beq c 99 && Nat.ble 30 p && Nat.beq m 5))
  | _ => true
theorem qckR_all : (List.range 143).all qckR = true := by decide +kernel
theorem qpl_r {p m c : Nat} (h : qpl p = (1, 2, m, c)) : c = 2 ∨ c = 7 ∨ (c = 99 ∧ 30 ≤ p ∧ m = 5) := by
  have hc : qckR p = true := by
    by_cases h9 : p < 143
    · exact List.all_eq_true.mp qckR_all p (List.mem_range.mpr h9)
    · have hb : Nat.blt p 143 = false := by
        cases hq : Nat.blt p 143
        · rfl
        · exact absurd (Nat.blt_eq.mp hq) h9
      have : qpl p = (9, 0, 0, 0) := by unfold qpl; rw [hb]; rfl
      rw [this] at h; cases h
  unfold qckR at hc
  rw [h] at hc
  simp only [Bool.and_eq_true, Bool.or_eq_true] at hc
  rcases hc with (q | q) | q
  · exact Or.inl (Nat.eq_of_beq_eq_true q)
  · exact Or.inr (Or.inl (Nat.eq_of_beq_eq_true q))
  · exact Or.inr (Or.inr ⟨Nat.eq_of_beq_eq_true q.1.1, Nat.le_of_ble_eq_true q.1.2, Nat.eq_of_beq_eq_true q.2⟩)
section QA
variable {p : Program} {l : Launch} {e : Env} {R : Room} {s : State} {m : MethodId} {args : Array Value} {below : List Frame} {meth : Method} {c : Code} {Q : State → Prop}
variable {D : va_G} {A : Nat → Prop} {H0 : Heap} {sa : Nat → Nat} {sc : Option (Nat × (Nat → Int))} {k : Nat}
theorem q_new {i : Nat} (F : qFx p s m args meth c A H0 sa sc k) : qStep p l e R s m args below meth c Q D A H0 sa sc k (.new i) := by
  intro len pc ls st w n pc' ls' st' w' n' ad ac arr H locs cells slots hd ho h X hr kk
  obtain ⟨hx, hb, hml, hown, hts, hinit, hA, hsc, hst⟩ := F
  have hlen : len = 3 := by simpa [qok, qlen] using ho
  subst hlen
  obtain ⟨hW, hL, hn, hs, hS⟩ := X
  simp only [qs1] at h
  split at h
  · rename_i ci c0 m0 x0 hq hpl
    split at h
    · rename_i hc
      have hc := Nat.eq_of_beq_eq_true hc
      subst hc
      cases h
      obtain ⟨y1, y2⟩ := qpl_o hpl
      subst y2
      obtain ⟨g1, g2, g3⟩ := qC_in hq (by omega)
      have hsz := qSz_s n
      rw [hpl] at hsz
      have hsz : qSz (n + 1) = qSz n + qNf c0 := hsz
      refine va_new (ci := c0) (C := qcn c0) (T := qT c0) (N := qNf c0) (fs := (List.range (qNf c0)).map (fun j => qfv ad (qfk c0 j) 0)) hx hb hts (qwT_in y1) (qty c0) (qty_ok y1) hown (hts _ g1) (hts _ g2) (hts _ g3) hW.2.2.1 hW.1 hW.2.1 hS hA (qcl_at y1) (fun j hj => ?_) (by omega) (by omega) hd (fun q H1 h1 h2 h3 => ?_)
      · rw [q_dv ad (qY_ok y1 hj)]
        unfold vp_V
        rw [List.getD_eq_getElem?_getD, List.getElem?_map, List.getElem?_range hj]; rfl
      · have ha : ∀ i, i ≤ n → va_up ad (n + 1) q i = ad i := fun i hi => va_up_ne9 _ _ (by omega)
        have K := kk (va_up ad (n + 1) q) (va_up ac (n + 1) (ac 0)) arr H1 locs (cells + 1) (slots + qNf c0) (fun i hi => ⟨ha i hi, va_up_ne9 _ _ (by omega)⟩) (by omega) (by omega)
          ⟨q_grow hW h1 h2 (fun p hp => qclr_lo (by omega)) (fun z => by
            rw [qce_o hpl, qclr_hi (Nat.le_refl _)]
            exact z) (fun e m c hq9 => by rw [hpl] at hq9; cases hq9) (fun j hj => by rw [qclr_hi (Nat.le_refl _)]; exact qrx_0 _ _), hL.up ha (by omega), hn, .cn (q4 rfl) (fun _ => ⟨by omega, by omega⟩) (hs.up (by omega)), h3⟩
        rw [List.map_cons, qcv_ref (by omega), q_stk hs ha, show ((n : Int) + 1).toNat = n + 1 by omega, va_up_at] at K
        exact K
    · cases h
  · cases h
theorem q_newarray {a : ArrayType} (F : qFx p s m args meth c A H0 sa sc k) : qStep p l e R s m args below meth c Q D A H0 sa sc k (.newarray a) := by
  intro len pc ls st w n pc' ls' st' w' n' ad ac arr H locs cells slots hd ho h X hr kk
  obtain ⟨hx, hb, hml, hown, hts, hinit, hA, hsc, hst⟩ := F
  have hlen : len = 2 := by simpa [qok, qlen] using ho
  subst hlen
  obtain ⟨hW, hL, hn, hs, hS⟩ := X
  simp only [qs1] at h
  split at h
  · rename_i v r e0 m0 x0 hpl
    split at h
    · rename_i hc
      have hc := Nat.eq_of_beq_eq_true hc
      split at h
      · rename_i hv
        cases h
        obtain ⟨y1, y2, y3⟩ := qpl_a hpl
        have hsz := qSz_s n
        rw [hpl] at hsz
        have hsz : qSz (n + 1) = qSz n + m0 := hsz
        have hv9 := hs.h.2.i
        have G : ∀ (ty : FieldType), newarray.typeOf a = ty → Cond.arrayClass ty ∈ qAL → qet e0 x0 = ty → componentBytes ty ≤ 8 → (∀ cA : ClassId, vp_cell cA (m0, qca ad e0 (fun _ => 0)) = arrV cA m0 (fun _ => defaultValue ty)) → W p l e R s m args below meth c H locs cells slots Q (F0 m pc arr (List.map (qcv ad sa) ((0, v) :: r))) := by
          intro ty t1 t2 t3 t4 t5
          refine va_newa (atype := a) (ty := ty) (a0 := (m0, qca ad e0 (fun _ => 0))) (N' := m0) hx hb (by rw [t1]; exact hts _ t2) t1 hW.2.2.1 hW.1 hW.2.1 hS hA t5 (by rw [e_neg1 hv9]; omega) (by rw [e_cl hv9]; omega) (Nat.le_trans (Nat.mul_le_mul y2 t4) (by decide)) (by omega) (by omega) hd (fun q cA H1 h0 h1 h2 h3 => ?_)
          have ha : ∀ i, i ≤ n → va_up ad (n + 1) q i = ad i := fun i hi => va_up_ne9 _ _ (by omega)
          have K := kk (va_up ad (n + 1) q) (va_up ac (n + 1) cA) arr H1 locs (cells + 1) (slots + m0) (fun i hi => ⟨ha i hi, va_up_ne9 _ _ (by omega)⟩) (by omega) (by omega)
            ⟨q_grow hW h1 h2 (fun p hp => qclr_lo (by omega)) (fun z => by
              rw [qce_a hpl, qclr_hi (Nat.le_refl _), va_up_at]
              show H1[q]? = some (vp_cell cA (m0, qca (va_up ad (n + 1) q) e0 (fun _ => 0)))
              rw [qca_cg (n := n) cA ha (fun _ _ _ => ⟨by omega, by omega⟩)]
              exact z) (fun e m c hq9 => by rw [hpl] at hq9; cases hq9; rw [t3]; exact h0) (fun j hj => by rw [qclr_hi (Nat.le_refl _)]; exact qrx_0 _ _), hL.up ha (by omega), hn, .cn (q4 rfl) (fun _ => ⟨by omega, by omega⟩) (hs.t.up (by omega)), h3⟩
          rw [List.map_cons, qcv_ref (by omega), q_stk hs.t ha, show ((n : Int) + 1).toNat = n + 1 by omega, va_up_at] at K
          exact K
        cases a
        case int => exact G .int rfl qwA_int (by rw [hc]; rfl) (by decide) (fun cA => by rw [hc]; rfl)
        case long => exact G .long rfl qwA_long (by rw [hc]; rfl) (by decide) (fun cA => by rw [hc]; rfl)
        case boolean => exact G .boolean rfl qwA_boolean (by rw [hc]; rfl) (by decide) (fun cA => by rw [hc]; rfl)
        case byte => exact G .byte rfl qwA_byte (by rw [hc]; rfl) (by decide) (fun cA => by rw [hc]; rfl)
        all_goals (exfalso; have : e0 = 8 := hc; omega)
      · cases h
    · cases h
  · cases h
theorem q_anewarray {i : Nat} (F : qFx p s m args meth c A H0 sa sc k) : qStep p l e R s m args below meth c Q D A H0 sa sc k (.anewarray i) := by
  intro len pc ls st w n pc' ls' st' w' n' ad ac arr H locs cells slots hd ho h X hr kk
  obtain ⟨hx, hb, hml, hown, hts, hinit, hA, hsc, hst⟩ := F
  have hlen : len = 3 := by simpa [qok, qlen] using ho
  subst hlen
  obtain ⟨hW, hL, hn, hs, hS⟩ := X
  simp only [qs1] at h
  split at h
  · rename_i ci v r m0 c0 hq hpl
    split at h
    · rename_i hc
      simp only [Bool.and_eq_true, Nat.blt_eq] at hc
      obtain ⟨hc, h13⟩ := hc
      have hc := Nat.eq_of_beq_eq_true hc
      subst hc
      split at h
      · rename_i hv
        cases h
        obtain ⟨y1, y2, y3⟩ := qpl_a hpl
        obtain ⟨g1, g2, g3⟩ := qC_in hq (by omega)
        have hsz := qSz_s n
        rw [hpl] at hsz
        have hsz : qSz (n + 1) = qSz n + m0 := hsz
        have hv9 := hs.h.2.i
        have hov : va_AO (qcn c0) s := by
          rcases qpl_r hpl with rfl | rfl | q
          · exact va_AO.of (hst.1.2.1 _ (by simp))
          · exact va_AO.of (hst.1.2.1 _ (by simp))
          · omega
        have hty : qet 2 c0 = .object (qcn c0) := by
          show (if c0 = 99 then _ else _) = _
          rw [if_neg (by omega)]
        refine va_newq (N' := m0) hx hb hown (hts _ g1) hov hW.2.2.1 hW.1 hW.2.1 hS hA (by rw [e_neg1 hv9]; omega) (by rw [e_cl hv9]; omega) (by omega) (by omega) (by omega) hd (fun q cA H1 h0 h1 h2 h3 => ?_)
        have ha : ∀ i, i ≤ n → va_up ad (n + 1) q i = ad i := fun i hi => va_up_ne9 _ _ (by omega)
        have K := kk (va_up ad (n + 1) q) (va_up ac (n + 1) cA) arr H1 locs (cells + 1) (slots + m0) (fun i hi => ⟨ha i hi, va_up_ne9 _ _ (by omega)⟩) (by omega) (by omega)
          ⟨q_grow hW h1 h2 (fun p hp => qclr_lo (by omega)) (fun z => by
            rw [qce_a hpl, qclr_hi (Nat.le_refl _), va_up_at]
            exact z) (fun e m c hq9 => by rw [hpl] at hq9; cases hq9; rw [hty]; exact h0) (fun j hj => by rw [qclr_hi (Nat.le_refl _)]; exact qrx_0 _ _), hL.up ha (by omega), hn, .cn (q4 rfl) (fun _ => ⟨by omega, by omega⟩) (hs.t.up (by omega)), h3⟩
        rw [List.map_cons, qcv_ref (by omega), q_stk hs.t ha, show ((n : Int) + 1).toNat = n + 1 by omega, va_up_at] at K
        exact K
      · cases h
    · cases h
  · cases h
end QA
end
section
/-! new long[n][k] -/
theorem qpl_27 : qpl 27 = (1, 1, 3, 0) := by decide +kernel
theorem qSz_rows (n m h : Nat) : (∀ i, i < m → (qpl (n + 1 + i)).2.2.1 = h) → qSz (n + m) = qSz n + m * h := by
  induction m with
  | zero => intro _; simp
  | succ m ih =>
    intro hh
    have := ih (fun i hi => hh i (by omega))
    have h1 := qSz_s (n + m)
    rw [show n + m + 1 = n + 1 + m by omega, hh m (by omega)] at h1
    rw [show n + (m + 1) = n + 1 + m by omega, h1, this, Nat.succ_mul]
    omega
section QM
variable {p : Program} {l : Launch} {e : Env} {R : Room} {s : State} {m : MethodId} {args : Array Value} {below : List Frame} {meth : Method} {c : Code} {Q : State → Prop}
variable {D : va_G} {A : Nat → Prop} {H0 : Heap} {sa : Nat → Nat} {sc : Option (Nat × (Nat → Int))} {k : Nat}
theorem q_multianewarray {i dd : Nat} (F : qFx p s m args meth c A H0 sa sc k) : qStep p l e R s m args below meth c Q D A H0 sa sc k (.multianewarray i dd) := by
  intro len pc ls st w n pc' ls' st' w' n' ad ac arr H locs cells slots hd ho h X hr kk
  obtain ⟨hx, hb, hml, hown, hts, hinit, hA, hsc, hst⟩ := F
  have hlen : len = 4 := by simpa [qok, qlen] using ho
  subst hlen
  obtain ⟨hW, hL, hn, hs, hS⟩ := X
  simp only [qs1] at h
  split at h
  · rename_i u v r m0 hq hpl
    split at h
    · rename_i hv
      split at h
      · rename_i hrows
        cases h
        have h9 := qpl_r hpl
        have h9 : 30 ≤ n + 1 ∧ m0 = 5 := by omega
        obtain ⟨h30, rfl⟩ := h9
        have hu9 := hs.h.2.i
        have hv9 := hs.t.h.2.i
        have hrow : ∀ j, j < 5 → ∃ x, qpl (n + 2 + j) = (1, 1, u.toNat, x) := by
          intro j hj
          have := List.all_eq_true.mp hrows j (List.mem_range.mpr hj)
          split at this
          · rename_i h0 x0 hq9
            simp only [decide_eq_true_eq] at this
            exact ⟨x0, by rw [hq9, show h0 = u.toNat by omega]⟩
          · cases this
        obtain ⟨x00, hr0⟩ := hrow 0 (by decide)
        have hu5 := (qpl_a hr0).2.1
        have hK27 := hW.2.2.2.1 27 1 3 0 (by omega) (by omega) qpl_27
        have hcy : s.vm.findClass (FieldType.array .long).toString = some (ac 27) := (hK27.2 0 _ rfl).2
        have hsz1 := qSz_s n
        rw [hpl] at hsz1
        have hsz1 : qSz (n + 1) = qSz n + 5 := hsz1
        have hsz2 := qSz_rows (n + 1) 5 u.toNat (fun j hj => by
          obtain ⟨x, hx⟩ := hrow j hj
          rw [show n + 1 + 1 + j = n + 2 + j by omega, hx])
        obtain ⟨hr1, hr2⟩ := hr
        refine va_mna (X := qws ad ac w n) (L := []) (f := fun _ => .inr (0, [])) (ty := .long) (cy := ac 27) (N' := 5) (K' := u.toNat) (z := (u.toNat, qca ad 1 (fun _ => 0))) hx hb hown (hts _ (qC_99 hq)) (va_AOA.of (hst.1.2.1 _ (by simp))) (hts _ qwA_long) hcy hW.2.2.1 (by rw [show va_pl [] _ = [] from rfl, List.append_nil]; exact hW.1) (by rw [show va_pl [] _ = [] from rfl, List.append_nil]; exact hW.2.1) hS hA (by rw [e_neg1 hv9]; omega) (by rw [e_neg1 hu9]; omega) (by rw [e_cl hv9]; omega) (by rw [e_cl hu9]) (by decide) (Nat.le_trans (Nat.mul_le_mul hu5 (show componentBytes .long ≤ 8 by decide)) (by decide)) (by omega) rfl rfl (by omega) (by omega) (fun c => ?_) hd (fun q r9 cA H1 hinj hnl hK1 h1 h2 h3 => ?_)
        · show _ = arrV c u.toNat (fun _ => .long (Int64.ofInt 0))
          rw [← arrV_new]; rfl
        · let ad' : Nat → Nat := fun p => if p = n + 1 then q else if n + 1 < p ∧ p ≤ n + 1 + 5 then r9 (p - (n + 2)) else ad p
          let ac' : Nat → ClassId := fun p => if p = n + 1 then cA else if n + 1 < p ∧ p ≤ n + 1 + 5 then ac 27 else ac p
          let w9 : qW := fun p => if p = n + 1 then (fun j => if j < 5 then ((n + 2 + j : Nat) : Int) else 0) else qclr w (n + 1) p
          have ha : ∀ i, i ≤ n → ad' i = ad i := fun i hi => by show (if _ then _ else _) = _; rw [if_neg (by omega), if_neg (by omega)]
          have hac : ∀ i, i ≤ n → ac' i = ac i := fun i hi => by show (if _ then _ else _) = _; rw [if_neg (by omega), if_neg (by omega)]
          have ha1 : ad' (n + 1) = q := if_pos rfl
          have hac1 : ac' (n + 1) = cA := if_pos rfl
          have ha2 : ∀ j, j < 5 → ad' (n + 2 + j) = r9 j := fun j hj => by
            show (if _ then _ else _) = _
            rw [if_neg (by omega), if_pos (by omega), show n + 2 + j - (n + 2) = j by omega]
          have hac2 : ∀ j, j < 5 → ac' (n + 2 + j) = ac 27 := fun j hj => by
            show (if _ then _ else _) = _
            rw [if_neg (by omega), if_pos (by omega)]
          have hw1 : w9 (n + 1) = (fun j => if j < 5 then ((n + 2 + j : Nat) : Int) else 0) := if_pos rfl
          have hwl : ∀ p, p ≤ n → w9 p = w p := fun p hp => by
            show (if _ then _ else _) = _
            rw [if_neg (by omega)]; exact qclr_lo (by omega)
          have hwr : ∀ j, w9 (n + 2 + j) = fun _ => 0 := fun j => by
            show (if _ then _ else _) = _
            rw [if_neg (by omega)]; exact qclr_hi (by omega)
          have cases3 : ∀ p, 0 < p → p ≤ n + 1 + 5 → p ≤ n ∨ p = n + 1 ∨ ∃ j, j < 5 ∧ p = n + 2 + j := fun p h0 h1 => by
            by_cases c1 : p ≤ n
            · exact Or.inl c1
            · by_cases c2 : p = n + 1
              · exact Or.inr (Or.inl c2)
              · exact Or.inr (Or.inr ⟨p - (n + 2), by omega, by omega⟩)
          have hWn : qWr D A s H1 ad' ac' w9 (n + 1 + 5) := by
            refine ⟨qP_of fun p h0 h5 => ?_, va_D_fst ?_ h2, hW.2.2.1, fun p e m c h0 h5 hq9 => ?_, fun p h0 h5 j hj => ?_⟩
            · rcases cases3 p h0 h5 with hp | rfl | ⟨j, hj, rfl⟩
              · rw [ha p hp]
                refine q_atcg (hW.2.2.2.2 p h0 hp) ha (hac p hp) (hwl p hp) (h1 (p - 1) _ ?_)
                rw [List.getElem?_append_left (by rw [List.length_append, qws_len]; omega), List.getElem?_append_left (by rw [qws_len]; omega)]
                exact qws_at h0 hp
              · have hz := h1 n (q, .inl (cA, 5, .inr (.inr (.inr (.inr (fun i => if i < 5 then some (r9 i) else none)))))) (by
                  rw [List.getElem?_append_left (by rw [List.length_append, qws_len]; exact Nat.lt_succ_self n), List.getElem?_append_right (by rw [qws_len]; omega), qws_len, Nat.sub_self]; rfl)
                rw [ha1, qce_a hpl, hac1, hw1]
                have e1 : vp_cell cA (5, qca ad' 2 (fun j => if j < 5 then ((n + 2 + j : Nat) : Int) else 0)) = vp_cell cA (5, .inr (.inr (.inr (.inr (fun i => if i < 5 then some (r9 i) else none))))) := by
                  show vp_cell cA (5, .inr (.inr (.inr (.inr (fun j => qrf ad' (if j < 5 then ((n + 2 + j : Nat) : Int) else 0)))))) = _
                  rw [vp_cell_q, vp_cell_q]
                  refine arrV_cg _ _ (fun j hj => ?_)
                  rw [if_pos hj, if_pos hj]
                  unfold qrf
                  rw [if_neg (by omega), show ((n + 2 + j : Nat) : Int).toNat = n + 2 + j by omega, ha2 j hj]
                show H1[q]? = some (vp_cell cA (5, qca ad' 2 _))
                rw [e1]
                exact hz
              · obtain ⟨x, hx9⟩ := hrow j hj
                have hz := h1 (n + 1 + j) (r9 j, .inl (ac 27, (u.toNat, qca ad 1 (fun _ => 0)))) (by
                  rw [List.getElem?_append_right (by rw [List.length_append, qws_len]; exact Nat.le_add_right _ _), List.length_append, qws_len]
                  show (va_pl _ _)[n + 1 + j - (n + 1)]? = _
                  rw [show n + 1 + j - (n + 1) = j by omega]
                  unfold va_pl
                  rw [List.getElem?_map, List.nil_append, List.getElem?_map, List.getElem?_range hj]
                  show some (r9 j, vr_up _ _ _ (r9 j)) = _
                  rw [vr_up_in (List.mem_map.mpr ⟨j, List.mem_range.mpr hj, rfl⟩)])
                rw [ha2 j hj, qce_a hx9, hac2 j hj, hwr j]
                exact hz
            · rw [qws_fst]
              apply List.ext_getElem?
              intro i
              rw [List.map_append, List.map_append, qws_fst]
              by_cases c1 : i < n
              · rw [List.getElem?_append_left (by simp; omega), List.getElem?_append_left (by simp; omega), List.getElem?_map, List.getElem?_map, List.getElem?_range c1, List.getElem?_range (by omega)]
                show some (ad' (i + 1)) = some (ad (i + 1))
                rw [ha _ (by omega)]
              · by_cases c2 : i = n
                · subst c2
                  rw [List.getElem?_append_left (by simp), List.getElem?_append_right (by simp), List.getElem?_map, List.getElem?_range (by omega)]
                  simp [ha1]
                · rw [List.getElem?_append_right (by simp; omega)]
                  by_cases c3 : i < n + 1 + 5
                  · rw [List.getElem?_map, List.getElem?_range c3]
                    unfold va_pl
                    rw [List.map_map, List.nil_append, List.getElem?_map, List.getElem?_map]
                    have e1 : i - (List.map (fun i => ad (i + 1)) (List.range n) ++ List.map Prod.fst [((q, .inl (cA, 5, .inr (.inr (.inr (.inr (fun i => if i < 5 then some (r9 i) else none)))))) : Nat × va_E)]).length = i - (n + 1) := by simp
                    rw [e1, List.getElem?_range (by omega)]
                    show some (ad' (i + 1)) = some (r9 (i - (n + 1)))
                    have := ha2 (i - (n + 1)) (by omega)
                    rw [show n + 2 + (i - (n + 1)) = i + 1 by omega] at this
                    rw [this]
                  · rw [List.getElem?_eq_none (by simp; omega), List.getElem?_eq_none (by simp [va_pl]; omega)]
            · rcases cases3 p h0 h5 with hp | rfl | ⟨j, hj, rfl⟩
              · rw [hac p hp]; exact hW.2.2.2.1 p e m c h0 hp hq9
              · rw [hpl] at hq9
                cases hq9
                rw [hac1]; exact hK1
              · obtain ⟨x, hx9⟩ := hrow j hj
                rw [hx9] at hq9
                cases hq9
                rw [hac2 j hj]; exact hK27
            · rcases cases3 p h0 h5 with hp | rfl | ⟨j9, hj9, rfl⟩
              · rw [hwl p hp]; exact qrx_mono (by omega) (hW.2.2.2.2 p h0 hp j hj)
              · rw [hpl] at hj
                rw [hw1, qkd_a hpl]
                have hj : j < 5 := hj
                show qrx 2 _ (if j < 5 then ((n + 2 + j : Nat) : Int) else 0)
                rw [if_pos hj]
                exact ⟨by omega, by omega⟩
              · rw [hwr]; exact qrx_0 _ _
          have K := kk ad' ac' arr H1 locs (cells + 1 + 5) (slots + 5 + 5 * u.toNat) (fun i hi => ⟨ha i hi, hac i hi⟩) (by omega) (by omega)
            ⟨hWn, hL.up ha (by omega), hn, .cn (q4 rfl) (fun _ => ⟨by omega, by omega⟩) (hs.t.t.up (by omega)), h3⟩
          rw [List.map_cons, qcv_ref (by omega), q_stk hs.t.t ha, show ((n : Int) + 1).toNat = n + 1 by omega, ha1] at K
          exact K
      · cases h
    · cases h
  · cases h
end QM
end
section
/-! the run of the plain program is the machine's -/
section QX
variable {p : Program} {l : Launch} {e : Env} {R : Room} {s : State} {m : MethodId} {args : Array Value} {below : List Frame} {meth : Method} {c : Code} {Q : State → Prop}
variable {D : va_G} {A : Nat → Prop} {H0 : Heap} {sa : Nat → Nat} {sc : Option (Nat × (Nat → Int))} {k : Nat}
theorem q_any (F : qFx p s m args meth c A H0 sa sc k) (ins : Instr) : qStep p l e R s m args below meth c Q D A H0 sa sc k ins := by
  cases ins
  case iload i => exact q_iload F
  case iload_n i => exact q_iload_n F
  case lload i => exact q_lload F
  case lload_n i => exact q_lload_n F
  case aload i => exact q_aload F
  case aload_n i => exact q_aload_n F
  case istore i => exact q_istore F
  case istore_n i => exact q_istore_n F
  case lstore i => exact q_lstore F
  case lstore_n i => exact q_lstore_n F
  case astore_n i => exact q_astore_n F
  case iinc i v => exact q_iinc F
  case iconst i => exact q_iconst F
  case bipush i => exact q_bipush F
  case sipush i => exact q_sipush F
  case lconst i => exact q_lconst F
  case aconst_null => exact q_aconst_null F
  case ldc i => exact q_ldc F
  case ldc_w i => exact q_ldc_w F
  case ldc2_w i => exact q_ldc2_w F
  case dup => exact q_dup F
  case dup2 => exact q_dup2 F
  case pop => exact q_pop F
  case iadd => exact q_iadd F
  case isub => exact q_isub F
  case imul => exact q_imul F
  case idiv => exact q_idiv F
  case irem => exact q_irem F
  case ineg => exact q_ineg F
  case iand => exact q_iand F
  case ior => exact q_ior F
  case ixor => exact q_ixor F
  case ishl => exact q_ishl F
  case ishr => exact q_ishr F
  case iushr => exact q_iushr F
  case ladd => exact q_ladd F
  case lsub => exact q_lsub F
  case lmul => exact q_lmul F
  case ldiv => exact q_ldiv F
  case land => exact q_land F
  case lor => exact q_lor F
  case lshl => exact q_lshl F
  case lushr => exact q_lushr F
  case lcmp => exact q_lcmp F
  case i2l => exact q_i2l F
  case l2i => exact q_l2i F
  case i2b => exact q_i2b F
  case i2c => exact q_i2c F
  case goto o => exact q_goto F
  case ifCond c o => exact q_ifCond F
  case if_icmp c o => exact q_if_icmp F
  case if_acmp c o => exact q_if_acmp F
  case tableswitch a b c d => exact q_tableswitch F
  case getfield i => exact q_getfield F
  case putfield i => exact q_putfield F
  case iaload => exact q_iaload F
  case baload => exact q_baload F
  case laload => exact q_laload F
  case aaload => exact q_aaload F
  case iastore => exact q_iastore F
  case bastore => exact q_bastore F
  case lastore => exact q_lastore F
  case aastore => exact q_aastore F
  case arraylength => exact q_arraylength F
  case new i => exact q_new F
  case newarray a => exact q_newarray F
  case anewarray i => exact q_anewarray F
  case multianewarray i d => exact q_multianewarray F
  all_goals
    intro len pc ls st w n pc' ls' st' w' n' ad ac arr H locs cells slots hd ho h X hr kk
    have h : (none : Option qC) = some (pc', ls', st', w', n') := h
    cases h
end QX
theorem qs1_mono {sc : Option (Nat × (Nat → Int))} {k len pc n pc' n' : Nat} {ins : Instr} {ls st ls' st' : List qV} {w w' : qW} (h : qs1 sc k ins len pc ls st w n = some (pc', ls', st', w', n')) : n ≤ n' := by
  cases ins
  case tableswitch d lo hi offs =>
    simp only [qs1] at h
    split at h
    · rcases qtsw_of _ _ h with ⟨j, o, h1, h2, h3⟩ | ⟨h1, h2⟩
      · cases h3; exact Nat.le_refl _
      · cases h2; exact Nat.le_refl _
    · cases h
  case ifCond cd off =>
    simp only [qs1] at h
    split at h
    · cases cd <;> simp only [qbr] at h <;> (split at h <;> (cases h; exact Nat.le_refl _))
    · cases h
  case if_icmp cd off =>
    simp only [qs1] at h
    split at h
    · cases cd <;> simp only [qbr] at h <;> (split at h <;> (cases h; exact Nat.le_refl _))
    · cases h
  all_goals
    first
      | (have h : (none : Option qC) = some (pc', ls', st', w', n') := h; cases h; done)
      | (simp only [qs1] at h <;> (repeat' split at h) <;> first | (cases h; omega) | cases h)
noncomputable def qMono (X : qXt) : Prop := ∀ sc d k pc ls st w n v w' n', X sc d k pc ls st w n = some (v, w', n') → n ≤ n' ∧ (v = (9, 0) ∨ ∃ x, v = (0, x))
theorem qac_n {pc n pc' n' : Nat} {ls st ls' st' : List qV} {w w' : qW} (h : qac pc ls st w n = some (pc', ls', st', w', n')) : n' = n := by
  unfold qac at h
  (repeat' split at h) <;> first | (cases h; rfl) | cases h
theorem qmt_n {t pc n pc' n' : Nat} {ls st ls' st' : List qV} {w w' : qW} (h : qmt t pc ls st w n = some (pc', ls', st', w', n')) : n' = n := by
  unfold qmt at h
  (repeat' split at h) <;> first | (cases h; rfl) | cases h
theorem qgo_mono {X : qXt} (hX : qMono X) {sc : Option (Nat × (Nat → Int))} {d k n : Nat} {o : Option qC} {v : qV} {w' : qW} {n' : Nat} (ho : ∀ pc' ls' st' w' n', o = some (pc', ls', st', w', n') → n ≤ n') (h : qgo X sc d k o = some (v, w', n')) : n ≤ n' ∧ (v = (9, 0) ∨ ∃ x, v = (0, x)) := by
  unfold qgo at h
  split at h
  · rename_i pc1 ls1 st1 w1 n1
    have a := ho _ _ _ _ _ rfl
    have b := hX _ _ _ _ _ _ _ _ _ _ _ h
    exact ⟨Nat.le_trans a b.1, b.2⟩
  · cases h
theorem qcl1_mono {X : qXt} (hX : qMono X) {sc : Option (Nat × (Nat → Int))} {d k t na sk md pc n : Nat} {ls st : List qV} {w w' : qW} {n' : Nat} {v : qV} (h : qcl1 X sc d k t na sk md pc ls st w n = some (v, w', n')) : n ≤ n' ∧ (v = (9, 0) ∨ ∃ x, v = (0, x)) := by
  unfold qcl1 at h
  split at h
  · cases h
  · split at h
    · split at h
      · rename_i v1 w1 n1 h1
        have a := hX _ _ _ _ _ _ _ _ _ _ _ h1
        have b := hX _ _ _ _ _ _ _ _ _ _ _ h
        exact ⟨Nat.le_trans a.1 b.1, b.2⟩
      · cases h
    · cases h
theorem qinv_mono {X : qXt} (hX : qMono X) {sc : Option (Nat × (Nat → Int))} {d k i md pc n : Nat} {ls st : List qV} {w w' : qW} {n' : Nat} {v : qV} (h : qinv X sc d k i md pc ls st w n = some (v, w', n')) : n ≤ n' ∧ (v = (9, 0) ∨ ∃ x, v = (0, x)) := by
  unfold qinv at h
  split at h
  · split at h
    · split at h
      · split at h
        · exact hX _ _ _ _ _ _ _ _ _ _ _ h
        · cases h
      · cases h
    · split at h
      · split at h
        · exact qgo_mono hX (fun _ _ _ _ _ z => Nat.le_of_eq (qac_n z).symm) h
        · cases h
      · split at h
        · split at h
          · exact qgo_mono hX (fun _ _ _ _ _ z => Nat.le_of_eq (qmt_n z).symm) h
          · cases h
        · exact qcl1_mono hX h
  · cases h
theorem qst1_mono {X : qXt} (hX : qMono X) {sc : Option (Nat × (Nat → Int))} {d k len pc n : Nat} {ins : Instr} {ls st : List qV} {w w' : qW} {n' : Nat} {v : qV} (h : qst1 X sc d k ins len pc ls st w n = some (v, w', n')) : n ≤ n' ∧ (v = (9, 0) ∨ ∃ x, v = (0, x)) := by
  unfold qst1 at h
  split at h
  · split at h
    · split at h
      · cases h; exact ⟨Nat.le_refl _, Or.inr ⟨_, rfl⟩⟩
      · cases h
    · cases h
  · split at h
    · split at h
      · cases h; exact ⟨Nat.le_refl _, Or.inl rfl⟩
      · cases h
    · cases h
  · exact qinv_mono hX h
  · exact qinv_mono hX h
  · exact qinv_mono hX h
  · exact qgo_mono hX (fun _ _ _ _ _ z => qs1_mono z) h
theorem q_mono : ∀ f, qMono (qex f)
  | 0 => fun sc d k pc ls st w n v w' n' h => by
    have h : (none : qR) = some (v, w', n') := h
    cases h
  | f + 1 => fun sc d k pc ls st w n v w' n' h => by
    have h : (match qcd k pc with
      | some (ins, len) => qst1 (qex f) sc d k ins len pc ls st w n
      | none => none) = some (v, w', n') := h
    split at h
    · exact qst1_mono (q_mono f) h
    · cases h
theorem qSz_mono {n n' : Nat} (h : n ≤ n') : qSz n ≤ qSz n' := by
  induction h with
  | refl => exact Nat.le_refl _
  | step h ih => rw [qSz_s]; omega
end
section
/-! the run of the plain program is the machine's: calls, and all together -/
noncomputable def qwd (t : Nat) : List Cond := .code (qnm t) (qby t) (qml t) (qret t) :: qAL
noncomputable def qrm (d n n' : Nat) : Room := { frames := d, cells := n' - n, slots := qSz n' - qSz n, locals := 60 * d }
noncomputable def qB0 (D : va_G) (ad sa : Nat → Nat) (ac : Nat → ClassId) (w : qW) (n sz : Nat) : State → Prop := fun U => U.heap.size = sz ∧ qWr D (fun _ => True) U U.heap ad ac w n ∧ qSt sa U ∧ qStr sa (va_A (qws ad ac w n) sz) U U.heap
noncomputable def qB1 (D : va_G) (A : Nat → Prop) (ad : Nat → Nat) (ac : Nat → ClassId) (w1 : qW) (n n1 : Nat) : Unit → State → Prop := fun _ t => ∃ (ad' : Nat → Nat) (ac' : Nat → ClassId), (∀ i, i ≤ n → ad' i = ad i ∧ ac' i = ac i) ∧ qWr D A t t.heap ad' ac' w1 n1
noncomputable def qQc (v : qV) (D : va_G) (A : Nat → Prop) (ad : Nat → Nat) (ac : Nat → ClassId) (w1 : qW) (n n1 : Nat) : Array Value → State → Outcome → State → Prop := match v with
  | (9, _) => va_Qv (fun _ => True) (qB1 D A ad ac w1 n n1) A
  | (_, x) => va_Qi (fun r _ => r = Int32.ofInt x ∧ qi32 x) (qB1 D A ad ac w1 n n1) A
theorem qWr.moved {D : va_G} {A : Nat → Prop} {u U : State} {H : Heap} {ad : Nat → Nat} {ac : Nat → ClassId} {w : qW} {n : Nat} (hvm : u.vm.Alike U.vm) (h : qWr D A u H ad ac w n) : qWr D A U H ad ac w n :=
  ⟨h.1, h.2.1, h.2.2.1.moved hvm, fun p e m c h0 h1 hq => (h.2.2.2.1 p e m c h0 h1 hq).moved hvm, h.2.2.2.2⟩
theorem qWr.weaken {D : va_G} {A B : Nat → Prop} {s : State} {H : Heap} {ad : Nat → Nat} {ac : Nat → ClassId} {w : qW} {n : Nat} (h : qWr D A s H ad ac w n) (hAB : ∀ q, A q → B q) : qWr D B s H ad ac w n :=
  ⟨h.1, h.2.1.weaken (fun _ q _ z => hAB q.1 z), h.2.2.1, h.2.2.2.1, h.2.2.2.2⟩
/-- what is to be shown at a method's return -/
noncomputable def qEnd (p : Program) (l : Launch) (e : Env) (R : Room) (s : State) (m : MethodId) (args : Array Value) (below : List Frame) (meth : Method) (c : Code) (Q : State → Prop) (D : va_G) (A : Nat → Prop) (H0 : Heap) (k : Nat) (v : qV) (w' : qW) (n n' : Nat) (ad : Nat → Nat) (ac : Nat → ClassId) (cells slots : Nat) : Prop :=
  ∀ (pcr : Nat) (ad' : Nat → Nat) (ac' : Nat → ClassId) (arr' : Array Slot) (H' : Heap) (locs' : List Loc) (cells' slots' : Nat), (∀ i, i ≤ n → ad' i = ad i ∧ ac' i = ac i) → cells' + n = cells + n' → slots' + qSz n = slots + qSz n' → qWr D A s H' ad' ac' w' n' → va_S A H0 H' locs' →
    (∀ x, v = (0, x) → qi32 x → qrok (qrt k) (0, x) = true → decode (qby k) pcr = .ok (.ireturn, 1) → W p l e R s m args below meth c H' locs' cells' slots' Q (F0 m pcr arr' [.int (Int32.ofInt x)])) ∧
    (v = (9, 0) → qrt k = 0 → decode (qby k) pcr = .ok (.return_, 1) → W p l e R s m args below meth c H' locs' cells' slots' Q (F0 m pcr arr' []))
theorem qEnd.next {p : Program} {l : Launch} {e : Env} {R : Room} {s : State} {m : MethodId} {args : Array Value} {below : List Frame} {meth : Method} {c : Code} {Q : State → Prop} {D : va_G} {A : Nat → Prop} {H0 : Heap} {k : Nat} {v : qV} {w' : qW} {n n1 n' : Nat} {ad ad1 : Nat → Nat} {ac ac1 : Nat → ClassId} {cells slots cells1 slots1 : Nat}
    (h : qEnd p l e R s m args below meth c Q D A H0 k v w' n n' ad ac cells slots) (hext : ∀ i, i ≤ n → ad1 i = ad i ∧ ac1 i = ac i) (hn : n ≤ n1) (hc : cells1 + n = cells + n1) (hs : slots1 + qSz n = slots + qSz n1) : qEnd p l e R s m args below meth c Q D A H0 k v w' n1 n' ad1 ac1 cells1 slots1 :=
  fun pcr ad' ac' arr' H' locs' cells' slots' he h1 h2 hW hS => h pcr ad' ac' arr' H' locs' cells' slots' (fun i hi => ⟨(he i (Nat.le_trans hi hn)).1.trans (hext i hi).1, (he i (Nat.le_trans hi hn)).2.trans (hext i hi).2⟩) (by omega) (by omega) hW hS
/-- what a run of the plain program says of the machine -/
noncomputable def qSound (l : Launch) (X : qXt) : Prop :=
  ∀ (sc : Option (Nat × (Nat → Int))) (d k pc : Nat) (ls st : List qV) (w : qW) (n : Nat) (v : qV) (w' : qW) (n' : Nat), X sc d k pc ls st w n = some (v, w', n') → k < 306 →
  ∀ (p : Program) (e : Env) (R : Room) (s : State) (m : MethodId) (args : Array Value) (below : List Frame) (meth : Method) (c : Code) (Q : State → Prop) (D : va_G) (A : Nat → Prop) (H0 : Heap) (sa ad : Nat → Nat) (ac : Nat → ClassId) (arr : Array Slot) (H : Heap) (locs : List Loc) (cells slots : Nat),
  qFx p s m args meth c A H0 sa sc k → qRel D A s H0 sa k ls st w n ad ac arr H locs → (d ≤ R.frames ∧ 60 * d ≤ R.locals ∧ cells + n' ≤ R.cells + n ∧ slots + qSz n' ≤ R.slots + qSz n) →
  qEnd p l e R s m args below meth c Q D A H0 k v w' n n' ad ac cells slots →
  W p l e R s m args below meth c H locs cells slots Q (F0 m pc arr (st.map (qcv ad sa)))
theorem qT_in {t : Nat} (h : t < 305) : Cond.code (qnm t) (qby t) (qml t) (qret t) ∈ qAL ∧ (bif qis t then Cond.static (qnm t) else Cond.instanceMethod (qnm t)) ∈ qAL ∧ Cond.initialized (qnm t).cls ∈ qAL ∧ (qnm t).cls = qcn (qow t) ∧ ((qnm t).cls ≠ "java/lang/invoke/MethodHandle" ∧ (qnm t).cls ≠ "java/lang/invoke/VarHandle") ∧ (parseMethodDescriptor (qnm t).desc).map (fun d => d.parameters.length) = some (qnp t) ∧ plainName (qnm t).cls = true ∧ (qin t = decide ((qnm t).name = "<init>")) ∧ (qis t = false → qin t = false → Cond.selects (qcn (qow t)) (qnm t) (qnm t) ∈ qAL ∧ qow t < 13) ∧ (qin t = true → qret t = none ∧ qow t < 13 ∧ qis t = false) ∧ qml t ≤ 30 := by
  have hc := qckT_of h
  unfold qckT at hc
  simp only [Bool.and_eq_true, decide_eq_true_eq] at hc
  obtain ⟨⟨⟨⟨⟨⟨⟨⟨⟨⟨⟨⟨a1, a2⟩, a3⟩, a4⟩, a5⟩, a6⟩, a7⟩, a8⟩, a9⟩, a10⟩, a11⟩, a12⟩, a13⟩ := hc
  refine ⟨qwd1_in a1, qwd1_in a2, qwd1_in a3, a4, ⟨a5, a6⟩, a7, a8, a9, fun h1 h2 => ?_, fun h1 => ?_, Nat.le_of_ble_eq_true a12⟩
  · rw [h1, h2] at a10
    simp only [Bool.or_false, cond_false, Bool.and_eq_true, Nat.blt_eq] at a10
    exact ⟨qwd1_in a10.1, a10.2⟩
  · rw [h1] at a11
    simp only [cond_true, Bool.and_eq_true, decide_eq_true_eq, Nat.blt_eq, Bool.not_eq_true'] at a11
    exact ⟨a11.1.1, a11.1.2, a11.2⟩
theorem qM_in {o i t na sk : Nat} (h : qmd o i = some (t, na, sk)) : (t = 900 → Cond.methodLink (qcn o) i objectInit ∈ qAL) ∧ (t = 901 → Cond.methodLink (qcn o) i arraycopyName ∈ qAL) ∧ (t = 902 → Cond.methodLink (qcn o) i Lib.Math.abs.name ∈ qAL) ∧ (t = 903 → Cond.methodLink (qcn o) i Lib.Math.max.name ∈ qAL) ∧ (t = 904 → Cond.methodLink (qcn o) i Lib.Math.min.name ∈ qAL) ∧ (t = 905 → Cond.methodLink (qcn o) i Lib.MathLoose.max_long.x ∈ qAL) ∧
    (t < 900 ∨ 908 < t → t < 305 ∧ na = qnp t + (if sk = 0 then 0 else 1) ∧ qis t = Nat.beq sk 0 ∧ (sk ≠ 2 → Cond.methodLink (qcn o) i (qnm t) ∈ qAL)) ∧ (902 ≤ t → t ≤ 908 → na = (if t = 902 then 1 else if t = 906 then 1 else 2)) ∧ (t = 906 → Cond.methodLink (qcn o) i yJ0_length_8abf5 ∈ qAL) ∧ (t = 907 → Cond.methodLink (qcn o) i yJ0_charAt_5068e ∈ qAL) ∧ (t = 908 → Cond.methodLink (qcn o) i yJ0_indexOf_0f7a4 ∈ qAL) := by
  obtain ⟨h1, h2⟩ := qmd_bd h
  have hc := qckM_of h1 h2
  unfold qckM at hc
  rw [h] at hc
  replace hc : (if t = 900 then Nat.beq na 1 && qwd1 (qmp o i) (.methodLink (qcn o) i objectInit)
    else if t = 901 then Nat.beq na 5 && qwd1 (qmp o i) (.methodLink (qcn o) i arraycopyName)
    else if t = 902 then Nat.beq na 1 && qwd1 (qmp o i) (.methodLink (qcn o) i Lib.Math.abs.name)
    else if t = 903 then Nat.beq na 2 && qwd1 (qmp o i) (.methodLink (qcn o) i Lib.Math.max.name)
    else if t = 904 then Nat.beq na 2 && qwd1 (qmp o i) (.methodLink (qcn o) i Lib.Math.min.name)
    else if t = 905 then Nat.beq na 2 && qwd1 (qmp o i) (.methodLink (qcn o) i Lib.MathLoose.max_long.x)
    else if t = 906 then Nat.beq na 1 && qwd1 (qmp o i) (.methodLink (qcn o) i yJ0_length_8abf5)
    else if t = 907 then Nat.beq na 2 && qwd1 (qmp o i) (.methodLink (qcn o) i yJ0_charAt_5068e)
    else if t = 908 then Nat.beq na 2 && qwd1 (qmp o i) (.methodLink (qcn o) i yJ0_indexOf_0f7a4)
    else Nat.blt t 305 && Nat.beq na (qnp t + (if sk = 0 then 0 else 1)) && decide (qis t = Nat.beq sk 0) && (match (generalizing := false) sk with
      | 2 => decide (qwa (qmp o i) = some (.methodLinkNest (qcn o) i (qnm t) RX11))
      | _ => qwd1 (qmp o i) (.methodLink (qcn o) i (qnm t)))) = true := hc
  by_cases c0 : t = 900
  · subst c0
    rw [if_pos rfl, Bool.and_eq_true] at hc
    exact ⟨fun _ => qwd1_in hc.2, fun z => by omega, fun z => by omega, fun z => by omega, fun z => by omega, fun z => by omega, fun z => by omega, fun z z2 => by omega, fun z => by omega, fun z => by omega, fun z => by omega⟩
  rw [if_neg c0] at hc
  by_cases c1 : t = 901
  · subst c1
    rw [if_pos rfl, Bool.and_eq_true] at hc
    exact ⟨fun z => by omega, fun _ => qwd1_in hc.2, fun z => by omega, fun z => by omega, fun z => by omega, fun z => by omega, fun z => by omega, fun z z2 => by omega, fun z => by omega, fun z => by omega, fun z => by omega⟩
  rw [if_neg c1] at hc
  by_cases c2 : t = 902
  · subst c2
    rw [if_pos rfl, Bool.and_eq_true] at hc
    exact ⟨fun z => by omega, fun z => by omega, fun _ => qwd1_in hc.2, fun z => by omega, fun z => by omega, fun z => by omega, fun z => by omega, fun _ _ => Nat.eq_of_beq_eq_true hc.1, fun z => by omega, fun z => by omega, fun z => by omega⟩
  rw [if_neg c2] at hc
  by_cases c3 : t = 903
  · subst c3
    rw [if_pos rfl, Bool.and_eq_true] at hc
    exact ⟨fun z => by omega, fun z => by omega, fun z => by omega, fun _ => qwd1_in hc.2, fun z => by omega, fun z => by omega, fun z => by omega, fun _ _ => Nat.eq_of_beq_eq_true hc.1, fun z => by omega, fun z => by omega, fun z => by omega⟩
  rw [if_neg c3] at hc
  by_cases c4 : t = 904
  · subst c4
    rw [if_pos rfl, Bool.and_eq_true] at hc
    exact ⟨fun z => by omega, fun z => by omega, fun z => by omega, fun z => by omega, fun _ => qwd1_in hc.2, fun z => by omega, fun z => by omega, fun _ _ => Nat.eq_of_beq_eq_true hc.1, fun z => by omega, fun z => by omega, fun z => by omega⟩
  rw [if_neg c4] at hc
  by_cases c5 : t = 905
  · subst c5
    rw [if_pos rfl, Bool.and_eq_true] at hc
    exact ⟨fun z => by omega, fun z => by omega, fun z => by omega, fun z => by omega, fun z => by omega, fun _ => qwd1_in hc.2, fun z => by omega, fun _ _ => Nat.eq_of_beq_eq_true hc.1, fun z => by omega, fun z => by omega, fun z => by omega⟩
  rw [if_neg c5] at hc
  by_cases c6 : t = 906
  · subst c6
    rw [if_pos rfl, Bool.and_eq_true] at hc
    exact ⟨fun z => by omega, fun z => by omega, fun z => by omega, fun z => by omega, fun z => by omega, fun z => by omega, fun z => by omega, fun _ _ => Nat.eq_of_beq_eq_true hc.1, fun _ => qwd1_in hc.2, fun z => by omega, fun z => by omega⟩
  rw [if_neg c6] at hc
  by_cases c7 : t = 907
  · subst c7
    rw [if_pos rfl, Bool.and_eq_true] at hc
    exact ⟨fun z => by omega, fun z => by omega, fun z => by omega, fun z => by omega, fun z => by omega, fun z => by omega, fun z => by omega, fun _ _ => Nat.eq_of_beq_eq_true hc.1, fun z => by omega, fun _ => qwd1_in hc.2, fun z => by omega⟩
  rw [if_neg c7] at hc
  by_cases c8 : t = 908
  · subst c8
    rw [if_pos rfl, Bool.and_eq_true] at hc
    exact ⟨fun z => by omega, fun z => by omega, fun z => by omega, fun z => by omega, fun z => by omega, fun z => by omega, fun z => by omega, fun _ _ => Nat.eq_of_beq_eq_true hc.1, fun z => by omega, fun z => by omega, fun _ => qwd1_in hc.2⟩
  rw [if_neg c8] at hc
  simp only [Bool.and_eq_true, decide_eq_true_eq, Nat.blt_eq] at hc
  obtain ⟨⟨⟨b1, b2⟩, b3⟩, b4⟩ := hc
  refine ⟨fun z => by omega, fun z => by omega, fun z => by omega, fun z => by omega, fun z => by omega, fun z => by omega, fun _ => ⟨b1, Nat.eq_of_beq_eq_true b2, b3, fun h9 => ?_⟩, fun z z2 => by omega, fun z => by omega, fun z => by omega, fun z => by omega⟩
  split at b4
  · exact absurd rfl h9
  · exact qwd1_in b4
theorem qgood {ws : List Cond} (h : ∀ w ∈ ws, w ∈ qAL) : GoodIn qAL ws := fun w hw => ⟨h w hw, good_of_word (List.mem_filter.mp (h w hw)).2⟩
theorem qwd_in {t : Nat} (h : t < 305) : ∀ w ∈ qwd t, w ∈ qAL := fun w hw => by
  rcases List.mem_cons.mp hw with rfl | hw
  · exact (qT_in h).1
  · exact hw
-- the locals at the entry
theorem qpad_len : ∀ (m : Nat) (l : List qV), (qpad m l).length = m
  | 0, _ => rfl
  | m + 1, [] => by show (qpad m []).length + 1 = m + 1; rw [qpad_len m []]
  | m + 1, _ :: l => by show (qpad m l).length + 1 = m + 1; rw [qpad_len m l]
theorem qpad_nt : ∀ (m : Nat) (l : List qV) (j : Nat), qnt (qpad m l) j = if j < m then qnt l j else (9, 0)
  | 0, l, j => by rw [if_neg (by omega)]; rfl
  | m + 1, [], 0 => by rw [if_pos (by omega)]; rfl
  | m + 1, [], j + 1 => by
    show qnt (qpad m []) j = _
    rw [qpad_nt m [] j]
    by_cases h : j < m
    · rw [if_pos h, if_pos (by omega)]; rfl
    · rw [if_neg h, if_neg (by omega)]
  | m + 1, a :: l, 0 => by rw [if_pos (by omega)]; rfl
  | m + 1, a :: l, j + 1 => by
    show qnt (qpad m l) j = _
    rw [qpad_nt m l j]
    by_cases h : j < m
    · rw [if_pos h, if_pos (by omega)]; rfl
    · rw [if_neg h, if_neg (by omega)]
theorem qlay_1 (x : Int) (r : List qV) : qlay ((1, x) :: r) = (1, x) :: (9, 0) :: qlay r := rfl
theorem qlay_n {v : qV} (h : v.1 ≠ 1) (r : List qV) : qlay (v :: r) = v :: qlay r := by
  obtain ⟨t, x⟩ := v
  match t, h with
  | 0, _ => rfl
  | 1, h => exact absurd rfl h
  | _ + 2, _ => rfl
theorem qcv_c1 (ad sa : Nat → Nat) (x : Int) : (qcv ad sa (1, x)).category = 2 := rfl
theorem qlay_args (ad sa : Nat → Nat) : ∀ (as : List qV) (i j : Nat), (qnt (qlay as) j).1 < 4 → (i + j, qcv ad sa (qnt (qlay as) j)) ∈ lv_args i (as.map (qcv ad sa))
  | [], i, j, h => absurd (show (9 : Nat) < 4 from h) (by decide)
  | v :: r, i, j, h => by
    by_cases hv : v.1 = 1
    · obtain ⟨t, x⟩ := v
      have hv : t = 1 := hv
      subst hv
      rw [qlay_1] at h ⊢
      show _ ∈ (i, qcv ad sa (1, x)) :: lv_args (if (qcv ad sa (1, x)).category = 2 then i + 2 else i + 1) (r.map (qcv ad sa))
      rw [if_pos (qcv_c1 ad sa x)]
      match j, h with
      | 0, _ => exact List.mem_cons_self
      | 1, h => exact absurd (show (9 : Nat) < 4 from h) (by decide)
      | j + 2, h =>
        have := qlay_args ad sa r (i + 2) j h
        rw [show i + 2 + j = i + (j + 2) by omega] at this
        exact List.mem_cons_of_mem _ this
    · rw [qlay_n hv] at h ⊢
      show _ ∈ (i, qcv ad sa v) :: lv_args (if (qcv ad sa v).category = 2 then i + 2 else i + 1) (r.map (qcv ad sa))
      rw [if_neg (qcv_cat hv)]
      match j, h with
      | 0, _ => exact List.mem_cons_self
      | j + 1, h =>
        have := qlay_args ad sa r (i + 1) j h
        rw [show i + 1 + j = i + (j + 1) by omega] at this
        exact List.mem_cons_of_mem _ this
theorem qlay_sl (ad sa : Nat → Nat) : ∀ (as : List qV), (lg_sl (as.map (qcv ad sa))).length = (qlay as).length
  | [] => rfl
  | v :: r => by
    have ih := qlay_sl ad sa r
    have e : lg_sl ((v :: r).map (qcv ad sa)) = (if (qcv ad sa v).category = 2 then [Slot.val (qcv ad sa v), Slot.second] else [Slot.val (qcv ad sa v)]) ++ lg_sl (r.map (qcv ad sa)) := rfl
    rw [e, List.length_append, ih]
    by_cases hv : v.1 = 1
    · obtain ⟨t, x⟩ := v
      have hv : t = 1 := hv
      subst hv
      rw [if_pos (qcv_c1 ad sa x), qlay_1]
      simp; omega
    · rw [if_neg (qcv_cat hv), qlay_n hv]
      simp; omega
theorem qlay_rg {n : Nat} : ∀ (as : List qV), (∀ v ∈ as, qrg n v) → ∀ j, qrg n (qnt (qlay as) j)
  | [], _, j => fun h => absurd (show (9 : Nat) < 3 from h) (by decide)
  | v :: r, h, j => by
    have ih := qlay_rg r (fun x hx => h x (List.mem_cons_of_mem _ hx))
    by_cases hv : v.1 = 1
    · obtain ⟨t, x⟩ := v
      have hv : t = 1 := hv
      subst hv
      rw [qlay_1]
      match j with
      | 0 => exact h _ List.mem_cons_self
      | 1 => exact fun h => absurd (show (9 : Nat) < 3 from h) (by decide)
      | j + 2 => exact ih j
    · rw [qlay_n hv]
      match j with
      | 0 => exact h _ List.mem_cons_self
      | j + 1 => exact ih j
theorem qini_lr {t n : Nat} {as : List qV} {ad sa : Nat → Nat} {arr : Array Slot} (has : qSr n as) (hl : lv_has arr (qml t) (lv_args 0 (as.map (qcv ad sa)))) : qLr ad sa n (qini t as) arr := by
  refine ⟨?_, fun i hi => ?_, fun i => ?_⟩
  · unfold qini
    rw [qpad_len]
    exact ⟨hl.1, hl.2.1, fun q hq => by cases hq⟩
  · unfold qini at hi ⊢
    rw [qpad_nt] at hi ⊢
    by_cases h : i < qml t
    · rw [if_pos h] at hi ⊢
      have := qlay_args ad sa as 0 i hi
      rw [Nat.zero_add] at this
      exact hl.2.2 _ this
    · rw [if_neg h] at hi
      exact absurd hi (by decide)
  · unfold qini
    rw [qpad_nt]
    by_cases h : i < qml t
    · rw [if_pos h]; exact qlay_rg as (fun v hv => (has v hv).2) i
    · rw [if_neg h]; exact fun h => absurd (show (9 : Nat) < 3 from h) (by decide)
theorem qB0_blind (D : va_G) (ad sa : Nat → Nat) (ac : Nat → ClassId) (w : qW) (n sz : Nat) (av : List Value) : FrameBlind (va_Pc av (qB0 D ad sa ac w n sz)) := fun a U g mk q => by
  obtain ⟨q0, q1, q2, q3, q4⟩ := q
  exact ⟨q0, q1, q2.moved (u := U) (U := U.calling g mk a) (Vm.Alike.refl U.vm), qSt.same (s := U) (U := U.calling g mk a) rfl q3, q4.moved (u := U) (U := U.calling g mk a) (Vm.Alike.refl U.vm)⟩
/-- a method's contract out of its plain run -/
theorem q_met {l : Launch} {X : qXt} (hX : qSound l X) (hM : qMono X) {d t n n1 : Nat} {as : List qV} {w w1 : qW} {v : qV} (h : X none d t 0 (qini t as) [] w n = some (v, w1, n1)) (ht : t < 305) (has : qSr n as) (hlay : (qlay as).length ≤ qml t) (D : va_G) (ad sa : Nat → Nat) (ac : Nat → ClassId) (sz : Nat) :
    Met l (qnm t) (qwd t) (qrm d n n1) (va_Pc (as.map (qcv ad sa)) (qB0 D ad sa ac w n sz)) (qQc v D (va_A (qws ad ac w n) sz) ad ac w1 n n1) (n1 - n) (qSz n1 - qSz n) (va_A (qws ad ac w n) sz) := by
  obtain ⟨a1, a2, a3, a4, a5, a6, a7, a8, a9, a10, a11⟩ := qT_in ht
  refine Met.ofW (cc := qby t) (maxL := qml t) (ret := qret t) a7 rfl ?_
  intro p e s m args below meth c s₁ B hml hv
  obtain ⟨rfl, hsz, hW, hst, hstr⟩ := hv
  have hx := B.exec
  have hb := B.bytes
  have hr := B.returns
  have hts0 := atoms_spec (ws := qwd t) B.pre
  have hlocks := B.notSynchronized
  have hown : s.vm.findClass (qnm t).cls = some m.cls := findClass_of_methodNamed B.named
  have hnm : meth.name = (qnm t).name := (name_of_methodNamed B.named B.method).1
  subst hsz
  have hD := hW.2.1.self (sz := s.heap.size)
  generalize hAe : va_A (qws ad ac w n) s.heap.size = A at hD hstr ⊢
  have hA : ∀ q : Nat, s.heap.size ≤ q → A q := fun q h => by rw [← hAe]; exact Or.inr h
  have hl := lv_entry (as.map (qcv ad sa)) (n := qml t) (by rw [qlay_sl]; exact hlay)
  rw [lg_entry_eq]
  generalize (lg_sl (as.map (qcv ad sa)) ++ List.replicate (qml t - (lg_sl (as.map (qcv ad sa))).length) Slot.unset).toArray = arr at hl ⊢
  obtain ⟨hm1, hm2⟩ := hM _ _ _ _ _ _ _ _ _ _ _ h
  have hm3 := qSz_mono hm1
  refine hX none d t 0 (qini t as) [] w n v w1 n1 h (by omega) p e _ s m _ below meth c _ D A s.heap sa ad ac arr s.heap [] 0 0
    ⟨hx, hb, hml, by rw [← a4]; exact hown, fun w hw => hts0 w (List.mem_cons_of_mem _ hw), fun h9 => by rw [hnm]; rw [a8] at h9; exact of_decide_eq_true h9, hA, fun L xs h9 => (by cases h9), hst, hstr⟩
    ⟨⟨hW.1, hD, hW.2.2.1, hW.2.2.2.1, hW.2.2.2.2⟩, qini_lr has hl, qpad_len _ _, fun v hv => (by cases hv), va_S.rf⟩
    ⟨Nat.le_refl _, Nat.le_refl _, by show 0 + n1 ≤ (n1 - n) + n; omega, by show 0 + qSz n1 ≤ (qSz n1 - qSz n) + qSz n; omega⟩ ?_
  intro pcr ad' ac' arr' H' locs' cells' slots' hext hc hsl hW' hS'
  obtain rfl : cells' = n1 - n := by omega
  obtain rfl : slots' = qSz n1 - qSz n := by omega
  refine ⟨fun x hv hx32 hok hdec => ?_, fun hv h0 hdec => ?_⟩
  · subst hv
    have hq : ∀ t' : State, t'.heap = H' → s.WarmedH t'.vm → qQc (0, x) D A ad ac w1 n n1 (as.map (qcv ad sa)).toArray s (.returned (some (.int (Int32.ofInt x)))) t' := fun t' ht' hWm =>
      ⟨⟨Int32.ofInt x, (), rfl, ⟨rfl, hx32⟩, ad', ac', hext, by rw [ht']; exact hW'.moved hWm.alike⟩, hS'.F ht'⟩
    unfold qrok at hok
    split at hok
    · rename_i h9 h8
      have e1 : qret t = some .int := by unfold qret; rw [h9]; rfl
      exact W.iret hx hb (by rw [hr, e1]) hq hS'.2.2 hdec hlocks
    · rename_i y h9 h8
      cases h8
      have e1 : qret t = some .boolean := by unfold qret; rw [h9]; rfl
      exact W.zret (ty := .boolean) hx hb (by rw [hr, e1]) (q_b01 (of_decide_eq_true hok)).1 hq hS'.2.2 hdec hlocks
    · cases hok
  · subst hv
    have e1 : qret t = none := by unfold qret; rw [h0]; rfl
    exact W.vret hx hb (by rw [hr, e1]) (fun t' ht' hWm => ⟨⟨(), rfl, trivial, ad', ac', hext, by rw [ht']; exact hW'.moved hWm.alike⟩, hS'.F ht'⟩) hS'.2.2 hdec hlocks
theorem qcat_sum (ad sa : Nat → Nat) : ∀ (r : List qV), (((r.map (qcv ad sa)).map fun v => v.category).sum) = qcat r
  | [] => rfl
  | v :: r => by
    have ih := qcat_sum ad sa r
    rw [List.map_cons, List.map_cons, List.sum_cons, ih]
    obtain ⟨t, x⟩ := v
    match t with
    | 0 => rfl
    | 1 => rfl
    | 2 => show (va_rf _).category + _ = _; rw [va_rf_cat]; rfl
    | _ + 3 => rfl
theorem qtk_eq : ∀ (na : Nat) (st acc : List qV), na ≤ st.length → qtk na st acc = (st.take na).reverse ++ acc ∧ qdr na st = st.drop na
  | 0, st, acc, _ => ⟨rfl, rfl⟩
  | na + 1, [], acc, h => by simp at h
  | na + 1, a :: r, acc, h => by
    have ih := qtk_eq na r (a :: acc) (by simpa using h)
    exact ⟨by show qtk na r (a :: acc) = _; rw [ih.1]; simp, ih.2⟩
section QC
variable {p : Program} {l : Launch} {e : Env} {R : Room} {s : State} {m : MethodId} {args : Array Value} {below : List Frame} {meth : Method} {c : Code} {Q : State → Prop}
variable {D : va_G} {A : Nat → Prop} {H0 : Heap} {sa : Nat → Nat} {sc : Option (Nat × (Nat → Int))} {k : Nat}
/-- behind a call -/
theorem q_back {pc n n1 cells slots : Nat} {v1 : qV} {w w1 : qW} {ad : Nat → Nat} {ac : Nat → ClassId} {arr : Array Slot} {H : Heap} {locs : List Loc} {st0 : List Value} {rest : List qV} {a : Array Value}
    (hrun : va_Run p l e R s m args below meth c H locs cells slots (n1 - n) (qSz n1 - qSz n) (F0 m pc arr st0) (rest.map (qcv ad sa)) (qQc v1 D (va_A (qws ad ac w n) H.size) ad ac w1 n n1 a) (va_A (qws ad ac w n) H.size))
    (hv : v1 = (9, 0) ∨ ∃ x, v1 = (0, x)) (hnn : n ≤ n1) (hA : ∀ q, H0.size ≤ q → A q) (hW : qWr D A s H ad ac w n) (hs : qSr n rest) (hS : va_S A H0 H locs)
    (kk : ∀ (ad' : Nat → Nat) (ac' : Nat → ClassId) (H' : Heap) (locs' : List Loc), (∀ i, i ≤ n → ad' i = ad i ∧ ac' i = ac i) → qWr D A s H' ad' ac' w1 n1 → qSr n1 (qpsh v1 rest) → va_S A H0 H' locs' → W p l e R s m args below meth c H' locs' (cells + (n1 - n)) (slots + (qSz n1 - qSz n)) Q (F0 m (pc + 3) arr ((qpsh v1 rest).map (qcv ad' sa)))) :
    W p l e R s m args below meth c H locs cells slots Q (F0 m pc arr st0) := by
  have hsub : ∀ q, va_A (qws ad ac w n) H.size q → A q := fun q h => by
    rcases h with ⟨k, e, hk⟩ | h
    · exact hW.2.1.2 k _ hk
    · exact hA q (Nat.le_trans hS.1 h)
  rcases hv with rfl | ⟨x, rfl⟩
  · refine va_callv (a := a) (post := fun _ => True) (B := qB1 D (va_A (qws ad ac w n) H.size) ad ac w1 n n1) hrun hS (fun q _ h => hsub q h) hsub (fun u t H1 locs1 ht hvm _ hB _ _ hS1 => ?_)
    obtain ⟨ad', ac', hext, hW1⟩ := hB
    rw [ht] at hW1
    have K := kk ad' ac' H1 locs1 hext ((hW1.moved hvm.symm).weaken hsub) (hs.up hnn) hS1
    have e1 : (qpsh (9, 0) rest).map (qcv ad' sa) = rest.map (qcv ad sa) := q_stk hs (fun i hi => (hext i hi).1)
    rw [e1] at K
    exact K
  · refine va_calli (a := a) (post := fun r _ => r = Int32.ofInt x ∧ qi32 x) (B := qB1 D (va_A (qws ad ac w n) H.size) ad ac w1 n n1) hrun hS (fun q _ h => hsub q h) hsub (fun r u t H1 locs1 ht hvm hp hB _ _ hS1 => ?_)
    obtain ⟨ad', ac', hext, hW1⟩ := hB
    rw [ht] at hW1
    have K := kk ad' ac' H1 locs1 hext ((hW1.moved hvm.symm).weaken hsub) (.cn (q4 rfl) (.mki hp.2) (hs.up hnn)) hS1
    have e1 : (qpsh (0, x) rest).map (qcv ad' sa) = .int (Int32.ofInt x) :: rest.map (qcv ad sa) := by
      show qcv ad' sa (0, x) :: rest.map (qcv ad' sa) = _
      rw [q_stk hs (fun i hi => (hext i hi).1)]; rfl
    rw [e1] at K
    rw [hp.1]
    exact K
end QC
end
section
/-! the run of the plain program is the machine's: calls -/
theorem qaok_recv {t sk n : Nat} {as : List qV} (h : qaok t sk n as = true) (hsk : sk ≠ 0) : ∃ (b : Int) (r : List qV) (m x : Nat), as = (2, b) :: r ∧ qpl b.toNat = (0, qow t, m, x) ∧ 0 < b ∧ b ≤ n := by
  unfold qaok at h
  rw [Bool.and_eq_true] at h
  have h := h.2
  cases sk with
  | zero => exact absurd rfl hsk
  | succ j =>
    match as, h with
    | (2, b) :: r, h =>
      replace h : (match qpl b.toNat with
        | (0, c, _, _) => Nat.beq c (qow t) && decide (0 < b ∧ b ≤ n)
        | _ => false) = true := h
      split at h
      · rename_i c0 m0 x0 hpl
        simp only [Bool.and_eq_true, decide_eq_true_eq] at h
        have hc := Nat.eq_of_beq_eq_true h.1
        subst hc
        exact ⟨b, r, m0, x0, rfl, hpl, h.2.1, h.2.2⟩
      · cases h
    | [], h => exact absurd (show false = true from h) (by decide)
    | (0, _) :: _, h => exact absurd (show false = true from h) (by decide)
    | (1, _) :: _, h => exact absurd (show false = true from h) (by decide)
    | (_ + 3, _) :: _, h => exact absurd (show false = true from h) (by decide)
section QC
variable {p : Program} {l : Launch} {e : Env} {R : Room} {s : State} {m : MethodId} {args : Array Value} {below : List Frame} {meth : Method} {c : Code} {Q : State → Prop}
variable {D : va_G} {A : Nat → Prop} {H0 : Heap} {sa : Nat → Nat} {sc : Option (Nat × (Nat → Int))} {k : Nat}
theorem q_cl1 {X : qXt} (hX : qSound l X) (hM : qMono X) {d t na sk md i pc n n' cells slots : Nat} {ls st : List qV} {w w' : qW} {v : qV} {ad : Nat → Nat} {ac : Nat → ClassId} {arr : Array Slot} {H : Heap} {locs : List Loc}
    (h : qcl1 X sc d k t na sk md pc ls st w n = some (v, w', n')) (hq : qmd (qow k) i = some (t, na, sk)) (ht : t < 900 ∨ 908 < t)
    (hd : (md = 0 ∧ decode (qby k) pc = .ok (.invokestatic i, 3)) ∨ (md = 1 ∧ decode (qby k) pc = .ok (.invokevirtual i, 3)) ∨ (md = 2 ∧ decode (qby k) pc = .ok (.invokespecial i, 3))) (hk : k < 306)
    (F : qFx p s m args meth c A H0 sa sc k) (X0 : qRel D A s H0 sa k ls st w n ad ac arr H locs) (room : d ≤ R.frames ∧ 60 * d ≤ R.locals ∧ cells + n' ≤ R.cells + n ∧ slots + qSz n' ≤ R.slots + qSz n)
    (hend : qEnd p l e R s m args below meth c Q D A H0 k v w' n n' ad ac cells slots) :
    W p l e R s m args below meth c H locs cells slots Q (F0 m pc arr (st.map (qcv ad sa))) := by
  unfold qcl1 at h
  split at h
  · cases h
  rename_i d'
  split at h
  · rename_i hg
    split at h
    · rename_i v1 w1 n1 h1
      simp only [Bool.and_eq_true] at hg
      obtain ⟨⟨⟨⟨g1, g2⟩, g3⟩, g4⟩, g5⟩ := hg
      have g1 := Nat.le_of_ble_eq_true g1
      have g2 := Nat.le_of_ble_eq_true g2
      have g4 := Nat.le_of_ble_eq_true g4
      have F0' := F
      obtain ⟨hx, hb, hml, hown, hts, hinit, hA, hsc, hst⟩ := F
      obtain ⟨hW, hL, hn, hs, hS⟩ := X0
      obtain ⟨u1, u2, u3, u4, u5, u6, u7, u8, u9, u10, u11⟩ := qM_in hq
      obtain ⟨t305, hna, his, hlink⟩ := u7 ht
      obtain ⟨a1, a2, a3, a4, a5, a6, a7, a8, a9, a10, a11⟩ := qT_in t305
      obtain ⟨t1, t2⟩ := qtk_eq na st [] g1
      rw [List.append_nil] at t1
      have hlen : (qtk na st []).length = na := by rw [t1, List.length_reverse, List.length_take]; omega
      have hsas : qSr n (qtk na st []) := by rw [t1]; intro x hx9; exact hs x (List.mem_of_mem_take (List.mem_reverse.mp hx9))
      have hsr : qSr n (qdr na st) := by rw [t2]; intro x hx9; exact hs x (List.mem_of_mem_drop hx9)
      have hstk : st.map (qcv ad sa) = ((qtk na st []).map (qcv ad sa)).reverse ++ (qdr na st).map (qcv ad sa) := by
        rw [t1, t2, ← List.map_reverse, List.reverse_reverse, ← List.map_append, List.take_append_drop]
      generalize qtk na st [] = as at h1 g3 g4 hlen hsas hstk
      generalize qdr na st = rest at h g2 hsr hstk
      obtain ⟨m1, m2⟩ := hM _ _ _ _ _ _ _ _ _ _ _ h1
      have m3 := (hM _ _ _ _ _ _ _ _ _ _ _ h).1
      have z1 := qSz_mono m1
      have z2 := qSz_mono m3
      have MET := q_met hX hM h1 t305 hsas g4 D ad sa ac H.size
      have hroom : (qrm d' n n1).frames + 1 ≤ R.frames ∧ 8 + (qml t + 11) + (qrm d' n n1).locals ≤ R.locals := ⟨by show d' + 1 ≤ _; omega, by show 8 + (qml t + 11) + 60 * d' ≤ _; omega⟩
      have hsubA : ∀ q, va_A (qws ad ac w n) H.size q → A q := fun q h => by
        rcases h with ⟨k, e, hk⟩ | h
        · exact hW.2.1.2 k _ hk
        · exact hA q (Nat.le_trans hS.1 h)
      have hpre : ∀ U : State, U.heap = H → s.WarmedH U.vm → va_Pc (as.map (qcv ad sa)) (qB0 D ad sa ac w n H.size) (as.map (qcv ad sa)).toArray U := fun U hU hWm => ⟨rfl, by rw [hU], by rw [hU]; exact (hW.moved hWm.alike).weaken (fun _ _ => trivial), hst.1.warm hWm, by rw [hU]; exact (hst.2.go hS hsubA).moved hWm.alike⟩
      have hcat : (((rest.map (qcv ad sa)).map fun v => v.category).sum) ≤ 8 := by rw [qcat_sum]; exact g2
      have hsize : arr.size = qml k := by rw [hL.1.1, hn]
      have hf : cells + (n1 - n) ≤ R.cells ∧ slots + (qSz n1 - qSz n) ≤ R.slots := ⟨by omega, by omega⟩
      have hwd : ∀ w ∈ qwd t, w ∈ qAL := qwd_in t305
      rw [hstk]
      refine q_back (a := (as.map (qcv ad sa)).toArray) (w := w) (ac := ac) ?_ m2 m1 hA hW hsr hS (fun ad' ac' H' locs' hext hW1 hs1 hS1 => hX sc (d' + 1) k (pc + 3) ls (qpsh v1 rest) w1 n1 v w' n' h hk p e R s m args below meth c Q D A H0 sa ad' ac' arr H' locs' _ _ F0' ⟨hW1, hL.up (fun i hi => (hext i hi).1) m1, hn, hs1, hS1⟩ ⟨room.1, room.2.1, by omega, by omega⟩ (hend.next hext m1 (by omega) (by omega)))
      rcases hd with ⟨rfl, hd⟩ | ⟨rfl, hd⟩ | ⟨rfl, hd⟩
      · have g5 : Nat.beq sk 0 = true := g5
        have hsk : sk = 0 := Nat.eq_of_beq_eq_true g5
        subst hsk
        have hG : GoodIn qAL (va_wsS (qcn (qow k)) i (qnm t) (qwd t)) := qgood fun x hx9 => by
          rw [show qis t = true from his] at a2
          have hx9 : x ∈ ([.methodLink (qcn (qow k)) i (qnm t), .static (qnm t), .initialized (qnm t).cls] : List Cond) ++ qwd t := hx9
          rcases List.mem_append.mp hx9 with h9 | h9
          · simp only [List.mem_cons, List.not_mem_nil, or_false] at h9
            rcases h9 with rfl | rfl | rfl
            · exact hlink (by decide)
            · exact a2
            · exact a3
          · exact hwd x h9
        exact va_runS (As := as.map (qcv ad sa)) (rest := rest.map (qcv ad sa)) ⟨hx, hb, hml, hown, hts⟩ MET (va_cwS (qnp t) hts hG rfl rfl rfl ⟨a5.1, a5.2, a6⟩ hroom) ⟨qB0_blind _ _ _ _ _ _ _ _, hpre⟩ rfl (by rw [List.length_map, hlen, hna]; rfl) hsize rfl (lv_room hcat) hd hf
      · have g5 : (Nat.beq sk 1 && !qin t) = true := g5
        simp only [Bool.and_eq_true, Bool.not_eq_true'] at g5
        have hsk : sk = 1 := Nat.eq_of_beq_eq_true g5.1
        subst hsk
        obtain ⟨b, r, m0, x0, rfl, hpl, hb0, hbn⟩ := qaok_recv g3 (by decide)
        have his : qis t = false := his
        obtain ⟨b1, b2⟩ := a9 his g5.2
        rw [his] at a2
        have hG : GoodIn qAL (wsV (qcn (qow k)) i (qcn (qow t)) (qnm t) (qwd t)) := qgood fun x hx9 => by
          have hx9 : x ∈ ([.methodLink (qcn (qow k)) i (qnm t), .instanceMethod (qnm t), .selects (qcn (qow t)) (qnm t) (qnm t), .initialized (qcn (qow t))] : List Cond) ++ qwd t := hx9
          rcases List.mem_append.mp hx9 with h9 | h9
          · simp only [List.mem_cons, List.not_mem_nil, or_false] at h9
            rcases h9 with rfl | rfl | rfl | rfl
            · exact hlink (by decide)
            · exact a2
            · exact b1
            · rw [← a4]; exact a3
          · exact hwd x h9
        have he := qws_at (ad := ad) (ac := ac) (w := w) (n := n) (p := b.toNat) (by omega) (by omega)
        rw [qce_o hpl] at he
        rw [List.map_cons, qcv_ref hb0] at MET hpre ⊢
        rw [List.reverse_cons, List.append_assoc]
        have hlen' : (r.map (qcv ad sa)).length = qnp t := by
          have h9 : r.length + 1 = na := hlen
          rw [List.length_map]
          have h8 : na = qnp t + 1 := hna
          omega
        exact va_runV (As := r.map (qcv ad sa)) (rest := rest.map (qcv ad sa)) (b := ad b.toNat) (C := qcn (qow t)) ⟨hx, hb, hml, hown, hts⟩ MET (cwV (qnp t) hts hG rfl rfl rfl ⟨a4, a5.1, a5.2, a6⟩ hroom) ⟨qB0_blind _ _ _ _ _ _ _ _, va_recv hW.2.2.1 hW.1 (qcl_at b2) he, hpre⟩ rfl hlen' hsize rfl (lv_room hcat) hd hf
      · have g5 : (Nat.ble 1 sk && qin t) = true := g5
        simp only [Bool.and_eq_true] at g5
        have hsk : 1 ≤ sk := Nat.le_of_ble_eq_true g5.1
        obtain ⟨b1, b2, b3⟩ := a10 g5.2
        obtain ⟨b, r, m0, x0, rfl, hpl, hb0, hbn⟩ := qaok_recv g3 (by omega)
        rw [b3] at a2
        have hnm : (qnm t).name = "<init>" := by
          rw [a8] at g5; exact of_decide_eq_true g5.2
        have hG : GoodIn qAL (qwd t) := qgood hwd
        have hw : qwd t = Cond.code (qnm t) (qby t) (qml t) none :: qAL := by unfold qwd; rw [b1]
        rw [List.map_cons, qcv_ref hb0] at MET hpre ⊢
        rw [List.reverse_cons, List.append_assoc]
        have hlen' : (r.map (qcv ad sa)).length = qnp t := by
          have h9 : r.length + 1 = na := hlen
          rw [List.length_map]
          rw [if_neg (by omega)] at hna
          omega
        by_cases h2 : sk = 2
        · subst h2
          exact va_runIN (As := r.map (qcv ad sa)) (rest := rest.map (qcv ad sa)) (b := ad b.toNat) ⟨hx, hb, hml, hown, hts⟩ MET ⟨va_cnB (qnp t) hts hG hw rfl rfl (hst.1.2.2 _ _ _ _ hq) (hts _ a3) ⟨a5.1, a5.2, a6⟩ hroom, hnm, hts _ a2⟩ ⟨qB0_blind _ _ _ _ _ _ _ _, hpre⟩ rfl hlen' hsize rfl (lv_room hcat) hd hf
        · exact va_runI (As := r.map (qcv ad sa)) (rest := rest.map (qcv ad sa)) (b := ad b.toNat) ⟨hx, hb, hml, hown, hts⟩ MET (cwI (qnp t) hts hG hw rfl rfl (hts _ a3) (hts _ (hlink h2)) (hts _ a2) hnm ⟨a5.1, a5.2, a6⟩ hroom) ⟨qB0_blind _ _ _ _ _ _ _ _, hpre⟩ rfl hlen' hsize rfl (lv_room hcat) hd hf
    · cases h
  · cases h
theorem q_ac {i na sk d pc n pc' n' cells slots : Nat} {ls st ls' st' : List qV} {w w' : qW} {ad : Nat → Nat} {ac : Nat → ClassId} {arr : Array Slot} {H : Heap} {locs : List Loc}
    (h : qac pc ls st w n = some (pc', ls', st', w', n')) (hq : qmd (qow k) i = some (901, na, sk)) (hd : decode (qby k) pc = .ok (.invokestatic i, 3)) (g2 : qcat (qdr 5 st) ≤ 8)
    (F : qFx p s m args meth c A H0 sa sc k) (X0 : qRel D A s H0 sa k ls st w n ad ac arr H locs) (r1 : 1 ≤ R.frames) (r2 : 60 ≤ R.locals)
    (kk : ∀ (H' : Heap) (locs' : List Loc), qRel D A s H0 sa k ls' st' w' n' ad ac arr H' locs' → W p l e R s m args below meth c H' locs' cells slots Q (F0 m pc' arr (st'.map (qcv ad sa)))) :
    W p l e R s m args below meth c H locs cells slots Q (F0 m pc arr (st.map (qcv ad sa))) := by
  obtain ⟨hx, hb, hml, hown, hts, hinit, hA, hsc, hst⟩ := F
  obtain ⟨hW, hL, hn, hs, hS⟩ := X0
  unfold qac at h
  split at h
  · rename_i m9 d9 b9 s9 a9 r
    split at h
    · rename_i la xa lb xb hpa hpb
      split at h
      · rename_i hc
        cases h
        obtain ⟨⟨c1, c2, c3, c4, c5⟩, c6, c7⟩ := hc
        have i1 := hs.h.2.i
        have i2 := hs.t.h.2.i
        have i3 := hs.t.t.t.h.2.i
        have hea := qws_at (ad := ad) (ac := ac) (w := w) (n := n) (p := a9.toNat) (by omega) (by omega)
        rw [qce_a hpa] at hea
        have heb := qws_at (ad := ad) (ac := ac) (w := w) (n := n) (p := b9.toNat) (by omega) (by omega)
        rw [qce_a hpb] at heb
        have hKa := hW.2.2.2.1 a9.toNat _ _ _ (by omega) (by omega) hpa
        have hKb := hW.2.2.2.1 b9.toNat _ _ _ (by omega) (by omega) hpb
        have g2 : qcat st' ≤ 8 := g2
        rw [List.map_cons, List.map_cons, List.map_cons, List.map_cons, List.map_cons, qcv_ref c6.1, qcv_ref c7.1]
        refine va_copyi (ty := .int) hx hb (by rw [hml, hL.1.1, hn]) hown (hts _ ((qM_in hq).2.1 rfl)) (hts _ qwYn) (hts _ qwYs) (hts _ qwYi) (qKi hKa hKb) hW.1 hW.2.1 hS (a9.toNat - 1) (b9.toNat - 1) 0 1 hea heb rfl rfl rfl (by rw [e_neg1 i3]; omega) (by rw [e_neg1 i2]; omega) (by rw [e_neg1 i1]; omega) (by rw [e_cl i3, e_cl i1]; omega) (by rw [e_cl i2, e_cl i1]; omega) (fun _ _ => rfl) r1 (Nat.le_trans (Nat.add_le_add_right (by rw [qcat_sum]; exact g2) _) (Nat.le_trans (show 8 + (nativeFrameWords "java/lang/System" "arraycopy" 5 + 11) ≤ 60 by decide +kernel) r2)) hd (fun H1 locs1 h1 h2 h3 => ?_)
        rw [e_cl i1, e_cl i2, e_cl i3] at h1 h2
        have hset : (qws ad ac w n).set (b9.toNat - 1) (ad b9.toNat, .inl (ac b9.toNat, lb, .inl (va_cpy (fun j => Int32.ofInt (w a9.toNat j)) (fun j => Int32.ofInt (w b9.toNat j)) s9.toNat d9.toNat m9.toNat))) = qws ad ac (qcpy w a9.toNat b9.toNat s9.toNat d9.toNat m9.toNat) n := by
          refine qws_set (by omega) (by omega) (fun q hq9 => by unfold qcpy; rw [if_neg hq9]) ?_
          rw [qce_a hpb]
          congr 3
          unfold qca qcpy
          congr 1
          funext j
          unfold va_cpy
          rw [if_pos rfl]
          by_cases hj : d9.toNat ≤ j ∧ j < d9.toNat + m9.toNat
          · rw [if_pos hj, if_pos hj]
          · rw [if_neg hj, if_neg hj]
        rw [hset] at h1 h2
        refine kk H1 locs1 ⟨⟨h1, h2, hW.2.2.1, hW.2.2.2.1, fun p h0 h5 j hj => ?_⟩, hL, hn, hs.t.t.t.t.t, h3⟩
        unfold qcpy
        by_cases hp : p = b9.toNat
        · subst hp
          rw [if_pos rfl]
          rw [qkd_a hpb]
          by_cases hj9 : d9.toNat ≤ j ∧ j < d9.toNat + m9.toNat
          · rw [if_pos hj9]
            have := hW.2.2.2.2 a9.toNat (by omega) (by omega) (s9.toNat + (j - d9.toNat)) (by rw [hpa]; show _ < la; omega)
            rwa [qkd_a hpa] at this
          · rw [if_neg hj9]
            have := hW.2.2.2.2 b9.toNat h0 h5 j hj
            rwa [qkd_a hpb] at this
        · rw [if_neg hp]
          exact hW.2.2.2.2 p h0 h5 j hj
      · cases h
    · cases h
  · cases h
theorem qWr.keep {H H1 : Heap} {ad : Nat → Nat} {ac : Nat → ClassId} {w : qW} {n : Nat} (h : qWr D A s H ad ac w n) (hk : ∀ q : Nat, q < H.size → H1[q]? = H[q]?) : qWr D A s H1 ad ac w n := ⟨fun k q hq => (h.1 k q hq).kept (hk q.1 (h.1 k q hq).lt), h.2⟩
theorem q_tx {i t na sk pc n pc' n' cells slots : Nat} {ls st ls' st' : List qV} {w w' : qW} {ad : Nat → Nat} {ac : Nat → ClassId} {arr : Array Slot} {H : Heap} {locs : List Loc}
    (h : qmt t pc ls st w n = some (pc', ls', st', w', n')) (ht6 : 906 ≤ t) (hq : qmd (qow k) i = some (t, na, sk)) (hd : decode (qby k) pc = .ok (.invokevirtual i, 3)) (g2 : qcat (qdr na st) ≤ 8)
    (F : qFx p s m args meth c A H0 sa sc k) (X0 : qRel D A s H0 sa k ls st w n ad ac arr H locs) (r1 : 4 ≤ R.frames) (r2 : 240 ≤ R.locals) (r3 : cells ≤ R.cells) (r4 : slots ≤ R.slots)
    (kk : ∀ (H' : Heap) (locs' : List Loc), qRel D A s H0 sa k ls' st' w' n' ad ac arr H' locs' → W p l e R s m args below meth c H' locs' cells slots Q (F0 m pc' arr (st'.map (qcv ad sa)))) :
    W p l e R s m args below meth c H locs cells slots Q (F0 m pc arr (st.map (qcv ad sa))) := by
  obtain ⟨hx, hb, hml, hown, hts, hinit, hA, hsc, hst⟩ := F
  obtain ⟨hW, hL, hn, hs, hS⟩ := X0
  obtain ⟨u1, u2, u3, u4, u5, u6, u7, u8, u9, u10, u11⟩ := qM_in hq
  have hsize : arr.size = qml k := by rw [hL.1.1, hn]
  have hZ := hst.2.2
  unfold qmt at h
  split at h
  · omega
  · omega
  · omega
  · omega
  · rename_i x r
    have hna : na = 1 := u8 (by decide) (by decide)
    subst hna
    split at h
    · rename_i l9 hl9
      cases h
      obtain ⟨hx0, hl8⟩ := qtxb_in hl9
      obtain ⟨v, hT⟩ := hst.2.1 _ _ hl8
      rw [show (x - 1).toNat + 1 = x.toNat by omega] at hT
      obtain ⟨b1, b2⟩ := qtc_in hl8
      have hcat : (((r.map (qcv ad sa)).map fun v => v.category).sum) ≤ 8 := by rw [qcat_sum]; exact g2
      show W p l e R s m args below meth c H locs cells slots Q (F0 m pc arr (.ref (sa x.toNat) :: r.map (qcv ad sa)))
      refine va_calli (post := fun r (_ : Unit) => r = nI l9.length) (B := fun _ _ => True) (A1 := fun q => H.size ≤ q) (va_runV (As := []) (rest := r.map (qcv ad sa)) (b := sa x.toNat) (C := RJ0) ⟨hx, hb, hml, hown, hts⟩ (jc_length l (sa x.toNat) v l9.length (qtf l9) H.size (by omega)) (cwV 0 hts (jgV (u9 rfl) jw_i_length jw_v_length jw_n_RJ0 jws_length_in) rfl rfl rfl ⟨rfl, by decide, by decide, by decide +kernel⟩ ⟨by show 1 + 1 ≤ _; omega, by show 8 + (1 + 11) + 60 * 1 ≤ _; omega⟩) ⟨jq_blind _ _ _ _ _ _, jrecv hS hT, jpre hS hA hT hZ _⟩ rfl rfl hsize rfl (lv_room hcat) hd ⟨by omega, by omega⟩) hS (fun q h9 h => absurd h (Nat.not_le.mpr h9)) (fun q h => hA q (Nat.le_trans hS.1 h)) (fun r9 _ t9 H1 locs1 _ _ hr9 _ _ hk hS1 => ?_)
      subst hr9
      have K := kk H1 locs1 ⟨hW.keep (fun q h => hk q h (Nat.not_le.mpr h)), hL, hn, .cn (q4 rfl) (.mki ⟨by omega, by omega⟩) hs.t, hS1⟩
      have e1 : qcv ad sa (0, (l9.length : Int)) = .int (nI l9.length) := by
        show Value.int (Int32.ofInt (l9.length : Int)) = _
        rw [e_nat (by omega)]; rfl
      rw [List.map_cons, e1] at K
      exact K
    · cases h
  · rename_i i9 x r
    have hna : na = 2 := u8 (by decide) (by decide)
    subst hna
    split at h
    · rename_i l9 hl9
      split at h
      · rename_i hi9
        cases h
        obtain ⟨hx0, hl8⟩ := qtxb_in hl9
        obtain ⟨v, hT⟩ := hst.2.1 _ _ hl8
        rw [show (x - 1).toNat + 1 = x.toNat by omega] at hT
        obtain ⟨b1, b2⟩ := qtc_in hl8
        have hcat : (((r.map (qcv ad sa)).map fun v => v.category).sum) ≤ 8 := by rw [qcat_sum]; exact g2
        have ei : Int32.ofInt i9 = nI i9.toNat := by
          rw [show i9 = ((i9.toNat : Nat) : Int) by omega, e_nat (by omega), Int.toNat_natCast]; rfl
        show W p l e R s m args below meth c H locs cells slots Q (F0 m pc arr (.int (Int32.ofInt i9) :: .ref (sa x.toNat) :: r.map (qcv ad sa)))
        rw [ei]
        refine va_calli (post := fun r (_ : Unit) => r = ((qtf l9 i9.toNat &&& 255).toUInt32 % 65536).toInt32) (B := fun _ _ => True) (A1 := fun q => H.size ≤ q) (va_runV (As := [.int (nI i9.toNat)]) (rest := r.map (qcv ad sa)) (b := sa x.toNat) (C := RJ0) ⟨hx, hb, hml, hown, hts⟩ (jc_charAt l (sa x.toNat) v l9.length (qtf l9) H.size i9.toNat (by omega) (by omega)) (cwV 1 hts (jgV (u10 rfl) jw_i_charAt jw_v_charAt jw_n_RJ0 jws_charAt_in) rfl rfl rfl ⟨rfl, by decide, by decide, by decide +kernel⟩ ⟨by show 3 + 1 ≤ _; omega, by show 8 + (2 + 11) + 60 * 3 ≤ _; omega⟩) ⟨jq_blind _ _ _ _ _ _, jrecv hS hT, jpre hS hA hT hZ _⟩ rfl rfl hsize rfl (lv_room hcat) hd ⟨by omega, by omega⟩) hS (fun q h9 h => absurd h (Nat.not_le.mpr h9)) (fun q h => hA q (Nat.le_trans hS.1 h)) (fun r9 _ t9 H1 locs1 _ _ hr9 _ _ hk hS1 => ?_)
        subst hr9
        have hb9 := b2 i9.toNat
        have K := kk H1 locs1 ⟨hW.keep (fun q h => hk q h (Nat.not_le.mpr h)), hL, hn, .cn (q4 rfl) (.mki ⟨by omega, by omega⟩) hs.t.t, hS1⟩
        have e1 : qcv ad sa (0, l9.getD i9.toNat 0) = .int (((qtf l9 i9.toNat &&& 255).toUInt32 % 65536).toInt32) := by
          show Value.int (Int32.ofInt (l9.getD i9.toNat 0)) = _
          unfold qtf
          rw [qch7 hb9.1 hb9.2]
        rw [List.map_cons, e1] at K
        exact K
      · cases h
    · cases h
  · rename_i c9 x r
    have hna : na = 2 := u8 (by decide) (by decide)
    subst hna
    split at h
    · rename_i l9 hl9
      cases h
      obtain ⟨hx0, hl8⟩ := qtxb_in hl9
      obtain ⟨v, hT⟩ := hst.2.1 _ _ hl8
      rw [show (x - 1).toNat + 1 = x.toNat by omega] at hT
      obtain ⟨b1, b2⟩ := qtc_in hl8
      have i1 := hs.h.2.i
      have hcat : (((r.map (qcv ad sa)).map fun v => v.category).sum) ≤ 8 := by rw [qcat_sum]; exact g2
      show W p l e R s m args below meth c H locs cells slots Q (F0 m pc arr (.int (Int32.ofInt c9) :: .ref (sa x.toNat) :: r.map (qcv ad sa)))
      refine va_calli (post := fun r (_ : Unit) => r = (if Int32.ofInt c9 < 0 then -1 else if 255 < Int32.ofInt c9 then -1 else jix (qtf l9) (Int32.ofInt c9).toInt8.toInt32 l9.length 0)) (B := fun _ _ => True) (A1 := fun q => H.size ≤ q) (va_runV (As := [.int (Int32.ofInt c9)]) (rest := r.map (qcv ad sa)) (b := sa x.toNat) (C := RJ0) ⟨hx, hb, hml, hown, hts⟩ (jc_io1 l (sa x.toNat) v l9.length (qtf l9) H.size (Int32.ofInt c9) (by omega)) (cwV 1 hts (jgV (u11 rfl) jw_i_io1 jw_v_io1 jw_n_RJ0 jws_io1_in) rfl rfl rfl ⟨rfl, by decide, by decide, by decide +kernel⟩ ⟨by show 3 + 1 ≤ _; omega, by show 8 + (2 + 11) + 60 * 3 ≤ _; omega⟩) ⟨jq_blind _ _ _ _ _ _, jrecv hS hT, jpre hS hA hT hZ _⟩ rfl rfl hsize rfl (lv_room hcat) hd ⟨by omega, by omega⟩) hS (fun q h9 h => absurd h (Nat.not_le.mpr h9)) (fun q h => hA q (Nat.le_trans hS.1 h)) (fun r9 _ t9 H1 locs1 _ _ hr9 _ _ hk hS1 => ?_)
      subst hr9
      have hix := qix_in l9 c9 0 (Int.le_refl 0)
      have K := kk H1 locs1 ⟨hW.keep (fun q h => hk q h (Nat.not_le.mpr h)), hL, hn, .cn (q4 rfl) (.mki ⟨by omega, by omega⟩) hs.t.t, hS1⟩
      have e1 : qcv ad sa (0, qix l9 c9 0) = .int (if Int32.ofInt c9 < 0 then -1 else if 255 < Int32.ofInt c9 then -1 else jix (qtf l9) (Int32.ofInt c9).toInt8.toInt32 l9.length 0) := by
        show Value.int (Int32.ofInt (qix l9 c9 0)) = _
        rw [qix_ok i1 b1 b2]
      rw [List.map_cons, e1] at K
      exact K
    · cases h
  · cases h
theorem q_mt {i t na sk d pc n pc' n' cells slots : Nat} {ls st ls' st' : List qV} {w w' : qW} {ad : Nat → Nat} {ac : Nat → ClassId} {arr : Array Slot} {H : Heap} {locs : List Loc}
    (h : qmt t pc ls st w n = some (pc', ls', st', w', n')) (ht6 : t < 906) (hq : qmd (qow k) i = some (t, na, sk)) (hd : decode (qby k) pc = .ok (.invokestatic i, 3)) (g2 : qcat (qdr na st) ≤ 8)
    (F : qFx p s m args meth c A H0 sa sc k) (X0 : qRel D A s H0 sa k ls st w n ad ac arr H locs) (r1 : 1 ≤ R.frames) (r2 : 60 ≤ R.locals) (r3 : cells ≤ R.cells) (r4 : slots ≤ R.slots)
    (kk : qRel D A s H0 sa k ls' st' w' n' ad ac arr H locs → W p l e R s m args below meth c H locs cells slots Q (F0 m pc' arr (st'.map (qcv ad sa)))) :
    W p l e R s m args below meth c H locs cells slots Q (F0 m pc arr (st.map (qcv ad sa))) := by
  obtain ⟨hx, hb, hml, hown, hts, hinit, hA, hsc, hst⟩ := F
  obtain ⟨hW, hL, hn, hs, hS⟩ := X0
  obtain ⟨u1, u2, u3, u4, u5, u6, u7, u8, u9, u10, u11⟩ := qM_in hq
  have hsz : c.maxLocals = arr.size := by rw [hml, hL.1.1, hn]
  unfold qmt at h
  split at h
  · rename_i x r
    cases h
    have hna : na = 1 := u8 (by decide) (by decide)
    subst hna
    have i1 := hs.h.2.i
    have g2 : qcat r ≤ 8 := g2
    refine va_mabs hx hb hsz hown (hts _ (u3 rfl)) (hts _ qwMs_abs) (hts _ qwMi) (hts _ qwMc_abs) r1 (by rw [qcat_sum]; omega) r3 r4 hd ?_
    have e1 : (if (0 : Int32) ≤ Int32.ofInt x then Int32.ofInt x else 0 - Int32.ofInt x) = Int32.ofInt (if 0 ≤ x then x else wrp (0 - x)) := by
      have e0 : (0 : Int32) ≤ Int32.ofInt x ↔ 0 ≤ x := e_le (x := 0) e_z i1
      by_cases h0 : 0 ≤ x
      · rw [if_pos (e0.mpr h0), if_pos h0]
      · rw [if_neg (fun z => h0 (e0.mp z)), if_neg h0, ← e_sub]; rfl
    rw [e1]
    exact kk ⟨hW, hL, hn, .cn (q4 rfl) (.mki (by
      split
      · exact i1
      · exact wrp_in _)) hs.t, hS⟩
  · rename_i y x r
    cases h
    have hna : na = 2 := u8 (by decide) (by decide)
    subst hna
    have i1 := hs.h.2.i
    have i2 := hs.t.h.2.i
    have g2 : qcat r ≤ 8 := g2
    refine va_mmax hx hb hsz hown (hts _ (u4 rfl)) (hts _ qwMs_max) (hts _ qwMi) (hts _ qwMc_max) r1 (by rw [qcat_sum]; omega) r3 r4 hd ?_
    have e1 : (if Int32.ofInt x < Int32.ofInt y then Int32.ofInt y else Int32.ofInt x) = Int32.ofInt (if x < y then y else x) := by
      by_cases h0 : x < y
      · rw [if_pos ((e_lt i2 i1).mpr h0), if_pos h0]
      · rw [if_neg (fun z => h0 ((e_lt i2 i1).mp z)), if_neg h0]
    rw [e1]
    exact kk ⟨hW, hL, hn, .cn (q4 rfl) (.mki (by split <;> assumption)) hs.t.t, hS⟩
  · rename_i y x r
    cases h
    have hna : na = 2 := u8 (by decide) (by decide)
    subst hna
    have i1 := hs.h.2.i
    have i2 := hs.t.h.2.i
    have g2 : qcat r ≤ 8 := g2
    refine va_mmin hx hb hsz hown (hts _ (u5 rfl)) (hts _ qwMs_min) (hts _ qwMi) (hts _ qwMc_min) r1 (by rw [qcat_sum]; omega) r3 r4 hd ?_
    have e1 : (if Int32.ofInt y < Int32.ofInt x then Int32.ofInt y else Int32.ofInt x) = Int32.ofInt (if y < x then y else x) := by
      by_cases h0 : y < x
      · rw [if_pos ((e_lt i1 i2).mpr h0), if_pos h0]
      · rw [if_neg (fun z => h0 ((e_lt i1 i2).mp z)), if_neg h0]
    rw [e1]
    exact kk ⟨hW, hL, hn, .cn (q4 rfl) (.mki (by split <;> assumption)) hs.t.t, hS⟩
  · rename_i y x r
    cases h
    have hna : na = 2 := u8 (by decide) (by decide)
    subst hna
    have i1 := hs.h.2.lg
    have i2 := hs.t.h.2.lg
    have g2 : qcat r ≤ 8 := g2
    refine va_mmax_long hx hb hsz hown (hts _ (u6 rfl)) (hts _ qwMs_maxl) (hts _ qwMi) (hts _ qwMc_maxl) r1 (by rw [qcat_sum]; omega) r3 r4 hd ?_
    have e1 : (if Int64.ofInt y < Int64.ofInt x then Int64.ofInt x else Int64.ofInt y) = Int64.ofInt (if y < x then x else y) := by
      by_cases h0 : y < x
      · rw [if_pos ((e_llt i1 i2).mpr h0), if_pos h0]
      · rw [if_neg (fun z => h0 ((e_llt i1 i2).mp z)), if_neg h0]
    rw [e1]
    exact kk ⟨hW, hL, hn, .cn (q4 rfl) (.mkl (by split <;> assumption)) hs.t.t, hS⟩
  · omega
  · omega
  · omega
  · cases h
theorem q_inv {X : qXt} (hX : qSound l X) (hM : qMono X) {d md i pc n n' cells slots : Nat} {ls st : List qV} {w w' : qW} {v : qV} {ad : Nat → Nat} {ac : Nat → ClassId} {arr : Array Slot} {H : Heap} {locs : List Loc}
    (h : qinv X sc d k i md pc ls st w n = some (v, w', n'))
    (hd : (md = 0 ∧ decode (qby k) pc = .ok (.invokestatic i, 3)) ∨ (md = 1 ∧ decode (qby k) pc = .ok (.invokevirtual i, 3)) ∨ (md = 2 ∧ decode (qby k) pc = .ok (.invokespecial i, 3))) (hk : k < 306)
    (F : qFx p s m args meth c A H0 sa sc k) (X0 : qRel D A s H0 sa k ls st w n ad ac arr H locs) (room : d ≤ R.frames ∧ 60 * d ≤ R.locals ∧ cells + n' ≤ R.cells + n ∧ slots + qSz n' ≤ R.slots + qSz n)
    (hend : qEnd p l e R s m args below meth c Q D A H0 k v w' n n' ad ac cells slots) :
    W p l e R s m args below meth c H locs cells slots Q (F0 m pc arr (st.map (qcv ad sa))) := by
  have hmn := (qinv_mono hM h).1
  have hmz := qSz_mono hmn
  unfold qinv at h
  split at h
  · rename_i t na sk hq
    by_cases c0 : t = 900
    · subst c0
      rw [if_pos rfl] at h
      split at h
      · rename_i x r
        split at h
        · rename_i hg
          simp only [Bool.and_eq_true, decide_eq_true_eq] at hg
          obtain ⟨⟨g1, g2⟩, g3⟩ := hg
          have g1 := Nat.le_of_ble_eq_true g1
          have g2 := Nat.le_of_ble_eq_true g2
          have F0' := F
          obtain ⟨hx, hb, hml, hown, hts, hinit, hA, hsc, hst⟩ := F
          obtain ⟨hW, hL, hn, hs, hS⟩ := X0
          have hd : decode (qby k) pc = .ok (.invokespecial i, 3) := by
            rcases hd with ⟨z, _⟩ | ⟨z, _⟩ | ⟨_, z⟩
            · cases z
            · cases z
            · exact z
          have hcat : (((r.map (qcv ad sa)).map fun v => v.category).sum) ≤ 8 := by rw [qcat_sum]; exact g2
          rw [List.map_cons, qcv_ref g3]
          refine W.objInit hx hb hown (hts _ ((qM_in hq).1 rfl)) (hts _ qwOi) (hts _ qwOc) rfl (by show arr.size = _; rw [hml, hL.1.1, hn]) rfl hd (by omega) (by
            have : 2 * (F0 m pc arr (Value.ref (ad x.toNat) :: List.map (qcv ad sa) r)).monitorRoom + (((r.map (qcv ad sa)).map fun v => v.category).sum) ≤ 8 := lv_room hcat
            omega) ?_
          refine W.eq (g2 := F0 m (pc + 3) arr (r.map (qcv ad sa))) rfl ?_
          exact hX sc d k (pc + 3) ls r w n v w' n' h hk p e R s m args below meth c Q D A H0 sa ad ac arr H locs cells slots F0' ⟨hW, hL, hn, hs.t, hS⟩ room hend
        · cases h
      · cases h
    rw [if_neg c0] at h
    by_cases c1 : t = 901
    · subst c1
      rw [if_pos rfl] at h
      split at h
      · rename_i hg
        simp only [Bool.and_eq_true] at hg
        obtain ⟨⟨g1, g2⟩, g3⟩ := hg
        have g1 := Nat.eq_of_beq_eq_true g1
        have g2 := Nat.le_of_ble_eq_true g2
        have g3 := Nat.le_of_ble_eq_true g3
        subst g1
        have hd : decode (qby k) pc = .ok (.invokestatic i, 3) := by
          rcases hd with ⟨_, z⟩ | ⟨z, _⟩ | ⟨z, _⟩
          · exact z
          · cases z
          · cases z
        unfold qgo at h
        split at h
        · rename_i pc1 ls1 st1 w1 n1 h1
          have hn1 := qac_n h1
          subst hn1
          exact q_ac (d := d) h1 hq hd g3 F X0 (by omega) (by omega) (fun H' locs' X1 => hX sc d k pc1 ls1 st1 w1 n1 v w' n' h hk p e R s m args below meth c Q D A H0 sa ad ac arr H' locs' cells slots F X1 room hend)
        · cases h
      · cases h
    rw [if_neg c1] at h
    by_cases c2 : 902 ≤ t
    · rw [if_pos (Nat.ble_eq_true_of_le c2)] at h
      split at h
      · rename_i hg
        simp only [Bool.and_eq_true] at hg
        obtain ⟨g1, g3⟩ := hg
        have g3 := Nat.le_of_ble_eq_true g3
        unfold qmm at g1
        unfold qgo at h
        split at h
        · rename_i pc1 ls1 st1 w1 n1 h1
          have hn1 := qmt_n h1
          subst hn1
          by_cases c6 : 906 ≤ t
          · rw [Nat.ble_eq_true_of_le c6, cond_true, Bool.and_eq_true] at g1
            have g2 := Nat.le_of_ble_eq_true g1.2
            have g1 := Nat.eq_of_beq_eq_true g1.1
            subst g1
            have hd : decode (qby k) pc = .ok (.invokevirtual i, 3) := by
              rcases hd with ⟨z, _⟩ | ⟨_, z⟩ | ⟨z, _⟩
              · cases z
              · exact z
              · cases z
            exact q_tx h1 c6 hq hd g3 F X0 (by omega) (by omega) (by omega) (by omega) (fun H' locs' X1 => hX sc d k pc1 ls1 st1 w1 n1 v w' n' h hk p e R s m args below meth c Q D A H0 sa ad ac arr H' locs' cells slots F X1 room hend)
          · have c7 : Nat.ble 906 t = false := by
              cases hq9 : Nat.ble 906 t
              · rfl
              · exact absurd (Nat.le_of_ble_eq_true hq9) c6
            rw [c7, cond_false, Bool.and_eq_true] at g1
            have g2 := Nat.le_of_ble_eq_true g1.2
            have g1 := Nat.eq_of_beq_eq_true g1.1
            subst g1
            have hd : decode (qby k) pc = .ok (.invokestatic i, 3) := by
              rcases hd with ⟨_, z⟩ | ⟨z, _⟩ | ⟨z, _⟩
              · exact z
              · cases z
              · cases z
            exact q_mt (d := d) h1 (by omega) hq hd g3 F X0 (by omega) (by omega) (by omega) (by omega) (fun X1 => hX sc d k pc1 ls1 st1 w1 n1 v w' n' h hk p e R s m args below meth c Q D A H0 sa ad ac arr H locs cells slots F X1 room hend)
        · cases h
      · cases h
    · rw [if_neg (fun z => c2 (Nat.le_of_ble_eq_true z))] at h
      exact q_cl1 hX hM h hq (by omega) hd hk F X0 room hend
  · cases h
theorem q_st1 {X : qXt} (hX : qSound l X) (hM : qMono X) {d len pc n n' cells slots : Nat} {ins : Instr} {ls st : List qV} {w w' : qW} {v : qV} {ad : Nat → Nat} {ac : Nat → ClassId} {arr : Array Slot} {H : Heap} {locs : List Loc}
    (h : qst1 X sc d k ins len pc ls st w n = some (v, w', n')) (hd : decode (qby k) pc = .ok (ins, len)) (ho : qok pc ins len = true) (hk : k < 306)
    (F : qFx p s m args meth c A H0 sa sc k) (X0 : qRel D A s H0 sa k ls st w n ad ac arr H locs) (room : d ≤ R.frames ∧ 60 * d ≤ R.locals ∧ cells + n' ≤ R.cells + n ∧ slots + qSz n' ≤ R.slots + qSz n)
    (hend : qEnd p l e R s m args below meth c Q D A H0 k v w' n n' ad ac cells slots) :
    W p l e R s m args below meth c H locs cells slots Q (F0 m pc arr (st.map (qcv ad sa))) := by
  unfold qst1 at h
  split at h
  · have hlen : len = 1 := by simpa [qok, qlen] using ho
    subst hlen
    split at h
    · rename_i x
      split at h
      · rename_i hok
        cases h
        exact (hend pc ad ac arr H locs cells slots (fun _ _ => ⟨rfl, rfl⟩) rfl rfl X0.1 X0.2.2.2.2).1 x rfl (X0.2.2.2.1.h.2.i) hok hd
      · cases h
    · cases h
  · have hlen : len = 1 := by simpa [qok, qlen] using ho
    subst hlen
    split at h
    · split at h
      · rename_i hok
        cases h
        exact (hend pc ad ac arr H locs cells slots (fun _ _ => ⟨rfl, rfl⟩) rfl rfl X0.1 X0.2.2.2.2).2 rfl (Nat.eq_of_beq_eq_true hok) hd
      · cases h
    · cases h
  · have hlen : len = 3 := by simpa [qok, qlen] using ho
    subst hlen
    exact q_inv hX hM h (Or.inl ⟨rfl, hd⟩) hk F X0 room hend
  · have hlen : len = 3 := by simpa [qok, qlen] using ho
    subst hlen
    exact q_inv hX hM h (Or.inr (Or.inl ⟨rfl, hd⟩)) hk F X0 room hend
  · have hlen : len = 3 := by simpa [qok, qlen] using ho
    subst hlen
    exact q_inv hX hM h (Or.inr (Or.inr ⟨rfl, hd⟩)) hk F X0 room hend
  · unfold qgo at h
    split at h
    · rename_i pc1 ls1 st1 w1 n1 h1
      have m1 := qs1_mono h1
      have m2 := (hM _ _ _ _ _ _ _ _ _ _ _ h).1
      have z1 := qSz_mono m1
      have z2 := qSz_mono m2
      refine q_any F ins len pc ls st w n pc1 ls1 st1 w1 n1 ad ac arr H locs cells slots hd ho h1 X0 ⟨by omega, by omega⟩ (fun ad' ac' arr' H' locs' cells' slots' hext hc hsl X1 => ?_)
      exact hX sc d k pc1 ls1 st1 w1 n1 v w' n' h hk p e R s m args below meth c Q D A H0 sa ad' ac' arr' H' locs' cells' slots' F X1 ⟨room.1, room.2.1, by omega, by omega⟩ (hend.next hext m1 hc hsl)
    · cases h
end QC
theorem q_sound (l : Launch) : ∀ f, qSound l (qex f)
  | 0 => fun sc d k pc ls st w n v w' n' h => by
    have h : (none : qR) = some (v, w', n') := h
    cases h
  | f + 1 => fun sc d k pc ls st w n v w' n' h hk p e R s m args below meth c Q D A H0 sa ad ac arr H locs cells slots F X0 room hend => by
    have h : (match qcd k pc with
      | some (ins, len) => qst1 (qex f) sc d k ins len pc ls st w n
      | none => none) = some (v, w', n') := h
    split at h
    · rename_i ins len hq
      obtain ⟨hd, ho⟩ := qcd_ok hk hq
      exact q_st1 (q_sound l f) (q_mono f) h hd ho hk F X0 room hend
    · cases h
end
section
/-! to show what a plain run comes to -/
noncomputable def qLe (X Y : qXt) : Prop := ∀ sc d k pc ls st w n r, X sc d k pc ls st w n = some r → Y sc d k pc ls st w n = some r
theorem qgo_le {X Y : qXt} (h : qLe X Y) {sc : Option (Nat × (Nat → Int))} {d k : Nat} {o : Option qC} {r : qV × qW × Nat} (hx : qgo X sc d k o = some r) : qgo Y sc d k o = some r := by
  unfold qgo at hx ⊢
  split at hx
  · exact h _ _ _ _ _ _ _ _ _ hx
  · cases hx
theorem qcl1_le {X Y : qXt} (h : qLe X Y) {sc : Option (Nat × (Nat → Int))} {d k t na sk md pc n : Nat} {ls st : List qV} {w : qW} {r : qV × qW × Nat} (hx : qcl1 X sc d k t na sk md pc ls st w n = some r) : qcl1 Y sc d k t na sk md pc ls st w n = some r := by
  unfold qcl1 at hx ⊢
  split at hx
  · cases hx
  · split at hx
    · rename_i hc
      rw [if_pos hc]
      split at hx
      · rename_i v w' n' h1
        rw [h _ _ _ _ _ _ _ _ _ h1]
        exact h _ _ _ _ _ _ _ _ _ hx
      · cases hx
    · cases hx
theorem qinv_le {X Y : qXt} (h : qLe X Y) {sc : Option (Nat × (Nat → Int))} {d k i md pc n : Nat} {ls st : List qV} {w : qW} {r : qV × qW × Nat} (hx : qinv X sc d k i md pc ls st w n = some r) : qinv Y sc d k i md pc ls st w n = some r := by
  unfold qinv at hx ⊢
  split at hx
  · rename_i t na sk hq
    by_cases c0 : t = 900
    · rw [if_pos c0] at hx ⊢
      split at hx
      · split at hx
        · rename_i hc
          rw [if_pos hc]
          exact h _ _ _ _ _ _ _ _ _ hx
        · cases hx
      · cases hx
    · rw [if_neg c0] at hx ⊢
      by_cases c1 : t = 901
      · rw [if_pos c1] at hx ⊢
        split at hx
        · rename_i hc
          rw [if_pos hc]; exact qgo_le h hx
        · cases hx
      · rw [if_neg c1] at hx ⊢
        by_cases c2 : Nat.ble 902 t = true
        · rw [if_pos c2] at hx ⊢
          split at hx
          · rename_i hc
            rw [if_pos hc]; exact qgo_le h hx
          · cases hx
        · rw [if_neg c2] at hx ⊢
          exact qcl1_le h hx
  · cases hx
theorem qst1_le {X Y : qXt} (h : qLe X Y) {sc : Option (Nat × (Nat → Int))} {d k len pc n : Nat} {ins : Instr} {ls st : List qV} {w : qW} {r : qV × qW × Nat} (hx : qst1 X sc d k ins len pc ls st w n = some r) : qst1 Y sc d k ins len pc ls st w n = some r := by
  unfold qst1 at hx ⊢
  split at hx
  · exact hx
  · exact hx
  · exact qinv_le h hx
  · exact qinv_le h hx
  · exact qinv_le h hx
  · exact qgo_le h hx
theorem qex_s {f : Nat} {sc : Option (Nat × (Nat → Int))} {d k pc : Nat} {ls st : List qV} {w : qW} {n : Nat} : qex (f + 1) sc d k pc ls st w n = (match qcd k pc with
    | some (ins, len) => qst1 (qex f) sc d k ins len pc ls st w n
    | none => none) := rfl
theorem qex_le1 : ∀ f, qLe (qex f) (qex (f + 1))
  | 0 => fun sc d k pc ls st w n r h => by
    have h : (none : qR) = some r := h
    cases h
  | f + 1 => fun sc d k pc ls st w n r h => by
    rw [qex_s] at h
    rw [qex_s]
    split at h
    · exact qst1_le (qex_le1 f) h
    · cases h
theorem qex_le {f g : Nat} (h : f ≤ g) : qLe (qex f) (qex g) := by
  induction h with
  | refl => exact fun _ _ _ _ _ _ _ _ _ h => h
  | step _ ih => exact fun _ _ _ _ _ _ _ _ _ h => qex_le1 _ _ _ _ _ _ _ _ _ _ (ih _ _ _ _ _ _ _ _ _ h)
/-- method k, from this state on, comes to an end of which Q holds -/
noncomputable def qG (sc : Option (Nat × (Nat → Int))) (d k pc : Nat) (ls st : List qV) (w : qW) (n : Nat) (Q : qV → qW → Nat → Prop) : Prop := ∃ f v w' n', qex f sc d k pc ls st w n = some (v, w', n') ∧ Q v w' n'
noncomputable def qone (sc : Option (Nat × (Nat → Int))) (k pc : Nat) (ls st : List qV) (w : qW) (n : Nat) : Option qC := match qcd k pc with
  | some (ins, len) => qs1 sc k ins len pc ls st w n
  | none => none
noncomputable def qbk (sc : Option (Nat × (Nat → Int))) (k : Nat) : Nat → Nat → List qV → List qV → qW → Nat → Option qC
  | 0, pc, ls, st, w, n => some (pc, ls, st, w, n)
  | j + 1, pc, ls, st, w, n => match qone sc k pc ls st w n with
    | some (pc', ls', st', w', n') => qbk sc k j pc' ls' st' w' n'
    | none => none
theorem qst1_one {X : qXt} {sc : Option (Nat × (Nat → Int))} {d k len pc n : Nat} {ins : Instr} {ls st : List qV} {w : qW} {c : qC} (h : qs1 sc k ins len pc ls st w n = some c) : qst1 X sc d k ins len pc ls st w n = qgo X sc d k (some c) := by
  rw [← h]
  cases ins <;> first | rfl | (exfalso; have h : (none : Option qC) = some c := h; cases h)
section QG
variable {sc : Option (Nat × (Nat → Int))} {d k pc n : Nat} {ls st : List qV} {w : qW} {Q : qV → qW → Nat → Prop}
theorem qG.mono {Q' : qV → qW → Nat → Prop} (h : qG sc d k pc ls st w n Q) (hq : ∀ v w' n', Q v w' n' → Q' v w' n') : qG sc d k pc ls st w n Q' := by
  obtain ⟨f, v, w', n', h1, h2⟩ := h
  exact ⟨f, v, w', n', h1, hq _ _ _ h2⟩
theorem qG.one {pc' n' : Nat} {ls' st' : List qV} {w' : qW} (h : qone sc k pc ls st w n = some (pc', ls', st', w', n')) (g : qG sc d k pc' ls' st' w' n' Q) : qG sc d k pc ls st w n Q := by
  obtain ⟨f, v, w1, n1, h1, h2⟩ := g
  refine ⟨f + 1, v, w1, n1, ?_, h2⟩
  rw [qex_s]
  unfold qone at h
  split at h
  · rename_i ins len hq
    rw [qst1_one h]
    exact h1
  · cases h
theorem qG.blk : ∀ (j : Nat) {pc pc' n n' : Nat} {ls st ls' st' : List qV} {w w' : qW}, qbk sc k j pc ls st w n = some (pc', ls', st', w', n') → qG sc d k pc' ls' st' w' n' Q → qG sc d k pc ls st w n Q
  | 0, pc, pc', n, n', ls, st, ls', st', w, w', h, g => by
    have h : some (pc, ls, st, w, n) = some (pc', ls', st', w', n') := h
    cases h; exact g
  | j + 1, pc, pc', n, n', ls, st, ls', st', w, w', h, g => by
    have h : (match qone sc k pc ls st w n with
      | some (pc', ls', st', w', n') => qbk sc k j pc' ls' st' w' n'
      | none => none) = some (pc', ls', st', w', n') := h
    split at h
    · rename_i h1
      exact qG.one h1 (qG.blk j h g)
    · cases h
theorem qG.ite {P : Prop} [Decidable P] {a b : qC} (h : qone sc k pc ls st w n = if P then some a else some b) (hp : P → qG sc d k a.1 a.2.1 a.2.2.1 a.2.2.2.1 a.2.2.2.2 Q) (hn : ¬ P → qG sc d k b.1 b.2.1 b.2.2.1 b.2.2.2.1 b.2.2.2.2 Q) : qG sc d k pc ls st w n Q := by
  by_cases hP : P
  · rw [if_pos hP] at h; exact qG.one h (hp hP)
  · rw [if_neg hP] at h; exact qG.one h (hn hP)
/-- an instruction with a guard -/
theorem qG.gd {P : Prop} [Decidable P] {pc' n' : Nat} {ls' st' : List qV} {w' : qW} (h : qone sc k pc ls st w n = if P then some (pc', ls', st', w', n') else none) (hp : P) (g : qG sc d k pc' ls' st' w' n' Q) : qG sc d k pc ls st w n Q := by
  rw [if_pos hp] at h; exact qG.one h g
/-- a division -/
theorem qG.gn {P : Prop} [Decidable P] {pc' n' : Nat} {ls' st' : List qV} {w' : qW} (h : qone sc k pc ls st w n = if P then none else some (pc', ls', st', w', n')) (hp : ¬ P) (g : qG sc d k pc' ls' st' w' n' Q) : qG sc d k pc ls st w n Q := by
  rw [if_neg hp] at h; exact qG.one h g
/-- an array's place -/
theorem qG.ar {P P2 : Prop} [Decidable P] [Decidable P2] {pc' n' : Nat} {ls' st' : List qV} {w' : qW} (h : qone sc k pc ls st w n = if P then (if P2 then some (pc', ls', st', w', n') else none) else none) (hp : P) (hp2 : P2) (g : qG sc d k pc' ls' st' w' n' Q) : qG sc d k pc ls st w n Q := by
  rw [if_pos hp, if_pos hp2] at h; exact qG.one h g
theorem qG.ret {x : Int} (h : qcd k pc = some (.ireturn, 1)) (hok : qrok (qrt k) (0, x) = true) (hq : Q (0, x) w n) : qG sc d k pc ls [(0, x)] w n Q := by
  refine ⟨1, (0, x), w, n, ?_, hq⟩
  rw [qex_s, h]
  show (if qrok (qrt k) (0, x) = true then some ((0, x), w, n) else none) = _
  rw [if_pos hok]
theorem qG.retv (h : qcd k pc = some (.return_, 1)) (hok : Nat.beq (qrt k) 0 = true) (hq : Q (9, 0) w n) : qG sc d k pc ls [] w n Q := by
  refine ⟨1, (9, 0), w, n, ?_, hq⟩
  rw [qex_s, h]
  show (if Nat.beq (qrt k) 0 = true then some ((9, 0), w, n) else none) = _
  rw [if_pos hok]
/-- the call that stands at a place: method, arguments, kind, way -/
noncomputable def qcq (k pc : Nat) : Option (Nat × Nat × Nat × Nat) := match qcd k pc with
  | some (.invokestatic i, _) => (qmd (qow k) i).map (fun x => (x.1, x.2.1, x.2.2, 0))
  | some (.invokevirtual i, _) => (qmd (qow k) i).map (fun x => (x.1, x.2.1, x.2.2, 1))
  | some (.invokespecial i, _) => (qmd (qow k) i).map (fun x => (x.1, x.2.1, x.2.2, 2))
  | _ => none
noncomputable def qcok (t na sk md n : Nat) (st : List qV) : Bool := Nat.ble na st.length && Nat.ble (qcat (qdr na st)) 8 && qaok t sk n (qtk na st []) && Nat.ble (qlay (qtk na st [])).length (qml t) && qmok md sk t
theorem qcq_inv {X : qXt} {t na sk md : Nat} (h : qcq k pc = some (t, na, sk, md)) : ∃ i ins len, qcd k pc = some (ins, len) ∧ qmd (qow k) i = some (t, na, sk) ∧ ∀ X sc d ls st w n, qst1 X sc d k ins len pc ls st w n = qinv X sc d k i md pc ls st w n := by
  unfold qcq at h
  split at h
  · rename_i i len hq
    obtain ⟨x, h1, h2⟩ := Option.map_eq_some_iff.mp h
    cases h2
    exact ⟨i, _, len, hq, h1, fun _ _ _ _ _ _ _ => rfl⟩
  · rename_i i len hq
    obtain ⟨x, h1, h2⟩ := Option.map_eq_some_iff.mp h
    cases h2
    exact ⟨i, _, len, hq, h1, fun _ _ _ _ _ _ _ => rfl⟩
  · rename_i i len hq
    obtain ⟨x, h1, h2⟩ := Option.map_eq_some_iff.mp h
    cases h2
    exact ⟨i, _, len, hq, h1, fun _ _ _ _ _ _ _ => rfl⟩
  · cases h
/-- a call -/
theorem qG.call {t na sk md : Nat} {ls1 r1 : List qV} {Q1 : qV → qW → Nat → Prop} (hq : qcq k pc = some (t, na, sk, md)) (ht : Nat.ble 900 t = false) (hok : qcok t na sk md n st = true) (hl : qini t (qtk na st []) = ls1) (hr : qdr na st = r1) (hc : qG none d t 0 ls1 [] w n Q1)
    (hk : ∀ v w' n', Q1 v w' n' → qG sc (d + 1) k (pc + 3) ls (qpsh v r1) w' n' Q) : qG sc (d + 1) k pc ls st w n Q := by
  subst hl
  subst hr
  obtain ⟨f1, v1, w1, n1, h1, h2⟩ := hc
  obtain ⟨f2, v2, w2, n2, h3, h4⟩ := hk _ _ _ h2
  obtain ⟨i, ins, len, e1, e2, e3⟩ := qcq_inv (X := qex 0) hq
  have ht9 : ¬ 900 ≤ t := fun z => by rw [Nat.ble_eq_true_of_le z] at ht; cases ht
  refine ⟨f1 + f2 + 1, v2, w2, n2, ?_, h4⟩
  rw [qex_s, e1]
  show qst1 (qex (f1 + f2)) sc (d + 1) k ins len pc ls st w n = _
  rw [e3]
  unfold qinv
  rw [e2]
  show (if t = 900 then _ else if t = 901 then _ else if Nat.ble 902 t = true then _ else qcl1 (qex (f1 + f2)) sc (d + 1) k t na sk md pc ls st w n) = _
  rw [if_neg (by omega), if_neg (by omega), if_neg (fun z => ht9 (by have := Nat.le_of_ble_eq_true z; omega))]
  unfold qcl1
  show (if qcok t na sk md n st = true then _ else none) = _
  rw [if_pos hok, qex_le (Nat.le_add_right f1 f2) _ _ _ _ _ _ _ _ _ h1]
  exact qex_le (Nat.le_add_left f2 f1) _ _ _ _ _ _ _ _ _ h3
/-- Object.<init>, copying, Math -/
theorem qG.oin {na sk : Nat} {x : Int} {r : List qV} (hq : qcq k pc = some (900, na, sk, 2)) (h8 : Nat.ble (qcat r) 8 = true) (hx : 0 < x) (g : qG sc (d + 1) k (pc + 3) ls r w n Q) : qG sc (d + 1) k pc ls ((2, x) :: r) w n Q := by
  obtain ⟨f, v, w1, n1, h1, h2⟩ := g
  obtain ⟨i, ins, len, e1, e2, e3⟩ := qcq_inv (X := qex 0) hq
  refine ⟨f + 1, v, w1, n1, ?_, h2⟩
  rw [qex_s, e1]
  show qst1 (qex f) sc (d + 1) k ins len pc ls ((2, x) :: r) w n = _
  rw [e3]
  unfold qinv
  rw [e2]
  show (if Nat.ble 1 (d + 1) && Nat.ble (qcat r) 8 && decide (0 < x) then qex f sc (d + 1) k (pc + 3) ls r w n else none) = _
  rw [h8, decide_eq_true hx]
  exact h1
theorem qG.mth {t na sk md pc' n' : Nat} {ls' st' : List qV} {w' : qW} (hq : qcq k pc = some (t, na, sk, md)) (ht : Nat.ble 902 t = true) (hm : qmm t md (d + 1) = true) (h8 : Nat.ble (qcat (qdr na st)) 8 = true) (h : qmt t pc ls st w n = some (pc', ls', st', w', n')) (g : qG sc (d + 1) k pc' ls' st' w' n' Q) : qG sc (d + 1) k pc ls st w n Q := by
  obtain ⟨f, v, w1, n1, h1, h2⟩ := g
  obtain ⟨i, ins, len, e1, e2, e3⟩ := qcq_inv (X := qex 0) hq
  have ht9 := Nat.le_of_ble_eq_true ht
  refine ⟨f + 1, v, w1, n1, ?_, h2⟩
  rw [qex_s, e1]
  show qst1 (qex f) sc (d + 1) k ins len pc ls st w n = _
  rw [e3]
  unfold qinv
  rw [e2]
  show (if t = 900 then _ else if t = 901 then _ else if Nat.ble 902 t = true then (if qmm t md (d + 1) && Nat.ble (qcat (qdr na st)) 8 then qgo (qex f) sc (d + 1) k (qmt t pc ls st w n) else none) else _) = _
  rw [if_neg (by omega), if_neg (by omega), if_pos ht, hm, h8, h]
  exact h1
theorem qG.cpy {na sk pc' n' : Nat} {P : Prop} [Decidable P] {ls' st' : List qV} {w' : qW} (hq : qcq k pc = some (901, na, sk, 0)) (h8 : Nat.ble (qcat (qdr 5 st)) 8 = true) (h : qac pc ls st w n = if P then some (pc', ls', st', w', n') else none) (hp : P) (g : qG sc (d + 1) k pc' ls' st' w' n' Q) : qG sc (d + 1) k pc ls st w n Q := by
  rw [if_pos hp] at h
  obtain ⟨f, v, w1, n1, h1, h2⟩ := g
  obtain ⟨i, ins, len, e1, e2, e3⟩ := qcq_inv (X := qex 0) hq
  refine ⟨f + 1, v, w1, n1, ?_, h2⟩
  rw [qex_s, e1]
  show qst1 (qex f) sc (d + 1) k ins len pc ls st w n = _
  rw [e3]
  unfold qinv
  rw [e2]
  show (if Nat.beq 0 0 && Nat.ble 1 (d + 1) && Nat.ble (qcat (qdr 5 st)) 8 then qgo (qex f) sc (d + 1) k (qac pc ls st w n) else none) = _
  rw [h8, h]
  exact h1
end QG
end
