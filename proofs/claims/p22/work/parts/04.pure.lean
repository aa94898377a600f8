/-! the program run over plain numbers: values (kind, number), a world w of cells and slots, n cells made -/
noncomputable abbrev qV : Type := Nat × Int
noncomputable abbrev qW : Type := Nat → Nat → Int
noncomputable abbrev qC : Type := Nat × List qV × List qV × qW × Nat
noncomputable def wrp (x : Int) : Int := (x + 2147483648) % 4294967296 - 2147483648
noncomputable def wrl (x : Int) : Int := (x + 9223372036854775808) % 18446744073709551616 - 9223372036854775808
noncomputable def qand (x y : Int) : Int := (Int32.ofInt x &&& Int32.ofInt y).toInt
noncomputable def qor (x y : Int) : Int := (Int32.ofInt x ||| Int32.ofInt y).toInt
noncomputable def qxor (x y : Int) : Int := (Int32.ofInt x ^^^ Int32.ofInt y).toInt
noncomputable def qshl (x y : Int) : Int := (Int32.ofInt x <<< (Int32.ofInt y &&& 31)).toInt
noncomputable def qshr (x y : Int) : Int := (Int32.ofInt x >>> (Int32.ofInt y &&& 31)).toInt
noncomputable def qush (x y : Int) : Int := (((Int32.ofInt x).toUInt32 >>> ((Int32.ofInt y).toUInt32 &&& Int32.toUInt32 31)).toInt32).toInt
noncomputable def qdiv (x y : Int) : Int := wrp (x.tdiv y)
noncomputable def qrem (x y : Int) : Int := wrp (x - wrp (x.tdiv y) * y)
noncomputable def qland (x y : Int) : Int := (Int64.ofInt x &&& Int64.ofInt y).toInt
noncomputable def qlor (x y : Int) : Int := (Int64.ofInt x ||| Int64.ofInt y).toInt
noncomputable def qlshl (x y : Int) : Int := (Int64.ofInt x <<< ((Int32.ofInt y).toInt64 &&& 63)).toInt
noncomputable def qlush (x y : Int) : Int := (((Int64.ofInt x).toUInt64 >>> ((Int32.ofInt y).toInt64.toUInt64 &&& Int64.toUInt64 63)).toInt64).toInt
noncomputable def qldiv (x y : Int) : Int := wrl (x.tdiv y)
noncomputable def qi2b (x : Int) : Int := (x + 128) % 256 - 128
noncomputable def qcmp (x y : Int) : Int := if x < y then -1 else if x = y then 0 else 1
noncomputable def qtg (pc : Nat) (off : Int) : Nat := ((pc : Int) + off).toNat
/-- a list's place, (9, 0) behind its end -/
noncomputable def qnt : List qV → Nat → qV
  | [], _ => (9, 0)
  | a :: _, 0 => a
  | _ :: l, i + 1 => qnt l i
noncomputable def qset : List qV → Nat → qV → List qV
  | [], _, _ => []
  | _ :: l, 0, v => v :: l
  | a :: l, i + 1, v => a :: qset l i v
/-- a local is written: a long's other half goes -/
noncomputable def qhf (ls : List qV) (i : Nat) : List qV := match i with
  | 0 => ls
  | j + 1 => match qnt ls j with
    | (1, _) => qset ls j (9, 0)
    | _ => ls
noncomputable def qst (ls : List qV) (i : Nat) (v : qV) : List qV := match v with
  | (1, _) => qset (qset (qhf ls i) i v) (i + 1) (9, 0)
  | _ => qset (qhf ls i) i v
noncomputable def qup (w : qW) (p j : Nat) (v : Int) : qW := fun p' => if p' = p then (fun j' => if j' = j then v else w p j') else w p'
/-- from cell a on the cells are new -/
noncomputable def qclr (w : qW) (a : Nat) : qW := fun p => if Nat.ble a p then (fun _ => 0) else w p
noncomputable def qbr {α : Type} (c : Jvm.ClassFile.Cond) (x y : Int) (a b : α) : α := match c with
  | .eq => if x = y then a else b
  | .ne => if x = y then b else a
  | .lt => if x < y then a else b
  | .ge => if x < y then b else a
  | .gt => if y < x then a else b
  | .le => if y < x then b else a
/-- a switch as a row of tests -/
noncomputable def qtsw (f : Nat → Option qC) (pc : Nat) (x dflt : Int) : List Int → Int → Option qC
  | [], _ => f (qtg pc dflt)
  | o :: r, c => if x = c then f (qtg pc o) else qtsw f pc x dflt r (c + 1)
noncomputable def qat (a : ArrayType) : Nat := match a with
  | .int => 0
  | .long => 1
  | .boolean => 3
  | .byte => 4
  | _ => 8
noncomputable def qpush (kd : Nat) (x : Int) (st : List qV) : Option (List qV) := match kd with
  | 0 => some ((0, x) :: st)
  | 1 => some ((1, x) :: st)
  | 2 => some ((2, x) :: st)
  | 3 => some ((0, x) :: st)
  | _ => none
/-- one instruction that neither calls nor returns -/
noncomputable def qs1 (sc : Option (Nat × (Nat → Int))) (k : Nat) (ins : Instr) (len pc : Nat) (ls st : List qV) (w : qW) (n : Nat) : Option qC :=
  match ins with
  | .iload i => match qnt ls i with
    | (0, x) => some (pc + 2, ls, (0, x) :: st, w, n)
    | _ => none
  | .iload_n i => match qnt ls i.val with
    | (0, x) => some (pc + 1, ls, (0, x) :: st, w, n)
    | _ => none
  | .lload i => match qnt ls i with
    | (1, x) => some (pc + 2, ls, (1, x) :: st, w, n)
    | _ => none
  | .lload_n i => match qnt ls i.val with
    | (1, x) => some (pc + 1, ls, (1, x) :: st, w, n)
    | _ => none
  | .aload i => match qnt ls i with
    | (2, x) => some (pc + 2, ls, (2, x) :: st, w, n)
    | (3, x) => some (pc + 2, ls, (3, x) :: st, w, n)
    | _ => none
  | .aload_n i => match qnt ls i.val with
    | (2, x) => some (pc + 1, ls, (2, x) :: st, w, n)
    | (3, x) => some (pc + 1, ls, (3, x) :: st, w, n)
    | _ => none
  | .istore i => match st with
    | (0, x) :: r => if Nat.blt i (qml k) then some (pc + 2, qst ls i (0, x), r, w, n) else none
    | _ => none
  | .istore_n i => match st with
    | (0, x) :: r => if Nat.blt i.val (qml k) then some (pc + 1, qst ls i.val (0, x), r, w, n) else none
    | _ => none
  | .lstore i => match st with
    | (1, x) :: r => if Nat.blt (i + 1) (qml k) then some (pc + 2, qst ls i (1, x), r, w, n) else none
    | _ => none
  | .lstore_n i => match st with
    | (1, x) :: r => if Nat.blt (i.val + 1) (qml k) then some (pc + 1, qst ls i.val (1, x), r, w, n) else none
    | _ => none
  | .astore_n i => match st with
    | (2, x) :: r => if Nat.blt i.val (qml k) then some (pc + 1, qst ls i.val (2, x), r, w, n) else none
    | _ => none
  | .iinc i c => match qnt ls i with
    | (0, x) => if Nat.blt i (qml k) then some (pc + 3, qst ls i (0, wrp (x + c)), st, w, n) else none
    | _ => none
  | .iconst c => some (pc + 1, ls, (0, c) :: st, w, n)
  | .bipush c => some (pc + 2, ls, (0, c) :: st, w, n)
  | .sipush c => some (pc + 3, ls, (0, c) :: st, w, n)
  | .lconst c => some (pc + 1, ls, (1, (c.val : Int)) :: st, w, n)
  | .aconst_null => some (pc + 1, ls, (2, 0) :: st, w, n)
  | .ldc i => match qkn (qow k) i with
    | some (0, v) => some (pc + 2, ls, (0, v) :: st, w, n)
    | some (3, v) => some (pc + 2, ls, (3, v) :: st, w, n)
    | _ => none
  | .ldc_w i => match qkn (qow k) i with
    | some (0, v) => some (pc + 3, ls, (0, v) :: st, w, n)
    | some (3, v) => some (pc + 3, ls, (3, v) :: st, w, n)
    | _ => none
  | .ldc2_w i => match qkn (qow k) i with
    | some (1, v) => some (pc + 3, ls, (1, v) :: st, w, n)
    | _ => none
  | .dup => match st with
    | (0, x) :: r => some (pc + 1, ls, (0, x) :: (0, x) :: r, w, n)
    | (2, x) :: r => some (pc + 1, ls, (2, x) :: (2, x) :: r, w, n)
    | _ => none
  | .dup2 => match st with
    | (0, x) :: (2, y) :: r => some (pc + 1, ls, (0, x) :: (2, y) :: (0, x) :: (2, y) :: r, w, n)
    | _ => none
  | .pop => match st with
    | (0, _) :: r => some (pc + 1, ls, r, w, n)
    | _ => none
  | .iadd => match st with
    | (0, y) :: (0, x) :: r => some (pc + 1, ls, (0, wrp (x + y)) :: r, w, n)
    | _ => none
  | .isub => match st with
    | (0, y) :: (0, x) :: r => some (pc + 1, ls, (0, wrp (x - y)) :: r, w, n)
    | _ => none
  | .imul => match st with
    | (0, y) :: (0, x) :: r => some (pc + 1, ls, (0, wrp (x * y)) :: r, w, n)
    | _ => none
  | .idiv => match st with
    | (0, y) :: (0, x) :: r => if y = 0 then none else some (pc + 1, ls, (0, qdiv x y) :: r, w, n)
    | _ => none
  | .irem => match st with
    | (0, y) :: (0, x) :: r => if y = 0 then none else some (pc + 1, ls, (0, qrem x y) :: r, w, n)
    | _ => none
  | .ineg => match st with
    | (0, x) :: r => some (pc + 1, ls, (0, wrp (-x)) :: r, w, n)
    | _ => none
  | .iand => match st with
    | (0, y) :: (0, x) :: r => some (pc + 1, ls, (0, qand x y) :: r, w, n)
    | _ => none
  | .ior => match st with
    | (0, y) :: (0, x) :: r => some (pc + 1, ls, (0, qor x y) :: r, w, n)
    | _ => none
  | .ixor => match st with
    | (0, y) :: (0, x) :: r => some (pc + 1, ls, (0, qxor x y) :: r, w, n)
    | _ => none
  | .ishl => match st with
    | (0, y) :: (0, x) :: r => some (pc + 1, ls, (0, qshl x y) :: r, w, n)
    | _ => none
  | .ishr => match st with
    | (0, y) :: (0, x) :: r => some (pc + 1, ls, (0, qshr x y) :: r, w, n)
    | _ => none
  | .iushr => match st with
    | (0, y) :: (0, x) :: r => some (pc + 1, ls, (0, qush x y) :: r, w, n)
    | _ => none
  | .ladd => match st with
    | (1, y) :: (1, x) :: r => some (pc + 1, ls, (1, wrl (x + y)) :: r, w, n)
    | _ => none
  | .lsub => match st with
    | (1, y) :: (1, x) :: r => some (pc + 1, ls, (1, wrl (x - y)) :: r, w, n)
    | _ => none
  | .lmul => match st with
    | (1, y) :: (1, x) :: r => some (pc + 1, ls, (1, wrl (x * y)) :: r, w, n)
    | _ => none
  | .ldiv => match st with
    | (1, y) :: (1, x) :: r => if y = 0 then none else some (pc + 1, ls, (1, qldiv x y) :: r, w, n)
    | _ => none
  | .land => match st with
    | (1, y) :: (1, x) :: r => some (pc + 1, ls, (1, qland x y) :: r, w, n)
    | _ => none
  | .lor => match st with
    | (1, y) :: (1, x) :: r => some (pc + 1, ls, (1, qlor x y) :: r, w, n)
    | _ => none
  | .lshl => match st with
    | (0, y) :: (1, x) :: r => some (pc + 1, ls, (1, qlshl x y) :: r, w, n)
    | _ => none
  | .lushr => match st with
    | (0, y) :: (1, x) :: r => some (pc + 1, ls, (1, qlush x y) :: r, w, n)
    | _ => none
  | .lcmp => match st with
    | (1, y) :: (1, x) :: r => some (pc + 1, ls, (0, qcmp x y) :: r, w, n)
    | _ => none
  | .i2l => match st with
    | (0, x) :: r => some (pc + 1, ls, (1, x) :: r, w, n)
    | _ => none
  | .l2i => match st with
    | (1, x) :: r => some (pc + 1, ls, (0, wrp x) :: r, w, n)
    | _ => none
  | .i2b => match st with
    | (0, x) :: r => some (pc + 1, ls, (0, qi2b x) :: r, w, n)
    | _ => none
  | .i2c => match st with
    | (0, x) :: r => some (pc + 1, ls, (0, x % 65536) :: r, w, n)
    | _ => none
  | .goto off => some (qtg pc off, ls, st, w, n)
  | .ifCond c off => match st with
    | (0, x) :: r => qbr c x 0 (some (qtg pc off, ls, r, w, n)) (some (pc + 3, ls, r, w, n))
    | _ => none
  | .if_icmp c off => match st with
    | (0, y) :: (0, x) :: r => qbr c x y (some (qtg pc off, ls, r, w, n)) (some (pc + 3, ls, r, w, n))
    | _ => none
  | .if_acmp c off => match c, st with
    | .ne, (2, y) :: (2, x) :: r => if x = y then some (pc + 3, ls, r, w, n) else some (qtg pc off, ls, r, w, n)
    | _, _ => none
  | .tableswitch dflt lo _ offs => match st with
    | (0, x) :: r => qtsw (fun t => some (t, ls, r, w, n)) pc x dflt offs.toList lo
    | _ => none
  | .getfield i => match qfd (qow k) i, st with
    | some (ci, j, kd, _), (2, p) :: r => match qpl p.toNat with
      | (0, c, _, _) => if Nat.beq c ci then (match qpush kd (w p.toNat j) r with
        | some r' => if 0 < p ∧ p ≤ n then some (pc + 3, ls, r', w, n) else none
        | none => none) else none
      | _ => none
    | _, _ => none
  | .putfield i => match qfd (qow k) i, st with
    | some (ci, j, kd, fin), (t, v) :: (2, p) :: r => match qpl p.toNat with
      | (0, c, _, _) => if Nat.beq c ci && (Nat.beq fin 0 || qin k) then (match kd, t with
        | 0, 0 => if 0 < p ∧ p ≤ n then some (pc + 3, ls, r, qup w p.toNat j v, n) else none
        | 2, 2 => if 0 < p ∧ p ≤ n then some (pc + 3, ls, r, qup w p.toNat j v, n) else none
        | 3, 0 => if (0 < p ∧ p ≤ n) ∧ 0 ≤ v ∧ v ≤ 1 then some (pc + 3, ls, r, qup w p.toNat j v, n) else none
        | _, _ => none) else none
      | _ => none
    | _, _ => none
  | .iaload => match st with
    | (0, i) :: (2, p) :: r => match qpl p.toNat with
      | (1, 0, m, _) => if 0 ≤ i ∧ i < m then (if 0 < p ∧ p ≤ n then some (pc + 1, ls, (0, w p.toNat i.toNat) :: r, w, n) else none) else none
      | _ => none
    | (0, i) :: (3, 0) :: r => match sc with
      | some (L, xs) => if 0 ≤ i ∧ i < L then some (pc + 1, ls, (0, xs i.toNat) :: r, w, n) else none
      | none => none
    | _ => none
  | .baload => match st with
    | (0, i) :: (2, p) :: r => match qpl p.toNat with
      | (1, 3, m, _) => if 0 ≤ i ∧ i < m then (if 0 < p ∧ p ≤ n then some (pc + 1, ls, (0, w p.toNat i.toNat) :: r, w, n) else none) else none
      | (1, 4, m, _) => if 0 ≤ i ∧ i < m then (if 0 < p ∧ p ≤ n then some (pc + 1, ls, (0, w p.toNat i.toNat) :: r, w, n) else none) else none
      | _ => none
    | _ => none
  | .laload => match st with
    | (0, i) :: (2, p) :: r => match qpl p.toNat with
      | (1, 1, m, _) => if 0 ≤ i ∧ i < m then (if 0 < p ∧ p ≤ n then some (pc + 1, ls, (1, w p.toNat i.toNat) :: r, w, n) else none) else none
      | _ => none
    | _ => none
  | .aaload => match st with
    | (0, i) :: (2, p) :: r => match qpl p.toNat with
      | (1, 2, m, _) => if 0 ≤ i ∧ i < m then (if 0 < p ∧ p ≤ n then some (pc + 1, ls, (2, w p.toNat i.toNat) :: r, w, n) else none) else none
      | _ => none
    | _ => none
  | .iastore => match st with
    | (0, v) :: (0, i) :: (2, p) :: r => match qpl p.toNat with
      | (1, 0, m, _) => if 0 ≤ i ∧ i < m then (if 0 < p ∧ p ≤ n then some (pc + 1, ls, r, qup w p.toNat i.toNat v, n) else none) else none
      | _ => none
    | _ => none
  | .bastore => match st with
    | (0, v) :: (0, i) :: (2, p) :: r => match qpl p.toNat with
      | (1, 3, m, _) => if (0 ≤ i ∧ i < m) ∧ 0 ≤ v ∧ v ≤ 1 then (if 0 < p ∧ p ≤ n then some (pc + 1, ls, r, qup w p.toNat i.toNat v, n) else none) else none
      | (1, 4, m, _) => if (0 ≤ i ∧ i < m) ∧ -128 ≤ v ∧ v ≤ 127 then (if 0 < p ∧ p ≤ n then some (pc + 1, ls, r, qup w p.toNat i.toNat v, n) else none) else none
      | _ => none
    | _ => none
  | .lastore => match st with
    | (1, v) :: (0, i) :: (2, p) :: r => match qpl p.toNat with
      | (1, 1, m, _) => if 0 ≤ i ∧ i < m then (if 0 < p ∧ p ≤ n then some (pc + 1, ls, r, qup w p.toNat i.toNat v, n) else none) else none
      | _ => none
    | _ => none
  | .aastore => match st with
    | (2, v) :: (0, i) :: (2, p) :: r => match qpl p.toNat, qpl v.toNat with
      | (1, 2, m, c), (0, ci, _, _) => if Nat.beq c ci then (if 0 ≤ i ∧ i < m then (if (0 < p ∧ p ≤ n) ∧ 0 < v ∧ v ≤ n then some (pc + 1, ls, r, qup w p.toNat i.toNat v, n) else none) else none) else none
      | _, _ => none
    | _ => none
  | .arraylength => match st with
    | (2, p) :: r => match qpl p.toNat with
      | (1, _, m, _) => if 0 < p ∧ p ≤ n then some (pc + 1, ls, (0, (m : Int)) :: r, w, n) else none
      | _ => none
    | (3, 0) :: r => match sc with
      | some (L, _) => some (pc + 1, ls, (0, (L : Int)) :: r, w, n)
      | none => none
    | _ => none
  | .new i => match qcl (qow k) i, qpl (n + 1) with
    | some ci, (0, c, _, _) => if Nat.beq c ci then some (pc + 3, ls, (2, (n : Int) + 1) :: st, qclr w (n + 1), n + 1) else none
    | _, _ => none
  | .newarray a => match st, qpl (n + 1) with
    | (0, v) :: r, (1, e, m, _) => if Nat.beq e (qat a) then (if v = m then some (pc + 2, ls, (2, (n : Int) + 1) :: r, qclr w (n + 1), n + 1) else none) else none
    | _, _ => none
  | .anewarray i => match qcl (qow k) i, st, qpl (n + 1) with
    | some ci, (0, v) :: r, (1, 2, m, c) => if Nat.beq c ci && Nat.blt c 13 then (if v = m then some (pc + 3, ls, (2, (n : Int) + 1) :: r, qclr w (n + 1), n + 1) else none) else none
    | _, _, _ => none
  | .multianewarray i d => match qcl (qow k) i, d, st, qpl (n + 1) with
    | some 99, 2, (0, u) :: (0, v) :: r, (1, 2, m, 99) => if v = m ∧ 0 ≤ u then (if (List.range m).all (fun i => match qpl (n + 2 + i) with
        | (1, 1, h, _) => decide ((h : Int) = u)
        | _ => false) = true then some (pc + 4, ls, (2, (n : Int) + 1) :: r, fun p => if p = n + 1 then (fun j => if j < m then ((n + 2 + j : Nat) : Int) else 0) else qclr w (n + 1) p, n + 1 + m) else none) else none
    | _, _, _, _ => none
  | _ => none
noncomputable def qcat (l : List qV) : Nat := match l with
  | [] => 0
  | (1, _) :: r => 2 + qcat r
  | _ :: r => 1 + qcat r
/-- the locals at a method's entry -/
noncomputable def qlay : List qV → List qV
  | [] => []
  | (1, x) :: r => (1, x) :: (9, 0) :: qlay r
  | a :: r => a :: qlay r
noncomputable def qpad : Nat → List qV → List qV
  | 0, _ => []
  | m + 1, [] => (9, 0) :: qpad m []
  | m + 1, a :: l => a :: qpad m l
noncomputable def qini (k : Nat) (as : List qV) : List qV := qpad (qml k) (qlay as)
noncomputable def qtk : Nat → List qV → List qV → List qV
  | 0, _, acc => acc
  | m + 1, a :: l, acc => qtk m l (a :: acc)
  | _ + 1, [], acc => acc
noncomputable def qdr : Nat → List qV → List qV
  | 0, l => l
  | m + 1, _ :: l => qdr m l
  | _ + 1, [] => []
noncomputable def qrok (rt : Nat) (v : qV) : Bool := match rt, v with
  | 1, (0, _) => true
  | 2, (0, x) => decide (0 ≤ x ∧ x ≤ 1)
  | _, _ => false
noncomputable def qpsh (v : qV) (st : List qV) : List qV := match v with
  | (9, _) => st
  | a => a :: st
/-- the arguments of a call: no text or script, and for an instance method the receiver a made object of the class of the method -/
noncomputable def qaok (t st n : Nat) (as : List qV) : Bool := as.all (fun v => Nat.blt v.1 3 || (Nat.beq v.1 3 && decide (0 < v.2))) && (match st, as with
  | 0, _ => true
  | _, (2, p) :: _ => match qpl p.toNat with
    | (0, c, _, _) => Nat.beq c (qow t) && decide (0 < p ∧ p ≤ n)
    | _ => false
  | _, _ => false)
/-- copying between arrays of ints -/
noncomputable def qcpy (w : qW) (a b s d m : Nat) : qW := fun p => if p = b then (fun j => if d ≤ j ∧ j < d + m then w a (s + (j - d)) else w b j) else w p
noncomputable def qac (pc : Nat) (ls st : List qV) (w : qW) (n : Nat) : Option qC := match st with
  | (0, m) :: (0, d) :: (2, b) :: (0, s) :: (2, a) :: r => match qpl a.toNat, qpl b.toNat with
    | (1, 0, la, _), (1, 0, lb, _) => if (0 ≤ m ∧ 0 ≤ d ∧ 0 ≤ s ∧ s + m ≤ la ∧ d + m ≤ lb) ∧ (0 < a ∧ a ≤ n) ∧ 0 < b ∧ b ≤ n then some (pc + 3, ls, r, qcpy w a.toNat b.toNat s.toNat d.toNat m.toNat, n) else none
    | _, _ => none
  | _ => none
/-- a text's bytes, where a byte stands first -/
noncomputable def qtxb (x : Int) : Option (List Int) := bif decide (x ≤ 0) then none else qtc[(x - 1).toNat]?
noncomputable def qix : List Int → Int → Int → Int
  | [], _, _ => -1
  | b :: l, c, k => if b = c then k else qix l c (k + 1)
/-- Math.abs, max, min of ints, max of longs -/
noncomputable def qmt (t pc : Nat) (ls st : List qV) (w : qW) (n : Nat) : Option qC := match t, st with
  | 902, (0, x) :: r => some (pc + 3, ls, (0, if 0 ≤ x then x else wrp (0 - x)) :: r, w, n)
  | 903, (0, y) :: (0, x) :: r => some (pc + 3, ls, (0, if x < y then y else x) :: r, w, n)
  | 904, (0, y) :: (0, x) :: r => some (pc + 3, ls, (0, if y < x then y else x) :: r, w, n)
  | 905, (1, y) :: (1, x) :: r => some (pc + 3, ls, (1, if y < x then x else y) :: r, w, n)
  | 906, (3, x) :: r => match qtxb x with
    | some l => some (pc + 3, ls, (0, (l.length : Int)) :: r, w, n)
    | none => none
  | 907, (0, i) :: (3, x) :: r => match qtxb x with
    | some l => if 0 ≤ i ∧ i < (l.length : Int) then some (pc + 3, ls, (0, l.getD i.toNat 0) :: r, w, n) else none
    | none => none
  | 908, (0, c) :: (3, x) :: r => match qtxb x with
    | some l => some (pc + 3, ls, (0, qix l c 0) :: r, w, n)
    | none => none
  | _, _ => none
/-- how Math's and String's members are called: the depth that they want -/
noncomputable def qmm (t md d : Nat) : Bool := bif Nat.ble 906 t then Nat.beq md 1 && Nat.ble 4 d else Nat.beq md 0 && Nat.ble 1 d
noncomputable abbrev qR : Type := Option (qV × qW × Nat)
noncomputable abbrev qXt : Type := Option (Nat × (Nat → Int)) → Nat → Nat → Nat → List qV → List qV → qW → Nat → qR
/-- what comes behind an instruction within a method -/
noncomputable def qgo (X : qXt) (sc : Option (Nat × (Nat → Int))) (d k : Nat) (o : Option qC) : qR := match o with
  | some (pc', ls', st', w', n') => X sc d k pc' ls' st' w' n'
  | none => none
noncomputable def qmok (md sk t : Nat) : Bool := match md with
  | 0 => Nat.beq sk 0
  | 1 => Nat.beq sk 1 && !qin t
  | _ => Nat.ble 1 sk && qin t
/-- a call of method t with na arguments (with the receiver), sk: static 0, instance 1, nest mate 2; md: invokestatic 0, invokevirtual 1, invokespecial 2 -/
noncomputable def qcl1 (X : qXt) (sc : Option (Nat × (Nat → Int))) (d k t na sk md pc : Nat) (ls st : List qV) (w : qW) (n : Nat) : qR :=
  match d with
  | 0 => none
  | d' + 1 => if Nat.ble na st.length && Nat.ble (qcat (qdr na st)) 8 && qaok t sk n (qtk na st []) && Nat.ble (qlay (qtk na st [])).length (qml t) && qmok md sk t then
    (match X none d' t 0 (qini t (qtk na st [])) [] w n with
      | some (v, w', n') => X sc (d' + 1) k (pc + 3) ls (qpsh v (qdr na st)) w' n'
      | none => none) else none
/-- an invocation -/
noncomputable def qinv (X : qXt) (sc : Option (Nat × (Nat → Int))) (d k i md pc : Nat) (ls st : List qV) (w : qW) (n : Nat) : qR :=
  match qmd (qow k) i with
  | some (t, na, sk) =>
    if t = 900 then (match md, st with
      | 2, (2, x) :: r => if Nat.ble 1 d && Nat.ble (qcat r) 8 && decide (0 < x) then X sc d k (pc + 3) ls r w n else none
      | _, _ => none)
    else if t = 901 then (if Nat.beq md 0 && Nat.ble 1 d && Nat.ble (qcat (qdr 5 st)) 8 then qgo X sc d k (qac pc ls st w n) else none)
    else if Nat.ble 902 t then (if qmm t md d && Nat.ble (qcat (qdr na st)) 8 then qgo X sc d k (qmt t pc ls st w n) else none)
    else qcl1 X sc d k t na sk md pc ls st w n
  | none => none
noncomputable def qst1 (X : qXt) (sc : Option (Nat × (Nat → Int))) (d k : Nat) (ins : Instr) (len pc : Nat) (ls st : List qV) (w : qW) (n : Nat) : qR :=
  match ins with
  | .ireturn => match st with
    | [(0, x)] => if qrok (qrt k) (0, x) then some ((0, x), w, n) else none
    | _ => none
  | .return_ => match st with
    | [] => if Nat.beq (qrt k) 0 then some ((9, 0), w, n) else none
    | _ => none
  | .invokestatic i => qinv X sc d k i 0 pc ls st w n
  | .invokevirtual i => qinv X sc d k i 1 pc ls st w n
  | .invokespecial i => qinv X sc d k i 2 pc ls st w n
  | i => qgo X sc d k (qs1 sc k i len pc ls st w n)
/-- the run of method k: fuel f, calls d deep at most -/
noncomputable def qex : Nat → qXt
  | 0, _, _, _, _, _, _, _, _ => none
  | f + 1, sc, d, k, pc, ls, st, w, n => match qcd k pc with
    | some (ins, len) => qst1 (qex f) sc d k ins len pc ls st w n
    | none => none
