/-! each instruction over symbols is right -/
theorem qs1_getfield {sc : Option (Nat × (Nat → Int))} {k len pc n : Nat} {ls st : List qV} {w : qW} : ∀ i, qs1 sc k (.getfield i) len pc ls st w n = (match qfd (qow k) i, st with
  | some (ci, j, kd, _), (2, p) :: r => match qpl p.toNat with
    | (0, c, _, _) => if Nat.beq c ci then (match qpush kd (w p.toNat j) r with
      | some r' => if 0 < p ∧ p ≤ n then some (pc + 3, ls, r', w, n) else none
      | none => none) else none
    | _ => none
  | _, _ => none) := fun i => rfl
theorem qs1_putfield {sc : Option (Nat × (Nat → Int))} {k len pc n : Nat} {ls st : List qV} {w : qW} : ∀ i, qs1 sc k (.putfield i) len pc ls st w n = (match qfd (qow k) i, st with
  | some (ci, j, kd, fin), (t, v) :: (2, p) :: r => match qpl p.toNat with
    | (0, c, _, _) => if Nat.beq c ci && (Nat.beq fin 0 || qin k) then (match kd, t with
      | 0, 0 => if 0 < p ∧ p ≤ n then some (pc + 3, ls, r, qup w p.toNat j v, n) else none
      | 2, 2 => if 0 < p ∧ p ≤ n then some (pc + 3, ls, r, qup w p.toNat j v, n) else none
      | 3, 0 => if (0 < p ∧ p ≤ n) ∧ 0 ≤ v ∧ v ≤ 1 then some (pc + 3, ls, r, qup w p.toNat j v, n) else none
      | _, _ => none) else none
    | _ => none
  | _, _ => none) := fun i => rfl
theorem qs1_iaload {sc : Option (Nat × (Nat → Int))} {k len pc n : Nat} {ls st : List qV} {w : qW} : qs1 sc k .iaload len pc ls st w n = (match st with
  | (0, i) :: (2, p) :: r => match qpl p.toNat with
    | (1, 0, m, _) => if 0 ≤ i ∧ i < m then (if 0 < p ∧ p ≤ n then some (pc + 1, ls, (0, w p.toNat i.toNat) :: r, w, n) else none) else none
    | _ => none
  | (0, i) :: (3, 0) :: r => match sc with
    | some (L, xs) => if 0 ≤ i ∧ i < L then some (pc + 1, ls, (0, xs i.toNat) :: r, w, n) else none
    | none => none
  | _ => none) := rfl
theorem qs1_baload {sc : Option (Nat × (Nat → Int))} {k len pc n : Nat} {ls st : List qV} {w : qW} : qs1 sc k .baload len pc ls st w n = (match st with
  | (0, i) :: (2, p) :: r => match qpl p.toNat with
    | (1, 3, m, _) => if 0 ≤ i ∧ i < m then (if 0 < p ∧ p ≤ n then some (pc + 1, ls, (0, w p.toNat i.toNat) :: r, w, n) else none) else none
    | (1, 4, m, _) => if 0 ≤ i ∧ i < m then (if 0 < p ∧ p ≤ n then some (pc + 1, ls, (0, w p.toNat i.toNat) :: r, w, n) else none) else none
    | _ => none
  | _ => none) := rfl
theorem qs1_laload {sc : Option (Nat × (Nat → Int))} {k len pc n : Nat} {ls st : List qV} {w : qW} : qs1 sc k .laload len pc ls st w n = (match st with
  | (0, i) :: (2, p) :: r => match qpl p.toNat with
    | (1, 1, m, _) => if 0 ≤ i ∧ i < m then (if 0 < p ∧ p ≤ n then some (pc + 1, ls, (1, w p.toNat i.toNat) :: r, w, n) else none) else none
    | _ => none
  | _ => none) := rfl
theorem qs1_aaload {sc : Option (Nat × (Nat → Int))} {k len pc n : Nat} {ls st : List qV} {w : qW} : qs1 sc k .aaload len pc ls st w n = (match st with
  | (0, i) :: (2, p) :: r => match qpl p.toNat with
    | (1, 2, m, _) => if 0 ≤ i ∧ i < m then (if 0 < p ∧ p ≤ n then some (pc + 1, ls, (2, w p.toNat i.toNat) :: r, w, n) else none) else none
    | _ => none
  | _ => none) := rfl
theorem qs1_iastore {sc : Option (Nat × (Nat → Int))} {k len pc n : Nat} {ls st : List qV} {w : qW} : qs1 sc k .iastore len pc ls st w n = (match st with
  | (0, v) :: (0, i) :: (2, p) :: r => match qpl p.toNat with
    | (1, 0, m, _) => if 0 ≤ i ∧ i < m then (if 0 < p ∧ p ≤ n then some (pc + 1, ls, r, qup w p.toNat i.toNat v, n) else none) else none
    | _ => none
  | _ => none) := rfl
theorem qs1_bastore {sc : Option (Nat × (Nat → Int))} {k len pc n : Nat} {ls st : List qV} {w : qW} : qs1 sc k .bastore len pc ls st w n = (match st with
  | (0, v) :: (0, i) :: (2, p) :: r => match qpl p.toNat with
    | (1, 3, m, _) => if (0 ≤ i ∧ i < m) ∧ 0 ≤ v ∧ v ≤ 1 then (if 0 < p ∧ p ≤ n then some (pc + 1, ls, r, qup w p.toNat i.toNat v, n) else none) else none
    | (1, 4, m, _) => if (0 ≤ i ∧ i < m) ∧ -128 ≤ v ∧ v ≤ 127 then (if 0 < p ∧ p ≤ n then some (pc + 1, ls, r, qup w p.toNat i.toNat v, n) else none) else none
    | _ => none
  | _ => none) := rfl
theorem qs1_lastore {sc : Option (Nat × (Nat → Int))} {k len pc n : Nat} {ls st : List qV} {w : qW} : qs1 sc k .lastore len pc ls st w n = (match st with
  | (1, v) :: (0, i) :: (2, p) :: r => match qpl p.toNat with
    | (1, 1, m, _) => if 0 ≤ i ∧ i < m then (if 0 < p ∧ p ≤ n then some (pc + 1, ls, r, qup w p.toNat i.toNat v, n) else none) else none
    | _ => none
  | _ => none) := rfl
theorem qs1_aastore {sc : Option (Nat × (Nat → Int))} {k len pc n : Nat} {ls st : List qV} {w : qW} : qs1 sc k .aastore len pc ls st w n = (match st with
  | (2, v) :: (0, i) :: (2, p) :: r => match qpl p.toNat, qpl v.toNat with
    | (1, 2, m, c), (0, ci, _, _) => if Nat.beq c ci then (if 0 ≤ i ∧ i < m then (if (0 < p ∧ p ≤ n) ∧ 0 < v ∧ v ≤ n then some (pc + 1, ls, r, qup w p.toNat i.toNat v, n) else none) else none) else none
    | _, _ => none
  | _ => none) := rfl
theorem qs1_arraylength {sc : Option (Nat × (Nat → Int))} {k len pc n : Nat} {ls st : List qV} {w : qW} : qs1 sc k .arraylength len pc ls st w n = (match st with
  | (2, p) :: r => match qpl p.toNat with
    | (1, _, m, _) => if 0 < p ∧ p ≤ n then some (pc + 1, ls, (0, (m : Int)) :: r, w, n) else none
    | _ => none
  | (3, 0) :: r => match sc with
    | some (L, _) => some (pc + 1, ls, (0, (L : Int)) :: r, w, n)
    | none => none
  | _ => none) := rfl
theorem qs1_tableswitch {sc : Option (Nat × (Nat → Int))} {k len pc n : Nat} {ls st : List qV} {w : qW} : ∀ dflt lo z9 offs, qs1 sc k (.tableswitch dflt lo z9 offs) len pc ls st w n = (match st with
  | (0, x) :: r => qtsw (fun t => some (t, ls, r, w, n)) pc x dflt offs.toList lo
  | _ => none) := fun dflt lo z9 offs => rfl
theorem qs1_if_acmp {sc : Option (Nat × (Nat → Int))} {k len pc n : Nat} {ls st : List qV} {w : qW} : ∀ c off, qs1 sc k (.if_acmp c off) len pc ls st w n = (match c, st with
  | .ne, (2, y) :: (2, x) :: r => if x = y then some (pc + 3, ls, r, w, n) else some (qtg pc off, ls, r, w, n)
  | _, _ => none) := fun c off => rfl
theorem qs1_ldc {sc : Option (Nat × (Nat → Int))} {k len pc n : Nat} {ls st : List qV} {w : qW} : ∀ i, qs1 sc k (.ldc i) len pc ls st w n = (match qkn (qow k) i with
  | some (0, v) => some (pc + 2, ls, (0, v) :: st, w, n)
  | some (3, v) => some (pc + 2, ls, (3, v) :: st, w, n)
  | _ => none) := fun i => rfl
theorem qs1_ldc_w {sc : Option (Nat × (Nat → Int))} {k len pc n : Nat} {ls st : List qV} {w : qW} : ∀ i, qs1 sc k (.ldc_w i) len pc ls st w n = (match qkn (qow k) i with
  | some (0, v) => some (pc + 3, ls, (0, v) :: st, w, n)
  | some (3, v) => some (pc + 3, ls, (3, v) :: st, w, n)
  | _ => none) := fun i => rfl
theorem qs1_ldc2_w {sc : Option (Nat × (Nat → Int))} {k len pc n : Nat} {ls st : List qV} {w : qW} : ∀ i, qs1 sc k (.ldc2_w i) len pc ls st w n = (match qkn (qow k) i with
  | some (1, v) => some (pc + 3, ls, (1, v) :: st, w, n)
  | _ => none) := fun i => rfl
theorem qs1_iload {sc : Option (Nat × (Nat → Int))} {k len pc n : Nat} {ls st : List qV} {w : qW} : ∀ i, qs1 sc k (.iload i) len pc ls st w n = (match qnt ls i with
  | (0, x) => some (pc + 2, ls, (0, x) :: st, w, n)
  | _ => none) := fun i => rfl
theorem qs1_iload_n {sc : Option (Nat × (Nat → Int))} {k len pc n : Nat} {ls st : List qV} {w : qW} : ∀ i, qs1 sc k (.iload_n i) len pc ls st w n = (match qnt ls i.val with
  | (0, x) => some (pc + 1, ls, (0, x) :: st, w, n)
  | _ => none) := fun i => rfl
theorem qs1_lload {sc : Option (Nat × (Nat → Int))} {k len pc n : Nat} {ls st : List qV} {w : qW} : ∀ i, qs1 sc k (.lload i) len pc ls st w n = (match qnt ls i with
  | (1, x) => some (pc + 2, ls, (1, x) :: st, w, n)
  | _ => none) := fun i => rfl
theorem qs1_lload_n {sc : Option (Nat × (Nat → Int))} {k len pc n : Nat} {ls st : List qV} {w : qW} : ∀ i, qs1 sc k (.lload_n i) len pc ls st w n = (match qnt ls i.val with
  | (1, x) => some (pc + 1, ls, (1, x) :: st, w, n)
  | _ => none) := fun i => rfl
theorem qs1_aload {sc : Option (Nat × (Nat → Int))} {k len pc n : Nat} {ls st : List qV} {w : qW} : ∀ i, qs1 sc k (.aload i) len pc ls st w n = (match qnt ls i with
  | (2, x) => some (pc + 2, ls, (2, x) :: st, w, n)
  | (3, x) => some (pc + 2, ls, (3, x) :: st, w, n)
  | _ => none) := fun i => rfl
theorem qs1_aload_n {sc : Option (Nat × (Nat → Int))} {k len pc n : Nat} {ls st : List qV} {w : qW} : ∀ i, qs1 sc k (.aload_n i) len pc ls st w n = (match qnt ls i.val with
  | (2, x) => some (pc + 1, ls, (2, x) :: st, w, n)
  | (3, x) => some (pc + 1, ls, (3, x) :: st, w, n)
  | _ => none) := fun i => rfl
theorem qs1_istore {sc : Option (Nat × (Nat → Int))} {k len pc n : Nat} {ls st : List qV} {w : qW} : ∀ i, qs1 sc k (.istore i) len pc ls st w n = (match st with
  | (0, x) :: r => if Nat.blt i (qml k) then some (pc + 2, qst ls i (0, x), r, w, n) else none
  | _ => none) := fun i => rfl
theorem qs1_istore_n {sc : Option (Nat × (Nat → Int))} {k len pc n : Nat} {ls st : List qV} {w : qW} : ∀ i, qs1 sc k (.istore_n i) len pc ls st w n = (match st with
  | (0, x) :: r => if Nat.blt i.val (qml k) then some (pc + 1, qst ls i.val (0, x), r, w, n) else none
  | _ => none) := fun i => rfl
theorem qs1_lstore {sc : Option (Nat × (Nat → Int))} {k len pc n : Nat} {ls st : List qV} {w : qW} : ∀ i, qs1 sc k (.lstore i) len pc ls st w n = (match st with
  | (1, x) :: r => if Nat.blt (i + 1) (qml k) then some (pc + 2, qst ls i (1, x), r, w, n) else none
  | _ => none) := fun i => rfl
theorem qs1_lstore_n {sc : Option (Nat × (Nat → Int))} {k len pc n : Nat} {ls st : List qV} {w : qW} : ∀ i, qs1 sc k (.lstore_n i) len pc ls st w n = (match st with
  | (1, x) :: r => if Nat.blt (i.val + 1) (qml k) then some (pc + 1, qst ls i.val (1, x), r, w, n) else none
  | _ => none) := fun i => rfl
theorem qs1_astore_n {sc : Option (Nat × (Nat → Int))} {k len pc n : Nat} {ls st : List qV} {w : qW} : ∀ i, qs1 sc k (.astore_n i) len pc ls st w n = (match st with
  | (2, x) :: r => if Nat.blt i.val (qml k) then some (pc + 1, qst ls i.val (2, x), r, w, n) else none
  | _ => none) := fun i => rfl
theorem qs1_iinc {sc : Option (Nat × (Nat → Int))} {k len pc n : Nat} {ls st : List qV} {w : qW} : ∀ i c, qs1 sc k (.iinc i c) len pc ls st w n = (match qnt ls i with
  | (0, x) => if Nat.blt i (qml k) then some (pc + 3, qst ls i (0, wrp (x + c)), st, w, n) else none
  | _ => none) := fun i c => rfl
theorem yas_iload {gf : Nat → Nat → Option yI} {ga : Nat → Option yI} {ra : Nat → Nat → List Int} {bv : Nat → Nat → Option Int} {bb : Nat → Option yI} {lw : Bool} {k pc : Nat} {ls st : List yV} {S : yS} {N : yN} : ∀ i, yas gf ga ra bv bb lw k (.iload i) pc ls st S N = (match ynt ls i with
  | (0, x) => N (pc + 2) ls ((0, x) :: st) S
  | _ => false) := fun i => rfl
theorem yas_iload_n {gf : Nat → Nat → Option yI} {ga : Nat → Option yI} {ra : Nat → Nat → List Int} {bv : Nat → Nat → Option Int} {bb : Nat → Option yI} {lw : Bool} {k pc : Nat} {ls st : List yV} {S : yS} {N : yN} : ∀ i, yas gf ga ra bv bb lw k (.iload_n i) pc ls st S N = (match ynt ls i.val with
  | (0, x) => N (pc + 1) ls ((0, x) :: st) S
  | _ => false) := fun i => rfl
theorem yas_lload {gf : Nat → Nat → Option yI} {ga : Nat → Option yI} {ra : Nat → Nat → List Int} {bv : Nat → Nat → Option Int} {bb : Nat → Option yI} {lw : Bool} {k pc : Nat} {ls st : List yV} {S : yS} {N : yN} : ∀ i, yas gf ga ra bv bb lw k (.lload i) pc ls st S N = (match ynt ls i with
  | (1, x) => N (pc + 2) ls ((1, x) :: st) S
  | _ => false) := fun i => rfl
theorem yas_lload_n {gf : Nat → Nat → Option yI} {ga : Nat → Option yI} {ra : Nat → Nat → List Int} {bv : Nat → Nat → Option Int} {bb : Nat → Option yI} {lw : Bool} {k pc : Nat} {ls st : List yV} {S : yS} {N : yN} : ∀ i, yas gf ga ra bv bb lw k (.lload_n i) pc ls st S N = (match ynt ls i.val with
  | (1, x) => N (pc + 1) ls ((1, x) :: st) S
  | _ => false) := fun i => rfl
theorem yas_aload {gf : Nat → Nat → Option yI} {ga : Nat → Option yI} {ra : Nat → Nat → List Int} {bv : Nat → Nat → Option Int} {bb : Nat → Option yI} {lw : Bool} {k pc : Nat} {ls st : List yV} {S : yS} {N : yN} : ∀ i, yas gf ga ra bv bb lw k (.aload i) pc ls st S N = (match ynt ls i with
  | (2, x) => N (pc + 2) ls ((2, x) :: st) S
  | (3, x) => N (pc + 2) ls ((3, x) :: st) S
  | _ => false) := fun i => rfl
theorem yas_aload_n {gf : Nat → Nat → Option yI} {ga : Nat → Option yI} {ra : Nat → Nat → List Int} {bv : Nat → Nat → Option Int} {bb : Nat → Option yI} {lw : Bool} {k pc : Nat} {ls st : List yV} {S : yS} {N : yN} : ∀ i, yas gf ga ra bv bb lw k (.aload_n i) pc ls st S N = (match ynt ls i.val with
  | (2, x) => N (pc + 1) ls ((2, x) :: st) S
  | (3, x) => N (pc + 1) ls ((3, x) :: st) S
  | _ => false) := fun i => rfl
theorem yas_istore {gf : Nat → Nat → Option yI} {ga : Nat → Option yI} {ra : Nat → Nat → List Int} {bv : Nat → Nat → Option Int} {bb : Nat → Option yI} {lw : Bool} {k pc : Nat} {ls st : List yV} {S : yS} {N : yN} : ∀ i, yas gf ga ra bv bb lw k (.istore i) pc ls st S N = (match st with
  | (0, x) :: r => Nat.blt i (qml k) && N (pc + 2) (yst ls i (0, x)) r S
  | _ => false) := fun i => rfl
theorem yas_istore_n {gf : Nat → Nat → Option yI} {ga : Nat → Option yI} {ra : Nat → Nat → List Int} {bv : Nat → Nat → Option Int} {bb : Nat → Option yI} {lw : Bool} {k pc : Nat} {ls st : List yV} {S : yS} {N : yN} : ∀ i, yas gf ga ra bv bb lw k (.istore_n i) pc ls st S N = (match st with
  | (0, x) :: r => Nat.blt i.val (qml k) && N (pc + 1) (yst ls i.val (0, x)) r S
  | _ => false) := fun i => rfl
theorem yas_lstore {gf : Nat → Nat → Option yI} {ga : Nat → Option yI} {ra : Nat → Nat → List Int} {bv : Nat → Nat → Option Int} {bb : Nat → Option yI} {lw : Bool} {k pc : Nat} {ls st : List yV} {S : yS} {N : yN} : ∀ i, yas gf ga ra bv bb lw k (.lstore i) pc ls st S N = (match st with
  | (1, x) :: r => Nat.blt (i + 1) (qml k) && N (pc + 2) (yst ls i (1, x)) r S
  | _ => false) := fun i => rfl
theorem yas_lstore_n {gf : Nat → Nat → Option yI} {ga : Nat → Option yI} {ra : Nat → Nat → List Int} {bv : Nat → Nat → Option Int} {bb : Nat → Option yI} {lw : Bool} {k pc : Nat} {ls st : List yV} {S : yS} {N : yN} : ∀ i, yas gf ga ra bv bb lw k (.lstore_n i) pc ls st S N = (match st with
  | (1, x) :: r => Nat.blt (i.val + 1) (qml k) && N (pc + 1) (yst ls i.val (1, x)) r S
  | _ => false) := fun i => rfl
theorem yas_astore_n {gf : Nat → Nat → Option yI} {ga : Nat → Option yI} {ra : Nat → Nat → List Int} {bv : Nat → Nat → Option Int} {bb : Nat → Option yI} {lw : Bool} {k pc : Nat} {ls st : List yV} {S : yS} {N : yN} : ∀ i, yas gf ga ra bv bb lw k (.astore_n i) pc ls st S N = (match st with
  | (2, x) :: r => Nat.blt i.val (qml k) && N (pc + 1) (yst ls i.val (2, x)) r S
  | _ => false) := fun i => rfl
theorem yas_iinc {gf : Nat → Nat → Option yI} {ga : Nat → Option yI} {ra : Nat → Nat → List Int} {bv : Nat → Nat → Option Int} {bb : Nat → Option yI} {lw : Bool} {k pc : Nat} {ls st : List yV} {S : yS} {N : yN} : ∀ i c, yas gf ga ra bv bb lw k (.iinc i c) pc ls st S N = (match ynt ls i with
  | (0, s, o) => Nat.blt i (qml k) && yadd 0 (fun x y => wrp (x + y)) vadd y32 S s o 0 c (fun v S => N (pc + 3) (yst ls i v) st S)
  | _ => false) := fun i c => rfl
theorem yas_iconst {gf : Nat → Nat → Option yI} {ga : Nat → Option yI} {ra : Nat → Nat → List Int} {bv : Nat → Nat → Option Int} {bb : Nat → Option yI} {lw : Bool} {k pc : Nat} {ls st : List yV} {S : yS} {N : yN} : ∀ c, yas gf ga ra bv bb lw k (.iconst c) pc ls st S N = (N (pc + 1) ls ((0, 0, c) :: st) S) := fun c => rfl
theorem yas_bipush {gf : Nat → Nat → Option yI} {ga : Nat → Option yI} {ra : Nat → Nat → List Int} {bv : Nat → Nat → Option Int} {bb : Nat → Option yI} {lw : Bool} {k pc : Nat} {ls st : List yV} {S : yS} {N : yN} : ∀ c, yas gf ga ra bv bb lw k (.bipush c) pc ls st S N = (N (pc + 2) ls ((0, 0, c) :: st) S) := fun c => rfl
theorem yas_sipush {gf : Nat → Nat → Option yI} {ga : Nat → Option yI} {ra : Nat → Nat → List Int} {bv : Nat → Nat → Option Int} {bb : Nat → Option yI} {lw : Bool} {k pc : Nat} {ls st : List yV} {S : yS} {N : yN} : ∀ c, yas gf ga ra bv bb lw k (.sipush c) pc ls st S N = (N (pc + 3) ls ((0, 0, c) :: st) S) := fun c => rfl
theorem yas_lconst {gf : Nat → Nat → Option yI} {ga : Nat → Option yI} {ra : Nat → Nat → List Int} {bv : Nat → Nat → Option Int} {bb : Nat → Option yI} {lw : Bool} {k pc : Nat} {ls st : List yV} {S : yS} {N : yN} : ∀ c, yas gf ga ra bv bb lw k (.lconst c) pc ls st S N = (N (pc + 1) ls ((1, 0, (c.val : Int)) :: st) S) := fun c => rfl
theorem yas_aconst_null {gf : Nat → Nat → Option yI} {ga : Nat → Option yI} {ra : Nat → Nat → List Int} {bv : Nat → Nat → Option Int} {bb : Nat → Option yI} {lw : Bool} {k pc : Nat} {ls st : List yV} {S : yS} {N : yN} : yas gf ga ra bv bb lw k .aconst_null pc ls st S N = (N (pc + 1) ls ((2, 0, 0) :: st) S) := rfl
theorem yas_ldc {gf : Nat → Nat → Option yI} {ga : Nat → Option yI} {ra : Nat → Nat → List Int} {bv : Nat → Nat → Option Int} {bb : Nat → Option yI} {lw : Bool} {k pc : Nat} {ls st : List yV} {S : yS} {N : yN} : ∀ i, yas gf ga ra bv bb lw k (.ldc i) pc ls st S N = (match qkn (qow k) i with
  | some (0, v) => N (pc + 2) ls ((0, 0, v) :: st) S
  | some (3, v) => N (pc + 2) ls ((3, 0, v) :: st) S
  | _ => false) := fun i => rfl
theorem yas_ldc_w {gf : Nat → Nat → Option yI} {ga : Nat → Option yI} {ra : Nat → Nat → List Int} {bv : Nat → Nat → Option Int} {bb : Nat → Option yI} {lw : Bool} {k pc : Nat} {ls st : List yV} {S : yS} {N : yN} : ∀ i, yas gf ga ra bv bb lw k (.ldc_w i) pc ls st S N = (match qkn (qow k) i with
  | some (0, v) => N (pc + 3) ls ((0, 0, v) :: st) S
  | some (3, v) => N (pc + 3) ls ((3, 0, v) :: st) S
  | _ => false) := fun i => rfl
theorem yas_ldc2_w {gf : Nat → Nat → Option yI} {ga : Nat → Option yI} {ra : Nat → Nat → List Int} {bv : Nat → Nat → Option Int} {bb : Nat → Option yI} {lw : Bool} {k pc : Nat} {ls st : List yV} {S : yS} {N : yN} : ∀ i, yas gf ga ra bv bb lw k (.ldc2_w i) pc ls st S N = (match qkn (qow k) i with
  | some (1, v) => N (pc + 3) ls ((1, 0, v) :: st) S
  | _ => false) := fun i => rfl
theorem yas_dup {gf : Nat → Nat → Option yI} {ga : Nat → Option yI} {ra : Nat → Nat → List Int} {bv : Nat → Nat → Option Int} {bb : Nat → Option yI} {lw : Bool} {k pc : Nat} {ls st : List yV} {S : yS} {N : yN} : yas gf ga ra bv bb lw k .dup pc ls st S N = (match st with
  | (0, x) :: r => N (pc + 1) ls ((0, x) :: (0, x) :: r) S
  | (2, x) :: r => N (pc + 1) ls ((2, x) :: (2, x) :: r) S
  | _ => false) := rfl
theorem yas_dup2 {gf : Nat → Nat → Option yI} {ga : Nat → Option yI} {ra : Nat → Nat → List Int} {bv : Nat → Nat → Option Int} {bb : Nat → Option yI} {lw : Bool} {k pc : Nat} {ls st : List yV} {S : yS} {N : yN} : yas gf ga ra bv bb lw k .dup2 pc ls st S N = (match st with
  | (0, x) :: (2, y) :: r => N (pc + 1) ls ((0, x) :: (2, y) :: (0, x) :: (2, y) :: r) S
  | _ => false) := rfl
theorem yas_pop {gf : Nat → Nat → Option yI} {ga : Nat → Option yI} {ra : Nat → Nat → List Int} {bv : Nat → Nat → Option Int} {bb : Nat → Option yI} {lw : Bool} {k pc : Nat} {ls st : List yV} {S : yS} {N : yN} : yas gf ga ra bv bb lw k .pop pc ls st S N = (match st with
  | (0, _) :: r => N (pc + 1) ls r S
  | _ => false) := rfl
theorem yas_iadd {gf : Nat → Nat → Option yI} {ga : Nat → Option yI} {ra : Nat → Nat → List Int} {bv : Nat → Nat → Option Int} {bb : Nat → Option yI} {lw : Bool} {k pc : Nat} {ls st : List yV} {S : yS} {N : yN} : yas gf ga ra bv bb lw k .iadd pc ls st S N = (match st with
  | (0, s2, o2) :: (0, s1, o1) :: r => yadd 0 (fun x y => wrp (x + y)) vadd y32 S s1 o1 s2 o2 (fun v S => N (pc + 1) ls (v :: r) S)
  | _ => false) := rfl
theorem yas_isub {gf : Nat → Nat → Option yI} {ga : Nat → Option yI} {ra : Nat → Nat → List Int} {bv : Nat → Nat → Option Int} {bb : Nat → Option yI} {lw : Bool} {k pc : Nat} {ls st : List yV} {S : yS} {N : yN} : yas gf ga ra bv bb lw k .isub pc ls st S N = (match st with
  | (0, s2, o2) :: (0, s1, o1) :: r => ysub 0 (fun x y => wrp (x - y)) vsub y32 S s1 o1 s2 o2 (fun v S => N (pc + 1) ls (v :: r) S)
  | _ => false) := rfl
theorem yas_imul {gf : Nat → Nat → Option yI} {ga : Nat → Option yI} {ra : Nat → Nat → List Int} {bv : Nat → Nat → Option Int} {bb : Nat → Option yI} {lw : Bool} {k pc : Nat} {ls st : List yV} {S : yS} {N : yN} : yas gf ga ra bv bb lw k .imul pc ls st S N = (match st with
  | (0, s2, o2) :: (0, s1, o1) :: r => ybin 0 (fun x y => wrp (x * y)) vmul S s1 o1 s2 o2 (fun v S => N (pc + 1) ls (v :: r) S)
  | _ => false) := rfl
theorem yas_idiv {gf : Nat → Nat → Option yI} {ga : Nat → Option yI} {ra : Nat → Nat → List Int} {bv : Nat → Nat → Option Int} {bb : Nat → Option yI} {lw : Bool} {k pc : Nat} {ls st : List yV} {S : yS} {N : yN} : yas gf ga ra bv bb lw k .idiv pc ls st S N = (match st with
  | (0, s2, o2) :: (0, s1, o1) :: r => match yiv S.2.1 s2 o2 with
    | some (c, _) => yle 1 c && ybin 0 qdiv vdiv S s1 o1 s2 o2 (fun v S => N (pc + 1) ls (v :: r) S)
    | none => false
  | _ => false) := rfl
theorem yas_irem {gf : Nat → Nat → Option yI} {ga : Nat → Option yI} {ra : Nat → Nat → List Int} {bv : Nat → Nat → Option Int} {bb : Nat → Option yI} {lw : Bool} {k pc : Nat} {ls st : List yV} {S : yS} {N : yN} : yas gf ga ra bv bb lw k .irem pc ls st S N = (match st with
  | (0, s2, o2) :: (0, s1, o1) :: r => match yiv S.2.1 s2 o2 with
    | some (c, _) => yle 1 c && ybin 0 qrem vrem S s1 o1 s2 o2 (fun v S => N (pc + 1) ls (v :: r) S)
    | none => false
  | _ => false) := rfl
theorem yas_ineg {gf : Nat → Nat → Option yI} {ga : Nat → Option yI} {ra : Nat → Nat → List Int} {bv : Nat → Nat → Option Int} {bb : Nat → Option yI} {lw : Bool} {k pc : Nat} {ls st : List yV} {S : yS} {N : yN} : yas gf ga ra bv bb lw k .ineg pc ls st S N = (match st with
  | (0, s, o) :: r => yneg S s o (fun v S => N (pc + 1) ls (v :: r) S)
  | _ => false) := rfl
theorem yas_iand {gf : Nat → Nat → Option yI} {ga : Nat → Option yI} {ra : Nat → Nat → List Int} {bv : Nat → Nat → Option Int} {bb : Nat → Option yI} {lw : Bool} {k pc : Nat} {ls st : List yV} {S : yS} {N : yN} : yas gf ga ra bv bb lw k .iand pc ls st S N = (match st with
  | (0, s2, o2) :: (0, s1, o1) :: r => yand S s1 o1 s2 o2 (fun v S => N (pc + 1) ls (v :: r) S)
  | _ => false) := rfl
theorem yas_ior {gf : Nat → Nat → Option yI} {ga : Nat → Option yI} {ra : Nat → Nat → List Int} {bv : Nat → Nat → Option Int} {bb : Nat → Option yI} {lw : Bool} {k pc : Nat} {ls st : List yV} {S : yS} {N : yN} : yas gf ga ra bv bb lw k .ior pc ls st S N = (match st with
  | (0, s2, o2) :: (0, s1, o1) :: r => ybin 0 qor vor S s1 o1 s2 o2 (fun v S => N (pc + 1) ls (v :: r) S)
  | _ => false) := rfl
theorem yas_ixor {gf : Nat → Nat → Option yI} {ga : Nat → Option yI} {ra : Nat → Nat → List Int} {bv : Nat → Nat → Option Int} {bb : Nat → Option yI} {lw : Bool} {k pc : Nat} {ls st : List yV} {S : yS} {N : yN} : yas gf ga ra bv bb lw k .ixor pc ls st S N = (match st with
  | (0, s2, o2) :: (0, s1, o1) :: r => ybin 0 qxor vxor1 S s1 o1 s2 o2 (fun v S => N (pc + 1) ls (v :: r) S)
  | _ => false) := rfl
theorem yas_ishl {gf : Nat → Nat → Option yI} {ga : Nat → Option yI} {ra : Nat → Nat → List Int} {bv : Nat → Nat → Option Int} {bb : Nat → Option yI} {lw : Bool} {k pc : Nat} {ls st : List yV} {S : yS} {N : yN} : yas gf ga ra bv bb lw k .ishl pc ls st S N = (match st with
  | (0, s2, o2) :: (0, s1, o1) :: r => ybin 0 qshl vshl S s1 o1 s2 o2 (fun v S => N (pc + 1) ls (v :: r) S)
  | _ => false) := rfl
theorem yas_ishr {gf : Nat → Nat → Option yI} {ga : Nat → Option yI} {ra : Nat → Nat → List Int} {bv : Nat → Nat → Option Int} {bb : Nat → Option yI} {lw : Bool} {k pc : Nat} {ls st : List yV} {S : yS} {N : yN} : yas gf ga ra bv bb lw k .ishr pc ls st S N = (match st with
  | (0, s2, o2) :: (0, s1, o1) :: r => ybin 0 qshr vshr S s1 o1 s2 o2 (fun v S => N (pc + 1) ls (v :: r) S)
  | _ => false) := rfl
theorem yas_iushr {gf : Nat → Nat → Option yI} {ga : Nat → Option yI} {ra : Nat → Nat → List Int} {bv : Nat → Nat → Option Int} {bb : Nat → Option yI} {lw : Bool} {k pc : Nat} {ls st : List yV} {S : yS} {N : yN} : yas gf ga ra bv bb lw k .iushr pc ls st S N = (match st with
  | (0, s2, o2) :: (0, s1, o1) :: r => ybin 0 qush vush S s1 o1 s2 o2 (fun v S => N (pc + 1) ls (v :: r) S)
  | _ => false) := rfl
theorem yas_ladd {gf : Nat → Nat → Option yI} {ga : Nat → Option yI} {ra : Nat → Nat → List Int} {bv : Nat → Nat → Option Int} {bb : Nat → Option yI} {lw : Bool} {k pc : Nat} {ls st : List yV} {S : yS} {N : yN} : yas gf ga ra bv bb lw k .ladd pc ls st S N = (match st with
  | (1, s2, o2) :: (1, s1, o1) :: r => ybin 1 (fun x y => wrl (x + y)) vladd S s1 o1 s2 o2 (fun v S => N (pc + 1) ls (v :: r) S)
  | _ => false) := rfl
theorem yas_lsub {gf : Nat → Nat → Option yI} {ga : Nat → Option yI} {ra : Nat → Nat → List Int} {bv : Nat → Nat → Option Int} {bb : Nat → Option yI} {lw : Bool} {k pc : Nat} {ls st : List yV} {S : yS} {N : yN} : yas gf ga ra bv bb lw k .lsub pc ls st S N = (match st with
  | (1, s2, o2) :: (1, s1, o1) :: r => ybin 1 (fun x y => wrl (x - y)) vlsub S s1 o1 s2 o2 (fun v S => N (pc + 1) ls (v :: r) S)
  | _ => false) := rfl
theorem yas_lmul {gf : Nat → Nat → Option yI} {ga : Nat → Option yI} {ra : Nat → Nat → List Int} {bv : Nat → Nat → Option Int} {bb : Nat → Option yI} {lw : Bool} {k pc : Nat} {ls st : List yV} {S : yS} {N : yN} : yas gf ga ra bv bb lw k .lmul pc ls st S N = (match st with
  | (1, s2, o2) :: (1, s1, o1) :: r => ybin 1 (fun x y => wrl (x * y)) vlmul S s1 o1 s2 o2 (fun v S => N (pc + 1) ls (v :: r) S)
  | _ => false) := rfl
theorem yas_ldiv {gf : Nat → Nat → Option yI} {ga : Nat → Option yI} {ra : Nat → Nat → List Int} {bv : Nat → Nat → Option Int} {bb : Nat → Option yI} {lw : Bool} {k pc : Nat} {ls st : List yV} {S : yS} {N : yN} : yas gf ga ra bv bb lw k .ldiv pc ls st S N = (match st with
  | (1, s2, o2) :: (1, s1, o1) :: r => match yiv S.2.1 s2 o2 with
    | some (c, _) => yle 1 c && ybin 1 qldiv vldiv S s1 o1 s2 o2 (fun v S => N (pc + 1) ls (v :: r) S)
    | none => false
  | _ => false) := rfl
theorem yas_land {gf : Nat → Nat → Option yI} {ga : Nat → Option yI} {ra : Nat → Nat → List Int} {bv : Nat → Nat → Option Int} {bb : Nat → Option yI} {lw : Bool} {k pc : Nat} {ls st : List yV} {S : yS} {N : yN} : yas gf ga ra bv bb lw k .land pc ls st S N = (match st with
  | (1, s2, o2) :: (1, s1, o1) :: r => ybin 1 qland v64 S s1 o1 s2 o2 (fun v S => N (pc + 1) ls (v :: r) S)
  | _ => false) := rfl
theorem yas_lor {gf : Nat → Nat → Option yI} {ga : Nat → Option yI} {ra : Nat → Nat → List Int} {bv : Nat → Nat → Option Int} {bb : Nat → Option yI} {lw : Bool} {k pc : Nat} {ls st : List yV} {S : yS} {N : yN} : yas gf ga ra bv bb lw k .lor pc ls st S N = (match st with
  | (1, s2, o2) :: (1, s1, o1) :: r => ybin 1 qlor v64 S s1 o1 s2 o2 (fun v S => N (pc + 1) ls (v :: r) S)
  | _ => false) := rfl
theorem yas_lshl {gf : Nat → Nat → Option yI} {ga : Nat → Option yI} {ra : Nat → Nat → List Int} {bv : Nat → Nat → Option Int} {bb : Nat → Option yI} {lw : Bool} {k pc : Nat} {ls st : List yV} {S : yS} {N : yN} : yas gf ga ra bv bb lw k .lshl pc ls st S N = (match st with
  | (0, s2, o2) :: (1, s1, o1) :: r => ybin 1 qlshl v64 S s1 o1 s2 o2 (fun v S => N (pc + 1) ls (v :: r) S)
  | _ => false) := rfl
theorem yas_lushr {gf : Nat → Nat → Option yI} {ga : Nat → Option yI} {ra : Nat → Nat → List Int} {bv : Nat → Nat → Option Int} {bb : Nat → Option yI} {lw : Bool} {k pc : Nat} {ls st : List yV} {S : yS} {N : yN} : yas gf ga ra bv bb lw k .lushr pc ls st S N = (match st with
  | (0, s2, o2) :: (1, s1, o1) :: r => ybin 1 qlush v64 S s1 o1 s2 o2 (fun v S => N (pc + 1) ls (v :: r) S)
  | _ => false) := rfl
theorem yas_lcmp {gf : Nat → Nat → Option yI} {ga : Nat → Option yI} {ra : Nat → Nat → List Int} {bv : Nat → Nat → Option Int} {bb : Nat → Option yI} {lw : Bool} {k pc : Nat} {ls st : List yV} {S : yS} {N : yN} : yas gf ga ra bv bb lw k .lcmp pc ls st S N = (match st with
  | (1, s2, o2) :: (1, s1, o1) :: r => ylt S s1 o1 s2 o2 (fun S => N (pc + 1) ls ((0, 0, -1) :: r) S) (fun S => yqe S s1 o1 s2 o2 (fun S => N (pc + 1) ls ((0, 0, 0) :: r) S) (fun S => N (pc + 1) ls ((0, 0, 1) :: r) S))
  | _ => false) := rfl
theorem yas_i2l {gf : Nat → Nat → Option yI} {ga : Nat → Option yI} {ra : Nat → Nat → List Int} {bv : Nat → Nat → Option Int} {bb : Nat → Option yI} {lw : Bool} {k pc : Nat} {ls st : List yV} {S : yS} {N : yN} : yas gf ga ra bv bb lw k .i2l pc ls st S N = (match st with
  | (0, x) :: r => N (pc + 1) ls ((1, x) :: r) S
  | _ => false) := rfl
theorem yas_l2i {gf : Nat → Nat → Option yI} {ga : Nat → Option yI} {ra : Nat → Nat → List Int} {bv : Nat → Nat → Option Int} {bb : Nat → Option yI} {lw : Bool} {k pc : Nat} {ls st : List yV} {S : yS} {N : yN} : yas gf ga ra bv bb lw k .l2i pc ls st S N = (match st with
  | (1, s, o) :: r => yun 0 wrp y32 S s o (fun v S => N (pc + 1) ls (v :: r) S)
  | _ => false) := rfl
theorem yas_i2b {gf : Nat → Nat → Option yI} {ga : Nat → Option yI} {ra : Nat → Nat → List Int} {bv : Nat → Nat → Option Int} {bb : Nat → Option yI} {lw : Bool} {k pc : Nat} {ls st : List yV} {S : yS} {N : yN} : yas gf ga ra bv bb lw k .i2b pc ls st S N = (match st with
  | (0, s, o) :: r => yun 0 qi2b (-128, 127) S s o (fun v S => N (pc + 1) ls (v :: r) S)
  | _ => false) := rfl
theorem yas_i2c {gf : Nat → Nat → Option yI} {ga : Nat → Option yI} {ra : Nat → Nat → List Int} {bv : Nat → Nat → Option Int} {bb : Nat → Option yI} {lw : Bool} {k pc : Nat} {ls st : List yV} {S : yS} {N : yN} : yas gf ga ra bv bb lw k .i2c pc ls st S N = (match st with
  | (0, s, o) :: r => yun 0 (fun x => x % 65536) (0, 65535) S s o (fun v S => N (pc + 1) ls (v :: r) S)
  | _ => false) := rfl
theorem yas_goto {gf : Nat → Nat → Option yI} {ga : Nat → Option yI} {ra : Nat → Nat → List Int} {bv : Nat → Nat → Option Int} {bb : Nat → Option yI} {lw : Bool} {k pc : Nat} {ls st : List yV} {S : yS} {N : yN} : ∀ off, yas gf ga ra bv bb lw k (.goto off) pc ls st S N = (N (qtg pc off) ls st S) := fun off => rfl
theorem yas_ifCond {gf : Nat → Nat → Option yI} {ga : Nat → Option yI} {ra : Nat → Nat → List Int} {bv : Nat → Nat → Option Int} {bb : Nat → Option yI} {lw : Bool} {k pc : Nat} {ls st : List yV} {S : yS} {N : yN} : ∀ c off, yas gf ga ra bv bb lw k (.ifCond c off) pc ls st S N = (match st with
  | (0, s, o) :: r => ybr c S s o 0 0 (fun S => N (qtg pc off) ls r S) (fun S => N (pc + 3) ls r S)
  | _ => false) := fun c off => rfl
theorem yas_if_icmp {gf : Nat → Nat → Option yI} {ga : Nat → Option yI} {ra : Nat → Nat → List Int} {bv : Nat → Nat → Option Int} {bb : Nat → Option yI} {lw : Bool} {k pc : Nat} {ls st : List yV} {S : yS} {N : yN} : ∀ c off, yas gf ga ra bv bb lw k (.if_icmp c off) pc ls st S N = (match st with
  | (0, s2, o2) :: (0, s1, o1) :: r => ybr c S s1 o1 s2 o2 (fun S => N (qtg pc off) ls r S) (fun S => N (pc + 3) ls r S)
  | _ => false) := fun c off => rfl
theorem yas_if_acmp {gf : Nat → Nat → Option yI} {ga : Nat → Option yI} {ra : Nat → Nat → List Int} {bv : Nat → Nat → Option Int} {bb : Nat → Option yI} {lw : Bool} {k pc : Nat} {ls st : List yV} {S : yS} {N : yN} : ∀ c off, yas gf ga ra bv bb lw k (.if_acmp c off) pc ls st S N = (match c, st with
  | .ne, (2, s2, o2) :: (2, s1, o1) :: r => yqe S s1 o1 s2 o2 (fun S => N (pc + 3) ls r S) (fun S => N (qtg pc off) ls r S)
  | _, _ => false) := fun c off => rfl
theorem yas_tableswitch {gf : Nat → Nat → Option yI} {ga : Nat → Option yI} {ra : Nat → Nat → List Int} {bv : Nat → Nat → Option Int} {bb : Nat → Option yI} {lw : Bool} {k pc : Nat} {ls st : List yV} {S : yS} {N : yN} : ∀ dflt lo z9 offs, yas gf ga ra bv bb lw k (.tableswitch dflt lo z9 offs) pc ls st S N = (match st with
  | (0, s, o) :: r => ysw s o (fun t S => N t ls r S) pc dflt offs.toList lo S
  | _ => false) := fun dflt lo z9 offs => rfl
theorem yas_getfield {gf : Nat → Nat → Option yI} {ga : Nat → Option yI} {ra : Nat → Nat → List Int} {bv : Nat → Nat → Option Int} {bb : Nat → Option yI} {lw : Bool} {k pc : Nat} {ls st : List yV} {S : yS} {N : yN} : ∀ i, yas gf ga ra bv bb lw k (.getfield i) pc ls st S N = (match qfd (qow k) i, st with
  | some (ci, j, kd, _), (2, 0, p) :: r => match qpl p.toNat with
    | (0, c, _, _) => Nat.beq c ci && (yle 1 p && (yle p 142 && (match kd with
      | 0 => yget gf bv S p.toNat j 0 (fun v S => N (pc + 3) ls (v :: r) S)
      | 1 => yget gf bv S p.toNat j 1 (fun v S => N (pc + 3) ls (v :: r) S)
      | 2 => yref ra bv S p.toNat j (fun v S => N (pc + 3) ls (v :: r) S)
      | 3 => yget gf bv S p.toNat j 0 (fun v S => N (pc + 3) ls (v :: r) S)
      | _ => false)))
    | _ => false
  | _, _ => false) := fun i => rfl
theorem yas_putfield {gf : Nat → Nat → Option yI} {ga : Nat → Option yI} {ra : Nat → Nat → List Int} {bv : Nat → Nat → Option Int} {bb : Nat → Option yI} {lw : Bool} {k pc : Nat} {ls st : List yV} {S : yS} {N : yN} : ∀ i, yas gf ga ra bv bb lw k (.putfield i) pc ls st S N = (match qfd (qow k) i, st with
  | some (ci, j, kd, fin), (t, s, o) :: (2, 0, p) :: r => match qpl p.toNat with
    | (0, c, _, _) => Nat.beq c ci && (Nat.beq fin 0 && (yle 1 p && (yle p 142 && (match kd, t with
      | 0, 0 => match gf p.toNat j, yiv S.2.1 s o, ra p.toNat j with
        | some (lo, hi), some (a, b), [] => yle lo a && (yle b hi && N (pc + 3) ls r (yput S p.toNat (j + 1) 0 (j : Int) s o))
        | _, _, _ => false
      | 3, 0 => match gf p.toNat j, yiv S.2.1 s o, ra p.toNat j with
        | some (lo, hi), some (a, b), [] => yle lo a && (yle b hi && (yle 0 a && (yle b 1 && N (pc + 3) ls r (yput S p.toNat (j + 1) 0 (j : Int) s o))))
        | _, _, _ => false
      | 2, 2 => match gf p.toNat j with
        | none => Nat.beq s 0 && ((ra p.toNat j).any (yqi o) && N (pc + 3) ls r (yput S p.toNat (j + 1) 0 (j : Int) s o))
        | _ => false
      | _, _ => false))))
    | _ => false
  | _, _ => false) := fun i => rfl
theorem yas_iaload {gf : Nat → Nat → Option yI} {ga : Nat → Option yI} {ra : Nat → Nat → List Int} {bv : Nat → Nat → Option Int} {bb : Nat → Option yI} {lw : Bool} {k pc : Nat} {ls st : List yV} {S : yS} {N : yN} : yas gf ga ra bv bb lw k .iaload pc ls st S N = (match st with
  | (0, s, o) :: (2, 0, p) :: r => match qpl p.toNat with
    | (1, 0, m, _) => yle 1 p && (yle p 142 && yel ga bv bb S 0 p.toNat m s o (fun v S => N (pc + 1) ls (v :: r) S))
    | _ => false
  | (0, s, o) :: (3, 0, 0) :: r => lw && yscr S s o (fun v S => N (pc + 1) ls (v :: r) S)
  | _ => false) := rfl
theorem yas_baload {gf : Nat → Nat → Option yI} {ga : Nat → Option yI} {ra : Nat → Nat → List Int} {bv : Nat → Nat → Option Int} {bb : Nat → Option yI} {lw : Bool} {k pc : Nat} {ls st : List yV} {S : yS} {N : yN} : yas gf ga ra bv bb lw k .baload pc ls st S N = (match st with
  | (0, s, o) :: (2, 0, p) :: r => match qpl p.toNat with
    | (1, 3, m, _) => yle 1 p && (yle p 142 && yel ga bv bb S 0 p.toNat m s o (fun v S => N (pc + 1) ls (v :: r) S))
    | (1, 4, m, _) => yle 1 p && (yle p 142 && yel ga bv bb S 0 p.toNat m s o (fun v S => N (pc + 1) ls (v :: r) S))
    | _ => false
  | _ => false) := rfl
theorem yas_laload {gf : Nat → Nat → Option yI} {ga : Nat → Option yI} {ra : Nat → Nat → List Int} {bv : Nat → Nat → Option Int} {bb : Nat → Option yI} {lw : Bool} {k pc : Nat} {ls st : List yV} {S : yS} {N : yN} : yas gf ga ra bv bb lw k .laload pc ls st S N = (match st with
  | (0, s, o) :: (2, 0, p) :: r => match qpl p.toNat with
    | (1, 1, m, _) => yle 1 p && (yle p 142 && yel ga bv bb S 1 p.toNat m s o (fun v S => N (pc + 1) ls (v :: r) S))
    | _ => false
  | _ => false) := rfl
theorem yas_aaload {gf : Nat → Nat → Option yI} {ga : Nat → Option yI} {ra : Nat → Nat → List Int} {bv : Nat → Nat → Option Int} {bb : Nat → Option yI} {lw : Bool} {k pc : Nat} {ls st : List yV} {S : yS} {N : yN} : yas gf ga ra bv bb lw k .aaload pc ls st S N = (match st with
  | (0, s, o) :: (2, 0, p) :: r => match qpl p.toNat, yiv S.2.1 s o with
    | (1, 2, m, _), some (a, b) => yle 1 p && (yle p 142 && (yle 0 a && (yle (b + 1) m && yall S s o (fun x S => yref ra bv S p.toNat x.toNat (fun v S => N (pc + 1) ls (v :: r) S)))))
    | _, _ => false
  | _ => false) := rfl
theorem yas_iastore {gf : Nat → Nat → Option yI} {ga : Nat → Option yI} {ra : Nat → Nat → List Int} {bv : Nat → Nat → Option Int} {bb : Nat → Option yI} {lw : Bool} {k pc : Nat} {ls st : List yV} {S : yS} {N : yN} : yas gf ga ra bv bb lw k .iastore pc ls st S N = (match st with
  | (0, vs, vo) :: (0, s, o) :: (2, 0, p) :: r => match qpl p.toNat with
    | (1, 0, m, _) => yle 1 p && (yle p 142 && yel3 ga S p.toNat m s o vs vo y32 (fun S => N (pc + 1) ls r S))
    | _ => false
  | _ => false) := rfl
theorem yas_bastore {gf : Nat → Nat → Option yI} {ga : Nat → Option yI} {ra : Nat → Nat → List Int} {bv : Nat → Nat → Option Int} {bb : Nat → Option yI} {lw : Bool} {k pc : Nat} {ls st : List yV} {S : yS} {N : yN} : yas gf ga ra bv bb lw k .bastore pc ls st S N = (match st with
  | (0, vs, vo) :: (0, s, o) :: (2, 0, p) :: r => match qpl p.toNat with
    | (1, 3, m, _) => yle 1 p && (yle p 142 && yel3 ga S p.toNat m s o vs vo (0, 1) (fun S => N (pc + 1) ls r S))
    | (1, 4, m, _) => yle 1 p && (yle p 142 && yel3 ga S p.toNat m s o vs vo (-128, 127) (fun S => N (pc + 1) ls r S))
    | _ => false
  | _ => false) := rfl
theorem yas_lastore {gf : Nat → Nat → Option yI} {ga : Nat → Option yI} {ra : Nat → Nat → List Int} {bv : Nat → Nat → Option Int} {bb : Nat → Option yI} {lw : Bool} {k pc : Nat} {ls st : List yV} {S : yS} {N : yN} : yas gf ga ra bv bb lw k .lastore pc ls st S N = (match st with
  | (1, vs, vo) :: (0, s, o) :: (2, 0, p) :: r => match qpl p.toNat with
    | (1, 1, m, _) => yle 1 p && (yle p 142 && yel3 ga S p.toNat m s o vs vo y64 (fun S => N (pc + 1) ls r S))
    | _ => false
  | _ => false) := rfl
theorem yas_aastore {gf : Nat → Nat → Option yI} {ga : Nat → Option yI} {ra : Nat → Nat → List Int} {bv : Nat → Nat → Option Int} {bb : Nat → Option yI} {lw : Bool} {k pc : Nat} {ls st : List yV} {S : yS} {N : yN} : yas gf ga ra bv bb lw k .aastore pc ls st S N = (match st with
  | (2, 0, v) :: (0, s, o) :: (2, 0, p) :: r => match qpl p.toNat, qpl v.toNat, yiv S.2.1 s o with
    | (1, 2, m, c), (0, ci, _, _), some (a, b) => Nat.beq c ci && (yle 1 p && (yle p 142 && (yle 1 v && (yle v 142 && (yle 0 a && (yle (b + 1) m && yall S s o (fun x S => match gf p.toNat x.toNat with
      | none => (ra p.toNat x.toNat).any (yqi v) && N (pc + 1) ls r (yput S p.toNat (x.toNat + 1) 0 x 0 v)
      | _ => false)))))))
    | _, _, _ => false
  | _ => false) := rfl
theorem yas_arraylength {gf : Nat → Nat → Option yI} {ga : Nat → Option yI} {ra : Nat → Nat → List Int} {bv : Nat → Nat → Option Int} {bb : Nat → Option yI} {lw : Bool} {k pc : Nat} {ls st : List yV} {S : yS} {N : yN} : yas gf ga ra bv bb lw k .arraylength pc ls st S N = (match st with
  | (2, 0, p) :: r => match qpl p.toNat with
    | (1, _, m, _) => yle 1 p && (yle p 142 && N (pc + 1) ls ((0, 0, (m : Int)) :: r) S)
    | _ => false
  | (3, 0, 0) :: r => lw && N (pc + 1) ls ((0, 1, 0) :: r) S
  | _ => false) := rfl
theorem yarr_o {p c a b : Nat} (h : qpl p = (0, c, a, b)) : yarr p = false := by unfold yarr; rw [h]; rfl
theorem yarr_r {p a b : Nat} (h : qpl p = (1, 2, a, b)) : yarr p = false := by unfold yarr; rw [h]; rfl
theorem yarr_0 {p a b : Nat} (h : qpl p = (1, 0, a, b)) : yarr p = true := by unfold yarr; rw [h]; rfl
theorem yarr_1 {p a b : Nat} (h : qpl p = (1, 1, a, b)) : yarr p = true := by unfold yarr; rw [h]; rfl
theorem yarr_3 {p a b : Nat} (h : qpl p = (1, 3, a, b)) : yarr p = true := by unfold yarr; rw [h]; rfl
theorem yarr_4 {p a b : Nat} (h : qpl p = (1, 4, a, b)) : yarr p = true := by unfold yarr; rw [h]; rfl
section SymAs
variable {L : Nat} {xs : Nat → Int} {w0 : qW} {gf : Nat → Nat → Option yI} {ga : Nat → Option yI} {ra : Nat → Nat → List Int} {Sp : qW → Prop} {gh : Nat → List Int → Int} {bv : Nat → Nat → Option Int} {bb : Nat → Option yI} {ρ : Nat → Int} {S : yS} {w : qW} {lw : Bool} {k pc len : Nat} {ls st : List yV} {N : yN} {sc : Option (Nat × (Nat → Int))}
theorem ya_iload {i : Nat} (hgh : ∀ x c, gh 1000 [x, c] = qand x c) (hbv : ∀ p j c, bv p j = some c → w0 p j = c) (hbb : ∀ p r, bb p = some r → ∀ j, yin r (w0 p j)) (hxs : ∀ j, yin y32 (xs j)) (hSp : ∀ w p j v, (yarr p = false → gf p j ≠ none ∨ ra p j ≠ []) → (yarr p = true → ga p ≠ none) → Sp w → Sp (qup w p j v)) (hsc : sc = bif lw then some (L, xs) else none) (h : yas gf ga ra bv bb lw k (.iload i) pc ls st S N = true) (g : yG L xs w0 gf ga ra Sp gh ρ S w) (hl : ySc S.1 ls) (hs : ySc S.1 st) : yOK L xs w0 gf ga ra Sp gh ρ S N (qs1 sc k (.iload i) len pc (ls.map (yc ρ)) (st.map (yc ρ)) w 142) := by
  have h0 : 0 < S.1 := by have := g.1.2.1; omega
  rw [yas_iload] at h
  split at h
  · rename_i x hq
    refine yOK.same (pc := pc + 2) (ls := ls) (st := (0, x) :: st) ?_ hl (ySc.cons (by have := ynt_sc h0 (i := i) hl; rw [hq] at this; exact this) hs) g h
    rw [qs1_iload, qnt_map g.1.1, hq]; rfl
  · cases h
theorem ya_iload_n {i : Fin 4} (hgh : ∀ x c, gh 1000 [x, c] = qand x c) (hbv : ∀ p j c, bv p j = some c → w0 p j = c) (hbb : ∀ p r, bb p = some r → ∀ j, yin r (w0 p j)) (hxs : ∀ j, yin y32 (xs j)) (hSp : ∀ w p j v, (yarr p = false → gf p j ≠ none ∨ ra p j ≠ []) → (yarr p = true → ga p ≠ none) → Sp w → Sp (qup w p j v)) (hsc : sc = bif lw then some (L, xs) else none) (h : yas gf ga ra bv bb lw k (.iload_n i) pc ls st S N = true) (g : yG L xs w0 gf ga ra Sp gh ρ S w) (hl : ySc S.1 ls) (hs : ySc S.1 st) : yOK L xs w0 gf ga ra Sp gh ρ S N (qs1 sc k (.iload_n i) len pc (ls.map (yc ρ)) (st.map (yc ρ)) w 142) := by
  have h0 : 0 < S.1 := by have := g.1.2.1; omega
  rw [yas_iload_n] at h
  split at h
  · rename_i x hq
    refine yOK.same (pc := pc + 1) (ls := ls) (st := (0, x) :: st) ?_ hl (ySc.cons (by have := ynt_sc h0 (i := i.val) hl; rw [hq] at this; exact this) hs) g h
    rw [qs1_iload_n, qnt_map g.1.1, hq]; rfl
  · cases h
theorem ya_lload {i : Nat} (hgh : ∀ x c, gh 1000 [x, c] = qand x c) (hbv : ∀ p j c, bv p j = some c → w0 p j = c) (hbb : ∀ p r, bb p = some r → ∀ j, yin r (w0 p j)) (hxs : ∀ j, yin y32 (xs j)) (hSp : ∀ w p j v, (yarr p = false → gf p j ≠ none ∨ ra p j ≠ []) → (yarr p = true → ga p ≠ none) → Sp w → Sp (qup w p j v)) (hsc : sc = bif lw then some (L, xs) else none) (h : yas gf ga ra bv bb lw k (.lload i) pc ls st S N = true) (g : yG L xs w0 gf ga ra Sp gh ρ S w) (hl : ySc S.1 ls) (hs : ySc S.1 st) : yOK L xs w0 gf ga ra Sp gh ρ S N (qs1 sc k (.lload i) len pc (ls.map (yc ρ)) (st.map (yc ρ)) w 142) := by
  have h0 : 0 < S.1 := by have := g.1.2.1; omega
  rw [yas_lload] at h
  split at h
  · rename_i x hq
    refine yOK.same (pc := pc + 2) (ls := ls) (st := (1, x) :: st) ?_ hl (ySc.cons (by have := ynt_sc h0 (i := i) hl; rw [hq] at this; exact this) hs) g h
    rw [qs1_lload, qnt_map g.1.1, hq]; rfl
  · cases h
theorem ya_lload_n {i : Fin 4} (hgh : ∀ x c, gh 1000 [x, c] = qand x c) (hbv : ∀ p j c, bv p j = some c → w0 p j = c) (hbb : ∀ p r, bb p = some r → ∀ j, yin r (w0 p j)) (hxs : ∀ j, yin y32 (xs j)) (hSp : ∀ w p j v, (yarr p = false → gf p j ≠ none ∨ ra p j ≠ []) → (yarr p = true → ga p ≠ none) → Sp w → Sp (qup w p j v)) (hsc : sc = bif lw then some (L, xs) else none) (h : yas gf ga ra bv bb lw k (.lload_n i) pc ls st S N = true) (g : yG L xs w0 gf ga ra Sp gh ρ S w) (hl : ySc S.1 ls) (hs : ySc S.1 st) : yOK L xs w0 gf ga ra Sp gh ρ S N (qs1 sc k (.lload_n i) len pc (ls.map (yc ρ)) (st.map (yc ρ)) w 142) := by
  have h0 : 0 < S.1 := by have := g.1.2.1; omega
  rw [yas_lload_n] at h
  split at h
  · rename_i x hq
    refine yOK.same (pc := pc + 1) (ls := ls) (st := (1, x) :: st) ?_ hl (ySc.cons (by have := ynt_sc h0 (i := i.val) hl; rw [hq] at this; exact this) hs) g h
    rw [qs1_lload_n, qnt_map g.1.1, hq]; rfl
  · cases h
theorem ya_aload {i : Nat} (hgh : ∀ x c, gh 1000 [x, c] = qand x c) (hbv : ∀ p j c, bv p j = some c → w0 p j = c) (hbb : ∀ p r, bb p = some r → ∀ j, yin r (w0 p j)) (hxs : ∀ j, yin y32 (xs j)) (hSp : ∀ w p j v, (yarr p = false → gf p j ≠ none ∨ ra p j ≠ []) → (yarr p = true → ga p ≠ none) → Sp w → Sp (qup w p j v)) (hsc : sc = bif lw then some (L, xs) else none) (h : yas gf ga ra bv bb lw k (.aload i) pc ls st S N = true) (g : yG L xs w0 gf ga ra Sp gh ρ S w) (hl : ySc S.1 ls) (hs : ySc S.1 st) : yOK L xs w0 gf ga ra Sp gh ρ S N (qs1 sc k (.aload i) len pc (ls.map (yc ρ)) (st.map (yc ρ)) w 142) := by
  have h0 : 0 < S.1 := by have := g.1.2.1; omega
  rw [yas_aload] at h
  split at h
  · rename_i x hq
    refine yOK.same (pc := pc + 2) (ls := ls) (st := (2, x) :: st) ?_ hl (ySc.cons (by have := ynt_sc h0 (i := i) hl; rw [hq] at this; exact this) hs) g h
    rw [qs1_aload, qnt_map g.1.1, hq]; rfl
  · rename_i x hq
    refine yOK.same (pc := pc + 2) (ls := ls) (st := (3, x) :: st) ?_ hl (ySc.cons (by have := ynt_sc h0 (i := i) hl; rw [hq] at this; exact this) hs) g h
    rw [qs1_aload, qnt_map g.1.1, hq]; rfl
  · cases h
theorem ya_aload_n {i : Fin 4} (hgh : ∀ x c, gh 1000 [x, c] = qand x c) (hbv : ∀ p j c, bv p j = some c → w0 p j = c) (hbb : ∀ p r, bb p = some r → ∀ j, yin r (w0 p j)) (hxs : ∀ j, yin y32 (xs j)) (hSp : ∀ w p j v, (yarr p = false → gf p j ≠ none ∨ ra p j ≠ []) → (yarr p = true → ga p ≠ none) → Sp w → Sp (qup w p j v)) (hsc : sc = bif lw then some (L, xs) else none) (h : yas gf ga ra bv bb lw k (.aload_n i) pc ls st S N = true) (g : yG L xs w0 gf ga ra Sp gh ρ S w) (hl : ySc S.1 ls) (hs : ySc S.1 st) : yOK L xs w0 gf ga ra Sp gh ρ S N (qs1 sc k (.aload_n i) len pc (ls.map (yc ρ)) (st.map (yc ρ)) w 142) := by
  have h0 : 0 < S.1 := by have := g.1.2.1; omega
  rw [yas_aload_n] at h
  split at h
  · rename_i x hq
    refine yOK.same (pc := pc + 1) (ls := ls) (st := (2, x) :: st) ?_ hl (ySc.cons (by have := ynt_sc h0 (i := i.val) hl; rw [hq] at this; exact this) hs) g h
    rw [qs1_aload_n, qnt_map g.1.1, hq]; rfl
  · rename_i x hq
    refine yOK.same (pc := pc + 1) (ls := ls) (st := (3, x) :: st) ?_ hl (ySc.cons (by have := ynt_sc h0 (i := i.val) hl; rw [hq] at this; exact this) hs) g h
    rw [qs1_aload_n, qnt_map g.1.1, hq]; rfl
  · cases h
theorem ya_istore {i : Nat} (hgh : ∀ x c, gh 1000 [x, c] = qand x c) (hbv : ∀ p j c, bv p j = some c → w0 p j = c) (hbb : ∀ p r, bb p = some r → ∀ j, yin r (w0 p j)) (hxs : ∀ j, yin y32 (xs j)) (hSp : ∀ w p j v, (yarr p = false → gf p j ≠ none ∨ ra p j ≠ []) → (yarr p = true → ga p ≠ none) → Sp w → Sp (qup w p j v)) (hsc : sc = bif lw then some (L, xs) else none) (h : yas gf ga ra bv bb lw k (.istore i) pc ls st S N = true) (g : yG L xs w0 gf ga ra Sp gh ρ S w) (hl : ySc S.1 ls) (hs : ySc S.1 st) : yOK L xs w0 gf ga ra Sp gh ρ S N (qs1 sc k (.istore i) len pc (ls.map (yc ρ)) (st.map (yc ρ)) w 142) := by
  have h0 : 0 < S.1 := by have := g.1.2.1; omega
  rw [yas_istore] at h
  split at h
  · rename_i x r
    rw [Bool.and_eq_true] at h
    refine yOK.same (pc := pc + 2) (ls := yst ls i (0, x)) (st := r) ?_ (yst_sc h0 hl hs.hd) hs.tl g h.2
    rw [qs1_istore]
    show (if _ then some (pc + 2, qst (ls.map (yc ρ)) i (yc ρ (0, x)), r.map (yc ρ), w, 142) else none) = _
    rw [if_pos h.1, qst_map g.1.1]
  · cases h
theorem ya_istore_n {i : Fin 4} (hgh : ∀ x c, gh 1000 [x, c] = qand x c) (hbv : ∀ p j c, bv p j = some c → w0 p j = c) (hbb : ∀ p r, bb p = some r → ∀ j, yin r (w0 p j)) (hxs : ∀ j, yin y32 (xs j)) (hSp : ∀ w p j v, (yarr p = false → gf p j ≠ none ∨ ra p j ≠ []) → (yarr p = true → ga p ≠ none) → Sp w → Sp (qup w p j v)) (hsc : sc = bif lw then some (L, xs) else none) (h : yas gf ga ra bv bb lw k (.istore_n i) pc ls st S N = true) (g : yG L xs w0 gf ga ra Sp gh ρ S w) (hl : ySc S.1 ls) (hs : ySc S.1 st) : yOK L xs w0 gf ga ra Sp gh ρ S N (qs1 sc k (.istore_n i) len pc (ls.map (yc ρ)) (st.map (yc ρ)) w 142) := by
  have h0 : 0 < S.1 := by have := g.1.2.1; omega
  rw [yas_istore_n] at h
  split at h
  · rename_i x r
    rw [Bool.and_eq_true] at h
    refine yOK.same (pc := pc + 1) (ls := yst ls i.val (0, x)) (st := r) ?_ (yst_sc h0 hl hs.hd) hs.tl g h.2
    rw [qs1_istore_n]
    show (if _ then some (pc + 1, qst (ls.map (yc ρ)) i.val (yc ρ (0, x)), r.map (yc ρ), w, 142) else none) = _
    rw [if_pos h.1, qst_map g.1.1]
  · cases h
theorem ya_lstore {i : Nat} (hgh : ∀ x c, gh 1000 [x, c] = qand x c) (hbv : ∀ p j c, bv p j = some c → w0 p j = c) (hbb : ∀ p r, bb p = some r → ∀ j, yin r (w0 p j)) (hxs : ∀ j, yin y32 (xs j)) (hSp : ∀ w p j v, (yarr p = false → gf p j ≠ none ∨ ra p j ≠ []) → (yarr p = true → ga p ≠ none) → Sp w → Sp (qup w p j v)) (hsc : sc = bif lw then some (L, xs) else none) (h : yas gf ga ra bv bb lw k (.lstore i) pc ls st S N = true) (g : yG L xs w0 gf ga ra Sp gh ρ S w) (hl : ySc S.1 ls) (hs : ySc S.1 st) : yOK L xs w0 gf ga ra Sp gh ρ S N (qs1 sc k (.lstore i) len pc (ls.map (yc ρ)) (st.map (yc ρ)) w 142) := by
  have h0 : 0 < S.1 := by have := g.1.2.1; omega
  rw [yas_lstore] at h
  split at h
  · rename_i x r
    rw [Bool.and_eq_true] at h
    refine yOK.same (pc := pc + 2) (ls := yst ls i (1, x)) (st := r) ?_ (yst_sc h0 hl hs.hd) hs.tl g h.2
    rw [qs1_lstore]
    show (if _ then some (pc + 2, qst (ls.map (yc ρ)) i (yc ρ (1, x)), r.map (yc ρ), w, 142) else none) = _
    rw [if_pos h.1, qst_map g.1.1]
  · cases h
theorem ya_lstore_n {i : Fin 4} (hgh : ∀ x c, gh 1000 [x, c] = qand x c) (hbv : ∀ p j c, bv p j = some c → w0 p j = c) (hbb : ∀ p r, bb p = some r → ∀ j, yin r (w0 p j)) (hxs : ∀ j, yin y32 (xs j)) (hSp : ∀ w p j v, (yarr p = false → gf p j ≠ none ∨ ra p j ≠ []) → (yarr p = true → ga p ≠ none) → Sp w → Sp (qup w p j v)) (hsc : sc = bif lw then some (L, xs) else none) (h : yas gf ga ra bv bb lw k (.lstore_n i) pc ls st S N = true) (g : yG L xs w0 gf ga ra Sp gh ρ S w) (hl : ySc S.1 ls) (hs : ySc S.1 st) : yOK L xs w0 gf ga ra Sp gh ρ S N (qs1 sc k (.lstore_n i) len pc (ls.map (yc ρ)) (st.map (yc ρ)) w 142) := by
  have h0 : 0 < S.1 := by have := g.1.2.1; omega
  rw [yas_lstore_n] at h
  split at h
  · rename_i x r
    rw [Bool.and_eq_true] at h
    refine yOK.same (pc := pc + 1) (ls := yst ls i.val (1, x)) (st := r) ?_ (yst_sc h0 hl hs.hd) hs.tl g h.2
    rw [qs1_lstore_n]
    show (if _ then some (pc + 1, qst (ls.map (yc ρ)) i.val (yc ρ (1, x)), r.map (yc ρ), w, 142) else none) = _
    rw [if_pos h.1, qst_map g.1.1]
  · cases h
theorem ya_astore_n {i : Fin 4} (hgh : ∀ x c, gh 1000 [x, c] = qand x c) (hbv : ∀ p j c, bv p j = some c → w0 p j = c) (hbb : ∀ p r, bb p = some r → ∀ j, yin r (w0 p j)) (hxs : ∀ j, yin y32 (xs j)) (hSp : ∀ w p j v, (yarr p = false → gf p j ≠ none ∨ ra p j ≠ []) → (yarr p = true → ga p ≠ none) → Sp w → Sp (qup w p j v)) (hsc : sc = bif lw then some (L, xs) else none) (h : yas gf ga ra bv bb lw k (.astore_n i) pc ls st S N = true) (g : yG L xs w0 gf ga ra Sp gh ρ S w) (hl : ySc S.1 ls) (hs : ySc S.1 st) : yOK L xs w0 gf ga ra Sp gh ρ S N (qs1 sc k (.astore_n i) len pc (ls.map (yc ρ)) (st.map (yc ρ)) w 142) := by
  have h0 : 0 < S.1 := by have := g.1.2.1; omega
  rw [yas_astore_n] at h
  split at h
  · rename_i x r
    rw [Bool.and_eq_true] at h
    refine yOK.same (pc := pc + 1) (ls := yst ls i.val (2, x)) (st := r) ?_ (yst_sc h0 hl hs.hd) hs.tl g h.2
    rw [qs1_astore_n]
    show (if _ then some (pc + 1, qst (ls.map (yc ρ)) i.val (yc ρ (2, x)), r.map (yc ρ), w, 142) else none) = _
    rw [if_pos h.1, qst_map g.1.1]
  · cases h
theorem ya_iinc {i : Nat} {c : Int} (hgh : ∀ x c, gh 1000 [x, c] = qand x c) (hbv : ∀ p j c, bv p j = some c → w0 p j = c) (hbb : ∀ p r, bb p = some r → ∀ j, yin r (w0 p j)) (hxs : ∀ j, yin y32 (xs j)) (hSp : ∀ w p j v, (yarr p = false → gf p j ≠ none ∨ ra p j ≠ []) → (yarr p = true → ga p ≠ none) → Sp w → Sp (qup w p j v)) (hsc : sc = bif lw then some (L, xs) else none) (h : yas gf ga ra bv bb lw k (.iinc i c) pc ls st S N = true) (g : yG L xs w0 gf ga ra Sp gh ρ S w) (hl : ySc S.1 ls) (hs : ySc S.1 st) : yOK L xs w0 gf ga ra Sp gh ρ S N (qs1 sc k (.iinc i c) len pc (ls.map (yc ρ)) (st.map (yc ρ)) w 142) := by
  have h0 : 0 < S.1 := by have := g.1.2.1; omega
  rw [yas_iinc] at h
  split at h
  · rename_i s o hq
    rw [Bool.and_eq_true] at h
    have hs1 : s < S.1 := by have := ynt_sc h0 (i := i) hl; rw [hq] at this; exact this
    obtain ⟨ρ', S', v, h1, h2, h3, h4, h5, h6⟩ := yadd_ok h.2 g hs1 h0
    refine ⟨pc + 3, yst ls i v, st, S', ρ', w, ?_, h1, h2, yst_sc (by omega) (hl.mono h1) h4, hs.mono h1, h3, h6⟩
    rw [qs1_iinc, qnt_map g.1.1, hq]
    show (if _ then some (pc + 3, qst (ls.map (yc ρ)) i (0, wrp (ρ s + o + c)), st.map (yc ρ), w, 142) else none) = _
    rw [if_pos h.1, ← qst_map h3.1.1, h5, ym_ag h2 hl, ym_ag h2 hs, g.1.1, Int.zero_add]
  · cases h
theorem ya_iconst {c : Int} (hgh : ∀ x c, gh 1000 [x, c] = qand x c) (hbv : ∀ p j c, bv p j = some c → w0 p j = c) (hbb : ∀ p r, bb p = some r → ∀ j, yin r (w0 p j)) (hxs : ∀ j, yin y32 (xs j)) (hSp : ∀ w p j v, (yarr p = false → gf p j ≠ none ∨ ra p j ≠ []) → (yarr p = true → ga p ≠ none) → Sp w → Sp (qup w p j v)) (hsc : sc = bif lw then some (L, xs) else none) (h : yas gf ga ra bv bb lw k (.iconst c) pc ls st S N = true) (g : yG L xs w0 gf ga ra Sp gh ρ S w) (hl : ySc S.1 ls) (hs : ySc S.1 st) : yOK L xs w0 gf ga ra Sp gh ρ S N (qs1 sc k (.iconst c) len pc (ls.map (yc ρ)) (st.map (yc ρ)) w 142) := by
  have h0 : 0 < S.1 := by have := g.1.2.1; omega
  rw [yas_iconst] at h
  refine yOK.same (pc := pc + 1) (ls := ls) (st := (0, 0, c) :: st) ?_ hl (ySc.cons h0 hs) g h
  show some (pc + 1, ls.map (yc ρ), (0, c) :: st.map (yc ρ), w, 142) = some (pc + 1, ls.map (yc ρ), (0, ρ 0 + c) :: st.map (yc ρ), w, 142)
  rw [g.1.1, Int.zero_add]
theorem ya_bipush {c : Int} (hgh : ∀ x c, gh 1000 [x, c] = qand x c) (hbv : ∀ p j c, bv p j = some c → w0 p j = c) (hbb : ∀ p r, bb p = some r → ∀ j, yin r (w0 p j)) (hxs : ∀ j, yin y32 (xs j)) (hSp : ∀ w p j v, (yarr p = false → gf p j ≠ none ∨ ra p j ≠ []) → (yarr p = true → ga p ≠ none) → Sp w → Sp (qup w p j v)) (hsc : sc = bif lw then some (L, xs) else none) (h : yas gf ga ra bv bb lw k (.bipush c) pc ls st S N = true) (g : yG L xs w0 gf ga ra Sp gh ρ S w) (hl : ySc S.1 ls) (hs : ySc S.1 st) : yOK L xs w0 gf ga ra Sp gh ρ S N (qs1 sc k (.bipush c) len pc (ls.map (yc ρ)) (st.map (yc ρ)) w 142) := by
  have h0 : 0 < S.1 := by have := g.1.2.1; omega
  rw [yas_bipush] at h
  refine yOK.same (pc := pc + 2) (ls := ls) (st := (0, 0, c) :: st) ?_ hl (ySc.cons h0 hs) g h
  show some (pc + 2, ls.map (yc ρ), (0, c) :: st.map (yc ρ), w, 142) = some (pc + 2, ls.map (yc ρ), (0, ρ 0 + c) :: st.map (yc ρ), w, 142)
  rw [g.1.1, Int.zero_add]
theorem ya_sipush {c : Int} (hgh : ∀ x c, gh 1000 [x, c] = qand x c) (hbv : ∀ p j c, bv p j = some c → w0 p j = c) (hbb : ∀ p r, bb p = some r → ∀ j, yin r (w0 p j)) (hxs : ∀ j, yin y32 (xs j)) (hSp : ∀ w p j v, (yarr p = false → gf p j ≠ none ∨ ra p j ≠ []) → (yarr p = true → ga p ≠ none) → Sp w → Sp (qup w p j v)) (hsc : sc = bif lw then some (L, xs) else none) (h : yas gf ga ra bv bb lw k (.sipush c) pc ls st S N = true) (g : yG L xs w0 gf ga ra Sp gh ρ S w) (hl : ySc S.1 ls) (hs : ySc S.1 st) : yOK L xs w0 gf ga ra Sp gh ρ S N (qs1 sc k (.sipush c) len pc (ls.map (yc ρ)) (st.map (yc ρ)) w 142) := by
  have h0 : 0 < S.1 := by have := g.1.2.1; omega
  rw [yas_sipush] at h
  refine yOK.same (pc := pc + 3) (ls := ls) (st := (0, 0, c) :: st) ?_ hl (ySc.cons h0 hs) g h
  show some (pc + 3, ls.map (yc ρ), (0, c) :: st.map (yc ρ), w, 142) = some (pc + 3, ls.map (yc ρ), (0, ρ 0 + c) :: st.map (yc ρ), w, 142)
  rw [g.1.1, Int.zero_add]
theorem ya_lconst {c : Fin 2} (hgh : ∀ x c, gh 1000 [x, c] = qand x c) (hbv : ∀ p j c, bv p j = some c → w0 p j = c) (hbb : ∀ p r, bb p = some r → ∀ j, yin r (w0 p j)) (hxs : ∀ j, yin y32 (xs j)) (hSp : ∀ w p j v, (yarr p = false → gf p j ≠ none ∨ ra p j ≠ []) → (yarr p = true → ga p ≠ none) → Sp w → Sp (qup w p j v)) (hsc : sc = bif lw then some (L, xs) else none) (h : yas gf ga ra bv bb lw k (.lconst c) pc ls st S N = true) (g : yG L xs w0 gf ga ra Sp gh ρ S w) (hl : ySc S.1 ls) (hs : ySc S.1 st) : yOK L xs w0 gf ga ra Sp gh ρ S N (qs1 sc k (.lconst c) len pc (ls.map (yc ρ)) (st.map (yc ρ)) w 142) := by
  have h0 : 0 < S.1 := by have := g.1.2.1; omega
  rw [yas_lconst] at h
  refine yOK.same (pc := pc + 1) (ls := ls) (st := (1, 0, (c.val : Int)) :: st) ?_ hl (ySc.cons h0 hs) g h
  show some (pc + 1, ls.map (yc ρ), (1, (c.val : Int)) :: st.map (yc ρ), w, 142) = some (pc + 1, ls.map (yc ρ), (1, ρ 0 + (c.val : Int)) :: st.map (yc ρ), w, 142)
  rw [g.1.1, Int.zero_add]
theorem ya_aconst_null (hgh : ∀ x c, gh 1000 [x, c] = qand x c) (hbv : ∀ p j c, bv p j = some c → w0 p j = c) (hbb : ∀ p r, bb p = some r → ∀ j, yin r (w0 p j)) (hxs : ∀ j, yin y32 (xs j)) (hSp : ∀ w p j v, (yarr p = false → gf p j ≠ none ∨ ra p j ≠ []) → (yarr p = true → ga p ≠ none) → Sp w → Sp (qup w p j v)) (hsc : sc = bif lw then some (L, xs) else none) (h : yas gf ga ra bv bb lw k .aconst_null pc ls st S N = true) (g : yG L xs w0 gf ga ra Sp gh ρ S w) (hl : ySc S.1 ls) (hs : ySc S.1 st) : yOK L xs w0 gf ga ra Sp gh ρ S N (qs1 sc k .aconst_null len pc (ls.map (yc ρ)) (st.map (yc ρ)) w 142) := by
  have h0 : 0 < S.1 := by have := g.1.2.1; omega
  rw [yas_aconst_null] at h
  refine yOK.same (pc := pc + 1) (ls := ls) (st := (2, 0, (0 : Int)) :: st) ?_ hl (ySc.cons h0 hs) g h
  show some (pc + 1, ls.map (yc ρ), (2, (0 : Int)) :: st.map (yc ρ), w, 142) = some (pc + 1, ls.map (yc ρ), (2, ρ 0 + (0 : Int)) :: st.map (yc ρ), w, 142)
  rw [g.1.1, Int.zero_add]
theorem ya_ldc {i : Nat} (hgh : ∀ x c, gh 1000 [x, c] = qand x c) (hbv : ∀ p j c, bv p j = some c → w0 p j = c) (hbb : ∀ p r, bb p = some r → ∀ j, yin r (w0 p j)) (hxs : ∀ j, yin y32 (xs j)) (hSp : ∀ w p j v, (yarr p = false → gf p j ≠ none ∨ ra p j ≠ []) → (yarr p = true → ga p ≠ none) → Sp w → Sp (qup w p j v)) (hsc : sc = bif lw then some (L, xs) else none) (h : yas gf ga ra bv bb lw k (.ldc i) pc ls st S N = true) (g : yG L xs w0 gf ga ra Sp gh ρ S w) (hl : ySc S.1 ls) (hs : ySc S.1 st) : yOK L xs w0 gf ga ra Sp gh ρ S N (qs1 sc k (.ldc i) len pc (ls.map (yc ρ)) (st.map (yc ρ)) w 142) := by
  have h0 : 0 < S.1 := by have := g.1.2.1; omega
  rw [yas_ldc] at h
  split at h
  · rename_i v hq
    refine yOK.same (pc := pc + 2) (ls := ls) (st := (0, 0, v) :: st) ?_ hl (ySc.cons h0 hs) g h
    rw [qs1_ldc, hq]
    show some (pc + 2, ls.map (yc ρ), (0, v) :: st.map (yc ρ), w, 142) = some (pc + 2, ls.map (yc ρ), (0, ρ 0 + v) :: st.map (yc ρ), w, 142)
    rw [g.1.1, Int.zero_add]
  · rename_i v hq
    refine yOK.same (pc := pc + 2) (ls := ls) (st := (3, 0, v) :: st) ?_ hl (ySc.cons h0 hs) g h
    rw [qs1_ldc, hq]
    show some (pc + 2, ls.map (yc ρ), (3, v) :: st.map (yc ρ), w, 142) = some (pc + 2, ls.map (yc ρ), (3, ρ 0 + v) :: st.map (yc ρ), w, 142)
    rw [g.1.1, Int.zero_add]
  · cases h
theorem ya_ldc_w {i : Nat} (hgh : ∀ x c, gh 1000 [x, c] = qand x c) (hbv : ∀ p j c, bv p j = some c → w0 p j = c) (hbb : ∀ p r, bb p = some r → ∀ j, yin r (w0 p j)) (hxs : ∀ j, yin y32 (xs j)) (hSp : ∀ w p j v, (yarr p = false → gf p j ≠ none ∨ ra p j ≠ []) → (yarr p = true → ga p ≠ none) → Sp w → Sp (qup w p j v)) (hsc : sc = bif lw then some (L, xs) else none) (h : yas gf ga ra bv bb lw k (.ldc_w i) pc ls st S N = true) (g : yG L xs w0 gf ga ra Sp gh ρ S w) (hl : ySc S.1 ls) (hs : ySc S.1 st) : yOK L xs w0 gf ga ra Sp gh ρ S N (qs1 sc k (.ldc_w i) len pc (ls.map (yc ρ)) (st.map (yc ρ)) w 142) := by
  have h0 : 0 < S.1 := by have := g.1.2.1; omega
  rw [yas_ldc_w] at h
  split at h
  · rename_i v hq
    refine yOK.same (pc := pc + 3) (ls := ls) (st := (0, 0, v) :: st) ?_ hl (ySc.cons h0 hs) g h
    rw [qs1_ldc_w, hq]
    show some (pc + 3, ls.map (yc ρ), (0, v) :: st.map (yc ρ), w, 142) = some (pc + 3, ls.map (yc ρ), (0, ρ 0 + v) :: st.map (yc ρ), w, 142)
    rw [g.1.1, Int.zero_add]
  · rename_i v hq
    refine yOK.same (pc := pc + 3) (ls := ls) (st := (3, 0, v) :: st) ?_ hl (ySc.cons h0 hs) g h
    rw [qs1_ldc_w, hq]
    show some (pc + 3, ls.map (yc ρ), (3, v) :: st.map (yc ρ), w, 142) = some (pc + 3, ls.map (yc ρ), (3, ρ 0 + v) :: st.map (yc ρ), w, 142)
    rw [g.1.1, Int.zero_add]
  · cases h
theorem ya_ldc2_w {i : Nat} (hgh : ∀ x c, gh 1000 [x, c] = qand x c) (hbv : ∀ p j c, bv p j = some c → w0 p j = c) (hbb : ∀ p r, bb p = some r → ∀ j, yin r (w0 p j)) (hxs : ∀ j, yin y32 (xs j)) (hSp : ∀ w p j v, (yarr p = false → gf p j ≠ none ∨ ra p j ≠ []) → (yarr p = true → ga p ≠ none) → Sp w → Sp (qup w p j v)) (hsc : sc = bif lw then some (L, xs) else none) (h : yas gf ga ra bv bb lw k (.ldc2_w i) pc ls st S N = true) (g : yG L xs w0 gf ga ra Sp gh ρ S w) (hl : ySc S.1 ls) (hs : ySc S.1 st) : yOK L xs w0 gf ga ra Sp gh ρ S N (qs1 sc k (.ldc2_w i) len pc (ls.map (yc ρ)) (st.map (yc ρ)) w 142) := by
  have h0 : 0 < S.1 := by have := g.1.2.1; omega
  rw [yas_ldc2_w] at h
  split at h
  · rename_i v hq
    refine yOK.same (pc := pc + 3) (ls := ls) (st := (1, 0, v) :: st) ?_ hl (ySc.cons h0 hs) g h
    rw [qs1_ldc2_w, hq]
    show some (pc + 3, ls.map (yc ρ), (1, v) :: st.map (yc ρ), w, 142) = some (pc + 3, ls.map (yc ρ), (1, ρ 0 + v) :: st.map (yc ρ), w, 142)
    rw [g.1.1, Int.zero_add]
  · cases h
theorem ya_dup (hgh : ∀ x c, gh 1000 [x, c] = qand x c) (hbv : ∀ p j c, bv p j = some c → w0 p j = c) (hbb : ∀ p r, bb p = some r → ∀ j, yin r (w0 p j)) (hxs : ∀ j, yin y32 (xs j)) (hSp : ∀ w p j v, (yarr p = false → gf p j ≠ none ∨ ra p j ≠ []) → (yarr p = true → ga p ≠ none) → Sp w → Sp (qup w p j v)) (hsc : sc = bif lw then some (L, xs) else none) (h : yas gf ga ra bv bb lw k .dup pc ls st S N = true) (g : yG L xs w0 gf ga ra Sp gh ρ S w) (hl : ySc S.1 ls) (hs : ySc S.1 st) : yOK L xs w0 gf ga ra Sp gh ρ S N (qs1 sc k .dup len pc (ls.map (yc ρ)) (st.map (yc ρ)) w 142) := by
  have h0 : 0 < S.1 := by have := g.1.2.1; omega
  rw [yas_dup] at h
  split at h
  · rename_i x r
    exact yOK.same (pc := pc + 1) (ls := ls) (st := (0, x) :: (0, x) :: r) rfl hl (ySc.cons hs.hd hs) g h
  · rename_i x r
    exact yOK.same (pc := pc + 1) (ls := ls) (st := (2, x) :: (2, x) :: r) rfl hl (ySc.cons hs.hd hs) g h
  · cases h
theorem ya_dup2 (hgh : ∀ x c, gh 1000 [x, c] = qand x c) (hbv : ∀ p j c, bv p j = some c → w0 p j = c) (hbb : ∀ p r, bb p = some r → ∀ j, yin r (w0 p j)) (hxs : ∀ j, yin y32 (xs j)) (hSp : ∀ w p j v, (yarr p = false → gf p j ≠ none ∨ ra p j ≠ []) → (yarr p = true → ga p ≠ none) → Sp w → Sp (qup w p j v)) (hsc : sc = bif lw then some (L, xs) else none) (h : yas gf ga ra bv bb lw k .dup2 pc ls st S N = true) (g : yG L xs w0 gf ga ra Sp gh ρ S w) (hl : ySc S.1 ls) (hs : ySc S.1 st) : yOK L xs w0 gf ga ra Sp gh ρ S N (qs1 sc k .dup2 len pc (ls.map (yc ρ)) (st.map (yc ρ)) w 142) := by
  have h0 : 0 < S.1 := by have := g.1.2.1; omega
  rw [yas_dup2] at h
  split at h
  · rename_i x y r
    exact yOK.same (pc := pc + 1) (ls := ls) (st := (0, x) :: (2, y) :: (0, x) :: (2, y) :: r) rfl hl (ySc.cons hs.hd (ySc.cons hs.tl.hd hs)) g h
  · cases h
theorem ya_pop (hgh : ∀ x c, gh 1000 [x, c] = qand x c) (hbv : ∀ p j c, bv p j = some c → w0 p j = c) (hbb : ∀ p r, bb p = some r → ∀ j, yin r (w0 p j)) (hxs : ∀ j, yin y32 (xs j)) (hSp : ∀ w p j v, (yarr p = false → gf p j ≠ none ∨ ra p j ≠ []) → (yarr p = true → ga p ≠ none) → Sp w → Sp (qup w p j v)) (hsc : sc = bif lw then some (L, xs) else none) (h : yas gf ga ra bv bb lw k .pop pc ls st S N = true) (g : yG L xs w0 gf ga ra Sp gh ρ S w) (hl : ySc S.1 ls) (hs : ySc S.1 st) : yOK L xs w0 gf ga ra Sp gh ρ S N (qs1 sc k .pop len pc (ls.map (yc ρ)) (st.map (yc ρ)) w 142) := by
  have h0 : 0 < S.1 := by have := g.1.2.1; omega
  rw [yas_pop] at h
  split at h
  · rename_i x r
    exact yOK.same (pc := pc + 1) (ls := ls) (st := r) rfl hl hs.tl g h
  · cases h
theorem ya_iadd (hgh : ∀ x c, gh 1000 [x, c] = qand x c) (hbv : ∀ p j c, bv p j = some c → w0 p j = c) (hbb : ∀ p r, bb p = some r → ∀ j, yin r (w0 p j)) (hxs : ∀ j, yin y32 (xs j)) (hSp : ∀ w p j v, (yarr p = false → gf p j ≠ none ∨ ra p j ≠ []) → (yarr p = true → ga p ≠ none) → Sp w → Sp (qup w p j v)) (hsc : sc = bif lw then some (L, xs) else none) (h : yas gf ga ra bv bb lw k .iadd pc ls st S N = true) (g : yG L xs w0 gf ga ra Sp gh ρ S w) (hl : ySc S.1 ls) (hs : ySc S.1 st) : yOK L xs w0 gf ga ra Sp gh ρ S N (qs1 sc k .iadd len pc (ls.map (yc ρ)) (st.map (yc ρ)) w 142) := by
  have h0 : 0 < S.1 := by have := g.1.2.1; omega
  rw [yas_iadd] at h
  split at h
  · rename_i s2 o2 s1 o1 r
    exact yOK.r1 (pc := pc + 1) (ls := ls) (r := r) (yadd_ok h g hs.tl.hd hs.hd) rfl hl hs.tl.tl
  · cases h
theorem ya_iand (hgh : ∀ x c, gh 1000 [x, c] = qand x c) (hbv : ∀ p j c, bv p j = some c → w0 p j = c) (hbb : ∀ p r, bb p = some r → ∀ j, yin r (w0 p j)) (hxs : ∀ j, yin y32 (xs j)) (hSp : ∀ w p j v, (yarr p = false → gf p j ≠ none ∨ ra p j ≠ []) → (yarr p = true → ga p ≠ none) → Sp w → Sp (qup w p j v)) (hsc : sc = bif lw then some (L, xs) else none) (h : yas gf ga ra bv bb lw k .iand pc ls st S N = true) (g : yG L xs w0 gf ga ra Sp gh ρ S w) (hl : ySc S.1 ls) (hs : ySc S.1 st) : yOK L xs w0 gf ga ra Sp gh ρ S N (qs1 sc k .iand len pc (ls.map (yc ρ)) (st.map (yc ρ)) w 142) := by
  have h0 : 0 < S.1 := by have := g.1.2.1; omega
  rw [yas_iand] at h
  split at h
  · rename_i s2 o2 s1 o1 r
    exact yOK.r1 (pc := pc + 1) (ls := ls) (r := r) (yand_ok hgh h g hs.tl.hd) rfl hl hs.tl.tl
  · cases h
theorem ya_isub (hgh : ∀ x c, gh 1000 [x, c] = qand x c) (hbv : ∀ p j c, bv p j = some c → w0 p j = c) (hbb : ∀ p r, bb p = some r → ∀ j, yin r (w0 p j)) (hxs : ∀ j, yin y32 (xs j)) (hSp : ∀ w p j v, (yarr p = false → gf p j ≠ none ∨ ra p j ≠ []) → (yarr p = true → ga p ≠ none) → Sp w → Sp (qup w p j v)) (hsc : sc = bif lw then some (L, xs) else none) (h : yas gf ga ra bv bb lw k .isub pc ls st S N = true) (g : yG L xs w0 gf ga ra Sp gh ρ S w) (hl : ySc S.1 ls) (hs : ySc S.1 st) : yOK L xs w0 gf ga ra Sp gh ρ S N (qs1 sc k .isub len pc (ls.map (yc ρ)) (st.map (yc ρ)) w 142) := by
  have h0 : 0 < S.1 := by have := g.1.2.1; omega
  rw [yas_isub] at h
  split at h
  · rename_i s2 o2 s1 o1 r
    exact yOK.r1 (pc := pc + 1) (ls := ls) (r := r) (ysub_ok h g hs.tl.hd) rfl hl hs.tl.tl
  · cases h
theorem ya_imul (hgh : ∀ x c, gh 1000 [x, c] = qand x c) (hbv : ∀ p j c, bv p j = some c → w0 p j = c) (hbb : ∀ p r, bb p = some r → ∀ j, yin r (w0 p j)) (hxs : ∀ j, yin y32 (xs j)) (hSp : ∀ w p j v, (yarr p = false → gf p j ≠ none ∨ ra p j ≠ []) → (yarr p = true → ga p ≠ none) → Sp w → Sp (qup w p j v)) (hsc : sc = bif lw then some (L, xs) else none) (h : yas gf ga ra bv bb lw k .imul pc ls st S N = true) (g : yG L xs w0 gf ga ra Sp gh ρ S w) (hl : ySc S.1 ls) (hs : ySc S.1 st) : yOK L xs w0 gf ga ra Sp gh ρ S N (qs1 sc k .imul len pc (ls.map (yc ρ)) (st.map (yc ρ)) w 142) := by
  have h0 : 0 < S.1 := by have := g.1.2.1; omega
  rw [yas_imul] at h
  split at h
  · rename_i s2 o2 s1 o1 r
    exact yOK.r1 (pc := pc + 1) (ls := ls) (r := r) (ybin_ok vmul_ok h g) rfl hl hs.tl.tl
  · cases h
theorem ya_ior (hgh : ∀ x c, gh 1000 [x, c] = qand x c) (hbv : ∀ p j c, bv p j = some c → w0 p j = c) (hbb : ∀ p r, bb p = some r → ∀ j, yin r (w0 p j)) (hxs : ∀ j, yin y32 (xs j)) (hSp : ∀ w p j v, (yarr p = false → gf p j ≠ none ∨ ra p j ≠ []) → (yarr p = true → ga p ≠ none) → Sp w → Sp (qup w p j v)) (hsc : sc = bif lw then some (L, xs) else none) (h : yas gf ga ra bv bb lw k .ior pc ls st S N = true) (g : yG L xs w0 gf ga ra Sp gh ρ S w) (hl : ySc S.1 ls) (hs : ySc S.1 st) : yOK L xs w0 gf ga ra Sp gh ρ S N (qs1 sc k .ior len pc (ls.map (yc ρ)) (st.map (yc ρ)) w 142) := by
  have h0 : 0 < S.1 := by have := g.1.2.1; omega
  rw [yas_ior] at h
  split at h
  · rename_i s2 o2 s1 o1 r
    exact yOK.r1 (pc := pc + 1) (ls := ls) (r := r) (ybin_ok vor_ok h g) rfl hl hs.tl.tl
  · cases h
theorem ya_ixor (hgh : ∀ x c, gh 1000 [x, c] = qand x c) (hbv : ∀ p j c, bv p j = some c → w0 p j = c) (hbb : ∀ p r, bb p = some r → ∀ j, yin r (w0 p j)) (hxs : ∀ j, yin y32 (xs j)) (hSp : ∀ w p j v, (yarr p = false → gf p j ≠ none ∨ ra p j ≠ []) → (yarr p = true → ga p ≠ none) → Sp w → Sp (qup w p j v)) (hsc : sc = bif lw then some (L, xs) else none) (h : yas gf ga ra bv bb lw k .ixor pc ls st S N = true) (g : yG L xs w0 gf ga ra Sp gh ρ S w) (hl : ySc S.1 ls) (hs : ySc S.1 st) : yOK L xs w0 gf ga ra Sp gh ρ S N (qs1 sc k .ixor len pc (ls.map (yc ρ)) (st.map (yc ρ)) w 142) := by
  have h0 : 0 < S.1 := by have := g.1.2.1; omega
  rw [yas_ixor] at h
  split at h
  · rename_i s2 o2 s1 o1 r
    exact yOK.r1 (pc := pc + 1) (ls := ls) (r := r) (ybin_ok vxor1_ok h g) rfl hl hs.tl.tl
  · cases h
theorem ya_ishl (hgh : ∀ x c, gh 1000 [x, c] = qand x c) (hbv : ∀ p j c, bv p j = some c → w0 p j = c) (hbb : ∀ p r, bb p = some r → ∀ j, yin r (w0 p j)) (hxs : ∀ j, yin y32 (xs j)) (hSp : ∀ w p j v, (yarr p = false → gf p j ≠ none ∨ ra p j ≠ []) → (yarr p = true → ga p ≠ none) → Sp w → Sp (qup w p j v)) (hsc : sc = bif lw then some (L, xs) else none) (h : yas gf ga ra bv bb lw k .ishl pc ls st S N = true) (g : yG L xs w0 gf ga ra Sp gh ρ S w) (hl : ySc S.1 ls) (hs : ySc S.1 st) : yOK L xs w0 gf ga ra Sp gh ρ S N (qs1 sc k .ishl len pc (ls.map (yc ρ)) (st.map (yc ρ)) w 142) := by
  have h0 : 0 < S.1 := by have := g.1.2.1; omega
  rw [yas_ishl] at h
  split at h
  · rename_i s2 o2 s1 o1 r
    exact yOK.r1 (pc := pc + 1) (ls := ls) (r := r) (ybin_ok vshl_ok h g) rfl hl hs.tl.tl
  · cases h
theorem ya_ishr (hgh : ∀ x c, gh 1000 [x, c] = qand x c) (hbv : ∀ p j c, bv p j = some c → w0 p j = c) (hbb : ∀ p r, bb p = some r → ∀ j, yin r (w0 p j)) (hxs : ∀ j, yin y32 (xs j)) (hSp : ∀ w p j v, (yarr p = false → gf p j ≠ none ∨ ra p j ≠ []) → (yarr p = true → ga p ≠ none) → Sp w → Sp (qup w p j v)) (hsc : sc = bif lw then some (L, xs) else none) (h : yas gf ga ra bv bb lw k .ishr pc ls st S N = true) (g : yG L xs w0 gf ga ra Sp gh ρ S w) (hl : ySc S.1 ls) (hs : ySc S.1 st) : yOK L xs w0 gf ga ra Sp gh ρ S N (qs1 sc k .ishr len pc (ls.map (yc ρ)) (st.map (yc ρ)) w 142) := by
  have h0 : 0 < S.1 := by have := g.1.2.1; omega
  rw [yas_ishr] at h
  split at h
  · rename_i s2 o2 s1 o1 r
    exact yOK.r1 (pc := pc + 1) (ls := ls) (r := r) (ybin_ok vshr_ok h g) rfl hl hs.tl.tl
  · cases h
theorem ya_iushr (hgh : ∀ x c, gh 1000 [x, c] = qand x c) (hbv : ∀ p j c, bv p j = some c → w0 p j = c) (hbb : ∀ p r, bb p = some r → ∀ j, yin r (w0 p j)) (hxs : ∀ j, yin y32 (xs j)) (hSp : ∀ w p j v, (yarr p = false → gf p j ≠ none ∨ ra p j ≠ []) → (yarr p = true → ga p ≠ none) → Sp w → Sp (qup w p j v)) (hsc : sc = bif lw then some (L, xs) else none) (h : yas gf ga ra bv bb lw k .iushr pc ls st S N = true) (g : yG L xs w0 gf ga ra Sp gh ρ S w) (hl : ySc S.1 ls) (hs : ySc S.1 st) : yOK L xs w0 gf ga ra Sp gh ρ S N (qs1 sc k .iushr len pc (ls.map (yc ρ)) (st.map (yc ρ)) w 142) := by
  have h0 : 0 < S.1 := by have := g.1.2.1; omega
  rw [yas_iushr] at h
  split at h
  · rename_i s2 o2 s1 o1 r
    exact yOK.r1 (pc := pc + 1) (ls := ls) (r := r) (ybin_ok vush_ok h g) rfl hl hs.tl.tl
  · cases h
theorem ya_ladd (hgh : ∀ x c, gh 1000 [x, c] = qand x c) (hbv : ∀ p j c, bv p j = some c → w0 p j = c) (hbb : ∀ p r, bb p = some r → ∀ j, yin r (w0 p j)) (hxs : ∀ j, yin y32 (xs j)) (hSp : ∀ w p j v, (yarr p = false → gf p j ≠ none ∨ ra p j ≠ []) → (yarr p = true → ga p ≠ none) → Sp w → Sp (qup w p j v)) (hsc : sc = bif lw then some (L, xs) else none) (h : yas gf ga ra bv bb lw k .ladd pc ls st S N = true) (g : yG L xs w0 gf ga ra Sp gh ρ S w) (hl : ySc S.1 ls) (hs : ySc S.1 st) : yOK L xs w0 gf ga ra Sp gh ρ S N (qs1 sc k .ladd len pc (ls.map (yc ρ)) (st.map (yc ρ)) w 142) := by
  have h0 : 0 < S.1 := by have := g.1.2.1; omega
  rw [yas_ladd] at h
  split at h
  · rename_i s2 o2 s1 o1 r
    exact yOK.r1 (pc := pc + 1) (ls := ls) (r := r) (ybin_ok vladd_ok h g) rfl hl hs.tl.tl
  · cases h
theorem ya_lsub (hgh : ∀ x c, gh 1000 [x, c] = qand x c) (hbv : ∀ p j c, bv p j = some c → w0 p j = c) (hbb : ∀ p r, bb p = some r → ∀ j, yin r (w0 p j)) (hxs : ∀ j, yin y32 (xs j)) (hSp : ∀ w p j v, (yarr p = false → gf p j ≠ none ∨ ra p j ≠ []) → (yarr p = true → ga p ≠ none) → Sp w → Sp (qup w p j v)) (hsc : sc = bif lw then some (L, xs) else none) (h : yas gf ga ra bv bb lw k .lsub pc ls st S N = true) (g : yG L xs w0 gf ga ra Sp gh ρ S w) (hl : ySc S.1 ls) (hs : ySc S.1 st) : yOK L xs w0 gf ga ra Sp gh ρ S N (qs1 sc k .lsub len pc (ls.map (yc ρ)) (st.map (yc ρ)) w 142) := by
  have h0 : 0 < S.1 := by have := g.1.2.1; omega
  rw [yas_lsub] at h
  split at h
  · rename_i s2 o2 s1 o1 r
    exact yOK.r1 (pc := pc + 1) (ls := ls) (r := r) (ybin_ok vlsub_ok h g) rfl hl hs.tl.tl
  · cases h
theorem ya_lmul (hgh : ∀ x c, gh 1000 [x, c] = qand x c) (hbv : ∀ p j c, bv p j = some c → w0 p j = c) (hbb : ∀ p r, bb p = some r → ∀ j, yin r (w0 p j)) (hxs : ∀ j, yin y32 (xs j)) (hSp : ∀ w p j v, (yarr p = false → gf p j ≠ none ∨ ra p j ≠ []) → (yarr p = true → ga p ≠ none) → Sp w → Sp (qup w p j v)) (hsc : sc = bif lw then some (L, xs) else none) (h : yas gf ga ra bv bb lw k .lmul pc ls st S N = true) (g : yG L xs w0 gf ga ra Sp gh ρ S w) (hl : ySc S.1 ls) (hs : ySc S.1 st) : yOK L xs w0 gf ga ra Sp gh ρ S N (qs1 sc k .lmul len pc (ls.map (yc ρ)) (st.map (yc ρ)) w 142) := by
  have h0 : 0 < S.1 := by have := g.1.2.1; omega
  rw [yas_lmul] at h
  split at h
  · rename_i s2 o2 s1 o1 r
    exact yOK.r1 (pc := pc + 1) (ls := ls) (r := r) (ybin_ok vlmul_ok h g) rfl hl hs.tl.tl
  · cases h
theorem ya_land (hgh : ∀ x c, gh 1000 [x, c] = qand x c) (hbv : ∀ p j c, bv p j = some c → w0 p j = c) (hbb : ∀ p r, bb p = some r → ∀ j, yin r (w0 p j)) (hxs : ∀ j, yin y32 (xs j)) (hSp : ∀ w p j v, (yarr p = false → gf p j ≠ none ∨ ra p j ≠ []) → (yarr p = true → ga p ≠ none) → Sp w → Sp (qup w p j v)) (hsc : sc = bif lw then some (L, xs) else none) (h : yas gf ga ra bv bb lw k .land pc ls st S N = true) (g : yG L xs w0 gf ga ra Sp gh ρ S w) (hl : ySc S.1 ls) (hs : ySc S.1 st) : yOK L xs w0 gf ga ra Sp gh ρ S N (qs1 sc k .land len pc (ls.map (yc ρ)) (st.map (yc ρ)) w 142) := by
  have h0 : 0 < S.1 := by have := g.1.2.1; omega
  rw [yas_land] at h
  split at h
  · rename_i s2 o2 s1 o1 r
    exact yOK.r1 (pc := pc + 1) (ls := ls) (r := r) (ybin_ok vland_ok h g) rfl hl hs.tl.tl
  · cases h
theorem ya_lor (hgh : ∀ x c, gh 1000 [x, c] = qand x c) (hbv : ∀ p j c, bv p j = some c → w0 p j = c) (hbb : ∀ p r, bb p = some r → ∀ j, yin r (w0 p j)) (hxs : ∀ j, yin y32 (xs j)) (hSp : ∀ w p j v, (yarr p = false → gf p j ≠ none ∨ ra p j ≠ []) → (yarr p = true → ga p ≠ none) → Sp w → Sp (qup w p j v)) (hsc : sc = bif lw then some (L, xs) else none) (h : yas gf ga ra bv bb lw k .lor pc ls st S N = true) (g : yG L xs w0 gf ga ra Sp gh ρ S w) (hl : ySc S.1 ls) (hs : ySc S.1 st) : yOK L xs w0 gf ga ra Sp gh ρ S N (qs1 sc k .lor len pc (ls.map (yc ρ)) (st.map (yc ρ)) w 142) := by
  have h0 : 0 < S.1 := by have := g.1.2.1; omega
  rw [yas_lor] at h
  split at h
  · rename_i s2 o2 s1 o1 r
    exact yOK.r1 (pc := pc + 1) (ls := ls) (r := r) (ybin_ok vlor_ok h g) rfl hl hs.tl.tl
  · cases h
theorem ya_lshl (hgh : ∀ x c, gh 1000 [x, c] = qand x c) (hbv : ∀ p j c, bv p j = some c → w0 p j = c) (hbb : ∀ p r, bb p = some r → ∀ j, yin r (w0 p j)) (hxs : ∀ j, yin y32 (xs j)) (hSp : ∀ w p j v, (yarr p = false → gf p j ≠ none ∨ ra p j ≠ []) → (yarr p = true → ga p ≠ none) → Sp w → Sp (qup w p j v)) (hsc : sc = bif lw then some (L, xs) else none) (h : yas gf ga ra bv bb lw k .lshl pc ls st S N = true) (g : yG L xs w0 gf ga ra Sp gh ρ S w) (hl : ySc S.1 ls) (hs : ySc S.1 st) : yOK L xs w0 gf ga ra Sp gh ρ S N (qs1 sc k .lshl len pc (ls.map (yc ρ)) (st.map (yc ρ)) w 142) := by
  have h0 : 0 < S.1 := by have := g.1.2.1; omega
  rw [yas_lshl] at h
  split at h
  · rename_i s2 o2 s1 o1 r
    exact yOK.r1 (pc := pc + 1) (ls := ls) (r := r) (ybin_ok vlshl_ok h g) rfl hl hs.tl.tl
  · cases h
theorem ya_lushr (hgh : ∀ x c, gh 1000 [x, c] = qand x c) (hbv : ∀ p j c, bv p j = some c → w0 p j = c) (hbb : ∀ p r, bb p = some r → ∀ j, yin r (w0 p j)) (hxs : ∀ j, yin y32 (xs j)) (hSp : ∀ w p j v, (yarr p = false → gf p j ≠ none ∨ ra p j ≠ []) → (yarr p = true → ga p ≠ none) → Sp w → Sp (qup w p j v)) (hsc : sc = bif lw then some (L, xs) else none) (h : yas gf ga ra bv bb lw k .lushr pc ls st S N = true) (g : yG L xs w0 gf ga ra Sp gh ρ S w) (hl : ySc S.1 ls) (hs : ySc S.1 st) : yOK L xs w0 gf ga ra Sp gh ρ S N (qs1 sc k .lushr len pc (ls.map (yc ρ)) (st.map (yc ρ)) w 142) := by
  have h0 : 0 < S.1 := by have := g.1.2.1; omega
  rw [yas_lushr] at h
  split at h
  · rename_i s2 o2 s1 o1 r
    exact yOK.r1 (pc := pc + 1) (ls := ls) (r := r) (ybin_ok vlush_ok h g) rfl hl hs.tl.tl
  · cases h
theorem ya_idiv (hgh : ∀ x c, gh 1000 [x, c] = qand x c) (hbv : ∀ p j c, bv p j = some c → w0 p j = c) (hbb : ∀ p r, bb p = some r → ∀ j, yin r (w0 p j)) (hxs : ∀ j, yin y32 (xs j)) (hSp : ∀ w p j v, (yarr p = false → gf p j ≠ none ∨ ra p j ≠ []) → (yarr p = true → ga p ≠ none) → Sp w → Sp (qup w p j v)) (hsc : sc = bif lw then some (L, xs) else none) (h : yas gf ga ra bv bb lw k .idiv pc ls st S N = true) (g : yG L xs w0 gf ga ra Sp gh ρ S w) (hl : ySc S.1 ls) (hs : ySc S.1 st) : yOK L xs w0 gf ga ra Sp gh ρ S N (qs1 sc k .idiv len pc (ls.map (yc ρ)) (st.map (yc ρ)) w 142) := by
  have h0 : 0 < S.1 := by have := g.1.2.1; omega
  rw [yas_idiv] at h
  split at h
  · rename_i s2 o2 s1 o1 r
    split at h
    · rename_i c9 d9 h1
      have k := yiv_ok g h1
      rw [Bool.and_eq_true, yle_i] at h
      refine yOK.r1 (pc := pc + 1) (ls := ls) (r := r) (ybin_ok vdiv_ok h.2 g) ?_ hl hs.tl.tl
      show (if ρ s2 + o2 = 0 then none else some (pc + 1, ls.map (yc ρ), (0, qdiv (ρ s1 + o1) (ρ s2 + o2)) :: r.map (yc ρ), w, 142)) = _
      rw [if_neg (by omega)]
    · cases h
  · cases h
theorem ya_irem (hgh : ∀ x c, gh 1000 [x, c] = qand x c) (hbv : ∀ p j c, bv p j = some c → w0 p j = c) (hbb : ∀ p r, bb p = some r → ∀ j, yin r (w0 p j)) (hxs : ∀ j, yin y32 (xs j)) (hSp : ∀ w p j v, (yarr p = false → gf p j ≠ none ∨ ra p j ≠ []) → (yarr p = true → ga p ≠ none) → Sp w → Sp (qup w p j v)) (hsc : sc = bif lw then some (L, xs) else none) (h : yas gf ga ra bv bb lw k .irem pc ls st S N = true) (g : yG L xs w0 gf ga ra Sp gh ρ S w) (hl : ySc S.1 ls) (hs : ySc S.1 st) : yOK L xs w0 gf ga ra Sp gh ρ S N (qs1 sc k .irem len pc (ls.map (yc ρ)) (st.map (yc ρ)) w 142) := by
  have h0 : 0 < S.1 := by have := g.1.2.1; omega
  rw [yas_irem] at h
  split at h
  · rename_i s2 o2 s1 o1 r
    split at h
    · rename_i c9 d9 h1
      have k := yiv_ok g h1
      rw [Bool.and_eq_true, yle_i] at h
      refine yOK.r1 (pc := pc + 1) (ls := ls) (r := r) (ybin_ok vrem_ok h.2 g) ?_ hl hs.tl.tl
      show (if ρ s2 + o2 = 0 then none else some (pc + 1, ls.map (yc ρ), (0, qrem (ρ s1 + o1) (ρ s2 + o2)) :: r.map (yc ρ), w, 142)) = _
      rw [if_neg (by omega)]
    · cases h
  · cases h
theorem ya_ldiv (hgh : ∀ x c, gh 1000 [x, c] = qand x c) (hbv : ∀ p j c, bv p j = some c → w0 p j = c) (hbb : ∀ p r, bb p = some r → ∀ j, yin r (w0 p j)) (hxs : ∀ j, yin y32 (xs j)) (hSp : ∀ w p j v, (yarr p = false → gf p j ≠ none ∨ ra p j ≠ []) → (yarr p = true → ga p ≠ none) → Sp w → Sp (qup w p j v)) (hsc : sc = bif lw then some (L, xs) else none) (h : yas gf ga ra bv bb lw k .ldiv pc ls st S N = true) (g : yG L xs w0 gf ga ra Sp gh ρ S w) (hl : ySc S.1 ls) (hs : ySc S.1 st) : yOK L xs w0 gf ga ra Sp gh ρ S N (qs1 sc k .ldiv len pc (ls.map (yc ρ)) (st.map (yc ρ)) w 142) := by
  have h0 : 0 < S.1 := by have := g.1.2.1; omega
  rw [yas_ldiv] at h
  split at h
  · rename_i s2 o2 s1 o1 r
    split at h
    · rename_i c9 d9 h1
      have k := yiv_ok g h1
      rw [Bool.and_eq_true, yle_i] at h
      refine yOK.r1 (pc := pc + 1) (ls := ls) (r := r) (ybin_ok vldiv_ok h.2 g) ?_ hl hs.tl.tl
      show (if ρ s2 + o2 = 0 then none else some (pc + 1, ls.map (yc ρ), (1, qldiv (ρ s1 + o1) (ρ s2 + o2)) :: r.map (yc ρ), w, 142)) = _
      rw [if_neg (by omega)]
    · cases h
  · cases h
theorem ya_ineg (hgh : ∀ x c, gh 1000 [x, c] = qand x c) (hbv : ∀ p j c, bv p j = some c → w0 p j = c) (hbb : ∀ p r, bb p = some r → ∀ j, yin r (w0 p j)) (hxs : ∀ j, yin y32 (xs j)) (hSp : ∀ w p j v, (yarr p = false → gf p j ≠ none ∨ ra p j ≠ []) → (yarr p = true → ga p ≠ none) → Sp w → Sp (qup w p j v)) (hsc : sc = bif lw then some (L, xs) else none) (h : yas gf ga ra bv bb lw k .ineg pc ls st S N = true) (g : yG L xs w0 gf ga ra Sp gh ρ S w) (hl : ySc S.1 ls) (hs : ySc S.1 st) : yOK L xs w0 gf ga ra Sp gh ρ S N (qs1 sc k .ineg len pc (ls.map (yc ρ)) (st.map (yc ρ)) w 142) := by
  have h0 : 0 < S.1 := by have := g.1.2.1; omega
  rw [yas_ineg] at h
  split at h
  · rename_i s o r
    exact yOK.r1 (pc := pc + 1) (ls := ls) (r := r) (yneg_ok h g) rfl hl hs.tl
  · cases h
theorem ya_l2i (hgh : ∀ x c, gh 1000 [x, c] = qand x c) (hbv : ∀ p j c, bv p j = some c → w0 p j = c) (hbb : ∀ p r, bb p = some r → ∀ j, yin r (w0 p j)) (hxs : ∀ j, yin y32 (xs j)) (hSp : ∀ w p j v, (yarr p = false → gf p j ≠ none ∨ ra p j ≠ []) → (yarr p = true → ga p ≠ none) → Sp w → Sp (qup w p j v)) (hsc : sc = bif lw then some (L, xs) else none) (h : yas gf ga ra bv bb lw k .l2i pc ls st S N = true) (g : yG L xs w0 gf ga ra Sp gh ρ S w) (hl : ySc S.1 ls) (hs : ySc S.1 st) : yOK L xs w0 gf ga ra Sp gh ρ S N (qs1 sc k .l2i len pc (ls.map (yc ρ)) (st.map (yc ρ)) w 142) := by
  have h0 : 0 < S.1 := by have := g.1.2.1; omega
  rw [yas_l2i] at h
  split at h
  · rename_i s o r
    exact yOK.r1 (pc := pc + 1) (ls := ls) (r := r) (yun_ok (fun x hx => wrp_id hx.1 (by have := hx.2; have : x ≤ (2147483647 : Int) := this; omega)) y32_w h g hs.hd) rfl hl hs.tl
  · cases h
theorem ya_i2b (hgh : ∀ x c, gh 1000 [x, c] = qand x c) (hbv : ∀ p j c, bv p j = some c → w0 p j = c) (hbb : ∀ p r, bb p = some r → ∀ j, yin r (w0 p j)) (hxs : ∀ j, yin y32 (xs j)) (hSp : ∀ w p j v, (yarr p = false → gf p j ≠ none ∨ ra p j ≠ []) → (yarr p = true → ga p ≠ none) → Sp w → Sp (qup w p j v)) (hsc : sc = bif lw then some (L, xs) else none) (h : yas gf ga ra bv bb lw k .i2b pc ls st S N = true) (g : yG L xs w0 gf ga ra Sp gh ρ S w) (hl : ySc S.1 ls) (hs : ySc S.1 st) : yOK L xs w0 gf ga ra Sp gh ρ S N (qs1 sc k .i2b len pc (ls.map (yc ρ)) (st.map (yc ρ)) w 142) := by
  have h0 : 0 < S.1 := by have := g.1.2.1; omega
  rw [yas_i2b] at h
  split at h
  · rename_i s o r
    exact yOK.r1 (pc := pc + 1) (ls := ls) (r := r) (yun_ok (fun x hx => by have h1 : (-128 : Int) ≤ x := hx.1; have h2 : x ≤ (127 : Int) := hx.2; unfold qi2b; omega) (fun x => ⟨by show (-128 : Int) ≤ qi2b x; unfold qi2b; omega, by show qi2b x ≤ (127 : Int); unfold qi2b; omega⟩) h g hs.hd) rfl hl hs.tl
  · cases h
theorem ya_i2c (hgh : ∀ x c, gh 1000 [x, c] = qand x c) (hbv : ∀ p j c, bv p j = some c → w0 p j = c) (hbb : ∀ p r, bb p = some r → ∀ j, yin r (w0 p j)) (hxs : ∀ j, yin y32 (xs j)) (hSp : ∀ w p j v, (yarr p = false → gf p j ≠ none ∨ ra p j ≠ []) → (yarr p = true → ga p ≠ none) → Sp w → Sp (qup w p j v)) (hsc : sc = bif lw then some (L, xs) else none) (h : yas gf ga ra bv bb lw k .i2c pc ls st S N = true) (g : yG L xs w0 gf ga ra Sp gh ρ S w) (hl : ySc S.1 ls) (hs : ySc S.1 st) : yOK L xs w0 gf ga ra Sp gh ρ S N (qs1 sc k .i2c len pc (ls.map (yc ρ)) (st.map (yc ρ)) w 142) := by
  have h0 : 0 < S.1 := by have := g.1.2.1; omega
  rw [yas_i2c] at h
  split at h
  · rename_i s o r
    exact yOK.r1 (pc := pc + 1) (ls := ls) (r := r) (yun_ok (f := fun x => x % 65536) (fun x hx => by have h1 : (0 : Int) ≤ x := hx.1; have h2 : x ≤ (65535 : Int) := hx.2; show x % 65536 = x; omega) (fun x => ⟨by show (0 : Int) ≤ x % 65536; omega, by show x % 65536 ≤ (65535 : Int); omega⟩) h g hs.hd) rfl hl hs.tl
  · cases h
theorem ya_i2l (hgh : ∀ x c, gh 1000 [x, c] = qand x c) (hbv : ∀ p j c, bv p j = some c → w0 p j = c) (hbb : ∀ p r, bb p = some r → ∀ j, yin r (w0 p j)) (hxs : ∀ j, yin y32 (xs j)) (hSp : ∀ w p j v, (yarr p = false → gf p j ≠ none ∨ ra p j ≠ []) → (yarr p = true → ga p ≠ none) → Sp w → Sp (qup w p j v)) (hsc : sc = bif lw then some (L, xs) else none) (h : yas gf ga ra bv bb lw k .i2l pc ls st S N = true) (g : yG L xs w0 gf ga ra Sp gh ρ S w) (hl : ySc S.1 ls) (hs : ySc S.1 st) : yOK L xs w0 gf ga ra Sp gh ρ S N (qs1 sc k .i2l len pc (ls.map (yc ρ)) (st.map (yc ρ)) w 142) := by
  have h0 : 0 < S.1 := by have := g.1.2.1; omega
  rw [yas_i2l] at h
  split at h
  · rename_i x r
    exact yOK.same (pc := pc + 1) (ls := ls) (st := (1, x) :: r) rfl hl (ySc.cons hs.hd hs.tl) g h
  · cases h
theorem ya_goto {off : Int} (hgh : ∀ x c, gh 1000 [x, c] = qand x c) (hbv : ∀ p j c, bv p j = some c → w0 p j = c) (hbb : ∀ p r, bb p = some r → ∀ j, yin r (w0 p j)) (hxs : ∀ j, yin y32 (xs j)) (hSp : ∀ w p j v, (yarr p = false → gf p j ≠ none ∨ ra p j ≠ []) → (yarr p = true → ga p ≠ none) → Sp w → Sp (qup w p j v)) (hsc : sc = bif lw then some (L, xs) else none) (h : yas gf ga ra bv bb lw k (.goto off) pc ls st S N = true) (g : yG L xs w0 gf ga ra Sp gh ρ S w) (hl : ySc S.1 ls) (hs : ySc S.1 st) : yOK L xs w0 gf ga ra Sp gh ρ S N (qs1 sc k (.goto off) len pc (ls.map (yc ρ)) (st.map (yc ρ)) w 142) := by
  have h0 : 0 < S.1 := by have := g.1.2.1; omega
  rw [yas_goto] at h
  exact yOK.same (pc := qtg pc off) (ls := ls) (st := st) rfl hl hs g h
theorem ya_ifCond {c : Jvm.ClassFile.Cond} {off : Int} (hgh : ∀ x c, gh 1000 [x, c] = qand x c) (hbv : ∀ p j c, bv p j = some c → w0 p j = c) (hbb : ∀ p r, bb p = some r → ∀ j, yin r (w0 p j)) (hxs : ∀ j, yin y32 (xs j)) (hSp : ∀ w p j v, (yarr p = false → gf p j ≠ none ∨ ra p j ≠ []) → (yarr p = true → ga p ≠ none) → Sp w → Sp (qup w p j v)) (hsc : sc = bif lw then some (L, xs) else none) (h : yas gf ga ra bv bb lw k (.ifCond c off) pc ls st S N = true) (g : yG L xs w0 gf ga ra Sp gh ρ S w) (hl : ySc S.1 ls) (hs : ySc S.1 st) : yOK L xs w0 gf ga ra Sp gh ρ S N (qs1 sc k (.ifCond c off) len pc (ls.map (yc ρ)) (st.map (yc ρ)) w 142) := by
  have h0 : 0 < S.1 := by have := g.1.2.1; omega
  rw [yas_ifCond] at h
  split at h
  · rename_i s o r
    rcases ybr_ok (A := some (qtg pc off, ls.map (yc ρ), r.map (yc ρ), w, 142)) (B := some (pc + 3, ls.map (yc ρ), r.map (yc ρ), w, 142)) h g hs.hd h0 with ⟨e, k⟩ | ⟨e, k⟩
    · refine yOK.r0 (pc := qtg pc off) (ls := ls) (st := r) k ?_ hl hs.tl
      rw [← e, g.1.1]; rfl
    · refine yOK.r0 (pc := pc + 3) (ls := ls) (st := r) k ?_ hl hs.tl
      rw [← e, g.1.1]; rfl
  · cases h
theorem ya_if_icmp {c : Jvm.ClassFile.Cond} {off : Int} (hgh : ∀ x c, gh 1000 [x, c] = qand x c) (hbv : ∀ p j c, bv p j = some c → w0 p j = c) (hbb : ∀ p r, bb p = some r → ∀ j, yin r (w0 p j)) (hxs : ∀ j, yin y32 (xs j)) (hSp : ∀ w p j v, (yarr p = false → gf p j ≠ none ∨ ra p j ≠ []) → (yarr p = true → ga p ≠ none) → Sp w → Sp (qup w p j v)) (hsc : sc = bif lw then some (L, xs) else none) (h : yas gf ga ra bv bb lw k (.if_icmp c off) pc ls st S N = true) (g : yG L xs w0 gf ga ra Sp gh ρ S w) (hl : ySc S.1 ls) (hs : ySc S.1 st) : yOK L xs w0 gf ga ra Sp gh ρ S N (qs1 sc k (.if_icmp c off) len pc (ls.map (yc ρ)) (st.map (yc ρ)) w 142) := by
  have h0 : 0 < S.1 := by have := g.1.2.1; omega
  rw [yas_if_icmp] at h
  split at h
  · rename_i s2 o2 s1 o1 r
    rcases ybr_ok (A := some (qtg pc off, ls.map (yc ρ), r.map (yc ρ), w, 142)) (B := some (pc + 3, ls.map (yc ρ), r.map (yc ρ), w, 142)) h g hs.tl.hd hs.hd with ⟨e, k⟩ | ⟨e, k⟩
    · exact yOK.r0 (pc := qtg pc off) (ls := ls) (st := r) k e hl hs.tl.tl
    · exact yOK.r0 (pc := pc + 3) (ls := ls) (st := r) k e hl hs.tl.tl
  · cases h
theorem ya_if_acmp {c : Jvm.ClassFile.ACond} {off : Int} (hgh : ∀ x c, gh 1000 [x, c] = qand x c) (hbv : ∀ p j c, bv p j = some c → w0 p j = c) (hbb : ∀ p r, bb p = some r → ∀ j, yin r (w0 p j)) (hxs : ∀ j, yin y32 (xs j)) (hSp : ∀ w p j v, (yarr p = false → gf p j ≠ none ∨ ra p j ≠ []) → (yarr p = true → ga p ≠ none) → Sp w → Sp (qup w p j v)) (hsc : sc = bif lw then some (L, xs) else none) (h : yas gf ga ra bv bb lw k (.if_acmp c off) pc ls st S N = true) (g : yG L xs w0 gf ga ra Sp gh ρ S w) (hl : ySc S.1 ls) (hs : ySc S.1 st) : yOK L xs w0 gf ga ra Sp gh ρ S N (qs1 sc k (.if_acmp c off) len pc (ls.map (yc ρ)) (st.map (yc ρ)) w 142) := by
  have h0 : 0 < S.1 := by have := g.1.2.1; omega
  rw [yas_if_acmp] at h
  split at h
  · rename_i s2 o2 s1 o1 r
    have k := yqe_ok h g hs.tl.hd hs.hd
    by_cases z : ρ s1 + o1 = ρ s2 + o2
    · exact yOK.r0 (pc := pc + 3) (ls := ls) (st := r) (k.1 z) (if_pos z) hl hs.tl.tl
    · exact yOK.r0 (pc := qtg pc off) (ls := ls) (st := r) (k.2 z) (if_neg z) hl hs.tl.tl
  · cases h
theorem ya_lcmp (hgh : ∀ x c, gh 1000 [x, c] = qand x c) (hbv : ∀ p j c, bv p j = some c → w0 p j = c) (hbb : ∀ p r, bb p = some r → ∀ j, yin r (w0 p j)) (hxs : ∀ j, yin y32 (xs j)) (hSp : ∀ w p j v, (yarr p = false → gf p j ≠ none ∨ ra p j ≠ []) → (yarr p = true → ga p ≠ none) → Sp w → Sp (qup w p j v)) (hsc : sc = bif lw then some (L, xs) else none) (h : yas gf ga ra bv bb lw k .lcmp pc ls st S N = true) (g : yG L xs w0 gf ga ra Sp gh ρ S w) (hl : ySc S.1 ls) (hs : ySc S.1 st) : yOK L xs w0 gf ga ra Sp gh ρ S N (qs1 sc k .lcmp len pc (ls.map (yc ρ)) (st.map (yc ρ)) w 142) := by
  have h0 : 0 < S.1 := by have := g.1.2.1; omega
  rw [yas_lcmp] at h
  split at h
  · rename_i s2 o2 s1 o1 r
    have kq := ylt_ok h g hs.tl.hd hs.hd
    have e : ∀ x : Int, qcmp (ρ s1 + o1) (ρ s2 + o2) = x → qs1 sc k .lcmp len pc (ls.map (yc ρ)) (((1, s2, o2) :: (1, s1, o1) :: r : List yV).map (yc ρ)) w 142 = some (pc + 1, ls.map (yc ρ), ((0, 0, x) :: r : List yV).map (yc ρ), w, 142) := fun x hx => by
      show some (pc + 1, ls.map (yc ρ), (0, qcmp (ρ s1 + o1) (ρ s2 + o2)) :: r.map (yc ρ), w, 142) = some (pc + 1, ls.map (yc ρ), (0, ρ 0 + x) :: r.map (yc ρ), w, 142)
      rw [hx, g.1.1, Int.zero_add]
    by_cases z : ρ s1 + o1 < ρ s2 + o2
    · exact yOK.r0 (pc := pc + 1) (ls := ls) (st := (0, 0, -1) :: r) (kq.1 z) (e _ (if_pos z)) hl (ySc.cons h0 hs.tl.tl)
    · obtain ⟨S1, e1, g1, h1⟩ := kq.2 z
      have k2 := yqe_ok h1 g1 (by rw [e1]; exact hs.tl.hd) (by rw [e1]; exact hs.hd)
      rw [e1] at k2
      by_cases z2 : ρ s1 + o1 = ρ s2 + o2
      · exact yOK.r0 (pc := pc + 1) (ls := ls) (st := (0, 0, 0) :: r) (k2.1 z2) (e _ ((if_neg z).trans (if_pos z2))) hl (ySc.cons h0 hs.tl.tl)
      · exact yOK.r0 (pc := pc + 1) (ls := ls) (st := (0, 0, 1) :: r) (k2.2 z2) (e _ ((if_neg z).trans (if_neg z2))) hl (ySc.cons h0 hs.tl.tl)
  · cases h
theorem ya_tableswitch {dflt : Int} {lo : Int} {z9 : Int} {offs : Array Int} (hgh : ∀ x c, gh 1000 [x, c] = qand x c) (hbv : ∀ p j c, bv p j = some c → w0 p j = c) (hbb : ∀ p r, bb p = some r → ∀ j, yin r (w0 p j)) (hxs : ∀ j, yin y32 (xs j)) (hSp : ∀ w p j v, (yarr p = false → gf p j ≠ none ∨ ra p j ≠ []) → (yarr p = true → ga p ≠ none) → Sp w → Sp (qup w p j v)) (hsc : sc = bif lw then some (L, xs) else none) (h : yas gf ga ra bv bb lw k (.tableswitch dflt lo z9 offs) pc ls st S N = true) (g : yG L xs w0 gf ga ra Sp gh ρ S w) (hl : ySc S.1 ls) (hs : ySc S.1 st) : yOK L xs w0 gf ga ra Sp gh ρ S N (qs1 sc k (.tableswitch dflt lo z9 offs) len pc (ls.map (yc ρ)) (st.map (yc ρ)) w 142) := by
  have h0 : 0 < S.1 := by have := g.1.2.1; omega
  rw [yas_tableswitch] at h
  split at h
  · rename_i s o r
    obtain ⟨t, k1, k2⟩ := ysw_ok (fq := fun t => some (t, ls.map (yc ρ), r.map (yc ρ), w, 142)) hs.hd _ _ S rfl h g
    exact yOK.r0 (pc := t) (ls := ls) (st := r) k2 k1 hl hs.tl
  · cases h
theorem ya_getfield {i : Nat} (hgh : ∀ x c, gh 1000 [x, c] = qand x c) (hbv : ∀ p j c, bv p j = some c → w0 p j = c) (hbb : ∀ p r, bb p = some r → ∀ j, yin r (w0 p j)) (hxs : ∀ j, yin y32 (xs j)) (hSp : ∀ w p j v, (yarr p = false → gf p j ≠ none ∨ ra p j ≠ []) → (yarr p = true → ga p ≠ none) → Sp w → Sp (qup w p j v)) (hsc : sc = bif lw then some (L, xs) else none) (h : yas gf ga ra bv bb lw k (.getfield i) pc ls st S N = true) (g : yG L xs w0 gf ga ra Sp gh ρ S w) (hl : ySc S.1 ls) (hs : ySc S.1 st) : yOK L xs w0 gf ga ra Sp gh ρ S N (qs1 sc k (.getfield i) len pc (ls.map (yc ρ)) (st.map (yc ρ)) w 142) := by
  have h0 : 0 < S.1 := by have := g.1.2.1; omega
  rw [yas_getfield] at h
  split at h
  · rename_i ci j kd fin9 p r hq
    split at h
    · rename_i c9 a9 b9 hpl
      rw [Bool.and_eq_true, Bool.and_eq_true, Bool.and_eq_true, yle_i, yle_i] at h
      obtain ⟨hc, hp1, hp2, h⟩ := h
      have ep : ρ 0 + p = p := by rw [g.1.1, Int.zero_add]
      have hy : yarr p.toNat = false := yarr_o hpl
      have e : ∀ kv v, qpush kd (w p.toNat j) (r.map (yc ρ)) = some ((kv, v) :: r.map (yc ρ)) → qs1 sc k (.getfield i) len pc (ls.map (yc ρ)) (((2, 0, p) :: r : List yV).map (yc ρ)) w 142 = some (pc + 3, ls.map (yc ρ), (kv, v) :: r.map (yc ρ), w, 142) := fun kv v hv => by
        rw [List.map_cons, show yc ρ (2, 0, p) = (2, p) from by show (2, ρ 0 + p) = _; rw [ep], qs1_getfield, hq]
        show (match qpl p.toNat with
          | (0, c, _, _) => if Nat.beq c ci then (match qpush kd (w p.toNat j) (r.map (yc ρ)) with
            | some r' => if 0 < p ∧ p ≤ ((142 : Nat) : Int) then some (pc + 3, ls.map (yc ρ), r', w, 142) else none
            | none => none) else none
          | _ => none) = _
        rw [hpl]
        show (if Nat.beq c9 ci = true then (match qpush kd (w p.toNat j) (r.map (yc ρ)) with
            | some r' => if 0 < p ∧ p ≤ ((142 : Nat) : Int) then some (pc + 3, ls.map (yc ρ), r', w, 142) else none
            | none => none) else none) = _
        rw [if_pos hc, hv]
        show (if 0 < p ∧ p ≤ ((142 : Nat) : Int) then some (pc + 3, ls.map (yc ρ), (kv, v) :: r.map (yc ρ), w, 142) else none) = _
        rw [if_pos ⟨by omega, by omega⟩]
      split at h
      · exact yOK.r1 (pc := pc + 3) (ls := ls) (r := r) (yget_ok hbv h g (by omega) hy) (e _ _ rfl) hl hs.tl
      · exact yOK.r1 (pc := pc + 3) (ls := ls) (r := r) (yget_ok hbv h g (by omega) hy) (e _ _ rfl) hl hs.tl
      · exact yOK.r1 (pc := pc + 3) (ls := ls) (r := r) (yref_ok hbv h g (by omega) hy) (e _ _ rfl) hl hs.tl
      · exact yOK.r1 (pc := pc + 3) (ls := ls) (r := r) (yget_ok hbv h g (by omega) hy) (e _ _ rfl) hl hs.tl
      · cases h
    · cases h
  · cases h
theorem ya_putfield {i : Nat} (hgh : ∀ x c, gh 1000 [x, c] = qand x c) (hbv : ∀ p j c, bv p j = some c → w0 p j = c) (hbb : ∀ p r, bb p = some r → ∀ j, yin r (w0 p j)) (hxs : ∀ j, yin y32 (xs j)) (hSp : ∀ w p j v, (yarr p = false → gf p j ≠ none ∨ ra p j ≠ []) → (yarr p = true → ga p ≠ none) → Sp w → Sp (qup w p j v)) (hsc : sc = bif lw then some (L, xs) else none) (h : yas gf ga ra bv bb lw k (.putfield i) pc ls st S N = true) (g : yG L xs w0 gf ga ra Sp gh ρ S w) (hl : ySc S.1 ls) (hs : ySc S.1 st) : yOK L xs w0 gf ga ra Sp gh ρ S N (qs1 sc k (.putfield i) len pc (ls.map (yc ρ)) (st.map (yc ρ)) w 142) := by
  have h0 : 0 < S.1 := by have := g.1.2.1; omega
  rw [yas_putfield] at h
  split at h
  · rename_i ci j kd fin t s o p r hq
    split at h
    · rename_i c9 a9 b9 hpl
      rw [Bool.and_eq_true, Bool.and_eq_true, Bool.and_eq_true, Bool.and_eq_true, yle_i, yle_i] at h
      obtain ⟨hc, hfin, hp1, hp2, h⟩ := h
      have ep : ρ 0 + p = p := by rw [g.1.1, Int.zero_add]
      have hy : yarr p.toNat = false := yarr_o hpl
      have ej : (ρ 0 + (j : Int)).toNat = j := yz_j g j
      have e : ∀ X, (match (generalizing := false) kd, t with
          | 0, 0 => if 0 < p ∧ p ≤ ((142 : Nat) : Int) then some (pc + 3, ls.map (yc ρ), r.map (yc ρ), qup w p.toNat j (ρ s + o), 142) else none
          | 2, 2 => if 0 < p ∧ p ≤ ((142 : Nat) : Int) then some (pc + 3, ls.map (yc ρ), r.map (yc ρ), qup w p.toNat j (ρ s + o), 142) else none
          | 3, 0 => if (0 < p ∧ p ≤ ((142 : Nat) : Int)) ∧ 0 ≤ ρ s + o ∧ ρ s + o ≤ 1 then some (pc + 3, ls.map (yc ρ), r.map (yc ρ), qup w p.toNat j (ρ s + o), 142) else none
          | _, _ => none : Option qC) = X → qs1 sc k (.putfield i) len pc (ls.map (yc ρ)) (((t, s, o) :: (2, 0, p) :: r : List yV).map (yc ρ)) w 142 = X := fun X hX => by
        rw [List.map_cons, List.map_cons, show yc ρ (2, 0, p) = (2, p) from by show (2, ρ 0 + p) = _; rw [ep], qs1_putfield, hq]
        show (match qpl p.toNat with
          | (0, c, _, _) => if (Nat.beq c ci && (Nat.beq fin 0 || qin k)) = true then (match (generalizing := false) kd, t with
            | 0, 0 => if 0 < p ∧ p ≤ ((142 : Nat) : Int) then some (pc + 3, ls.map (yc ρ), r.map (yc ρ), qup w p.toNat j (ρ s + o), 142) else none
            | 2, 2 => if 0 < p ∧ p ≤ ((142 : Nat) : Int) then some (pc + 3, ls.map (yc ρ), r.map (yc ρ), qup w p.toNat j (ρ s + o), 142) else none
            | 3, 0 => if (0 < p ∧ p ≤ ((142 : Nat) : Int)) ∧ 0 ≤ ρ s + o ∧ ρ s + o ≤ 1 then some (pc + 3, ls.map (yc ρ), r.map (yc ρ), qup w p.toNat j (ρ s + o), 142) else none
            | _, _ => none : Option qC) else none
          | _ => none) = _
        rw [hpl]
        show (if (Nat.beq c9 ci && (Nat.beq fin 0 || qin k)) = true then _ else none) = _
        rw [if_pos (by rw [hc, hfin]; rfl)]
        exact hX
      have hgo : ∀ (hI : yInv gf ga ra Sp (qup w p.toNat j (ρ s + o))), N (pc + 3) ls r (yput S p.toNat (j + 1) 0 (j : Int) s o) = true → yR0 L xs w0 gf ga ra Sp gh ρ S.1 (qup w p.toNat j (ρ s + o)) (fun S => N (pc + 3) ls r S) := fun hI hN => by
        have := yput_ok (c := j + 1) (a := 0) (b := (j : Int)) (s := s) (o := o) g h0 hs.hd (show 0 < p.toNat by omega) (.inr (by rw [ej])) (fun _ => by omega) (by rw [ej]; exact hI)
        rw [ej] at this
        exact ⟨yput S p.toNat (j + 1) 0 (j : Int) s o, rfl, this, hN⟩
      split at h
      · split at h
        · rename_i lo hi a b hg hi9 hr
          have k9 := yiv_ok g hi9
          rw [Bool.and_eq_true, Bool.and_eq_true, yle_i, yle_i] at h
          have hI : yInv gf ga ra Sp (qup w p.toNat j (ρ s + o)) := yInv_up hSp g.2.2.2.2.1 (fun _ => ⟨fun b9 hb9 => by rw [hg] at hb9; cases hb9; exact ⟨by show lo ≤ _; omega, by show _ ≤ hi; omega⟩, fun z => (z hr).elim, .inl (by rw [hg]; exact fun z => by cases z)⟩) (fun z => by rw [hy] at z; cases z)
          exact yOK.r0 (pc := pc + 3) (ls := ls) (st := r) (hgo hI h.2.2) (e _ (if_pos ⟨by omega, by omega⟩)) hl hs.tl.tl
        · cases h
      · split at h
        · rename_i lo hi a b hg hi9 hr
          have k9 := yiv_ok g hi9
          rw [Bool.and_eq_true, Bool.and_eq_true, Bool.and_eq_true, Bool.and_eq_true, yle_i, yle_i, yle_i, yle_i] at h
          have hI : yInv gf ga ra Sp (qup w p.toNat j (ρ s + o)) := yInv_up hSp g.2.2.2.2.1 (fun _ => ⟨fun b9 hb9 => by rw [hg] at hb9; cases hb9; exact ⟨by show lo ≤ _; omega, by show _ ≤ hi; omega⟩, fun z => (z hr).elim, .inl (by rw [hg]; exact fun z => by cases z)⟩) (fun z => by rw [hy] at z; cases z)
          exact yOK.r0 (pc := pc + 3) (ls := ls) (st := r) (hgo hI h.2.2.2.2) (e _ (if_pos ⟨⟨by omega, by omega⟩, by omega, by omega⟩)) hl hs.tl.tl
        · cases h
      · split at h
        · rename_i hg
          rw [Bool.and_eq_true, Bool.and_eq_true] at h
          have es := Nat.eq_of_beq_eq_true h.1
          obtain ⟨v9, hv1, hv2⟩ := List.any_eq_true.mp h.2.1
          have hv3 := yqi_i.mp hv2
          have ev : ρ s + o = v9 := by rw [es, g.1.1, Int.zero_add, hv3]
          have hI : yInv gf ga ra Sp (qup w p.toNat j (ρ s + o)) := yInv_up hSp g.2.2.2.2.1 (fun _ => ⟨fun b9 hb9 => by (rw [hg] at hb9; cases hb9), fun _ => by rw [ev]; exact hv1, .inr (fun z => by rw [z] at hv1; cases hv1)⟩) (fun z => by rw [hy] at z; cases z)
          exact yOK.r0 (pc := pc + 3) (ls := ls) (st := r) (hgo hI h.2.2) (e _ (if_pos ⟨by omega, by omega⟩)) hl hs.tl.tl
        · cases h
      · cases h
    · cases h
  · cases h
theorem ya_iaload (hgh : ∀ x c, gh 1000 [x, c] = qand x c) (hbv : ∀ p j c, bv p j = some c → w0 p j = c) (hbb : ∀ p r, bb p = some r → ∀ j, yin r (w0 p j)) (hxs : ∀ j, yin y32 (xs j)) (hSp : ∀ w p j v, (yarr p = false → gf p j ≠ none ∨ ra p j ≠ []) → (yarr p = true → ga p ≠ none) → Sp w → Sp (qup w p j v)) (hsc : sc = bif lw then some (L, xs) else none) (h : yas gf ga ra bv bb lw k .iaload pc ls st S N = true) (g : yG L xs w0 gf ga ra Sp gh ρ S w) (hl : ySc S.1 ls) (hs : ySc S.1 st) : yOK L xs w0 gf ga ra Sp gh ρ S N (qs1 sc k .iaload len pc (ls.map (yc ρ)) (st.map (yc ρ)) w 142) := by
  have h0 : 0 < S.1 := by have := g.1.2.1; omega
  rw [yas_iaload] at h
  split at h
  · rename_i s o p r
    split at h
    · rename_i m9 x9 hpl
      rw [Bool.and_eq_true, Bool.and_eq_true, yle_i, yle_i] at h
      obtain ⟨hp1, hp2, h⟩ := h
      have ep : ρ 0 + p = p := by rw [g.1.1, Int.zero_add]
      obtain ⟨hi, k9⟩ := yel_ok hbv hbb h g (show 0 < p.toNat by omega) (yarr_0 hpl) hs.hd
      refine yOK.r1 (pc := pc + 1) (ls := ls) (r := r) k9 ?_ hl hs.tl.tl
      rw [List.map_cons, List.map_cons, show yc ρ (2, 0, p) = (2, p) from by show (2, ρ 0 + p) = _; rw [ep], show yc ρ (0, s, o) = (0, ρ s + o) from rfl, qs1_iaload]
      show (match qpl p.toNat with
        | (1, 0, m, _) => if 0 ≤ ρ s + o ∧ ρ s + o < m then (if 0 < p ∧ p ≤ ((142 : Nat) : Int) then some (pc + 1, ls.map (yc ρ), (0, w p.toNat (ρ s + o).toNat) :: r.map (yc ρ), w, 142) else none) else none
        | _ => none) = _
      rw [hpl]
      show (if 0 ≤ ρ s + o ∧ ρ s + o < m9 then (if 0 < p ∧ p ≤ ((142 : Nat) : Int) then some (pc + 1, ls.map (yc ρ), (0, w p.toNat (ρ s + o).toNat) :: r.map (yc ρ), w, 142) else none) else none) = _
      rw [if_pos hi, if_pos ⟨by omega, by omega⟩]
    · cases h
  · rename_i s o r
    rw [Bool.and_eq_true] at h
    obtain ⟨hw, h⟩ := h
    obtain ⟨hi, k9⟩ := yscr_ok hxs h g hs.hd
    refine yOK.r1 (pc := pc + 1) (ls := ls) (r := r) k9 ?_ hl hs.tl.tl
    rw [List.map_cons, List.map_cons, show yc ρ (3, 0, 0) = (3, 0) from by show ((3, ρ 0 + 0) : qV) = _; rw [g.1.1]; rfl, show yc ρ (0, s, o) = (0, ρ s + o) from rfl, hsc, hw, qs1_iaload]
    show (if 0 ≤ ρ s + o ∧ ρ s + o < (L : Int) then some (pc + 1, ls.map (yc ρ), (0, xs (ρ s + o).toNat) :: r.map (yc ρ), w, 142) else none) = _
    rw [if_pos hi]
  · cases h
theorem ya_baload (hgh : ∀ x c, gh 1000 [x, c] = qand x c) (hbv : ∀ p j c, bv p j = some c → w0 p j = c) (hbb : ∀ p r, bb p = some r → ∀ j, yin r (w0 p j)) (hxs : ∀ j, yin y32 (xs j)) (hSp : ∀ w p j v, (yarr p = false → gf p j ≠ none ∨ ra p j ≠ []) → (yarr p = true → ga p ≠ none) → Sp w → Sp (qup w p j v)) (hsc : sc = bif lw then some (L, xs) else none) (h : yas gf ga ra bv bb lw k .baload pc ls st S N = true) (g : yG L xs w0 gf ga ra Sp gh ρ S w) (hl : ySc S.1 ls) (hs : ySc S.1 st) : yOK L xs w0 gf ga ra Sp gh ρ S N (qs1 sc k .baload len pc (ls.map (yc ρ)) (st.map (yc ρ)) w 142) := by
  have h0 : 0 < S.1 := by have := g.1.2.1; omega
  rw [yas_baload] at h
  split at h
  · rename_i s o p r
    split at h
    · rename_i m9 x9 hpl
      rw [Bool.and_eq_true, Bool.and_eq_true, yle_i, yle_i] at h
      obtain ⟨hp1, hp2, h⟩ := h
      have ep : ρ 0 + p = p := by rw [g.1.1, Int.zero_add]
      obtain ⟨hi, k9⟩ := yel_ok hbv hbb h g (show 0 < p.toNat by omega) (yarr_3 hpl) hs.hd
      refine yOK.r1 (pc := pc + 1) (ls := ls) (r := r) k9 ?_ hl hs.tl.tl
      rw [List.map_cons, List.map_cons, show yc ρ (2, 0, p) = (2, p) from by show (2, ρ 0 + p) = _; rw [ep], show yc ρ (0, s, o) = (0, ρ s + o) from rfl, qs1_baload]
      show (match qpl p.toNat with
        | (1, 3, m, _) => if 0 ≤ ρ s + o ∧ ρ s + o < m then (if 0 < p ∧ p ≤ ((142 : Nat) : Int) then some (pc + 1, ls.map (yc ρ), (0, w p.toNat (ρ s + o).toNat) :: r.map (yc ρ), w, 142) else none) else none
        | (1, 4, m, _) => if 0 ≤ ρ s + o ∧ ρ s + o < m then (if 0 < p ∧ p ≤ ((142 : Nat) : Int) then some (pc + 1, ls.map (yc ρ), (0, w p.toNat (ρ s + o).toNat) :: r.map (yc ρ), w, 142) else none) else none
        | _ => none) = _
      rw [hpl]
      show (if 0 ≤ ρ s + o ∧ ρ s + o < m9 then (if 0 < p ∧ p ≤ ((142 : Nat) : Int) then some (pc + 1, ls.map (yc ρ), (0, w p.toNat (ρ s + o).toNat) :: r.map (yc ρ), w, 142) else none) else none) = _
      rw [if_pos hi, if_pos ⟨by omega, by omega⟩]
    · rename_i m9 x9 hpl
      rw [Bool.and_eq_true, Bool.and_eq_true, yle_i, yle_i] at h
      obtain ⟨hp1, hp2, h⟩ := h
      have ep : ρ 0 + p = p := by rw [g.1.1, Int.zero_add]
      obtain ⟨hi, k9⟩ := yel_ok hbv hbb h g (show 0 < p.toNat by omega) (yarr_4 hpl) hs.hd
      refine yOK.r1 (pc := pc + 1) (ls := ls) (r := r) k9 ?_ hl hs.tl.tl
      rw [List.map_cons, List.map_cons, show yc ρ (2, 0, p) = (2, p) from by show (2, ρ 0 + p) = _; rw [ep], show yc ρ (0, s, o) = (0, ρ s + o) from rfl, qs1_baload]
      show (match qpl p.toNat with
        | (1, 3, m, _) => if 0 ≤ ρ s + o ∧ ρ s + o < m then (if 0 < p ∧ p ≤ ((142 : Nat) : Int) then some (pc + 1, ls.map (yc ρ), (0, w p.toNat (ρ s + o).toNat) :: r.map (yc ρ), w, 142) else none) else none
        | (1, 4, m, _) => if 0 ≤ ρ s + o ∧ ρ s + o < m then (if 0 < p ∧ p ≤ ((142 : Nat) : Int) then some (pc + 1, ls.map (yc ρ), (0, w p.toNat (ρ s + o).toNat) :: r.map (yc ρ), w, 142) else none) else none
        | _ => none) = _
      rw [hpl]
      show (if 0 ≤ ρ s + o ∧ ρ s + o < m9 then (if 0 < p ∧ p ≤ ((142 : Nat) : Int) then some (pc + 1, ls.map (yc ρ), (0, w p.toNat (ρ s + o).toNat) :: r.map (yc ρ), w, 142) else none) else none) = _
      rw [if_pos hi, if_pos ⟨by omega, by omega⟩]
    · cases h
  · cases h
theorem ya_laload (hgh : ∀ x c, gh 1000 [x, c] = qand x c) (hbv : ∀ p j c, bv p j = some c → w0 p j = c) (hbb : ∀ p r, bb p = some r → ∀ j, yin r (w0 p j)) (hxs : ∀ j, yin y32 (xs j)) (hSp : ∀ w p j v, (yarr p = false → gf p j ≠ none ∨ ra p j ≠ []) → (yarr p = true → ga p ≠ none) → Sp w → Sp (qup w p j v)) (hsc : sc = bif lw then some (L, xs) else none) (h : yas gf ga ra bv bb lw k .laload pc ls st S N = true) (g : yG L xs w0 gf ga ra Sp gh ρ S w) (hl : ySc S.1 ls) (hs : ySc S.1 st) : yOK L xs w0 gf ga ra Sp gh ρ S N (qs1 sc k .laload len pc (ls.map (yc ρ)) (st.map (yc ρ)) w 142) := by
  have h0 : 0 < S.1 := by have := g.1.2.1; omega
  rw [yas_laload] at h
  split at h
  · rename_i s o p r
    split at h
    · rename_i m9 x9 hpl
      rw [Bool.and_eq_true, Bool.and_eq_true, yle_i, yle_i] at h
      obtain ⟨hp1, hp2, h⟩ := h
      have ep : ρ 0 + p = p := by rw [g.1.1, Int.zero_add]
      obtain ⟨hi, k9⟩ := yel_ok hbv hbb h g (show 0 < p.toNat by omega) (yarr_1 hpl) hs.hd
      refine yOK.r1 (pc := pc + 1) (ls := ls) (r := r) k9 ?_ hl hs.tl.tl
      rw [List.map_cons, List.map_cons, show yc ρ (2, 0, p) = (2, p) from by show (2, ρ 0 + p) = _; rw [ep], show yc ρ (0, s, o) = (0, ρ s + o) from rfl, qs1_laload]
      show (match qpl p.toNat with
        | (1, 1, m, _) => if 0 ≤ ρ s + o ∧ ρ s + o < m then (if 0 < p ∧ p ≤ ((142 : Nat) : Int) then some (pc + 1, ls.map (yc ρ), (1, w p.toNat (ρ s + o).toNat) :: r.map (yc ρ), w, 142) else none) else none
        | _ => none) = _
      rw [hpl]
      show (if 0 ≤ ρ s + o ∧ ρ s + o < m9 then (if 0 < p ∧ p ≤ ((142 : Nat) : Int) then some (pc + 1, ls.map (yc ρ), (1, w p.toNat (ρ s + o).toNat) :: r.map (yc ρ), w, 142) else none) else none) = _
      rw [if_pos hi, if_pos ⟨by omega, by omega⟩]
    · cases h
  · cases h
theorem ya_aaload (hgh : ∀ x c, gh 1000 [x, c] = qand x c) (hbv : ∀ p j c, bv p j = some c → w0 p j = c) (hbb : ∀ p r, bb p = some r → ∀ j, yin r (w0 p j)) (hxs : ∀ j, yin y32 (xs j)) (hSp : ∀ w p j v, (yarr p = false → gf p j ≠ none ∨ ra p j ≠ []) → (yarr p = true → ga p ≠ none) → Sp w → Sp (qup w p j v)) (hsc : sc = bif lw then some (L, xs) else none) (h : yas gf ga ra bv bb lw k .aaload pc ls st S N = true) (g : yG L xs w0 gf ga ra Sp gh ρ S w) (hl : ySc S.1 ls) (hs : ySc S.1 st) : yOK L xs w0 gf ga ra Sp gh ρ S N (qs1 sc k .aaload len pc (ls.map (yc ρ)) (st.map (yc ρ)) w 142) := by
  have h0 : 0 < S.1 := by have := g.1.2.1; omega
  rw [yas_aaload] at h
  split at h
  · rename_i s o p r
    split at h
    · rename_i m9 x9 a b hpl hi9
      rw [Bool.and_eq_true, Bool.and_eq_true, Bool.and_eq_true, Bool.and_eq_true, yle_i, yle_i, yle_i, yle_i] at h
      obtain ⟨hp1, hp2, ha, hb, h⟩ := h
      have k := yiv_ok g hi9
      have ep : ρ 0 + p = p := by rw [g.1.1, Int.zero_add]
      obtain ⟨S1, e1, g1, h1⟩ := yall_ok h g hs.hd
      have k9 := yref_ok hbv h1 g1 (show 0 < p.toNat by omega) (yarr_r hpl)
      obtain ⟨ρ', S', v, q1, q2, q3, q4, q5, q6⟩ := k9
      rw [e1] at q1 q2
      refine ⟨pc + 1, ls, v :: r, S', ρ', w, ?_, q1, q2, hl.mono q1, ySc.cons q4 (hs.tl.tl.mono q1), q3, q6⟩
      rw [List.map_cons (f := yc ρ'), q5, ym_ag q2 hl, ym_ag q2 hs.tl.tl]
      rw [List.map_cons, List.map_cons, show yc ρ (2, 0, p) = (2, p) from by show (2, ρ 0 + p) = _; rw [ep], show yc ρ (0, s, o) = (0, ρ s + o) from rfl, qs1_aaload]
      show (match qpl p.toNat with
        | (1, 2, m, _) => if 0 ≤ ρ s + o ∧ ρ s + o < m then (if 0 < p ∧ p ≤ ((142 : Nat) : Int) then some (pc + 1, ls.map (yc ρ), (2, w p.toNat (ρ s + o).toNat) :: r.map (yc ρ), w, 142) else none) else none
        | _ => none) = _
      rw [hpl]
      show (if 0 ≤ ρ s + o ∧ ρ s + o < m9 then (if 0 < p ∧ p ≤ ((142 : Nat) : Int) then some (pc + 1, ls.map (yc ρ), (2, w p.toNat (ρ s + o).toNat) :: r.map (yc ρ), w, 142) else none) else none) = _
      rw [if_pos ⟨by omega, by omega⟩, if_pos ⟨by omega, by omega⟩]
    · cases h
  · cases h
theorem ya_iastore (hgh : ∀ x c, gh 1000 [x, c] = qand x c) (hbv : ∀ p j c, bv p j = some c → w0 p j = c) (hbb : ∀ p r, bb p = some r → ∀ j, yin r (w0 p j)) (hxs : ∀ j, yin y32 (xs j)) (hSp : ∀ w p j v, (yarr p = false → gf p j ≠ none ∨ ra p j ≠ []) → (yarr p = true → ga p ≠ none) → Sp w → Sp (qup w p j v)) (hsc : sc = bif lw then some (L, xs) else none) (h : yas gf ga ra bv bb lw k .iastore pc ls st S N = true) (g : yG L xs w0 gf ga ra Sp gh ρ S w) (hl : ySc S.1 ls) (hs : ySc S.1 st) : yOK L xs w0 gf ga ra Sp gh ρ S N (qs1 sc k .iastore len pc (ls.map (yc ρ)) (st.map (yc ρ)) w 142) := by
  have h0 : 0 < S.1 := by have := g.1.2.1; omega
  rw [yas_iastore] at h
  split at h
  · rename_i vs vo s o p r
    split at h
    · rename_i m9 x9 hpl
      rw [Bool.and_eq_true, Bool.and_eq_true, yle_i, yle_i] at h
      obtain ⟨hp1, hp2, h⟩ := h
      have ep : ρ 0 + p = p := by rw [g.1.1, Int.zero_add]
      obtain ⟨hi, hv, k9⟩ := yel3_ok hSp h g (show 0 < p.toNat by omega) (yarr_0 hpl) hs.tl.hd hs.hd
      refine yOK.r0 (pc := pc + 1) (ls := ls) (st := r) k9 ?_ hl hs.tl.tl.tl
      rw [List.map_cons, List.map_cons, List.map_cons, show yc ρ (2, 0, p) = (2, p) from by show (2, ρ 0 + p) = _; rw [ep], show yc ρ (0, s, o) = (0, ρ s + o) from rfl, show yc ρ (0, vs, vo) = (0, ρ vs + vo) from rfl, qs1_iastore]
      show (match qpl p.toNat with
        | (1, 0, m, _) => if 0 ≤ ρ s + o ∧ ρ s + o < m then (if 0 < p ∧ p ≤ ((142 : Nat) : Int) then some (pc + 1, ls.map (yc ρ), r.map (yc ρ), qup w p.toNat (ρ s + o).toNat (ρ vs + vo), 142) else none) else none
        | _ => none) = _
      rw [hpl]
      show (if 0 ≤ ρ s + o ∧ ρ s + o < m9 then (if 0 < p ∧ p ≤ ((142 : Nat) : Int) then some (pc + 1, ls.map (yc ρ), r.map (yc ρ), qup w p.toNat (ρ s + o).toNat (ρ vs + vo), 142) else none) else none) = _
      rw [if_pos hi, if_pos ⟨by omega, by omega⟩]
    · cases h
  · cases h
theorem ya_bastore (hgh : ∀ x c, gh 1000 [x, c] = qand x c) (hbv : ∀ p j c, bv p j = some c → w0 p j = c) (hbb : ∀ p r, bb p = some r → ∀ j, yin r (w0 p j)) (hxs : ∀ j, yin y32 (xs j)) (hSp : ∀ w p j v, (yarr p = false → gf p j ≠ none ∨ ra p j ≠ []) → (yarr p = true → ga p ≠ none) → Sp w → Sp (qup w p j v)) (hsc : sc = bif lw then some (L, xs) else none) (h : yas gf ga ra bv bb lw k .bastore pc ls st S N = true) (g : yG L xs w0 gf ga ra Sp gh ρ S w) (hl : ySc S.1 ls) (hs : ySc S.1 st) : yOK L xs w0 gf ga ra Sp gh ρ S N (qs1 sc k .bastore len pc (ls.map (yc ρ)) (st.map (yc ρ)) w 142) := by
  have h0 : 0 < S.1 := by have := g.1.2.1; omega
  rw [yas_bastore] at h
  split at h
  · rename_i vs vo s o p r
    split at h
    · rename_i m9 x9 hpl
      rw [Bool.and_eq_true, Bool.and_eq_true, yle_i, yle_i] at h
      obtain ⟨hp1, hp2, h⟩ := h
      have ep : ρ 0 + p = p := by rw [g.1.1, Int.zero_add]
      obtain ⟨hi, hv, k9⟩ := yel3_ok hSp h g (show 0 < p.toNat by omega) (yarr_3 hpl) hs.tl.hd hs.hd
      refine yOK.r0 (pc := pc + 1) (ls := ls) (st := r) k9 ?_ hl hs.tl.tl.tl
      rw [List.map_cons, List.map_cons, List.map_cons, show yc ρ (2, 0, p) = (2, p) from by show (2, ρ 0 + p) = _; rw [ep], show yc ρ (0, s, o) = (0, ρ s + o) from rfl, show yc ρ (0, vs, vo) = (0, ρ vs + vo) from rfl, qs1_bastore]
      show (match qpl p.toNat with
        | (1, 3, m, _) => if (0 ≤ ρ s + o ∧ ρ s + o < m) ∧ 0 ≤ ρ vs + vo ∧ ρ vs + vo ≤ 1 then (if 0 < p ∧ p ≤ ((142 : Nat) : Int) then some (pc + 1, ls.map (yc ρ), r.map (yc ρ), qup w p.toNat (ρ s + o).toNat (ρ vs + vo), 142) else none) else none
        | (1, 4, m, _) => if (0 ≤ ρ s + o ∧ ρ s + o < m) ∧ -128 ≤ ρ vs + vo ∧ ρ vs + vo ≤ 127 then (if 0 < p ∧ p ≤ ((142 : Nat) : Int) then some (pc + 1, ls.map (yc ρ), r.map (yc ρ), qup w p.toNat (ρ s + o).toNat (ρ vs + vo), 142) else none) else none
        | _ => none) = _
      rw [hpl]
      show (if (0 ≤ ρ s + o ∧ ρ s + o < m9) ∧ 0 ≤ ρ vs + vo ∧ ρ vs + vo ≤ 1 then (if 0 < p ∧ p ≤ ((142 : Nat) : Int) then some (pc + 1, ls.map (yc ρ), r.map (yc ρ), qup w p.toNat (ρ s + o).toNat (ρ vs + vo), 142) else none) else none) = _
      rw [if_pos ⟨hi, hv.1, hv.2⟩, if_pos ⟨by omega, by omega⟩]
    · rename_i m9 x9 hpl
      rw [Bool.and_eq_true, Bool.and_eq_true, yle_i, yle_i] at h
      obtain ⟨hp1, hp2, h⟩ := h
      have ep : ρ 0 + p = p := by rw [g.1.1, Int.zero_add]
      obtain ⟨hi, hv, k9⟩ := yel3_ok hSp h g (show 0 < p.toNat by omega) (yarr_4 hpl) hs.tl.hd hs.hd
      refine yOK.r0 (pc := pc + 1) (ls := ls) (st := r) k9 ?_ hl hs.tl.tl.tl
      rw [List.map_cons, List.map_cons, List.map_cons, show yc ρ (2, 0, p) = (2, p) from by show (2, ρ 0 + p) = _; rw [ep], show yc ρ (0, s, o) = (0, ρ s + o) from rfl, show yc ρ (0, vs, vo) = (0, ρ vs + vo) from rfl, qs1_bastore]
      show (match qpl p.toNat with
        | (1, 3, m, _) => if (0 ≤ ρ s + o ∧ ρ s + o < m) ∧ 0 ≤ ρ vs + vo ∧ ρ vs + vo ≤ 1 then (if 0 < p ∧ p ≤ ((142 : Nat) : Int) then some (pc + 1, ls.map (yc ρ), r.map (yc ρ), qup w p.toNat (ρ s + o).toNat (ρ vs + vo), 142) else none) else none
        | (1, 4, m, _) => if (0 ≤ ρ s + o ∧ ρ s + o < m) ∧ -128 ≤ ρ vs + vo ∧ ρ vs + vo ≤ 127 then (if 0 < p ∧ p ≤ ((142 : Nat) : Int) then some (pc + 1, ls.map (yc ρ), r.map (yc ρ), qup w p.toNat (ρ s + o).toNat (ρ vs + vo), 142) else none) else none
        | _ => none) = _
      rw [hpl]
      show (if (0 ≤ ρ s + o ∧ ρ s + o < m9) ∧ -128 ≤ ρ vs + vo ∧ ρ vs + vo ≤ 127 then (if 0 < p ∧ p ≤ ((142 : Nat) : Int) then some (pc + 1, ls.map (yc ρ), r.map (yc ρ), qup w p.toNat (ρ s + o).toNat (ρ vs + vo), 142) else none) else none) = _
      rw [if_pos ⟨hi, hv.1, hv.2⟩, if_pos ⟨by omega, by omega⟩]
    · cases h
  · cases h
theorem ya_lastore (hgh : ∀ x c, gh 1000 [x, c] = qand x c) (hbv : ∀ p j c, bv p j = some c → w0 p j = c) (hbb : ∀ p r, bb p = some r → ∀ j, yin r (w0 p j)) (hxs : ∀ j, yin y32 (xs j)) (hSp : ∀ w p j v, (yarr p = false → gf p j ≠ none ∨ ra p j ≠ []) → (yarr p = true → ga p ≠ none) → Sp w → Sp (qup w p j v)) (hsc : sc = bif lw then some (L, xs) else none) (h : yas gf ga ra bv bb lw k .lastore pc ls st S N = true) (g : yG L xs w0 gf ga ra Sp gh ρ S w) (hl : ySc S.1 ls) (hs : ySc S.1 st) : yOK L xs w0 gf ga ra Sp gh ρ S N (qs1 sc k .lastore len pc (ls.map (yc ρ)) (st.map (yc ρ)) w 142) := by
  have h0 : 0 < S.1 := by have := g.1.2.1; omega
  rw [yas_lastore] at h
  split at h
  · rename_i vs vo s o p r
    split at h
    · rename_i m9 x9 hpl
      rw [Bool.and_eq_true, Bool.and_eq_true, yle_i, yle_i] at h
      obtain ⟨hp1, hp2, h⟩ := h
      have ep : ρ 0 + p = p := by rw [g.1.1, Int.zero_add]
      obtain ⟨hi, hv, k9⟩ := yel3_ok hSp h g (show 0 < p.toNat by omega) (yarr_1 hpl) hs.tl.hd hs.hd
      refine yOK.r0 (pc := pc + 1) (ls := ls) (st := r) k9 ?_ hl hs.tl.tl.tl
      rw [List.map_cons, List.map_cons, List.map_cons, show yc ρ (2, 0, p) = (2, p) from by show (2, ρ 0 + p) = _; rw [ep], show yc ρ (0, s, o) = (0, ρ s + o) from rfl, show yc ρ (1, vs, vo) = (1, ρ vs + vo) from rfl, qs1_lastore]
      show (match qpl p.toNat with
        | (1, 1, m, _) => if 0 ≤ ρ s + o ∧ ρ s + o < m then (if 0 < p ∧ p ≤ ((142 : Nat) : Int) then some (pc + 1, ls.map (yc ρ), r.map (yc ρ), qup w p.toNat (ρ s + o).toNat (ρ vs + vo), 142) else none) else none
        | _ => none) = _
      rw [hpl]
      show (if 0 ≤ ρ s + o ∧ ρ s + o < m9 then (if 0 < p ∧ p ≤ ((142 : Nat) : Int) then some (pc + 1, ls.map (yc ρ), r.map (yc ρ), qup w p.toNat (ρ s + o).toNat (ρ vs + vo), 142) else none) else none) = _
      rw [if_pos hi, if_pos ⟨by omega, by omega⟩]
    · cases h
  · cases h
theorem ya_aastore (hgh : ∀ x c, gh 1000 [x, c] = qand x c) (hbv : ∀ p j c, bv p j = some c → w0 p j = c) (hbb : ∀ p r, bb p = some r → ∀ j, yin r (w0 p j)) (hxs : ∀ j, yin y32 (xs j)) (hSp : ∀ w p j v, (yarr p = false → gf p j ≠ none ∨ ra p j ≠ []) → (yarr p = true → ga p ≠ none) → Sp w → Sp (qup w p j v)) (hsc : sc = bif lw then some (L, xs) else none) (h : yas gf ga ra bv bb lw k .aastore pc ls st S N = true) (g : yG L xs w0 gf ga ra Sp gh ρ S w) (hl : ySc S.1 ls) (hs : ySc S.1 st) : yOK L xs w0 gf ga ra Sp gh ρ S N (qs1 sc k .aastore len pc (ls.map (yc ρ)) (st.map (yc ρ)) w 142) := by
  have h0 : 0 < S.1 := by have := g.1.2.1; omega
  rw [yas_aastore] at h
  split at h
  · rename_i v s o p r
    split at h
    · rename_i m9 c9 ci x1 x2 a b hpl hpv hi9
      rw [Bool.and_eq_true, Bool.and_eq_true, Bool.and_eq_true, Bool.and_eq_true, Bool.and_eq_true, Bool.and_eq_true, Bool.and_eq_true, yle_i, yle_i, yle_i, yle_i, yle_i, yle_i] at h
      obtain ⟨hc, hp1, hp2, hv1, hv2, ha, hb, h⟩ := h
      have k := yiv_ok g hi9
      have ep : ρ 0 + p = p := by rw [g.1.1, Int.zero_add]
      have ev : ρ 0 + v = v := by rw [g.1.1, Int.zero_add]
      obtain ⟨S1, e1, g1, h1⟩ := yall_ok h g hs.tl.hd
      split at h1
      · rename_i hg
        rw [Bool.and_eq_true] at h1
        obtain ⟨v9, u1, u2⟩ := List.any_eq_true.mp h1.1
        have u3 := yqi_i.mp u2
        have hy : yarr p.toNat = false := yarr_r hpl
        have hI : yInv gf ga ra Sp (qup w p.toNat (ρ s + o).toNat v) := yInv_up hSp g.2.2.2.2.1 (fun _ => ⟨fun b9 hb9 => by (rw [hg] at hb9; cases hb9), fun _ => by rw [u3]; exact u1, .inr (fun z => by rw [z] at u1; cases u1)⟩) (fun z => by rw [hy] at z; cases z)
        have gp := yput_ok (c := (ρ s + o).toNat + 1) (a := 0) (b := ρ s + o) (s := 0) (o := v) g1 (by omega) (by omega) (show 0 < p.toNat by omega) (.inr (by rw [g.1.1, Int.zero_add])) (fun _ => by omega) (by rw [g.1.1, Int.zero_add, Int.zero_add]; exact hI)
        rw [g.1.1, Int.zero_add, Int.zero_add] at gp
        refine yOK.r0 (pc := pc + 1) (ls := ls) (st := r) ⟨yput S1 p.toNat ((ρ s + o).toNat + 1) 0 (ρ s + o) 0 v, e1, gp, h1.2⟩ ?_ hl hs.tl.tl.tl
        rw [List.map_cons, List.map_cons, List.map_cons, show yc ρ (2, 0, p) = (2, p) from by show (2, ρ 0 + p) = _; rw [ep], show yc ρ (0, s, o) = (0, ρ s + o) from rfl, show yc ρ (2, 0, v) = (2, v) from by show (2, ρ 0 + v) = _; rw [ev], qs1_aastore]
        show (match qpl p.toNat, qpl v.toNat with
          | (1, 2, m, c), (0, ci, _, _) => if Nat.beq c ci = true then (if 0 ≤ ρ s + o ∧ ρ s + o < m then (if (0 < p ∧ p ≤ ((142 : Nat) : Int)) ∧ 0 < v ∧ v ≤ ((142 : Nat) : Int) then some (pc + 1, ls.map (yc ρ), r.map (yc ρ), qup w p.toNat (ρ s + o).toNat v, 142) else none) else none) else none
          | _, _ => none) = _
        rw [hpl, hpv]
        show (if Nat.beq c9 ci = true then (if 0 ≤ ρ s + o ∧ ρ s + o < m9 then (if (0 < p ∧ p ≤ ((142 : Nat) : Int)) ∧ 0 < v ∧ v ≤ ((142 : Nat) : Int) then some (pc + 1, ls.map (yc ρ), r.map (yc ρ), qup w p.toNat (ρ s + o).toNat v, 142) else none) else none) else none) = _
        rw [if_pos hc, if_pos ⟨by omega, by omega⟩, if_pos ⟨⟨by omega, by omega⟩, by omega, by omega⟩]
      · cases h1
    · cases h
  · cases h
theorem ya_arraylength (hgh : ∀ x c, gh 1000 [x, c] = qand x c) (hbv : ∀ p j c, bv p j = some c → w0 p j = c) (hbb : ∀ p r, bb p = some r → ∀ j, yin r (w0 p j)) (hxs : ∀ j, yin y32 (xs j)) (hSp : ∀ w p j v, (yarr p = false → gf p j ≠ none ∨ ra p j ≠ []) → (yarr p = true → ga p ≠ none) → Sp w → Sp (qup w p j v)) (hsc : sc = bif lw then some (L, xs) else none) (h : yas gf ga ra bv bb lw k .arraylength pc ls st S N = true) (g : yG L xs w0 gf ga ra Sp gh ρ S w) (hl : ySc S.1 ls) (hs : ySc S.1 st) : yOK L xs w0 gf ga ra Sp gh ρ S N (qs1 sc k .arraylength len pc (ls.map (yc ρ)) (st.map (yc ρ)) w 142) := by
  have h0 : 0 < S.1 := by have := g.1.2.1; omega
  rw [yas_arraylength] at h
  split at h
  · rename_i p r
    split at h
    · rename_i e9 m9 x9 hpl
      rw [Bool.and_eq_true, Bool.and_eq_true, yle_i, yle_i] at h
      obtain ⟨hp1, hp2, h⟩ := h
      have ep : ρ 0 + p = p := by rw [g.1.1, Int.zero_add]
      refine yOK.same (pc := pc + 1) (ls := ls) (st := (0, 0, (m9 : Int)) :: r) ?_ hl (ySc.cons h0 hs.tl) g h
      rw [List.map_cons, List.map_cons, show yc ρ (2, 0, p) = (2, p) from by show (2, ρ 0 + p) = _; rw [ep], show yc ρ (0, 0, (m9 : Int)) = (0, (m9 : Int)) from by show (0, ρ 0 + (m9 : Int)) = _; rw [g.1.1, Int.zero_add], qs1_arraylength]
      show (match qpl p.toNat with
        | (1, _, m, _) => if 0 < p ∧ p ≤ ((142 : Nat) : Int) then some (pc + 1, ls.map (yc ρ), (0, (m : Int)) :: r.map (yc ρ), w, 142) else none
        | _ => none) = _
      rw [hpl]
      show (if 0 < p ∧ p ≤ ((142 : Nat) : Int) then some (pc + 1, ls.map (yc ρ), (0, (m9 : Int)) :: r.map (yc ρ), w, 142) else none) = _
      rw [if_pos ⟨by omega, by omega⟩]
    · cases h
  · rename_i r
    rw [Bool.and_eq_true] at h
    obtain ⟨hw, h⟩ := h
    refine yOK.same (pc := pc + 1) (ls := ls) (st := (0, 1, 0) :: r) ?_ hl (ySc.cons g.1.2.1 hs.tl) g h
    rw [List.map_cons, List.map_cons, show yc ρ (3, 0, 0) = (3, 0) from by show ((3, ρ 0 + 0) : qV) = _; rw [g.1.1]; rfl, show yc ρ (0, 1, 0) = (0, (L : Int)) from by show ((0, ρ 1 + 0) : qV) = _; rw [g.1.2.2, Int.add_zero], hsc, hw, qs1_arraylength]
    rfl
  · cases h
theorem yas_ok {ins : Instr} (hgh : ∀ x c, gh 1000 [x, c] = qand x c) (hbv : ∀ p j c, bv p j = some c → w0 p j = c) (hbb : ∀ p r, bb p = some r → ∀ j, yin r (w0 p j)) (hxs : ∀ j, yin y32 (xs j)) (hSp : ∀ w p j v, (yarr p = false → gf p j ≠ none ∨ ra p j ≠ []) → (yarr p = true → ga p ≠ none) → Sp w → Sp (qup w p j v)) (hsc : sc = bif lw then some (L, xs) else none) (h : yas gf ga ra bv bb lw k ins pc ls st S N = true) (g : yG L xs w0 gf ga ra Sp gh ρ S w) (hl : ySc S.1 ls) (hs : ySc S.1 st) : yOK L xs w0 gf ga ra Sp gh ρ S N (qs1 sc k ins len pc (ls.map (yc ρ)) (st.map (yc ρ)) w 142) := by
  cases ins
  case iload => exact ya_iload hgh hbv hbb hxs hSp hsc h g hl hs
  case iload_n => exact ya_iload_n hgh hbv hbb hxs hSp hsc h g hl hs
  case lload => exact ya_lload hgh hbv hbb hxs hSp hsc h g hl hs
  case lload_n => exact ya_lload_n hgh hbv hbb hxs hSp hsc h g hl hs
  case aload => exact ya_aload hgh hbv hbb hxs hSp hsc h g hl hs
  case aload_n => exact ya_aload_n hgh hbv hbb hxs hSp hsc h g hl hs
  case istore => exact ya_istore hgh hbv hbb hxs hSp hsc h g hl hs
  case istore_n => exact ya_istore_n hgh hbv hbb hxs hSp hsc h g hl hs
  case lstore => exact ya_lstore hgh hbv hbb hxs hSp hsc h g hl hs
  case lstore_n => exact ya_lstore_n hgh hbv hbb hxs hSp hsc h g hl hs
  case astore_n => exact ya_astore_n hgh hbv hbb hxs hSp hsc h g hl hs
  case iinc => exact ya_iinc hgh hbv hbb hxs hSp hsc h g hl hs
  case iconst => exact ya_iconst hgh hbv hbb hxs hSp hsc h g hl hs
  case bipush => exact ya_bipush hgh hbv hbb hxs hSp hsc h g hl hs
  case sipush => exact ya_sipush hgh hbv hbb hxs hSp hsc h g hl hs
  case lconst => exact ya_lconst hgh hbv hbb hxs hSp hsc h g hl hs
  case aconst_null => exact ya_aconst_null hgh hbv hbb hxs hSp hsc h g hl hs
  case ldc => exact ya_ldc hgh hbv hbb hxs hSp hsc h g hl hs
  case ldc_w => exact ya_ldc_w hgh hbv hbb hxs hSp hsc h g hl hs
  case ldc2_w => exact ya_ldc2_w hgh hbv hbb hxs hSp hsc h g hl hs
  case dup => exact ya_dup hgh hbv hbb hxs hSp hsc h g hl hs
  case dup2 => exact ya_dup2 hgh hbv hbb hxs hSp hsc h g hl hs
  case pop => exact ya_pop hgh hbv hbb hxs hSp hsc h g hl hs
  case iadd => exact ya_iadd hgh hbv hbb hxs hSp hsc h g hl hs
  case isub => exact ya_isub hgh hbv hbb hxs hSp hsc h g hl hs
  case imul => exact ya_imul hgh hbv hbb hxs hSp hsc h g hl hs
  case idiv => exact ya_idiv hgh hbv hbb hxs hSp hsc h g hl hs
  case irem => exact ya_irem hgh hbv hbb hxs hSp hsc h g hl hs
  case ineg => exact ya_ineg hgh hbv hbb hxs hSp hsc h g hl hs
  case iand => exact ya_iand hgh hbv hbb hxs hSp hsc h g hl hs
  case ior => exact ya_ior hgh hbv hbb hxs hSp hsc h g hl hs
  case ixor => exact ya_ixor hgh hbv hbb hxs hSp hsc h g hl hs
  case ishl => exact ya_ishl hgh hbv hbb hxs hSp hsc h g hl hs
  case ishr => exact ya_ishr hgh hbv hbb hxs hSp hsc h g hl hs
  case iushr => exact ya_iushr hgh hbv hbb hxs hSp hsc h g hl hs
  case ladd => exact ya_ladd hgh hbv hbb hxs hSp hsc h g hl hs
  case lsub => exact ya_lsub hgh hbv hbb hxs hSp hsc h g hl hs
  case lmul => exact ya_lmul hgh hbv hbb hxs hSp hsc h g hl hs
  case ldiv => exact ya_ldiv hgh hbv hbb hxs hSp hsc h g hl hs
  case land => exact ya_land hgh hbv hbb hxs hSp hsc h g hl hs
  case lor => exact ya_lor hgh hbv hbb hxs hSp hsc h g hl hs
  case lshl => exact ya_lshl hgh hbv hbb hxs hSp hsc h g hl hs
  case lushr => exact ya_lushr hgh hbv hbb hxs hSp hsc h g hl hs
  case lcmp => exact ya_lcmp hgh hbv hbb hxs hSp hsc h g hl hs
  case i2l => exact ya_i2l hgh hbv hbb hxs hSp hsc h g hl hs
  case l2i => exact ya_l2i hgh hbv hbb hxs hSp hsc h g hl hs
  case i2b => exact ya_i2b hgh hbv hbb hxs hSp hsc h g hl hs
  case i2c => exact ya_i2c hgh hbv hbb hxs hSp hsc h g hl hs
  case goto => exact ya_goto hgh hbv hbb hxs hSp hsc h g hl hs
  case ifCond => exact ya_ifCond hgh hbv hbb hxs hSp hsc h g hl hs
  case if_icmp => exact ya_if_icmp hgh hbv hbb hxs hSp hsc h g hl hs
  case if_acmp => exact ya_if_acmp hgh hbv hbb hxs hSp hsc h g hl hs
  case tableswitch => exact ya_tableswitch hgh hbv hbb hxs hSp hsc h g hl hs
  case getfield => exact ya_getfield hgh hbv hbb hxs hSp hsc h g hl hs
  case putfield => exact ya_putfield hgh hbv hbb hxs hSp hsc h g hl hs
  case iaload => exact ya_iaload hgh hbv hbb hxs hSp hsc h g hl hs
  case baload => exact ya_baload hgh hbv hbb hxs hSp hsc h g hl hs
  case laload => exact ya_laload hgh hbv hbb hxs hSp hsc h g hl hs
  case aaload => exact ya_aaload hgh hbv hbb hxs hSp hsc h g hl hs
  case iastore => exact ya_iastore hgh hbv hbb hxs hSp hsc h g hl hs
  case bastore => exact ya_bastore hgh hbv hbb hxs hSp hsc h g hl hs
  case lastore => exact ya_lastore hgh hbv hbb hxs hSp hsc h g hl hs
  case aastore => exact ya_aastore hgh hbv hbb hxs hSp hsc h g hl hs
  case arraylength => exact ya_arraylength hgh hbv hbb hxs hSp hsc h g hl hs
  all_goals exact absurd (show false = true from h) (by decide)
end SymAs
