def qckC (o i : Nat) : Bool := match qcl o i with
  | none => true
  | some ci => if ci = 99 then qwd1 (qcp o i) (.classLink (qcn o) i ("[" ++ (FieldType.array .long).toString)) else Nat.blt ci 13 && qwd1 (qcp o i) (.classLink (qcn o) i (qcn ci)) && qwd1 (qpN ci) (.instantiable (qcn ci) (qNf ci)) && qwd1 (qpJ ci) (.initialized (qcn ci))
theorem qckC_all : qall 16 800 qckC = true := by decide +kernel
def qckK (o i : Nat) : Bool := match qkn o i with
  | none => true
  | some (0, v) => qwd1 (qkp o i) (.constant (qcn o) i (Int32.ofInt v)) && decide (-2147483648 ≤ v ∧ v < 2147483648)
  | some (1, v) => qwd1 (qkp o i) (.constantLong (qcn o) i (Int64.ofInt v)) && decide (-9223372036854775808 ≤ v ∧ v < 9223372036854775808)
  | some (3, v) => match qtx[v.toNat - 1]? with
    | some (c, j, _) => decide (c = qcn o) && Nat.beq j i && decide (0 < v)
    | none => false
  | _ => false
theorem qckK_all : qall 16 800 qckK = true := by decide +kernel
