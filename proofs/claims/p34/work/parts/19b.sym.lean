/-! a plain run over symbols: values (kind, symbol, offset), symbol 0 is 0, symbol 1 the script's length -/
noncomputable abbrev yV : Type := Nat × Nat × Int
noncomputable abbrev yB : Type := List (Nat × Int × Int)
noncomputable abbrev yH : Type := List (Nat × Nat × Int × Nat × Int)
noncomputable abbrev yD : Type := List (Nat × Nat × Int)
noncomputable abbrev yM : Type := List (Nat × Nat)
noncomputable abbrev yE : Type := List (Nat × List (Nat × Int) × Nat × Int)
noncomputable abbrev yS : Type := Nat × yB × yH × yM × yD × yE
noncomputable abbrev yN : Type := Nat → List yV → List yV → yS → Bool
noncomputable def ybd : yB → Nat → Option yI
  | [], _ => none
  | e :: r, s => bif Nat.beq e.1 s then some e.2 else ybd r s
noncomputable def yiv (bs : yB) (s : Nat) (o : Int) : Option yI := bif Nat.beq s 0 then some (o, o) else match ybd bs s with
  | some (lo, hi) => some (lo + o, hi + o)
  | none => none
noncomputable def yfl : yH → Nat → Nat → Int → Option (Nat × Int)
  | [], _, _, _ => none
  | e :: r, p, a, b => bif Nat.beq e.1 p && (Nat.beq e.2.1 a && yqi e.2.2.1 b) then some e.2.2.2 else yfl r p a b
noncomputable def ymem (p : Nat) : List Nat → Bool
  | [] => false
  | a :: l => Nat.beq a p || ymem p l
/-- a place that may have changed: cells are kept with 0 (whole) or a slot's number and 1 -/
noncomputable def ymd (p j : Nat) : yM → Bool
  | [] => false
  | e :: l => (Nat.beq e.1 p && (Nat.beq e.2 0 || Nat.beq e.2 (j + 1))) || ymd p j l
noncomputable def ymp (p c : Nat) : yM → Bool
  | [] => false
  | e :: l => (Nat.beq e.1 p && Nat.beq e.2 c) || ymp p c l
noncomputable def ynt : List yV → Nat → yV
  | [], _ => (9, 0, 0)
  | a :: _, 0 => a
  | _ :: l, i + 1 => ynt l i
noncomputable def yset : List yV → Nat → yV → List yV
  | [], _, _ => []
  | _ :: l, 0, v => v :: l
  | a :: l, i + 1, v => a :: yset l i v
noncomputable def yhf (ls : List yV) (i : Nat) : List yV := match i with
  | 0 => ls
  | j + 1 => bif Nat.beq (ynt ls j).1 1 then yset ls j (9, 0, 0) else ls
noncomputable def yst (ls : List yV) (i : Nat) (v : yV) : List yV := bif Nat.beq v.1 1 then yset (yset (yhf ls i) i v) (i + 1) (9, 0, 0) else yset (yhf ls i) i v
/-- a fresh symbol within a range -/
noncomputable def ynum (kd : Nat) (S : yS) (r : yI) (N : yV → yS → Bool) : Bool := bif yqi r.1 r.2 then N (kd, 0, r.1) S else N (kd, S.1, 0) (S.1 + 1, (S.1, r) :: S.2.1, S.2.2)
noncomputable def ybin (kd : Nat) (f : Int → Int → Int) (v : Int → Int → Int → Int → yI) (S : yS) (s1 : Nat) (o1 : Int) (s2 : Nat) (o2 : Int) (N : yV → yS → Bool) : Bool := match yiv S.2.1 s1 o1, yiv S.2.1 s2 o2 with
  | some (a, b), some (c, d) => bif yqi a b && yqi c d then N (kd, 0, f a c) S else ynum kd S (v a b c d) N
  | _, _ => false
noncomputable def yadd (kd : Nat) (f : Int → Int → Int) (v : Int → Int → Int → Int → yI) (B : yI) (S : yS) (s1 : Nat) (o1 : Int) (s2 : Nat) (o2 : Int) (N : yV → yS → Bool) : Bool := match yiv S.2.1 s1 o1, yiv S.2.1 s2 o2 with
  | some (a, b), some (c, d) => bif yqi c d && (yle B.1 (a + c) && yle (b + c) B.2) then N (kd, s1, o1 + c) S else bif yqi a b && (yle B.1 (a + c) && yle (a + d) B.2) then N (kd, s2, o2 + a) S else ynum kd S (v a b c d) N
  | _, _ => false
noncomputable def ysub (kd : Nat) (f : Int → Int → Int) (v : Int → Int → Int → Int → yI) (B : yI) (S : yS) (s1 : Nat) (o1 : Int) (s2 : Nat) (o2 : Int) (N : yV → yS → Bool) : Bool := match yiv S.2.1 s1 o1, yiv S.2.1 s2 o2 with
  | some (a, b), some (c, d) => bif yqi c d && (yle B.1 (a - c) && yle (b - c) B.2) then N (kd, s1, o1 - c) S else ynum kd S (v a b c d) N
  | _, _ => false
/-- one number within a range: the same if it fits, else any of it -/
noncomputable def yun (kd : Nat) (f : Int → Int) (B : yI) (S : yS) (s : Nat) (o : Int) (N : yV → yS → Bool) : Bool := match yiv S.2.1 s o with
  | some (a, b) => bif yle B.1 a && yle b B.2 then N (kd, s, o) S else ynum kd S B N
  | none => false
noncomputable def yneg (S : yS) (s : Nat) (o : Int) (N : yV → yS → Bool) : Bool := match yiv S.2.1 s o with
  | some (a, b) => ynum 0 S (yfit y32 (-b) (-a)) N
  | none => false
/-- a value is known to be within lo .. hi (it was within a .. b) -/
noncomputable def yrf (S : yS) (s : Nat) (o a b lo hi : Int) (N : yS → Bool) : Bool := bif yle lo hi then (bif Nat.beq s 0 || (yqi a lo && yqi b hi) then N S else N (S.1, (s, lo - o, hi - o) :: S.2.1, S.2.2)) else true
noncomputable def ydf (S : yS) (s1 s2 : Nat) (c : Int) : yS := bif Nat.beq s1 0 || Nat.beq s2 0 then S else (S.1, S.2.1, S.2.2.1, S.2.2.2.1, (s1, s2, c) :: S.2.2.2.2.1, S.2.2.2.2.2)
/-- known: the first is less than the second -/
noncomputable def ydl : yD → Nat → Int → Nat → Int → Bool
  | [], _, _, _, _ => false
  | e :: r, s1, o1, s2, o2 => (Nat.beq e.1 s1 && (Nat.beq e.2.1 s2 && yle (o1 + 1) (e.2.2 + o2))) || ydl r s1 o1 s2 o2
noncomputable def ylt (S : yS) (s1 : Nat) (o1 : Int) (s2 : Nat) (o2 : Int) (T F : yS → Bool) : Bool := bif Nat.beq s1 s2 then (bif yle o2 o1 then F S else T S) else bif ydl S.2.2.2.2.1 s1 o1 s2 o2 then T S else bif ydl S.2.2.2.2.1 s2 (o2 - 1) s1 o1 then F S else match yiv S.2.1 s1 o1, yiv S.2.1 s2 o2 with
  | some (a, b), some (c, d) => yrf S s1 o1 a b a (ymn b (d - 1)) (fun S => yrf S s2 o2 c d (ymx c (a + 1)) d (fun S => T (ydf S s1 s2 (o1 + 1 - o2)))) && yrf S s1 o1 a b (ymx a c) b (fun S => yrf S s2 o2 c d c (ymn d b) (fun S => F (ydf S s2 s1 (o2 - o1))))
  | _, _ => false
noncomputable def yne (S : yS) (s : Nat) (o a b c : Int) (N : yS → Bool) : Bool := bif yqi a c then yrf S s o a b (a + 1) b N else bif yqi b c then yrf S s o a b a (b - 1) N else (yrf S s o a b a (ymn b (c - 1)) N && yrf S s o a b (ymx a (c + 1)) b N)
noncomputable def yqe (S : yS) (s1 : Nat) (o1 : Int) (s2 : Nat) (o2 : Int) (T F : yS → Bool) : Bool := bif Nat.beq s1 s2 then (bif yqi o1 o2 then T S else F S) else bif ydl S.2.2.2.2.1 s1 o1 s2 o2 || ydl S.2.2.2.2.1 s2 o2 s1 o1 then F S else match yiv S.2.1 s1 o1, yiv S.2.1 s2 o2 with
  | some (a, b), some (c, d) => yrf S s1 o1 a b (ymx a c) (ymn b d) (fun S => yrf S s2 o2 c d (ymx a c) (ymn b d) (fun S => T (ydf (ydf S s1 s2 (o1 - o2)) s2 s1 (o2 - o1)))) && (bif yqi c d then yne S s1 o1 a b c F else bif yqi a b then yne S s2 o2 c d a F else ylt S s1 o1 s2 o2 F (fun S => ylt S s2 o2 s1 o1 F (fun _ => true)))
  | _, _ => false
noncomputable def ybr (c : Jvm.ClassFile.Cond) (S : yS) (s1 : Nat) (o1 : Int) (s2 : Nat) (o2 : Int) (T F : yS → Bool) : Bool := match c with
  | .eq => yqe S s1 o1 s2 o2 T F
  | .ne => yqe S s1 o1 s2 o2 F T
  | .lt => ylt S s1 o1 s2 o2 T F
  | .ge => ylt S s1 o1 s2 o2 F T
  | .gt => ylt S s2 o2 s1 o1 T F
  | .le => ylt S s2 o2 s1 o1 F T
noncomputable def ysw (s : Nat) (o : Int) (N : Nat → yS → Bool) (pc : Nat) (dflt : Int) : List Int → Int → yS → Bool
  | [], _, S => N (qtg pc dflt) S
  | t :: r, c, S => yqe S s o 0 c (fun S => N (qtg pc t) S) (fun S => ysw s o N pc dflt r (c + 1) S)
/-- one path for each value of a range -/
noncomputable def yfk (S : yS) (s : Nat) (o a b : Int) (N : Int → yS → Bool) : Nat → Int → Bool
  | 0, _ => true
  | n + 1, v => yrf S s o a b v v (N v) && yfk S s o a b N n (v + 1)
noncomputable def yall (S : yS) (s : Nat) (o : Int) (N : Int → yS → Bool) : Bool := match yiv S.2.1 s o with
  | some (a, b) => yfk S s o a b N (b - a + 1).toNat a
  | none => false
/-- a fact more -/
noncomputable def yfc (S : yS) (p a : Nat) (b : Int) (s : Nat) (o : Int) : yS := (S.1, S.2.1, (p, a, b, s, o) :: S.2.2.1, S.2.2.2)
noncomputable def yfr (kd : Nat) (S : yS) (r : yI) (p a : Nat) (b : Int) (N : yV → yS → Bool) : Bool := ynum kd S r (fun v S => N v (yfc S p a b v.2.1 v.2.2))
noncomputable def yalt (S : yS) (p a : Nat) (b : Int) (N : yV → yS → Bool) : List Int → Bool
  | [] => true
  | c :: l => N (2, 0, c) (yfc S p a b 0 c) && yalt S p a b N l
noncomputable def ykill (p : Nat) : yH → yH
  | [] => []
  | e :: r => bif Nat.beq e.1 p then ykill p r else e :: ykill p r
noncomputable def ykilc (p : Nat) (b : Int) : yH → yH
  | [] => []
  | e :: r => bif Nat.beq e.1 p && !(Nat.beq e.2.1 0 && (yle 0 e.2.2.1 && !yqi e.2.2.1 b)) then ykilc p b r else e :: ykilc p b r
noncomputable def yput (S : yS) (p c a : Nat) (b : Int) (s : Nat) (o : Int) : yS := (S.1, S.2.1, (p, a, b, s, o) :: (bif Nat.beq a 0 then ykilc p b S.2.2.1 else ykill p S.2.2.1), (bif ymp p c S.2.2.2.1 then S.2.2.2.1 else (p, c) :: S.2.2.2.1), S.2.2.2.2)
noncomputable def yarr (p : Nat) : Bool := match qpl p with
  | (1, 2, _, _) => false
  | (1, _, _, _) => true
  | _ => false
noncomputable def ycln (p : Nat) : yM → Bool
  | [] => true
  | e :: l => !Nat.beq e.1 p && ycln p l
noncomputable def yrd (xs : Nat → Int) (w : qW) (p j : Nat) : Int := bif Nat.beq p 0 then xs j else w p j
noncomputable def yvl2 : List (Nat × Int) → List (Nat × Int) → Bool
  | [], [] => true
  | a :: l, b :: m => Nat.beq a.1 b.1 && (yqi a.2 b.2 && yvl2 l m)
  | _, _ => false
noncomputable def ymef (g : Nat) (as : List (Nat × Int)) : yE → Option (Nat × Int)
  | [] => none
  | e :: l => bif Nat.beq e.1 g && yvl2 e.2.1 as then some e.2.2 else ymef g as l
/-- a function's value: one symbol for one list of arguments -/
noncomputable def ygho (S : yS) (g : Nat) (as : List (Nat × Int)) (r : yI) (N : yV → yS → Bool) : Bool := bif Nat.beq g 0 then ynum 0 S r N else match ymef g as S.2.2.2.2.2 with
  | some (s, o) => N (0, s, o) S
  | none => ynum 0 S r (fun v S => N v (S.1, S.2.1, S.2.2.1, S.2.2.2.1, S.2.2.2.2.1, (g, as, v.2.1, v.2.2) :: S.2.2.2.2.2))
/-- and with a number: one symbol for one value; a negative mask splits by the value's range -/
noncomputable def yandc (S : yS) (s : Nat) (o : Int) (c : Int) (r : yI) (N : yV → yS → Bool) : Bool := ygho S 1000 [(s, o), (0, c)] r N
noncomputable def yand (S : yS) (s1 : Nat) (o1 : Int) (s2 : Nat) (o2 : Int) (N : yV → yS → Bool) : Bool := match yiv S.2.1 s1 o1, yiv S.2.1 s2 o2 with
  | some (a, b), some (c, d) => bif yqi a b && yqi c d then N (0, 0, qand a c) S
    else bif yle (-2147483648) c && (yle d (-1) && (yle (-2147483648) a && yle b 2147483647)) then
      ylt S s1 o1 0 0 (fun S => ynum 0 S (-2147483648, -1) N) (fun S => bif yqi c d && yle (-65536) c then ylt S s1 o1 0 65536
        (fun S => yandc S s1 o1 (c % 65536) (vand (ymx a 0) (ymn b 65535) (c % 65536) (c % 65536)) N)
        (fun S => ynum 0 S (1, 2147483647) N) else ynum 0 S (vand (ymx a 0) b c d) N)
    else bif yqi c d && (yle 0 c && yle c 2147483647) then yandc S s1 o1 c (vand a b c c) N
    else ynum 0 S (vand a b c d) N
  | _, _ => false
section Sym
variable (gf : Nat → Nat → Option yI) (ga : Nat → Option yI) (ra : Nat → Nat → List Int) (bv : Nat → Nat → Option Int) (bb : Nat → Option yI)
/-- a reference's place -/
noncomputable def yref (S : yS) (p j : Nat) (N : yV → yS → Bool) : Bool := match yfl S.2.2.1 p 0 (j : Int) with
  | some (s, o) => N (2, s, o) S
  | none => match (bif ymd p j S.2.2.2.1 then none else bv p j) with
    | some c => N (2, 0, c) S
    | none => match ra p j with
      | [] => false
      | c :: l => yalt S p 0 (j : Int) N (c :: l)
noncomputable def yget (S : yS) (p j kd : Nat) (N : yV → yS → Bool) : Bool := match yfl S.2.2.1 p 0 (j : Int) with
  | some (s, o) => N (kd, s, o) S
  | none => match (bif ymd p j S.2.2.2.1 then none else bv p j) with
    | some c => N (kd, 0, c) S
    | none => match gf p j with
      | some r => yfr kd S r p 0 (j : Int) N
      | none => false
noncomputable def yel2 (S : yS) (kd p a : Nat) (b : Int) (N : yV → yS → Bool) : Bool := match yfl S.2.2.1 p a b with
  | some (s, o) => N (kd, s, o) S
  | none => match (bif ymd p b.toNat S.2.2.2.1 || Nat.blt 0 a then none else bv p b.toNat) with
    | some c => N (kd, 0, c) S
    | none => match (bif ycln p S.2.2.2.1 then bb p else none) with
      | some r => yfr kd S r p a b N
      | none => match ga p with
        | some r => yfr kd S r p a b N
        | none => false
/-- an element of an array of m numbers -/
noncomputable def yel (S : yS) (kd p m s : Nat) (o : Int) (N : yV → yS → Bool) : Bool := match yiv S.2.1 s o with
  | some (a, b) => yle 0 a && (yle (b + 1) m && (bif yqi a b then yel2 ga bv bb S kd p 0 a N else yel2 ga bv bb S kd p s o N))
  | none => false
noncomputable def ydfl : yD → Nat → Int → Bool
  | [], _, _ => false
  | e :: r, s, o => (Nat.beq e.1 s && (Nat.beq e.2.1 1 && yle (o + 1) e.2.2)) || ydfl r s o
noncomputable def ysc2 (S : yS) (a : Nat) (b : Int) (N : yV → yS → Bool) : Bool := match yfl S.2.2.1 0 a b with
  | some (s, o) => N (0, s, o) S
  | none => yfr 0 S y32 0 a b N
noncomputable def yscr (S : yS) (s : Nat) (o : Int) (N : yV → yS → Bool) : Bool := match yiv S.2.1 s o, yiv S.2.1 1 0 with
  | some (a, b), some (c, _) => yle 0 a && ((yle (b + 1) c || ydfl S.2.2.2.2.1 s o) && (bif yqi a b then ysc2 S 0 a N else ysc2 S s o N))
  | _, _ => false
noncomputable def yel3 (S : yS) (p m s : Nat) (o : Int) (vs : Nat) (vo : Int) (B : yI) (N : yS → Bool) : Bool := match yiv S.2.1 s o, yiv S.2.1 vs vo, ga p with
  | some (a, b), some (c, d), some (lo, hi) => yle 0 a && (yle (b + 1) m && (yle lo c && (yle d hi && (yle B.1 c && (yle d B.2 && (bif yqi a b then N (yput S p 0 0 a vs vo) else N (yput S p 0 s o vs vo)))))))
  | _, _, _ => false
noncomputable def yas (lw : Bool) (k : Nat) (ins : Instr) (pc : Nat) (ls st : List yV) (S : yS) (N : yN) : Bool :=
  match ins with
  | .iload i => match ynt ls i with
    | (0, x) => N (pc + 2) ls ((0, x) :: st) S
    | _ => false
  | .iload_n i => match ynt ls i.val with
    | (0, x) => N (pc + 1) ls ((0, x) :: st) S
    | _ => false
  | .lload i => match ynt ls i with
    | (1, x) => N (pc + 2) ls ((1, x) :: st) S
    | _ => false
  | .lload_n i => match ynt ls i.val with
    | (1, x) => N (pc + 1) ls ((1, x) :: st) S
    | _ => false
  | .aload i => match ynt ls i with
    | (2, x) => N (pc + 2) ls ((2, x) :: st) S
    | (3, x) => N (pc + 2) ls ((3, x) :: st) S
    | _ => false
  | .aload_n i => match ynt ls i.val with
    | (2, x) => N (pc + 1) ls ((2, x) :: st) S
    | (3, x) => N (pc + 1) ls ((3, x) :: st) S
    | _ => false
  | .istore i => match st with
    | (0, x) :: r => Nat.blt i (qml k) && N (pc + 2) (yst ls i (0, x)) r S
    | _ => false
  | .istore_n i => match st with
    | (0, x) :: r => Nat.blt i.val (qml k) && N (pc + 1) (yst ls i.val (0, x)) r S
    | _ => false
  | .lstore i => match st with
    | (1, x) :: r => Nat.blt (i + 1) (qml k) && N (pc + 2) (yst ls i (1, x)) r S
    | _ => false
  | .lstore_n i => match st with
    | (1, x) :: r => Nat.blt (i.val + 1) (qml k) && N (pc + 1) (yst ls i.val (1, x)) r S
    | _ => false
  | .astore_n i => match st with
    | (2, x) :: r => Nat.blt i.val (qml k) && N (pc + 1) (yst ls i.val (2, x)) r S
    | _ => false
  | .iinc i c => match ynt ls i with
    | (0, s, o) => Nat.blt i (qml k) && yadd 0 (fun x y => wrp (x + y)) vadd y32 S s o 0 c (fun v S => N (pc + 3) (yst ls i v) st S)
    | _ => false
  | .iconst c => N (pc + 1) ls ((0, 0, c) :: st) S
  | .bipush c => N (pc + 2) ls ((0, 0, c) :: st) S
  | .sipush c => N (pc + 3) ls ((0, 0, c) :: st) S
  | .lconst c => N (pc + 1) ls ((1, 0, (c.val : Int)) :: st) S
  | .aconst_null => N (pc + 1) ls ((2, 0, 0) :: st) S
  | .ldc i => match qkn (qow k) i with
    | some (0, v) => N (pc + 2) ls ((0, 0, v) :: st) S
    | some (3, v) => N (pc + 2) ls ((3, 0, v) :: st) S
    | _ => false
  | .ldc_w i => match qkn (qow k) i with
    | some (0, v) => N (pc + 3) ls ((0, 0, v) :: st) S
    | some (3, v) => N (pc + 3) ls ((3, 0, v) :: st) S
    | _ => false
  | .ldc2_w i => match qkn (qow k) i with
    | some (1, v) => N (pc + 3) ls ((1, 0, v) :: st) S
    | _ => false
  | .dup => match st with
    | (0, x) :: r => N (pc + 1) ls ((0, x) :: (0, x) :: r) S
    | (2, x) :: r => N (pc + 1) ls ((2, x) :: (2, x) :: r) S
    | _ => false
  | .dup2 => match st with
    | (0, x) :: (2, y) :: r => N (pc + 1) ls ((0, x) :: (2, y) :: (0, x) :: (2, y) :: r) S
    | _ => false
  | .pop => match st with
    | (0, _) :: r => N (pc + 1) ls r S
    | _ => false
  | .iadd => match st with
    | (0, s2, o2) :: (0, s1, o1) :: r => yadd 0 (fun x y => wrp (x + y)) vadd y32 S s1 o1 s2 o2 (fun v S => N (pc + 1) ls (v :: r) S)
    | _ => false
  | .isub => match st with
    | (0, s2, o2) :: (0, s1, o1) :: r => ysub 0 (fun x y => wrp (x - y)) vsub y32 S s1 o1 s2 o2 (fun v S => N (pc + 1) ls (v :: r) S)
    | _ => false
  | .imul => match st with
    | (0, s2, o2) :: (0, s1, o1) :: r => ybin 0 (fun x y => wrp (x * y)) vmul S s1 o1 s2 o2 (fun v S => N (pc + 1) ls (v :: r) S)
    | _ => false
  | .idiv => match st with
    | (0, s2, o2) :: (0, s1, o1) :: r => match yiv S.2.1 s2 o2 with
      | some (c, _) => yle 1 c && ybin 0 qdiv vdiv S s1 o1 s2 o2 (fun v S => N (pc + 1) ls (v :: r) S)
      | none => false
    | _ => false
  | .irem => match st with
    | (0, s2, o2) :: (0, s1, o1) :: r => match yiv S.2.1 s2 o2 with
      | some (c, _) => yle 1 c && ybin 0 qrem vrem S s1 o1 s2 o2 (fun v S => N (pc + 1) ls (v :: r) S)
      | none => false
    | _ => false
  | .ineg => match st with
    | (0, s, o) :: r => yneg S s o (fun v S => N (pc + 1) ls (v :: r) S)
    | _ => false
  | .iand => match st with
    | (0, s2, o2) :: (0, s1, o1) :: r => yand S s1 o1 s2 o2 (fun v S => N (pc + 1) ls (v :: r) S)
    | _ => false
  | .ior => match st with
    | (0, s2, o2) :: (0, s1, o1) :: r => ybin 0 qor vor S s1 o1 s2 o2 (fun v S => N (pc + 1) ls (v :: r) S)
    | _ => false
  | .ixor => match st with
    | (0, s2, o2) :: (0, s1, o1) :: r => ybin 0 qxor vxor1 S s1 o1 s2 o2 (fun v S => N (pc + 1) ls (v :: r) S)
    | _ => false
  | .ishl => match st with
    | (0, s2, o2) :: (0, s1, o1) :: r => ybin 0 qshl vshl S s1 o1 s2 o2 (fun v S => N (pc + 1) ls (v :: r) S)
    | _ => false
  | .ishr => match st with
    | (0, s2, o2) :: (0, s1, o1) :: r => ybin 0 qshr vshr S s1 o1 s2 o2 (fun v S => N (pc + 1) ls (v :: r) S)
    | _ => false
  | .iushr => match st with
    | (0, s2, o2) :: (0, s1, o1) :: r => ybin 0 qush vush S s1 o1 s2 o2 (fun v S => N (pc + 1) ls (v :: r) S)
    | _ => false
  | .ladd => match st with
    | (1, s2, o2) :: (1, s1, o1) :: r => ybin 1 (fun x y => wrl (x + y)) vladd S s1 o1 s2 o2 (fun v S => N (pc + 1) ls (v :: r) S)
    | _ => false
  | .lsub => match st with
    | (1, s2, o2) :: (1, s1, o1) :: r => ybin 1 (fun x y => wrl (x - y)) vlsub S s1 o1 s2 o2 (fun v S => N (pc + 1) ls (v :: r) S)
    | _ => false
  | .lmul => match st with
    | (1, s2, o2) :: (1, s1, o1) :: r => ybin 1 (fun x y => wrl (x * y)) vlmul S s1 o1 s2 o2 (fun v S => N (pc + 1) ls (v :: r) S)
    | _ => false
  | .ldiv => match st with
    | (1, s2, o2) :: (1, s1, o1) :: r => match yiv S.2.1 s2 o2 with
      | some (c, _) => yle 1 c && ybin 1 qldiv vldiv S s1 o1 s2 o2 (fun v S => N (pc + 1) ls (v :: r) S)
      | none => false
    | _ => false
  | .land => match st with
    | (1, s2, o2) :: (1, s1, o1) :: r => ybin 1 qland v64 S s1 o1 s2 o2 (fun v S => N (pc + 1) ls (v :: r) S)
    | _ => false
  | .lor => match st with
    | (1, s2, o2) :: (1, s1, o1) :: r => ybin 1 qlor v64 S s1 o1 s2 o2 (fun v S => N (pc + 1) ls (v :: r) S)
    | _ => false
  | .lshl => match st with
    | (0, s2, o2) :: (1, s1, o1) :: r => ybin 1 qlshl v64 S s1 o1 s2 o2 (fun v S => N (pc + 1) ls (v :: r) S)
    | _ => false
  | .lushr => match st with
    | (0, s2, o2) :: (1, s1, o1) :: r => ybin 1 qlush v64 S s1 o1 s2 o2 (fun v S => N (pc + 1) ls (v :: r) S)
    | _ => false
  | .lcmp => match st with
    | (1, s2, o2) :: (1, s1, o1) :: r => ylt S s1 o1 s2 o2 (fun S => N (pc + 1) ls ((0, 0, -1) :: r) S) (fun S => yqe S s1 o1 s2 o2 (fun S => N (pc + 1) ls ((0, 0, 0) :: r) S) (fun S => N (pc + 1) ls ((0, 0, 1) :: r) S))
    | _ => false
  | .i2l => match st with
    | (0, x) :: r => N (pc + 1) ls ((1, x) :: r) S
    | _ => false
  | .l2i => match st with
    | (1, s, o) :: r => yun 0 wrp y32 S s o (fun v S => N (pc + 1) ls (v :: r) S)
    | _ => false
  | .i2b => match st with
    | (0, s, o) :: r => yun 0 qi2b (-128, 127) S s o (fun v S => N (pc + 1) ls (v :: r) S)
    | _ => false
  | .i2c => match st with
    | (0, s, o) :: r => yun 0 (fun x => x % 65536) (0, 65535) S s o (fun v S => N (pc + 1) ls (v :: r) S)
    | _ => false
  | .goto off => N (qtg pc off) ls st S
  | .ifCond c off => match st with
    | (0, s, o) :: r => ybr c S s o 0 0 (fun S => N (qtg pc off) ls r S) (fun S => N (pc + 3) ls r S)
    | _ => false
  | .if_icmp c off => match st with
    | (0, s2, o2) :: (0, s1, o1) :: r => ybr c S s1 o1 s2 o2 (fun S => N (qtg pc off) ls r S) (fun S => N (pc + 3) ls r S)
    | _ => false
  | .if_acmp c off => match c, st with
    | .ne, (2, s2, o2) :: (2, s1, o1) :: r => yqe S s1 o1 s2 o2 (fun S => N (pc + 3) ls r S) (fun S => N (qtg pc off) ls r S)
    | _, _ => false
  | .tableswitch dflt lo _ offs => match st with
    | (0, s, o) :: r => ysw s o (fun t S => N t ls r S) pc dflt offs.toList lo S
    | _ => false
  | .getfield i => match qfd (qow k) i, st with
    | some (ci, j, kd, _), (2, 0, p) :: r => match qpl p.toNat with
      | (0, c, _, _) => Nat.beq c ci && (yle 1 p && (yle p 142 && (match kd with
        | 0 => yget gf bv S p.toNat j 0 (fun v S => N (pc + 3) ls (v :: r) S)
        | 1 => yget gf bv S p.toNat j 1 (fun v S => N (pc + 3) ls (v :: r) S)
        | 2 => yref ra bv S p.toNat j (fun v S => N (pc + 3) ls (v :: r) S)
        | 3 => yget gf bv S p.toNat j 0 (fun v S => N (pc + 3) ls (v :: r) S)
        | _ => false)))
      | _ => false
    | _, _ => false
  | .putfield i => match qfd (qow k) i, st with
    | some (ci, j, kd, fin), (t, s, o) :: (2, 0, p) :: r => match qpl p.toNat with
      | (0, c, _, _) => Nat.beq c ci && (Nat.beq fin 0 && (yle 1 p && (yle p 142 && (match kd, t with
        | 0, 0 => match gf p.toNat j, yiv S.2.1 s o, ra p.toNat j with
          | some (lo, hi), some (a, b), [] => yle lo a && (yle b hi && N (pc + 3) ls r (yput S p.toNat (j + 1) 0 (j : Int) s o))
          | _, _, _ => false
        | 3, 0 => match gf p.toNat j, yiv S.2.1 s o, ra p.toNat j with
          | some (lo, hi), some (a, b), [] => yle lo a && (yle b hi && (yle 0 a && (yle b 1 && N (pc + 3) ls r (yput S p.toNat (j + 1) 0 (j : Int) s o))))
          | _, _, _ => false
        | 2, 2 => match gf p.toNat j with
          | none => Nat.beq s 0 && ((ra p.toNat j).any (yqi o) && N (pc + 3) ls r (yput S p.toNat (j + 1) 0 (j : Int) s o))
          | _ => false
        | _, _ => false))))
      | _ => false
    | _, _ => false
  | .iaload => match st with
    | (0, s, o) :: (2, 0, p) :: r => match qpl p.toNat with
      | (1, 0, m, _) => yle 1 p && (yle p 142 && yel ga bv bb S 0 p.toNat m s o (fun v S => N (pc + 1) ls (v :: r) S))
      | _ => false
    | (0, s, o) :: (3, 0, 0) :: r => lw && yscr S s o (fun v S => N (pc + 1) ls (v :: r) S)
    | _ => false
  | .baload => match st with
    | (0, s, o) :: (2, 0, p) :: r => match qpl p.toNat with
      | (1, 3, m, _) => yle 1 p && (yle p 142 && yel ga bv bb S 0 p.toNat m s o (fun v S => N (pc + 1) ls (v :: r) S))
      | (1, 4, m, _) => yle 1 p && (yle p 142 && yel ga bv bb S 0 p.toNat m s o (fun v S => N (pc + 1) ls (v :: r) S))
      | _ => false
    | _ => false
  | .laload => match st with
    | (0, s, o) :: (2, 0, p) :: r => match qpl p.toNat with
      | (1, 1, m, _) => yle 1 p && (yle p 142 && yel ga bv bb S 1 p.toNat m s o (fun v S => N (pc + 1) ls (v :: r) S))
      | _ => false
    | _ => false
  | .aaload => match st with
    | (0, s, o) :: (2, 0, p) :: r => match qpl p.toNat, yiv S.2.1 s o with
      | (1, 2, m, _), some (a, b) => yle 1 p && (yle p 142 && (yle 0 a && (yle (b + 1) m && yall S s o (fun x S => yref ra bv S p.toNat x.toNat (fun v S => N (pc + 1) ls (v :: r) S)))))
      | _, _ => false
    | _ => false
  | .iastore => match st with
    | (0, vs, vo) :: (0, s, o) :: (2, 0, p) :: r => match qpl p.toNat with
      | (1, 0, m, _) => yle 1 p && (yle p 142 && yel3 ga S p.toNat m s o vs vo y32 (fun S => N (pc + 1) ls r S))
      | _ => false
    | _ => false
  | .bastore => match st with
    | (0, vs, vo) :: (0, s, o) :: (2, 0, p) :: r => match qpl p.toNat with
      | (1, 3, m, _) => yle 1 p && (yle p 142 && yel3 ga S p.toNat m s o vs vo (0, 1) (fun S => N (pc + 1) ls r S))
      | (1, 4, m, _) => yle 1 p && (yle p 142 && yel3 ga S p.toNat m s o vs vo (-128, 127) (fun S => N (pc + 1) ls r S))
      | _ => false
    | _ => false
  | .lastore => match st with
    | (1, vs, vo) :: (0, s, o) :: (2, 0, p) :: r => match qpl p.toNat with
      | (1, 1, m, _) => yle 1 p && (yle p 142 && yel3 ga S p.toNat m s o vs vo y64 (fun S => N (pc + 1) ls r S))
      | _ => false
    | _ => false
  | .aastore => match st with
    | (2, 0, v) :: (0, s, o) :: (2, 0, p) :: r => match qpl p.toNat, qpl v.toNat, yiv S.2.1 s o with
      | (1, 2, m, c), (0, ci, _, _), some (a, b) => Nat.beq c ci && (yle 1 p && (yle p 142 && (yle 1 v && (yle v 142 && (yle 0 a && (yle (b + 1) m && yall S s o (fun x S => match gf p.toNat x.toNat with
        | none => (ra p.toNat x.toNat).any (yqi v) && N (pc + 1) ls r (yput S p.toNat (x.toNat + 1) 0 x 0 v)
        | _ => false)))))))
      | _, _, _ => false
    | _ => false
  | .arraylength => match st with
    | (2, 0, p) :: r => match qpl p.toNat with
      | (1, _, m, _) => yle 1 p && (yle p 142 && N (pc + 1) ls ((0, 0, (m : Int)) :: r) S)
      | _ => false
    | (3, 0, 0) :: r => lw && N (pc + 1) ls ((0, 1, 0) :: r) S
    | _ => false
  | _ => false
end Sym
