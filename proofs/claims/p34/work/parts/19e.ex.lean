/-! the run over symbols: calls, loops -/
noncomputable abbrev yK : Type := yS → yV → Bool
noncomputable abbrev yHv : Type := List (Option (Nat × Int × Int))
/-- a loop that is open: head, symbols before it, what varies, locals, stack, facts, cells, measure -/
noncomputable abbrev yLC : Type := Nat × Nat × yHv × List yV × List yV × yH × yM × List (Nat × Int)
/-- a contract: depth, arguments, result, cells that it may change (a slot j of p: 1000 (j + 1) + p), cells that must be as at first, numbers that must be, numbers that are then, the function that the result is (0: none) and its arguments' places -/
noncomputable abbrev yC : Type := Nat × List (Nat × Int × Int) × (Nat × Int × Int) × List Nat × List Nat × List (Nat × Nat × Int) × List (Nat × Nat × Int) × Nat × List Nat
/-- a loop's note: what varies, cells that may change, measure -/
noncomputable abbrev yA : Type := yHv × List Nat × List (Nat × Int)
noncomputable abbrev yXt : Type := List yLC → Nat → Nat → Nat → List yV → List yV → yS → yK → Bool
noncomputable def ytk : Nat → List yV → List yV → List yV
  | 0, _, acc => acc
  | m + 1, a :: l, acc => ytk m l (a :: acc)
  | _ + 1, [], acc => acc
noncomputable def ydr : Nat → List yV → List yV
  | 0, l => l
  | m + 1, _ :: l => ydr m l
  | _ + 1, [] => []
noncomputable def ycat (l : List yV) : Nat := match l with
  | [] => 0
  | a :: r => bif Nat.beq a.1 1 then 2 + ycat r else 1 + ycat r
noncomputable def ylay : List yV → List yV
  | [] => []
  | a :: r => bif Nat.beq a.1 1 then a :: (9, 0, 0) :: ylay r else a :: ylay r
noncomputable def ypad : Nat → List yV → List yV
  | 0, _ => []
  | m + 1, [] => (9, 0, 0) :: ypad m []
  | m + 1, a :: l => a :: ypad m l
noncomputable def yini (t : Nat) (as : List yV) : List yV := ypad (qml t) (ylay as)
noncomputable def ypsh (v : yV) (st : List yV) : List yV := bif Nat.beq v.1 9 then st else v :: st
noncomputable def yall1 : List yV → Bool
  | [] => true
  | v :: r => (Nat.blt v.1 3 || (Nat.beq v.1 3 && (Nat.beq v.2.1 0 && yle 1 v.2.2))) && yall1 r
noncomputable def yaok (t sk : Nat) (as : List yV) : Bool := yall1 as && (match sk, as with
  | 0, _ => true
  | _, (2, 0, p) :: _ => match qpl p.toNat with
    | (0, c, _, _) => Nat.beq c (qow t) && (yle 1 p && yle p 142)
    | _ => false
  | _, _ => false)
noncomputable def ycok (t na sk md : Nat) (st : List yV) : Bool := Nat.ble na st.length && (Nat.ble (ycat (ydr na st)) 8 && (yaok t sk (ytk na st []) && (Nat.ble (ylay (ytk na st [])).length (qml t) && qmok md sk t)))
/-- arguments within a contract's -/
noncomputable def yam (bs : yB) : List (Nat × Int × Int) → List yV → Bool
  | [], [] => true
  | c :: r, v :: l => Nat.beq c.1 v.1 && ((match yiv bs v.2.1 v.2.2 with
    | some (a, b) => yle c.2.1 a && yle b c.2.2
    | none => false) && yam bs r l)
  | _, _ => false
noncomputable def ynone (md : yM) : List Nat → Bool
  | [] => true
  | p :: l => ycln p md && ynone md l
noncomputable def ypre (hf : yH) : List (Nat × Nat × Int) → Bool
  | [] => true
  | e :: l => (match yfl hf e.1 0 (e.2.1 : Int) with
    | some (s, o) => Nat.beq s 0 && yqi o e.2.2
    | none => false) && ypre hf l
noncomputable def ypost (hf : yH) : List (Nat × Nat × Int) → yH
  | [] => hf
  | e :: l => (e.1, 0, (e.2.1 : Int), 0, e.2.2) :: ypost hf l
noncomputable def yfind (S : yS) (d : Nat) (as : List yV) : List yC → Option yC
  | [] => none
  | c :: r => bif Nat.ble c.1 d && (yam S.2.1 c.2.1 as && (ynone S.2.2.2.1 c.2.2.2.2.1 && ypre S.2.2.1 c.2.2.2.2.2.1)) then some c else yfind S d as r
/-- facts of cells that may change go -/
noncomputable def ymo (p j : Nat) (m : List Nat) : Bool := ymem p m || ymem (1000 * (j + 1) + p) m
noncomputable def yany (p : Nat) : List Nat → Bool
  | [] => false
  | c :: m => Nat.beq (c % 1000) p || yany p m
noncomputable def yforg (m : List Nat) : yH → yH
  | [] => []
  | e :: r => bif (bif Nat.beq e.2.1 0 then ymo e.1 e.2.2.1.toNat m else (ymem e.1 m || yany e.1 m)) then yforg m r else e :: yforg m r
noncomputable def yapp : List Nat → yM → yM
  | [], l => l
  | c :: m, l => bif Nat.blt c 1000 then (bif ymp c 0 l then yapp m l else (c, 0) :: yapp m l) else (bif ymp (c % 1000) (c / 1000) l then yapp m l else (c % 1000, c / 1000) :: yapp m l)
noncomputable def yhav (S : yS) (m : List Nat) : yS := (S.1, S.2.1, yforg m S.2.2.1, yapp m S.2.2.2.1, S.2.2.2.2)
noncomputable def yhav2 (S : yS) (m : List Nat) (q : List (Nat × Nat × Int)) : yS := (S.1, S.2.1, ypost (yforg m S.2.2.1) q, yapp m S.2.2.2.1, S.2.2.2.2)
/-- what varies, as far as the kinds are so now -/
noncomputable def yhs : yHv → List yV → yHv
  | some b :: h, v :: l => (bif Nat.beq b.1 v.1 then some b else none) :: yhs h l
  | none :: h, _ :: l => none :: yhs h l
  | _, _ => []
noncomputable def yhv : yHv → Nat → List yV → List yV
  | some b :: h, n, _ :: l => (b.1, n, 0) :: yhv h (n + 1) l
  | none :: h, n, a :: l => a :: yhv h n l
  | [], _, l => l
  | _ :: _, _, [] => []
noncomputable def yhb : yHv → Nat → List yV → yB → yB
  | some b :: h, n, _ :: l, bs => yhb h (n + 1) l ((n, b.2) :: bs)
  | none :: h, n, _ :: l, bs => yhb h n l bs
  | _, _, _, bs => bs
noncomputable def yhx : yHv → Nat → List yV → Nat
  | some _ :: h, n, _ :: l => yhx h (n + 1) l
  | none :: h, n, _ :: l => yhx h n l
  | _, n, _ => n
noncomputable def yve (a v : yV) : Bool := Nat.beq a.1 v.1 && (Nat.beq a.2.1 v.2.1 && yqi a.2.2 v.2.2)
noncomputable def yvl : List yV → List yV → Bool
  | [], [] => true
  | a :: l, v :: m => yve a v && yvl l m
  | _, _ => false
noncomputable def yac (bs : yB) : yHv → List yV → List yV → Bool
  | some b :: h, _ :: l, v :: m => Nat.beq b.1 v.1 && ((match yiv bs v.2.1 v.2.2 with
    | some (c, d) => yle b.2.1 c && yle d b.2.2
    | none => false) && yac bs h l m)
  | none :: h, a :: l, v :: m => yve a v && yac bs h l m
  | [], l, m => yvl l m
  | _ :: _, [], [] => true
  | _, _, _ => false
noncomputable def yhas (hf : yH) : yH → Bool
  | [] => true
  | e :: r => (match yfl hf e.1 e.2.1 e.2.2.1 with
    | some (s, o) => Nat.beq s e.2.2.2.1 && yqi o e.2.2.2.2
    | none => false) && yhas hf r
/-- each place of the second is one of the first -/
noncomputable def ysub2 (md : yM) : yM → Bool
  | [] => true
  | e :: l => (ymp e.1 0 md || ymp e.1 e.2 md) && ysub2 md l
noncomputable def ydm (bs : yB) (l0 l1 : List yV) : List (Nat × Int) → Option Int
  | [] => some 0
  | e :: r => match ydm bs l0 l1 r with
    | none => none
    | some u => bif Nat.beq (ynt l0 e.1).2.1 (ynt l1 e.1).2.1 then some (u + e.2 * ((ynt l1 e.1).2.2 - (ynt l0 e.1).2.2)) else match yiv bs (ynt l1 e.1).2.1 (ynt l1 e.1).2.2, yiv bs (ynt l0 e.1).2.1 (ynt l0 e.1).2.2 with
      | some (a, b), some (c, d) => some (u + (bif yle 0 e.2 then e.2 * (b - c) else e.2 * (a - d)))
      | _, _ => none
/-- the state is one of an open loop's, with a lesser measure -/
noncomputable def ychk (pc : Nat) (ls st : List yV) (S : yS) (c : yLC) : Bool := Nat.beq c.1 pc && (yac S.2.1 c.2.2.1 c.2.2.2.1 ls && (yvl c.2.2.2.2.1 st && (yhas S.2.2.1 c.2.2.2.2.2.1 && (ysub2 c.2.2.2.2.2.2.1 S.2.2.2.1 && (match ydm S.2.1 c.2.2.2.1 ls c.2.2.2.2.2.2.2 with
  | some u => yle u (-1)
  | none => false)))))
noncomputable def ykin : List yV → List yV → Bool
  | [], [] => true
  | a :: l, b :: m => Nat.beq a.1 b.1 && ykin l m
  | _, _ => false
noncomputable def yarg (as : List yV) : List Nat → List (Nat × Int)
  | [] => []
  | i :: l => (ynt as i).2 :: yarg as l
section Ex
variable (gf : Nat → Nat → Option yI) (ga : Nat → Option yI) (ra : Nat → Nat → List Int) (bv : Nat → Nat → Option Int) (bb : Nat → Option yI) (ct : Nat → List yC) (an : Nat → Nat → Option yA) (fk : Nat → Nat → Option Nat)
/-- Math.abs, max, min -/
noncomputable def ymth (t pc : Nat) (ls st : List yV) (S : yS) (N : yN) : Bool := match t, st with
  | 902, (0, s, o) :: r => ylt S s o 0 0 (fun S => yneg S s o (fun v S => N (pc + 3) ls (v :: r) S)) (fun S => N (pc + 3) ls ((0, s, o) :: r) S)
  | 903, (0, s2, o2) :: (0, s1, o1) :: r => ylt S s1 o1 s2 o2 (fun S => N (pc + 3) ls ((0, s2, o2) :: r) S) (fun S => N (pc + 3) ls ((0, s1, o1) :: r) S)
  | 904, (0, s2, o2) :: (0, s1, o1) :: r => ylt S s2 o2 s1 o1 (fun S => N (pc + 3) ls ((0, s2, o2) :: r) S) (fun S => N (pc + 3) ls ((0, s1, o1) :: r) S)
  | 905, (1, s2, o2) :: (1, s1, o1) :: r => ylt S s2 o2 s1 o1 (fun S => N (pc + 3) ls ((1, s1, o1) :: r) S) (fun S => N (pc + 3) ls ((1, s2, o2) :: r) S)
  | 906, (3, 0, x) :: r => match qtxb x with
    | some l => N (pc + 3) ls ((0, 0, (l.length : Int)) :: r) S
    | none => false
  | 907, (0, s, o) :: (3, 0, x) :: r => match qtxb x, yiv S.2.1 s o with
    | some l, some (a, b) => yle 0 a && (yle (b + 1) (l.length : Int) && (bif yqi a b then N (pc + 3) ls ((0, 0, l.getD a.toNat 0) :: r) S else ynum 0 S (0, 127) (fun v S => N (pc + 3) ls (v :: r) S)))
    | _, _ => false
  | 908, (0, _, _) :: (3, 0, x) :: r => match qtxb x with
    | some l => ynum 0 S (-1, (l.length : Int)) (fun v S => N (pc + 3) ls (v :: r) S)
    | none => false
  | _, _ => false
noncomputable def ycpy (pc : Nat) (ls st : List yV) (S : yS) (N : yN) : Bool := match st with
  | (0, ms, mo) :: (0, ds, d) :: (2, 0, b) :: (0, ss, s) :: (2, 0, a) :: r => match qpl a.toNat, qpl b.toNat, yiv S.2.1 ms mo, ga a.toNat, ga b.toNat with
    | (1, 0, la, _), (1, 0, lb, _), some (m1, m2), some (x1, x2), some (y1, y2) => Nat.beq ds 0 && (Nat.beq ss 0 && (yle 0 m1 && (yle 0 d && (yle 0 s && (yle (s + m2) la && (yle (d + m2) lb && (yle 1 a && (yle a 142 && (yle 1 b && (yle b 142 && (yle y1 x1 && (yle x2 y2 && N (pc + 3) ls r (yhav S [b.toNat])))))))))))))
    | _, _, _, _, _ => false
  | _ => false
noncomputable def ycall (X : yXt) (ctx : List yLC) (d k t na sk md pc : Nat) (ls st : List yV) (S : yS) (K : yK) : Bool := match d with
  | 0 => false
  | d' + 1 => ycok t na sk md st && (!Nat.beq t 305 && (match yfind S d' (ytk na st []) (ct t) with
    | some c => bif Nat.beq c.2.2.1.1 9 then X ctx (d' + 1) k (pc + 3) ls (ydr na st) (yhav2 S c.2.2.2.1 c.2.2.2.2.2.2.1) K else (Nat.beq c.2.2.1.1 0 && ygho (yhav2 S c.2.2.2.1 c.2.2.2.2.2.2.1) c.2.2.2.2.2.2.2.1 (yarg (ytk na st []) c.2.2.2.2.2.2.2.2) c.2.2.1.2 (fun v S => X ctx (d' + 1) k (pc + 3) ls (v :: ydr na st) S K))
    | none => X [] d' t 0 (yini t (ytk na st [])) [] S (fun S v => X ctx (d' + 1) k (pc + 3) ls (ypsh v (ydr na st)) S K)))
noncomputable def yinv (X : yXt) (ctx : List yLC) (d k i md pc : Nat) (ls st : List yV) (S : yS) (K : yK) : Bool := match qmd (qow k) i with
  | some (t, na, sk) => bif Nat.ble 900 t then (bif Nat.beq t 901 then Nat.beq md 0 && (Nat.ble 1 d && (Nat.ble (ycat (ydr 5 st)) 8 && ycpy ga pc ls st S (fun pc ls st S => X ctx d k pc ls st S K))) else Nat.ble 902 t && (qmm t md d && (Nat.ble (ycat (ydr na st)) 8 && ymth t pc ls st S (fun pc ls st S => X ctx d k pc ls st S K)))) else ycall ct X ctx d k t na sk md pc ls st S K
  | none => false
noncomputable def yi (X : yXt) (ctx : List yLC) (d k pc : Nat) (ls st : List yV) (S : yS) (K : yK) : Bool := match qcd k pc with
  | none => false
  | some (ins, _) => match ins with
    | .ireturn => match st with
      | [(0, s, o)] => bif Nat.beq (qrt k) 1 then K S (0, s, o) else (Nat.beq (qrt k) 2 && (match yiv S.2.1 s o with
        | some (a, b) => yle 0 a && (yle b 1 && K S (0, s, o))
        | none => false))
      | _ => false
    | .return_ => match st with
      | [] => Nat.beq (qrt k) 0 && K S (9, 0, 0)
      | _ => false
    | .invokestatic i => yinv ga ct X ctx d k i 0 pc ls st S K
    | .invokevirtual i => yinv ga ct X ctx d k i 1 pc ls st S K
    | .invokespecial i => yinv ga ct X ctx d k i 2 pc ls st S K
    | i => yas gf ga ra bv bb (Nat.beq k 305) k i pc ls st S (fun pc ls st S => X ctx d k pc ls st S K)
noncomputable def yex : Nat → yXt
  | 0 => fun _ _ _ _ _ _ _ _ => false
  | f + 1 => fun ctx d k pc ls st S K => bif ctx.any (ychk pc ls st S) then true else match an k pc with
    | some a => bif ctx.any (fun c => Nat.beq c.1 pc && ykin c.2.2.2.1 ls) then false else
        (yac S.2.1 (yhs a.1 ls) ls ls && yi gf ga ra bv bb ct (yex f) ((pc, S.1, yhs a.1 ls, yhv (yhs a.1 ls) S.1 ls, st, yforg a.2.1 S.2.2.1, yapp a.2.1 S.2.2.2.1, a.2.2) :: ctx.filter (fun c => Nat.ble c.1 pc)) d k pc (yhv (yhs a.1 ls) S.1 ls) st
          (yhx (yhs a.1 ls) S.1 ls, yhb (yhs a.1 ls) S.1 ls S.2.1, yforg a.2.1 S.2.2.1, yapp a.2.1 S.2.2.2.1, S.2.2.2.2) K)
    | none => match fk k pc with
      | some i => yall S (ynt ls i).2.1 (ynt ls i).2.2 (fun _ S => yi gf ga ra bv bb ct (yex f) ctx d k pc ls st S K)
      | none => yi gf ga ra bv bb ct (yex f) ctx d k pc ls st S K
end Ex
