/-! the reference's poses on a fresh pair -/
def en : Nat → Nat → Nat → List Nat
  | 0, 0, b => [b]
  | 0, _ + 1, _ => []
  | m + 1, 0, b => en m 0 b
  | m + 1, k + 1, b => en m (k + 1) b ++ en m k (b + 2 ^ m)
theorem en_ok : ∀ (m k b : Nat), ((List.range (2 ^ m)).filter (fun n => Nat.beq (pc n m) k)).map (fun n => b + n) = en m k b
  | 0, 0, b => rfl
  | 0, k + 1, b => rfl
  | m + 1, k, b => by
    have e : (List.range (2 ^ (m + 1))).filter (fun n => Nat.beq (pc n (m + 1)) k) = (List.range (2 ^ m)).filter (fun n => Nat.beq (pc n m) k) ++ ((List.range (2 ^ m)).map (fun x => 2 ^ m + x)).filter (fun n => Nat.beq (pc n (m + 1)) k) := by
      rw [show 2 ^ (m + 1) = 2 ^ m + 2 ^ m by rw [Nat.pow_succ]; omega, List.range_add, List.filter_append]
      congr 1
      exact List.filter_congr (fun n hn => by rw [pc_lo (List.mem_range.mp hn)])
    rw [e, List.map_append, en_ok m k b, List.filter_map, List.map_map]
    cases k with
    | zero =>
      have : (List.range (2 ^ m)).filter ((fun n => Nat.beq (pc n (m + 1)) 0) ∘ (fun x => 2 ^ m + x)) = [] := by
        rw [List.filter_eq_nil_iff]
        intro n hn h
        have h : Nat.beq (pc (2 ^ m + n) (m + 1)) 0 = true := h
        rw [pc_hi (List.mem_range.mp hn)] at h; cases h
      rw [this, List.map_nil, List.append_nil]; rfl
    | succ k =>
      show en m (k + 1) b ++ _ = en m (k + 1) b ++ en m k (b + 2 ^ m)
      rw [← en_ok m k (b + 2 ^ m)]
      congr 1
      rw [show (List.range (2 ^ m)).filter ((fun n => Nat.beq (pc n (m + 1)) (k + 1)) ∘ (fun x => 2 ^ m + x)) = (List.range (2 ^ m)).filter (fun n => Nat.beq (pc n m) k) from List.filter_congr (fun n hn => by show Nat.beq (pc (2 ^ m + n) (m + 1)) (k + 1) = _; rw [pc_hi (List.mem_range.mp hn)]; rfl)]
      exact List.map_congr_left (fun n _ => by show b + (2 ^ m + n) = b + 2 ^ m + n; omega)
theorem en_16 (k : Nat) : (List.range 65536).filter (fun n => Nat.beq (pc n 16) k) = en 16 k 0 := by
  have := en_ok 16 k 0
  rw [← this, show (fun n : Nat => 0 + n) = id from funext fun n => Nat.zero_add n, List.map_id]
/-- neighbours as a mask -/
def nbm (s : Nat) : Nat → Nat
  | 0 => 0
  | t + 1 => bif nbB s t then nbm s t ||| 2 ^ t else nbm s t
def nbk : List Nat := (List.range 16).map (fun s => nbm s 16)
def hgTn (v s m : Nat) : Nat := bif m.testBit s then m ||| (v &&& nbm s 16) else m
def hgSn (v : Nat) : Nat → Nat → Nat
  | 0, m => m
  | s + 1, m => hgTn v s (hgSn v s m)
def hgLn (v : Nat) : Nat → Nat
  | 0 => 0
  | s + 1 => if hgLn v s = 0 then (bif v.testBit s then 2 ^ s else 0) else hgLn v s
def hgFn (v : Nat) : Nat → Nat → Nat
  | 0, m => m
  | n + 1, m => if hgSn v 16 m = m then m else hgFn v n (hgSn v 16 m)
def hgRn (v : Nat) : Nat := if hgLn v 16 = 0 then 0 else hgFn v 65536 (hgLn v 16)
theorem hbit_n {m s : Nat} (hm : m < 65536) (hs : s < 16) : hbit (m : Int) s = m.testBit s := by
  unfold hbit
  rw [hb_bit hm hs]
  cases m.testBit s <;> rfl
theorem or_lt {a b : Nat} (ha : a < 65536) (hb : b < 65536) : a ||| b < 65536 := Nat.or_lt_two_pow (n := 16) ha hb
theorem and_lt {a b : Nat} (ha : a < 65536) : a &&& b < 65536 := Nat.lt_of_le_of_lt Nat.and_le_left ha
theorem hgT_m {v s m : Nat} (hv : v < 65536) (hm : m < 65536) (hs : s < 16) : ∀ t, t ≤ 16 → hgT nbB (v : Int) s t (m : Int) = (((bif m.testBit s then m ||| (v &&& nbm s t) else m) : Nat) : Int)
  | 0, _ => by
    show (m : Int) = _
    cases m.testBit s
    · rfl
    · show (m : Int) = ((m ||| (v &&& 0) : Nat) : Int)
      rw [Nat.and_zero, Nat.or_zero]
  | t + 1, ht => by
    have ih := hgT_m hv hm hs t (by omega)
    show (bif hbit (hgT nbB (v : Int) s t (m : Int)) s && (hbit (v : Int) t && nbB s t) then qor (hgT nbB (v : Int) s t (m : Int)) (qshl 1 (t : Int)) else hgT nbB (v : Int) s t (m : Int)) = _
    rw [ih]
    cases hb : m.testBit s
    · rw [cond_false, cond_false, hbit_n hm hs, hb]; rfl
    · rw [cond_true, cond_true]
      have hlt : m ||| (v &&& nbm s t) < 65536 := or_lt hm (and_lt hv)
      rw [hbit_n hlt hs, Nat.testBit_or, hb, Bool.true_or, Bool.true_and, hbit_n hv (by omega)]
      show (bif v.testBit t && nbB s t then qor ((m ||| (v &&& nbm s t) : Nat) : Int) (qshl 1 (t : Int)) else ((m ||| (v &&& nbm s t) : Nat) : Int)) = ((m ||| (v &&& (bif nbB s t then nbm s t ||| 2 ^ t else nbm s t)) : Nat) : Int)
      cases hn : nbB s t
      · rw [Bool.and_false]; rfl
      · rw [Bool.and_true, cond_true]
        cases hvt : v.testBit t
        · show ((m ||| (v &&& nbm s t) : Nat) : Int) = ((m ||| (v &&& (nbm s t ||| 2 ^ t)) : Nat) : Int)
          congr 2
          apply Nat.eq_of_testBit_eq
          intro i
          rw [Nat.testBit_and, Nat.testBit_and, Nat.testBit_or, Nat.testBit_two_pow]
          by_cases e : t = i
          · subst e; rw [hvt, Bool.false_and, Bool.false_and]
          · rw [decide_eq_false e, Bool.or_false]
        · obtain ⟨e1, e2⟩ := q2p t (by omega)
          rw [cond_true, e1, qor_n (by omega) (by omega)]
          congr 1
          apply Nat.eq_of_testBit_eq
          intro i
          rw [Nat.testBit_or, Nat.testBit_or, Nat.testBit_or, Nat.testBit_and, Nat.testBit_and, Nat.testBit_or, Nat.testBit_two_pow]
          by_cases e : t = i
          · subst e; rw [hvt, decide_eq_true rfl, Bool.or_true, Bool.or_true, Bool.true_and, Bool.or_true]
          · rw [decide_eq_false e, Bool.or_false, Bool.or_false]
theorem hgTn_lt {v s m : Nat} (hv : v < 65536) (hm : m < 65536) : hgTn v s m < 65536 := by
  unfold hgTn
  cases m.testBit s
  · exact hm
  · exact or_lt hm (and_lt hv)
theorem hgS_m {v m : Nat} (hv : v < 65536) (hm : m < 65536) : ∀ s, s ≤ 16 → hgS nbB (v : Int) s (m : Int) = ((hgSn v s m : Nat) : Int) ∧ hgSn v s m < 65536
  | 0, _ => ⟨rfl, hm⟩
  | s + 1, hs => by
    have ih := hgS_m hv hm s (by omega)
    refine ⟨?_, hgTn_lt hv ih.2⟩
    show hgT nbB (v : Int) s 16 (hgS nbB (v : Int) s (m : Int)) = _
    rw [ih.1, hgT_m hv ih.2 (by omega) 16 (Nat.le_refl _)]; rfl
theorem hgL_m {v : Nat} (hv : v < 65536) : ∀ s, s ≤ 16 → hgL (v : Int) s = ((hgLn v s : Nat) : Int) ∧ hgLn v s < 65536
  | 0, _ => ⟨rfl, by show 0 < 65536; omega⟩
  | s + 1, hs => by
    have ih := hgL_m hv s (by omega)
    obtain ⟨e1, e2⟩ := q2p s (by omega)
    constructor
    · show (if hgL (v : Int) s = 0 then (bif hbit (v : Int) s then qshl 1 (s : Int) else 0) else hgL (v : Int) s) = (((if hgLn v s = 0 then (bif v.testBit s then 2 ^ s else 0) else hgLn v s) : Nat) : Int)
      rw [ih.1, hbit_n hv (by omega), e1]
      by_cases z : hgLn v s = 0
      · rw [if_pos z, if_pos (by omega)]
        cases v.testBit s <;> rfl
      · rw [if_neg z, if_neg (by omega)]
    · show (if hgLn v s = 0 then (bif v.testBit s then 2 ^ s else 0) else hgLn v s) < 65536
      split
      · cases v.testBit s
        · show 0 < 65536; omega
        · show 2 ^ s < 65536; omega
      · exact ih.2
theorem hgF_m {v : Nat} (hv : v < 65536) : ∀ (n m : Nat), m < 65536 → hgF nbB (v : Int) n (m : Int) = ((hgFn v n m : Nat) : Int)
  | 0, _, _ => rfl
  | n + 1, m, hm => by
    have k := hgS_m hv hm 16 (Nat.le_refl _)
    show (if hgS nbB (v : Int) 16 (m : Int) = (m : Int) then (m : Int) else hgF nbB (v : Int) n (hgS nbB (v : Int) 16 (m : Int))) = (((if hgSn v 16 m = m then m else hgFn v n (hgSn v 16 m)) : Nat) : Int)
    rw [k.1, hgF_m hv n _ k.2]
    by_cases z : hgSn v 16 m = m
    · rw [if_pos z, if_pos (by omega)]
    · rw [if_neg z, if_neg (by omega)]
theorem hgR_m {v : Nat} (hv : v < 65536) : hgR nbB (v : Int) = ((hgRn v : Nat) : Int) := by
  have k := hgL_m hv 16 (Nat.le_refl _)
  have key : ∀ N : Nat, (if hgL (v : Int) 16 = 0 then 0 else hgF nbB (v : Int) N (hgL (v : Int) 16)) = (((if hgLn v 16 = 0 then 0 else hgFn v N (hgLn v 16)) : Nat) : Int) := fun N => by
    rw [k.1, hgF_m hv N _ k.2]
    by_cases z : hgLn v 16 = 0
    · rw [if_pos z, if_pos (by omega)]; rfl
    · rw [if_neg z, if_neg (by omega)]
  exact key 65536
def hgok (v : Nat) : Bool := Nat.beq (hgRn v) v
def zF2 (w : qW) : Prop := (∀ j, w 96 j = 0) ∧ ∀ j, w 99 j = 0
theorem pas_fresh {w : qW} (hF : zF2 w) (c : Nat) : pasB w c = nbB := funext fun s => funext fun t => by
  unfold pasB
  rw [hF.2]
  have : qand (qshr 0 (t : Int)) 1 = 0 := by
    unfold qand qshr
    rw [show (Int32.ofInt 0 >>> (Int32.ofInt (t : Int) &&& 31)) = 0 from Int32.zero_shiftRight]; rfl
  rw [decide_eq_true this, Bool.and_true]
theorem fpd_fresh {w : qW} (hF : zF2 w) (c k s : Nat) (hs : s < 65536) : fpd w c k s = (hgok s && Nat.beq (pc s 16) k) := by
  unfold fpd hgok
  rw [pas_fresh hF c, hF.1, hgR_m hs, bitsF_pc hs 16 (Nat.le_refl _)]
  have h0 : qand (s : Int) 0 = 0 := by
    rw [qand_c]
    have := qand_n (a := 0) (b := s) (by omega) (by omega)
    rw [Nat.zero_and] at this
    exact this
  generalize hgRn s = z
  generalize pc s 16 = y
  have e1 : decide (((z : Nat) : Int) = (s : Int)) = Nat.beq z s := by
    by_cases q : z = s
    · rw [decide_eq_true (by omega), q, Nat.beq_refl]
    · rw [decide_eq_false (by omega), ybf (fun x => q (Nat.eq_of_beq_eq_true x))]
  have e2 : decide (((y : Nat) : Int) = (k : Int)) = Nat.beq y k := by
    by_cases q : y = k
    · rw [decide_eq_true (by omega), q, Nat.beq_refl]
    · rw [decide_eq_false (by omega), ybf (fun x => q (Nat.eq_of_beq_eq_true x))]
  rw [decide_eq_true h0, e1, e2, Bool.true_and, Bool.and_comm]
theorem fpL_gen {w : qW} (hF : zF2 w) (c k N : Nat) (hN : N ≤ 65536) : (List.range N).filter (fpd w c k) = ((List.range N).filter (fun n => Nat.beq (pc n 16) k)).filter hgok := by
  rw [List.filter_filter]
  exact List.filter_congr (fun s hs => fpd_fresh hF c k s (Nat.lt_of_lt_of_le (List.mem_range.mp hs) hN))
theorem fpL_fresh {w : qW} (hF : zF2 w) (c k : Nat) : fpL w c k 65536 = (en 16 k 0).filter hgok :=
  Eq.trans (fpL_gen hF c k 65536 (Nat.le_refl _)) (congrArg (List.filter hgok) (en_16 k))
def cntP (k : Nat) : Nat := match k with
  | 1 => 16
  | 2 => 28
  | 3 => 72
  | _ => 180
theorem en_1 : ((en 16 1 0).filter hgok).length = 16 ∧ ((en 16 1 0).filter hgok).getD 0 0 = 1 := by decide +kernel
theorem en_2 : ((en 16 2 0).filter hgok).length = 28 ∧ ((en 16 2 0).filter hgok).getD 0 0 = 3 := by decide +kernel
theorem en_3 : ((en 16 3 0).filter hgok).length = 72 ∧ ((en 16 3 0).filter hgok).getD 0 0 = 7 := by decide +kernel
theorem en_4 : ((en 16 4 0).filter hgok).length = 180 ∧ ((en 16 4 0).filter hgok).getD 0 0 = 15 := by decide +kernel
