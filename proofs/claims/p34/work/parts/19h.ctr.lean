/-! a contract out of a run over symbols -/
noncomputable def yca : List (Nat × Int × Int) → Nat → List yV
  | [], _ => []
  | c :: r, n => (bif yqi c.2.1 c.2.2 then (c.1, 0, c.2.1) else (c.1, n, 0)) :: yca r (n + 1)
noncomputable def ycb : List (Nat × Int × Int) → Nat → yB
  | [], _ => []
  | c :: r, n => (n, c.2.1, c.2.2) :: ycb r (n + 1)
noncomputable def ypos : List (Nat × Nat × Int) → Bool
  | [] => true
  | e :: l => Nat.blt 0 e.1 && ypos l
noncomputable def ymds (m : List Nat) : yM → Bool
  | [] => true
  | e :: l => (Nat.blt e.1 1000 && (ymem e.1 m || (Nat.blt 0 e.2 && ymem (1000 * e.2 + e.1) m))) && ymds m l
noncomputable def ycns (bs : yB) : List (Nat × Int) → Option (List Int)
  | [] => some []
  | a :: l => match yiv bs a.1 a.2, ycns bs l with
    | some (b, c), some r => bif yqi b c then some (b :: r) else none
    | _, _ => none
/-- a contract's end: result, changed cells, numbers, function -/
noncomputable def yck (gh : Nat → List Int → Int) (c : yC) : yK := fun S v => Nat.beq v.1 c.2.2.1.1 && ((match yiv S.2.1 v.2.1 v.2.2 with
  | some (a, b) => yle c.2.2.1.2.1 a && (yle b c.2.2.1.2.2 && (Nat.beq c.2.2.2.2.2.2.2.1 0 || (match ycns S.2.1 (yarg (yca c.2.1 2) c.2.2.2.2.2.2.2.2) with
    | some l => yqi a b && yqi a (gh c.2.2.2.2.2.2.2.1 l)
    | none => false)))
  | none => false) && (ymds c.2.2.2.1 S.2.2.2.1 && (ypre S.2.2.1 c.2.2.2.2.2.2.1 && ypos c.2.2.2.2.2.2.1)))
noncomputable def yS0 (c : yC) : yS := (2 + c.2.1.length, (1, 0, 0) :: ycb c.2.1 2, ypost [] c.2.2.2.2.2.1, [], [], [])
noncomputable def ybn (need : List Nat) (bv : Nat → Nat → Option Int) (p j : Nat) : Option Int := bif ymem p need then bv p j else none
noncomputable def ybm (need : List Nat) (bb : Nat → Option yI) (p : Nat) : Option yI := bif ymem p need then bb p else none
noncomputable def yctl : List (Nat × yC) → Nat → List yC
  | [], _ => []
  | e :: l, t => bif Nat.beq e.1 t then e.2 :: yctl l t else yctl l t
theorem yctl_ok {P : Nat → yC → Prop} : ∀ {l : List (Nat × yC)}, (∀ e ∈ l, P e.1 e.2) → ∀ t c, c ∈ yctl l t → P t c
  | [], _, _, _, h => by cases h
  | e :: l, hl, t, c, h => by
    unfold yctl at h
    by_cases k : Nat.beq e.1 t = true
    · rw [k] at h
      rcases List.mem_cons.mp h with rfl | h
      · rw [← Nat.eq_of_beq_eq_true k]; exact hl e List.mem_cons_self
      · exact yctl_ok (fun e he => hl e (List.mem_cons_of_mem _ he)) t c h
    · rw [ybf k] at h
      exact yctl_ok (fun e he => hl e (List.mem_cons_of_mem _ he)) t c h
theorem yca_sc : ∀ (l : List (Nat × Int × Int)) (n : Nat), 0 < n → ySc (n + l.length) (yca l n)
  | [], _, _ => ynil_sc
  | c :: r, n, hn => by
    have ih := yca_sc r (n + 1) (by omega)
    rw [show n + 1 + r.length = n + (c :: r).length by simp [Nat.add_comm, Nat.add_left_comm]] at ih
    refine ySc.cons ?_ ih
    have hl : (c :: r).length = r.length + 1 := rfl
    by_cases k : yqi c.2.1 c.2.2 = true
    · rw [k]; show 0 < _; omega
    · rw [ybf k]; show n < _; omega
theorem yca_map {ρ : Nat → Int} (h0 : ρ 0 = 0) : ∀ {l : List (Nat × Int × Int)} {as : List qV} {n : Nat}, yamc l as → (∀ i, i < as.length → ρ (n + i) = (as.getD i (9, 0)).2) → (yca l n).map (yc ρ) = as
  | [], [], _, _, _ => rfl
  | c :: r, v :: as, n, h, hr => by
    have h : (v.1 = c.1 ∧ c.2.1 ≤ v.2 ∧ v.2 ≤ c.2.2) ∧ yamc r as := h
    have hv : ρ n = v.2 := hr 0 (Nat.succ_pos _)
    have ih := yca_map h0 (n := n + 1) h.2 (fun i hi => by
      have := hr (i + 1) (Nat.succ_lt_succ hi)
      rw [show n + (i + 1) = n + 1 + i by omega] at this
      exact this)
    show yc ρ (bif yqi c.2.1 c.2.2 then (c.1, 0, c.2.1) else (c.1, n, 0)) :: (yca r (n + 1)).map (yc ρ) = v :: as
    rw [ih]
    congr 1
    obtain ⟨v1, v2⟩ := v
    by_cases k : yqi c.2.1 c.2.2 = true
    · rw [k]
      have k2 := yqi_i.mp k
      show (c.1, ρ 0 + c.2.1) = (v1, v2)
      have a1 : v1 = c.1 := h.1.1
      have a2 : c.2.1 ≤ v2 := h.1.2.1
      have a3 : v2 ≤ c.2.2 := h.1.2.2
      rw [h0, a1, show (0 : Int) + c.2.1 = v2 by omega]
    · rw [ybf k]
      show (c.1, ρ n + 0) = (v1, v2)
      rw [hv, Int.add_zero, ← h.1.1]
  | [], _ :: _, _, h, _ => h.elim
  | _ :: _, [], _, h, _ => h.elim
theorem ycb_ok {ρ : Nat → Int} : ∀ {l : List (Nat × Int × Int)} {as : List qV} {n : Nat}, yamc l as → (∀ i, i < as.length → ρ (n + i) = (as.getD i (9, 0)).2) → ∀ e ∈ ycb l n, e.1 < n + l.length ∧ yin e.2 (ρ e.1)
  | [], _, _, _, _, e, he => by cases he
  | c :: r, v :: as, n, h, hr, e, he => by
    have h : (v.1 = c.1 ∧ c.2.1 ≤ v.2 ∧ v.2 ≤ c.2.2) ∧ yamc r as := h
    have hv : ρ n = v.2 := hr 0 (Nat.succ_pos _)
    have hl : (c :: r).length = r.length + 1 := rfl
    rcases List.mem_cons.mp (show e ∈ (n, c.2.1, c.2.2) :: ycb r (n + 1) from he) with rfl | he
    · exact ⟨by show n < _; omega, by show yin (c.2.1, c.2.2) (ρ n); rw [hv]; exact ⟨h.1.2.1, h.1.2.2⟩⟩
    · have := ycb_ok (n := n + 1) h.2 (fun i hi => by
        have := hr (i + 1) (Nat.succ_lt_succ hi)
        rw [show n + (i + 1) = n + 1 + i by omega] at this
        exact this) e he
      exact ⟨by omega, this.2⟩
  | _ :: _, [], _, h, _, _, _ => h.elim
theorem yamc_len : ∀ {l : List (Nat × Int × Int)} {as : List qV}, yamc l as → as.length = l.length
  | [], [], _ => rfl
  | _ :: _, _ :: _, h => by
    have := yamc_len h.2
    show _ + 1 = _ + 1
    rw [this]
  | [], _ :: _, h => h.elim
  | _ :: _, [], h => h.elim
theorem ypost_in {e : Nat × Nat × Int × Nat × Int} : ∀ {l : List (Nat × Nat × Int)}, e ∈ ypost [] l → ∃ a ∈ l, e = (a.1, 0, (a.2.1 : Int), 0, a.2.2)
  | [], h => by cases h
  | a :: l, h => by
    rcases List.mem_cons.mp (show e ∈ (a.1, 0, (a.2.1 : Int), 0, a.2.2) :: ypost [] l from h) with rfl | h
    · exact ⟨a, List.mem_cons_self, rfl⟩
    · obtain ⟨b, h1, h2⟩ := ypost_in h
      exact ⟨b, List.mem_cons_of_mem _ h1, h2⟩
theorem ypos_ok {e : Nat × Nat × Int} : ∀ {l : List (Nat × Nat × Int)}, ypos l = true → e ∈ l → 0 < e.1
  | [], _, h => by cases h
  | a :: l, hp, h => by
    have hp : (Nat.blt 0 a.1 && ypos l) = true := hp
    rw [Bool.and_eq_true, Nat.blt_eq] at hp
    rcases List.mem_cons.mp h with rfl | h
    · exact hp.1
    · exact ypos_ok hp.2 h
theorem ymds_ok {m : List Nat} {p j : Nat} (hp : p < 1000 → ymo p j m = false) : ∀ {l : yM}, ymds m l = true → ymd p j l = false
  | [], _ => rfl
  | e :: l, h => by
    have h : (Nat.blt e.1 1000 && (ymem e.1 m || (Nat.blt 0 e.2 && ymem (1000 * e.2 + e.1) m)) && ymds m l) = true := h
    rw [Bool.and_eq_true, Bool.and_eq_true, Nat.blt_eq] at h
    show ((Nat.beq e.1 p && (Nat.beq e.2 0 || Nat.beq e.2 (j + 1))) || ymd p j l) = false
    rw [ymds_ok hp h.2, Bool.or_false]
    refine ybf (fun z => ?_)
    rw [Bool.and_eq_true, Bool.or_eq_true] at z
    have e1 := Nat.eq_of_beq_eq_true z.1
    have hp := hp (by omega)
    unfold ymo at hp
    rw [Bool.or_eq_false_iff] at hp
    have h2 := h.1.2
    rw [Bool.or_eq_true, Bool.and_eq_true, Nat.blt_eq] at h2
    rcases h2 with h2 | ⟨h2, h3⟩
    · rw [e1, hp.1] at h2; cases h2
    · rcases z.2 with z | z
      · have := Nat.eq_of_beq_eq_true z; omega
      · rw [Nat.eq_of_beq_eq_true z, e1, hp.2] at h3; cases h3
theorem ycns_ok {L : Nat} {xs : Nat → Int} {w0 : qW} {gf : Nat → Nat → Option yI} {ga : Nat → Option yI} {ra : Nat → Nat → List Int} {Sp : qW → Prop} {gh : Nat → List Int → Int} {ρ : Nat → Int} {S : yS} {w : qW} (g : yG L xs w0 gf ga ra Sp gh ρ S w) : ∀ {l : List (Nat × Int)} {r : List Int}, ycns S.2.1 l = some r → l.map (fun a => ρ a.1 + a.2) = r
  | [], r, h => by
    have h : some [] = some r := h
    cases h; rfl
  | a :: l, r, h => by
    have h : (match yiv S.2.1 a.1 a.2, ycns S.2.1 l with
      | some (b, c), some r => bif yqi b c then some (b :: r) else none
      | _, _ => none) = some r := h
    split at h
    · rename_i b c r1 h1 h2
      have k := yiv_ok g h1
      by_cases e : yqi b c = true
      · rw [e] at h
        have e2 := yqi_i.mp e
        have h : some (b :: r1) = some r := h
        cases h
        show (ρ a.1 + a.2) :: l.map (fun a => ρ a.1 + a.2) = b :: r1
        rw [ycns_ok g h2, show ρ a.1 + a.2 = b by omega]
      · rw [ybf e] at h; cases h
    · cases h
/-- the run tells the contract -/
theorem yctr {w0 : qW} {gf : Nat → Nat → Option yI} {ga : Nat → Option yI} {ra : Nat → Nat → List Int} {Sp : qW → Prop} {gh : Nat → List Int → Int} {bv : Nat → Nat → Option Int} {bb : Nat → Option yI} {ct : Nat → List yC} {an : Nat → Nat → Option yA} {fk : Nat → Nat → Option Nat} {t : Nat} {c : yC} {f : Nat} (hgh0 : ∀ x c, gh 1000 [x, c] = qand x c) (hbv : ∀ p j c, bv p j = some c → w0 p j = c) (hbb : ∀ p r, bb p = some r → ∀ j, yin r (w0 p j)) (hSp : ∀ w w' p, (yarr p = false → (∃ j, gf p j ≠ none) ∨ ∃ j, ra p j ≠ []) → (yarr p = true → ga p ≠ none) → (∀ q, q ≠ p → ∀ i, w' q i = w q i) → Sp w → Sp w')
    (hct : ∀ w, (∀ p, ymem p c.2.2.2.2.1 = true → ∀ j, w p j = w0 p j) → ∀ t c, c ∈ ct t → yCOK w gf ga ra Sp gh t c)
    (h : (!Nat.beq t 305 && (ypos c.2.2.2.2.2.1 && yex gf ga ra (ybn c.2.2.2.2.1 bv) (ybm c.2.2.2.2.1 bb) ct an fk f [] c.1 t 0 (yini t (yca c.2.1 2)) [] (yS0 c) (yck gh c))) = true) : yCOK w0 gf ga ra Sp gh t c := by
  intro d as w hd hm hI hn hp
  rw [Bool.and_eq_true, Bool.and_eq_true] at h
  obtain ⟨h305, hps, h⟩ := h
  have hlen := yamc_len hm
  have hρ : ∀ i, i < as.length → (fun i => if i = 0 then 0 else if i = 1 then 0 else (as.getD (i - 2) (9, 0)).2 : Nat → Int) (2 + i) = (as.getD i (9, 0)).2 := fun i hi => by
    show (if 2 + i = 0 then 0 else if 2 + i = 1 then 0 else (as.getD (2 + i - 2) (9, 0)).2) = _
    rw [if_neg (by omega), if_neg (by omega), show 2 + i - 2 = i by omega]
  generalize hρ0 : (fun i => if i = 0 then 0 else if i = 1 then 0 else (as.getD (i - 2) (9, 0)).2 : Nat → Int) = ρ at hρ
  have z0 : ρ 0 = 0 := by rw [← hρ0]; rfl
  have z1 : ρ 1 = 0 := by rw [← hρ0]; rfl
  have hmap := yca_map z0 (n := 2) hm hρ
  have hbvn : ∀ p j v, ybn c.2.2.2.2.1 bv p j = some v → w p j = v := fun p j v hv => by
    unfold ybn at hv
    by_cases e : ymem p c.2.2.2.2.1 = true
    · rw [e] at hv
      rw [hn p e j]; exact hbv p j v hv
    · rw [ybf e] at hv; cases hv
  have hbbn : ∀ p r, ybm c.2.2.2.2.1 bb p = some r → ∀ j, yin r (w p j) := fun p r hv j => by
    unfold ybm at hv
    by_cases e : ymem p c.2.2.2.2.1 = true
    · rw [e] at hv
      rw [hn p e j]; exact hbb p r hv j
    · rw [ybf e] at hv; cases hv
  have g0 : yG 0 (fun _ => 0) w gf ga ra Sp gh ρ (yS0 c) w := by
    refine ⟨⟨z0, by show 1 < 2 + _; omega, z1⟩, fun e he => ?_, fun e he => ?_, fun _ _ _ => rfl, hI, fun e he => (by cases he), fun e he => (by cases he)⟩
    · rcases List.mem_cons.mp (show e ∈ (1, 0, 0) :: ycb c.2.1 2 from he) with rfl | he
      · exact ⟨by show 1 < 2 + _; omega, by show yin (0, 0) (ρ 1); rw [z1]; exact ⟨Int.le_refl 0, Int.le_refl 0⟩⟩
      · exact ycb_ok hm hρ e he
    · obtain ⟨a, ha, rfl⟩ := ypost_in (show e ∈ ypost [] c.2.2.2.2.2.1 from he)
      refine ⟨by show 0 < 2 + _; omega, by show 0 < 2 + _; omega, ?_⟩
      have hpa := ypos_ok hps ha
      show yrd _ w a.1 (ρ 0 + (a.2.1 : Int)).toNat = ρ 0 + a.2.2
      rw [z0, Int.zero_add, Int.zero_add, Int.toNat_natCast, yrd_ne hpa, hp a ha hpa]
  have hsc : ySc (yS0 c).1 (yca c.2.1 2) := yca_sc c.2.1 2 (by decide)
  have run := yex_ok (L := 0) (xs := fun _ => 0) (w0 := w) (bv := ybn c.2.2.2.2.1 bv) (bb := ybm c.2.2.2.2.1 bb) (hct w hn) hgh0 hbvn hbbn (fun j => ⟨by show (-2147483648 : Int) ≤ 0; decide, by show (0 : Int) ≤ 2147483647; decide⟩) hSp f [] c.1 d t 0 (yini t (yca c.2.1 2)) [] (yS0 c) (yck gh c) ρ w
    (fun v w' n' => (v.1 = c.2.2.1.1 ∧ yin c.2.2.1.2 v.2) ∧ yInv gf ga ra Sp w' ∧ n' = 142 ∧ (∀ p j, (p < 1000 → ymo p j c.2.2.2.1 = false) → w' p j = w p j) ∧ (∀ e ∈ c.2.2.2.2.2.2.1, 0 < e.1 ∧ w' e.1 e.2.1 = e.2.2) ∧ (Nat.beq c.2.2.2.2.2.2.2.1 0 = false → v.2 = gh c.2.2.2.2.2.2.2.1 (c.2.2.2.2.2.2.2.2.map (fun i => (qnt as i).2))))
    hd h g0 (yini_sc (by show 0 < 2 + _; omega) hsc) ynil_sc (fun ρ' S' v w' q1 q2 q3 q4 q5 => ?_) (fun c hc => by cases hc)
  · rw [qsc_n h305, ← qini_map z0, hmap] at run
    exact run
  · unfold yck at q5
    rw [Bool.and_eq_true, Bool.and_eq_true, Bool.and_eq_true, Bool.and_eq_true] at q5
    obtain ⟨r1, r2, r3, r4, r5⟩ := q5
    split at r2
    · rename_i a b hq
      have k := yiv_ok q3 hq
      rw [Bool.and_eq_true, Bool.and_eq_true, yle_i, yle_i] at r2
      obtain ⟨s1, s2, s3⟩ := r2
      refine ⟨⟨Nat.eq_of_beq_eq_true r1, by show _ ≤ ρ' v.2.1 + v.2.2; omega, by show ρ' v.2.1 + v.2.2 ≤ _; omega⟩, q3.2.2.2.2.1, rfl, fun p j hp9 => q3.2.2.2.1 p j (ymds_ok hp9 r3), fun e he => ⟨ypos_ok r5 he, ypre_ok q3 r4 e he (ypos_ok r5 he)⟩, fun hg => ?_⟩
      rw [hg, Bool.false_or] at s3
      split at s3
      · rename_i l hl
        rw [Bool.and_eq_true, yqi_i, yqi_i] at s3
        have e1 := ycns_ok q3 hl
        have e2 : (yca c.2.1 2).map (yc ρ') = as := by rw [ym_ag q1 hsc]; exact hmap
        have e3 := yarg_map (ρ := ρ') q3.1.1 (as := yca c.2.1 2) c.2.2.2.2.2.2.2.2
        rw [e2, e1] at e3
        rw [← e3]
        show ρ' v.2.1 + v.2.2 = _
        omega
      · cases s3
    · cases r2
