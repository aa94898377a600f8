/-! the run over symbols is right: calls, loops -/
theorem qG.retl {sc : Option (Nat × (Nat → Int))} {d k pc n len : Nat} {ls : List qV} {w : qW} {Q : qV → qW → Nat → Prop} {x : Int} (h : qcd k pc = some (.ireturn, len)) (hok : qrok (qrt k) (0, x) = true) (hq : Q (0, x) w n) : qG sc d k pc ls [(0, x)] w n Q := by
  refine ⟨1, (0, x), w, n, ?_, hq⟩
  rw [qex_s, h]
  show (if qrok (qrt k) (0, x) = true then some ((0, x), w, n) else none) = _
  rw [if_pos hok]
theorem qG.retw {sc : Option (Nat × (Nat → Int))} {d k pc n len : Nat} {ls : List qV} {w : qW} {Q : qV → qW → Nat → Prop} (h : qcd k pc = some (.return_, len)) (hok : Nat.beq (qrt k) 0 = true) (hq : Q (9, 0) w n) : qG sc d k pc ls [] w n Q := by
  refine ⟨1, (9, 0), w, n, ?_, hq⟩
  rw [qex_s, h]
  show (if Nat.beq (qrt k) 0 = true then some ((9, 0), w, n) else none) = _
  rw [if_pos hok]
section ExGo
variable {L : Nat} {xs : Nat → Int} {w0 : qW} {gf : Nat → Nat → Option yI} {ga : Nat → Option yI} {ra : Nat → Nat → List Int} {Sp : qW → Prop} {gh : Nat → List Int → Int} {bv : Nat → Nat → Option Int} {bb : Nat → Option yI} {ct : Nat → List yC} {an : Nat → Nat → Option yA} {fk : Nat → Nat → Option Nat}
theorem ymt_hv {ρ : Nat → Int} : ∀ {h : yHv} {n : Nat} {l : List yV} {m : List qV}, ymt ρ h (yhv h n l) m → ymt ρ h l m
  | some b :: h, n, a :: l, c :: m, e => ⟨e.1, ymt_hv (n := n + 1) e.2⟩
  | none :: h, n, a :: l, c :: m, e => ⟨e.1, ymt_hv (n := n) e.2⟩
  | [], n, l, m, e => e
  | some _ :: _, n, [], m, e => e
  | none :: _, n, [], m, e => e
  | some _ :: _, _, _ :: _, [], e => e.elim
  | none :: _, _, _ :: _, [], e => e.elim
theorem yOK.sub {ρ : Nat → Int} {S S1 : yS} {N : yN} {o : Option qC} (e : S1.1 = S.1) (h : yOK L xs w0 gf ga ra Sp gh ρ S1 N o) : yOK L xs w0 gf ga ra Sp gh ρ S N o := by
  obtain ⟨pc', ls', st', S', ρ', w', h1, h2, h3, h4, h5, h6, h7⟩ := h
  rw [e] at h2 h3
  exact ⟨pc', ls', st', S', ρ', w', h1, h2, h3, h4, h5, h6, h7⟩
theorem ymth_ok {ρ : Nat → Int} {S : yS} {w : qW} {t pc : Nat} {ls st : List yV} {N : yN} (h : ymth t pc ls st S N = true) (g : yG L xs w0 gf ga ra Sp gh ρ S w) (hl : ySc S.1 ls) (hs : ySc S.1 st) : yOK L xs w0 gf ga ra Sp gh ρ S N (qmt t pc (ls.map (yc ρ)) (st.map (yc ρ)) w 142) := by
  have h0 : 0 < S.1 := by have := g.1.2.1; omega
  unfold ymth at h
  split at h
  · rename_i s o r
    have kq := ylt_ok h g hs.hd h0
    rw [show ρ 0 + 0 = 0 from by rw [g.1.1]; rfl] at kq
    have eq : ∀ x, (if 0 ≤ ρ s + o then ρ s + o else wrp (0 - (ρ s + o))) = x → qmt 902 pc (ls.map (yc ρ)) (((0, s, o) :: r : List yV).map (yc ρ)) w 142 = some (pc + 3, ls.map (yc ρ), (0, x) :: r.map (yc ρ), w, 142) := fun x hx => by subst hx; rfl
    by_cases z : ρ s + o < 0
    · obtain ⟨S1, e1, g1, h1⟩ := kq.1 z
      exact yOK.sub e1 (yOK.r1 (S := S1) (pc := pc + 3) (ls := ls) (r := r) (yneg_ok h1 g1) (eq _ (by rw [if_neg (by omega), Int.zero_sub])) (by rw [e1]; exact hl) (by rw [e1]; exact hs.tl))
    · exact yOK.r0 (pc := pc + 3) (ls := ls) (st := (0, s, o) :: r) (kq.2 z) (eq _ (if_pos (by omega))) hl hs
  · rename_i s2 o2 s1 o1 r
    have kq := ylt_ok h g hs.tl.hd hs.hd
    have eq : ∀ x, (if ρ s1 + o1 < ρ s2 + o2 then ρ s2 + o2 else ρ s1 + o1) = x → qmt 903 pc (ls.map (yc ρ)) (((0, s2, o2) :: (0, s1, o1) :: r : List yV).map (yc ρ)) w 142 = some (pc + 3, ls.map (yc ρ), (0, x) :: r.map (yc ρ), w, 142) := fun x hx => by subst hx; rfl
    by_cases z : ρ s1 + o1 < ρ s2 + o2
    · exact yOK.r0 (pc := pc + 3) (ls := ls) (st := (0, s2, o2) :: r) (kq.1 z) (eq _ (if_pos z)) hl (ySc.cons hs.hd hs.tl.tl)
    · exact yOK.r0 (pc := pc + 3) (ls := ls) (st := (0, s1, o1) :: r) (kq.2 z) (eq _ (if_neg z)) hl hs.tl
  · rename_i s2 o2 s1 o1 r
    have kq := ylt_ok h g hs.hd hs.tl.hd
    have eq : ∀ x, (if ρ s2 + o2 < ρ s1 + o1 then ρ s2 + o2 else ρ s1 + o1) = x → qmt 904 pc (ls.map (yc ρ)) (((0, s2, o2) :: (0, s1, o1) :: r : List yV).map (yc ρ)) w 142 = some (pc + 3, ls.map (yc ρ), (0, x) :: r.map (yc ρ), w, 142) := fun x hx => by subst hx; rfl
    by_cases z : ρ s2 + o2 < ρ s1 + o1
    · exact yOK.r0 (pc := pc + 3) (ls := ls) (st := (0, s2, o2) :: r) (kq.1 z) (eq _ (if_pos z)) hl (ySc.cons hs.hd hs.tl.tl)
    · exact yOK.r0 (pc := pc + 3) (ls := ls) (st := (0, s1, o1) :: r) (kq.2 z) (eq _ (if_neg z)) hl hs.tl
  · rename_i s2 o2 s1 o1 r
    have kq := ylt_ok h g hs.hd hs.tl.hd
    have eq : ∀ x, (if ρ s2 + o2 < ρ s1 + o1 then ρ s1 + o1 else ρ s2 + o2) = x → qmt 905 pc (ls.map (yc ρ)) (((1, s2, o2) :: (1, s1, o1) :: r : List yV).map (yc ρ)) w 142 = some (pc + 3, ls.map (yc ρ), (1, x) :: r.map (yc ρ), w, 142) := fun x hx => by subst hx; rfl
    by_cases z : ρ s2 + o2 < ρ s1 + o1
    · exact yOK.r0 (pc := pc + 3) (ls := ls) (st := (1, s1, o1) :: r) (kq.1 z) (eq _ (if_pos z)) hl hs.tl
    · exact yOK.r0 (pc := pc + 3) (ls := ls) (st := (1, s2, o2) :: r) (kq.2 z) (eq _ (if_neg z)) hl (ySc.cons hs.hd hs.tl.tl)
  · rename_i x r
    split at h
    · rename_i l hq
      have e0 : yc ρ (3, 0, x) = (3, x) := by show ((3, ρ 0 + x) : qV) = _; rw [g.1.1, Int.zero_add]
      have e1 : yc ρ (0, 0, (l.length : Int)) = (0, (l.length : Int)) := by show ((0, ρ 0 + _) : qV) = _; rw [g.1.1, Int.zero_add]
      refine ⟨pc + 3, ls, (0, 0, (l.length : Int)) :: r, S, ρ, w, ?_, Nat.le_refl _, yag.rf, hl, ySc.cons h0 hs.tl, g, h⟩
      rw [List.map_cons, List.map_cons, e0, e1]
      show (match qtxb x with
        | some l => some (pc + 3, ls.map (yc ρ), ((0, (l.length : Int)) : qV) :: r.map (yc ρ), w, 142)
        | none => none) = _
      rw [hq]
    · cases h
  · rename_i s o x r
    split at h
    · rename_i l a b hq hv
      have e0 : yc ρ (3, 0, x) = (3, x) := by show ((3, ρ 0 + x) : qV) = _; rw [g.1.1, Int.zero_add]
      rw [Bool.and_eq_true, Bool.and_eq_true, yle_i, yle_i] at h
      obtain ⟨h1, h2, h⟩ := h
      have k := yiv_ok g hv
      have eq : qmt 907 pc (ls.map (yc ρ)) (((0, s, o) :: (3, 0, x) :: r : List yV).map (yc ρ)) w 142 = some (pc + 3, ls.map (yc ρ), (0, l.getD (ρ s + o).toNat 0) :: r.map (yc ρ), w, 142) := by
        rw [List.map_cons, List.map_cons, e0]
        show (match qtxb x with
          | some l => if 0 ≤ ρ s + o ∧ ρ s + o < (l.length : Int) then some (pc + 3, ls.map (yc ρ), ((0, l.getD (ρ s + o).toNat 0) : qV) :: r.map (yc ρ), w, 142) else none
          | none => none) = _
        rw [hq]
        exact if_pos ⟨by omega, by omega⟩
      obtain ⟨x0, hl8⟩ := qtxb_in hq
      have hb := (qtc_in hl8).2
      by_cases e : yqi a b = true
      · rw [e, cond_true] at h
        have ab := yqi_i.mp e
        have e3 : ρ s + o = a := by omega
        rw [e3] at eq
        have e1 : yc ρ (0, 0, l.getD a.toNat 0) = (0, l.getD a.toNat 0) := by show ((0, ρ 0 + _) : qV) = _; rw [g.1.1, Int.zero_add]
        exact ⟨pc + 3, ls, (0, 0, l.getD a.toNat 0) :: r, S, ρ, w, by rw [eq, List.map_cons, e1], Nat.le_refl _, yag.rf, hl, ySc.cons h0 hs.tl.tl, g, h⟩
      · rw [ybf e, cond_false] at h
        exact yOK.r1 (pc := pc + 3) (ls := ls) (r := r) (ynum_ok h g ⟨(hb _).1, (hb _).2⟩) eq hl hs.tl.tl
    · cases h
  · rename_i s o x r
    split at h
    · rename_i l hq
      have e0 : yc ρ (3, 0, x) = (3, x) := by show ((3, ρ 0 + x) : qV) = _; rw [g.1.1, Int.zero_add]
      have eq : qmt 908 pc (ls.map (yc ρ)) (((0, s, o) :: (3, 0, x) :: r : List yV).map (yc ρ)) w 142 = some (pc + 3, ls.map (yc ρ), (0, qix l (ρ s + o) 0) :: r.map (yc ρ), w, 142) := by
        rw [List.map_cons, List.map_cons, e0]
        show (match qtxb x with
          | some l => some (pc + 3, ls.map (yc ρ), ((0, qix l (ρ s + o) 0) : qV) :: r.map (yc ρ), w, 142)
          | none => none) = _
        rw [hq]
      have k := qix_in l (ρ s + o) 0 (Int.le_refl 0)
      exact yOK.r1 (pc := pc + 3) (ls := ls) (r := r) (ynum_ok h g ⟨by show (-1 : Int) ≤ _; omega, by show _ ≤ (l.length : Int); omega⟩) eq hl hs.tl.tl
    · cases h
  · cases h
theorem ycpy_ok {ρ : Nat → Int} {S : yS} {w : qW} {pc : Nat} {ls st : List yV} {N : yN} (hSp : ∀ w w' p, (yarr p = false → (∃ j, gf p j ≠ none) ∨ ∃ j, ra p j ≠ []) → (yarr p = true → ga p ≠ none) → (∀ q, q ≠ p → ∀ i, w' q i = w q i) → Sp w → Sp w') (h : ycpy ga pc ls st S N = true) (g : yG L xs w0 gf ga ra Sp gh ρ S w) (hl : ySc S.1 ls) (hs : ySc S.1 st) : yOK L xs w0 gf ga ra Sp gh ρ S N (qac pc (ls.map (yc ρ)) (st.map (yc ρ)) w 142) := by
  unfold ycpy at h
  split at h
  · rename_i ms mo ds d b ss s a r
    split at h
    · rename_i la x9 lb x8 m1 m2 x1 x2 y1 y2 hpa hpb hm hga hgb
      simp only [Bool.and_eq_true, yle_i] at h
      obtain ⟨e1, e2, c1, c2, c3, c4, c5, c6, c7, c8, c9, c10, c11, h⟩ := h
      have e1 := Nat.eq_of_beq_eq_true e1
      have e2 := Nat.eq_of_beq_eq_true e2
      subst e1
      subst e2
      have k := yiv_ok g hm
      have z0 : ∀ v : Int, ρ 0 + v = v := fun v => by rw [g.1.1, Int.zero_add]
      have hyb : yarr b.toNat = true := yarr_0 hpb
      have hya : yarr a.toNat = true := yarr_0 hpa
      have hu : ∀ q, q ≠ b.toNat → ∀ i, qcpy w a.toNat b.toNat s.toNat d.toNat (ρ ms + mo).toNat q i = w q i := fun q hq i => by
        show (if q = b.toNat then _ else w q) i = _
        rw [if_neg hq]
      have hI : yInv gf ga ra Sp (qcpy w a.toNat b.toNat s.toNat d.toNat (ρ ms + mo).toNat) := by
        have gi := g.2.2.2.2.1
        refine ⟨fun q i b9 hb hy => ?_, fun q i b9 hb hy => ?_, fun q i hr hy => ?_, hSp w _ b.toNat (fun z => by rw [hyb] at z; cases z) (fun _ => by rw [hgb]; exact fun z => by cases z) hu gi.2.2.2⟩
        · rw [hu q (fun z => by rw [z, hyb] at hy; cases hy)]; exact gi.1 q i b9 hb hy
        · by_cases c : q = b.toNat
          · subst c
            rw [hgb] at hb
            cases hb
            have q1 := gi.2.1 a.toNat (s.toNat + (i - d.toNat)) _ hga hya
            have q2 := gi.2.1 b.toNat i _ hgb hyb
            show yin (y1, y2) ((if b.toNat = b.toNat then (fun j => if d.toNat ≤ j ∧ j < d.toNat + (ρ ms + mo).toNat then w a.toNat (s.toNat + (j - d.toNat)) else w b.toNat j) else w b.toNat) i)
            rw [if_pos rfl]
            show yin (y1, y2) (if d.toNat ≤ i ∧ i < d.toNat + (ρ ms + mo).toNat then w a.toNat (s.toNat + (i - d.toNat)) else w b.toNat i)
            split
            · have a1 : x1 ≤ w a.toNat (s.toNat + (i - d.toNat)) := q1.1
              have a2 : w a.toNat (s.toNat + (i - d.toNat)) ≤ x2 := q1.2
              exact ⟨by show y1 ≤ _; omega, by show _ ≤ y2; omega⟩
            · exact q2
          · rw [hu q c]; exact gi.2.1 q i b9 hb hy
        · rw [hu q (fun z => by rw [z, hyb] at hy; cases hy)]; exact gi.2.2.1 q i hr hy
      have gp := yhav_ok (m := [b.toNat]) g hI (fun p j hp => hu p (fun z => by
        subst z
        have hp : (Nat.beq b.toNat b.toNat || false || (Nat.beq b.toNat (1000 * (j + 1) + b.toNat) || false)) = false := hp (by omega)
        rw [Nat.beq_refl] at hp; cases hp) j)
      refine ⟨pc + 3, ls, r, yhav S [b.toNat], ρ, _, ?_, Nat.le_refl _, yag.rf, hl, hs.tl.tl.tl.tl.tl, gp, h⟩
      rw [List.map_cons, List.map_cons, List.map_cons, List.map_cons, List.map_cons, show yc ρ (2, 0, b) = (2, b) from by show (2, ρ 0 + b) = _; rw [z0], show yc ρ (2, 0, a) = (2, a) from by show (2, ρ 0 + a) = _; rw [z0], show yc ρ (0, 0, d) = (0, d) from by show (0, ρ 0 + d) = _; rw [z0], show yc ρ (0, 0, s) = (0, s) from by show (0, ρ 0 + s) = _; rw [z0], show yc ρ (0, ms, mo) = (0, ρ ms + mo) from rfl]
      show (match qpl a.toNat, qpl b.toNat with
        | (1, 0, la, _), (1, 0, lb, _) => if (0 ≤ ρ ms + mo ∧ 0 ≤ d ∧ 0 ≤ s ∧ s + (ρ ms + mo) ≤ la ∧ d + (ρ ms + mo) ≤ lb) ∧ (0 < a ∧ a ≤ ((142 : Nat) : Int)) ∧ 0 < b ∧ b ≤ ((142 : Nat) : Int) then some (pc + 3, ls.map (yc ρ), r.map (yc ρ), qcpy w a.toNat b.toNat s.toNat d.toNat (ρ ms + mo).toNat, 142) else none
        | _, _ => none) = _
      rw [hpa, hpb]
      show (if (0 ≤ ρ ms + mo ∧ 0 ≤ d ∧ 0 ≤ s ∧ s + (ρ ms + mo) ≤ la ∧ d + (ρ ms + mo) ≤ lb) ∧ (0 < a ∧ a ≤ ((142 : Nat) : Int)) ∧ 0 < b ∧ b ≤ ((142 : Nat) : Int) then some (pc + 3, ls.map (yc ρ), r.map (yc ρ), qcpy w a.toNat b.toNat s.toNat d.toNat (ρ ms + mo).toNat, 142) else none) = _
      rw [if_pos ⟨⟨by omega, by omega, by omega, by omega, by omega⟩, ⟨by omega, by omega⟩, by omega, by omega⟩]
    · cases h
  · cases h
theorem yfind_ok {ρ : Nat → Int} {S : yS} {w : qW} {d : Nat} {as : List yV} {c : yC} (g : yG L xs w0 gf ga ra Sp gh ρ S w) : ∀ {l : List yC}, yfind S d as l = some c → c ∈ l ∧ c.1 ≤ d ∧ yamc c.2.1 (as.map (yc ρ)) ∧ (∀ p, ymem p c.2.2.2.2.1 = true → ∀ j, ymd p j S.2.2.2.1 = false) ∧ ∀ e ∈ c.2.2.2.2.2.1, 0 < e.1 → w e.1 e.2.1 = e.2.2
  | [], h => by cases h
  | a :: r, h => by
    unfold yfind at h
    by_cases e : (Nat.ble a.1 d && (yam S.2.1 a.2.1 as && (ynone S.2.2.2.1 a.2.2.2.2.1 && ypre S.2.2.1 a.2.2.2.2.2.1))) = true
    · rw [e] at h
      have h : some a = some c := h
      cases h
      rw [Bool.and_eq_true, Bool.and_eq_true, Bool.and_eq_true] at e
      refine ⟨List.mem_cons_self, Nat.le_of_ble_eq_true e.1, yam_ok g e.2.1, ?_, ypre_ok g e.2.2.2⟩
      have key : ∀ (l : List Nat), ynone S.2.2.2.1 l = true → ∀ p, ymem p l = true → ∀ j, ymd p j S.2.2.2.1 = false := by
        intro l
        induction l with
        | nil => intro _ p hp; cases hp
        | cons q l ih =>
          intro hn p hp j
          have hn : (ycln q S.2.2.2.1 && ynone S.2.2.2.1 l) = true := hn
          rw [Bool.and_eq_true] at hn
          have hp : (Nat.beq q p || ymem p l) = true := hp
          rw [Bool.or_eq_true] at hp
          rcases hp with hp | hp
          · rw [← Nat.eq_of_beq_eq_true hp]
            exact ycln_ok hn.1
          · exact ih hn.2 p hp j
      exact key _ e.2.2.1
    · rw [ybf e] at h
      have := yfind_ok g (l := r) h
      exact ⟨List.mem_cons_of_mem _ this.1, this.2⟩
theorem qsc_n {t : Nat} (h : (!Nat.beq t 305) = true) : ysc L xs t = none := by
  unfold ysc
  cases hq : Nat.beq t 305
  · rfl
  · rw [hq] at h; cases h
theorem ycall_ok {X : yXt} (hX : yXOK L xs w0 gf ga ra Sp gh X) (hct : ∀ t c, c ∈ ct t → yCOK w0 gf ga ra Sp gh t c) {ctx : List yLC} {d D k t na sk md pc : Nat} {ls st : List yV} {S : yS} {K : yK} {ρ : Nat → Int} {w : qW} {Q : qV → qW → Nat → Prop} (hq : qcq k pc = some (t, na, sk, md)) (ht : Nat.ble 900 t = false) (hd : d ≤ D) (h : ycall ct X ctx d k t na sk md pc ls st S K = true) (g : yG L xs w0 gf ga ra Sp gh ρ S w) (hl : ySc S.1 ls) (hs : ySc S.1 st) (hK : yKOK L xs w0 gf ga ra Sp gh ρ S.1 Q K) (hc : ∀ c ∈ ctx, yLOK L xs w0 gf ga ra Sp gh D k Q ρ S.1 c) : qG (ysc L xs k) D k pc (ls.map (yc ρ)) (st.map (yc ρ)) w 142 Q := by
  have h0 : 0 < S.1 := by have := g.1.2.1; omega
  unfold ycall at h
  cases d with
  | zero => cases h
  | succ d' =>
    obtain ⟨D', rfl⟩ : ∃ D', D = D' + 1 := ⟨D - 1, by omega⟩
    have h : (ycok t na sk md st && (!Nat.beq t 305 && (match yfind S d' (ytk na st []) (ct t) with
      | some c => bif Nat.beq c.2.2.1.1 9 then X ctx (d' + 1) k (pc + 3) ls (ydr na st) (yhav2 S c.2.2.2.1 c.2.2.2.2.2.2.1) K else (Nat.beq c.2.2.1.1 0 && ygho (yhav2 S c.2.2.2.1 c.2.2.2.2.2.2.1) c.2.2.2.2.2.2.2.1 (yarg (ytk na st []) c.2.2.2.2.2.2.2.2) c.2.2.1.2 (fun v S => X ctx (d' + 1) k (pc + 3) ls (v :: ydr na st) S K))
      | none => X [] d' t 0 (yini t (ytk na st [])) [] S (fun S v => X ctx (d' + 1) k (pc + 3) ls (ypsh v (ydr na st)) S K)))) = true := h
    rw [Bool.and_eq_true, Bool.and_eq_true] at h
    obtain ⟨hok, h305, h⟩ := h
    have hr : ySc S.1 (ydr na st) := ydr_sc hs
    have ha : ySc S.1 (ytk na st []) := ytk_sc hs ynil_sc
    have ea : qtk na (st.map (yc ρ)) [] = (ytk na st []).map (yc ρ) := qtk_map na st []
    split at h
    · rename_i c hf
      obtain ⟨hcm, hcd, hca, hcn, hcp⟩ := yfind_ok g hf
      have con := hct t c hcm D' ((ytk na st []).map (yc ρ)) w (by omega) hca g.2.2.2.2.1 (fun p hp j => g.2.2.2.1 p j (hcn p hp j)) hcp
      rw [← ea] at con
      refine qG.call (r1 := (ydr na st).map (yc ρ)) hq ht (ycok_ok g.1.1 hok) rfl (qdr_map na st) con ?_
      rintro ⟨vk, vx⟩ w' n' ⟨⟨hv1, hv2⟩, hI, rfl, hw, hqp, hgh⟩
      have hv1 : vk = c.2.2.1.1 := hv1
      have g1 := yhav2_ok (m := c.2.2.2.1) g hI hw hqp
      by_cases e : Nat.beq c.2.2.1.1 9 = true
      · rw [e] at h
        rw [hv1, Nat.eq_of_beq_eq_true e]
        exact hX ctx (d' + 1) (D' + 1) k (pc + 3) ls (ydr na st) (yhav2 S c.2.2.2.1 c.2.2.2.2.2.2.1) K ρ w' Q hd h g1 hl hr hK hc
      · rw [ybf e, cond_false, Bool.and_eq_true] at h
        rw [hv1, Nat.eq_of_beq_eq_true h.1]
        obtain ⟨ρ', S', v, q1, q2, q3, q4, q5, q6⟩ := ygho_ok h.2 g1 (yarg_sc h0 ha) hv2 (fun z => by rw [yarg_map g.1.1, hgh z, ea])
        have := hX ctx (d' + 1) (D' + 1) k (pc + 3) ls (v :: ydr na st) S' K ρ' w' Q hd q6 q3 (hl.mono q1) (ySc.cons q4 (hr.mono q1)) (hK.mono q2 q1) (fun c hc9 => (hc c hc9).mono q2 q1)
        rw [ym_ag q2 hl, List.map_cons, ym_ag q2 hr, q5] at this
        exact this
    · have hin : qG none D' t 0 ((yini t (ytk na st [])).map (yc ρ)) [] w 142 (fun v w' n' => n' = 142 ∧ qG (ysc L xs k) (D' + 1) k (pc + 3) (ls.map (yc ρ)) (qpsh v ((ydr na st).map (yc ρ))) w' 142 Q) := by
        have := hX [] d' D' t 0 (yini t (ytk na st [])) [] S _ ρ w (fun v w' n' => n' = 142 ∧ qG (ysc L xs k) (D' + 1) k (pc + 3) (ls.map (yc ρ)) (qpsh v ((ydr na st).map (yc ρ))) w' 142 Q) (by omega) h g (yini_sc h0 ha) ynil_sc (fun ρ' S' v w' q1 q2 q3 q4 q5 => ⟨rfl, ?_⟩) (fun c hc9 => by cases hc9)
        · rw [qsc_n h305] at this
          exact this
        · have := hX ctx (d' + 1) (D' + 1) k (pc + 3) ls (ypsh v (ydr na st)) S' K ρ' w' Q hd q5 q3 (hl.mono q2) (ypsh_sc q4 (hr.mono q2)) (hK.mono q1 q2) (fun c hc9 => (hc c hc9).mono q1 q2)
          rw [ym_ag q1 hl, ← qpsh_map, ym_ag q1 hr] at this
          exact this
      refine qG.call (ls1 := (yini t (ytk na st [])).map (yc ρ)) (r1 := (ydr na st).map (yc ρ)) hq ht (ycok_ok g.1.1 hok) (by rw [ea]; exact qini_map g.1.1 t _) (qdr_map na st) hin ?_
      rintro v w' n' ⟨rfl, hk⟩
      exact hk
theorem qmm_mono {t md d D : Nat} (h : qmm t md d = true) (hd : d ≤ D) : qmm t md D = true := by
  unfold qmm at h ⊢
  by_cases e : Nat.ble 906 t = true
  · rw [e, cond_true, Bool.and_eq_true] at h ⊢
    exact ⟨h.1, Nat.ble_eq_true_of_le (Nat.le_trans (Nat.le_of_ble_eq_true h.2) hd)⟩
  · rw [ybf e, cond_false, Bool.and_eq_true] at h ⊢
    exact ⟨h.1, Nat.ble_eq_true_of_le (Nat.le_trans (Nat.le_of_ble_eq_true h.2) hd)⟩
theorem qmm_pos {t md d : Nat} (h : qmm t md d = true) : 0 < d := by
  unfold qmm at h
  by_cases e : Nat.ble 906 t = true
  · rw [e, cond_true, Bool.and_eq_true] at h
    have := Nat.le_of_ble_eq_true h.2; omega
  · rw [ybf e, cond_false, Bool.and_eq_true] at h
    have := Nat.le_of_ble_eq_true h.2; omega
theorem yinv_ok {X : yXt} (hX : yXOK L xs w0 gf ga ra Sp gh X) (hct : ∀ t c, c ∈ ct t → yCOK w0 gf ga ra Sp gh t c) (hgh0 : ∀ x c, gh 1000 [x, c] = qand x c) (hbv : ∀ p j c, bv p j = some c → w0 p j = c) (hbb : ∀ p r, bb p = some r → ∀ j, yin r (w0 p j)) (hxs : ∀ j, yin y32 (xs j)) (hSp : ∀ w w' p, (yarr p = false → (∃ j, gf p j ≠ none) ∨ ∃ j, ra p j ≠ []) → (yarr p = true → ga p ≠ none) → (∀ q, q ≠ p → ∀ i, w' q i = w q i) → Sp w → Sp w') {ctx : List yLC} {d D k i md pc len : Nat} {ins : Instr} {ls st : List yV} {S : yS} {K : yK} {ρ : Nat → Int} {w : qW} {Q : qV → qW → Nat → Prop} (hq0 : qcd k pc = some (ins, len)) (hi : (ins = .invokestatic i ∧ md = 0) ∨ (ins = .invokevirtual i ∧ md = 1) ∨ (ins = .invokespecial i ∧ md = 2)) (hd : d ≤ D) (h : yinv ga ct X ctx d k i md pc ls st S K = true) (g : yG L xs w0 gf ga ra Sp gh ρ S w) (hl : ySc S.1 ls) (hs : ySc S.1 st) (hK : yKOK L xs w0 gf ga ra Sp gh ρ S.1 Q K) (hc : ∀ c ∈ ctx, yLOK L xs w0 gf ga ra Sp gh D k Q ρ S.1 c) : qG (ysc L xs k) D k pc (ls.map (yc ρ)) (st.map (yc ρ)) w 142 Q := by
  unfold yinv at h
  split at h
  · rename_i t na sk hqm
    have hq : qcq k pc = some (t, na, sk, md) := by
      unfold qcq
      rw [hq0]
      rcases hi with ⟨rfl, rfl⟩ | ⟨rfl, rfl⟩ | ⟨rfl, rfl⟩ <;> (show (qmd (qow k) i).map _ = _; rw [hqm]; rfl)
    have fin : ∀ o : Option qC, yOK L xs w0 gf ga ra Sp gh ρ S (fun pc ls st S => X ctx d k pc ls st S K) o → ∃ pc' ls' st' w', o = some (pc', ls', st', w', 142) ∧ qG (ysc L xs k) D k pc' ls' st' w' 142 Q := fun o hok => by
      obtain ⟨pc', ls', st', S', ρ', w', q1, q2, q3, q4, q5, q6, q7⟩ := hok
      exact ⟨_, _, _, _, q1, hX ctx d D k pc' ls' st' S' K ρ' w' Q hd q7 q6 q4 q5 (hK.mono q3 q2) (fun c hc9 => (hc c hc9).mono q3 q2)⟩
    by_cases e : Nat.ble 900 t = true
    · rw [e, cond_true] at h
      by_cases e2 : Nat.beq t 901 = true
      · rw [e2, cond_true, Bool.and_eq_true, Bool.and_eq_true, Bool.and_eq_true] at h
        obtain ⟨hmd, hd1, h⟩ := h
        have hmd := Nat.eq_of_beq_eq_true hmd
        subst hmd
        obtain ⟨D', rfl⟩ : ∃ D', D = D' + 1 := ⟨D - 1, by have := Nat.le_of_ble_eq_true hd1; omega⟩
        have e2 := Nat.eq_of_beq_eq_true e2
        subst e2
        obtain ⟨pc', ls', st', w', q1, q2⟩ := fin _ (ycpy_ok hSp h.2 g hl hs)
        exact qG.cpy (P := True) hq (by rw [qdr_map, qcat_map]; exact h.1) (by rw [if_pos trivial]; exact q1) trivial q2
      · rw [ybf e2, cond_false, Bool.and_eq_true, Bool.and_eq_true, Bool.and_eq_true] at h
        obtain ⟨h902, hmm, h8, h⟩ := h
        have hmm := qmm_mono hmm hd
        obtain ⟨D', rfl⟩ : ∃ D', D = D' + 1 := ⟨D - 1, by have := qmm_pos hmm; omega⟩
        obtain ⟨pc', ls', st', w', q1, q2⟩ := fin _ (ymth_ok h g hl hs)
        exact qG.mth hq h902 hmm (by rw [qdr_map, qcat_map]; exact h8) q1 q2
    · rw [ybf e, cond_false] at h
      exact ycall_ok hX hct hq (ybf e) hd h g hl hs hK hc
  · cases h
theorem yi_ok {X : yXt} (hX : yXOK L xs w0 gf ga ra Sp gh X) (hct : ∀ t c, c ∈ ct t → yCOK w0 gf ga ra Sp gh t c) (hgh0 : ∀ x c, gh 1000 [x, c] = qand x c) (hbv : ∀ p j c, bv p j = some c → w0 p j = c) (hbb : ∀ p r, bb p = some r → ∀ j, yin r (w0 p j)) (hxs : ∀ j, yin y32 (xs j)) (hSp : ∀ w w' p, (yarr p = false → (∃ j, gf p j ≠ none) ∨ ∃ j, ra p j ≠ []) → (yarr p = true → ga p ≠ none) → (∀ q, q ≠ p → ∀ i, w' q i = w q i) → Sp w → Sp w') : yXOK L xs w0 gf ga ra Sp gh (yi gf ga ra bv bb ct X) := by
  intro ctx d D k pc ls st S K ρ w Q hd h g hl hs hK hc
  have h0 : 0 < S.1 := by have := g.1.2.1; omega
  have hSp1 : ∀ w p j v, (yarr p = false → gf p j ≠ none ∨ ra p j ≠ []) → (yarr p = true → ga p ≠ none) → Sp w → Sp (qup w p j v) := fun w p j v a1 a2 a3 => hSp w _ p (fun z => (a1 z).imp (fun q => ⟨j, q⟩) (fun q => ⟨j, q⟩)) a2 (fun q hq i => by
    show (if q = p then _ else w q) i = _
    rw [if_neg hq]) a3
  unfold yi at h
  split at h
  · cases h
  · rename_i ins len hq0
    split at h
    · split at h
      · rename_i s o
        by_cases e : Nat.beq (qrt k) 1 = true
        · rw [e] at h
          exact qG.retl hq0 (by rw [Nat.eq_of_beq_eq_true e]; rfl) (hK ρ S (0, s, o) w yag.rf (Nat.le_refl _) g hs.hd h)
        · rw [ybf e, cond_false, Bool.and_eq_true] at h
          obtain ⟨h1, h⟩ := h
          split at h
          · rename_i a b hi9
            have kk := yiv_ok g hi9
            rw [Bool.and_eq_true, Bool.and_eq_true, yle_i, yle_i] at h
            exact qG.retl hq0 (by rw [Nat.eq_of_beq_eq_true h1]; exact decide_eq_true (show 0 ≤ ρ s + o ∧ ρ s + o ≤ 1 from ⟨by omega, by omega⟩)) (hK ρ S (0, s, o) w yag.rf (Nat.le_refl _) g hs.hd h.2.2)
          · cases h
      · cases h
    · split at h
      · rw [Bool.and_eq_true] at h
        have := hK ρ S (9, 0, 0) w yag.rf (Nat.le_refl _) g h0 h.2
        rw [← qnil g.1.1] at this
        exact qG.retw hq0 h.1 this
      · cases h
    · exact yinv_ok hX hct hgh0 hbv hbb hxs hSp hq0 (.inl ⟨rfl, rfl⟩) hd h g hl hs hK hc
    · exact yinv_ok hX hct hgh0 hbv hbb hxs hSp hq0 (.inr (.inl ⟨rfl, rfl⟩)) hd h g hl hs hK hc
    · exact yinv_ok hX hct hgh0 hbv hbb hxs hSp hq0 (.inr (.inr ⟨rfl, rfl⟩)) hd h g hl hs hK hc
    · have hok := yas_ok (sc := ysc L xs k) (len := len) hgh0 hbv hbb hxs hSp1 rfl h g hl hs
      obtain ⟨pc', ls', st', S', ρ', w', q1, q2, q3, q4, q5, q6, q7⟩ := hok
      refine qG.one (pc' := pc') (ls' := ls'.map (yc ρ')) (st' := st'.map (yc ρ')) (w' := w') (n' := 142) ?_ (hX ctx d D k pc' ls' st' S' K ρ' w' Q hd q7 q6 q4 q5 (hK.mono q3 q2) (fun c hc9 => (hc c hc9).mono q3 q2))
      unfold qone
      rw [hq0]
      exact q1
theorem yex_ok (hct : ∀ t c, c ∈ ct t → yCOK w0 gf ga ra Sp gh t c) (hgh0 : ∀ x c, gh 1000 [x, c] = qand x c) (hbv : ∀ p j c, bv p j = some c → w0 p j = c) (hbb : ∀ p r, bb p = some r → ∀ j, yin r (w0 p j)) (hxs : ∀ j, yin y32 (xs j)) (hSp : ∀ w w' p, (yarr p = false → (∃ j, gf p j ≠ none) ∨ ∃ j, ra p j ≠ []) → (yarr p = true → ga p ≠ none) → (∀ q, q ≠ p → ∀ i, w' q i = w q i) → Sp w → Sp w') : ∀ f, yXOK L xs w0 gf ga ra Sp gh (yex gf ga ra bv bb ct an fk f)
  | 0 => fun ctx d D k pc ls st S K ρ w Q hd h => by cases h
  | f + 1 => fun ctx d D k pc ls st S K ρ w Q hd h g hl hs hK hc => by
    have hX := yex_ok hct hgh0 hbv hbb hxs hSp f
    have hY := yi_ok (bv := bv) (bb := bb) hX hct hgh0 hbv hbb hxs hSp
    have h0 : 0 < S.1 := by have := g.1.2.1; omega
    unfold yex at h
    by_cases e : ctx.any (ychk pc ls st S) = true
    · -- an open loop's head
      obtain ⟨c, hcm, hck⟩ := List.any_eq_true.mp e
      unfold ychk at hck
      rw [Bool.and_eq_true, Bool.and_eq_true, Bool.and_eq_true, Bool.and_eq_true, Bool.and_eq_true] at hck
      obtain ⟨k1, k2, k3, k4, k5, k6⟩ := hck
      obtain ⟨l1, l2, l3, l4⟩ := hc c hcm
      split at k6
      · rename_i u hu
        have k7 := yle_i.mp k6
        have k8 := ydm_ok g hu
        have := l4 (ls.map (yc ρ)) w (yac_ok g k2) (fun x hx => (g.2.2.1 x (yhas_ok k4 hx)).2.2) (fun p j hp => g.2.2.2.1 p j (ysub2_ok hp k5)) g.2.2.2.2.1 (by omega)
        rw [Nat.eq_of_beq_eq_true k1, yvl_ok k3] at this
        exact this
      · cases k6
    · rw [ybf e, cond_false] at h
      split at h
      · -- a loop is entered
        rename_i a ha
        by_cases e2 : (ctx.any (fun c => Nat.beq c.1 pc && ykin c.2.2.2.1 ls)) = true
        · rw [e2] at h; cases h
        · rw [ybf e2, cond_false, Bool.and_eq_true] at h
          obtain ⟨hac, h⟩ := h
          generalize hH : yhs a.1 ls = H at h hac
          have hm0 := yac_ok g hac
          obtain ⟨B, hB⟩ := ymt_lb (ρ := ρ) H ls a.2.2
          have key : ∀ (m : Nat) (cls : List qV) (w' : qW), ymt ρ H ls cls → (∀ e ∈ yforg a.2.1 S.2.2.1, yrd xs w' e.1 (ρ e.2.1 + e.2.2.1).toNat = ρ e.2.2.2.1 + e.2.2.2.2) → (∀ p j, ymd p j (yapp a.2.1 S.2.2.2.1) = false → w' p j = w0 p j) → yInv gf ga ra Sp w' → (yms a.2.2 cls - B).toNat = m → qG (ysc L xs k) D k pc cls (st.map (yc ρ)) w' 142 Q := by
            intro m
            induction m using Nat.strongRecOn with
            | ind m ih =>
              intro cls w' hm hf hp hI hmm
              obtain ⟨r1, r2, r3, r4⟩ := yhr_ok H S.1 ls cls ρ S.2.1 (Nat.le_refl _) hl yag.rf g.2.1 hm
              generalize hρ : yhr H S.1 ls cls ρ = ρ' at r1 r2 r4
              have hx := yhx_le H S.1 ls
              have g' : yG L xs w0 gf ga ra Sp gh ρ' (yhx H S.1 ls, yhb H S.1 ls S.2.1, yforg a.2.1 S.2.2.1, yapp a.2.1 S.2.2.2.1, S.2.2.2.2) w' := by
                have g1 := g.1
                refine ⟨⟨by rw [r1 0 (by omega)]; exact g1.1, Nat.lt_of_lt_of_le g1.2.1 hx, by rw [r1 1 g1.2.1]; exact g1.2.2⟩, r4, fun e he => ?_, hp, hI, fun e he => ?_, fun e he => ?_⟩
                · have q := g.2.2.1 e (yforg_ok (show e ∈ yforg a.2.1 S.2.2.1 from he)).1
                  exact ⟨Nat.lt_of_lt_of_le q.1 hx, Nat.lt_of_lt_of_le q.2.1 hx, by rw [r1 _ q.1, r1 _ q.2.1]; exact hf e he⟩
                · have q := g.2.2.2.2.2.1 e he
                  exact ⟨Nat.lt_of_lt_of_le q.1 hx, Nat.lt_of_lt_of_le q.2.1 hx, by rw [r1 _ q.1, r1 _ q.2.1]; exact q.2.2⟩
                · have q := g.2.2.2.2.2.2 e he
                  refine ⟨fun a ha => Nat.lt_of_lt_of_le (q.1 a ha) hx, Nat.lt_of_lt_of_le q.2.1 hx, ?_⟩
                  rw [r1 _ q.2.1, ← q.2.2]
                  congr 1
                  exact List.map_congr_left (fun a ha => by rw [r1 _ (q.1 a ha)])
              have fin := hY _ d D k pc (yhv H S.1 ls) st _ K ρ' w' Q hd h g' r3 (hs.mono hx) (hK.mono r1 hx) (fun c hc9 => by
                rcases List.mem_cons.mp hc9 with rfl | hc9
                · refine ⟨r3, hs.mono hx, fun e he => ?_, fun cls2 w2 b1 b2 b3 b4 b5 => ?_⟩
                  · have q := g.2.2.1 e (yforg_ok (show e ∈ yforg a.2.1 S.2.2.1 from he)).1
                    exact ⟨Nat.lt_of_lt_of_le q.1 hx, Nat.lt_of_lt_of_le q.2.1 hx⟩
                  · have b5 : yms a.2.2 cls2 < yms a.2.2 ((yhv H S.1 ls).map (yc ρ')) := b5
                    rw [← r2] at b5
                    have b1 : ymt ρ' H (yhv H S.1 ls) cls2 := b1
                    have b1' : ymt ρ H ls cls2 := ymt_ag r1 hl (ymt_hv b1)
                    have B1 := hB cls hm
                    have B2 := hB cls2 b1'
                    have := ih (yms a.2.2 cls2 - B).toNat (by omega) cls2 w2 b1' (fun e he => by
                      have q := g.2.2.1 e (yforg_ok (show e ∈ yforg a.2.1 S.2.2.1 from he)).1
                      have := b2 e he
                      rw [r1 _ q.1, r1 _ q.2.1] at this
                      exact this) b3 b4 rfl
                    show qG (ysc L xs k) D k pc cls2 (st.map (yc ρ')) w2 142 Q
                    rw [ym_ag r1 hs]
                    exact this
                · exact (hc c (List.mem_filter.mp hc9).1).mono r1 hx)
              rw [← r2, ym_ag r1 hs] at fin
              exact fin
          refine key _ (ls.map (yc ρ)) w hm0 (fun e he => (g.2.2.1 e (yforg_ok he).1).2.2) (fun p j hp => g.2.2.2.1 p j (yapp_ok hp).2) g.2.2.2.2.1 rfl
      · split at h
        · rename_i i hi
          obtain ⟨S1, e1, g1, h1⟩ := yall_ok h g (ynt_sc h0 hl)
          exact hY ctx d D k pc ls st S1 K ρ w Q hd h1 g1 (by rw [e1]; exact hl) (by rw [e1]; exact hs) (by rw [e1]; exact hK) (fun c hc9 => by rw [e1]; exact hc c hc9)
        · exact hY ctx d D k pc ls st S K ρ w Q hd h g hl hs hK hc
end ExGo
