/-! one instruction of the plain run, and the machine's: writes of cells, arrays -/
theorem q_mapset {m j : Nat} {g g' : Nat → Value} {V : Value} (h : ∀ i, g' i = if i = j then V else g i) : ((List.range m).map g).set j V = (List.range m).map g' := by
  apply List.ext_getElem?
  intro i
  rw [List.getElem?_set, List.getElem?_map, List.getElem?_map, List.length_map, List.length_range]
  by_cases c : i < m
  · rw [List.getElem?_range c]
    by_cases a : j = i
    · subst a
      rw [if_pos rfl, if_pos c]
      show some V = some (g' j)
      rw [h, if_pos rfl]
    · rw [if_neg a]
      show some (g i) = some (g' i)
      rw [h, if_neg (fun q => a q.symm)]
  · rw [List.getElem?_eq_none (by rw [List.length_range]; omega)]
    by_cases a : j = i
    · rw [if_pos a, if_neg (show ¬ j < m by omega)]; rfl
    · rw [if_neg a]; rfl
theorem qty_0 {ty : FieldType} (h : qtyk ty 0 = true) : ty = .int := by
  cases ty <;> first | rfl | exact Bool.noConfusion h
theorem qty_3 {ty : FieldType} (h : qtyk ty 3 = true) : ty = .boolean := by
  cases ty <;> first | rfl | exact Bool.noConfusion h
theorem qty_2 {ty : FieldType} (h : qtyk ty 2 = true) : (∃ C, ty = .object C) ∨ ∃ t, ty = .array t := by
  cases ty <;> first | exact Or.inl ⟨_, rfl⟩ | exact Or.inr ⟨_, rfl⟩ | exact Bool.noConfusion h
theorem q_nf2 {ty : FieldType} (h : qtyk ty 2 = true) (r : Option Nat) : narrow ty (va_rf r) = va_rf r ∧ fits ty (va_rf r) = true := by
  rcases qty_2 h with ⟨C, rfl⟩ | ⟨t, rfl⟩ <;> cases r <;> exact ⟨rfl, rfl⟩
theorem q_b01 {v : Int} (h : 0 ≤ v ∧ v ≤ 1) : narrow .boolean (.int (Int32.ofInt v)) = .int (Int32.ofInt v) ∧ fits .boolean (.int (Int32.ofInt v)) = true := by
  rcases (show v = 0 ∨ v = 1 by omega) with rfl | rfl <;> exact ⟨by decide +kernel, by decide +kernel⟩
theorem q_vz {v : Int} (h : 0 ≤ v ∧ v ≤ 1) : vp_nar .boolean (Int32.ofInt v) = Int32.ofInt v := by
  rcases (show v = 0 ∨ v = 1 by omega) with rfl | rfl <;> decide +kernel
theorem q_vb {v : Int} (h : -128 ≤ v ∧ v ≤ 127) : vp_nar .byte (Int32.ofInt v) = Int32.ofInt v := by
  rw [vp_nar_byte, e_i2b]
  congr 1
  unfold qi2b; omega
section QP
variable {p : Program} {l : Launch} {e : Env} {R : Room} {s : State} {m : MethodId} {args : Array Value} {below : List Frame} {meth : Method} {c : Code} {Q : State → Prop}
variable {D : va_G} {A : Nat → Prop} {H0 : Heap} {sa : Nat → Nat} {sc : Option (Nat × (Nat → Int))} {k : Nat}
theorem q_putH {pc n i ci j kd fin m0 x0 cells slots : Nat} {p0 v : Int} {V : Value} {ad : Nat → Nat} {ac : Nat → ClassId} {w : qW} {arr : Array Slot} {rest : List Value} {H : Heap} {locs : List Loc} (F : qFx p s m args meth c A H0 sa sc k)
    (hd : decode (qby k) pc = .ok (.putfield i, 3)) (hq : qfd (qow k) i = some (ci, j, kd, fin)) (hpl : qpl p0.toNat = (0, ci, m0, x0)) (hf : fin = 0 ∨ qin k = true) (hp : 0 < p0 ∧ p0 ≤ n) (hV : qfv ad kd v = V) (hnar : narrow (qty ci j) V = V) (hfit : fits (qty ci j) V = true) (hrg : qrx kd n v)
    (hW : qWr D A s H ad ac w n) (hS : va_S A H0 H locs)
    (kk : ∀ (H1 : Heap) (locs1 : List Loc), qWr D A s H1 ad ac (qup w p0.toNat j v) n → va_S A H0 H1 locs1 → W p l e R s m args below meth c H1 locs1 cells slots Q (F0 m (pc + 3) arr rest)) :
    W p l e R s m args below meth c H locs cells slots Q (F0 m pc arr (V :: .ref (ad p0.toNat) :: rest)) := by
  obtain ⟨hx, hb, hml, hown, hts, hinit, hA, hsc, hst⟩ := F
  obtain ⟨g1, g2, g3, g4, g5, g6, g7⟩ := qF_in hq
  obtain ⟨y1, y2⟩ := qpl_o hpl
  subst y2
  have he := qws_at (ad := ad) (ac := ac) (w := w) (n := n) (p := p0.toNat) (by omega) (by omega)
  rw [qce_o hpl] at he
  have hset : (qws ad ac w n).set (p0.toNat - 1) (ad p0.toNat, .inr (ci, ((List.range (qNf ci)).map (fun j => qfv ad (qfk ci j) (w p0.toNat j))).set j V)) = qws ad ac (qup w p0.toNat j v) n := by
    refine qws_set (by omega) (by omega) (fun q hq => qup_ne hq) ?_
    rw [qce_o hpl]
    congr 2
    refine q_mapset (fun i => ?_)
    rw [qup_p]
    show qfv ad (qfk ci i) (if i = j then v else w p0.toNat i) = _
    by_cases a : i = j
    · rw [if_pos a, if_pos a, a, ← g4, hV]
    · rw [if_neg a, if_neg a]
  have hR := qup_rng (w := w) (n := n) (p := p0.toNat) (j := j) (v := v) hW.2.2.2.2 (by rw [qkd_o hpl, ← g4]; exact hrg)
  have hl : j < ((List.range (qNf ci)).map (fun j => qfv ad (qfk ci j) (w p0.toNat j))).length := by rw [List.length_map, List.length_range]; exact g2
  have KK : ∀ (H1 : Heap) (locs1 : List Loc), va_P D vwCl ((qws ad ac w n).set (p0.toNat - 1) (ad p0.toNat, .inr (ci, ((List.range (qNf ci)).map (fun j => qfv ad (qfk ci j) (w p0.toNat j))).set j V))) H1 → va_D A ((qws ad ac w n).set (p0.toNat - 1) (ad p0.toNat, .inr (ci, ((List.range (qNf ci)).map (fun j => qfv ad (qfk ci j) (w p0.toNat j))).set j V))) → va_S A H0 H1 locs1 → W p l e R s m args below meth c H1 locs1 cells slots Q (F0 m (pc + 3) arr rest) := fun H1 locs1 h1 h2 h3 => by
    rw [hset] at h1 h2
    exact kk H1 locs1 ⟨h1, h2, hW.2.2.1, hW.2.2.2.1, hR⟩ h3
  cases hfin : (qT ci j).2.2.2 with
  | false => exact va_put (D := D) (ci := ci) (C := qcn ci) (T := qT ci) (N := qNf ci) hx hb hts (qwT_in g1) (qty ci) (qty_ok g1) (qnm_ok g1) hown hW.2.2.1 hW.1 hW.2.1 hS (p0.toNat - 1) he (qcl_at g1) j g2 (hts _ g3) (fun _ h9 => h9) hfin (qty_ok g1 j g2) hnar hfit hl hd KK
  | true =>
    have h1 : fin = 1 := Nat.eq_of_beq_eq_true (by rw [← g6, hfin])
    have h2 : qin k = true := hf.resolve_left (by omega)
    exact va_putF (D := D) (ci := ci) (C := qcn ci) (T := qT ci) (N := qNf ci) hx hb hts (qwT_in g1) (qty ci) (qty_ok g1) (qnm_ok g1) hown hW.2.2.1 hW.1 hW.2.1 hS (p0.toNat - 1) he (qcl_at g1) j g2 (hts _ g3) (fun _ h9 => h9) hfin (hinit h2) (g7.resolve_left (by omega)) (qty_ok g1 j g2) hnar hfit hl hd KK
theorem q_putfield {i : Nat} (F : qFx p s m args meth c A H0 sa sc k) : qStep p l e R s m args below meth c Q D A H0 sa sc k (.putfield i) := by
  intro len pc ls st w n pc' ls' st' w' n' ad ac arr H locs cells slots hd ho h X hr kk
  have hlen : len = 3 := by simpa [qok, qlen] using ho
  subst hlen
  obtain ⟨hW, hL, hn, hs, hS⟩ := X
  simp only [qs1] at h
  split at h
  · rename_i ci j kd fin t v p0 r hq
    split at h
    · rename_i c0 m0 x0 hpl
      split at h
      · rename_i hc
        simp only [Bool.and_eq_true, Bool.or_eq_true] at hc
        obtain ⟨hc, hf⟩ := hc
        have hc := Nat.eq_of_beq_eq_true hc
        subst hc
        have hf : fin = 0 ∨ qin k = true := hf.imp Nat.eq_of_beq_eq_true id
        obtain ⟨g1, g2, g3, g4, g5, g6, g7⟩ := qF_in hq
        have hv9 := hs.h.2
        split at h
        · split at h
          · rename_i hp
            cases h
            have hty := qty_0 g5
            rw [List.map_cons, List.map_cons, qcv_ref hp.1]
            exact q_putH F hd hq hpl hf hp rfl (by rw [hty]; rfl) (by rw [hty]; rfl) hv9.i hW hS (fun H1 locs1 h1 h2 => kk ad ac arr H1 locs1 cells slots (fun _ _ => ⟨rfl, rfl⟩) rfl rfl ⟨h1, hL, hn, hs.t.t, h2⟩)
          · cases h
        · split at h
          · rename_i hp
            cases h
            rw [List.map_cons, List.map_cons, qcv_ref hp.1]
            exact q_putH F hd hq hpl hf hp rfl (q_nf2 g5 _).1 (q_nf2 g5 _).2 (hv9 (Nat.le_of_ble_eq_true rfl)) hW hS (fun H1 locs1 h1 h2 => kk ad ac arr H1 locs1 cells slots (fun _ _ => ⟨rfl, rfl⟩) rfl rfl ⟨h1, hL, hn, hs.t.t, h2⟩)
          · cases h
        · split at h
          · rename_i hp
            cases h
            have hty := qty_3 g5
            rw [List.map_cons, List.map_cons, qcv_ref hp.1.1]
            exact q_putH F hd hq hpl hf hp.1 rfl (by rw [hty]; exact (q_b01 hp.2).1) (by rw [hty]; exact (q_b01 hp.2).2) hv9.i hW hS (fun H1 locs1 h1 h2 => kk ad ac arr H1 locs1 cells slots (fun _ _ => ⟨rfl, rfl⟩) rfl rfl ⟨h1, hL, hn, hs.t.t, h2⟩)
          · cases h
        · cases h
      · cases h
    · cases h
  · cases h

theorem va_ald99 {D : va_G} {cl : List vw_C} {tys : List (ClassId × FieldType)} {ws : va_W} {H : Heap} {locs : List Loc} {cells slots pc a : Nat} {ls : Array Slot} {rest : List Value} {cc : ByteArray} (hexec : p.tables.exec = Jvm.exec) (hb : c.code = cc) (hK : va_K D cl tys s) (hP : va_P D cl ws H) (q0 t0 : Nat) {cA : ClassId} {e0 c0 n : Nat} {f : Nat → Option Nat} (ha : ws[q0]? = some (a, .inl (cA, n, .inr (.inr (.inr (.inr f)))))) (ht : tys[t0]? = some (cA, qet 2 c0)) {i : Int32} (hin : vp_in i n) (hdg : decode cc pc = .ok (.aaload, 1))
    (kk : W p l e R s m args below meth c H locs cells slots Q (F0 m (pc + 1) ls (va_rf (f i.toNatClampNeg) :: rest))) : W p l e R s m args below meth c H locs cells slots Q (F0 m pc ls (.int i :: .ref a :: rest)) := by
  have hlt : i.toNatClampNeg < n := Nat.not_le.mp fun q => hin (Or.inr q)
  have hty : qet 2 c0 = (if c0 = 99 then .array .long else .object (qcn c0)) := rfl
  rw [hty] at ht
  by_cases h9 : c0 = 99
  · rw [if_pos h9] at ht
    exact W.aald (v := va_rf (f i.toNatClampNeg)) (ty := .array .long) hexec hb (hP q0 _ ha) ((hK.2 t0 _ ht).1 n (fun j => va_rf (f j))) rfl (fun q => by cases q) (by show ¬ (i < 0 ∨ (arrV _ _ _).slots.size ≤ _); rw [arrV_size]; exact hin) (by show (arrV _ _ _).slots[_]? = _; rw [arrV_read _ _ hlt]) rfl rfl hdg kk
  · rw [if_neg h9] at ht
    exact va_aldq hexec hb hK hP q0 t0 ha ht hin hdg kk
theorem q_iaload (F : qFx p s m args meth c A H0 sa sc k) : qStep p l e R s m args below meth c Q D A H0 sa sc k (.iaload) := by
  intro len pc ls st w n pc' ls' st' w' n' ad ac arr H locs cells slots hd ho h X hr kk
  obtain ⟨hx, hb, hml, hown, hts, hinit, hA, hsc, hst⟩ := F
  have hlen : len = 1 := by simpa [qok, qlen] using ho
  subst hlen
  obtain ⟨hW, hL, hn, hs, hS⟩ := X
  simp only [qs1] at h
  split at h
  · rename_i i p0 r
    split at h
    · rename_i m0 x0 hpl
      split at h
      · rename_i hi
        split at h
        · rename_i hp
          cases h
          have he := qws_at (ad := ad) (ac := ac) (w := w) (n := n) (p := p0.toNat) (by omega) (by omega)
          rw [qce_a hpl] at he
          have hK := hW.2.2.2.1 p0.toNat _ _ _ (by omega) (by omega) hpl
          have hi9 := hs.h.2.i
          have hv := hW.2.2.2.2 p0.toNat (by omega) (by omega) i.toNat (by rw [hpl]; show i.toNat < m0; omega)
          rw [qkd_a hpl] at hv
          rw [List.map_cons, List.map_cons, qcv_ref hp.1]
          refine va_iald hx hb hK hW.1 (p0.toNat - 1) 0 he rfl (e_in hi9 hi.1 hi.2) hd ?_
          rw [e_cl hi9]
          exact kk ad ac arr H locs cells slots (fun _ _ => ⟨rfl, rfl⟩) rfl rfl ⟨hW, hL, hn, .cn (q4 rfl) (fun _ => hv) hs.t.t, hS⟩
        · cases h
      · cases h
    · cases h
  · rename_i i r
    split at h
    · rename_i L xs
      split at h
      · rename_i hi
        cases h
        obtain ⟨z1, z2, z3, z4, z5⟩ := hsc L xs rfl
        have hi9 := hs.h.2.i
        refine va_sld hx hb z1 z2 z3 hS (e_in hi9 hi.1 hi.2) hd ?_
        rw [e_cl hi9]
        exact kk ad ac arr H locs cells slots (fun _ _ => ⟨rfl, rfl⟩) rfl rfl ⟨hW, hL, hn, .cn (q4 rfl) (.mki (z5 _)) hs.t.t, hS⟩
      · cases h
    · cases h
  · cases h
theorem q_baload (F : qFx p s m args meth c A H0 sa sc k) : qStep p l e R s m args below meth c Q D A H0 sa sc k (.baload) := by
  intro len pc ls st w n pc' ls' st' w' n' ad ac arr H locs cells slots hd ho h X hr kk
  obtain ⟨hx, hb, hml, hown, hts, hinit, hA, hsc, hst⟩ := F
  have hlen : len = 1 := by simpa [qok, qlen] using ho
  subst hlen
  obtain ⟨hW, hL, hn, hs, hS⟩ := X
  simp only [qs1] at h
  split at h
  · rename_i i p0 r
    split at h
    · rename_i m0 x0 hpl
      split at h
      · rename_i hi
        split at h
        · rename_i hp
          cases h
          have he := qws_at (ad := ad) (ac := ac) (w := w) (n := n) (p := p0.toNat) (by omega) (by omega)
          rw [qce_a hpl] at he
          have hK := hW.2.2.2.1 p0.toNat _ _ _ (by omega) (by omega) hpl
          have hi9 := hs.h.2.i
          have hv := hW.2.2.2.2 p0.toNat (by omega) (by omega) i.toNat (by rw [hpl]; show i.toNat < m0; omega)
          rw [qkd_a hpl] at hv
          rw [List.map_cons, List.map_cons, qcv_ref hp.1]
          refine va_zald hx hb hK hW.1 (p0.toNat - 1) 0 he rfl (e_in hi9 hi.1 hi.2) hd ?_
          rw [e_cl hi9]
          exact kk ad ac arr H locs cells slots (fun _ _ => ⟨rfl, rfl⟩) rfl rfl ⟨hW, hL, hn, .cn (q4 rfl) (fun _ => hv) hs.t.t, hS⟩
        · cases h
      · cases h
    · rename_i m0 x0 hpl
      split at h
      · rename_i hi
        split at h
        · rename_i hp
          cases h
          have he := qws_at (ad := ad) (ac := ac) (w := w) (n := n) (p := p0.toNat) (by omega) (by omega)
          rw [qce_a hpl] at he
          have hK := hW.2.2.2.1 p0.toNat _ _ _ (by omega) (by omega) hpl
          have hi9 := hs.h.2.i
          have hv := hW.2.2.2.2 p0.toNat (by omega) (by omega) i.toNat (by rw [hpl]; show i.toNat < m0; omega)
          rw [qkd_a hpl] at hv
          rw [List.map_cons, List.map_cons, qcv_ref hp.1]
          refine va_bald hx hb hK hW.1 (p0.toNat - 1) 0 he rfl (e_in hi9 hi.1 hi.2) hd ?_
          rw [e_cl hi9]
          exact kk ad ac arr H locs cells slots (fun _ _ => ⟨rfl, rfl⟩) rfl rfl ⟨hW, hL, hn, .cn (q4 rfl) (fun _ => hv) hs.t.t, hS⟩
        · cases h
      · cases h
    · cases h
  · cases h
theorem q_laload (F : qFx p s m args meth c A H0 sa sc k) : qStep p l e R s m args below meth c Q D A H0 sa sc k (.laload) := by
  intro len pc ls st w n pc' ls' st' w' n' ad ac arr H locs cells slots hd ho h X hr kk
  obtain ⟨hx, hb, hml, hown, hts, hinit, hA, hsc, hst⟩ := F
  have hlen : len = 1 := by simpa [qok, qlen] using ho
  subst hlen
  obtain ⟨hW, hL, hn, hs, hS⟩ := X
  simp only [qs1] at h
  split at h
  · rename_i i p0 r
    split at h
    · rename_i m0 x0 hpl
      split at h
      · rename_i hi
        split at h
        · rename_i hp
          cases h
          have he := qws_at (ad := ad) (ac := ac) (w := w) (n := n) (p := p0.toNat) (by omega) (by omega)
          rw [qce_a hpl] at he
          have hK := hW.2.2.2.1 p0.toNat _ _ _ (by omega) (by omega) hpl
          have hi9 := hs.h.2.i
          have hv := hW.2.2.2.2 p0.toNat (by omega) (by omega) i.toNat (by rw [hpl]; show i.toNat < m0; omega)
          rw [qkd_a hpl] at hv
          rw [List.map_cons, List.map_cons, qcv_ref hp.1]
          refine va_lald hx hb hK hW.1 (p0.toNat - 1) 0 he rfl (e_in hi9 hi.1 hi.2) hd ?_
          rw [e_cl hi9]
          exact kk ad ac arr H locs cells slots (fun _ _ => ⟨rfl, rfl⟩) rfl rfl ⟨hW, hL, hn, .cn (q4 rfl) (fun _ => hv) hs.t.t, hS⟩
        · cases h
      · cases h
    · cases h
  · cases h
theorem q_aaload (F : qFx p s m args meth c A H0 sa sc k) : qStep p l e R s m args below meth c Q D A H0 sa sc k (.aaload) := by
  intro len pc ls st w n pc' ls' st' w' n' ad ac arr H locs cells slots hd ho h X hr kk
  obtain ⟨hx, hb, hml, hown, hts, hinit, hA, hsc, hst⟩ := F
  have hlen : len = 1 := by simpa [qok, qlen] using ho
  subst hlen
  obtain ⟨hW, hL, hn, hs, hS⟩ := X
  simp only [qs1] at h
  split at h
  · rename_i i p0 r
    split at h
    · rename_i m0 x0 hpl
      split at h
      · rename_i hi
        split at h
        · rename_i hp
          cases h
          have he := qws_at (ad := ad) (ac := ac) (w := w) (n := n) (p := p0.toNat) (by omega) (by omega)
          rw [qce_a hpl] at he
          have hK := hW.2.2.2.1 p0.toNat _ _ _ (by omega) (by omega) hpl
          have hi9 := hs.h.2.i
          have hv := hW.2.2.2.2 p0.toNat (by omega) (by omega) i.toNat (by rw [hpl]; show i.toNat < m0; omega)
          rw [qkd_a hpl] at hv
          rw [List.map_cons, List.map_cons, qcv_ref hp.1]
          refine va_ald99 (e0 := 2) (c0 := x0) hx hb hK hW.1 (p0.toNat - 1) 0 he rfl (e_in hi9 hi.1 hi.2) hd ?_
          rw [e_cl hi9]
          exact kk ad ac arr H locs cells slots (fun _ _ => ⟨rfl, rfl⟩) rfl rfl ⟨hW, hL, hn, .cn (q4 rfl) (fun _ => hv) hs.t.t, hS⟩
        · cases h
      · cases h
    · cases h
  · cases h
theorem q_iastore (F : qFx p s m args meth c A H0 sa sc k) : qStep p l e R s m args below meth c Q D A H0 sa sc k (.iastore) := by
  intro len pc ls st w n pc' ls' st' w' n' ad ac arr H locs cells slots hd ho h X hr kk
  obtain ⟨hx, hb, hml, hown, hts, hinit, hA, hsc, hst⟩ := F
  have hlen : len = 1 := by simpa [qok, qlen] using ho
  subst hlen
  obtain ⟨hW, hL, hn, hs, hS⟩ := X
  simp only [qs1] at h
  split at h
  · rename_i v i p0 r
    split at h
    · rename_i m0 x0 hpl
      split at h
      · rename_i hi
        split at h
        · rename_i hp
          cases h
          have he := qws_at (ad := ad) (ac := ac) (w := w) (n := n) (p := p0.toNat) (by omega) (by omega)
          rw [qce_a hpl] at he
          have hK := hW.2.2.2.1 p0.toNat _ _ _ (by omega) (by omega) hpl
          have hi9 := hs.t.h.2.i
          have hv9 := hs.h.2
          rw [List.map_cons, List.map_cons, List.map_cons, qcv_ref hp.1]
          refine va_iast hx hb hK hW.1 hW.2.1 hS (p0.toNat - 1) 0 he rfl (e_in hi9 hi.1 hi.2) hd (fun H1 locs1 h1 h2 h3 => ?_)
          rw [e_cl hi9] at h1 h2
          have hset : (qws ad ac w n).set (p0.toNat - 1) (ad p0.toNat, .inl (ac p0.toNat, m0, .inl (upd (fun j => Int32.ofInt (w p0.toNat j)) i.toNat (Int32.ofInt v)))) = qws ad ac (qup w p0.toNat i.toNat v) n := by
            refine qws_set (by omega) (by omega) (fun q hq => qup_ne hq) ?_
            rw [qce_a hpl, qup_p]
            congr 3
            unfold qca
            congr 1
            funext j
            unfold upd
            dsimp only
            by_cases a : j = i.toNat
            · rw [if_pos a, if_pos a]
            · rw [if_neg a, if_neg a]
          rw [hset] at h1 h2
          exact kk ad ac arr H1 locs1 cells slots (fun _ _ => ⟨rfl, rfl⟩) rfl rfl ⟨⟨h1, h2, hW.2.2.1, hW.2.2.2.1, qup_rng hW.2.2.2.2 (by rw [qkd_a hpl]; exact hv9.i)⟩, hL, hn, hs.t.t.t, h3⟩
        · cases h
      · cases h
    · cases h
  · cases h
theorem q_bastore (F : qFx p s m args meth c A H0 sa sc k) : qStep p l e R s m args below meth c Q D A H0 sa sc k (.bastore) := by
  intro len pc ls st w n pc' ls' st' w' n' ad ac arr H locs cells slots hd ho h X hr kk
  obtain ⟨hx, hb, hml, hown, hts, hinit, hA, hsc, hst⟩ := F
  have hlen : len = 1 := by simpa [qok, qlen] using ho
  subst hlen
  obtain ⟨hW, hL, hn, hs, hS⟩ := X
  simp only [qs1] at h
  split at h
  · rename_i v i p0 r
    split at h
    · rename_i m0 x0 hpl
      split at h
      · rename_i hi
        split at h
        · rename_i hp
          cases h
          have he := qws_at (ad := ad) (ac := ac) (w := w) (n := n) (p := p0.toNat) (by omega) (by omega)
          rw [qce_a hpl] at he
          have hK := hW.2.2.2.1 p0.toNat _ _ _ (by omega) (by omega) hpl
          have hi9 := hs.t.h.2.i
          have hv9 := hs.h.2
          rw [List.map_cons, List.map_cons, List.map_cons, qcv_ref hp.1]
          refine va_zast hx hb hK hW.1 hW.2.1 hS (p0.toNat - 1) 0 he rfl (e_in hi9 hi.1.1 hi.1.2) hd (fun H1 locs1 h1 h2 h3 => ?_)
          rw [q_vz hi.2, e_cl hi9] at h1 h2
          have hset : (qws ad ac w n).set (p0.toNat - 1) (ad p0.toNat, .inl (ac p0.toNat, m0, .inl (upd (fun j => Int32.ofInt (w p0.toNat j)) i.toNat (Int32.ofInt v)))) = qws ad ac (qup w p0.toNat i.toNat v) n := by
            refine qws_set (by omega) (by omega) (fun q hq => qup_ne hq) ?_
            rw [qce_a hpl, qup_p]
            congr 3
            unfold qca
            congr 1
            funext j
            unfold upd
            dsimp only
            by_cases a : j = i.toNat
            · rw [if_pos a, if_pos a]
            · rw [if_neg a, if_neg a]
          rw [hset] at h1 h2
          exact kk ad ac arr H1 locs1 cells slots (fun _ _ => ⟨rfl, rfl⟩) rfl rfl ⟨⟨h1, h2, hW.2.2.1, hW.2.2.2.1, qup_rng hW.2.2.2.2 (by rw [qkd_a hpl]; exact hv9.i)⟩, hL, hn, hs.t.t.t, h3⟩
        · cases h
      · cases h
    · rename_i m0 x0 hpl
      split at h
      · rename_i hi
        split at h
        · rename_i hp
          cases h
          have he := qws_at (ad := ad) (ac := ac) (w := w) (n := n) (p := p0.toNat) (by omega) (by omega)
          rw [qce_a hpl] at he
          have hK := hW.2.2.2.1 p0.toNat _ _ _ (by omega) (by omega) hpl
          have hi9 := hs.t.h.2.i
          have hv9 := hs.h.2
          rw [List.map_cons, List.map_cons, List.map_cons, qcv_ref hp.1]
          refine va_bast hx hb hK hW.1 hW.2.1 hS (p0.toNat - 1) 0 he rfl (e_in hi9 hi.1.1 hi.1.2) hd (fun H1 locs1 h1 h2 h3 => ?_)
          rw [q_vb hi.2, e_cl hi9] at h1 h2
          have hset : (qws ad ac w n).set (p0.toNat - 1) (ad p0.toNat, .inl (ac p0.toNat, m0, .inl (upd (fun j => Int32.ofInt (w p0.toNat j)) i.toNat (Int32.ofInt v)))) = qws ad ac (qup w p0.toNat i.toNat v) n := by
            refine qws_set (by omega) (by omega) (fun q hq => qup_ne hq) ?_
            rw [qce_a hpl, qup_p]
            congr 3
            unfold qca
            congr 1
            funext j
            unfold upd
            dsimp only
            by_cases a : j = i.toNat
            · rw [if_pos a, if_pos a]
            · rw [if_neg a, if_neg a]
          rw [hset] at h1 h2
          exact kk ad ac arr H1 locs1 cells slots (fun _ _ => ⟨rfl, rfl⟩) rfl rfl ⟨⟨h1, h2, hW.2.2.1, hW.2.2.2.1, qup_rng hW.2.2.2.2 (by rw [qkd_a hpl]; exact hv9.i)⟩, hL, hn, hs.t.t.t, h3⟩
        · cases h
      · cases h
    · cases h
  · cases h
theorem q_lastore (F : qFx p s m args meth c A H0 sa sc k) : qStep p l e R s m args below meth c Q D A H0 sa sc k (.lastore) := by
  intro len pc ls st w n pc' ls' st' w' n' ad ac arr H locs cells slots hd ho h X hr kk
  obtain ⟨hx, hb, hml, hown, hts, hinit, hA, hsc, hst⟩ := F
  have hlen : len = 1 := by simpa [qok, qlen] using ho
  subst hlen
  obtain ⟨hW, hL, hn, hs, hS⟩ := X
  simp only [qs1] at h
  split at h
  · rename_i v i p0 r
    split at h
    · rename_i m0 x0 hpl
      split at h
      · rename_i hi
        split at h
        · rename_i hp
          cases h
          have he := qws_at (ad := ad) (ac := ac) (w := w) (n := n) (p := p0.toNat) (by omega) (by omega)
          rw [qce_a hpl] at he
          have hK := hW.2.2.2.1 p0.toNat _ _ _ (by omega) (by omega) hpl
          have hi9 := hs.t.h.2.i
          have hv9 := hs.h.2
          rw [List.map_cons, List.map_cons, List.map_cons, qcv_ref hp.1]
          refine va_last hx hb hK hW.1 hW.2.1 hS (p0.toNat - 1) 0 he rfl (e_in hi9 hi.1 hi.2) hd (fun H1 locs1 h1 h2 h3 => ?_)
          rw [e_cl hi9] at h1 h2
          have hset : (qws ad ac w n).set (p0.toNat - 1) (ad p0.toNat, .inl (ac p0.toNat, m0, .inr (.inl (vp_updL (fun j => Int64.ofInt (w p0.toNat j)) i.toNat (Int64.ofInt v))))) = qws ad ac (qup w p0.toNat i.toNat v) n := by
            refine qws_set (by omega) (by omega) (fun q hq => qup_ne hq) ?_
            rw [qce_a hpl, qup_p]
            congr 3
            unfold qca
            congr 1
            congr 1
            funext j
            unfold vp_updL
            dsimp only
            by_cases a : j = i.toNat
            · rw [if_pos a, if_pos a]
            · rw [if_neg a, if_neg a]
          rw [hset] at h1 h2
          exact kk ad ac arr H1 locs1 cells slots (fun _ _ => ⟨rfl, rfl⟩) rfl rfl ⟨⟨h1, h2, hW.2.2.1, hW.2.2.2.1, qup_rng hW.2.2.2.2 (by rw [qkd_a hpl]; exact hv9.lg)⟩, hL, hn, hs.t.t.t, h3⟩
        · cases h
      · cases h
    · cases h
  · cases h
theorem q_aastore (F : qFx p s m args meth c A H0 sa sc k) : qStep p l e R s m args below meth c Q D A H0 sa sc k (.aastore) := by
  intro len pc ls st w n pc' ls' st' w' n' ad ac arr H locs cells slots hd ho h X hr kk
  obtain ⟨hx, hb, hml, hown, hts, hinit, hA, hsc, hst⟩ := F
  have hlen : len = 1 := by simpa [qok, qlen] using ho
  subst hlen
  obtain ⟨hW, hL, hn, hs, hS⟩ := X
  simp only [qs1] at h
  split at h
  · rename_i v i p0 r
    split at h
    · rename_i m0 c0 ci m1 x1 hpl hpv
      split at h
      · rename_i hc
        have hc := Nat.eq_of_beq_eq_true hc
        subst hc
        split at h
        · rename_i hi
          split at h
          · rename_i hp
            cases h
            obtain ⟨y1, y2⟩ := qpl_o hpv
            have he := qws_at (ad := ad) (ac := ac) (w := w) (n := n) (p := p0.toNat) (by omega) (by omega)
            rw [qce_a hpl] at he
            have he2 := qws_at (ad := ad) (ac := ac) (w := w) (n := n) (p := v.toNat) (by omega) (by omega)
            rw [qce_o hpv] at he2
            have hK := hW.2.2.2.1 p0.toNat _ _ _ (by omega) (by omega) hpl
            have hty : qet 2 c0 = .object (qcn c0) := by
              show (if c0 = 99 then _ else _) = _
              rw [if_neg (by omega)]
            rw [hty] at hK
            have hi9 := hs.t.h.2.i
            rw [List.map_cons, List.map_cons, List.map_cons, qcv_ref hp.1.1, qcv_ref hp.2.1]
            refine va_astq (r := (qcn c0, qT c0, qNf c0)) hx hb hK hW.1 hW.2.1 hS (p0.toNat - 1) 0 (v.toNat - 1) c0 he rfl he2 (qcl_at y1) (e_in hi9 hi.1 hi.2) hd (fun H1 locs1 h1 h2 h3 => ?_)
            rw [e_cl hi9] at h1 h2
            have hset : (qws ad ac w n).set (p0.toNat - 1) (ad p0.toNat, .inl (ac p0.toNat, m0, .inr (.inr (.inr (.inr (va_up (fun j => qrf ad (w p0.toNat j)) i.toNat (some (ad v.toNat)))))))) = qws ad ac (qup w p0.toNat i.toNat v) n := by
              refine qws_set (by omega) (by omega) (fun q hq => qup_ne hq) ?_
              rw [qce_a hpl, qup_p]
              congr 3
              unfold qca
              congr 4
              funext j
              unfold va_up
              dsimp only
              by_cases a : j = i.toNat
              · rw [if_pos a, if_pos a]
                unfold qrf
                rw [if_neg (by omega)]
              · rw [if_neg a, if_neg a]
            rw [hset] at h1 h2
            exact kk ad ac arr H1 locs1 cells slots (fun _ _ => ⟨rfl, rfl⟩) rfl rfl ⟨⟨h1, h2, hW.2.2.1, hW.2.2.2.1, qup_rng hW.2.2.2.2 (by rw [qkd_a hpl]; exact hs.h.2 (Nat.le_of_ble_eq_true rfl))⟩, hL, hn, hs.t.t.t, h3⟩
          · cases h
        · cases h
      · cases h
    · cases h
  · cases h
theorem q_arraylength (F : qFx p s m args meth c A H0 sa sc k) : qStep p l e R s m args below meth c Q D A H0 sa sc k (.arraylength) := by
  intro len pc ls st w n pc' ls' st' w' n' ad ac arr H locs cells slots hd ho h X hr kk
  obtain ⟨hx, hb, hml, hown, hts, hinit, hA, hsc, hst⟩ := F
  have hlen : len = 1 := by simpa [qok, qlen] using ho
  subst hlen
  obtain ⟨hW, hL, hn, hs, hS⟩ := X
  simp only [qs1] at h
  split at h
  · rename_i p0 r
    split at h
    · rename_i e0 m0 x0 hpl
      split at h
      · rename_i hp
        cases h
        have he := qws_at (ad := ad) (ac := ac) (w := w) (n := n) (p := p0.toNat) (by omega) (by omega)
        rw [qce_a hpl] at he
        have hK := hW.2.2.2.1 p0.toNat _ _ _ (by omega) (by omega) hpl
        have hm := (qpl_a hpl).2.1
        rw [List.map_cons, qcv_ref hp.1]
        exact va_alen hx hb hK hW.1 (p0.toNat - 1) 0 he rfl (e_nat (show m0 < 2147483648 by omega)).symm hd (kk ad ac arr H locs cells slots (fun _ _ => ⟨rfl, rfl⟩) rfl rfl ⟨hW, hL, hn, .cn (q4 rfl) (.mki ⟨by omega, by omega⟩) hs.t, hS⟩)
      · cases h
    · cases h
  · rename_i r
    split at h
    · rename_i L xs
      cases h
      obtain ⟨z1, z2, z3, z4, z5⟩ := hsc L xs rfl
      refine va_slen hx hb z1 z2 z3 hS hd ?_
      rw [← e_nat z4]
      exact kk ad ac arr H locs cells slots (fun _ _ => ⟨rfl, rfl⟩) rfl rfl ⟨hW, hL, hn, .cn (q4 rfl) (.mki ⟨by omega, by omega⟩) hs.t, hS⟩
    · cases h
  · cases h
end QP
