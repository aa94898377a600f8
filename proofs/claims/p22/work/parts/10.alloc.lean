/-! one instruction of the plain run, and the machine's: what makes cells -/
theorem arrV_cg (c : ClassId) (K : Nat) {f g : Nat → Value} (h : ∀ j, j < K → f j = g j) : arrV c K f = arrV c K g := by
  unfold arrV
  congr 1
  exact congrArg Array.ofFn (funext fun j => h j.val j.isLt)
theorem qrf_cg {ad ad' : Nat → Nat} {n : Nat} {x : Int} (ha : ∀ i, i ≤ n → ad' i = ad i) (hx : 0 ≤ x ∧ x ≤ n) : qrf ad' x = qrf ad x := by
  unfold qrf
  rw [ha x.toNat (by omega)]
theorem qfv_cg {ad ad' : Nat → Nat} {n kd : Nat} {x : Int} (ha : ∀ i, i ≤ n → ad' i = ad i) (hx : qrx kd n x) : qfv ad' kd x = qfv ad kd x := by
  unfold qfv
  split
  · rfl
  · rw [qrf_cg ha hx]
  · rfl
theorem qca_cg {ad ad' : Nat → Nat} {n e m : Nat} {f : Nat → Int} (c : ClassId) (ha : ∀ i, i ≤ n → ad' i = ad i) (h : e = 2 → ∀ j, j < m → 0 ≤ f j ∧ f j ≤ n) : vp_cell c (m, qca ad' e f) = vp_cell c (m, qca ad e f) := by
  by_cases he : e = 2
  · subst he
    show vp_cell c (m, .inr (.inr (.inr (.inr (fun j => qrf ad' (f j)))))) = vp_cell c (m, .inr (.inr (.inr (.inr (fun j => qrf ad (f j))))))
    rw [vp_cell_q, vp_cell_q]
    exact arrV_cg _ _ (fun j hj => by rw [qrf_cg ha (h rfl j hj)])
  · unfold qca
    split
    · rfl
    · exact absurd rfl he
    · rfl
theorem qce_t {ad : Nat → Nat} {ac : Nat → ClassId} {w : qW} {p t e m c : Nat} (ht : t ≠ 0) (h : qpl p = (t, e, m, c)) : qce ad ac w p = .inl (ac p, m, qca ad e (w p)) := by
  unfold qce; rw [h]
  split
  · rename_i h9; cases h9; exact absurd rfl ht
  · rename_i h9; cases h9; rfl
theorem qkd_t {p t e m c j : Nat} (ht : t ≠ 0) (h : qpl p = (t, e, m, c)) : qkd p j = e := by
  unfold qkd; rw [h]
  split
  · rename_i h9; cases h9; exact absurd rfl ht
  · rename_i h9; cases h9; rfl
theorem q_atcg {D : va_G} {H : Heap} {a p n : Nat} {ad ad' : Nat → Nat} {ac ac' : Nat → ClassId} {w w' : qW} (hr : ∀ j, j < (qpl p).2.2.1 → qrx (qkd p j) n (w p j)) (ha : ∀ i, i ≤ n → ad' i = ad i) (hc : ac' p = ac p) (hw : w' p = w p) (h : va_at D vwCl (a, qce ad ac w p) H) : va_at D vwCl (a, qce ad' ac' w' p) H := by
  rcases hq : qpl p with ⟨t, e, m, x⟩
  by_cases ht : t = 0
  · subst ht
    rw [qce_o hq] at h ⊢
    have e9 : (List.range m).map (fun j => qfv ad' (qfk e j) (w' p j)) = (List.range m).map (fun j => qfv ad (qfk e j) (w p j)) := by
      apply List.map_congr_left
      intro j hj
      rw [hw]
      refine qfv_cg ha ?_
      have := hr j (by rw [hq]; exact List.mem_range.mp hj)
      rwa [qkd_o hq] at this
    rw [e9]; exact h
  · rw [qce_t ht hq] at h ⊢
    show H[a]? = some (vp_cell (ac' p) (m, qca ad' e (w' p)))
    rw [hc, hw, qca_cg (ac p) ha (fun he j hj => ?_)]
    · exact h
    · have := hr j (by rw [hq]; exact hj)
      rw [qkd_t ht hq, he] at this
      exact this
theorem qws_inv {ad : Nat → Nat} {ac : Nat → ClassId} {w : qW} {n k : Nat} {q : Nat × va_E} (h : (qws ad ac w n)[k]? = some q) : k < n ∧ q = (ad (k + 1), qce ad ac w (k + 1)) := by
  by_cases c : k < n
  · have := qws_at (ad := ad) (ac := ac) (w := w) (n := n) (p := k + 1) (by omega) (by omega)
    rw [show k + 1 - 1 = k by omega, h] at this
    exact ⟨c, Option.some.inj this⟩
  · rw [qws_none (by omega)] at h; cases h
theorem qP_of {D : va_G} {H : Heap} {ad : Nat → Nat} {ac : Nat → ClassId} {w : qW} {n : Nat} (h : ∀ p, 0 < p → p ≤ n → va_at D vwCl (ad p, qce ad ac w p) H) : va_P D vwCl (qws ad ac w n) H := by
  intro k q hk
  obtain ⟨h1, rfl⟩ := qws_inv hk
  exact h (k + 1) (by omega) (by omega)
theorem qP_at {D : va_G} {H : Heap} {ad : Nat → Nat} {ac : Nat → ClassId} {w : qW} {n p : Nat} {X : va_W} (h : va_P D vwCl (qws ad ac w n ++ X) H) (h0 : 0 < p) (h1 : p ≤ n) : va_at D vwCl (ad p, qce ad ac w p) H := by
  refine h (p - 1) _ ?_
  rw [List.getElem?_append_left (by rw [qws_len]; omega)]
  exact qws_at h0 h1
theorem va_D_fst {A : Nat → Prop} {ws ws' : va_W} (h : ws'.map Prod.fst = ws.map Prod.fst) (hD : va_D A ws) : va_D A ws' := by
  have key : ∀ (i : Nat) (p : Nat × va_E), ws'[i]? = some p → ∃ q, ws[i]? = some q ∧ q.1 = p.1 := by
    intro i p hp
    have h1 : (ws'.map Prod.fst)[i]? = some p.1 := by rw [List.getElem?_map, hp]; rfl
    rw [h, List.getElem?_map] at h1
    cases hq : ws[i]? with
    | none => rw [hq] at h1; cases h1
    | some q =>
      rw [hq] at h1
      exact ⟨q, rfl, Option.some.inj h1⟩
  refine ⟨fun i j p q hp hq e => ?_, fun k q hq => ?_⟩
  · obtain ⟨p', hp', e1⟩ := key i p hp
    obtain ⟨q', hq', e2⟩ := key j q hq
    exact hD.1 i j p' q' hp' hq' (by rw [e1, e2, e])
  · obtain ⟨q', hq', e2⟩ := key k q hq
    rw [← e2]; exact hD.2 k q' hq'
theorem qws_fst {ad : Nat → Nat} {ac : Nat → ClassId} {w : qW} {n : Nat} : (qws ad ac w n).map Prod.fst = (List.range n).map (fun i => ad (i + 1)) := by
  unfold qws; rw [List.map_map]; rfl
theorem qrx_mono {kd n n' : Nat} {x : Int} (hn : n ≤ n') (h : qrx kd n x) : qrx kd n' x := by
  unfold qrx at h ⊢
  split at h
  · exact h
  · exact ⟨h.1, by have := h.2; omega⟩
  · exact h
theorem qrg_mono {n n' : Nat} {v : qV} (hn : n ≤ n') (h : qrg n v) : qrg n' v := fun h3 => qrx_mono hn (h h3)
theorem qcv_cg {ad ad' sa : Nat → Nat} {n : Nat} {v : qV} (ha : ∀ i, i ≤ n → ad' i = ad i) (h : qrg n v) : qcv ad' sa v = qcv ad sa v := by
  obtain ⟨t, x⟩ := v
  match t, h with
  | 0, _ => rfl
  | 1, _ => rfl
  | 2, h => show va_rf (qrf ad' x) = va_rf (qrf ad x); rw [qrf_cg ha (h (Nat.le_of_ble_eq_true rfl))]
  | _ + 3, _ => rfl
theorem qLr.up {ad ad' sa : Nat → Nat} {n n' : Nat} {ls : List qV} {arr : Array Slot} (h : qLr ad sa n ls arr) (ha : ∀ i, i ≤ n → ad' i = ad i) (hn : n ≤ n') : qLr ad' sa n' ls arr :=
  ⟨h.1, fun i hi => by rw [qcv_cg ha (h.2.2 i)]; exact h.2.1 i hi, fun i => qrg_mono hn (h.2.2 i)⟩
theorem qSr.up {n n' : Nat} {st : List qV} (h : qSr n st) (hn : n ≤ n') : qSr n' st := fun v hv => ⟨(h v hv).1, qrg_mono hn (h v hv).2⟩
theorem q_stk {ad ad' sa : Nat → Nat} {n : Nat} {st : List qV} (h : qSr n st) (ha : ∀ i, i ≤ n → ad' i = ad i) : st.map (qcv ad' sa) = st.map (qcv ad sa) :=
  List.map_congr_left fun v hv => qcv_cg ha (h v hv).2
theorem qSz_s (n : Nat) : qSz (n + 1) = qSz n + (qpl (n + 1)).2.2.1 := by
  unfold qSz
  rw [List.range_succ, List.map_append, List.sum_append]
  simp
theorem va_up_at {α : Type} (f : Nat → α) (k : Nat) (v : α) : va_up f k v k = v := if_pos rfl
theorem va_up_ne9 {α : Type} (f : Nat → α) {k j : Nat} (v : α) (h : j ≠ k) : va_up f k v j = f j := if_neg h
/-- one cell more -/
theorem q_grow {D : va_G} {A : Nat → Prop} {s : State} {H H1 : Heap} {n q : Nat} {cA : ClassId} {x : va_E} {ad : Nat → Nat} {ac : Nat → ClassId} {w w' : qW} (hW : qWr D A s H ad ac w n)
    (hP : va_P D vwCl (qws ad ac w n ++ [(q, x)]) H1) (hD : va_D A (qws ad ac w n ++ [(q, x)])) (hw : ∀ p, p ≤ n → w' p = w p)
    (hx : va_at D vwCl (q, x) H1 → va_at D vwCl (q, qce (va_up ad (n + 1) q) (va_up ac (n + 1) cA) w' (n + 1)) H1)
    (hK : ∀ e m c, qpl (n + 1) = (1, e, m, c) → va_K D vwCl [(cA, qet e c)] s) (hr : ∀ j, j < (qpl (n + 1)).2.2.1 → qrx (qkd (n + 1) j) (n + 1) (w' (n + 1) j)) :
    qWr D A s H1 (va_up ad (n + 1) q) (va_up ac (n + 1) cA) w' (n + 1) := by
  have ha : ∀ i, i ≤ n → va_up ad (n + 1) q i = ad i := fun i hi => va_up_ne9 _ _ (by omega)
  refine ⟨qP_of fun p h0 h1 => ?_, va_D_fst ?_ hD, hW.2.2.1, fun p e m c h0 h1 hq => ?_, fun p h0 h1 j hj => ?_⟩
  · by_cases hp : p = n + 1
    · subst hp
      rw [va_up_at]
      refine hx (hP n _ ?_)
      rw [List.getElem?_append_right (by rw [qws_len]; omega), qws_len, Nat.sub_self]; rfl
    · rw [ha p (by omega)]
      exact q_atcg (hW.2.2.2.2 p h0 (by omega)) ha (va_up_ne9 _ _ hp) (hw p (by omega)) (qP_at hP h0 (by omega))
  · rw [qws_fst, List.map_append, qws_fst, List.range_succ, List.map_append]
    congr 1
    · apply List.map_congr_left
      intro i hi
      have := List.mem_range.mp hi
      exact ha (i + 1) (by omega)
    · show [va_up ad (n + 1) q (n + 1)] = [q]
      rw [va_up_at]
  · by_cases hp : p = n + 1
    · subst hp
      rw [va_up_at]
      exact hK e m c hq
    · rw [va_up_ne9 _ _ hp]
      exact hW.2.2.2.1 p e m c h0 (by omega) hq
  · by_cases hp : p = n + 1
    · subst hp
      exact hr j hj
    · rw [hw p (by omega)]
      exact qrx_mono (by omega) (hW.2.2.2.2 p h0 (by omega) j hj)
theorem qclr_lo {w : qW} {a p : Nat} (h : p < a) : qclr w a p = w p := by
  unfold qclr
  cases hb : Nat.ble a p
  · rfl
  · exact absurd (Nat.le_of_ble_eq_true hb) (by omega)
theorem qclr_hi {w : qW} {a p : Nat} (h : a ≤ p) : qclr w a p = fun _ => 0 := by
  unfold qclr
  rw [Nat.ble_eq_true_of_le h]; rfl
theorem qrx_0 (kd n : Nat) : qrx kd n 0 := by
  unfold qrx
  split
  · exact ⟨by decide, by decide⟩
  · exact ⟨by omega, by omega⟩
  · exact ⟨by decide, by decide⟩
noncomputable def qckY (c : Nat) : Bool := (List.range (qNf c)).all (fun j => qtyk (qty c j) (qfk c j))
theorem qckY_all : (List.range 13).all qckY = true := by decide +kernel
theorem qY_ok {c j : Nat} (h : c < 13) (hj : j < qNf c) : qtyk (qty c j) (qfk c j) = true :=
  List.all_eq_true.mp (List.all_eq_true.mp qckY_all c (List.mem_range.mpr h)) j (List.mem_range.mpr hj)
theorem q_dv {ty : FieldType} {kd : Nat} (ad : Nat → Nat) (h : qtyk ty kd = true) : defaultValue ty = qfv ad kd 0 := by
  match kd, h with
  | 0, h => rw [qty_0 h]; rfl
  | 1, h => cases ty <;> first | rfl | exact Bool.noConfusion h
  | 2, h => rcases qty_2 h with ⟨C, rfl⟩ | ⟨t, rfl⟩ <;> rfl
  | 3, h => rw [qty_3 h]; rfl
  | _ + 4, h => cases ty <;> exact Bool.noConfusion h
theorem qC_in {o i ci : Nat} (h : qcl o i = some ci) (h9 : ci ≠ 99) : Cond.classLink (qcn o) i (qcn ci) ∈ qAL ∧ Cond.instantiable (qcn ci) (qNf ci) ∈ qAL ∧ Cond.initialized (qcn ci) ∈ qAL := by
  obtain ⟨h1, h2⟩ := qcl_bd h
  have hc := qall_of qckC_all h1 h2
  unfold qckC at hc
  rw [h] at hc
  replace hc : (if ci = 99 then qwd1 (qcp o i) (.classLink (qcn o) i ("[" ++ (FieldType.array .long).toString)) else Nat.blt ci 13 && qwd1 (qcp o i) (.classLink (qcn o) i (qcn ci)) && qwd1 (qpN ci) (.instantiable (qcn ci) (qNf ci)) && qwd1 (qpJ ci) (.initialized (qcn ci))) = true := hc
  rw [if_neg h9] at hc
  simp only [Bool.and_eq_true] at hc
  exact ⟨qwd1_in hc.1.1.2, qwd1_in hc.1.2, qwd1_in hc.2⟩
theorem qC_99 {o i : Nat} (h : qcl o i = some 99) : Cond.classLink (qcn o) i ("[" ++ (FieldType.array .long).toString) ∈ qAL := by
  obtain ⟨h1, h2⟩ := qcl_bd h
  have hc := qall_of qckC_all h1 h2
  unfold qckC at hc
  rw [h] at hc
  exact qwd1_in hc
noncomputable def qckR (p : Nat) : Bool := match qpl p with
  | (1, 2, m, c) => (Nat.beq c 2 || Nat.beq c 7 || (Nat.beq c 99 && Nat.ble 30 p && Nat.beq m 5))
  | _ => true
theorem qckR_all : (List.range 143).all qckR = true := by decide +kernel
theorem qpl_r {p m c : Nat} (h : qpl p = (1, 2, m, c)) : c = 2 ∨ c = 7 ∨ (c = 99 ∧ 30 ≤ p ∧ m = 5) := by
  have hc : qckR p = true := by
    by_cases h9 : p < 143
    · exact List.all_eq_true.mp qckR_all p (List.mem_range.mpr h9)
    · have hb : Nat.blt p 143 = false := by
        cases hq : Nat.blt p 143
        · rfl
        · exact absurd (Nat.blt_eq.mp hq) h9
      have : qpl p = (9, 0, 0, 0) := by unfold qpl; rw [hb]; rfl
      rw [this] at h; cases h
  unfold qckR at hc
  rw [h] at hc
  simp only [Bool.and_eq_true, Bool.or_eq_true] at hc
  rcases hc with (q | q) | q
  · exact Or.inl (Nat.eq_of_beq_eq_true q)
  · exact Or.inr (Or.inl (Nat.eq_of_beq_eq_true q))
  · exact Or.inr (Or.inr ⟨Nat.eq_of_beq_eq_true q.1.1, Nat.le_of_ble_eq_true q.1.2, Nat.eq_of_beq_eq_true q.2⟩)
section QA
variable {p : Program} {l : Launch} {e : Env} {R : Room} {s : State} {m : MethodId} {args : Array Value} {below : List Frame} {meth : Method} {c : Code} {Q : State → Prop}
variable {D : va_G} {A : Nat → Prop} {H0 : Heap} {sa : Nat → Nat} {sc : Option (Nat × (Nat → Int))} {k : Nat}
theorem q_new {i : Nat} (F : qFx p s m args meth c A H0 sa sc k) : qStep p l e R s m args below meth c Q D A H0 sa sc k (.new i) := by
  intro len pc ls st w n pc' ls' st' w' n' ad ac arr H locs cells slots hd ho h X hr kk
  obtain ⟨hx, hb, hml, hown, hts, hinit, hA, hsc, hst⟩ := F
  have hlen : len = 3 := by simpa [qok, qlen] using ho
  subst hlen
  obtain ⟨hW, hL, hn, hs, hS⟩ := X
  simp only [qs1] at h
  split at h
  · rename_i ci c0 m0 x0 hq hpl
    split at h
    · rename_i hc
      have hc := Nat.eq_of_beq_eq_true hc
      subst hc
      cases h
      obtain ⟨y1, y2⟩ := qpl_o hpl
      subst y2
      obtain ⟨g1, g2, g3⟩ := qC_in hq (by omega)
      have hsz := qSz_s n
      rw [hpl] at hsz
      have hsz : qSz (n + 1) = qSz n + qNf c0 := hsz
      refine va_new (ci := c0) (C := qcn c0) (T := qT c0) (N := qNf c0) (fs := (List.range (qNf c0)).map (fun j => qfv ad (qfk c0 j) 0)) hx hb hts (qwT_in y1) (qty c0) (qty_ok y1) hown (hts _ g1) (hts _ g2) (hts _ g3) hW.2.2.1 hW.1 hW.2.1 hS hA (qcl_at y1) (fun j hj => ?_) (by omega) (by omega) hd (fun q H1 h1 h2 h3 => ?_)
      · rw [q_dv ad (qY_ok y1 hj)]
        unfold vp_V
        rw [List.getD_eq_getElem?_getD, List.getElem?_map, List.getElem?_range hj]; rfl
      · have ha : ∀ i, i ≤ n → va_up ad (n + 1) q i = ad i := fun i hi => va_up_ne9 _ _ (by omega)
        have K := kk (va_up ad (n + 1) q) (va_up ac (n + 1) (ac 0)) arr H1 locs (cells + 1) (slots + qNf c0) (fun i hi => ⟨ha i hi, va_up_ne9 _ _ (by omega)⟩) (by omega) (by omega)
          ⟨q_grow hW h1 h2 (fun p hp => qclr_lo (by omega)) (fun z => by
            rw [qce_o hpl, qclr_hi (Nat.le_refl _)]
            exact z) (fun e m c hq9 => by rw [hpl] at hq9; cases hq9) (fun j hj => by rw [qclr_hi (Nat.le_refl _)]; exact qrx_0 _ _), hL.up ha (by omega), hn, .cn (q4 rfl) (fun _ => ⟨by omega, by omega⟩) (hs.up (by omega)), h3⟩
        rw [List.map_cons, qcv_ref (by omega), q_stk hs ha, show ((n : Int) + 1).toNat = n + 1 by omega, va_up_at] at K
        exact K
    · cases h
  · cases h
theorem q_newarray {a : ArrayType} (F : qFx p s m args meth c A H0 sa sc k) : qStep p l e R s m args below meth c Q D A H0 sa sc k (.newarray a) := by
  intro len pc ls st w n pc' ls' st' w' n' ad ac arr H locs cells slots hd ho h X hr kk
  obtain ⟨hx, hb, hml, hown, hts, hinit, hA, hsc, hst⟩ := F
  have hlen : len = 2 := by simpa [qok, qlen] using ho
  subst hlen
  obtain ⟨hW, hL, hn, hs, hS⟩ := X
  simp only [qs1] at h
  split at h
  · rename_i v r e0 m0 x0 hpl
    split at h
    · rename_i hc
      have hc := Nat.eq_of_beq_eq_true hc
      split at h
      · rename_i hv
        cases h
        obtain ⟨y1, y2, y3⟩ := qpl_a hpl
        have hsz := qSz_s n
        rw [hpl] at hsz
        have hsz : qSz (n + 1) = qSz n + m0 := hsz
        have hv9 := hs.h.2.i
        have G : ∀ (ty : FieldType), newarray.typeOf a = ty → Cond.arrayClass ty ∈ qAL → qet e0 x0 = ty → componentBytes ty ≤ 8 → (∀ cA : ClassId, vp_cell cA (m0, qca ad e0 (fun _ => 0)) = arrV cA m0 (fun _ => defaultValue ty)) → W p l e R s m args below meth c H locs cells slots Q (F0 m pc arr (List.map (qcv ad sa) ((0, v) :: r))) := by
          intro ty t1 t2 t3 t4 t5
          refine va_newa (atype := a) (ty := ty) (a0 := (m0, qca ad e0 (fun _ => 0))) (N' := m0) hx hb (by rw [t1]; exact hts _ t2) t1 hW.2.2.1 hW.1 hW.2.1 hS hA t5 (by rw [e_neg1 hv9]; omega) (by rw [e_cl hv9]; omega) (Nat.le_trans (Nat.mul_le_mul y2 t4) (by decide)) (by omega) (by omega) hd (fun q cA H1 h0 h1 h2 h3 => ?_)
          have ha : ∀ i, i ≤ n → va_up ad (n + 1) q i = ad i := fun i hi => va_up_ne9 _ _ (by omega)
          have K := kk (va_up ad (n + 1) q) (va_up ac (n + 1) cA) arr H1 locs (cells + 1) (slots + m0) (fun i hi => ⟨ha i hi, va_up_ne9 _ _ (by omega)⟩) (by omega) (by omega)
            ⟨q_grow hW h1 h2 (fun p hp => qclr_lo (by omega)) (fun z => by
              rw [qce_a hpl, qclr_hi (Nat.le_refl _), va_up_at]
              show H1[q]? = some (vp_cell cA (m0, qca (va_up ad (n + 1) q) e0 (fun _ => 0)))
              rw [qca_cg (n := n) cA ha (fun _ _ _ => ⟨by omega, by omega⟩)]
              exact z) (fun e m c hq9 => by rw [hpl] at hq9; cases hq9; rw [t3]; exact h0) (fun j hj => by rw [qclr_hi (Nat.le_refl _)]; exact qrx_0 _ _), hL.up ha (by omega), hn, .cn (q4 rfl) (fun _ => ⟨by omega, by omega⟩) (hs.t.up (by omega)), h3⟩
          rw [List.map_cons, qcv_ref (by omega), q_stk hs.t ha, show ((n : Int) + 1).toNat = n + 1 by omega, va_up_at] at K
          exact K
        cases a
        case int => exact G .int rfl qwA_int (by rw [hc]; rfl) (by decide) (fun cA => by rw [hc]; rfl)
        case long => exact G .long rfl qwA_long (by rw [hc]; rfl) (by decide) (fun cA => by rw [hc]; rfl)
        case boolean => exact G .boolean rfl qwA_boolean (by rw [hc]; rfl) (by decide) (fun cA => by rw [hc]; rfl)
        case byte => exact G .byte rfl qwA_byte (by rw [hc]; rfl) (by decide) (fun cA => by rw [hc]; rfl)
        all_goals (exfalso; have : e0 = 8 := hc; omega)
      · cases h
    · cases h
  · cases h
theorem q_anewarray {i : Nat} (F : qFx p s m args meth c A H0 sa sc k) : qStep p l e R s m args below meth c Q D A H0 sa sc k (.anewarray i) := by
  intro len pc ls st w n pc' ls' st' w' n' ad ac arr H locs cells slots hd ho h X hr kk
  obtain ⟨hx, hb, hml, hown, hts, hinit, hA, hsc, hst⟩ := F
  have hlen : len = 3 := by simpa [qok, qlen] using ho
  subst hlen
  obtain ⟨hW, hL, hn, hs, hS⟩ := X
  simp only [qs1] at h
  split at h
  · rename_i ci v r m0 c0 hq hpl
    split at h
    · rename_i hc
      simp only [Bool.and_eq_true, Nat.blt_eq] at hc
      obtain ⟨hc, h13⟩ := hc
      have hc := Nat.eq_of_beq_eq_true hc
      subst hc
      split at h
      · rename_i hv
        cases h
        obtain ⟨y1, y2, y3⟩ := qpl_a hpl
        obtain ⟨g1, g2, g3⟩ := qC_in hq (by omega)
        have hsz := qSz_s n
        rw [hpl] at hsz
        have hsz : qSz (n + 1) = qSz n + m0 := hsz
        have hv9 := hs.h.2.i
        have hov : va_AO (qcn c0) s := by
          rcases qpl_r hpl with rfl | rfl | q
          · exact va_AO.of (hst.1.2.1 _ (by simp))
          · exact va_AO.of (hst.1.2.1 _ (by simp))
          · omega
        have hty : qet 2 c0 = .object (qcn c0) := by
          show (if c0 = 99 then _ else _) = _
          rw [if_neg (by omega)]
        refine va_newq (N' := m0) hx hb hown (hts _ g1) hov hW.2.2.1 hW.1 hW.2.1 hS hA (by rw [e_neg1 hv9]; omega) (by rw [e_cl hv9]; omega) (by omega) (by omega) (by omega) hd (fun q cA H1 h0 h1 h2 h3 => ?_)
        have ha : ∀ i, i ≤ n → va_up ad (n + 1) q i = ad i := fun i hi => va_up_ne9 _ _ (by omega)
        have K := kk (va_up ad (n + 1) q) (va_up ac (n + 1) cA) arr H1 locs (cells + 1) (slots + m0) (fun i hi => ⟨ha i hi, va_up_ne9 _ _ (by omega)⟩) (by omega) (by omega)
          ⟨q_grow hW h1 h2 (fun p hp => qclr_lo (by omega)) (fun z => by
            rw [qce_a hpl, qclr_hi (Nat.le_refl _), va_up_at]
            exact z) (fun e m c hq9 => by rw [hpl] at hq9; cases hq9; rw [hty]; exact h0) (fun j hj => by rw [qclr_hi (Nat.le_refl _)]; exact qrx_0 _ _), hL.up ha (by omega), hn, .cn (q4 rfl) (fun _ => ⟨by omega, by omega⟩) (hs.t.up (by omega)), h3⟩
        rw [List.map_cons, qcv_ref (by omega), q_stk hs.t ha, show ((n : Int) + 1).toNat = n + 1 by omega, va_up_at] at K
        exact K
      · cases h
    · cases h
  · cases h
end QA
