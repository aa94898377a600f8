/-! one instruction of the plain run, and the machine's: constants, switches, cells -/
theorem qkn_bd {o i : Nat} {x : Nat × Int} (h : qkn o i = some x) : o < 16 ∧ i < 800 := by
  unfold qkn at h
  cases hb : (Nat.blt o 16 && Nat.blt i 800)
  · rw [hb] at h; cases h
  · simpa only [Bool.and_eq_true, Nat.blt_eq] using hb
theorem qfd_bd {o i : Nat} {x : Nat × Nat × Nat × Nat} (h : qfd o i = some x) : o < 16 ∧ i < 800 := by
  unfold qfd at h
  cases hb : (Nat.blt o 16 && Nat.blt i 800)
  · rw [hb] at h; cases h
  · simpa only [Bool.and_eq_true, Nat.blt_eq] using hb
theorem qmd_bd {o i : Nat} {x : Nat × Nat × Nat} (h : qmd o i = some x) : o < 16 ∧ i < 800 := by
  unfold qmd at h
  cases hb : (Nat.blt o 16 && Nat.blt i 800)
  · rw [hb] at h; cases h
  · simpa only [Bool.and_eq_true, Nat.blt_eq] using hb
theorem qcl_bd {o i : Nat} {x : Nat} (h : qcl o i = some x) : o < 16 ∧ i < 800 := by
  unfold qcl at h
  cases hb : (Nat.blt o 16 && Nat.blt i 800)
  · rw [hb] at h; cases h
  · simpa only [Bool.and_eq_true, Nat.blt_eq] using hb
theorem qK_i {o i : Nat} {v : Int} (h : qkn o i = some (0, v)) : Cond.constant (qcn o) i (Int32.ofInt v) ∈ qAL ∧ qi32 v := by
  obtain ⟨h1, h2⟩ := qkn_bd h
  have hc := qall_of qckK_all h1 h2
  unfold qckK at hc
  rw [h] at hc
  simp only [Bool.and_eq_true, decide_eq_true_eq] at hc
  exact ⟨qwd1_in hc.1, hc.2⟩
theorem qK_l {o i : Nat} {v : Int} (h : qkn o i = some (1, v)) : Cond.constantLong (qcn o) i (Int64.ofInt v) ∈ qAL ∧ qi64 v := by
  obtain ⟨h1, h2⟩ := qkn_bd h
  have hc := qall_of qckK_all h1 h2
  unfold qckK at hc
  rw [h] at hc
  simp only [Bool.and_eq_true, decide_eq_true_eq] at hc
  exact ⟨qwd1_in hc.1, hc.2⟩
theorem qK_s {o i : Nat} {v : Int} (h : qkn o i = some (3, v)) : ∃ tx, qtx[v.toNat - 1]? = some (qcn o, i, tx) ∧ 0 < v := by
  obtain ⟨h1, h2⟩ := qkn_bd h
  have hc := qall_of qckK_all h1 h2
  unfold qckK at hc
  rw [h] at hc
  replace hc : (match qtx[v.toNat - 1]? with
    | some (c, j, _) => decide (c = qcn o) && Nat.beq j i && decide (0 < v)
    | none => false) = true := hc
  split at hc
  · rename_i c j tx hq
    simp only [Bool.and_eq_true, decide_eq_true_eq] at hc
    obtain ⟨⟨rfl, h4⟩, h5⟩ := hc
    have h4 := Nat.eq_of_beq_eq_true h4
    subst h4
    exact ⟨tx, hq, h5⟩
  · cases hc
noncomputable def qckP (p : Nat) : Bool := match qpl p with
  | (0, c, m, _) => Nat.blt c 13 && Nat.beq m (qNf c)
  | (1, e, m, c) => Nat.ble e 4 && Nat.ble m 100000 && (!(Nat.beq e 2) || Nat.beq c 99 || Nat.blt c 13)
  | _ => true
theorem qckP_all : (List.range 143).all qckP = true := by decide +kernel
theorem qckP_of (p : Nat) : qckP p = true := by
  by_cases h : p < 143
  · exact List.all_eq_true.mp qckP_all p (List.mem_range.mpr h)
  · have hb : Nat.blt p 143 = false := by
      cases hq : Nat.blt p 143
      · rfl
      · exact absurd (Nat.blt_eq.mp hq) h
    have : qpl p = (9, 0, 0, 0) := by unfold qpl; rw [hb]; rfl
    unfold qckP
    rw [this]; rfl
theorem qpl_o {p c m x : Nat} (h : qpl p = (0, c, m, x)) : c < 13 ∧ m = qNf c := by
  have hc := qckP_of p
  unfold qckP at hc
  rw [h] at hc
  simp only [Bool.and_eq_true, Nat.blt_eq] at hc
  exact ⟨hc.1, Nat.eq_of_beq_eq_true hc.2⟩
theorem qpl_a {p e m c : Nat} (h : qpl p = (1, e, m, c)) : e ≤ 4 ∧ m ≤ 100000 ∧ (e = 2 → c = 99 ∨ c < 13) := by
  have hc := qckP_of p
  unfold qckP at hc
  rw [h] at hc
  simp only [Bool.and_eq_true, Bool.or_eq_true, Nat.blt_eq] at hc
  refine ⟨Nat.le_of_ble_eq_true hc.1.1, Nat.le_of_ble_eq_true hc.1.2, fun he => ?_⟩
  rcases hc.2 with (q | q) | q
  · rw [he] at q; cases q
  · exact Or.inl (Nat.eq_of_beq_eq_true q)
  · exact Or.inr q
theorem qce_o {ad : Nat → Nat} {ac : Nat → ClassId} {w : qW} {p c m x : Nat} (h : qpl p = (0, c, m, x)) : qce ad ac w p = .inr (c, (List.range m).map (fun j => qfv ad (qfk c j) (w p j))) := by
  unfold qce; rw [h]; rfl
theorem qce_a {ad : Nat → Nat} {ac : Nat → ClassId} {w : qW} {p e m c : Nat} (h : qpl p = (1, e, m, c)) : qce ad ac w p = .inl (ac p, m, qca ad e (w p)) := by
  unfold qce; rw [h]; rfl
theorem qkd_o {p c m x j : Nat} (h : qpl p = (0, c, m, x)) : qkd p j = qfk c j := by unfold qkd; rw [h]; rfl
theorem qkd_a {p e m c j : Nat} (h : qpl p = (1, e, m, c)) : qkd p j = e := by unfold qkd; rw [h]; rfl
theorem qcv_ref {ad sa : Nat → Nat} {p : Int} (h : 0 < p) : qcv ad sa (2, p) = .ref (ad p.toNat) := by
  show va_rf (qrf ad p) = _
  unfold qrf
  rw [if_neg (by omega)]; rfl
theorem qF_in {o i ci j kd fin : Nat} (h : qfd o i = some (ci, j, kd, fin)) : ci < 13 ∧ j < qNf ci ∧ Cond.fieldLink (qcn o) i (qT ci j).1 (qT ci j).2.1 (qT ci j).2.2.1 ∈ qAL ∧ kd = qfk ci j ∧ qtyk (qty ci j) kd = true ∧ (qT ci j).2.2.2 = Nat.beq fin 1 ∧ (fin = 0 ∨ (qT ci j).1 = qcn o) := by
  obtain ⟨h1, h2⟩ := qfd_bd h
  have hc := qall_of qckF_all h1 h2
  unfold qckF at hc
  rw [h] at hc
  simp only [Bool.and_eq_true, Bool.or_eq_true, decide_eq_true_eq, Nat.blt_eq] at hc
  obtain ⟨⟨⟨⟨⟨⟨a1, a2⟩, a3⟩, a4⟩, a5⟩, a6⟩, a7⟩ := hc
  exact ⟨a1, a2, qwd1_in a3, Nat.eq_of_beq_eq_true a4, a5, a6, a7.imp Nat.eq_of_beq_eq_true id⟩
theorem qrf_inj {ad : Nat → Nat} {ac : Nat → ClassId} {w : qW} {n : Nat} {A : Nat → Prop} (hD : va_D A (qws ad ac w n)) {x y : Int} (hx : 0 ≤ x ∧ x ≤ n) (hy : 0 ≤ y ∧ y ≤ n) (h : qrf ad x = qrf ad y) : x = y := by
  unfold qrf at h
  by_cases a : x = 0 <;> by_cases b : y = 0
  · omega
  · rw [if_pos a, if_neg b] at h; cases h
  · rw [if_neg a, if_pos b] at h; cases h
  · rw [if_neg a, if_neg b] at h
    injection h with h
    have := hD.1 (x.toNat - 1) (y.toNat - 1) _ _ (qws_at (by omega) (by omega)) (qws_at (by omega) (by omega)) h
    omega
theorem qtsw_of {f : Nat → Option qC} {pc : Nat} {x dflt : Int} {r : qC} : ∀ (l : List Int) (c : Int), qtsw f pc x dflt l c = some r → (∃ (j : Nat) (o : Int), l[j]? = some o ∧ x = c + j ∧ f (qtg pc o) = some r) ∨ ((x < c ∨ c + l.length ≤ x) ∧ f (qtg pc dflt) = some r)
  | [], c, h => Or.inr ⟨by simp; omega, h⟩
  | o :: l, c, h => by
    unfold qtsw at h
    by_cases hx : x = c
    · rw [if_pos hx] at h
      exact Or.inl ⟨0, o, rfl, by simpa using hx, h⟩
    · rw [if_neg hx] at h
      rcases qtsw_of l (c + 1) h with ⟨j, o', h1, h2, h3⟩ | ⟨h1, h2⟩
      · exact Or.inl ⟨j + 1, o', h1, by omega, h3⟩
      · refine Or.inr ⟨?_, h2⟩
        rcases h1 with h1 | h1
        · exact Or.inl (by omega)
        · exact Or.inr (by simp only [List.length_cons]; omega)
theorem qKi {D : va_G} {cl : List vw_C} {s : State} {t1 t2 : ClassId × FieldType} (h1 : va_K D cl [t1] s) (h2 : va_K D cl [t2] s) : va_K D cl [t1, t2] s := h1.app h2
section QH
variable {p : Program} {l : Launch} {e : Env} {R : Room} {s : State} {m : MethodId} {args : Array Value} {below : List Frame} {meth : Method} {c : Code} {Q : State → Prop}
variable {D : va_G} {A : Nat → Prop} {H0 : Heap} {sa : Nat → Nat} {sc : Option (Nat × (Nat → Int))} {k : Nat}
theorem q_ldc {i : Nat} (F : qFx p s m args meth c A H0 sa sc k) : qStep p l e R s m args below meth c Q D A H0 sa sc k (.ldc i) := by
  intro len pc ls st w n pc' ls' st' w' n' ad ac arr H locs cells slots hd ho h X hr kk
  obtain ⟨hx, hb, hml, hown, hts, hinit, hA, hsc, hst⟩ := F
  have hlen : len = 2 := by simpa [qok, qlen] using ho
  subst hlen
  obtain ⟨hW, hL, hn, hs, hS⟩ := X
  simp only [qs1] at h
  split at h
  · rename_i v hq
    cases h
    obtain ⟨h1, h2⟩ := qK_i hq
    exact lv_ldc hx hb hown (hts _ h1) hd (kk ad ac arr H locs cells slots (fun _ _ => ⟨rfl, rfl⟩) rfl rfl ⟨hW, hL, hn, .cn (q4 rfl) (.mki h2) hs, hS⟩)
  · rename_i v hq
    cases h
    obtain ⟨tx, h1, h2⟩ := qK_s hq
    have h3 := hst.1.1 _ _ h1
    rw [show v.toNat - 1 + 1 = v.toNat by omega] at h3
    exact va_ldcS hx hb hown h3 hd (kk ad ac arr H locs cells slots (fun _ _ => ⟨rfl, rfl⟩) rfl rfl ⟨hW, hL, hn, .cn (q4 rfl) .mk3 hs, hS⟩)
  · cases h
theorem va_ldcwS {cc : ByteArray} {pc : Nat} {ls : Array Slot} {rest : List Value} {H : Heap} {locs : List Loc} {cells slots : Nat} (hexec : p.tables.exec = Jvm.exec) (hb : c.code = cc) {own tx : String} {index q : Nat} (hown : s.vm.findClass own = some m.cls) (hZ : vk_R own index tx q s) (hdg : decode cc pc = .ok (.ldc_w index, 3))
    (k : W p l e R s m args below meth c H locs cells slots Q (F0 m (pc + 3) ls (.ref q :: rest))) : W p l e R s m args below meth c H locs cells slots Q (F0 m pc ls rest) := by
  intro T hT X
  obtain ⟨t, a1, b1⟩ := k T hT X
  exact ⟨t, X.ldcStringW hexec hown (text := tx) (a := q) hZ.1 hZ.2 (g := F0 m pc ls rest) rfl (by rw [hb]; exact hdg) t a1, b1⟩
theorem q_ldc_w {i : Nat} (F : qFx p s m args meth c A H0 sa sc k) : qStep p l e R s m args below meth c Q D A H0 sa sc k (.ldc_w i) := by
  intro len pc ls st w n pc' ls' st' w' n' ad ac arr H locs cells slots hd ho h X hr kk
  obtain ⟨hx, hb, hml, hown, hts, hinit, hA, hsc, hst⟩ := F
  have hlen : len = 3 := by simpa [qok, qlen] using ho
  subst hlen
  obtain ⟨hW, hL, hn, hs, hS⟩ := X
  simp only [qs1] at h
  split at h
  · rename_i v hq
    cases h
    obtain ⟨h1, h2⟩ := qK_i hq
    exact lv_ldcw hx hb hown (hts _ h1) hd (kk ad ac arr H locs cells slots (fun _ _ => ⟨rfl, rfl⟩) rfl rfl ⟨hW, hL, hn, .cn (q4 rfl) (.mki h2) hs, hS⟩)
  · rename_i v hq
    cases h
    obtain ⟨tx, h1, h2⟩ := qK_s hq
    have h3 := hst.1.1 _ _ h1
    rw [show v.toNat - 1 + 1 = v.toNat by omega] at h3
    exact va_ldcwS hx hb hown h3 hd (kk ad ac arr H locs cells slots (fun _ _ => ⟨rfl, rfl⟩) rfl rfl ⟨hW, hL, hn, .cn (q4 rfl) .mk3 hs, hS⟩)
  · cases h
theorem q_ldc2_w {i : Nat} (F : qFx p s m args meth c A H0 sa sc k) : qStep p l e R s m args below meth c Q D A H0 sa sc k (.ldc2_w i) := by
  intro len pc ls st w n pc' ls' st' w' n' ad ac arr H locs cells slots hd ho h X hr kk
  obtain ⟨hx, hb, hml, hown, hts, hinit, hA, hsc, hst⟩ := F
  have hlen : len = 3 := by simpa [qok, qlen] using ho
  subst hlen
  obtain ⟨hW, hL, hn, hs, hS⟩ := X
  simp only [qs1] at h
  split at h
  · rename_i v hq
    cases h
    obtain ⟨h1, h2⟩ := qK_l hq
    exact lv_ldc2 hx hb hown (hts _ h1) hd (kk ad ac arr H locs cells slots (fun _ _ => ⟨rfl, rfl⟩) rfl rfl ⟨hW, hL, hn, .cn (q4 rfl) (.mkl h2) hs, hS⟩)
  · cases h
theorem q_if_acmp {cd : Jvm.ClassFile.ACond} {off : Int} (F : qFx p s m args meth c A H0 sa sc k) : qStep p l e R s m args below meth c Q D A H0 sa sc k (.if_acmp cd off) := by
  intro len pc ls st w n pc' ls' st' w' n' ad ac arr H locs cells slots hd ho h X hr kk
  obtain ⟨hx, hb, hml, hown, hts, hinit, hA, hsc, hst⟩ := F
  simp only [qok, Bool.and_eq_true, decide_eq_true_eq] at ho
  obtain ⟨hlen, hi⟩ := ho
  have hlen := Nat.eq_of_beq_eq_true hlen
  subst hlen
  obtain ⟨hW, hL, hn, hs, hS⟩ := X
  simp only [qs1] at h
  split at h
  · rename_i y x r
    have hy := hs.h.2 (Nat.le_of_ble_eq_true rfl)
    have hx' := hs.t.h.2 (Nat.le_of_ble_eq_true rfl)
    refine lv_acmp_ne hx hb hd (qtg_eq hi) (fun q => ?_) (fun q => ?_)
    · rw [if_neg (fun z => q (by rw [z]))] at h
      cases h
      exact kk ad ac arr H locs cells slots (fun _ _ => ⟨rfl, rfl⟩) rfl rfl ⟨hW, hL, hn, hs.t.t, hS⟩
    · rw [if_pos (qrf_inj hW.2.1 hx' hy q)] at h
      cases h
      exact kk ad ac arr H locs cells slots (fun _ _ => ⟨rfl, rfl⟩) rfl rfl ⟨hW, hL, hn, hs.t.t, hS⟩
  · cases h
theorem q_tableswitch {d lo hi : Int} {offs : Array Int} (F : qFx p s m args meth c A H0 sa sc k) : qStep p l e R s m args below meth c Q D A H0 sa sc k (.tableswitch d lo hi offs) := by
  intro len pc ls st w n pc' ls' st' w' n' ad ac arr H locs cells slots hd ho h X hr kk
  obtain ⟨hx, hb, hml, hown, hts, hinit, hA, hsc, hst⟩ := F
  simp only [qok, Bool.and_eq_true, decide_eq_true_eq] at ho
  obtain ⟨⟨⟨⟨o1, o2⟩, o3⟩, o4⟩, o5⟩ := ho
  obtain ⟨hW, hL, hn, hs, hS⟩ := X
  simp only [qs1] at h
  split at h
  · rename_i x r
    have hx9 := hs.h.2.i
    rcases qtsw_of _ _ h with ⟨j, o, h1, h2, h3⟩ | ⟨h1, h2⟩
    · cases h3
      have hj : offs[j]? = some o := by rw [← Array.getElem?_toList]; exact h1
      have hlt : j < offs.size := (Array.getElem?_eq_some_iff.mp hj).1
      have ho9 := List.all_eq_true.mp o5 o (List.mem_of_getElem? h1)
      simp only [decide_eq_true_eq] at ho9
      refine lv_tableIn (off := o) hx hb hd (by rw [t32 hx9]; omega) (by rw [t32 hx9]; omega) ?_ (qtg_eq ho9) (kk ad ac arr H locs cells slots (fun _ _ => ⟨rfl, rfl⟩) rfl rfl ⟨hW, hL, hn, hs.t, hS⟩)
      rw [t32 hx9, show (x - lo).toNat = j by omega]
      exact hj
    · cases h2
      refine lv_tableOut hx hb hd ?_ (qtg_eq o4) (kk ad ac arr H locs cells slots (fun _ _ => ⟨rfl, rfl⟩) rfl rfl ⟨hW, hL, hn, hs.t, hS⟩)
      rw [t32 hx9]
      rw [Array.length_toList] at h1
      omega
  · cases h
theorem q_getfield {i : Nat} (F : qFx p s m args meth c A H0 sa sc k) : qStep p l e R s m args below meth c Q D A H0 sa sc k (.getfield i) := by
  intro len pc ls st w n pc' ls' st' w' n' ad ac arr H locs cells slots hd ho h X hr kk
  obtain ⟨hx, hb, hml, hown, hts, hinit, hA, hsc, hst⟩ := F
  have hlen : len = 3 := by simpa [qok, qlen] using ho
  subst hlen
  obtain ⟨hW, hL, hn, hs, hS⟩ := X
  simp only [qs1] at h
  split at h
  · rename_i ci j kd fin p0 r hq
    split at h
    · rename_i c0 m0 x0 hpl
      split at h
      · rename_i hc
        have hc := Nat.eq_of_beq_eq_true hc
        subst hc
        split at h
        · rename_i r' hp
          split at h
          · rename_i hn9
            cases h
            obtain ⟨g1, g2, g3, g4, g5, g6, g7⟩ := qF_in hq
            obtain ⟨y1, y2⟩ := qpl_o hpl
            subst y2
            have he := qws_at (ad := ad) (ac := ac) (w := w) (n := n) (p := p0.toNat) (by omega) (by omega)
            rw [qce_o hpl] at he
            have hv : ((List.range (qNf c0)).map (fun j => qfv ad (qfk c0 j) (w p0.toNat j)))[j]? = some (qfv ad (qfk c0 j) (w p0.toNat j)) := by
              rw [List.getElem?_map, List.getElem?_range g2]; rfl
            have hrg := hW.2.2.2.2 p0.toNat (by omega) (by omega) j (by rw [hpl]; exact g2)
            rw [qkd_o hpl] at hrg
            rw [List.map_cons, qcv_ref hn9.1]
            refine va_get (D := D) (ci := c0) (C := qcn c0) (T := qT c0) (N := qNf c0) hx hb hts (qwT_in g1) hown hW.2.2.1 hW.1 (p0.toNat - 1) he (qcl_at g1) j g2 (hts _ g3) (fun _ h9 => h9) hv hd ?_
            have hgo : W p l e R s m args below meth c H locs cells slots Q (F0 m (pc + 3) arr (List.map (qcv ad sa) st')) := kk ad ac arr H locs cells slots (fun _ _ => ⟨rfl, rfl⟩) rfl rfl ⟨hW, hL, hn, by
              rw [← g4] at hrg
              unfold qpush at hp
              split at hp <;> cases hp
              · exact .cn (q4 rfl) (fun _ => hrg) hs.t
              · exact .cn (q4 rfl) (fun _ => hrg) hs.t
              · exact .cn (q4 rfl) (fun _ => hrg) hs.t
              · exact .cn (q4 rfl) (fun _ => hrg) hs.t, hS⟩
            rw [← g4]
            unfold qpush at hp
            split at hp <;> cases hp <;> exact hgo
          · cases h
        · cases h
      · cases h
    · cases h
  · cases h
end QH
