/-! the run of the plain program is the machine's: calls -/
theorem qaok_recv {t sk n : Nat} {as : List qV} (h : qaok t sk n as = true) (hsk : sk ≠ 0) : ∃ (b : Int) (r : List qV) (m x : Nat), as = (2, b) :: r ∧ qpl b.toNat = (0, qow t, m, x) ∧ 0 < b ∧ b ≤ n := by
  unfold qaok at h
  rw [Bool.and_eq_true] at h
  have h := h.2
  cases sk with
  | zero => exact absurd rfl hsk
  | succ j =>
    match as, h with
    | (2, b) :: r, h =>
      replace h : (match qpl b.toNat with
        | (0, c, _, _) => Nat.beq c (qow t) && decide (0 < b ∧ b ≤ n)
        | _ => false) = true := h
      split at h
      · rename_i c0 m0 x0 hpl
        simp only [Bool.and_eq_true, decide_eq_true_eq] at h
        have hc := Nat.eq_of_beq_eq_true h.1
        subst hc
        exact ⟨b, r, m0, x0, rfl, hpl, h.2.1, h.2.2⟩
      · cases h
    | [], h => exact absurd (show false = true from h) (by decide)
    | (0, _) :: _, h => exact absurd (show false = true from h) (by decide)
    | (1, _) :: _, h => exact absurd (show false = true from h) (by decide)
    | (_ + 3, _) :: _, h => exact absurd (show false = true from h) (by decide)
section QC
variable {p : Program} {l : Launch} {e : Env} {R : Room} {s : State} {m : MethodId} {args : Array Value} {below : List Frame} {meth : Method} {c : Code} {Q : State → Prop}
variable {D : va_G} {A : Nat → Prop} {H0 : Heap} {sa : Nat → Nat} {sc : Option (Nat × (Nat → Int))} {k : Nat}
theorem q_cl1 {X : qXt} (hX : qSound l X) (hM : qMono X) {d t na sk md i pc n n' cells slots : Nat} {ls st : List qV} {w w' : qW} {v : qV} {ad : Nat → Nat} {ac : Nat → ClassId} {arr : Array Slot} {H : Heap} {locs : List Loc}
    (h : qcl1 X sc d k t na sk md pc ls st w n = some (v, w', n')) (hq : qmd (qow k) i = some (t, na, sk)) (ht : t < 900 ∨ 908 < t)
    (hd : (md = 0 ∧ decode (qby k) pc = .ok (.invokestatic i, 3)) ∨ (md = 1 ∧ decode (qby k) pc = .ok (.invokevirtual i, 3)) ∨ (md = 2 ∧ decode (qby k) pc = .ok (.invokespecial i, 3))) (hk : k < 306)
    (F : qFx p s m args meth c A H0 sa sc k) (X0 : qRel D A s H0 sa k ls st w n ad ac arr H locs) (room : d ≤ R.frames ∧ 60 * d ≤ R.locals ∧ cells + n' ≤ R.cells + n ∧ slots + qSz n' ≤ R.slots + qSz n)
    (hend : qEnd p l e R s m args below meth c Q D A H0 k v w' n n' ad ac cells slots) :
    W p l e R s m args below meth c H locs cells slots Q (F0 m pc arr (st.map (qcv ad sa))) := by
  unfold qcl1 at h
  split at h
  · cases h
  rename_i d'
  split at h
  · rename_i hg
    split at h
    · rename_i v1 w1 n1 h1
      simp only [Bool.and_eq_true] at hg
      obtain ⟨⟨⟨⟨g1, g2⟩, g3⟩, g4⟩, g5⟩ := hg
      have g1 := Nat.le_of_ble_eq_true g1
      have g2 := Nat.le_of_ble_eq_true g2
      have g4 := Nat.le_of_ble_eq_true g4
      have F0' := F
      obtain ⟨hx, hb, hml, hown, hts, hinit, hA, hsc, hst⟩ := F
      obtain ⟨hW, hL, hn, hs, hS⟩ := X0
      obtain ⟨u1, u2, u3, u4, u5, u6, u7, u8, u9, u10, u11⟩ := qM_in hq
      obtain ⟨t305, hna, his, hlink⟩ := u7 ht
      obtain ⟨a1, a2, a3, a4, a5, a6, a7, a8, a9, a10, a11⟩ := qT_in t305
      obtain ⟨t1, t2⟩ := qtk_eq na st [] g1
      rw [List.append_nil] at t1
      have hlen : (qtk na st []).length = na := by rw [t1, List.length_reverse, List.length_take]; omega
      have hsas : qSr n (qtk na st []) := by rw [t1]; intro x hx9; exact hs x (List.mem_of_mem_take (List.mem_reverse.mp hx9))
      have hsr : qSr n (qdr na st) := by rw [t2]; intro x hx9; exact hs x (List.mem_of_mem_drop hx9)
      have hstk : st.map (qcv ad sa) = ((qtk na st []).map (qcv ad sa)).reverse ++ (qdr na st).map (qcv ad sa) := by
        rw [t1, t2, ← List.map_reverse, List.reverse_reverse, ← List.map_append, List.take_append_drop]
      generalize qtk na st [] = as at h1 g3 g4 hlen hsas hstk
      generalize qdr na st = rest at h g2 hsr hstk
      obtain ⟨m1, m2⟩ := hM _ _ _ _ _ _ _ _ _ _ _ h1
      have m3 := (hM _ _ _ _ _ _ _ _ _ _ _ h).1
      have z1 := qSz_mono m1
      have z2 := qSz_mono m3
      have MET := q_met hX hM h1 t305 hsas g4 D ad sa ac H.size
      have hroom : (qrm d' n n1).frames + 1 ≤ R.frames ∧ 8 + (qml t + 11) + (qrm d' n n1).locals ≤ R.locals := ⟨by show d' + 1 ≤ _; omega, by show 8 + (qml t + 11) + 60 * d' ≤ _; omega⟩
      have hsubA : ∀ q, va_A (qws ad ac w n) H.size q → A q := fun q h => by
        rcases h with ⟨k, e, hk⟩ | h
        · exact hW.2.1.2 k _ hk
        · exact hA q (Nat.le_trans hS.1 h)
      have hpre : ∀ U : State, U.heap = H → s.WarmedH U.vm → va_Pc (as.map (qcv ad sa)) (qB0 D ad sa ac w n H.size) (as.map (qcv ad sa)).toArray U := fun U hU hWm => ⟨rfl, by rw [hU], by rw [hU]; exact (hW.moved hWm.alike).weaken (fun _ _ => trivial), hst.1.warm hWm, by rw [hU]; exact (hst.2.go hS hsubA).moved hWm.alike⟩
      have hcat : (((rest.map (qcv ad sa)).map fun v => v.category).sum) ≤ 8 := by rw [qcat_sum]; exact g2
      have hsize : arr.size = qml k := by rw [hL.1.1, hn]
      have hf : cells + (n1 - n) ≤ R.cells ∧ slots + (qSz n1 - qSz n) ≤ R.slots := ⟨by omega, by omega⟩
      have hwd : ∀ w ∈ qwd t, w ∈ qAL := qwd_in t305
      rw [hstk]
      refine q_back (a := (as.map (qcv ad sa)).toArray) (w := w) (ac := ac) ?_ m2 m1 hA hW hsr hS (fun ad' ac' H' locs' hext hW1 hs1 hS1 => hX sc (d' + 1) k (pc + 3) ls (qpsh v1 rest) w1 n1 v w' n' h hk p e R s m args below meth c Q D A H0 sa ad' ac' arr H' locs' _ _ F0' ⟨hW1, hL.up (fun i hi => (hext i hi).1) m1, hn, hs1, hS1⟩ ⟨room.1, room.2.1, by omega, by omega⟩ (hend.next hext m1 (by omega) (by omega)))
      rcases hd with ⟨rfl, hd⟩ | ⟨rfl, hd⟩ | ⟨rfl, hd⟩
      · have g5 : Nat.beq sk 0 = true := g5
        have hsk : sk = 0 := Nat.eq_of_beq_eq_true g5
        subst hsk
        have hG : GoodIn qAL (va_wsS (qcn (qow k)) i (qnm t) (qwd t)) := qgood fun x hx9 => by
          rw [show qis t = true from his] at a2
          have hx9 : x ∈ ([.methodLink (qcn (qow k)) i (qnm t), .static (qnm t), .initialized (qnm t).cls] : List Cond) ++ qwd t := hx9
          rcases List.mem_append.mp hx9 with h9 | h9
          · simp only [List.mem_cons, List.not_mem_nil, or_false] at h9
            rcases h9 with rfl | rfl | rfl
            · exact hlink (by decide)
            · exact a2
            · exact a3
          · exact hwd x h9
        exact va_runS (As := as.map (qcv ad sa)) (rest := rest.map (qcv ad sa)) ⟨hx, hb, hml, hown, hts⟩ MET (va_cwS (qnp t) hts hG rfl rfl rfl ⟨a5.1, a5.2, a6⟩ hroom) ⟨qB0_blind _ _ _ _ _ _ _ _, hpre⟩ rfl (by rw [List.length_map, hlen, hna]; rfl) hsize rfl (lv_room hcat) hd hf
      · have g5 : (Nat.beq sk 1 && !qin t) = true := g5
        simp only [Bool.and_eq_true, Bool.not_eq_true'] at g5
        have hsk : sk = 1 := Nat.eq_of_beq_eq_true g5.1
        subst hsk
        obtain ⟨b, r, m0, x0, rfl, hpl, hb0, hbn⟩ := qaok_recv g3 (by decide)
        have his : qis t = false := his
        obtain ⟨b1, b2⟩ := a9 his g5.2
        rw [his] at a2
        have hG : GoodIn qAL (wsV (qcn (qow k)) i (qcn (qow t)) (qnm t) (qwd t)) := qgood fun x hx9 => by
          have hx9 : x ∈ ([.methodLink (qcn (qow k)) i (qnm t), .instanceMethod (qnm t), .selects (qcn (qow t)) (qnm t) (qnm t), .initialized (qcn (qow t))] : List Cond) ++ qwd t := hx9
          rcases List.mem_append.mp hx9 with h9 | h9
          · simp only [List.mem_cons, List.not_mem_nil, or_false] at h9
            rcases h9 with rfl | rfl | rfl | rfl
            · exact hlink (by decide)
            · exact a2
            · exact b1
            · rw [← a4]; exact a3
          · exact hwd x h9
        have he := qws_at (ad := ad) (ac := ac) (w := w) (n := n) (p := b.toNat) (by omega) (by omega)
        rw [qce_o hpl] at he
        rw [List.map_cons, qcv_ref hb0] at MET hpre ⊢
        rw [List.reverse_cons, List.append_assoc]
        have hlen' : (r.map (qcv ad sa)).length = qnp t := by
          have h9 : r.length + 1 = na := hlen
          rw [List.length_map]
          have h8 : na = qnp t + 1 := hna
          omega
        exact va_runV (As := r.map (qcv ad sa)) (rest := rest.map (qcv ad sa)) (b := ad b.toNat) (C := qcn (qow t)) ⟨hx, hb, hml, hown, hts⟩ MET (cwV (qnp t) hts hG rfl rfl rfl ⟨a4, a5.1, a5.2, a6⟩ hroom) ⟨qB0_blind _ _ _ _ _ _ _ _, va_recv hW.2.2.1 hW.1 (qcl_at b2) he, hpre⟩ rfl hlen' hsize rfl (lv_room hcat) hd hf
      · have g5 : (Nat.ble 1 sk && qin t) = true := g5
        simp only [Bool.and_eq_true] at g5
        have hsk : 1 ≤ sk := Nat.le_of_ble_eq_true g5.1
        obtain ⟨b1, b2, b3⟩ := a10 g5.2
        obtain ⟨b, r, m0, x0, rfl, hpl, hb0, hbn⟩ := qaok_recv g3 (by omega)
        rw [b3] at a2
        have hnm : (qnm t).name = "<init>" := by
          rw [a8] at g5; exact of_decide_eq_true g5.2
        have hG : GoodIn qAL (qwd t) := qgood hwd
        have hw : qwd t = Cond.code (qnm t) (qby t) (qml t) none :: qAL := by unfold qwd; rw [b1]
        rw [List.map_cons, qcv_ref hb0] at MET hpre ⊢
        rw [List.reverse_cons, List.append_assoc]
        have hlen' : (r.map (qcv ad sa)).length = qnp t := by
          have h9 : r.length + 1 = na := hlen
          rw [List.length_map]
          rw [if_neg (by omega)] at hna
          omega
        by_cases h2 : sk = 2
        · subst h2
          exact va_runIN (As := r.map (qcv ad sa)) (rest := rest.map (qcv ad sa)) (b := ad b.toNat) ⟨hx, hb, hml, hown, hts⟩ MET ⟨va_cnB (qnp t) hts hG hw rfl rfl (hst.1.2.2 _ _ _ _ hq) (hts _ a3) ⟨a5.1, a5.2, a6⟩ hroom, hnm, hts _ a2⟩ ⟨qB0_blind _ _ _ _ _ _ _ _, hpre⟩ rfl hlen' hsize rfl (lv_room hcat) hd hf
        · exact va_runI (As := r.map (qcv ad sa)) (rest := rest.map (qcv ad sa)) (b := ad b.toNat) ⟨hx, hb, hml, hown, hts⟩ MET (cwI (qnp t) hts hG hw rfl rfl (hts _ a3) (hts _ (hlink h2)) (hts _ a2) hnm ⟨a5.1, a5.2, a6⟩ hroom) ⟨qB0_blind _ _ _ _ _ _ _ _, hpre⟩ rfl hlen' hsize rfl (lv_room hcat) hd hf
    · cases h
  · cases h
theorem q_ac {i na sk d pc n pc' n' cells slots : Nat} {ls st ls' st' : List qV} {w w' : qW} {ad : Nat → Nat} {ac : Nat → ClassId} {arr : Array Slot} {H : Heap} {locs : List Loc}
    (h : qac pc ls st w n = some (pc', ls', st', w', n')) (hq : qmd (qow k) i = some (901, na, sk)) (hd : decode (qby k) pc = .ok (.invokestatic i, 3)) (g2 : qcat (qdr 5 st) ≤ 8)
    (F : qFx p s m args meth c A H0 sa sc k) (X0 : qRel D A s H0 sa k ls st w n ad ac arr H locs) (r1 : 1 ≤ R.frames) (r2 : 60 ≤ R.locals)
    (kk : ∀ (H' : Heap) (locs' : List Loc), qRel D A s H0 sa k ls' st' w' n' ad ac arr H' locs' → W p l e R s m args below meth c H' locs' cells slots Q (F0 m pc' arr (st'.map (qcv ad sa)))) :
    W p l e R s m args below meth c H locs cells slots Q (F0 m pc arr (st.map (qcv ad sa))) := by
  obtain ⟨hx, hb, hml, hown, hts, hinit, hA, hsc, hst⟩ := F
  obtain ⟨hW, hL, hn, hs, hS⟩ := X0
  unfold qac at h
  split at h
  · rename_i m9 d9 b9 s9 a9 r
    split at h
    · rename_i la xa lb xb hpa hpb
      split at h
      · rename_i hc
        cases h
        obtain ⟨⟨c1, c2, c3, c4, c5⟩, c6, c7⟩ := hc
        have i1 := hs.h.2.i
        have i2 := hs.t.h.2.i
        have i3 := hs.t.t.t.h.2.i
        have hea := qws_at (ad := ad) (ac := ac) (w := w) (n := n) (p := a9.toNat) (by omega) (by omega)
        rw [qce_a hpa] at hea
        have heb := qws_at (ad := ad) (ac := ac) (w := w) (n := n) (p := b9.toNat) (by omega) (by omega)
        rw [qce_a hpb] at heb
        have hKa := hW.2.2.2.1 a9.toNat _ _ _ (by omega) (by omega) hpa
        have hKb := hW.2.2.2.1 b9.toNat _ _ _ (by omega) (by omega) hpb
        have g2 : qcat st' ≤ 8 := g2
        rw [List.map_cons, List.map_cons, List.map_cons, List.map_cons, List.map_cons, qcv_ref c6.1, qcv_ref c7.1]
        refine va_copyi (ty := .int) hx hb (by rw [hml, hL.1.1, hn]) hown (hts _ ((qM_in hq).2.1 rfl)) (hts _ qwYn) (hts _ qwYs) (hts _ qwYi) (qKi hKa hKb) hW.1 hW.2.1 hS (a9.toNat - 1) (b9.toNat - 1) 0 1 hea heb rfl rfl rfl (by rw [e_neg1 i3]; omega) (by rw [e_neg1 i2]; omega) (by rw [e_neg1 i1]; omega) (by rw [e_cl i3, e_cl i1]; omega) (by rw [e_cl i2, e_cl i1]; omega) (fun _ _ => rfl) r1 (Nat.le_trans (Nat.add_le_add_right (by rw [qcat_sum]; exact g2) _) (Nat.le_trans (show 8 + (nativeFrameWords "java/lang/System" "arraycopy" 5 + 11) ≤ 60 by decide +kernel) r2)) hd (fun H1 locs1 h1 h2 h3 => ?_)
        rw [e_cl i1, e_cl i2, e_cl i3] at h1 h2
        have hset : (qws ad ac w n).set (b9.toNat - 1) (ad b9.toNat, .inl (ac b9.toNat, lb, .inl (va_cpy (fun j => Int32.ofInt (w a9.toNat j)) (fun j => Int32.ofInt (w b9.toNat j)) s9.toNat d9.toNat m9.toNat))) = qws ad ac (qcpy w a9.toNat b9.toNat s9.toNat d9.toNat m9.toNat) n := by
          refine qws_set (by omega) (by omega) (fun q hq9 => by unfold qcpy; rw [if_neg hq9]) ?_
          rw [qce_a hpb]
          congr 3
          unfold qca qcpy
          congr 1
          funext j
          unfold va_cpy
          rw [if_pos rfl]
          by_cases hj : d9.toNat ≤ j ∧ j < d9.toNat + m9.toNat
          · rw [if_pos hj, if_pos hj]
          · rw [if_neg hj, if_neg hj]
        rw [hset] at h1 h2
        refine kk H1 locs1 ⟨⟨h1, h2, hW.2.2.1, hW.2.2.2.1, fun p h0 h5 j hj => ?_⟩, hL, hn, hs.t.t.t.t.t, h3⟩
        unfold qcpy
        by_cases hp : p = b9.toNat
        · subst hp
          rw [if_pos rfl]
          rw [qkd_a hpb]
          by_cases hj9 : d9.toNat ≤ j ∧ j < d9.toNat + m9.toNat
          · rw [if_pos hj9]
            have := hW.2.2.2.2 a9.toNat (by omega) (by omega) (s9.toNat + (j - d9.toNat)) (by rw [hpa]; show _ < la; omega)
            rwa [qkd_a hpa] at this
          · rw [if_neg hj9]
            have := hW.2.2.2.2 b9.toNat h0 h5 j hj
            rwa [qkd_a hpb] at this
        · rw [if_neg hp]
          exact hW.2.2.2.2 p h0 h5 j hj
      · cases h
    · cases h
  · cases h
theorem qWr.keep {H H1 : Heap} {ad : Nat → Nat} {ac : Nat → ClassId} {w : qW} {n : Nat} (h : qWr D A s H ad ac w n) (hk : ∀ q : Nat, q < H.size → H1[q]? = H[q]?) : qWr D A s H1 ad ac w n := ⟨fun k q hq => (h.1 k q hq).kept (hk q.1 (h.1 k q hq).lt), h.2⟩
theorem q_tx {i t na sk pc n pc' n' cells slots : Nat} {ls st ls' st' : List qV} {w w' : qW} {ad : Nat → Nat} {ac : Nat → ClassId} {arr : Array Slot} {H : Heap} {locs : List Loc}
    (h : qmt t pc ls st w n = some (pc', ls', st', w', n')) (ht6 : 906 ≤ t) (hq : qmd (qow k) i = some (t, na, sk)) (hd : decode (qby k) pc = .ok (.invokevirtual i, 3)) (g2 : qcat (qdr na st) ≤ 8)
    (F : qFx p s m args meth c A H0 sa sc k) (X0 : qRel D A s H0 sa k ls st w n ad ac arr H locs) (r1 : 4 ≤ R.frames) (r2 : 240 ≤ R.locals) (r3 : cells ≤ R.cells) (r4 : slots ≤ R.slots)
    (kk : ∀ (H' : Heap) (locs' : List Loc), qRel D A s H0 sa k ls' st' w' n' ad ac arr H' locs' → W p l e R s m args below meth c H' locs' cells slots Q (F0 m pc' arr (st'.map (qcv ad sa)))) :
    W p l e R s m args below meth c H locs cells slots Q (F0 m pc arr (st.map (qcv ad sa))) := by
  obtain ⟨hx, hb, hml, hown, hts, hinit, hA, hsc, hst⟩ := F
  obtain ⟨hW, hL, hn, hs, hS⟩ := X0
  obtain ⟨u1, u2, u3, u4, u5, u6, u7, u8, u9, u10, u11⟩ := qM_in hq
  have hsize : arr.size = qml k := by rw [hL.1.1, hn]
  have hZ := hst.2.2
  unfold qmt at h
  split at h
  · omega
  · omega
  · omega
  · omega
  · rename_i x r
    have hna : na = 1 := u8 (by decide) (by decide)
    subst hna
    split at h
    · rename_i l9 hl9
      cases h
      obtain ⟨hx0, hl8⟩ := qtxb_in hl9
      obtain ⟨v, hT⟩ := hst.2.1 _ _ hl8
      rw [show (x - 1).toNat + 1 = x.toNat by omega] at hT
      obtain ⟨b1, b2⟩ := qtc_in hl8
      have hcat : (((r.map (qcv ad sa)).map fun v => v.category).sum) ≤ 8 := by rw [qcat_sum]; exact g2
      show W p l e R s m args below meth c H locs cells slots Q (F0 m pc arr (.ref (sa x.toNat) :: r.map (qcv ad sa)))
      refine va_calli (post := fun r (_ : Unit) => r = nI l9.length) (B := fun _ _ => True) (A1 := fun q => H.size ≤ q) (va_runV (As := []) (rest := r.map (qcv ad sa)) (b := sa x.toNat) (C := RJ0) ⟨hx, hb, hml, hown, hts⟩ (jc_length l (sa x.toNat) v l9.length (qtf l9) H.size (by omega)) (cwV 0 hts (jgV (u9 rfl) jw_i_length jw_v_length jw_n_RJ0 jws_length_in) rfl rfl rfl ⟨rfl, by decide, by decide, by decide +kernel⟩ ⟨by show 1 + 1 ≤ _; omega, by show 8 + (1 + 11) + 60 * 1 ≤ _; omega⟩) ⟨jq_blind _ _ _ _ _ _, jrecv hS hT, jpre hS hA hT hZ _⟩ rfl rfl hsize rfl (lv_room hcat) hd ⟨by omega, by omega⟩) hS (fun q h9 h => absurd h (Nat.not_le.mpr h9)) (fun q h => hA q (Nat.le_trans hS.1 h)) (fun r9 _ t9 H1 locs1 _ _ hr9 _ _ hk hS1 => ?_)
      subst hr9
      have K := kk H1 locs1 ⟨hW.keep (fun q h => hk q h (Nat.not_le.mpr h)), hL, hn, .cn (q4 rfl) (.mki ⟨by omega, by omega⟩) hs.t, hS1⟩
      have e1 : qcv ad sa (0, (l9.length : Int)) = .int (nI l9.length) := by
        show Value.int (Int32.ofInt (l9.length : Int)) = _
        rw [e_nat (by omega)]; rfl
      rw [List.map_cons, e1] at K
      exact K
    · cases h
  · rename_i i9 x r
    have hna : na = 2 := u8 (by decide) (by decide)
    subst hna
    split at h
    · rename_i l9 hl9
      split at h
      · rename_i hi9
        cases h
        obtain ⟨hx0, hl8⟩ := qtxb_in hl9
        obtain ⟨v, hT⟩ := hst.2.1 _ _ hl8
        rw [show (x - 1).toNat + 1 = x.toNat by omega] at hT
        obtain ⟨b1, b2⟩ := qtc_in hl8
        have hcat : (((r.map (qcv ad sa)).map fun v => v.category).sum) ≤ 8 := by rw [qcat_sum]; exact g2
        have ei : Int32.ofInt i9 = nI i9.toNat := by
          rw [show i9 = ((i9.toNat : Nat) : Int) by omega, e_nat (by omega), Int.toNat_natCast]; rfl
        show W p l e R s m args below meth c H locs cells slots Q (F0 m pc arr (.int (Int32.ofInt i9) :: .ref (sa x.toNat) :: r.map (qcv ad sa)))
        rw [ei]
        refine va_calli (post := fun r (_ : Unit) => r = ((qtf l9 i9.toNat &&& 255).toUInt32 % 65536).toInt32) (B := fun _ _ => True) (A1 := fun q => H.size ≤ q) (va_runV (As := [.int (nI i9.toNat)]) (rest := r.map (qcv ad sa)) (b := sa x.toNat) (C := RJ0) ⟨hx, hb, hml, hown, hts⟩ (jc_charAt l (sa x.toNat) v l9.length (qtf l9) H.size i9.toNat (by omega) (by omega)) (cwV 1 hts (jgV (u10 rfl) jw_i_charAt jw_v_charAt jw_n_RJ0 jws_charAt_in) rfl rfl rfl ⟨rfl, by decide, by decide, by decide +kernel⟩ ⟨by show 3 + 1 ≤ _; omega, by show 8 + (2 + 11) + 60 * 3 ≤ _; omega⟩) ⟨jq_blind _ _ _ _ _ _, jrecv hS hT, jpre hS hA hT hZ _⟩ rfl rfl hsize rfl (lv_room hcat) hd ⟨by omega, by omega⟩) hS (fun q h9 h => absurd h (Nat.not_le.mpr h9)) (fun q h => hA q (Nat.le_trans hS.1 h)) (fun r9 _ t9 H1 locs1 _ _ hr9 _ _ hk hS1 => ?_)
        subst hr9
        have hb9 := b2 i9.toNat
        have K := kk H1 locs1 ⟨hW.keep (fun q h => hk q h (Nat.not_le.mpr h)), hL, hn, .cn (q4 rfl) (.mki ⟨by omega, by omega⟩) hs.t.t, hS1⟩
        have e1 : qcv ad sa (0, l9.getD i9.toNat 0) = .int (((qtf l9 i9.toNat &&& 255).toUInt32 % 65536).toInt32) := by
          show Value.int (Int32.ofInt (l9.getD i9.toNat 0)) = _
          unfold qtf
          rw [qch7 hb9.1 hb9.2]
        rw [List.map_cons, e1] at K
        exact K
      · cases h
    · cases h
  · rename_i c9 x r
    have hna : na = 2 := u8 (by decide) (by decide)
    subst hna
    split at h
    · rename_i l9 hl9
      cases h
      obtain ⟨hx0, hl8⟩ := qtxb_in hl9
      obtain ⟨v, hT⟩ := hst.2.1 _ _ hl8
      rw [show (x - 1).toNat + 1 = x.toNat by omega] at hT
      obtain ⟨b1, b2⟩ := qtc_in hl8
      have i1 := hs.h.2.i
      have hcat : (((r.map (qcv ad sa)).map fun v => v.category).sum) ≤ 8 := by rw [qcat_sum]; exact g2
      show W p l e R s m args below meth c H locs cells slots Q (F0 m pc arr (.int (Int32.ofInt c9) :: .ref (sa x.toNat) :: r.map (qcv ad sa)))
      refine va_calli (post := fun r (_ : Unit) => r = (if Int32.ofInt c9 < 0 then -1 else if 255 < Int32.ofInt c9 then -1 else jix (qtf l9) (Int32.ofInt c9).toInt8.toInt32 l9.length 0)) (B := fun _ _ => True) (A1 := fun q => H.size ≤ q) (va_runV (As := [.int (Int32.ofInt c9)]) (rest := r.map (qcv ad sa)) (b := sa x.toNat) (C := RJ0) ⟨hx, hb, hml, hown, hts⟩ (jc_io1 l (sa x.toNat) v l9.length (qtf l9) H.size (Int32.ofInt c9) (by omega)) (cwV 1 hts (jgV (u11 rfl) jw_i_io1 jw_v_io1 jw_n_RJ0 jws_io1_in) rfl rfl rfl ⟨rfl, by decide, by decide, by decide +kernel⟩ ⟨by show 3 + 1 ≤ _; omega, by show 8 + (2 + 11) + 60 * 3 ≤ _; omega⟩) ⟨jq_blind _ _ _ _ _ _, jrecv hS hT, jpre hS hA hT hZ _⟩ rfl rfl hsize rfl (lv_room hcat) hd ⟨by omega, by omega⟩) hS (fun q h9 h => absurd h (Nat.not_le.mpr h9)) (fun q h => hA q (Nat.le_trans hS.1 h)) (fun r9 _ t9 H1 locs1 _ _ hr9 _ _ hk hS1 => ?_)
      subst hr9
      have hix := qix_in l9 c9 0 (Int.le_refl 0)
      have K := kk H1 locs1 ⟨hW.keep (fun q h => hk q h (Nat.not_le.mpr h)), hL, hn, .cn (q4 rfl) (.mki ⟨by omega, by omega⟩) hs.t.t, hS1⟩
      have e1 : qcv ad sa (0, qix l9 c9 0) = .int (if Int32.ofInt c9 < 0 then -1 else if 255 < Int32.ofInt c9 then -1 else jix (qtf l9) (Int32.ofInt c9).toInt8.toInt32 l9.length 0) := by
        show Value.int (Int32.ofInt (qix l9 c9 0)) = _
        rw [qix_ok i1 b1 b2]
      rw [List.map_cons, e1] at K
      exact K
    · cases h
  · cases h
theorem q_mt {i t na sk d pc n pc' n' cells slots : Nat} {ls st ls' st' : List qV} {w w' : qW} {ad : Nat → Nat} {ac : Nat → ClassId} {arr : Array Slot} {H : Heap} {locs : List Loc}
    (h : qmt t pc ls st w n = some (pc', ls', st', w', n')) (ht6 : t < 906) (hq : qmd (qow k) i = some (t, na, sk)) (hd : decode (qby k) pc = .ok (.invokestatic i, 3)) (g2 : qcat (qdr na st) ≤ 8)
    (F : qFx p s m args meth c A H0 sa sc k) (X0 : qRel D A s H0 sa k ls st w n ad ac arr H locs) (r1 : 1 ≤ R.frames) (r2 : 60 ≤ R.locals) (r3 : cells ≤ R.cells) (r4 : slots ≤ R.slots)
    (kk : qRel D A s H0 sa k ls' st' w' n' ad ac arr H locs → W p l e R s m args below meth c H locs cells slots Q (F0 m pc' arr (st'.map (qcv ad sa)))) :
    W p l e R s m args below meth c H locs cells slots Q (F0 m pc arr (st.map (qcv ad sa))) := by
  obtain ⟨hx, hb, hml, hown, hts, hinit, hA, hsc, hst⟩ := F
  obtain ⟨hW, hL, hn, hs, hS⟩ := X0
  obtain ⟨u1, u2, u3, u4, u5, u6, u7, u8, u9, u10, u11⟩ := qM_in hq
  have hsz : c.maxLocals = arr.size := by rw [hml, hL.1.1, hn]
  unfold qmt at h
  split at h
  · rename_i x r
    cases h
    have hna : na = 1 := u8 (by decide) (by decide)
    subst hna
    have i1 := hs.h.2.i
    have g2 : qcat r ≤ 8 := g2
    refine va_mabs hx hb hsz hown (hts _ (u3 rfl)) (hts _ qwMs_abs) (hts _ qwMi) (hts _ qwMc_abs) r1 (by rw [qcat_sum]; omega) r3 r4 hd ?_
    have e1 : (if (0 : Int32) ≤ Int32.ofInt x then Int32.ofInt x else 0 - Int32.ofInt x) = Int32.ofInt (if 0 ≤ x then x else wrp (0 - x)) := by
      have e0 : (0 : Int32) ≤ Int32.ofInt x ↔ 0 ≤ x := e_le (x := 0) e_z i1
      by_cases h0 : 0 ≤ x
      · rw [if_pos (e0.mpr h0), if_pos h0]
      · rw [if_neg (fun z => h0 (e0.mp z)), if_neg h0, ← e_sub]; rfl
    rw [e1]
    exact kk ⟨hW, hL, hn, .cn (q4 rfl) (.mki (by
      split
      · exact i1
      · exact wrp_in _)) hs.t, hS⟩
  · rename_i y x r
    cases h
    have hna : na = 2 := u8 (by decide) (by decide)
    subst hna
    have i1 := hs.h.2.i
    have i2 := hs.t.h.2.i
    have g2 : qcat r ≤ 8 := g2
    refine va_mmax hx hb hsz hown (hts _ (u4 rfl)) (hts _ qwMs_max) (hts _ qwMi) (hts _ qwMc_max) r1 (by rw [qcat_sum]; omega) r3 r4 hd ?_
    have e1 : (if Int32.ofInt x < Int32.ofInt y then Int32.ofInt y else Int32.ofInt x) = Int32.ofInt (if x < y then y else x) := by
      by_cases h0 : x < y
      · rw [if_pos ((e_lt i2 i1).mpr h0), if_pos h0]
      · rw [if_neg (fun z => h0 ((e_lt i2 i1).mp z)), if_neg h0]
    rw [e1]
    exact kk ⟨hW, hL, hn, .cn (q4 rfl) (.mki (by split <;> assumption)) hs.t.t, hS⟩
  · rename_i y x r
    cases h
    have hna : na = 2 := u8 (by decide) (by decide)
    subst hna
    have i1 := hs.h.2.i
    have i2 := hs.t.h.2.i
    have g2 : qcat r ≤ 8 := g2
    refine va_mmin hx hb hsz hown (hts _ (u5 rfl)) (hts _ qwMs_min) (hts _ qwMi) (hts _ qwMc_min) r1 (by rw [qcat_sum]; omega) r3 r4 hd ?_
    have e1 : (if Int32.ofInt y < Int32.ofInt x then Int32.ofInt y else Int32.ofInt x) = Int32.ofInt (if y < x then y else x) := by
      by_cases h0 : y < x
      · rw [if_pos ((e_lt i1 i2).mpr h0), if_pos h0]
      · rw [if_neg (fun z => h0 ((e_lt i1 i2).mp z)), if_neg h0]
    rw [e1]
    exact kk ⟨hW, hL, hn, .cn (q4 rfl) (.mki (by split <;> assumption)) hs.t.t, hS⟩
  · rename_i y x r
    cases h
    have hna : na = 2 := u8 (by decide) (by decide)
    subst hna
    have i1 := hs.h.2.lg
    have i2 := hs.t.h.2.lg
    have g2 : qcat r ≤ 8 := g2
    refine va_mmax_long hx hb hsz hown (hts _ (u6 rfl)) (hts _ qwMs_maxl) (hts _ qwMi) (hts _ qwMc_maxl) r1 (by rw [qcat_sum]; omega) r3 r4 hd ?_
    have e1 : (if Int64.ofInt y < Int64.ofInt x then Int64.ofInt x else Int64.ofInt y) = Int64.ofInt (if y < x then x else y) := by
      by_cases h0 : y < x
      · rw [if_pos ((e_llt i1 i2).mpr h0), if_pos h0]
      · rw [if_neg (fun z => h0 ((e_llt i1 i2).mp z)), if_neg h0]
    rw [e1]
    exact kk ⟨hW, hL, hn, .cn (q4 rfl) (.mkl (by split <;> assumption)) hs.t.t, hS⟩
  · omega
  · omega
  · omega
  · cases h
theorem q_inv {X : qXt} (hX : qSound l X) (hM : qMono X) {d md i pc n n' cells slots : Nat} {ls st : List qV} {w w' : qW} {v : qV} {ad : Nat → Nat} {ac : Nat → ClassId} {arr : Array Slot} {H : Heap} {locs : List Loc}
    (h : qinv X sc d k i md pc ls st w n = some (v, w', n'))
    (hd : (md = 0 ∧ decode (qby k) pc = .ok (.invokestatic i, 3)) ∨ (md = 1 ∧ decode (qby k) pc = .ok (.invokevirtual i, 3)) ∨ (md = 2 ∧ decode (qby k) pc = .ok (.invokespecial i, 3))) (hk : k < 306)
    (F : qFx p s m args meth c A H0 sa sc k) (X0 : qRel D A s H0 sa k ls st w n ad ac arr H locs) (room : d ≤ R.frames ∧ 60 * d ≤ R.locals ∧ cells + n' ≤ R.cells + n ∧ slots + qSz n' ≤ R.slots + qSz n)
    (hend : qEnd p l e R s m args below meth c Q D A H0 k v w' n n' ad ac cells slots) :
    W p l e R s m args below meth c H locs cells slots Q (F0 m pc arr (st.map (qcv ad sa))) := by
  have hmn := (qinv_mono hM h).1
  have hmz := qSz_mono hmn
  unfold qinv at h
  split at h
  · rename_i t na sk hq
    by_cases c0 : t = 900
    · subst c0
      rw [if_pos rfl] at h
      split at h
      · rename_i x r
        split at h
        · rename_i hg
          simp only [Bool.and_eq_true, decide_eq_true_eq] at hg
          obtain ⟨⟨g1, g2⟩, g3⟩ := hg
          have g1 := Nat.le_of_ble_eq_true g1
          have g2 := Nat.le_of_ble_eq_true g2
          have F0' := F
          obtain ⟨hx, hb, hml, hown, hts, hinit, hA, hsc, hst⟩ := F
          obtain ⟨hW, hL, hn, hs, hS⟩ := X0
          have hd : decode (qby k) pc = .ok (.invokespecial i, 3) := by
            rcases hd with ⟨z, _⟩ | ⟨z, _⟩ | ⟨_, z⟩
            · cases z
            · cases z
            · exact z
          have hcat : (((r.map (qcv ad sa)).map fun v => v.category).sum) ≤ 8 := by rw [qcat_sum]; exact g2
          rw [List.map_cons, qcv_ref g3]
          refine W.objInit hx hb hown (hts _ ((qM_in hq).1 rfl)) (hts _ qwOi) (hts _ qwOc) rfl (by show arr.size = _; rw [hml, hL.1.1, hn]) rfl hd (by omega) (by
            have : 2 * (F0 m pc arr (Value.ref (ad x.toNat) :: List.map (qcv ad sa) r)).monitorRoom + (((r.map (qcv ad sa)).map fun v => v.category).sum) ≤ 8 := lv_room hcat
            omega) ?_
          refine W.eq (g2 := F0 m (pc + 3) arr (r.map (qcv ad sa))) rfl ?_
          exact hX sc d k (pc + 3) ls r w n v w' n' h hk p e R s m args below meth c Q D A H0 sa ad ac arr H locs cells slots F0' ⟨hW, hL, hn, hs.t, hS⟩ room hend
        · cases h
      · cases h
    rw [if_neg c0] at h
    by_cases c1 : t = 901
    · subst c1
      rw [if_pos rfl] at h
      split at h
      · rename_i hg
        simp only [Bool.and_eq_true] at hg
        obtain ⟨⟨g1, g2⟩, g3⟩ := hg
        have g1 := Nat.eq_of_beq_eq_true g1
        have g2 := Nat.le_of_ble_eq_true g2
        have g3 := Nat.le_of_ble_eq_true g3
        subst g1
        have hd : decode (qby k) pc = .ok (.invokestatic i, 3) := by
          rcases hd with ⟨_, z⟩ | ⟨z, _⟩ | ⟨z, _⟩
          · exact z
          · cases z
          · cases z
        unfold qgo at h
        split at h
        · rename_i pc1 ls1 st1 w1 n1 h1
          have hn1 := qac_n h1
          subst hn1
          exact q_ac (d := d) h1 hq hd g3 F X0 (by omega) (by omega) (fun H' locs' X1 => hX sc d k pc1 ls1 st1 w1 n1 v w' n' h hk p e R s m args below meth c Q D A H0 sa ad ac arr H' locs' cells slots F X1 room hend)
        · cases h
      · cases h
    rw [if_neg c1] at h
    by_cases c2 : 902 ≤ t
    · rw [if_pos (Nat.ble_eq_true_of_le c2)] at h
      split at h
      · rename_i hg
        simp only [Bool.and_eq_true] at hg
        obtain ⟨g1, g3⟩ := hg
        have g3 := Nat.le_of_ble_eq_true g3
        unfold qmm at g1
        unfold qgo at h
        split at h
        · rename_i pc1 ls1 st1 w1 n1 h1
          have hn1 := qmt_n h1
          subst hn1
          by_cases c6 : 906 ≤ t
          · rw [Nat.ble_eq_true_of_le c6, cond_true, Bool.and_eq_true] at g1
            have g2 := Nat.le_of_ble_eq_true g1.2
            have g1 := Nat.eq_of_beq_eq_true g1.1
            subst g1
            have hd : decode (qby k) pc = .ok (.invokevirtual i, 3) := by
              rcases hd with ⟨z, _⟩ | ⟨_, z⟩ | ⟨z, _⟩
              · cases z
              · exact z
              · cases z
            exact q_tx h1 c6 hq hd g3 F X0 (by omega) (by omega) (by omega) (by omega) (fun H' locs' X1 => hX sc d k pc1 ls1 st1 w1 n1 v w' n' h hk p e R s m args below meth c Q D A H0 sa ad ac arr H' locs' cells slots F X1 room hend)
          · have c7 : Nat.ble 906 t = false := by
              cases hq9 : Nat.ble 906 t
              · rfl
              · exact absurd (Nat.le_of_ble_eq_true hq9) c6
            rw [c7, cond_false, Bool.and_eq_true] at g1
            have g2 := Nat.le_of_ble_eq_true g1.2
            have g1 := Nat.eq_of_beq_eq_true g1.1
            subst g1
            have hd : decode (qby k) pc = .ok (.invokestatic i, 3) := by
              rcases hd with ⟨_, z⟩ | ⟨z, _⟩ | ⟨z, _⟩
              · exact z
              · cases z
              · cases z
            exact q_mt (d := d) h1 (by omega) hq hd g3 F X0 (by omega) (by omega) (by omega) (by omega) (fun X1 => hX sc d k pc1 ls1 st1 w1 n1 v w' n' h hk p e R s m args below meth c Q D A H0 sa ad ac arr H locs cells slots F X1 room hend)
        · cases h
      · cases h
    · rw [if_neg (fun z => c2 (Nat.le_of_ble_eq_true z))] at h
      exact q_cl1 hX hM h hq (by omega) hd hk F X0 room hend
  · cases h
theorem q_st1 {X : qXt} (hX : qSound l X) (hM : qMono X) {d len pc n n' cells slots : Nat} {ins : Instr} {ls st : List qV} {w w' : qW} {v : qV} {ad : Nat → Nat} {ac : Nat → ClassId} {arr : Array Slot} {H : Heap} {locs : List Loc}
    (h : qst1 X sc d k ins len pc ls st w n = some (v, w', n')) (hd : decode (qby k) pc = .ok (ins, len)) (ho : qok pc ins len = true) (hk : k < 306)
    (F : qFx p s m args meth c A H0 sa sc k) (X0 : qRel D A s H0 sa k ls st w n ad ac arr H locs) (room : d ≤ R.frames ∧ 60 * d ≤ R.locals ∧ cells + n' ≤ R.cells + n ∧ slots + qSz n' ≤ R.slots + qSz n)
    (hend : qEnd p l e R s m args below meth c Q D A H0 k v w' n n' ad ac cells slots) :
    W p l e R s m args below meth c H locs cells slots Q (F0 m pc arr (st.map (qcv ad sa))) := by
  unfold qst1 at h
  split at h
  · have hlen : len = 1 := by simpa [qok, qlen] using ho
    subst hlen
    split at h
    · rename_i x
      split at h
      · rename_i hok
        cases h
        exact (hend pc ad ac arr H locs cells slots (fun _ _ => ⟨rfl, rfl⟩) rfl rfl X0.1 X0.2.2.2.2).1 x rfl (X0.2.2.2.1.h.2.i) hok hd
      · cases h
    · cases h
  · have hlen : len = 1 := by simpa [qok, qlen] using ho
    subst hlen
    split at h
    · split at h
      · rename_i hok
        cases h
        exact (hend pc ad ac arr H locs cells slots (fun _ _ => ⟨rfl, rfl⟩) rfl rfl X0.1 X0.2.2.2.2).2 rfl (Nat.eq_of_beq_eq_true hok) hd
      · cases h
    · cases h
  · have hlen : len = 3 := by simpa [qok, qlen] using ho
    subst hlen
    exact q_inv hX hM h (Or.inl ⟨rfl, hd⟩) hk F X0 room hend
  · have hlen : len = 3 := by simpa [qok, qlen] using ho
    subst hlen
    exact q_inv hX hM h (Or.inr (Or.inl ⟨rfl, hd⟩)) hk F X0 room hend
  · have hlen : len = 3 := by simpa [qok, qlen] using ho
    subst hlen
    exact q_inv hX hM h (Or.inr (Or.inr ⟨rfl, hd⟩)) hk F X0 room hend
  · unfold qgo at h
    split at h
    · rename_i pc1 ls1 st1 w1 n1 h1
      have m1 := qs1_mono h1
      have m2 := (hM _ _ _ _ _ _ _ _ _ _ _ h).1
      have z1 := qSz_mono m1
      have z2 := qSz_mono m2
      refine q_any F ins len pc ls st w n pc1 ls1 st1 w1 n1 ad ac arr H locs cells slots hd ho h1 X0 ⟨by omega, by omega⟩ (fun ad' ac' arr' H' locs' cells' slots' hext hc hsl X1 => ?_)
      exact hX sc d k pc1 ls1 st1 w1 n1 v w' n' h hk p e R s m args below meth c Q D A H0 sa ad' ac' arr' H' locs' cells' slots' F X1 ⟨room.1, room.2.1, by omega, by omega⟩ (hend.next hext m1 hc hsl)
    · cases h
end QC
theorem q_sound (l : Launch) : ∀ f, qSound l (qex f)
  | 0 => fun sc d k pc ls st w n v w' n' h => by
    have h : (none : qR) = some (v, w', n') := h
    cases h
  | f + 1 => fun sc d k pc ls st w n v w' n' h hk p e R s m args below meth c Q D A H0 sa ad ac arr H locs cells slots F X0 room hend => by
    have h : (match qcd k pc with
      | some (ins, len) => qst1 (qex f) sc d k ins len pc ls st w n
      | none => none) = some (v, w', n') := h
    split at h
    · rename_i ins len hq
      obtain ⟨hd, ho⟩ := qcd_ok hk hq
      exact q_st1 (q_sound l f) (q_mono f) h hd ho hk F X0 room hend
    · cases h
