section
-- ===== end of PART A; then your names; then what follows =====
/-! THE CLAIM OUT OF ONE WALK OF THE LAW'S BODY. Your part is whole_start (and what it stands on); all else here is the same for every law, but numbers. -/
noncomputable def R_law : String := "WoodenTurkLaw"
noncomputable def lw_P (b : Addr) (xs : List Int32) (args : Array Value) (s : State) : Prop := args = #[.ref b] ∧ s.IntsAt b xs ∧ xs.length ≤ 3072 ∧ (Jvm.Cond.and given_1 narrow_1).before args s = true
noncomputable def lw_Q (_ : Array Value) (s : State) (o : Outcome) (t : State) : Prop := o = .returned (some (.int 1)) ∧ Framed s o t [] 600000 7302250
noncomputable def lw_Z (below : List Frame) (a : Array Value) (s : State) : State → Prop := fun t => ∃ o, t.status = .running ∧ Ended t below o ∧ lw_Q a s o t
/-- the law's own end, with 1 on the stack, nothing written that was there before, its room as the claim has it -/
theorem lw_ret {p : Program} {l : Launch} {e : Env} {s : State} {m : MethodId} {below : List Frame} {meth : Method} {c : Code} {b : Nat} (hx : p.tables.exec = Jvm.exec) (hb : c.code = code) (hr : meth.sig.returnType = ret) (hlocks : meth.locks = false) {pc : Nat} {H : Heap} {ls : Array Slot} (hdg : decode code pc = .ok (.ireturn, 1)) : W p l e room_1 s m #[Value.ref b] below meth c H [] 600000 7302250 (lw_Z below #[Value.ref b] s) (F0 m pc ls [.int 1]) := by
  intro T hT X
  obtain ⟨fs, hret, hrun, hended, hW, hframe⟩ := X.leave (v := some (.int 1)) (hlocks := hlocks) (fun h => by rw [hr] at h; cases h)
  have hmeth' : T.vm.method? m = some meth := X.method'
  refine ⟨T.setFrames fs, ?_, .returned (some (.int 1)), hrun, hended, rfl, ⟨_, rfl⟩, hW, hframe⟩
  jvm_step X.here [X.here.top, hx, hb, hdg, hmeth', hr, ret, narrow_b1]
  (try refine ⟨rfl, ?_⟩); (try refine ⟨rfl, ?_⟩)
  first | (intro acts; rw [hret _ acts rfl rfl rfl]) | rw [hret _ _ rfl rfl rfl]
  exact Steps.refl _
/-- what holds at the law's entry: the machine, the code, the tables' words (any of lw_tbl by 'hts w (by decide +kernel)'), the script of L ints xs at the cell b, what the Statement gives of the start (any of its parts by flat_of_before) -/
noncomputable def lw_At (p : Program) (s : State) (m : MethodId) (meth : Method) (c : Code) (b L : Nat) (xs : Nat → Int32) : Prop :=
  p.tables.exec = Jvm.exec ∧ c.code = code ∧ meth.sig.returnType = ret ∧ c.maxLocals = 4 ∧ s.vm.findClass R_law = some m.cls ∧ (∀ w ∈ lw_tbl, w.before #[Value.ref b] s = true) ∧ va_X b L xs s s.heap ∧ b < s.heap.size ∧ meth.locks = false ∧ (Jvm.Cond.and given_1 narrow_1).before #[Value.ref b] s = true
/-! the law's plain run gives the claim -/
noncomputable def qLawOK : Prop := ∀ (L : Nat) (xs : Nat → Int), L ≤ 3072 → (∀ j, qi32 (xs j)) → ∃ (f : Nat) (w' : qW) (n' : Nat), n' ≤ 142 ∧ qex f (some (L, xs)) 200 305 0 [(3, 0), (9, 0), (9, 0), (9, 0)] [] (fun _ _ => 0) 0 = some ((0, 1), w', n')
noncomputable def qtxp : List Nat := [3195, 3196, 2238, 2239, 7236, 8003, 8004, 8005, 8006, 8007, 8008, 8009, 8010, 8011, 8012, 8013, 8014, 8015, 8016, 8017, 8018, 8019, 8020]
theorem qtx_all : (List.range 23).all (fun j => match qtx[j]?, qtxp[j]? with
  | some x, some p => decide (qwa p = some (Cond.stringRef x.1 x.2.1 x.2.2)) && decide (Cond.exactly (.string x.1 x.2.1) "java/lang/String" ∈ flatC (Jvm.Cond.and given_1 narrow_1))
  | _, _ => false) = true := by decide +kernel
theorem qtx_w {j : Nat} {x : String × Nat × String} (h : qtx[j]? = some x) : Cond.stringRef x.1 x.2.1 x.2.2 ∈ lw_tbl ∧ Cond.exactly (.string x.1 x.2.1) "java/lang/String" ∈ flatC (Jvm.Cond.and given_1 narrow_1) := by
  have hj : j < 23 := (List.getElem?_eq_some_iff.mp h).1
  have := List.all_eq_true.mp qtx_all j (List.mem_range.mpr hj)
  rw [h] at this
  split at this
  · rename_i x9 p9 h9 h8
    cases h9
    simp only [Bool.and_eq_true, decide_eq_true_eq] at this
    exact ⟨qwa_in this.1, this.2⟩
  · cases this
theorem qinst_all : (List.range 13).all (fun c => qwd1 (qpN c) (.instantiable (qcn c) (qNf c))) = true := by decide +kernel
theorem qnest_all : qall 16 800 (fun o i => match qmd o i with
  | some (t, _, 2) => Nat.blt t 900
  | _ => true) = true := by decide +kernel
theorem qnest_none {o i t na : Nat} (h : qmd o i = some (t, na, 2)) (c : ¬ (t < 900 ∨ 908 < t)) : False := by
  obtain ⟨h1, h2⟩ := qmd_bd h
  have := qall_of qnest_all h1 h2
  rw [h] at this
  have := Nat.blt_eq.mp this
  omega
theorem qnest_of {o i t na : Nat} (h : qmd o i = some (t, na, 2)) : Cond.methodLinkNest (qcn o) i (qnm t) RX11 ∈ lw_tbl := by
  obtain ⟨h1, h2⟩ := qmd_bd h
  have hc := qckM_of h1 h2
  unfold qckM at hc
  rw [h] at hc
  have ht := (qM_in h).2.2.2.2.2.2.1
  by_cases c : t < 900 ∨ 908 < t
  · replace hc : (if t = 900 then _ else if t = 901 then _ else if t = 902 then _ else if t = 903 then _ else if t = 904 then _ else if t = 905 then _ else if t = 906 then _ else if t = 907 then _ else if t = 908 then _ else _ && decide (qwa (qmp o i) = some (.methodLinkNest (qcn o) i (qnm t) RX11))) = true := hc
    rw [if_neg (by omega), if_neg (by omega), if_neg (by omega), if_neg (by omega), if_neg (by omega), if_neg (by omega), if_neg (by omega), if_neg (by omega), if_neg (by omega), Bool.and_eq_true, decide_eq_true_eq] at hc
    exact qwa_in hc.2
  · exact (qnest_none h c).elim
/-- what the Statement says of a text -/
noncomputable def xpT (w : String) (k : Nat) (l : List Int) : List Cond := .exactly (.string w k) "java/lang/String" :: .eq (.field (.string w k) "java/lang/String" "coder" "B") (.int 0) :: .arrayOf (.field (.string w k) "java/lang/String" "value" "[B") .byte :: .eq (.length (.field (.string w k) "java/lang/String" "value" "[B")) (.int (Int32.ofNat l.length)) :: (List.range l.length).map (fun j => .eq (.elem (.field (.string w k) "java/lang/String" "value" "[B") (.int (Int32.ofNat j))) (.int (qtf l j)))
noncomputable def qtxq : List Nat := [76, 141, 35, 70, 158, 170, 183, 197, 214, 230, 247, 264, 283, 303, 322, 343, 364, 388, 414, 441, 468, 497, 525]
theorem qtx_F : (List.range 23).all (fun j => match qtx[j]?, qtc[j]?, qtxq[j]? with
  | some x, some l, some p => decide (((flatC (Jvm.Cond.and given_1 narrow_1)).drop p).take (4 + l.length) = xpT x.1 x.2.1 l) && Nat.blt l.length 1000
  | _, _, _ => false) = true := by decide +kernel
theorem qtx_G {j : Nat} {x : String × Nat × String} {l : List Int} (h : qtx[j]? = some x) (hl : qtc[j]? = some l) : l.length < 1000 ∧ ∀ w ∈ xpT x.1 x.2.1 l, w ∈ flatC (Jvm.Cond.and given_1 narrow_1) := by
  have hj : j < 23 := (List.getElem?_eq_some_iff.mp h).1
  have := List.all_eq_true.mp qtx_F j (List.mem_range.mpr hj)
  rw [h, hl] at this
  split at this
  · rename_i x9 l9 p9 h9 h8 h7
    cases h9
    cases h8
    rw [Bool.and_eq_true, decide_eq_true_eq] at this
    refine ⟨Nat.blt_eq.mp this.2, fun w hw => ?_⟩
    rw [← this.1] at hw
    exact List.mem_of_mem_drop (List.mem_of_mem_take hw)
  · cases this
theorem qtz_F : decide (Cond.eq (.static "java/lang/String" "COMPACT_STRINGS" "Z") (.int 1) ∈ flatC (Jvm.Cond.and given_1 narrow_1)) = true ∧ decide (Cond.isRef (.static "jdk/internal/util/Preconditions" "SIOOBE_FORMATTER" "Ljava/util/function/BiFunction;") ∈ flatC (Jvm.Cond.and given_1 narrow_1)) = true := by decide +kernel
theorem whole_of (hLaw : qLawOK) {p : Program} {e : Env} {s : State} {m : MethodId} {below : List Frame} {meth : Method} {c : Code} (l : Launch) {b L : Nat} {xs : Nat → Int32} (hL : L ≤ 3072) (C0 : lw_At p s m meth c b L xs) : W p l e room_1 s m #[Value.ref b] below meth c s.heap [] 0 0 (lw_Z below #[Value.ref b] s) (entryFrame m ([Value.ref b] : List Value).toArray 4) := by
  obtain ⟨hx, hb, hr, hml, hown, hts, hX, hbl, hlocks, hgv⟩ := C0
  have hfl := flat_of_before _ hgv
  have hal : ∀ w ∈ qAL, w.before #[Value.ref b] s = true := fun w hw => hts w (List.mem_filter.mp hw).1
  -- the texts
  have hA9 : ∀ a : Nat, a < s.heap.size → ¬ (fun q => s.heap.size ≤ q) a := fun a ha => Nat.not_le.mpr ha
  have hstr : ∀ i : Nat, ∃ q : Nat × Nat, ∀ x, qtx[i]? = some x → vk_R x.1 x.2.1 x.2.2 q.1 s ∧ ∀ l, qtc[i]? = some l → jq_T q.1 q.2 l.length (qtf l) (fun q => s.heap.size ≤ q) s s.heap := fun i => by
    cases hq : qtx[i]? with
    | none => exact ⟨(0, 0), fun x h => by cases h⟩
    | some x =>
      obtain ⟨h1, h2⟩ := qtx_w hq
      obtain ⟨a, c0, cA, kA, q1, q2, q3, q4, q5, q6, -⟩ := Cond.exactly_spec (args := #[Value.ref b]) (first := s) (o := none) (s := s) (idx := []) (t := .string x.1 x.2.1) (cls := "java/lang/String") (hfl _ h2)
      have hR := vk_R.of (hts _ h1) q1
      cases hl : qtc[i]? with
      | none => exact ⟨(a, 0), fun y hy => by cases hy; exact ⟨hR, fun l h => by cases h⟩⟩
      | some l =>
        obtain ⟨hlen, hx9⟩ := qtx_G hq hl
        have e1 := hfl _ (hx9 _ (.tail _ (.head _)))
        have e2 := hfl _ (hx9 _ (.tail _ (.tail _ (.head _))))
        have e3 := hfl _ (hx9 _ (.tail _ (.tail _ (.tail _ (.head _)))))
        have e4 : ∀ j, j < l.length → (Cond.eq (.elem (.field (.string x.1 x.2.1) "java/lang/String" "value" "[B") (.int (Int32.ofNat j))) (.int (qtf l j))).before #[Value.ref b] s = true := fun j hj =>
          hfl _ (hx9 _ (.tail _ (.tail _ (.tail _ (.tail _ (List.mem_map_of_mem (f := fun j => Cond.eq (.elem (.field (.string x.1 x.2.1) "java/lang/String" "value" "[B") (.int (Int32.ofNat j))) (.int (qtf l j))) (List.mem_range.mpr hj)))))))
        obtain ⟨v, hv, hT⟩ := va_Tof (f := fun j => .int (qtf l j)) (A := fun q => s.heap.size ≤ q) (by omega) e2 (va_eqt e3) (fun j hj => va_eqt (e4 j hj)) hA9
        exact ⟨(a, v), fun y hy => by
          cases hy
          exact ⟨hR, fun l9 h9 => by
            cases h9
            exact ⟨va_Oof (hfl _ h2) q1 hA9, vk_OFof q1 (va_eqt e1) hA9, vk_OFof q1 hv hA9, hT⟩⟩⟩
  obtain ⟨sb, hsb⟩ := Classical.axiomOfChoice hstr
  let sa : Nat → Nat := fun i => if i = 0 then b else (sb (i - 1)).1
  have hsa0 : sa 0 = b := rfl
  have hsa : ∀ i x, qtx[i]? = some x → vk_R x.1 x.2.1 x.2.2 (sa (i + 1)) s := fun i x h => (hsb i x h).1
  have hqs : qStr sa (fun q => s.heap.size ≤ q) s s.heap := by
    refine ⟨fun i l hl => ?_, ?_⟩
    · have hi : i < 23 := (List.getElem?_eq_some_iff.mp hl).1
      exact ⟨(sb i).2, (hsb i _ (List.getElem?_eq_getElem (show i < qtx.length from hi))).2 l hl⟩
    · obtain ⟨z1, z2⟩ := qtz_F
      obtain ⟨v, hv, hvr⟩ := Cond.isRef_spec (hfl _ (of_decide_eq_true z2))
      refine ⟨va_Zof (hts _ jw_l_CS) (hts _ (List.mem_filter.mp jw_n_RJ0).1) (va_eqi (hfl _ (of_decide_eq_true z1))) hA9, ?_⟩
      cases v with
      | ref r => exact .inl ⟨r, va_Zof (hts _ jw_l_SF) (hts _ (List.mem_filter.mp jw_n_RJ3).1) hv hA9⟩
      | null => exact .inr (va_Zof (hts _ jw_l_SF) (hts _ (List.mem_filter.mp jw_n_RJ3).1) hv hA9)
      | _ => cases hvr
  have hst : qSt sa s := by
    refine ⟨fun i x hx9 => hsa i x hx9, fun ty hty => ?_, fun o i t na hq => ?_⟩
    · simp only [List.mem_cons, List.not_mem_nil, or_false] at hty
      rcases hty with rfl | rfl | rfl
      · exact hts _ qwO_2
      · exact hts _ qwO_7
      · exact hts _ qwO_99
    · exact va_Nw.of rfl (hts _ (qnest_of hq))
  -- the classes
  have hcls : ∀ i : Nat, ∃ z : ClassId × (Nat → Nat), ∀ q, vwCl[i]? = some q → u_Kn s q.1 q.2.1 q.2.2 z.1 z.2 := fun i => by
    by_cases hi : i < 13
    · obtain ⟨cC, iS, hk⟩ := u_known (n := qNf i) hal (qwT_in hi) (hal _ (qwd1_in (List.all_eq_true.mp qinst_all i (List.mem_range.mpr hi))))
      exact ⟨(cC, iS), fun q hq => by rw [qcl_at hi] at hq; cases hq; exact hk⟩
    · exact ⟨(0, fun _ => 0), fun q hq => by
        rw [List.getElem?_eq_none (by show 13 ≤ i; omega)] at hq; cases hq⟩
  obtain ⟨z, hz⟩ := Classical.axiomOfChoice hcls
  have hK : va_K (fun i => (z i).1, fun i => (z i).2) vwCl [] s := ⟨fun i q hq => hz i q hq, fun k q hq => by cases hq⟩
  have hl := lv_entry ([.ref b]) (n := 4) (Nat.le_of_ble_eq_true rfl)
  rw [lg_entry_eq]
  generalize (lg_sl ([.ref b]) ++ List.replicate (4 - (lg_sl ([.ref b])).length) Slot.unset).toArray = arr at hl ⊢
  obtain ⟨f, w', n', hn', hrun⟩ := hLaw L (fun j => (xs j).toInt) hL (fun j => i32_in _)
  have hz9 := qSz_mono hn'
  have hS142 : qSz 142 = 166210 := by decide +kernel
  have has : qSr 0 [(3, 0)] := .cn (q4 rfl) .mk3 (fun v hv => by cases hv)
  have hXs : va_X (sa 0) L (fun j => Int32.ofInt ((xs j).toInt)) s s.heap := by
    rw [show (fun j => Int32.ofInt ((xs j).toInt)) = xs from funext fun j => Int32.ofInt_toInt _]
    exact hX
  refine q_sound l f (some (L, fun j => (xs j).toInt)) 200 305 0 [(3, 0), (9, 0), (9, 0), (9, 0)] [] (fun _ _ => 0) 0 (0, 1) w' n' hrun (by decide) p e room_1 s m #[Value.ref b] below meth c _ (fun i => (z i).1, fun i => (z i).2) (fun q => s.heap.size ≤ q) s.heap sa (fun _ => 0) (fun _ => 0) arr s.heap [] 0 0
    ⟨hx, hb, hml, hown, hal, fun h9 => (by cases h9), fun q h9 => h9, fun L9 xs9 h9 => (by cases h9; exact ⟨hXs, hbl, Nat.not_le.mpr hbl, by omega, fun j => i32_in _⟩), hst, hqs⟩
    ⟨⟨fun k q hq => (by cases hq), ⟨fun i j p q hp => (by cases hp), fun k q hq => (by cases hq)⟩, hK, fun p e m c h0 h1 => absurd h0 (by omega), fun p h0 h1 => absurd h0 (by omega)⟩, qini_lr (t := 305) (as := [(3, 0)]) has hl, rfl, fun v hv => (by cases hv), va_S.rf⟩
    ⟨by decide, by decide, by show 0 + n' ≤ 600000 + 0; omega, by show 0 + qSz n' ≤ 7302250 + qSz 0; omega⟩ ?_
  intro pcr ad' ac' arr' H' locs' cells' slots' hext hc hsl hW' hS'
  refine ⟨fun x hv hx32 hok hdec => ?_, fun hv => by cases hv⟩
  cases hv
  have hz0 : qSz 0 = 0 := rfl
  refine va_forget (fun q hq => hS'.2.2 q hq) ?_
  refine W.widen (k := 600000) (n := 7302250) (by omega) (by omega) ?_
  exact lw_ret hx hb hr hlocks hdec
end
section
/-! the law's run -/
theorem zfresh {w1 w2 : qW} {w : qW} (h1 : qFr w w1 1 94) (h2 : qFr (qclr w1 95) w2 95 142) : zF w2 := fun p j k1 k2 => by
  rw [h2 p j]
  by_cases c : p < 95
  · rw [if_pos c, qclr_lo (by omega), h1 p j, if_neg (by omega), if_pos (by omega)]
  · rw [if_neg c, if_pos k2]
theorem law_pre {L : Nat} {xs : Nat → Int} {Q : qV → qW → Nat → Prop} (H : ∀ w, zF w → qG (some (L, xs)) 200 305 18 [(3, 0), (2, 1), (2, 95), (0, 0)] [] w 142 Q) : qG (some (L, xs)) 200 305 0 [(3, 0), (9, 0), (9, 0), (9, 0)] [] (fun _ _ => 0) 0 Q := by
  refine qG.blk 2 (pc' := 4) (ls' := [(3, 0), (9, 0), (9, 0), (9, 0)]) (st' := [(2, 1), (2, 1)]) (w' := qclr (fun _ _ => 0) 1) (n' := 1) rfl ?_
  refine qG.call (t := 163) (na := 1) (sk := 1) (md := 2) (ls1 := [(2, 1), (9, 0)]) (r1 := [(2, 1)]) rfl rfl rfl rfl rfl (K_X11_init_1 (d := 199) (by decide) _ (fun j => by rw [qclr_at (Nat.le_refl 1)])) ?_
  rintro _ w1 _ ⟨rfl, h1, rfl⟩
  show qG (some (L, xs)) 200 305 7 [(3, 0), (9, 0), (9, 0), (9, 0)] [(2, 1)] w1 94 Q
  refine qG.blk 3 (pc' := 12) (ls' := [(3, 0), (2, 1), (9, 0), (9, 0)]) (st' := [(2, 95), (2, 95)]) (w' := qclr w1 95) (n' := 95) rfl ?_
  refine qG.call (t := 205) (na := 1) (sk := 1) (md := 2) (ls1 := [(2, 95)]) (r1 := [(2, 95)]) rfl rfl rfl rfl rfl (K_X12_init_95 (d := 199) (by decide) _ (fun j => by rw [qclr_at (Nat.le_refl 95)])) ?_
  rintro _ w2 _ ⟨rfl, h2, rfl⟩
  show qG (some (L, xs)) 200 305 15 [(3, 0), (2, 1), (9, 0), (9, 0)] [(2, 95)] w2 142 Q
  refine qG.blk 3 (pc' := 18) (ls' := [(3, 0), (2, 1), (2, 95), (0, 0)]) (st' := []) (w' := w2) (n' := 142) rfl ?_
  exact H w2 (zfresh h1 h2)
theorem zops {L : Nat} {xs : Nat → Int} (hx : ∀ j, -2147483648 ≤ xs j ∧ xs j ≤ 2147483647) (i : Nat) (hi : i + 6 ≤ L) (hL : L ≤ 3072) (w : qW) (hP : SP w) (hJ : JW w) {Q9 : qV → qW → Nat → Prop} (H : ∀ w1, SP w1 → JW w1 → qG (some (L, xs)) 200 305 1610 [(3, 0), (2, 1), (2, 95), (0, ((i : Nat) : Int))] [] w1 142 Q9) {x : Int} (h0 : 0 ≤ x) (h1 : x ≤ 63) : qG (some (L, xs)) 200 305 33 [(3, 0), (2, 1), (2, 95), (0, ((i : Nat) : Int))] [(0, x)] w 142 Q9 := by
  obtain ⟨n, rfl⟩ : ∃ n : Nat, x = n := ⟨x.toNat, by omega⟩
  have hn : n < 64 := by omega
  match n, hn with
  | 0, _ => exact O_0 hx i hi (by omega) (by decide) w hP hJ H
  | 1, _ => exact O_1 hx i hi (by omega) (by decide) w hP hJ H
  | 2, _ => exact O_2 hx i hi (by omega) (by decide) w hP hJ H
  | 3, _ => exact O_3 hx i hi (by omega) (by decide) w hP hJ H
  | 4, _ => exact O_4 hx i hi (by omega) (by decide) w hP hJ H
  | 5, _ => exact O_5 hx i hi (by omega) (by decide) w hP hJ H
  | 6, _ => exact O_6 hx i hi (by omega) (by decide) w hP hJ H
  | 7, _ => exact O_7 hx i hi (by omega) (by decide) w hP hJ H
  | 8, _ => exact O_8 hx i hi (by omega) (by decide) w hP hJ H
  | 9, _ => exact O_9 hx i hi (by omega) (by decide) w hP hJ H
  | 10, _ => exact O_10 hx i hi (by omega) (by decide) w hP hJ H
  | 11, _ => exact O_11 hx i hi (by omega) (by decide) w hP hJ H
  | 12, _ => exact O_12 hx i hi (by omega) (by decide) w hP hJ H
  | 13, _ => exact O_13 hx i hi (by omega) (by decide) w hP hJ H
  | 14, _ => exact O_14 hx i hi (by omega) (by decide) w hP hJ H
  | 15, _ => exact O_15 hx i hi (by omega) (by decide) w hP hJ H
  | 16, _ => exact O_16 hx i hi (by omega) (by decide) w hP hJ H
  | 17, _ => exact O_17 hx i hi (by omega) (by decide) w hP hJ H
  | 18, _ => exact O_18 hx i hi (by omega) (by decide) w hP hJ H
  | 19, _ => exact O_19 hx i hi (by omega) (by decide) w hP hJ H
  | 20, _ => exact O_20 hx i hi (by omega) (by decide) w hP hJ H
  | 21, _ => exact O_21 hx i hi (by omega) (by decide) w hP hJ H
  | 22, _ => exact O_22 hx i hi (by omega) (by decide) w hP hJ H
  | 23, _ => exact O_23 hx i hi (by omega) (by decide) w hP hJ H
  | 24, _ => exact O_24 hx i hi (by omega) (by decide) w hP hJ H
  | 25, _ => exact O_25 hx i hi (by omega) (by decide) w hP hJ H
  | 26, _ => exact O_26 hx i hi (by omega) (by decide) w hP hJ H
  | 27, _ => exact O_27 hx i hi (by omega) (by decide) w hP hJ H
  | 28, _ => exact O_28 hx i hi (by omega) (by decide) w hP hJ H
  | 29, _ => exact O_29 hx i hi (by omega) (by decide) w hP hJ H
  | 30, _ => exact O_30 hx i hi (by omega) (by decide) w hP hJ H
  | 31, _ => exact O_31 hx i hi (by omega) (by decide) w hP hJ H
  | 32, _ => exact O_32 hx i hi (by omega) (by decide) w hP hJ H
  | 33, _ => exact O_33 hx i hi (by omega) (by decide) w hP hJ H
  | 34, _ => exact qG.blk 1 (pc' := 1610) (ls' := [(3, 0), (2, 1), (2, 95), (0, ((i : Nat) : Int))]) (st' := []) (w' := w) (n' := 142) rfl (H w hP hJ)
  | 35, _ => exact qG.blk 1 (pc' := 1610) (ls' := [(3, 0), (2, 1), (2, 95), (0, ((i : Nat) : Int))]) (st' := []) (w' := w) (n' := 142) rfl (H w hP hJ)
  | 36, _ => exact qG.blk 1 (pc' := 1610) (ls' := [(3, 0), (2, 1), (2, 95), (0, ((i : Nat) : Int))]) (st' := []) (w' := w) (n' := 142) rfl (H w hP hJ)
  | 37, _ => exact qG.blk 1 (pc' := 1610) (ls' := [(3, 0), (2, 1), (2, 95), (0, ((i : Nat) : Int))]) (st' := []) (w' := w) (n' := 142) rfl (H w hP hJ)
  | 38, _ => exact qG.blk 1 (pc' := 1610) (ls' := [(3, 0), (2, 1), (2, 95), (0, ((i : Nat) : Int))]) (st' := []) (w' := w) (n' := 142) rfl (H w hP hJ)
  | 39, _ => exact qG.blk 1 (pc' := 1610) (ls' := [(3, 0), (2, 1), (2, 95), (0, ((i : Nat) : Int))]) (st' := []) (w' := w) (n' := 142) rfl (H w hP hJ)
  | 40, _ => exact qG.blk 1 (pc' := 1610) (ls' := [(3, 0), (2, 1), (2, 95), (0, ((i : Nat) : Int))]) (st' := []) (w' := w) (n' := 142) rfl (H w hP hJ)
  | 41, _ => exact qG.blk 1 (pc' := 1610) (ls' := [(3, 0), (2, 1), (2, 95), (0, ((i : Nat) : Int))]) (st' := []) (w' := w) (n' := 142) rfl (H w hP hJ)
  | 42, _ => exact qG.blk 1 (pc' := 1610) (ls' := [(3, 0), (2, 1), (2, 95), (0, ((i : Nat) : Int))]) (st' := []) (w' := w) (n' := 142) rfl (H w hP hJ)
  | 43, _ => exact qG.blk 1 (pc' := 1610) (ls' := [(3, 0), (2, 1), (2, 95), (0, ((i : Nat) : Int))]) (st' := []) (w' := w) (n' := 142) rfl (H w hP hJ)
  | 44, _ => exact qG.blk 1 (pc' := 1610) (ls' := [(3, 0), (2, 1), (2, 95), (0, ((i : Nat) : Int))]) (st' := []) (w' := w) (n' := 142) rfl (H w hP hJ)
  | 45, _ => exact qG.blk 1 (pc' := 1610) (ls' := [(3, 0), (2, 1), (2, 95), (0, ((i : Nat) : Int))]) (st' := []) (w' := w) (n' := 142) rfl (H w hP hJ)
  | 46, _ => exact qG.blk 1 (pc' := 1610) (ls' := [(3, 0), (2, 1), (2, 95), (0, ((i : Nat) : Int))]) (st' := []) (w' := w) (n' := 142) rfl (H w hP hJ)
  | 47, _ => exact qG.blk 1 (pc' := 1610) (ls' := [(3, 0), (2, 1), (2, 95), (0, ((i : Nat) : Int))]) (st' := []) (w' := w) (n' := 142) rfl (H w hP hJ)
  | 48, _ => exact qG.blk 1 (pc' := 1610) (ls' := [(3, 0), (2, 1), (2, 95), (0, ((i : Nat) : Int))]) (st' := []) (w' := w) (n' := 142) rfl (H w hP hJ)
  | 49, _ => exact qG.blk 1 (pc' := 1610) (ls' := [(3, 0), (2, 1), (2, 95), (0, ((i : Nat) : Int))]) (st' := []) (w' := w) (n' := 142) rfl (H w hP hJ)
  | 50, _ => exact qG.blk 1 (pc' := 1610) (ls' := [(3, 0), (2, 1), (2, 95), (0, ((i : Nat) : Int))]) (st' := []) (w' := w) (n' := 142) rfl (H w hP hJ)
  | 51, _ => exact qG.blk 1 (pc' := 1610) (ls' := [(3, 0), (2, 1), (2, 95), (0, ((i : Nat) : Int))]) (st' := []) (w' := w) (n' := 142) rfl (H w hP hJ)
  | 52, _ => exact qG.blk 1 (pc' := 1610) (ls' := [(3, 0), (2, 1), (2, 95), (0, ((i : Nat) : Int))]) (st' := []) (w' := w) (n' := 142) rfl (H w hP hJ)
  | 53, _ => exact qG.blk 1 (pc' := 1610) (ls' := [(3, 0), (2, 1), (2, 95), (0, ((i : Nat) : Int))]) (st' := []) (w' := w) (n' := 142) rfl (H w hP hJ)
  | 54, _ => exact qG.blk 1 (pc' := 1610) (ls' := [(3, 0), (2, 1), (2, 95), (0, ((i : Nat) : Int))]) (st' := []) (w' := w) (n' := 142) rfl (H w hP hJ)
  | 55, _ => exact qG.blk 1 (pc' := 1610) (ls' := [(3, 0), (2, 1), (2, 95), (0, ((i : Nat) : Int))]) (st' := []) (w' := w) (n' := 142) rfl (H w hP hJ)
  | 56, _ => exact qG.blk 1 (pc' := 1610) (ls' := [(3, 0), (2, 1), (2, 95), (0, ((i : Nat) : Int))]) (st' := []) (w' := w) (n' := 142) rfl (H w hP hJ)
  | 57, _ => exact qG.blk 1 (pc' := 1610) (ls' := [(3, 0), (2, 1), (2, 95), (0, ((i : Nat) : Int))]) (st' := []) (w' := w) (n' := 142) rfl (H w hP hJ)
  | 58, _ => exact qG.blk 1 (pc' := 1610) (ls' := [(3, 0), (2, 1), (2, 95), (0, ((i : Nat) : Int))]) (st' := []) (w' := w) (n' := 142) rfl (H w hP hJ)
  | 59, _ => exact qG.blk 1 (pc' := 1610) (ls' := [(3, 0), (2, 1), (2, 95), (0, ((i : Nat) : Int))]) (st' := []) (w' := w) (n' := 142) rfl (H w hP hJ)
  | 60, _ => exact qG.blk 1 (pc' := 1610) (ls' := [(3, 0), (2, 1), (2, 95), (0, ((i : Nat) : Int))]) (st' := []) (w' := w) (n' := 142) rfl (H w hP hJ)
  | 61, _ => exact qG.blk 1 (pc' := 1610) (ls' := [(3, 0), (2, 1), (2, 95), (0, ((i : Nat) : Int))]) (st' := []) (w' := w) (n' := 142) rfl (H w hP hJ)
  | 62, _ => exact qG.blk 1 (pc' := 1610) (ls' := [(3, 0), (2, 1), (2, 95), (0, ((i : Nat) : Int))]) (st' := []) (w' := w) (n' := 142) rfl (H w hP hJ)
  | 63, _ => exact qG.blk 1 (pc' := 1610) (ls' := [(3, 0), (2, 1), (2, 95), (0, ((i : Nat) : Int))]) (st' := []) (w' := w) (n' := 142) rfl (H w hP hJ)
theorem law_loop {L : Nat} {xs : Nat → Int} (hx : ∀ j, -2147483648 ≤ xs j ∧ xs j ≤ 2147483647) (hL : L ≤ 3072) : ∀ (m i : Nat) (w : qW), L + 6 - i = m → i ≤ L + 5 → SP w → JW w → qG (some (L, xs)) 200 305 18 [(3, 0), (2, 1), (2, 95), (0, ((i : Nat) : Int))] [] w 142 (fun v _ n' => v = (0, 1) ∧ n' ≤ 142) := by
  intro m
  induction m using Nat.strongRecOn with
  | ind m ih =>
  intro i w hm hiL hP hJ
  refine qG.blk 5 (pc' := 24) (ls' := [(3, 0), (2, 1), (2, 95), (0, ((i : Nat) : Int))]) (st' := [(0, wrp ((L : Int) - 6)), (0, ((i : Nat) : Int))]) (w' := w) (n' := 142) rfl ?_
  rw [wrp_id (by omega) (by omega)]
  refine qG.br (P := (L : Int) - 6 < ((i : Nat) : Int)) (pc1 := 1616) (pc2 := 27) (st1 := []) rfl (fun h => ?_) (fun h => ?_)
  · refine qG.blk 1 (pc' := 1617) (ls' := [(3, 0), (2, 1), (2, 95), (0, ((i : Nat) : Int))]) (st' := [(0, 1)]) (w' := w) (n' := 142) rfl ?_
    exact qG.ret rfl rfl ⟨rfl, Nat.le_refl _⟩
  · have hi6 : i + 6 ≤ L := by omega
    refine qG.blk 2 (pc' := 29) (ls' := [(3, 0), (2, 1), (2, 95), (0, ((i : Nat) : Int))]) (st' := [(0, ((i : Nat) : Int)), (3, 0)]) (w' := w) (n' := 142) rfl ?_
    refine qG.gd (P := (0 : Int) ≤ ((i : Nat) : Int) ∧ ((i : Nat) : Int) < ((L : Nat) : Int)) (pc' := 30) (ls' := [(3, 0), (2, 1), (2, 95), (0, ((i : Nat) : Int))]) (st' := [(0, xs i)]) (w' := w) (n' := 142) rfl (by omega) ?_
    refine qG.blk 2 (pc' := 33) (ls' := [(3, 0), (2, 1), (2, 95), (0, ((i : Nat) : Int))]) (st' := [(0, qand (xs i) 63)]) (w' := w) (n' := 142) rfl ?_
    have hx9 := qand_hi (x := xs i) (y := 63) (d := 63) (by decide) (by decide) (by decide)
    refine zops hx i hi6 hL w hP hJ (fun w1 hP1 hJ1 => ?_) hx9.1 hx9.2
    refine qG.blk 2 (pc' := 18) (ls' := [(3, 0), (2, 1), (2, 95), (0, wrp (((i : Nat) : Int) + 6))]) (st' := []) (w' := w1) (n' := 142) rfl ?_
    rw [show wrp (((i : Nat) : Int) + 6) = ((i + 6 : Nat) : Int) from by rw [wrp_id (by omega) (by omega)]; omega]
    exact ih _ (by omega) (i + 6) w1 rfl (by omega) hP1 hJ1
theorem sp_0 {w : qW} (hF : zF w) : SP w := by
  have z : ∀ p j, zbv p j = some 0 → w p j = 0 := fun p j h => zbv_ok hF p j 0 h
  refine ⟨zinv1 hF, fun j hj hk => ?_, fun i hi => ?_, fun i j hi => ?_⟩
  · have q := (zbb_ok1 hF 104 (0, 0) (by decide +kernel) j).2
    have q : w 104 j ≤ 0 := q
    omega
  · rw [z 95 22 (by decide +kernel)] at hi; omega
  · rw [z 95 8 (by decide +kernel)] at hi; omega
theorem j_0 {w : qW} (hF : zF w) : JW w := by
  have z : ∀ p j, zbv p j = some 0 → w p j = 0 := fun p j h => zbv_ok hF p j 0 h
  have y9 : ∀ p, zbb p = some (0, 0) → ∀ j, w p j = 0 := fun p h j => Int.le_antisymm (zbb_ok1 hF p (0, 0) h j).2 (zbb_ok1 hF p (0, 0) h j).1
  exact ⟨(z 61 2 (by decide +kernel)).trans (z 95 76 (by decide +kernel)).symm, (z 61 3 (by decide +kernel)).trans (z 95 77 (by decide +kernel)).symm, fun j => (y9 62 (by decide +kernel) j).trans (y9 141 (by decide +kernel) j).symm, fun j => (y9 63 (by decide +kernel) j).trans (y9 142 (by decide +kernel) j).symm⟩
theorem law_ok : qLawOK := by
  intro L xs hL hxs
  obtain ⟨f, v, w', n', h1, h2, h3⟩ := law_pre (L := L) (xs := xs) (Q := fun v _ n' => v = (0, 1) ∧ n' ≤ 142) (fun w hF => law_loop (fun j => ⟨(hxs j).1, by have := (hxs j).2; omega⟩) hL _ 0 w rfl (by omega) (sp_0 hF) (j_0 hF))
  subst h2
  exact ⟨f, w', n', h3, h1⟩
end
