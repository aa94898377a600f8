/-! the run over symbols is right -/
theorem qtk_map {ρ : Nat → Int} : ∀ (m : Nat) (l acc : List yV), qtk m (l.map (yc ρ)) (acc.map (yc ρ)) = (ytk m l acc).map (yc ρ)
  | 0, _, _ => rfl
  | m + 1, a :: l, acc => qtk_map m l (a :: acc)
  | _ + 1, [], _ => rfl
theorem qdr_map {ρ : Nat → Int} : ∀ (m : Nat) (l : List yV), qdr m (l.map (yc ρ)) = (ydr m l).map (yc ρ)
  | 0, _ => rfl
  | m + 1, _ :: l => qdr_map m l
  | _ + 1, [] => rfl
theorem qcat_map {ρ : Nat → Int} : ∀ (l : List yV), qcat (l.map (yc ρ)) = ycat l
  | [] => rfl
  | (0, x) :: r => by
    show 1 + qcat (r.map (yc ρ)) = 1 + ycat r
    rw [qcat_map r]
  | (1, x) :: r => by
    show 2 + qcat (r.map (yc ρ)) = 2 + ycat r
    rw [qcat_map r]
  | (k + 2, x) :: r => by
    show 1 + qcat (r.map (yc ρ)) = 1 + ycat r
    rw [qcat_map r]
theorem qlay_map {ρ : Nat → Int} (h0 : ρ 0 = 0) : ∀ (l : List yV), qlay (l.map (yc ρ)) = (ylay l).map (yc ρ)
  | [] => rfl
  | (0, x) :: r => by
    show (0, ρ x.1 + x.2) :: qlay (r.map (yc ρ)) = (0, ρ x.1 + x.2) :: (ylay r).map (yc ρ)
    rw [qlay_map h0 r]
  | (1, x) :: r => by
    show (1, ρ x.1 + x.2) :: (9, 0) :: qlay (r.map (yc ρ)) = (1, ρ x.1 + x.2) :: (9, ρ 0 + 0) :: (ylay r).map (yc ρ)
    rw [qlay_map h0 r, h0]; rfl
  | (k + 2, x) :: r => by
    show (k + 2, ρ x.1 + x.2) :: qlay (r.map (yc ρ)) = (k + 2, ρ x.1 + x.2) :: (ylay r).map (yc ρ)
    rw [qlay_map h0 r]
theorem qpad_map {ρ : Nat → Int} (h0 : ρ 0 = 0) : ∀ (m : Nat) (l : List yV), qpad m (l.map (yc ρ)) = (ypad m l).map (yc ρ)
  | 0, _ => rfl
  | m + 1, [] => by
    show (9, 0) :: qpad m [] = (9, ρ 0 + 0) :: (ypad m []).map (yc ρ)
    rw [h0, ← qpad_map h0 m []]; rfl
  | m + 1, a :: l => by
    show yc ρ a :: qpad m (l.map (yc ρ)) = yc ρ a :: (ypad m l).map (yc ρ)
    rw [qpad_map h0 m l]
theorem qini_map {ρ : Nat → Int} (h0 : ρ 0 = 0) (t : Nat) (as : List yV) : qini t (as.map (yc ρ)) = (yini t as).map (yc ρ) := by
  unfold qini yini
  rw [qlay_map h0, qpad_map h0]
theorem qpsh_map {ρ : Nat → Int} (v : yV) (st : List yV) : qpsh (yc ρ v) (st.map (yc ρ)) = (ypsh v st).map (yc ρ) := by
  obtain ⟨k, x⟩ := v
  unfold ypsh
  by_cases c : k = 9
  · subst c; rfl
  · rw [show Nat.beq ((k, x) : yV).1 9 = false from ybf (fun z => c (Nat.eq_of_beq_eq_true z)), cond_false, List.map_cons]
    show qpsh ((k, ρ x.1 + x.2) : qV) (st.map (yc ρ)) = (k, ρ x.1 + x.2) :: st.map (yc ρ)
    unfold qpsh
    split
    · rename_i h; cases h; exact absurd rfl c
    · rfl
theorem ytk_sc {n : Nat} : ∀ {m : Nat} {l acc : List yV}, ySc n l → ySc n acc → ySc n (ytk m l acc)
  | 0, _, _, _, h => h
  | m + 1, a :: l, acc, hl, h => ytk_sc (m := m) hl.tl (ySc.cons hl.hd h)
  | _ + 1, [], _, _, h => h
theorem ydr_sc {n : Nat} : ∀ {m : Nat} {l : List yV}, ySc n l → ySc n (ydr m l)
  | 0, _, h => h
  | m + 1, _ :: l, h => ydr_sc (m := m) h.tl
  | _ + 1, [], h => h
theorem ynil_sc {n : Nat} : ySc n [] := fun v hv => by cases hv
theorem ylay_sc {n : Nat} (hn : 0 < n) : ∀ {l : List yV}, ySc n l → ySc n (ylay l)
  | [], h => h
  | a :: r, h => by
    unfold ylay
    by_cases c : Nat.beq a.1 1 = true
    · rw [c]; exact ySc.cons h.hd (ySc.cons hn (ylay_sc hn h.tl))
    · rw [ybf c]; exact ySc.cons h.hd (ylay_sc hn h.tl)
theorem ypad_sc {n : Nat} (hn : 0 < n) : ∀ {m : Nat} {l : List yV}, ySc n l → ySc n (ypad m l)
  | 0, _, _ => ynil_sc
  | m + 1, [], h => ySc.cons hn (ypad_sc hn h)
  | m + 1, _ :: _, h => ySc.cons h.hd (ypad_sc hn h.tl)
theorem yini_sc {n : Nat} (hn : 0 < n) {t : Nat} {l : List yV} (h : ySc n l) : ySc n (yini t l) := ypad_sc hn (ylay_sc hn h)
theorem ypsh_sc {n : Nat} {v : yV} {l : List yV} (hv : v.2.1 < n) (h : ySc n l) : ySc n (ypsh v l) := by
  unfold ypsh
  by_cases c : Nat.beq v.1 9 = true
  · rw [c]; exact h
  · rw [ybf c]; exact ySc.cons hv h
theorem yall1_ok {ρ : Nat → Int} (h0 : ρ 0 = 0) : ∀ {l : List yV}, yall1 l = true → (l.map (yc ρ)).all (fun v => Nat.blt v.1 3 || (Nat.beq v.1 3 && decide (0 < v.2))) = true
  | [], _ => rfl
  | v :: r, h => by
    have h : ((Nat.blt v.1 3 || (Nat.beq v.1 3 && (Nat.beq v.2.1 0 && yle 1 v.2.2))) && yall1 r) = true := h
    rw [Bool.and_eq_true, Bool.or_eq_true] at h
    rw [List.map_cons, List.all_cons, Bool.and_eq_true, Bool.or_eq_true]
    refine ⟨h.1.imp id (fun k => ?_), yall1_ok h0 h.2⟩
    rw [Bool.and_eq_true, Bool.and_eq_true, yle_i] at k
    rw [Bool.and_eq_true, decide_eq_true_eq]
    refine ⟨k.1, ?_⟩
    show 0 < ρ v.2.1 + v.2.2
    rw [Nat.eq_of_beq_eq_true k.2.1, h0]
    omega
theorem yaok_ok {ρ : Nat → Int} (h0 : ρ 0 = 0) {t sk : Nat} {as : List yV} (h : yaok t sk as = true) : qaok t sk 142 (as.map (yc ρ)) = true := by
  unfold yaok at h
  unfold qaok
  rw [Bool.and_eq_true] at h
  rw [Bool.and_eq_true]
  refine ⟨yall1_ok h0 h.1, ?_⟩
  have h := h.2
  cases sk with
  | zero => rfl
  | succ sk =>
    split at h
    · exact absurd ‹sk + 1 = 0› (Nat.succ_ne_zero sk)
    · rename_i p l _ _
      show (match qpl (ρ 0 + p).toNat with
        | (0, c, _, _) => Nat.beq c (qow t) && decide (0 < ρ 0 + p ∧ ρ 0 + p ≤ ((142 : Nat) : Int))
        | _ => false) = true
      rw [h0, Int.zero_add]
      split at h
      · rename_i c a b hpl
        rw [hpl]
        show (Nat.beq c (qow t) && decide (0 < p ∧ p ≤ ((142 : Nat) : Int))) = true
        rw [Bool.and_eq_true, Bool.and_eq_true, yle_i, yle_i] at h
        rw [Bool.and_eq_true, decide_eq_true_eq]
        exact ⟨h.1, by omega, by omega⟩
      · cases h
    · cases h
theorem ycok_ok {ρ : Nat → Int} (h0 : ρ 0 = 0) {t na sk md : Nat} {st : List yV} (h : ycok t na sk md st = true) : qcok t na sk md 142 (st.map (yc ρ)) = true := by
  unfold ycok at h
  unfold qcok
  rw [Bool.and_eq_true, Bool.and_eq_true, Bool.and_eq_true, Bool.and_eq_true] at h
  obtain ⟨h1, h2, h3, h4, h5⟩ := h
  have e : qtk na (st.map (yc ρ)) [] = (ytk na st []).map (yc ρ) := qtk_map na st []
  rw [e, qdr_map, qcat_map, qlay_map h0, List.length_map, List.length_map, h1, h2, yaok_ok h0 h3, h4, h5]
  rfl
/-- arguments within a contract's -/
noncomputable def yamc : List (Nat × Int × Int) → List qV → Prop
  | [], [] => True
  | c :: r, v :: l => (v.1 = c.1 ∧ c.2.1 ≤ v.2 ∧ v.2 ≤ c.2.2) ∧ yamc r l
  | _, _ => False
noncomputable def ymt (ρ : Nat → Int) : yHv → List yV → List qV → Prop
  | some b :: h, _ :: l, c :: m => (c.1 = b.1 ∧ b.2.1 ≤ c.2 ∧ c.2 ≤ b.2.2) ∧ ymt ρ h l m
  | none :: h, a :: l, c :: m => c = yc ρ a ∧ ymt ρ h l m
  | [], l, m => m = l.map (yc ρ)
  | _ :: _, [], m => m = []
  | _, _, _ => False
noncomputable def yhr : yHv → Nat → List yV → List qV → (Nat → Int) → (Nat → Int)
  | some _ :: h, n, _ :: l, c :: m, ρ => yhr h (n + 1) l m (yup ρ n c.2)
  | none :: h, n, _ :: l, _ :: m, ρ => yhr h n l m ρ
  | _, _, _, _, ρ => ρ
noncomputable def yms : List (Nat × Int) → List qV → Int
  | [], _ => 0
  | e :: r, l => yms r l + e.2 * (qnt l e.1).2
theorem yhx_le : ∀ (h : yHv) (n : Nat) (l : List yV), n ≤ yhx h n l
  | some _ :: h, n, _ :: l => Nat.le_trans (Nat.le_succ n) (yhx_le h (n + 1) l)
  | none :: h, n, _ :: l => yhx_le h n l
  | [], n, l => Nat.le_refl n
  | some _ :: _, n, [] => Nat.le_refl n
  | none :: _, n, [] => Nat.le_refl n
/-- the loop's state out of symbols -/
theorem yhr_ok {ρ0 : Nat → Int} {n0 : Nat} : ∀ (h : yHv) (n : Nat) (l : List yV) (m : List qV) (ρ : Nat → Int) (bs : yB), n0 ≤ n → ySc n0 l → yag n0 ρ0 ρ → (∀ e ∈ bs, e.1 < n ∧ yin e.2 (ρ e.1)) → ymt ρ0 h l m →
    yag n ρ (yhr h n l m ρ) ∧ m = (yhv h n l).map (yc (yhr h n l m ρ)) ∧ ySc (yhx h n l) (yhv h n l) ∧ (∀ e ∈ yhb h n l bs, e.1 < yhx h n l ∧ yin e.2 (yhr h n l m ρ e.1))
  | some b :: h, n, a :: l, c :: m, ρ, bs, hn, hl, hag, hb, hm => by
    have hm : (c.1 = b.1 ∧ b.2.1 ≤ c.2 ∧ c.2 ≤ b.2.2) ∧ ymt ρ0 h l m := hm
    have hup : yag n ρ (yup ρ n c.2) := yup_ag
    obtain ⟨k1, k2, k3, k4⟩ := yhr_ok h (n + 1) l m (yup ρ n c.2) ((n, b.2) :: bs) (by omega) hl.tl (hag.tr hup hn) (fun e he => by
      rcases List.mem_cons.mp he with rfl | he
      · exact ⟨Nat.lt_succ_self n, by show yin b.2 (yup ρ n c.2 n); rw [yup_at]; exact hm.1.2⟩
      · have := hb e he
        exact ⟨Nat.lt_succ_of_lt this.1, by rw [hup _ this.1]; exact this.2⟩) hm.2
    refine ⟨hup.tr k1 (Nat.le_succ n), ?_, ySc.cons (Nat.lt_of_lt_of_le (Nat.lt_succ_self n) (yhx_le h (n + 1) l)) k3, k4⟩
    show c :: m = yc (yhr h (n + 1) l m (yup ρ n c.2)) (b.1, n, 0) :: (yhv h (n + 1) l).map (yc (yhr h (n + 1) l m (yup ρ n c.2)))
    rw [← k2]
    congr 1
    show c = (b.1, yhr h (n + 1) l m (yup ρ n c.2) n + 0)
    rw [k1 n (Nat.lt_succ_self n), yup_at, Int.add_zero, ← hm.1.1]
  | none :: h, n, a :: l, c :: m, ρ, bs, hn, hl, hag, hb, hm => by
    have hm : c = yc ρ0 a ∧ ymt ρ0 h l m := hm
    obtain ⟨k1, k2, k3, k4⟩ := yhr_ok h n l m ρ bs hn hl.tl hag hb hm.2
    refine ⟨k1, ?_, ySc.cons (Nat.lt_of_lt_of_le hl.hd (Nat.le_trans hn (yhx_le h n l))) k3, k4⟩
    show c :: m = yc (yhr h n l m ρ) a :: (yhv h n l).map (yc (yhr h n l m ρ))
    rw [← k2, hm.1, yc_ag (k1) (Nat.lt_of_lt_of_le hl.hd hn), yc_ag hag hl.hd]
  | [], n, l, m, ρ, bs, hn, hl, hag, hb, hm => ⟨yag.rf, by
      have hm : m = l.map (yc ρ0) := hm
      show m = l.map (yc ρ)
      rw [hm, ym_ag hag hl], hl.mono hn, hb⟩
  | some _ :: _, n, [], m, ρ, bs, hn, hl, hag, hb, hm => ⟨yag.rf, hm, ynil_sc, hb⟩
  | none :: _, n, [], m, ρ, bs, hn, hl, hag, hb, hm => ⟨yag.rf, hm, ynil_sc, hb⟩
  | some _ :: _, _, _ :: _, [], _, _, _, _, _, _, hm => hm.elim
  | none :: _, _, _ :: _, [], _, _, _, _, _, _, hm => hm.elim
theorem ymt_at {ρ : Nat → Int} : ∀ (h : yHv) (l : List yV) (i : Nat), ∃ lo hi : Int, ∀ m, ymt ρ h l m → lo ≤ (qnt m i).2 ∧ (qnt m i).2 ≤ hi
  | [], l, i => ⟨(qnt (l.map (yc ρ)) i).2, (qnt (l.map (yc ρ)) i).2, fun m hm => by
      have hm : m = l.map (yc ρ) := hm
      subst hm; exact ⟨Int.le_refl _, Int.le_refl _⟩⟩
  | some b :: h, a :: l, 0 => ⟨b.2.1, b.2.2, fun m hm => by
      cases m with
      | nil => exact hm.elim
      | cons c m => exact hm.1.2⟩
  | some b :: h, a :: l, i + 1 => by
      obtain ⟨lo, hi, k⟩ := ymt_at (ρ := ρ) h l i
      refine ⟨lo, hi, fun m hm => ?_⟩
      cases m with
      | nil => exact hm.elim
      | cons c m => exact k m hm.2
  | none :: h, a :: l, 0 => ⟨(yc ρ a).2, (yc ρ a).2, fun m hm => by
      cases m with
      | nil => exact hm.elim
      | cons c m =>
        have : c = yc ρ a := hm.1
        subst this; exact ⟨Int.le_refl _, Int.le_refl _⟩⟩
  | none :: h, a :: l, i + 1 => by
      obtain ⟨lo, hi, k⟩ := ymt_at (ρ := ρ) h l i
      refine ⟨lo, hi, fun m hm => ?_⟩
      cases m with
      | nil => exact hm.elim
      | cons c m => exact k m hm.2
  | some _ :: _, [], i => ⟨0, 0, fun m hm => by
      have hm : m = [] := hm
      subst hm; exact ⟨Int.le_refl _, Int.le_refl _⟩⟩
  | none :: _, [], i => ⟨0, 0, fun m hm => by
      have hm : m = [] := hm
      subst hm; exact ⟨Int.le_refl _, Int.le_refl _⟩⟩
theorem ymt_lb {ρ : Nat → Int} (h : yHv) (l : List yV) : ∀ (ms : List (Nat × Int)), ∃ B : Int, ∀ m, ymt ρ h l m → B ≤ yms ms m
  | [] => ⟨0, fun _ _ => Int.le_refl 0⟩
  | e :: r => by
    obtain ⟨B, k⟩ := ymt_lb (ρ := ρ) h l r
    obtain ⟨lo, hi, k2⟩ := ymt_at (ρ := ρ) h l e.1
    by_cases c : 0 ≤ e.2
    · refine ⟨B + e.2 * lo, fun m hm => ?_⟩
      have := Int.mul_le_mul_of_nonneg_left (k2 m hm).1 c
      have := k m hm
      show B + e.2 * lo ≤ yms r m + e.2 * (qnt m e.1).2
      omega
    · refine ⟨B + e.2 * hi, fun m hm => ?_⟩
      have := Int.mul_le_mul_of_nonpos_left (a := e.2) (by omega) (k2 m hm).2
      have := k m hm
      show B + e.2 * hi ≤ yms r m + e.2 * (qnt m e.1).2
      omega
theorem ymo_any {p j : Nat} (hp : p < 1000) : ∀ {m : List Nat}, yany p m = false → ymem (1000 * (j + 1) + p) m = false
  | [], _ => rfl
  | c :: m, h => by
    have h : (Nat.beq (c % 1000) p || yany p m) = false := h
    rw [Bool.or_eq_false_iff] at h
    show (Nat.beq c (1000 * (j + 1) + p) || ymem (1000 * (j + 1) + p) m) = false
    rw [ymo_any hp h.2, Bool.or_false]
    exact ybf (fun z => by
      have e := Nat.eq_of_beq_eq_true z
      have : c % 1000 = p := by omega
      rw [this, Nat.beq_refl] at h; cases h.1)
theorem yforg_ok {m : List Nat} {e : Nat × Nat × Int × Nat × Int} : ∀ {hf : yH}, e ∈ yforg m hf → e ∈ hf ∧ (e.1 < 1000 → ∀ j, (e.2.1 = 0 → j = e.2.2.1.toNat) → ymo e.1 j m = false)
  | [], h => by cases h
  | a :: r, h => by
    unfold yforg at h
    by_cases c : (bif Nat.beq a.2.1 0 then ymo a.1 a.2.2.1.toNat m else (ymem a.1 m || yany a.1 m)) = true
    · rw [c] at h
      have := yforg_ok (hf := r) h
      exact ⟨List.mem_cons_of_mem _ this.1, this.2⟩
    · rw [ybf c] at h
      rcases List.mem_cons.mp h with rfl | h
      · refine ⟨List.mem_cons_self, fun hp j hj => ?_⟩
        have c2 := ybf c
        by_cases z : Nat.beq e.2.1 0 = true
        · rw [z, cond_true] at c2
          rw [hj (Nat.eq_of_beq_eq_true z)]; exact c2
        · rw [ybf z, cond_false, Bool.or_eq_false_iff] at c2
          unfold ymo
          rw [c2.1, ymo_any hp c2.2]; rfl
      · have := yforg_ok (hf := r) h
        exact ⟨List.mem_cons_of_mem _ this.1, this.2⟩
theorem ymp_ok0 {p c : Nat} (hc : Nat.beq c 0 = true) {j : Nat} {l : yM} (h : ymp p c l = true) : ymd p j l = true := ymp_ok (.inl (Nat.eq_of_beq_eq_true hc)) h
theorem yapp_ok {q j : Nat} : ∀ {m : List Nat} {l : yM}, ymd q j (yapp m l) = false → (q < 1000 → ymo q j m = false) ∧ ymd q j l = false
  | [], l, h => ⟨fun _ => rfl, h⟩
  | c :: m, l, h => by
    unfold yapp at h
    have fin : ∀ (p cd : Nat), (cd = 0 ∧ c = p ∧ c < 1000 ∨ ¬ c < 1000 ∧ p = c % 1000 ∧ cd = c / 1000) → ymd q j (bif ymp p cd l then yapp m l else (p, cd) :: yapp m l) = false → (q < 1000 → ymo q j (c :: m) = false) ∧ ymd q j l = false := fun p cd hcd h => by
      have key : (ymd q j (yapp m l) = false) ∧ (p = q → ¬ (cd = 0 ∨ cd = j + 1)) := by
        by_cases e : ymp p cd l = true
        · rw [e] at h
          have h : ymd q j (yapp m l) = false := h
          refine ⟨h, fun z1 z2 => ?_⟩
          have h2 := (yapp_ok (m := m) h).2
          rw [z1] at e
          rw [ymp_ok z2 e] at h2; cases h2
        · rw [ybf e] at h
          have h : ((Nat.beq p q && (Nat.beq cd 0 || Nat.beq cd (j + 1))) || ymd q j (yapp m l)) = false := h
          rw [Bool.or_eq_false_iff] at h
          refine ⟨h.2, fun z1 z2 => ?_⟩
          have h3 := h.1
          rw [z1, Nat.beq_refl, Bool.true_and, Bool.or_eq_false_iff] at h3
          rcases z2 with z2 | z2
          · rw [z2] at h3; cases h3.1
          · rw [z2, Nat.beq_refl] at h3; cases h3.2
      have ih := yapp_ok (m := m) key.1
      refine ⟨fun hq => ?_, ih.2⟩
      have i1 := ih.1 hq
      unfold ymo at i1 ⊢
      rw [Bool.or_eq_false_iff] at i1
      show ((Nat.beq c q || ymem q m) || (Nat.beq c (1000 * (j + 1) + q) || ymem (1000 * (j + 1) + q) m)) = false
      rw [i1.1, i1.2, Bool.or_false, Bool.or_false, Bool.or_eq_false_iff]
      refine ⟨ybf (fun z => ?_), ybf (fun z => ?_)⟩
      · have e := Nat.eq_of_beq_eq_true z
        rcases hcd with ⟨z1, z2, z3⟩ | ⟨z1, z2, z3⟩
        · exact key.2 (by omega) (.inl z1)
        · omega
      · have e := Nat.eq_of_beq_eq_true z
        rcases hcd with ⟨z1, z2, z3⟩ | ⟨z1, z2, z3⟩
        · omega
        · exact key.2 (by omega) (.inr (by omega))
    by_cases b : Nat.blt c 1000 = true
    · rw [b, cond_true] at h
      exact fin c 0 (.inl ⟨rfl, rfl, Nat.blt_eq.mp b⟩) h
    · rw [ybf b, cond_false] at h
      exact fin (c % 1000) (c / 1000) (.inr ⟨fun z => b (Nat.blt_eq.mpr z), rfl, rfl⟩) h
theorem yhas_ok {hf : yH} {e : Nat × Nat × Int × Nat × Int} : ∀ {l : yH}, yhas hf l = true → e ∈ l → e ∈ hf
  | [], _, he => by cases he
  | a :: r, h, he => by
    have h : ((match yfl hf a.1 a.2.1 a.2.2.1 with
      | some (s, o) => Nat.beq s a.2.2.2.1 && yqi o a.2.2.2.2
      | none => false) && yhas hf r) = true := h
    rw [Bool.and_eq_true] at h
    rcases List.mem_cons.mp he with rfl | he
    · have h := h.1
      split at h
      · rename_i s o hq
        rw [Bool.and_eq_true, yqi_i] at h
        have := yfl_ok0 hq
        rw [Nat.eq_of_beq_eq_true h.1, h.2] at this
        exact this
      · cases h
    · exact yhas_ok h.2 he
theorem ymd_ex {p j : Nat} : ∀ {l : yM}, ymd p j l = true → ∃ c, (c = 0 ∨ c = j + 1) ∧ (p, c) ∈ l
  | [], h => by cases h
  | e :: l, h => by
    have h : ((Nat.beq e.1 p && (Nat.beq e.2 0 || Nat.beq e.2 (j + 1))) || ymd p j l) = true := h
    rw [Bool.or_eq_true, Bool.and_eq_true, Bool.or_eq_true] at h
    rcases h with ⟨h1, h2⟩ | h
    · refine ⟨e.2, h2.imp Nat.eq_of_beq_eq_true Nat.eq_of_beq_eq_true, ?_⟩
      rw [← Nat.eq_of_beq_eq_true h1]; exact List.mem_cons_self
    · obtain ⟨c, h1, h2⟩ := ymd_ex h
      exact ⟨c, h1, List.mem_cons_of_mem _ h2⟩
theorem ysub2_ok {md : yM} {p j : Nat} (hp : ymd p j md = false) {l : yM} (h : ysub2 md l = true) : ymd p j l = false := by
  cases hq : ymd p j l
  · rfl
  · exfalso
    obtain ⟨c, h1, h2⟩ := ymd_ex hq
    have key : ∀ {l : yM}, ysub2 md l = true → (p, c) ∈ l → (ymp p 0 md || ymp p c md) = true := by
      intro l
      induction l with
      | nil => intro _ h; cases h
      | cons e l ih =>
        intro h hm
        have h : ((ymp e.1 0 md || ymp e.1 e.2 md) && ysub2 md l) = true := h
        rw [Bool.and_eq_true] at h
        rcases List.mem_cons.mp hm with rfl | hm
        · exact h.1
        · exact ih h.2 hm
    have h3 := key h h2
    rw [Bool.or_eq_true] at h3
    rcases h3 with h3 | h3
    · rw [ymp_ok (.inl rfl) h3] at hp; cases hp
    · rw [ymp_ok h1 h3] at hp; cases hp
theorem yve_ok {a v : yV} (h : yve a v = true) : a = v := by
  unfold yve at h
  rw [Bool.and_eq_true, Bool.and_eq_true, yqi_i] at h
  obtain ⟨a1, a2, a3⟩ := a
  obtain ⟨v1, v2, v3⟩ := v
  have h1 : a1 = v1 := Nat.eq_of_beq_eq_true h.1
  have h2 : a2 = v2 := Nat.eq_of_beq_eq_true h.2.1
  have h3 : a3 = v3 := h.2.2
  rw [h1, h2, h3]
theorem yvl_ok : ∀ {l m : List yV}, yvl l m = true → l = m
  | [], [], _ => rfl
  | a :: l, v :: m, h => by
    have h : (yve a v && yvl l m) = true := h
    rw [Bool.and_eq_true] at h
    rw [yve_ok h.1, yvl_ok h.2]
  | [], _ :: _, h => by cases h
  | _ :: _, [], h => by cases h
section ExOK
variable {L : Nat} {xs : Nat → Int} {w0 : qW} {gf : Nat → Nat → Option yI} {ga : Nat → Option yI} {ra : Nat → Nat → List Int} {Sp : qW → Prop} {gh : Nat → List Int → Int} {bv : Nat → Nat → Option Int} {bb : Nat → Option yI} {ct : Nat → List yC} {an : Nat → Nat → Option yA} {fk : Nat → Nat → Option Nat}
theorem yam_ok {ρ : Nat → Int} {S : yS} {w : qW} (g : yG L xs w0 gf ga ra Sp gh ρ S w) : ∀ {l : List (Nat × Int × Int)} {as : List yV}, yam S.2.1 l as = true → yamc l (as.map (yc ρ))
  | [], [], _ => trivial
  | c :: r, v :: l, h => by
    have h : (Nat.beq c.1 v.1 && ((match yiv S.2.1 v.2.1 v.2.2 with
      | some (a, b) => yle c.2.1 a && yle b c.2.2
      | none => false) && yam S.2.1 r l)) = true := h
    rw [Bool.and_eq_true, Bool.and_eq_true] at h
    have h1 := h.2.1
    split at h1
    · rename_i a b hq
      have k := yiv_ok g hq
      rw [Bool.and_eq_true, yle_i, yle_i] at h1
      exact ⟨⟨(Nat.eq_of_beq_eq_true h.1).symm, by show c.2.1 ≤ ρ v.2.1 + v.2.2; omega, by show ρ v.2.1 + v.2.2 ≤ c.2.2; omega⟩, yam_ok g h.2.2⟩
    · cases h1
  | [], _ :: _, h => by cases h
  | _ :: _, [], h => by cases h
theorem yac_ok {ρ : Nat → Int} {S : yS} {w : qW} (g : yG L xs w0 gf ga ra Sp gh ρ S w) : ∀ {h : yHv} {l m : List yV}, yac S.2.1 h l m = true → ymt ρ h l (m.map (yc ρ))
  | some b :: h, _ :: l, v :: m, e => by
    have e : (Nat.beq b.1 v.1 && ((match yiv S.2.1 v.2.1 v.2.2 with
      | some (c, d) => yle b.2.1 c && yle d b.2.2
      | none => false) && yac S.2.1 h l m)) = true := e
    rw [Bool.and_eq_true, Bool.and_eq_true] at e
    have h1 := e.2.1
    split at h1
    · rename_i c d hq
      have k := yiv_ok g hq
      rw [Bool.and_eq_true, yle_i, yle_i] at h1
      exact ⟨⟨(Nat.eq_of_beq_eq_true e.1).symm, by show b.2.1 ≤ ρ v.2.1 + v.2.2; omega, by show ρ v.2.1 + v.2.2 ≤ b.2.2; omega⟩, yac_ok g e.2.2⟩
    · cases h1
  | none :: h, a :: l, v :: m, e => by
    have e : (yve a v && yac S.2.1 h l m) = true := e
    rw [Bool.and_eq_true] at e
    exact ⟨by rw [yve_ok e.1], yac_ok g e.2⟩
  | [], l, m, e => by
    have := yvl_ok (show yvl l m = true from e)
    show m.map (yc ρ) = l.map (yc ρ)
    rw [this]
  | some _ :: _, [], [], _ => rfl
  | none :: _, [], [], _ => rfl
  | some _ :: _, [], _ :: _, e => by cases e
  | none :: _, [], _ :: _, e => by cases e
  | some _ :: _, _ :: _, [], e => by cases e
  | none :: _, _ :: _, [], e => by cases e
theorem ydm_ok {ρ : Nat → Int} {S : yS} {w : qW} (g : yG L xs w0 gf ga ra Sp gh ρ S w) {l0 l1 : List yV} : ∀ {ms : List (Nat × Int)} {u : Int}, ydm S.2.1 l0 l1 ms = some u → yms ms (l1.map (yc ρ)) - yms ms (l0.map (yc ρ)) ≤ u
  | [], u, h => by
    have h : some 0 = some u := h
    cases h
    exact Int.le_refl 0
  | e :: r, u, h => by
    have h : (match ydm S.2.1 l0 l1 r with
      | none => none
      | some u => bif Nat.beq (ynt l0 e.1).2.1 (ynt l1 e.1).2.1 then some (u + e.2 * ((ynt l1 e.1).2.2 - (ynt l0 e.1).2.2)) else match yiv S.2.1 (ynt l1 e.1).2.1 (ynt l1 e.1).2.2, yiv S.2.1 (ynt l0 e.1).2.1 (ynt l0 e.1).2.2 with
        | some (a, b), some (c, d) => some (u + (bif yle 0 e.2 then e.2 * (b - c) else e.2 * (a - d)))
        | _, _ => none) = some u := h
    split at h
    · cases h
    · rename_i u1 hu
      have ih := ydm_ok g hu
      show yms r (l1.map (yc ρ)) + e.2 * (qnt (l1.map (yc ρ)) e.1).2 - (yms r (l0.map (yc ρ)) + e.2 * (qnt (l0.map (yc ρ)) e.1).2) ≤ u
      rw [qnt_map g.1.1, qnt_map g.1.1]
      generalize ynt l0 e.1 = v0 at h ⊢
      generalize ynt l1 e.1 = v1 at h ⊢
      show _ + e.2 * (ρ v1.2.1 + v1.2.2) - (_ + e.2 * (ρ v0.2.1 + v0.2.2)) ≤ u
      have key : ∀ z : Int, e.2 * ((ρ v1.2.1 + v1.2.2) - (ρ v0.2.1 + v0.2.2)) ≤ z → some (u1 + z) = some u → yms r (l1.map (yc ρ)) + e.2 * (ρ v1.2.1 + v1.2.2) - (yms r (l0.map (yc ρ)) + e.2 * (ρ v0.2.1 + v0.2.2)) ≤ u := fun z hz hu9 => by
        cases hu9
        rw [Int.mul_sub] at hz
        omega
      by_cases c : Nat.beq v0.2.1 v1.2.1 = true
      · rw [c] at h
        refine key _ (Int.le_of_eq ?_) h
        rw [Nat.eq_of_beq_eq_true c]
        congr 1; omega
      · rw [ybf c] at h
        replace h : (match yiv S.2.1 v1.2.1 v1.2.2, yiv S.2.1 v0.2.1 v0.2.2 with
          | some (a, b), some (c, d) => some (u1 + (bif yle 0 e.2 then e.2 * (b - c) else e.2 * (a - d)))
          | _, _ => none) = some u := h
        split at h
        · rename_i a b c d h1 h2
          have k1 := yiv_ok g h1
          have k2 := yiv_ok g h2
          by_cases z : yle 0 e.2 = true
          · rw [z] at h
            exact key _ (Int.mul_le_mul_of_nonneg_left (by omega) (yle_i.mp z)) h
          · rw [ybf z] at h
            have z2 := yle_f z
            exact key _ (Int.mul_le_mul_of_nonpos_left (by omega) (by omega)) h
        · cases h
theorem yhav_ok {ρ : Nat → Int} {S : yS} {w w' : qW} {m : List Nat} (g : yG L xs w0 gf ga ra Sp gh ρ S w) (hI : yInv gf ga ra Sp w') (hw : ∀ p j, (p < 1000 → ymo p j m = false) → w' p j = w p j) : yG L xs w0 gf ga ra Sp gh ρ (yhav S m) w' := by
  refine ⟨g.1, g.2.1, fun e he => ?_, fun p j hp => ?_, hI, g.2.2.2.2.2⟩
  · have h := yforg_ok (show e ∈ yforg m S.2.2.1 from he)
    have k := g.2.2.1 e h.1
    refine ⟨k.1, k.2.1, ?_⟩
    rw [← k.2.2]
    by_cases c : e.1 = 0
    · rw [c]; rfl
    · rw [yrd_ne (by omega), yrd_ne (by omega)]
      refine hw _ _ (fun hp => h.2 hp _ (fun z => ?_))
      rw [z, g.1.1, Int.zero_add]
  · have h := yapp_ok (show ymd p j (yapp m S.2.2.2.1) = false from hp)
    rw [hw p j h.1, g.2.2.2.1 p j h.2]
theorem yhav2_ok {ρ : Nat → Int} {S : yS} {w w' : qW} {m : List Nat} {q : List (Nat × Nat × Int)} (g : yG L xs w0 gf ga ra Sp gh ρ S w) (hI : yInv gf ga ra Sp w') (hw : ∀ p j, (p < 1000 → ymo p j m = false) → w' p j = w p j) (hq : ∀ e ∈ q, 0 < e.1 ∧ w' e.1 e.2.1 = e.2.2) : yG L xs w0 gf ga ra Sp gh ρ (yhav2 S m q) w' := by
  have g1 := yhav_ok g hI hw
  refine ⟨g1.1, g1.2.1, ?_, g1.2.2.2⟩
  have h0 : 0 < S.1 := by have := g.1.2.1; omega
  have key : ∀ (q : List (Nat × Nat × Int)), (∀ e ∈ q, 0 < e.1 ∧ w' e.1 e.2.1 = e.2.2) → ∀ e ∈ ypost (yforg m S.2.2.1) q, e.2.1 < S.1 ∧ e.2.2.2.1 < S.1 ∧ yrd xs w' e.1 (ρ e.2.1 + e.2.2.1).toNat = ρ e.2.2.2.1 + e.2.2.2.2 := by
    intro q
    induction q with
    | nil => intro _ e he; exact g1.2.2.1 e he
    | cons a q ih =>
      intro hq e he
      rcases List.mem_cons.mp (show e ∈ (a.1, 0, (a.2.1 : Int), 0, a.2.2) :: ypost (yforg m S.2.2.1) q from he) with rfl | he
      · refine ⟨h0, h0, ?_⟩
        have := hq a List.mem_cons_self
        show yrd xs w' a.1 (ρ 0 + (a.2.1 : Int)).toNat = ρ 0 + a.2.2
        rw [g.1.1, Int.zero_add, Int.zero_add, Int.toNat_natCast, yrd_ne this.1, this.2]
      · exact ih (fun e he => hq e (List.mem_cons_of_mem _ he)) e he
  exact key q hq
theorem ypre_ok {ρ : Nat → Int} {S : yS} {w : qW} (g : yG L xs w0 gf ga ra Sp gh ρ S w) : ∀ {l : List (Nat × Nat × Int)}, ypre S.2.2.1 l = true → ∀ e ∈ l, 0 < e.1 → w e.1 e.2.1 = e.2.2
  | [], _, _, he => by cases he
  | a :: l, h, e, he => by
    have h : ((match yfl S.2.2.1 a.1 0 (a.2.1 : Int) with
      | some (s, o) => Nat.beq s 0 && yqi o a.2.2
      | none => false) && ypre S.2.2.1 l) = true := h
    rw [Bool.and_eq_true] at h
    rcases List.mem_cons.mp he with rfl | he
    · intro hp
      have h := h.1
      split at h
      · rename_i s o hq
        rw [Bool.and_eq_true, yqi_i] at h
        have := yfl_ok g hq
        rw [g.1.1, Int.zero_add, Int.toNat_natCast, yrd_ne hp, Nat.eq_of_beq_eq_true h.1, g.1.1, Int.zero_add, h.2] at this
        exact this.2
      · cases h
    · exact ypre_ok g h.2 e he
theorem yarg_sc {n : Nat} (hn : 0 < n) {as : List yV} (h : ySc n as) : ∀ {l : List Nat}, ∀ a ∈ yarg as l, a.1 < n
  | [], _, ha => by cases ha
  | i :: l, a, ha => by
    rcases List.mem_cons.mp (show a ∈ (ynt as i).2 :: yarg as l from ha) with rfl | ha
    · exact ynt_sc hn h
    · exact yarg_sc hn h a ha
theorem yarg_map {ρ : Nat → Int} (h0 : ρ 0 = 0) {as : List yV} : ∀ (l : List Nat), (yarg as l).map (fun a => ρ a.1 + a.2) = l.map (fun i => (qnt (as.map (yc ρ)) i).2)
  | [] => rfl
  | i :: l => by
    show (ρ (ynt as i).2.1 + (ynt as i).2.2) :: (yarg as l).map (fun a => ρ a.1 + a.2) = (qnt (as.map (yc ρ)) i).2 :: l.map (fun i => (qnt (as.map (yc ρ)) i).2)
    rw [yarg_map h0 l, qnt_map h0]; rfl
noncomputable def ysc (L : Nat) (xs : Nat → Int) (k : Nat) : Option (Nat × (Nat → Int)) := bif Nat.beq k 305 then some (L, xs) else none
noncomputable def yKOK (L : Nat) (xs : Nat → Int) (w0 : qW) (gf : Nat → Nat → Option yI) (ga : Nat → Option yI) (ra : Nat → Nat → List Int) (Sp : qW → Prop) (gh : Nat → List Int → Int) (ρ : Nat → Int) (n : Nat) (Q : qV → qW → Nat → Prop) (K : yK) : Prop := ∀ ρ' S' v w', yag n ρ ρ' → n ≤ S'.1 → yG L xs w0 gf ga ra Sp gh ρ' S' w' → v.2.1 < S'.1 → K S' v = true → Q (yc ρ' v) w' 142
noncomputable def yLOK (L : Nat) (xs : Nat → Int) (w0 : qW) (gf : Nat → Nat → Option yI) (ga : Nat → Option yI) (ra : Nat → Nat → List Int) (Sp : qW → Prop) (gh : Nat → List Int → Int) (D k : Nat) (Q : qV → qW → Nat → Prop) (ρ : Nat → Int) (n : Nat) (c : yLC) : Prop :=
  ySc n c.2.2.2.1 ∧ ySc n c.2.2.2.2.1 ∧ (∀ e ∈ c.2.2.2.2.2.1, e.2.1 < n ∧ e.2.2.2.1 < n) ∧ ∀ cls w', ymt ρ c.2.2.1 c.2.2.2.1 cls → (∀ e ∈ c.2.2.2.2.2.1, yrd xs w' e.1 (ρ e.2.1 + e.2.2.1).toNat = ρ e.2.2.2.1 + e.2.2.2.2) → (∀ p j, ymd p j c.2.2.2.2.2.2.1 = false → w' p j = w0 p j) → yInv gf ga ra Sp w' → yms c.2.2.2.2.2.2.2 cls < yms c.2.2.2.2.2.2.2 (c.2.2.2.1.map (yc ρ)) → qG (ysc L xs k) D k c.1 cls (c.2.2.2.2.1.map (yc ρ)) w' 142 Q
noncomputable def yXOK (L : Nat) (xs : Nat → Int) (w0 : qW) (gf : Nat → Nat → Option yI) (ga : Nat → Option yI) (ra : Nat → Nat → List Int) (Sp : qW → Prop) (gh : Nat → List Int → Int) (X : yXt) : Prop := ∀ ctx d D k pc ls st S K ρ w Q, d ≤ D → X ctx d k pc ls st S K = true → yG L xs w0 gf ga ra Sp gh ρ S w → ySc S.1 ls → ySc S.1 st → yKOK L xs w0 gf ga ra Sp gh ρ S.1 Q K → (∀ c ∈ ctx, yLOK L xs w0 gf ga ra Sp gh D k Q ρ S.1 c) → qG (ysc L xs k) D k pc (ls.map (yc ρ)) (st.map (yc ρ)) w 142 Q
/-- a contract is right -/
noncomputable def yCOK (w0 : qW) (gf : Nat → Nat → Option yI) (ga : Nat → Option yI) (ra : Nat → Nat → List Int) (Sp : qW → Prop) (gh : Nat → List Int → Int) (t : Nat) (c : yC) : Prop := ∀ d (as : List qV) (w : qW), c.1 ≤ d → yamc c.2.1 as → yInv gf ga ra Sp w → (∀ p, ymem p c.2.2.2.2.1 = true → ∀ j, w p j = w0 p j) → (∀ e ∈ c.2.2.2.2.2.1, 0 < e.1 → w e.1 e.2.1 = e.2.2) →
  qG none d t 0 (qini t as) [] w 142 (fun v w' n' => (v.1 = c.2.2.1.1 ∧ yin c.2.2.1.2 v.2) ∧ yInv gf ga ra Sp w' ∧ n' = 142 ∧ (∀ p j, (p < 1000 → ymo p j c.2.2.2.1 = false) → w' p j = w p j) ∧ (∀ e ∈ c.2.2.2.2.2.2.1, 0 < e.1 ∧ w' e.1 e.2.1 = e.2.2) ∧ (Nat.beq c.2.2.2.2.2.2.2.1 0 = false → v.2 = gh c.2.2.2.2.2.2.2.1 (c.2.2.2.2.2.2.2.2.map (fun i => (qnt as i).2))))
theorem yKOK.mono {ρ ρ' : Nat → Int} {n n' : Nat} {Q : qV → qW → Nat → Prop} {K : yK} (h : yKOK L xs w0 gf ga ra Sp gh ρ n Q K) (ha : yag n ρ ρ') (hn : n ≤ n') : yKOK L xs w0 gf ga ra Sp gh ρ' n' Q K := fun ρ'' S' v w' a1 a2 a3 a4 a5 => h ρ'' S' v w' (ha.tr a1 hn) (by omega) a3 a4 a5
theorem ymt_ag {ρ ρ' : Nat → Int} {n : Nat} (ha : yag n ρ ρ') : ∀ {h : yHv} {l : List yV} {m : List qV}, ySc n l → ymt ρ' h l m → ymt ρ h l m
  | some b :: h, _ :: l, c :: m, hl, e => ⟨e.1, ymt_ag ha hl.tl e.2⟩
  | none :: h, a :: l, c :: m, hl, e => by
    have e : c = yc ρ' a ∧ ymt ρ' h l m := e
    exact ⟨by rw [e.1, yc_ag ha hl.hd], ymt_ag ha hl.tl e.2⟩
  | [], l, m, hl, e => by
    have e : m = l.map (yc ρ') := e
    show m = l.map (yc ρ)
    rw [e, ym_ag ha hl]
  | some _ :: _, [], m, hl, e => e
  | none :: _, [], m, hl, e => e
  | some _ :: _, _ :: _, [], _, e => e.elim
  | none :: _, _ :: _, [], _, e => e.elim
theorem yLOK.mono {D k : Nat} {ρ ρ' : Nat → Int} {n n' : Nat} {Q : qV → qW → Nat → Prop} {c : yLC} (h : yLOK L xs w0 gf ga ra Sp gh D k Q ρ n c) (ha : yag n ρ ρ') (hn : n ≤ n') : yLOK L xs w0 gf ga ra Sp gh D k Q ρ' n' c := by
  obtain ⟨h1, h2, h3, h4⟩ := h
  refine ⟨h1.mono hn, h2.mono hn, fun e he => ⟨by have := (h3 e he).1; omega, by have := (h3 e he).2; omega⟩, fun cls w' b1 b2 b3 b4 b5 => ?_⟩
  rw [ym_ag ha h2]
  rw [ym_ag ha h1] at b5
  refine h4 cls w' (ymt_ag ha h1 b1) (fun e he => ?_) b3 b4 b5
  have := b2 e he
  rw [ha _ (h3 e he).1, ha _ (h3 e he).2] at this
  exact this
end ExOK
