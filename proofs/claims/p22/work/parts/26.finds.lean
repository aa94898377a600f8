/-! the reference's isMove, findsPoses -/
theorem qG.ild {sc : Option (Nat × (Nat → Int))} {d k pc n m x len : Nat} {ls r : List qV} {w : qW} {Q : qV → qW → Nat → Prop} {i p : Int} (hq : qcd k pc = some (.iaload, len)) (hp : qpl p.toNat = (1, 0, m, x)) (hi : 0 ≤ i ∧ i < (m : Int)) (h0 : 0 < p ∧ p ≤ (n : Int)) (g : qG sc d k (pc + 1) ls ((0, w p.toNat i.toNat) :: r) w n Q) : qG sc d k pc ls ((0, i) :: (2, p) :: r) w n Q := by
  refine qG.one (pc' := pc + 1) (ls' := ls) (st' := (0, w p.toNat i.toNat) :: r) (w' := w) (n' := n) ?_ g
  unfold qone
  rw [hq]
  show qs1 sc k .iaload len pc ls ((0, i) :: (2, p) :: r) w n = _
  rw [qs1_iaload]
  show (match qpl p.toNat with
    | (1, 0, m, _) => if 0 ≤ i ∧ i < (m : Int) then (if 0 < p ∧ p ≤ (n : Int) then some (pc + 1, ls, (0, w p.toNat i.toNat) :: r, w, n) else none) else none
    | _ => none) = _
  rw [hp]
  show (if 0 ≤ i ∧ i < (m : Int) then (if 0 < p ∧ p ≤ (n : Int) then some (pc + 1, ls, (0, w p.toNat i.toNat) :: r, w, n) else none) else none) = _
  rw [if_pos hi, if_pos h0]
theorem qG.ist {sc : Option (Nat × (Nat → Int))} {d k pc n m x len : Nat} {ls r : List qV} {w : qW} {Q : qV → qW → Nat → Prop} {i p v : Int} (hq : qcd k pc = some (.iastore, len)) (hp : qpl p.toNat = (1, 0, m, x)) (hi : 0 ≤ i ∧ i < (m : Int)) (h0 : 0 < p ∧ p ≤ (n : Int)) (g : qG sc d k (pc + 1) ls r (qup w p.toNat i.toNat v) n Q) : qG sc d k pc ls ((0, v) :: (0, i) :: (2, p) :: r) w n Q := by
  refine qG.one (pc' := pc + 1) (ls' := ls) (st' := r) (w' := qup w p.toNat i.toNat v) (n' := n) ?_ g
  unfold qone
  rw [hq]
  show qs1 sc k .iastore len pc ls ((0, v) :: (0, i) :: (2, p) :: r) w n = _
  rw [qs1_iastore]
  show (match qpl p.toNat with
    | (1, 0, m, _) => if 0 ≤ i ∧ i < (m : Int) then (if 0 < p ∧ p ≤ (n : Int) then some (pc + 1, ls, r, qup w p.toNat i.toNat v, n) else none) else none
    | _ => none) = _
  rw [hp]
  show (if 0 ≤ i ∧ i < (m : Int) then (if 0 < p ∧ p ≤ (n : Int) then some (pc + 1, ls, r, qup w p.toNat i.toNat v, n) else none) else none) = _
  rw [if_pos hi, if_pos h0]
noncomputable def mvB (w : qW) (c k : Nat) (a b : Int) : Bool := decide (a = b) || (decide (bitsF (qand a b) 16 = (k : Int) - 1) && (decide ((1 : Int) < (k : Int)) || decide (hgR (pasB w c) (qor a b) = qor a b)))
theorem mv_1 {w : qW} {c k : Nat} {a b : Int} (h : a = b) : mvB w c k a b = true := by unfold mvB; rw [decide_eq_true h]; rfl
theorem mv_2 {w : qW} {c k : Nat} {a b : Int} (h : bitsF (qand a b) 16 = (k : Int) - 1) (h2 : (1 : Int) < (k : Int)) : mvB w c k a b = true := by unfold mvB; rw [decide_eq_true h, decide_eq_true h2, Bool.true_or, Bool.and_true, Bool.or_true]
theorem mv_3 {w : qW} {c k : Nat} {a b : Int} (h : bitsF (qand a b) 16 = (k : Int) - 1) (h2 : hgR (pasB w c) (qor a b) = qor a b) : mvB w c k a b = true := by unfold mvB; rw [decide_eq_true h, decide_eq_true h2, Bool.or_true, Bool.and_true, Bool.or_true]
theorem mv_4 {w : qW} {c k : Nat} {a b : Int} (h : ¬ a = b) (h2 : ¬ bitsF (qand a b) 16 = (k : Int) - 1) : mvB w c k a b = false := by unfold mvB; rw [decide_eq_false h, decide_eq_false h2]; rfl
theorem mv_5 {w : qW} {c k : Nat} {a b : Int} (h : ¬ a = b) (h2 : ¬ (1 : Int) < (k : Int)) (h3 : ¬ hgR (pasB w c) (qor a b) = qor a b) : mvB w c k a b = false := by unfold mvB; rw [decide_eq_false h, decide_eq_false h2, decide_eq_false h3, Bool.or_false, Bool.and_false]; rfl
theorem mv_in {w : qW} {c k : Nat} {a b : Int} (h : mvB w c k a b = true) : a = b ∨ bitsF (qand a b) 16 = (k : Int) - 1 := by
  unfold mvB at h
  rw [Bool.or_eq_true, Bool.and_eq_true, decide_eq_true_eq, decide_eq_true_eq] at h
  exact h.imp id (fun z => z.1)
theorem K_hangs2 {P : Nat → Nat → Bool} {d : Nat} (hd : 3 ≤ d) (c : Nat) (v : Int) (hc : c < 3) (w : qW) (hI : yInv zgf zga zra zSp w) (hP : pasB w c = P) : qG none d 219 0 [(2, 95), (0, ((c : Nat) : Int)), (0, v), (9, 0), (9, 0), (9, 0), (9, 0)] [] w 142 (fun r w1 n1 => r = (0, if hgR P v = v then 1 else 0) ∧ w1 = w ∧ n1 = 142) := by
  subst hP; exact K_hangs hd c v hc w hI
theorem zref {w : qW} (hI : yInv zgf zga zra zSp w) {p j : Nat} {v : Int} (h : zra p j = [v]) (hy : yarr p = false) : w p j = v := List.mem_singleton.mp (h ▸ hI.2.2.1 p j (by rw [h]; exact List.cons_ne_nil _ _) hy)
theorem K_isMove {d : Nat} (hd : 4 ≤ d) (c k : Nat) (a b : Int) (hc : c < 3) (hk1 : 1 ≤ k) (hk2 : k ≤ 4) (w : qW) (P : qW) (hI : yInv zgf zga zra zSp w) (hP : pasB w c = pasB P c) : qG none d 256 0 [(2, 95), (0, ((c : Nat) : Int)), (0, a), (0, b), (0, ((k : Nat) : Int))] [] w 142 (fun (r : qV) (w1 : qW) (n1 : Nat) => r = (0, if mvB P c k a b = true then 1 else 0) ∧ w1 = w ∧ n1 = 142) := by
  generalize hQ9 : (fun (r : qV) (w1 : qW) (n1 : Nat) => r = (0, if mvB P c k a b = true then 1 else 0) ∧ w1 = w ∧ n1 = 142) = Q9
  obtain ⟨d, rfl⟩ : ∃ d9, d = d9 + 1 := ⟨d - 1, by omega⟩
  refine qG.blk 2 (pc' := 2) (ls' := [(2, 95), (0, ((c : Nat) : Int)), (0, a), (0, b), (0, ((k : Nat) : Int))]) (st' := [(0, b), (0, a)]) (w' := w) (n' := 142) rfl ?_
  refine qG.br (P := a = b) (pc1 := 35) (pc2 := 5) (st1 := []) rfl (fun hab => ?_) (fun hab => ?_)
  · skip
    refine qG.blk 2 (pc' := 40) (ls' := [(2, 95), (0, ((c : Nat) : Int)), (0, a), (0, b), (0, ((k : Nat) : Int))]) (st' := [(0, 1)]) (w' := w) (n' := 142) rfl ?_
    refine qG.ret rfl (by first | rfl | exact decide_eq_true (by omega)) ?_
    subst hQ9
    exact ⟨by first | (rw [mv_1 hab]; rfl) | (rw [mv_2 hbt hk]; rfl) | (rw [mv_3 hbt (Decidable.of_not_not (fun z => hh (ite01.mpr z)))]; rfl) | (rw [mv_4 hab hbt]; rfl) | (rw [mv_5 hab hk (ite01.mp hh)]; rfl), rfl, rfl⟩
  · skip
    refine qG.blk 3 (pc' := 8) (ls' := [(2, 95), (0, ((c : Nat) : Int)), (0, a), (0, b), (0, ((k : Nat) : Int))]) (st' := [(0, qand a b)]) (w' := w) (n' := 142) rfl ?_
    refine qG.call (t := 211) (na := 1) (sk := 0) (md := 0) (ls1 := [(0, qand a b), (9, 0), (9, 0)]) (r1 := []) rfl rfl rfl rfl rfl (K_bits (by omega) _ w) ?_
    rintro _ w7 _ ⟨rfl, hw7, rfl⟩
    rw [hw7]
    show qG none (d + 1) 256 11 [(2, 95), (0, ((c : Nat) : Int)), (0, a), (0, b), (0, ((k : Nat) : Int))] [(0, bitsF (qand a b) 16)] w 142 Q9
    refine qG.blk 3 (pc' := 15) (ls' := [(2, 95), (0, ((c : Nat) : Int)), (0, a), (0, b), (0, ((k : Nat) : Int))]) (st' := [(0, wrp (((k : Nat) : Int) - 1)), (0, bitsF (qand a b) 16)]) (w' := w) (n' := 142) rfl ?_
    rw [show wrp (((k : Nat) : Int) - 1) = ((k : Nat) : Int) - 1 from wrp_id (by omega) (by omega)]
    refine qG.br (P := bitsF (qand a b) 16 = ((k : Nat) : Int) - 1) (pc1 := 18) (pc2 := 39) (st1 := []) rfl (fun hbt => ?_) (fun hbt => ?_)
    · skip
      refine qG.blk 2 (pc' := 21) (ls' := [(2, 95), (0, ((c : Nat) : Int)), (0, a), (0, b), (0, ((k : Nat) : Int))]) (st' := [(0, 1), (0, ((k : Nat) : Int))]) (w' := w) (n' := 142) rfl ?_
      refine qG.br (P := 1 < ((k : Nat) : Int)) (pc1 := 35) (pc2 := 24) (st1 := []) rfl (fun hk => ?_) (fun hk => ?_)
      · skip
        refine qG.blk 2 (pc' := 40) (ls' := [(2, 95), (0, ((c : Nat) : Int)), (0, a), (0, b), (0, ((k : Nat) : Int))]) (st' := [(0, 1)]) (w' := w) (n' := 142) rfl ?_
        refine qG.ret rfl (by first | rfl | exact decide_eq_true (by omega)) ?_
        subst hQ9
        exact ⟨by first | (rw [mv_1 hab]; rfl) | (rw [mv_2 hbt hk]; rfl) | (rw [mv_3 hbt (Decidable.of_not_not (fun z => hh (ite01.mpr z)))]; rfl) | (rw [mv_4 hab hbt]; rfl) | (rw [mv_5 hab hk (ite01.mp hh)]; rfl), rfl, rfl⟩
      · skip
        refine qG.blk 5 (pc' := 29) (ls' := [(2, 95), (0, ((c : Nat) : Int)), (0, a), (0, b), (0, ((k : Nat) : Int))]) (st' := [(0, qor a b), (0, ((c : Nat) : Int)), (2, 95)]) (w' := w) (n' := 142) rfl ?_
        refine qG.call (t := 219) (na := 3) (sk := 1) (md := 1) (ls1 := [(2, 95), (0, ((c : Nat) : Int)), (0, qor a b), (9, 0), (9, 0), (9, 0), (9, 0)]) (r1 := []) rfl rfl rfl rfl rfl (K_hangs2 (by omega) c (qor a b) hc w hI hP) ?_
        rintro _ w7 _ ⟨rfl, hw7, rfl⟩
        rw [hw7]
        show qG none (d + 1) 256 32 [(2, 95), (0, ((c : Nat) : Int)), (0, a), (0, b), (0, ((k : Nat) : Int))] [(0, (if hgR (pasB P c) (qor a b) = qor a b then 1 else 0))] w 142 Q9
        refine qG.br (P := (if hgR (pasB P c) (qor a b) = qor a b then 1 else 0) = 0) (pc1 := 39) (pc2 := 35) (st1 := []) rfl (fun hh => ?_) (fun hh => ?_)
        · skip
          refine qG.blk 1 (pc' := 40) (ls' := [(2, 95), (0, ((c : Nat) : Int)), (0, a), (0, b), (0, ((k : Nat) : Int))]) (st' := [(0, 0)]) (w' := w) (n' := 142) rfl ?_
          refine qG.ret rfl (by first | rfl | exact decide_eq_true (by omega)) ?_
          subst hQ9
          exact ⟨by first | (rw [mv_1 hab]; rfl) | (rw [mv_2 hbt hk]; rfl) | (rw [mv_3 hbt (Decidable.of_not_not (fun z => hh (ite01.mpr z)))]; rfl) | (rw [mv_4 hab hbt]; rfl) | (rw [mv_5 hab hk (ite01.mp hh)]; rfl), rfl, rfl⟩
        · skip
          refine qG.blk 2 (pc' := 40) (ls' := [(2, 95), (0, ((c : Nat) : Int)), (0, a), (0, b), (0, ((k : Nat) : Int))]) (st' := [(0, 1)]) (w' := w) (n' := 142) rfl ?_
          refine qG.ret rfl (by first | rfl | exact decide_eq_true (by omega)) ?_
          subst hQ9
          exact ⟨by first | (rw [mv_1 hab]; rfl) | (rw [mv_2 hbt hk]; rfl) | (rw [mv_3 hbt (Decidable.of_not_not (fun z => hh (ite01.mpr z)))]; rfl) | (rw [mv_4 hab hbt]; rfl) | (rw [mv_5 hab hk (ite01.mp hh)]; rfl), rfl, rfl⟩
    · skip
      refine qG.blk 1 (pc' := 40) (ls' := [(2, 95), (0, ((c : Nat) : Int)), (0, a), (0, b), (0, ((k : Nat) : Int))]) (st' := [(0, 0)]) (w' := w) (n' := 142) rfl ?_
      refine qG.ret rfl (by first | rfl | exact decide_eq_true (by omega)) ?_
      subst hQ9
      exact ⟨by first | (rw [mv_1 hab]; rfl) | (rw [mv_2 hbt hk]; rfl) | (rw [mv_3 hbt (Decidable.of_not_not (fun z => hh (ite01.mpr z)))]; rfl) | (rw [mv_4 hab hbt]; rfl) | (rw [mv_5 hab hk (ite01.mp hh)]; rfl), rfl, rfl⟩
/-- which sets are poses -/
noncomputable def fpd (w : qW) (c k s : Nat) : Bool := decide (qand (s : Int) (w 96 c) = 0) && (decide (bitsF (s : Int) 16 = (k : Int)) && decide (hgR (pasB w c) (s : Int) = (s : Int)))
noncomputable def fpL (w : qW) (c k s : Nat) : List Nat := (List.range s).filter (fpd w c k)
theorem fpd_y {w : qW} {c k s : Nat} (h1 : qand (s : Int) (w 96 c) = 0) (h2 : bitsF (s : Int) 16 = (k : Int)) (h3 : hgR (pasB w c) (s : Int) = (s : Int)) : fpd w c k s = true := by unfold fpd; rw [decide_eq_true h1, decide_eq_true h2, decide_eq_true h3]; rfl
theorem fpd_n {w : qW} {c k s : Nat} (h : ¬ qand (s : Int) (w 96 c) = 0 ∨ ¬ bitsF (s : Int) 16 = (k : Int) ∨ ¬ hgR (pasB w c) (s : Int) = (s : Int)) : fpd w c k s = false := by
  unfold fpd
  rcases h with h | h | h
  · rw [decide_eq_false h]; rfl
  · rw [decide_eq_false h, Bool.false_and, Bool.and_false]
  · rw [decide_eq_false h, Bool.and_false, Bool.and_false]
theorem fpd_b {w : qW} {c k s : Nat} (h : fpd w c k s = true) : bitsF (s : Int) 16 = (k : Int) := by
  unfold fpd at h
  rw [Bool.and_eq_true, Bool.and_eq_true, decide_eq_true_eq, decide_eq_true_eq] at h
  exact h.2.1
theorem fpL_s {w : qW} {c k s : Nat} : fpL w c k (s + 1) = if fpd w c k s = true then fpL w c k s ++ [s] else fpL w c k s := by
  unfold fpL
  rw [List.range_succ, List.filter_append, List.filter_cons, List.filter_nil]
  split
  · rfl
  · rw [List.append_nil]
theorem fpL_y {w : qW} {c k s : Nat} (h : fpd w c k s = true) : fpL w c k (s + 1) = fpL w c k s ++ [s] := by rw [fpL_s, if_pos h]
theorem fpL_n {w : qW} {c k s : Nat} (h : fpd w c k s = false) : fpL w c k (s + 1) = fpL w c k s := by rw [fpL_s, if_neg (by rw [h]; exact fun z => by cases z)]
theorem fpL_1 {w : qW} {c k : Nat} (hk : 1 ≤ k) : fpL w c k 1 = [] := by
  rw [fpL_n (s := 0) (fpd_n (.inr (.inl (fun z => by
    have := bitsF_pc (n := 0) (by decide) 16 (by decide)
    rw [this, show pc 0 16 = 0 from by decide] at z
    omega))))]
  rfl
theorem filt_mono {p q : Nat → Bool} : ∀ {l : List Nat}, (∀ x ∈ l, p x = true → q x = true) → (l.filter p).length ≤ (l.filter q).length
  | [], _ => Nat.le_refl 0
  | a :: l, h => by
    have ih := filt_mono (l := l) (fun x hx => h x (List.mem_cons_of_mem _ hx))
    have ha := h a List.mem_cons_self
    rw [List.filter_cons, List.filter_cons]
    cases hp : p a
    · rw [if_neg (by exact fun z => by cases z)]
      split
      · rw [List.length_cons]; omega
      · exact ih
    · rw [if_pos rfl, if_pos (ha hp), List.length_cons, List.length_cons]; omega
theorem fpL_len {w : qW} {c k s : Nat} (hk : k ≤ 4) (hs : s ≤ 65536) : (fpL w c k s).length ≤ 1820 := by
  have h1 : (fpL w c k s).length ≤ ((List.range s).filter (fun n => Nat.beq (pc n 16) k)).length := filt_mono (fun x hx hd => by
    have hx := List.mem_range.mp hx
    have h2 := fpd_b hd
    rw [bitsF_pc (by omega) 16 (by decide)] at h2
    have h3 : pc x 16 = k := by omega
    rw [h3]; exact Nat.beq_refl k)
  have h2 : ((List.range s).filter (fun n => Nat.beq (pc n 16) k)).length ≤ ((List.range (2 ^ 16)).filter (fun n => Nat.beq (pc n 16) k)).length := by
    rw [show 2 ^ 16 = s + (65536 - s) by omega, List.range_add, List.filter_append, List.length_append]
    omega
  rw [bin_count] at h2
  have := bin_16 k (by omega)
  omega
theorem fpL_in {w : qW} {c k s b : Nat} (hs : s ≤ 65536) (h : b ∈ fpL w c k s) : b < 65536 ∧ pc b 16 = k := by
  have h := List.mem_filter.mp h
  have h1 := List.mem_range.mp h.1
  have h2 := fpd_b h.2
  rw [bitsF_pc (by omega) 16 (by decide)] at h2
  exact ⟨by omega, by omega⟩
noncomputable def cM (w : qW) (c k : Nat) (l : List Nat) (a j : Nat) : Nat := ((l.take j).filter (fun b : Nat => mvB w c k (a : Int) (b : Int))).length
theorem cM_s {w : qW} {c k a j : Nat} {l : List Nat} (hj : j < l.length) : cM w c k l a (j + 1) = cM w c k l a j + (if mvB w c k (a : Int) ((l.getD j 0 : Nat) : Int) = true then 1 else 0) := by
  unfold cM
  rw [List.take_add_one, List.filter_append, List.length_append, List.getElem?_eq_getElem hj, List.getD_eq_getElem?_getD, List.getElem?_eq_getElem hj]
  congr 1
  show ([l[j]].filter _).length = _
  rw [List.filter_cons, List.filter_nil]
  show _ = if mvB w c k (a : Int) ((l[j] : Nat) : Int) = true then 1 else 0
  split <;> rfl
theorem cM_49 {w : qW} {c k a j s : Nat} (hs : s ≤ 65536) (hk1 : 1 ≤ k) (hk2 : k ≤ 4) (ha : a < 65536) (ha2 : pc a 16 = k) : cM w c k (fpL w c k s) a j ≤ 49 := by
  unfold cM
  have hn : ((fpL w c k s).take j).Nodup := List.Sublist.nodup (List.take_sublist _ _) (List.Sublist.nodup List.filter_sublist List.nodup_range)
  have h1 := pigeon (l := ((fpL w c k s).take j).filter (fun b : Nat => mvB w c k (a : Int) (b : Int))) (L := a :: swaps a) (List.Sublist.nodup List.filter_sublist hn) (fun b hb => by
    have hb := List.mem_filter.mp hb
    obtain ⟨b1, b2⟩ := fpL_in hs (List.mem_of_mem_take hb.1)
    rcases mv_in hb.2 with z | z
    · have : a = b := by omega
      rw [this]; exact List.mem_cons_self
    · refine List.mem_cons_of_mem _ (swaps_in ha b1 ha2 b2 ?_)
      rw [qand_n (by omega) (by omega), bitsF_pc (Nat.lt_of_le_of_lt Nat.and_le_left ha) 16 (by decide)] at z
      omega)
  rw [List.length_cons, swaps_len, ha2] at h1
  have := swap_49 k (by omega)
  omega
/-- the first loop's state -/
noncomputable def fpI (w : qW) (c k s : Nat) (w9 : qW) : Prop := w9 95 8 = (((fpL w c k s).length : Nat) : Int) ∧ (∀ j, j < (fpL w c k s).length → w9 101 j = (((fpL w c k s).getD j 0 : Nat) : Int)) ∧ w9 95 9 = ((8 * c + k : Nat) : Int) ∧ (∀ p j, p ≠ 101 → ¬ (p = 95 ∧ (j = 8 ∨ j = 9)) → w9 p j = w p j) ∧ yInv zgf zga zra zSp w9
theorem zSpt {gf : Nat → Nat → Option yI} {ga : Nat → Option yI} {ra : Nat → Nat → List Int} : ∀ w p j v, (yarr p = false → gf p j ≠ none ∨ ra p j ≠ []) → (yarr p = true → ga p ≠ none) → zSp w → zSp (qup w p j v) := fun _ _ _ _ _ _ _ => trivial
theorem zup_f {w : qW} (hI : yInv zgf zga zra zSp w) {p j : Nat} {v : Int} {b : yI} (hg : zgf p j = some b) (hr : zra p j = []) (hy : yarr p = false) (h : yin b v) : yInv zgf zga zra zSp (qup w p j v) := yInv_up zSpt hI (fun _ => ⟨fun b9 hb9 => by rw [hg] at hb9; cases hb9; exact h, fun z => absurd hr z, .inl (by rw [hg]; exact fun z => by cases z)⟩) (fun z => by rw [hy] at z; cases z)
theorem zup_a {w : qW} (hI : yInv zgf zga zra zSp w) {p j : Nat} {v : Int} {b : yI} (hg : zga p = some b) (hy : yarr p = true) (h : yin b v) : yInv zgf zga zra zSp (qup w p j v) := yInv_up zSpt hI (fun z => by rw [hy] at z; cases z) (fun _ => ⟨b, hg, h⟩)
theorem fpI.init {w : qW} {c k : Nat} (hc : c < 3) (hk1 : 1 ≤ k) (hk2 : k ≤ 4) (hI : yInv zgf zga zra zSp w) : fpI w c k 1 (qup (qup w 95 9 ((8 * c + k : Nat) : Int)) 95 8 0) := by
  unfold fpI
  rw [fpL_1 hk1]
  refine ⟨rfl, fun j hj => absurd hj (Nat.not_lt_zero j), rfl, fun p j h1 h2 => ?_, ?_⟩
  · by_cases hp : p = 95
    · subst hp
      rw [qup_j (fun z => h2 ⟨rfl, .inl z⟩), qup_j (fun z => h2 ⟨rfl, .inr z⟩)]
    · rw [qup_ne hp, qup_ne hp]
  · exact zup_f (zup_f hI (b := (-1, 20)) rfl rfl rfl ⟨by show (-1 : Int) ≤ _; omega, by show _ ≤ (20 : Int); omega⟩) (b := (0, 1820)) rfl rfl rfl ⟨by decide, by decide⟩
theorem fpI.pas {w w9 : qW} {c k s : Nat} (h : fpI w c k s w9) : pasB w9 c = pasB w c := funext fun s => funext fun t => by
  unfold pasB
  rw [h.2.2.2.1 99 _ (by decide) (fun z => by omega)]
theorem fpI.no {w w9 : qW} {c k s : Nat} (h : fpI w c k s w9) (hd : fpd w c k s = false) : fpI w c k (s + 1) w9 := by
  unfold fpI; rw [fpL_n hd]; exact h
theorem fpI.yes {w w9 : qW} {c k s : Nat} (hk2 : k ≤ 4) (hs : s < 65536) (h : fpI w c k s w9) (hd : fpd w c k s = true) : fpI w c k (s + 1) (qup (qup w9 101 (fpL w c k s).length (s : Int)) 95 8 (((fpL w c k s).length + 1 : Nat) : Int)) := by
  have hl := fpL_len (w := w) (c := c) (s := s + 1) hk2 (by omega)
  obtain ⟨h1, h2, h3, h4, h5⟩ := h
  unfold fpI
  rw [fpL_y hd] at hl ⊢
  rw [List.length_append] at hl ⊢
  have hl : (fpL w c k s).length + 1 ≤ 1820 := hl
  refine ⟨rfl, fun j hj => ?_, ?_, fun p j q1 q2 => ?_, ?_⟩
  · have hj : j < (fpL w c k s).length + 1 := hj
    rw [qup_ne (by decide), List.getD_eq_getElem?_getD]
    by_cases e : j = (fpL w c k s).length
    · subst e
      rw [qup_k, List.getElem?_append_right (Nat.le_refl _), Nat.sub_self]; rfl
    · rw [qup_j e, h2 j (by omega), List.getElem?_append_left (by omega), List.getD_eq_getElem?_getD]
  · rw [qup_j (by decide), qup_ne (by decide)]; exact h3
  · by_cases hp : p = 95
    · subst hp
      rw [qup_j (fun z => q2 ⟨rfl, .inl z⟩), qup_ne (by decide)]
      exact h4 95 j (by decide) q2
    · rw [qup_ne hp, qup_ne q1]; exact h4 p j q1 q2
  · exact zup_f (zup_a h5 (b := (0, 65535)) rfl rfl ⟨by show (0 : Int) ≤ _; omega, by show _ ≤ (65535 : Int); omega⟩) (b := (0, 1820)) rfl rfl rfl ⟨by show (0 : Int) ≤ _; omega, by show _ ≤ (1820 : Int); omega⟩
/-- the second loop's: only nextMany and next change -/
noncomputable def fpJ (wA w8 : qW) : Prop := (∀ p j, p ≠ 102 → p ≠ 103 → w8 p j = wA p j) ∧ yInv zgf zga zra zSp w8
noncomputable def fpK (w : qW) (c k s : Nat) (wA : qW) (i j : Nat) (w7 : qW) : Prop := fpJ wA w7 ∧ w7 102 i = ((cM w c k (fpL w c k s) ((fpL w c k s).getD i 0) j : Nat) : Int)
theorem fpK.init {w wA w8 : qW} {c k s i : Nat} (h : fpJ wA w8) : fpK w c k s wA i 0 (qup w8 102 i 0) := by
  refine ⟨⟨fun p j h1 h2 => by rw [qup_ne h1]; exact h.1 p j h1 h2, zup_a h.2 (b := (0, 50)) rfl rfl ⟨by decide, by decide⟩⟩, ?_⟩
  rw [qup_k]; unfold cM; rw [List.take_zero]; rfl
theorem fpK.no {w wA w7 : qW} {c k s i j : Nat} (h : fpK w c k s wA i j w7) (hj : j < (fpL w c k s).length) (hm : mvB w c k (((fpL w c k s).getD i 0 : Nat) : Int) (((fpL w c k s).getD j 0 : Nat) : Int) = false) : fpK w c k s wA i (j + 1) w7 := by
  refine ⟨h.1, ?_⟩
  rw [h.2, cM_s hj, hm]; rfl
theorem fpK.yes {w wA w7 : qW} {c k s i j : Nat} (hI9 : (fpL w c k s).length ≤ 1820) (hc49 : cM w c k (fpL w c k s) ((fpL w c k s).getD i 0) j ≤ 49) (h : fpK w c k s wA i j w7) (hj : j < (fpL w c k s).length) (hm : mvB w c k (((fpL w c k s).getD i 0 : Nat) : Int) (((fpL w c k s).getD j 0 : Nat) : Int) = true) : fpK w c k s wA i (j + 1) (qup (qup w7 103 (50 * i + cM w c k (fpL w c k s) ((fpL w c k s).getD i 0) j) (j : Int)) 102 i ((cM w c k (fpL w c k s) ((fpL w c k s).getD i 0) j + 1 : Nat) : Int)) := by
  refine ⟨⟨fun p q h1 h2 => by rw [qup_ne h1, qup_ne h2]; exact h.1.1 p q h1 h2, ?_⟩, ?_⟩
  · exact zup_a (zup_a h.1.2 (b := (0, 1819)) rfl rfl ⟨by show (0 : Int) ≤ _; omega, by show _ ≤ (1819 : Int); omega⟩) (b := (0, 50)) rfl rfl ⟨by show (0 : Int) ≤ _; omega, by show _ ≤ (50 : Int); omega⟩
  · rw [qup_k, cM_s hj, hm]; rfl
/-- the row i of next is filled up to m -/
noncomputable def fpR (w : qW) (c k s : Nat) (w8 : qW) (i m : Nat) : Prop := ∀ j, j < m → mvB w c k (((fpL w c k s).getD i 0 : Nat) : Int) (((fpL w c k s).getD j 0 : Nat) : Int) = true → w8 103 (50 * i + cM w c k (fpL w c k s) ((fpL w c k s).getD i 0) j) = (j : Int)
noncomputable def fpN (w : qW) (c k s : Nat) (w8 : qW) (i : Nat) : Prop := ∀ r, r < i → w8 102 r = ((cM w c k (fpL w c k s) ((fpL w c k s).getD r 0) (fpL w c k s).length : Nat) : Int) ∧ fpR w c k s w8 r (fpL w c k s).length
theorem fpN.zero {w w8 : qW} {c k s : Nat} : fpN w c k s w8 0 := fun r hr => absurd hr (Nat.not_lt_zero r)
theorem fpR.zero {w w8 : qW} {c k s i : Nat} : fpR w c k s w8 i 0 := fun r hr => absurd hr (Nat.not_lt_zero r)
theorem fpN.q0 {w w8 : qW} {c k s i : Nat} (h : fpN w c k s w8 i) : fpN w c k s (qup w8 102 i 0) i := fun r hr => by
  obtain ⟨h1, h2⟩ := h r hr
  refine ⟨by rw [qup_j (by omega)]; exact h1, fun j hj hm => ?_⟩
  rw [qup_ne (by decide)]; exact h2 j hj hm
theorem fpR.no {w w7 : qW} {c k s i j : Nat} (h : fpR w c k s w7 i j) (hm : mvB w c k (((fpL w c k s).getD i 0 : Nat) : Int) (((fpL w c k s).getD j 0 : Nat) : Int) = false) : fpR w c k s w7 i (j + 1) := fun r hr hm2 => by
  by_cases e : r = j
  · subst e; rw [hm] at hm2; cases hm2
  · exact h r (by omega) hm2
theorem cM_le {w : qW} {c k a j r : Nat} {l : List Nat} (hr : j ≤ r) (hl : r ≤ l.length) : cM w c k l a j ≤ cM w c k l a r := by
  induction r with
  | zero => rw [show j = 0 by omega]; exact Nat.le_refl _
  | succ r ih =>
    by_cases e : j = r + 1
    · rw [e]; exact Nat.le_refl _
    · have := ih (by omega) (by omega)
      rw [cM_s (by omega)]
      omega
theorem cM_lt {w : qW} {c k a j r : Nat} {l : List Nat} (hr : j < r) (hl : r ≤ l.length) (hm : mvB w c k (a : Int) ((l.getD j 0 : Nat) : Int) = true) : cM w c k l a j < cM w c k l a r := by
  have := cM_le (w := w) (c := c) (k := k) (a := a) (j := j + 1) (r := r) hr hl
  rw [cM_s (by omega), if_pos hm] at this
  omega
theorem fpR.yes {w w7 : qW} {c k s i j : Nat} {v : Int} (h : fpR w c k s w7 i j) (hj : j < (fpL w c k s).length) : fpR w c k s (qup (qup w7 103 (50 * i + cM w c k (fpL w c k s) ((fpL w c k s).getD i 0) j) (j : Int)) 102 i v) i (j + 1) := fun r hr hm2 => by
  rw [qup_ne (by decide)]
  by_cases e : r = j
  · subst e; rw [qup_k]
  · have := cM_lt (show r < j by omega) (Nat.le_of_lt hj) hm2
    rw [qup_j (by omega)]
    exact h r (by omega) hm2
theorem fpN.yes {w w7 : qW} {c k s i j : Nat} {v : Int} (h : fpN w c k s w7 i) (hc : ∀ r, r < i → ∀ j, cM w c k (fpL w c k s) ((fpL w c k s).getD r 0) j ≤ 49) : fpN w c k s (qup (qup w7 103 (50 * i + cM w c k (fpL w c k s) ((fpL w c k s).getD i 0) j) (j : Int)) 102 i v) i := fun r hr => by
  obtain ⟨h1, h2⟩ := h r hr
  refine ⟨by rw [qup_j (by omega), qup_ne (by decide)]; exact h1, fun j2 hj2 hm => ?_⟩
  have := hc r hr j2
  rw [qup_ne (by decide), qup_j (by omega)]; exact h2 j2 hj2 hm
theorem fpN.s {w wA w7 : qW} {c k s i j : Nat} (h : fpN w c k s w7 i) (h2 : fpK w c k s wA i j w7) (h3 : fpR w c k s w7 i j) (hj : j = (fpL w c k s).length) : fpN w c k s w7 (i + 1) := fun r hr => by
  by_cases e : r = i
  · subst e; subst hj; exact ⟨h2.2, h3⟩
  · exact h r (by omega)
theorem pasJ {wA w7 : qW} {c : Nat} (h : fpJ wA w7) : pasB w7 c = pasB wA c := funext fun s => funext fun t => by
  unfold pasB
  rw [h.1 99 _ (by decide) (by decide)]
theorem K_findsPoses {d : Nat} (hd : 5 ≤ d) (c k : Nat) (hc : c < 3) (hk1 : 1 ≤ k) (hk2 : k ≤ 4) (w : qW) (hI : yInv zgf zga zra zSp w) : qG none d 220 0 [(2, 95), (0, ((c : Nat) : Int)), (0, ((k : Nat) : Int)), (9, 0), (9, 0)] [] w 142 (fun (r : qV) (w1 : qW) (n1 : Nat) => r = (9, 0) ∧ n1 = 142 ∧ ((w 95 9 = ((8 * c + k : Nat) : Int) ∧ w1 = w) ∨ (¬ w 95 9 = ((8 * c + k : Nat) : Int) ∧ ∃ wA, fpI w c k 65536 wA ∧ fpJ wA w1 ∧ fpN w c k 65536 w1 (fpL w c k 65536).length))) := by
  generalize hQ9 : (fun (r : qV) (w1 : qW) (n1 : Nat) => r = (9, 0) ∧ n1 = 142 ∧ ((w 95 9 = ((8 * c + k : Nat) : Int) ∧ w1 = w) ∨ (¬ w 95 9 = ((8 * c + k : Nat) : Int) ∧ ∃ wA, fpI w c k 65536 wA ∧ fpJ wA w1 ∧ fpN w c k 65536 w1 (fpL w c k 65536).length))) = Q9
  obtain ⟨N6, hN6⟩ : ∃ N : Int, N = 65536 := ⟨_, rfl⟩
  obtain ⟨d, rfl⟩ : ∃ d9, d = d9 + 1 := ⟨d - 1, by omega⟩
  refine qG.blk 5 (pc' := 8) (ls' := [(2, 95), (0, ((c : Nat) : Int)), (0, ((k : Nat) : Int)), (9, 0), (9, 0)]) (st' := [(0, wrp (8 * ((c : Nat) : Int))), (0, w 95 9)]) (w' := w) (n' := 142) rfl ?_
  rw [show wrp (8 * ((c : Nat) : Int)) = ((8 * c : Nat) : Int) from by rw [wrp_id (by omega) (by omega)]; omega]
  refine qG.blk 2 (pc' := 10) (ls' := [(2, 95), (0, ((c : Nat) : Int)), (0, ((k : Nat) : Int)), (9, 0), (9, 0)]) (st' := [(0, wrp (((8 * c : Nat) : Int) + ((k : Nat) : Int))), (0, w 95 9)]) (w' := w) (n' := 142) rfl ?_
  rw [show wrp (((8 * c : Nat) : Int) + ((k : Nat) : Int)) = ((8 * c + k : Nat) : Int) from by rw [wrp_id (by omega) (by omega)]; omega]
  refine qG.br (P := w 95 9 = ((8 * c + k : Nat) : Int)) (pc1 := 13) (pc2 := 14) (st1 := []) rfl (fun hpf => ?_) (fun hpf => ?_)
  · skip
    refine qG.retv rfl rfl ?_
    subst hQ9
    first | exact ⟨rfl, rfl, .inl ⟨hpf, rfl⟩⟩ | (refine ⟨rfl, rfl, .inr ⟨hpf, w9, hs ▸ hA, hI96.2.1, ?_⟩⟩; rw [← hs, show (fpL w c k s).length = i by omega]; exact hI96.2.2)
  · skip
    refine qG.blk 4 (pc' := 19) (ls' := [(2, 95), (0, ((c : Nat) : Int)), (0, ((k : Nat) : Int)), (9, 0), (9, 0)]) (st' := [(0, wrp (8 * ((c : Nat) : Int))), (2, 95)]) (w' := w) (n' := 142) rfl ?_
    rw [show wrp (8 * ((c : Nat) : Int)) = ((8 * c : Nat) : Int) from by rw [wrp_id (by omega) (by omega)]; omega]
    refine qG.blk 2 (pc' := 21) (ls' := [(2, 95), (0, ((c : Nat) : Int)), (0, ((k : Nat) : Int)), (9, 0), (9, 0)]) (st' := [(0, wrp (((8 * c : Nat) : Int) + ((k : Nat) : Int))), (2, 95)]) (w' := w) (n' := 142) rfl ?_
    rw [show wrp (((8 * c : Nat) : Int) + ((k : Nat) : Int)) = ((8 * c + k : Nat) : Int) from by rw [wrp_id (by omega) (by omega)]; omega]
    refine qG.blk 6 (pc' := 31) (ls' := [(2, 95), (0, ((c : Nat) : Int)), (0, ((k : Nat) : Int)), (0, 1), (9, 0)]) (st' := []) (w' := (qup (qup w 95 9 ((8 * c + k : Nat) : Int)) 95 8 0)) (n' := 142) rfl ?_
    have L31 : ∀ (m9 : Nat) (s : Nat) (w9 : qW), 65536 - s = m9 → (1 ≤ s ∧ s ≤ 65536 ∧ fpI w c k s w9) → qG none (d + 1) 220 31 [(2, 95), (0, ((c : Nat) : Int)), (0, ((k : Nat) : Int)), (0, ((s : Nat) : Int)), (9, 0)] [] w9 142 Q9 := by
      intro m9
      induction m9 using Nat.strongRecOn with
      | ind m9 ih31 =>
      intro s w9 hm31 hI31
      refine qG.blk 2 (pc' := 34) (ls' := [(2, 95), (0, ((c : Nat) : Int)), (0, ((k : Nat) : Int)), (0, ((s : Nat) : Int)), (9, 0)]) (st' := [(0, 65536), (0, ((s : Nat) : Int))]) (w' := w9) (n' := 142) rfl ?_
      rw [show (65536 : Int) = N6 from hN6.symm]
      refine qG.br (P := ((s : Nat) : Int) < N6) (pc1 := 37) (pc2 := 94) (st1 := []) rfl (fun hs6 => ?_) (fun hs6 => ?_)
      · skip
        refine qG.blk 3 (pc' := 42) (ls' := [(2, 95), (0, ((c : Nat) : Int)), (0, ((k : Nat) : Int)), (0, ((s : Nat) : Int)), (9, 0)]) (st' := [(2, w9 95 0), (0, ((s : Nat) : Int))]) (w' := w9) (n' := 142) rfl ?_
        rw [show w9 95 0 = 96 from zref hI31.2.2.2.2.2.2 rfl rfl]
        refine qG.blk 1 (pc' := 43) (ls' := [(2, 95), (0, ((c : Nat) : Int)), (0, ((k : Nat) : Int)), (0, ((s : Nat) : Int)), (9, 0)]) (st' := [(0, ((c : Nat) : Int)), (2, 96), (0, ((s : Nat) : Int))]) (w' := w9) (n' := 142) rfl ?_
        refine qG.ar (P := 0 ≤ ((c : Nat) : Int) ∧ ((c : Nat) : Int) < ((3 : Nat) : Int)) (P2 := 0 < (96 : Int) ∧ (96 : Int) ≤ ((142 : Nat) : Int)) (pc' := 44) (ls' := [(2, 95), (0, ((c : Nat) : Int)), (0, ((k : Nat) : Int)), (0, ((s : Nat) : Int)), (9, 0)]) (st' := [(0, w9 96 c), (0, ((s : Nat) : Int))]) (w' := w9) (n' := 142) rfl (by omega) (by decide) ?_
        rw [show w9 96 c = w 96 c from hI31.2.2.2.2.2.1 96 c (by decide) (fun z => by omega)]
        refine qG.blk 1 (pc' := 45) (ls' := [(2, 95), (0, ((c : Nat) : Int)), (0, ((k : Nat) : Int)), (0, ((s : Nat) : Int)), (9, 0)]) (st' := [(0, qand ((s : Nat) : Int) (w 96 c))]) (w' := w9) (n' := 142) rfl ?_
        refine qG.br (P := qand ((s : Nat) : Int) (w 96 c) = 0) (pc1 := 48) (pc2 := 88) (st1 := []) rfl (fun hw0 => ?_) (fun hw0 => ?_)
        · skip
          refine qG.blk 1 (pc' := 49) (ls' := [(2, 95), (0, ((c : Nat) : Int)), (0, ((k : Nat) : Int)), (0, ((s : Nat) : Int)), (9, 0)]) (st' := [(0, ((s : Nat) : Int))]) (w' := w9) (n' := 142) rfl ?_
          refine qG.call (t := 211) (na := 1) (sk := 0) (md := 0) (ls1 := [(0, ((s : Nat) : Int)), (9, 0), (9, 0)]) (r1 := []) rfl rfl rfl rfl rfl (K_bits (by omega) _ w9) ?_
          rintro _ w7 _ ⟨rfl, hw7, rfl⟩
          rw [hw7]
          show qG none (d + 1) 220 52 [(2, 95), (0, ((c : Nat) : Int)), (0, ((k : Nat) : Int)), (0, ((s : Nat) : Int)), (9, 0)] [(0, bitsF ((s : Nat) : Int) 16)] w9 142 Q9
          refine qG.blk 1 (pc' := 53) (ls' := [(2, 95), (0, ((c : Nat) : Int)), (0, ((k : Nat) : Int)), (0, ((s : Nat) : Int)), (9, 0)]) (st' := [(0, ((k : Nat) : Int)), (0, bitsF ((s : Nat) : Int) 16)]) (w' := w9) (n' := 142) rfl ?_
          refine qG.br (P := bitsF ((s : Nat) : Int) 16 = ((k : Nat) : Int)) (pc1 := 56) (pc2 := 88) (st1 := []) rfl (fun hbk => ?_) (fun hbk => ?_)
          · skip
            refine qG.blk 3 (pc' := 59) (ls' := [(2, 95), (0, ((c : Nat) : Int)), (0, ((k : Nat) : Int)), (0, ((s : Nat) : Int)), (9, 0)]) (st' := [(0, ((s : Nat) : Int)), (0, ((c : Nat) : Int)), (2, 95)]) (w' := w9) (n' := 142) rfl ?_
            refine qG.call (t := 219) (na := 3) (sk := 1) (md := 1) (ls1 := [(2, 95), (0, ((c : Nat) : Int)), (0, ((s : Nat) : Int)), (9, 0), (9, 0), (9, 0), (9, 0)]) (r1 := []) rfl rfl rfl rfl rfl (K_hangs2 (by omega) c (s : Int) hc w9 hI31.2.2.2.2.2.2 (fpI.pas hI31.2.2)) ?_
            rintro _ w7 _ ⟨rfl, hw7, rfl⟩
            rw [hw7]
            show qG none (d + 1) 220 62 [(2, 95), (0, ((c : Nat) : Int)), (0, ((k : Nat) : Int)), (0, ((s : Nat) : Int)), (9, 0)] [(0, (if hgR (pasB w c) ((s : Nat) : Int) = ((s : Nat) : Int) then 1 else 0))] w9 142 Q9
            refine qG.br (P := (if hgR (pasB w c) ((s : Nat) : Int) = ((s : Nat) : Int) then 1 else 0) = 0) (pc1 := 65) (pc2 := 68) (st1 := []) rfl (fun hhg => ?_) (fun hhg => ?_)
            · skip
              refine qG.blk 2 (pc' := 91) (ls' := [(2, 95), (0, ((c : Nat) : Int)), (0, ((k : Nat) : Int)), (0, wrp (((s : Nat) : Int) + 1)), (9, 0)]) (st' := []) (w' := w9) (n' := 142) rfl ?_
              rw [show wrp (((s : Nat) : Int) + 1) = ((s + 1 : Nat) : Int) from wrp_id (by omega) (by omega)]
              refine qG.blk 1 (pc' := 31) (ls' := [(2, 95), (0, ((c : Nat) : Int)), (0, ((k : Nat) : Int)), (0, ((s + 1 : Nat) : Int)), (9, 0)]) (st' := []) (w' := w9) (n' := 142) rfl ?_
              exact ih31 _ (by omega) (s + 1) (w9) rfl (⟨by omega, by omega, fpI.no hI31.2.2 (by first | exact fpd_n (.inl hw0) | exact fpd_n (.inr (.inl hbk)) | exact fpd_n (.inr (.inr (ite01.mp hhg))))⟩)
            · skip
              have hD : fpd w c k s = true := fpd_y hw0 hbk (Decidable.of_not_not (fun z => hhg (ite01.mpr z)))
              have hlen := fpL_len (w := w) (c := c) (s := s + 1) hk2 (by omega)
              rw [fpL_y hD, List.length_append] at hlen
              have hlen : (fpL w c k s).length + 1 ≤ 1820 := hlen
              refine qG.blk 2 (pc' := 72) (ls' := [(2, 95), (0, ((c : Nat) : Int)), (0, ((k : Nat) : Int)), (0, ((s : Nat) : Int)), (9, 0)]) (st' := [(2, w9 95 5)]) (w' := w9) (n' := 142) rfl ?_
              rw [show w9 95 5 = 101 from zref hI31.2.2.2.2.2.2 rfl rfl]
              refine qG.blk 2 (pc' := 76) (ls' := [(2, 95), (0, ((c : Nat) : Int)), (0, ((k : Nat) : Int)), (0, ((s : Nat) : Int)), (9, 0)]) (st' := [(0, w9 95 8), (2, 101)]) (w' := w9) (n' := 142) rfl ?_
              rw [show w9 95 8 = (((fpL w c k s).length : Nat) : Int) from hI31.2.2.1]
              refine qG.blk 1 (pc' := 77) (ls' := [(2, 95), (0, ((c : Nat) : Int)), (0, ((k : Nat) : Int)), (0, ((s : Nat) : Int)), (9, 0)]) (st' := [(0, ((s : Nat) : Int)), (0, (((fpL w c k s).length : Nat) : Int)), (2, 101)]) (w' := w9) (n' := 142) rfl ?_
              refine qG.ist (m := 1820) rfl rfl (by omega) (by decide) ?_
              show qG none (d + 1) 220 78 [(2, 95), (0, ((c : Nat) : Int)), (0, ((k : Nat) : Int)), (0, ((s : Nat) : Int)), (9, 0)] [] (qup w9 101 ((fpL w c k s).length) ((s : Nat) : Int)) 142 Q9
              refine qG.blk 3 (pc' := 83) (ls' := [(2, 95), (0, ((c : Nat) : Int)), (0, ((k : Nat) : Int)), (0, ((s : Nat) : Int)), (9, 0)]) (st' := [(0, w9 95 8), (2, 95)]) (w' := (qup w9 101 ((fpL w c k s).length) ((s : Nat) : Int))) (n' := 142) rfl ?_
              rw [show w9 95 8 = (((fpL w c k s).length : Nat) : Int) from hI31.2.2.1]
              refine qG.blk 2 (pc' := 85) (ls' := [(2, 95), (0, ((c : Nat) : Int)), (0, ((k : Nat) : Int)), (0, ((s : Nat) : Int)), (9, 0)]) (st' := [(0, wrp ((((fpL w c k s).length : Nat) : Int) + 1)), (2, 95)]) (w' := (qup w9 101 ((fpL w c k s).length) ((s : Nat) : Int))) (n' := 142) rfl ?_
              rw [show wrp ((((fpL w c k s).length : Nat) : Int) + 1) = (((fpL w c k s).length + 1 : Nat) : Int) from wrp_id (by omega) (by omega)]
              refine qG.blk 2 (pc' := 91) (ls' := [(2, 95), (0, ((c : Nat) : Int)), (0, ((k : Nat) : Int)), (0, wrp (((s : Nat) : Int) + 1)), (9, 0)]) (st' := []) (w' := (qup (qup w9 101 ((fpL w c k s).length) ((s : Nat) : Int)) 95 8 (((fpL w c k s).length + 1 : Nat) : Int))) (n' := 142) rfl ?_
              rw [show wrp (((s : Nat) : Int) + 1) = ((s + 1 : Nat) : Int) from wrp_id (by omega) (by omega)]
              refine qG.blk 1 (pc' := 31) (ls' := [(2, 95), (0, ((c : Nat) : Int)), (0, ((k : Nat) : Int)), (0, ((s + 1 : Nat) : Int)), (9, 0)]) (st' := []) (w' := (qup (qup w9 101 ((fpL w c k s).length) ((s : Nat) : Int)) 95 8 (((fpL w c k s).length + 1 : Nat) : Int))) (n' := 142) rfl ?_
              exact ih31 _ (by omega) (s + 1) ((qup (qup w9 101 ((fpL w c k s).length) ((s : Nat) : Int)) 95 8 (((fpL w c k s).length + 1 : Nat) : Int))) rfl (⟨by omega, by omega, fpI.yes hk2 (by omega) hI31.2.2 hD⟩)
          · skip
            refine qG.blk 1 (pc' := 91) (ls' := [(2, 95), (0, ((c : Nat) : Int)), (0, ((k : Nat) : Int)), (0, wrp (((s : Nat) : Int) + 1)), (9, 0)]) (st' := []) (w' := w9) (n' := 142) rfl ?_
            rw [show wrp (((s : Nat) : Int) + 1) = ((s + 1 : Nat) : Int) from wrp_id (by omega) (by omega)]
            refine qG.blk 1 (pc' := 31) (ls' := [(2, 95), (0, ((c : Nat) : Int)), (0, ((k : Nat) : Int)), (0, ((s + 1 : Nat) : Int)), (9, 0)]) (st' := []) (w' := w9) (n' := 142) rfl ?_
            exact ih31 _ (by omega) (s + 1) (w9) rfl (⟨by omega, by omega, fpI.no hI31.2.2 (by first | exact fpd_n (.inl hw0) | exact fpd_n (.inr (.inl hbk)) | exact fpd_n (.inr (.inr (ite01.mp hhg))))⟩)
        · skip
          refine qG.blk 1 (pc' := 91) (ls' := [(2, 95), (0, ((c : Nat) : Int)), (0, ((k : Nat) : Int)), (0, wrp (((s : Nat) : Int) + 1)), (9, 0)]) (st' := []) (w' := w9) (n' := 142) rfl ?_
          rw [show wrp (((s : Nat) : Int) + 1) = ((s + 1 : Nat) : Int) from wrp_id (by omega) (by omega)]
          refine qG.blk 1 (pc' := 31) (ls' := [(2, 95), (0, ((c : Nat) : Int)), (0, ((k : Nat) : Int)), (0, ((s + 1 : Nat) : Int)), (9, 0)]) (st' := []) (w' := w9) (n' := 142) rfl ?_
          exact ih31 _ (by omega) (s + 1) (w9) rfl (⟨by omega, by omega, fpI.no hI31.2.2 (by first | exact fpd_n (.inl hw0) | exact fpd_n (.inr (.inl hbk)) | exact fpd_n (.inr (.inr (ite01.mp hhg))))⟩)
      · skip
        refine qG.blk 2 (pc' := 96) (ls' := [(2, 95), (0, ((c : Nat) : Int)), (0, ((k : Nat) : Int)), (0, 0), (9, 0)]) (st' := []) (w' := w9) (n' := 142) rfl ?_
        have hs : s = 65536 := by omega
        have hA : fpI w c k s w9 := hI31.2.2
        have hs9 : s ≤ 65536 := hI31.2.1
        have hN : (fpL w c k s).length ≤ 1820 := fpL_len hk2 hs9
        have hin : ∀ i, i < (fpL w c k s).length → (fpL w c k s).getD i 0 < 65536 ∧ pc ((fpL w c k s).getD i 0) 16 = k := fun i hi => by
          rw [List.getD_eq_getElem?_getD, List.getElem?_eq_getElem hi]
          exact fpL_in hs9 (List.getElem_mem hi)
        have L96 : ∀ (m9 : Nat) (i : Nat) (w8 : qW) (x4 : qV), (fpL w c k s).length - i = m9 → (i ≤ (fpL w c k s).length ∧ fpJ w9 w8 ∧ fpN w c k s w8 i) → qG none (d + 1) 220 96 [(2, 95), (0, ((c : Nat) : Int)), (0, ((k : Nat) : Int)), (0, ((i : Nat) : Int)), x4] [] w8 142 Q9 := by
          intro m9
          induction m9 using Nat.strongRecOn with
          | ind m9 ih96 =>
          intro i w8 x4 hm96 hI96
          refine qG.blk 3 (pc' := 101) (ls' := [(2, 95), (0, ((c : Nat) : Int)), (0, ((k : Nat) : Int)), (0, ((i : Nat) : Int)), x4]) (st' := [(0, w8 95 8), (0, ((i : Nat) : Int))]) (w' := w8) (n' := 142) rfl ?_
          rw [show w8 95 8 = (((fpL w c k s).length : Nat) : Int) from (hI96.2.1.1 95 8 (by decide) (by decide)).trans hA.1]
          refine qG.br (P := ((i : Nat) : Int) < (((fpL w c k s).length : Nat) : Int)) (pc1 := 104) (pc2 := 188) (st1 := []) rfl (fun hi6 => ?_) (fun hi6 => ?_)
          · skip
            refine qG.blk 2 (pc' := 108) (ls' := [(2, 95), (0, ((c : Nat) : Int)), (0, ((k : Nat) : Int)), (0, ((i : Nat) : Int)), x4]) (st' := [(2, w8 95 6)]) (w' := w8) (n' := 142) rfl ?_
            rw [show w8 95 6 = 102 from zref hI96.2.1.2 rfl rfl]
            refine qG.blk 2 (pc' := 110) (ls' := [(2, 95), (0, ((c : Nat) : Int)), (0, ((k : Nat) : Int)), (0, ((i : Nat) : Int)), x4]) (st' := [(0, 0), (0, ((i : Nat) : Int)), (2, 102)]) (w' := w8) (n' := 142) rfl ?_
            refine qG.ist (m := 1820) rfl rfl (by omega) (by decide) ?_
            show qG none (d + 1) 220 111 [(2, 95), (0, ((c : Nat) : Int)), (0, ((k : Nat) : Int)), (0, ((i : Nat) : Int)), x4] [] (qup w8 102 i 0) 142 Q9
            refine qG.blk 2 (pc' := 114) (ls' := [(2, 95), (0, ((c : Nat) : Int)), (0, ((k : Nat) : Int)), (0, ((i : Nat) : Int)), (0, 0)]) (st' := []) (w' := (qup w8 102 i 0)) (n' := 142) rfl ?_
            have L114 : ∀ (m9 : Nat) (j : Nat) (w7 : qW), (fpL w c k s).length - j = m9 → (j ≤ (fpL w c k s).length ∧ fpK w c k s w9 i j w7 ∧ fpN w c k s w7 i ∧ fpR w c k s w7 i j) → qG none (d + 1) 220 114 [(2, 95), (0, ((c : Nat) : Int)), (0, ((k : Nat) : Int)), (0, ((i : Nat) : Int)), (0, ((j : Nat) : Int))] [] w7 142 Q9 := by
              intro m9
              induction m9 using Nat.strongRecOn with
              | ind m9 ih114 =>
              intro j w7 hm114 hI114
              refine qG.blk 3 (pc' := 120) (ls' := [(2, 95), (0, ((c : Nat) : Int)), (0, ((k : Nat) : Int)), (0, ((i : Nat) : Int)), (0, ((j : Nat) : Int))]) (st' := [(0, w7 95 8), (0, ((j : Nat) : Int))]) (w' := w7) (n' := 142) rfl ?_
              rw [show w7 95 8 = (((fpL w c k s).length : Nat) : Int) from (hI114.2.1.1.1 95 8 (by decide) (by decide)).trans hA.1]
              refine qG.br (P := ((j : Nat) : Int) < (((fpL w c k s).length : Nat) : Int)) (pc1 := 123) (pc2 := 182) (st1 := []) rfl (fun hj6 => ?_) (fun hj6 => ?_)
              · skip
                have hcm : cM w c k (fpL w c k s) ((fpL w c k s).getD i 0) j ≤ 49 := cM_49 hs9 hk1 hk2 (hin i (by omega)).1 (hin i (by omega)).2
                have hcr : ∀ r, r < i → ∀ j, cM w c k (fpL w c k s) ((fpL w c k s).getD r 0) j ≤ 49 := fun r hr j => cM_49 hs9 hk1 hk2 (hin r (by omega)).1 (hin r (by omega)).2
                refine qG.blk 4 (pc' := 129) (ls' := [(2, 95), (0, ((c : Nat) : Int)), (0, ((k : Nat) : Int)), (0, ((i : Nat) : Int)), (0, ((j : Nat) : Int))]) (st' := [(2, w7 95 5), (0, ((c : Nat) : Int)), (2, 95)]) (w' := w7) (n' := 142) rfl ?_
                rw [show w7 95 5 = 101 from zref hI114.2.1.1.2 rfl rfl]
                refine qG.blk 1 (pc' := 130) (ls' := [(2, 95), (0, ((c : Nat) : Int)), (0, ((k : Nat) : Int)), (0, ((i : Nat) : Int)), (0, ((j : Nat) : Int))]) (st' := [(0, ((i : Nat) : Int)), (2, 101), (0, ((c : Nat) : Int)), (2, 95)]) (w' := w7) (n' := 142) rfl ?_
                refine qG.ild (m := 1820) rfl rfl (by omega) (by decide) ?_
                show qG none (d + 1) 220 131 [(2, 95), (0, ((c : Nat) : Int)), (0, ((k : Nat) : Int)), (0, ((i : Nat) : Int)), (0, ((j : Nat) : Int))] [(0, w7 101 i), (0, ((c : Nat) : Int)), (2, 95)] w7 142 Q9
                rw [show w7 101 i = (((fpL w c k s).getD i 0 : Nat) : Int) from (hI114.2.1.1.1 101 i (by decide) (by decide)).trans (hA.2.1 i (by omega))]
                refine qG.blk 2 (pc' := 135) (ls' := [(2, 95), (0, ((c : Nat) : Int)), (0, ((k : Nat) : Int)), (0, ((i : Nat) : Int)), (0, ((j : Nat) : Int))]) (st' := [(2, w7 95 5), (0, (((fpL w c k s).getD i 0 : Nat) : Int)), (0, ((c : Nat) : Int)), (2, 95)]) (w' := w7) (n' := 142) rfl ?_
                rw [show w7 95 5 = 101 from zref hI114.2.1.1.2 rfl rfl]
                refine qG.blk 1 (pc' := 137) (ls' := [(2, 95), (0, ((c : Nat) : Int)), (0, ((k : Nat) : Int)), (0, ((i : Nat) : Int)), (0, ((j : Nat) : Int))]) (st' := [(0, ((j : Nat) : Int)), (2, 101), (0, (((fpL w c k s).getD i 0 : Nat) : Int)), (0, ((c : Nat) : Int)), (2, 95)]) (w' := w7) (n' := 142) rfl ?_
                refine qG.ild (m := 1820) rfl rfl (by omega) (by decide) ?_
                show qG none (d + 1) 220 138 [(2, 95), (0, ((c : Nat) : Int)), (0, ((k : Nat) : Int)), (0, ((i : Nat) : Int)), (0, ((j : Nat) : Int))] [(0, w7 101 j), (0, (((fpL w c k s).getD i 0 : Nat) : Int)), (0, ((c : Nat) : Int)), (2, 95)] w7 142 Q9
                rw [show w7 101 j = (((fpL w c k s).getD j 0 : Nat) : Int) from (hI114.2.1.1.1 101 j (by decide) (by decide)).trans (hA.2.1 j (by omega))]
                refine qG.blk 1 (pc' := 139) (ls' := [(2, 95), (0, ((c : Nat) : Int)), (0, ((k : Nat) : Int)), (0, ((i : Nat) : Int)), (0, ((j : Nat) : Int))]) (st' := [(0, ((k : Nat) : Int)), (0, (((fpL w c k s).getD j 0 : Nat) : Int)), (0, (((fpL w c k s).getD i 0 : Nat) : Int)), (0, ((c : Nat) : Int)), (2, 95)]) (w' := w7) (n' := 142) rfl ?_
                refine qG.call (t := 256) (na := 5) (sk := 1) (md := 1) (ls1 := [(2, 95), (0, ((c : Nat) : Int)), (0, (((fpL w c k s).getD i 0 : Nat) : Int)), (0, (((fpL w c k s).getD j 0 : Nat) : Int)), (0, ((k : Nat) : Int))]) (r1 := []) rfl rfl rfl rfl rfl (K_isMove (by omega) c k (((fpL w c k s).getD i 0 : Nat) : Int) (((fpL w c k s).getD j 0 : Nat) : Int) hc hk1 hk2 w7 w hI114.2.1.1.2 ((pasJ hI114.2.1.1).trans (fpI.pas hA))) ?_
                rintro _ w6 _ ⟨rfl, hw6, rfl⟩
                rw [hw6]
                show qG none (d + 1) 220 142 [(2, 95), (0, ((c : Nat) : Int)), (0, ((k : Nat) : Int)), (0, ((i : Nat) : Int)), (0, ((j : Nat) : Int))] [(0, (if mvB w c k (((fpL w c k s).getD i 0 : Nat) : Int) (((fpL w c k s).getD j 0 : Nat) : Int) = true then 1 else 0))] w7 142 Q9
                refine qG.br (P := (if mvB w c k (((fpL w c k s).getD i 0 : Nat) : Int) (((fpL w c k s).getD j 0 : Nat) : Int) = true then 1 else 0) = 0) (pc1 := 145) (pc2 := 148) (st1 := []) rfl (fun hmv => ?_) (fun hmv => ?_)
                · skip
                  refine qG.blk 2 (pc' := 179) (ls' := [(2, 95), (0, ((c : Nat) : Int)), (0, ((k : Nat) : Int)), (0, ((i : Nat) : Int)), (0, wrp (((j : Nat) : Int) + 1))]) (st' := []) (w' := w7) (n' := 142) rfl ?_
                  rw [show wrp (((j : Nat) : Int) + 1) = ((j + 1 : Nat) : Int) from wrp_id (by omega) (by omega)]
                  refine qG.blk 1 (pc' := 114) (ls' := [(2, 95), (0, ((c : Nat) : Int)), (0, ((k : Nat) : Int)), (0, ((i : Nat) : Int)), (0, ((j + 1 : Nat) : Int))]) (st' := []) (w' := w7) (n' := 142) rfl ?_
                  exact ih114 _ (by omega) (j + 1) (w7) rfl (⟨by omega, fpK.no hI114.2.1 (by omega) (ybf (ite01.mp hmv)), hI114.2.2.1, fpR.no hI114.2.2.2 (ybf (ite01.mp hmv))⟩)
                · skip
                  refine qG.blk 2 (pc' := 152) (ls' := [(2, 95), (0, ((c : Nat) : Int)), (0, ((k : Nat) : Int)), (0, ((i : Nat) : Int)), (0, ((j : Nat) : Int))]) (st' := [(2, w7 95 7)]) (w' := w7) (n' := 142) rfl ?_
                  rw [show w7 95 7 = 103 from zref hI114.2.1.1.2 rfl rfl]
                  refine qG.blk 3 (pc' := 156) (ls' := [(2, 95), (0, ((c : Nat) : Int)), (0, ((k : Nat) : Int)), (0, ((i : Nat) : Int)), (0, ((j : Nat) : Int))]) (st' := [(0, wrp (50 * ((i : Nat) : Int))), (2, 103)]) (w' := w7) (n' := 142) rfl ?_
                  rw [show wrp (50 * ((i : Nat) : Int)) = ((50 * i : Nat) : Int) from by rw [wrp_id (by omega) (by omega)]; omega]
                  refine qG.blk 2 (pc' := 160) (ls' := [(2, 95), (0, ((c : Nat) : Int)), (0, ((k : Nat) : Int)), (0, ((i : Nat) : Int)), (0, ((j : Nat) : Int))]) (st' := [(2, w7 95 6), (0, ((50 * i : Nat) : Int)), (2, 103)]) (w' := w7) (n' := 142) rfl ?_
                  rw [show w7 95 6 = 102 from zref hI114.2.1.1.2 rfl rfl]
                  refine qG.blk 1 (pc' := 161) (ls' := [(2, 95), (0, ((c : Nat) : Int)), (0, ((k : Nat) : Int)), (0, ((i : Nat) : Int)), (0, ((j : Nat) : Int))]) (st' := [(0, ((i : Nat) : Int)), (2, 102), (0, ((50 * i : Nat) : Int)), (2, 103)]) (w' := w7) (n' := 142) rfl ?_
                  refine qG.ild (m := 1820) rfl rfl (by omega) (by decide) ?_
                  show qG none (d + 1) 220 162 [(2, 95), (0, ((c : Nat) : Int)), (0, ((k : Nat) : Int)), (0, ((i : Nat) : Int)), (0, ((j : Nat) : Int))] [(0, w7 102 i), (0, ((50 * i : Nat) : Int)), (2, 103)] w7 142 Q9
                  rw [show w7 102 i = ((cM w c k (fpL w c k s) ((fpL w c k s).getD i 0) j : Nat) : Int) from hI114.2.1.2]
                  refine qG.blk 1 (pc' := 163) (ls' := [(2, 95), (0, ((c : Nat) : Int)), (0, ((k : Nat) : Int)), (0, ((i : Nat) : Int)), (0, ((j : Nat) : Int))]) (st' := [(0, wrp (((50 * i : Nat) : Int) + ((cM w c k (fpL w c k s) ((fpL w c k s).getD i 0) j : Nat) : Int))), (2, 103)]) (w' := w7) (n' := 142) rfl ?_
                  rw [show wrp (((50 * i : Nat) : Int) + ((cM w c k (fpL w c k s) ((fpL w c k s).getD i 0) j : Nat) : Int)) = ((50 * i + cM w c k (fpL w c k s) ((fpL w c k s).getD i 0) j : Nat) : Int) from by rw [wrp_id (by omega) (by omega)]; omega]
                  refine qG.blk 1 (pc' := 165) (ls' := [(2, 95), (0, ((c : Nat) : Int)), (0, ((k : Nat) : Int)), (0, ((i : Nat) : Int)), (0, ((j : Nat) : Int))]) (st' := [(0, ((j : Nat) : Int)), (0, ((50 * i + cM w c k (fpL w c k s) ((fpL w c k s).getD i 0) j : Nat) : Int)), (2, 103)]) (w' := w7) (n' := 142) rfl ?_
                  refine qG.ist (m := 91000) rfl rfl (by omega) (by decide) ?_
                  show qG none (d + 1) 220 166 [(2, 95), (0, ((c : Nat) : Int)), (0, ((k : Nat) : Int)), (0, ((i : Nat) : Int)), (0, ((j : Nat) : Int))] [] (qup w7 103 (50 * i + cM w c k (fpL w c k s) ((fpL w c k s).getD i 0) j) ((j : Nat) : Int)) 142 Q9
                  refine qG.blk 2 (pc' := 170) (ls' := [(2, 95), (0, ((c : Nat) : Int)), (0, ((k : Nat) : Int)), (0, ((i : Nat) : Int)), (0, ((j : Nat) : Int))]) (st' := [(2, w7 95 6)]) (w' := (qup w7 103 (50 * i + cM w c k (fpL w c k s) ((fpL w c k s).getD i 0) j) ((j : Nat) : Int))) (n' := 142) rfl ?_
                  rw [show w7 95 6 = 102 from zref hI114.2.1.1.2 rfl rfl]
                  refine qG.blk 2 (pc' := 172) (ls' := [(2, 95), (0, ((c : Nat) : Int)), (0, ((k : Nat) : Int)), (0, ((i : Nat) : Int)), (0, ((j : Nat) : Int))]) (st' := [(0, ((i : Nat) : Int)), (2, 102), (0, ((i : Nat) : Int)), (2, 102)]) (w' := (qup w7 103 (50 * i + cM w c k (fpL w c k s) ((fpL w c k s).getD i 0) j) ((j : Nat) : Int))) (n' := 142) rfl ?_
                  refine qG.ild (m := 1820) rfl rfl (by omega) (by decide) ?_
                  show qG none (d + 1) 220 173 [(2, 95), (0, ((c : Nat) : Int)), (0, ((k : Nat) : Int)), (0, ((i : Nat) : Int)), (0, ((j : Nat) : Int))] [(0, w7 102 i), (0, ((i : Nat) : Int)), (2, 102)] (qup w7 103 (50 * i + cM w c k (fpL w c k s) ((fpL w c k s).getD i 0) j) ((j : Nat) : Int)) 142 Q9
                  rw [show w7 102 i = ((cM w c k (fpL w c k s) ((fpL w c k s).getD i 0) j : Nat) : Int) from hI114.2.1.2]
                  refine qG.blk 2 (pc' := 175) (ls' := [(2, 95), (0, ((c : Nat) : Int)), (0, ((k : Nat) : Int)), (0, ((i : Nat) : Int)), (0, ((j : Nat) : Int))]) (st' := [(0, wrp (((cM w c k (fpL w c k s) ((fpL w c k s).getD i 0) j : Nat) : Int) + 1)), (0, ((i : Nat) : Int)), (2, 102)]) (w' := (qup w7 103 (50 * i + cM w c k (fpL w c k s) ((fpL w c k s).getD i 0) j) ((j : Nat) : Int))) (n' := 142) rfl ?_
                  rw [show wrp (((cM w c k (fpL w c k s) ((fpL w c k s).getD i 0) j : Nat) : Int) + 1) = ((cM w c k (fpL w c k s) ((fpL w c k s).getD i 0) j + 1 : Nat) : Int) from wrp_id (by omega) (by omega)]
                  refine qG.ist (m := 1820) rfl rfl (by omega) (by decide) ?_
                  show qG none (d + 1) 220 176 [(2, 95), (0, ((c : Nat) : Int)), (0, ((k : Nat) : Int)), (0, ((i : Nat) : Int)), (0, ((j : Nat) : Int))] [] (qup (qup w7 103 (50 * i + cM w c k (fpL w c k s) ((fpL w c k s).getD i 0) j) ((j : Nat) : Int)) 102 i ((cM w c k (fpL w c k s) ((fpL w c k s).getD i 0) j + 1 : Nat) : Int)) 142 Q9
                  refine qG.blk 1 (pc' := 179) (ls' := [(2, 95), (0, ((c : Nat) : Int)), (0, ((k : Nat) : Int)), (0, ((i : Nat) : Int)), (0, wrp (((j : Nat) : Int) + 1))]) (st' := []) (w' := (qup (qup w7 103 (50 * i + cM w c k (fpL w c k s) ((fpL w c k s).getD i 0) j) ((j : Nat) : Int)) 102 i ((cM w c k (fpL w c k s) ((fpL w c k s).getD i 0) j + 1 : Nat) : Int))) (n' := 142) rfl ?_
                  rw [show wrp (((j : Nat) : Int) + 1) = ((j + 1 : Nat) : Int) from wrp_id (by omega) (by omega)]
                  refine qG.blk 1 (pc' := 114) (ls' := [(2, 95), (0, ((c : Nat) : Int)), (0, ((k : Nat) : Int)), (0, ((i : Nat) : Int)), (0, ((j + 1 : Nat) : Int))]) (st' := []) (w' := (qup (qup w7 103 (50 * i + cM w c k (fpL w c k s) ((fpL w c k s).getD i 0) j) ((j : Nat) : Int)) 102 i ((cM w c k (fpL w c k s) ((fpL w c k s).getD i 0) j + 1 : Nat) : Int))) (n' := 142) rfl ?_
                  exact ih114 _ (by omega) (j + 1) ((qup (qup w7 103 (50 * i + cM w c k (fpL w c k s) ((fpL w c k s).getD i 0) j) ((j : Nat) : Int)) 102 i ((cM w c k (fpL w c k s) ((fpL w c k s).getD i 0) j + 1 : Nat) : Int))) rfl (⟨by omega, fpK.yes hN hcm hI114.2.1 (by omega) (Decidable.of_not_not (fun z => hmv (ite01.mpr z))), fpN.yes hI114.2.2.1 hcr, fpR.yes hI114.2.2.2 (by omega)⟩)
              · skip
                refine qG.blk 1 (pc' := 185) (ls' := [(2, 95), (0, ((c : Nat) : Int)), (0, ((k : Nat) : Int)), (0, wrp (((i : Nat) : Int) + 1)), (0, ((j : Nat) : Int))]) (st' := []) (w' := w7) (n' := 142) rfl ?_
                rw [show wrp (((i : Nat) : Int) + 1) = ((i + 1 : Nat) : Int) from wrp_id (by omega) (by omega)]
                refine qG.blk 1 (pc' := 96) (ls' := [(2, 95), (0, ((c : Nat) : Int)), (0, ((k : Nat) : Int)), (0, ((i + 1 : Nat) : Int)), (0, ((j : Nat) : Int))]) (st' := []) (w' := w7) (n' := 142) rfl ?_
                exact ih96 _ (by omega) (i + 1) (w7) ((0, ((j : Nat) : Int))) rfl (⟨by omega, hI114.2.1.1, fpN.s hI114.2.2.1 hI114.2.1 hI114.2.2.2 (by omega)⟩)
            exact L114 _ (0) ((qup w8 102 i 0)) rfl (⟨by omega, fpK.init hI96.2.1, fpN.q0 hI96.2.2, fpR.zero⟩)
          · skip
            refine qG.retv rfl rfl ?_
            subst hQ9
            first | exact ⟨rfl, rfl, .inl ⟨hpf, rfl⟩⟩ | (refine ⟨rfl, rfl, .inr ⟨hpf, w9, hs ▸ hA, hI96.2.1, ?_⟩⟩; rw [← hs, show (fpL w c k s).length = i by omega]; exact hI96.2.2)
        exact L96 _ (0) (w9) ((9, 0)) rfl (⟨by omega, ⟨fun p j _ _ => rfl, hA.2.2.2.2⟩, fpN.zero⟩)
    exact L31 _ (1) ((qup (qup w 95 9 ((8 * c + k : Nat) : Int)) 95 8 0)) rfl (⟨by omega, by omega, fpI.init hc hk1 hk2 hI⟩)
