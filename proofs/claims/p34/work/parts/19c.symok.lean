/-! what stands behind a plain run over symbols -/
noncomputable def yc (ρ : Nat → Int) (v : yV) : qV := (v.1, ρ v.2.1 + v.2.2)
noncomputable def ySc (n : Nat) (l : List yV) : Prop := ∀ v ∈ l, v.2.1 < n
noncomputable def yag (n : Nat) (ρ ρ' : Nat → Int) : Prop := ∀ i, i < n → ρ' i = ρ i
noncomputable def yup (ρ : Nat → Int) (n : Nat) (x : Int) : Nat → Int := fun i => if i = n then x else ρ i
theorem yup_ag {ρ : Nat → Int} {n : Nat} {x : Int} : yag n ρ (yup ρ n x) := fun i hi => if_neg (by omega)
theorem yup_at {ρ : Nat → Int} {n : Nat} {x : Int} : yup ρ n x n = x := if_pos rfl
theorem yag.rf {n : Nat} {ρ : Nat → Int} : yag n ρ ρ := fun _ _ => rfl
theorem yag.tr {n m : Nat} {ρ ρ' ρ'' : Nat → Int} (h : yag n ρ ρ') (h' : yag m ρ' ρ'') (hn : n ≤ m) : yag n ρ ρ'' := fun i hi => by rw [h' i (by omega), h i hi]
theorem yc_ag {n : Nat} {ρ ρ' : Nat → Int} {v : yV} (h : yag n ρ ρ') (hv : v.2.1 < n) : yc ρ' v = yc ρ v := by unfold yc; rw [h _ hv]
theorem ym_ag {n : Nat} {ρ ρ' : Nat → Int} {l : List yV} (h : yag n ρ ρ') (hl : ySc n l) : l.map (yc ρ') = l.map (yc ρ) := List.map_congr_left (fun v hv => yc_ag h (hl v hv))
theorem ySc.mono {n m : Nat} {l : List yV} (h : ySc n l) (hn : n ≤ m) : ySc m l := fun v hv => Nat.lt_of_lt_of_le (h v hv) hn
theorem ySc.cons {n : Nat} {v : yV} {l : List yV} (hv : v.2.1 < n) (h : ySc n l) : ySc n (v :: l) := fun u hu => by
  rcases List.mem_cons.mp hu with rfl | hu
  · exact hv
  · exact h u hu
theorem ySc.hd {n : Nat} {v : yV} {l : List yV} (h : ySc n (v :: l)) : v.2.1 < n := h v List.mem_cons_self
theorem ySc.tl {n : Nat} {v : yV} {l : List yV} (h : ySc n (v :: l)) : ySc n l := fun u hu => h u (List.mem_cons_of_mem _ hu)
noncomputable def yInv (gf : Nat → Nat → Option yI) (ga : Nat → Option yI) (ra : Nat → Nat → List Int) (Sp : qW → Prop) (w : qW) : Prop :=
  (∀ p j b, gf p j = some b → yarr p = false → yin b (w p j)) ∧ (∀ p j b, ga p = some b → yarr p = true → yin b (w p j)) ∧ (∀ p j, ra p j ≠ [] → yarr p = false → w p j ∈ ra p j) ∧ Sp w
noncomputable def yG (L : Nat) (xs : Nat → Int) (w0 : qW) (gf : Nat → Nat → Option yI) (ga : Nat → Option yI) (ra : Nat → Nat → List Int) (Sp : qW → Prop) (gh : Nat → List Int → Int) (ρ : Nat → Int) (S : yS) (w : qW) : Prop :=
  (ρ 0 = 0 ∧ 1 < S.1 ∧ ρ 1 = L) ∧ (∀ e ∈ S.2.1, e.1 < S.1 ∧ yin e.2 (ρ e.1)) ∧ (∀ e ∈ S.2.2.1, e.2.1 < S.1 ∧ e.2.2.2.1 < S.1 ∧ yrd xs w e.1 (ρ e.2.1 + e.2.2.1).toNat = ρ e.2.2.2.1 + e.2.2.2.2) ∧ (∀ p j, ymd p j S.2.2.2.1 = false → w p j = w0 p j) ∧ yInv gf ga ra Sp w ∧ (∀ e ∈ S.2.2.2.2.1, e.1 < S.1 ∧ e.2.1 < S.1 ∧ ρ e.1 + e.2.2 ≤ ρ e.2.1) ∧ (∀ e ∈ S.2.2.2.2.2, (∀ a ∈ e.2.1, a.1 < S.1) ∧ e.2.2.1 < S.1 ∧ gh e.1 (e.2.1.map (fun a => ρ a.1 + a.2)) = ρ e.2.2.1 + e.2.2.2)
/-- a number came out: what is done with it holds -/
noncomputable def yR1 (L : Nat) (xs : Nat → Int) (w0 : qW) (gf : Nat → Nat → Option yI) (ga : Nat → Option yI) (ra : Nat → Nat → List Int) (Sp : qW → Prop) (gh : Nat → List Int → Int) (ρ : Nat → Int) (S : yS) (w : qW) (kd : Nat) (x : Int) (P : yV → yS → Bool) : Prop :=
  ∃ ρ' S' v, S.1 ≤ S'.1 ∧ yag S.1 ρ ρ' ∧ yG L xs w0 gf ga ra Sp gh ρ' S' w ∧ v.2.1 < S'.1 ∧ yc ρ' v = (kd, x) ∧ P v S' = true
noncomputable def yOK (L : Nat) (xs : Nat → Int) (w0 : qW) (gf : Nat → Nat → Option yI) (ga : Nat → Option yI) (ra : Nat → Nat → List Int) (Sp : qW → Prop) (gh : Nat → List Int → Int) (ρ : Nat → Int) (S : yS) (N : yN) (o : Option qC) : Prop :=
  ∃ pc' ls' st' S' ρ' w', o = some (pc', ls'.map (yc ρ'), st'.map (yc ρ'), w', 142) ∧ S.1 ≤ S'.1 ∧ yag S.1 ρ ρ' ∧ ySc S'.1 ls' ∧ ySc S'.1 st' ∧ yG L xs w0 gf ga ra Sp gh ρ' S' w' ∧ N pc' ls' st' S' = true
section SymOK
variable {L : Nat} {xs : Nat → Int} {w0 : qW} {gf : Nat → Nat → Option yI} {ga : Nat → Option yI} {ra : Nat → Nat → List Int} {Sp : qW → Prop} {gh : Nat → List Int → Int} {bv : Nat → Nat → Option Int} {bb : Nat → Option yI} {ρ : Nat → Int} {S : yS} {w : qW}
theorem ybd_ok {s : Nat} {r : yI} : ∀ {bs : yB}, (∀ e ∈ bs, yin e.2 (ρ e.1)) → ybd bs s = some r → yin r (ρ s)
  | [], _, h => by cases h
  | e :: bs, hb, h => by
    unfold ybd at h
    by_cases c : Nat.beq e.1 s = true
    · rw [c] at h
      have h : some e.2 = some r := h
      cases h
      have := hb e List.mem_cons_self
      rw [Nat.eq_of_beq_eq_true c] at this
      exact this
    · rw [ybf c] at h
      exact ybd_ok (fun e he => hb e (List.mem_cons_of_mem _ he)) h
theorem yiv_ok {s : Nat} {o a b : Int} (g : yG L xs w0 gf ga ra Sp gh ρ S w) (h : yiv S.2.1 s o = some (a, b)) : a ≤ ρ s + o ∧ ρ s + o ≤ b := by
  unfold yiv at h
  by_cases c : Nat.beq s 0 = true
  · rw [c] at h
    have h : some (o, o) = some (a, b) := h
    cases h
    rw [Nat.eq_of_beq_eq_true c, g.1.1]
    omega
  · rw [ybf c] at h
    have h : (match ybd S.2.1 s with
      | some (lo, hi) => some (lo + o, hi + o)
      | none => none) = some (a, b) := h
    split at h
    · rename_i lo hi hq
      cases h
      have := ybd_ok (fun e he => (g.2.1 e he).2) hq
      have h1 := this.1
      have h2 := this.2
      have h1 : lo ≤ ρ s := h1
      have h2 : ρ s ≤ hi := h2
      omega
    · cases h
theorem yfl_ok0 {p a : Nat} {b : Int} {s : Nat} {o : Int} : ∀ {hf : yH}, yfl hf p a b = some (s, o) → (p, a, b, s, o) ∈ hf
  | [], h => by cases h
  | e :: r, h => by
    unfold yfl at h
    by_cases c : (Nat.beq e.1 p && (Nat.beq e.2.1 a && yqi e.2.2.1 b)) = true
    · rw [c] at h
      have h : some e.2.2.2 = some (s, o) := h
      rw [Bool.and_eq_true, Bool.and_eq_true] at c
      have e1 := Nat.eq_of_beq_eq_true c.1
      have e2 := Nat.eq_of_beq_eq_true c.2.1
      have e3 := yqi_i.mp c.2.2
      have e4 : e.2.2.2 = (s, o) := Option.some.inj h
      have : (p, a, b, s, o) = e := by rw [← e1, ← e2, ← e3]; show _ = (e.1, e.2.1, e.2.2.1, e.2.2.2); rw [e4]
      rw [this]; exact List.mem_cons_self
    · rw [ybf c] at h
      exact List.mem_cons_of_mem _ (yfl_ok0 h)
theorem yfl_ok {p a : Nat} {b : Int} {s : Nat} {o : Int} (g : yG L xs w0 gf ga ra Sp gh ρ S w) (h : yfl S.2.2.1 p a b = some (s, o)) : s < S.1 ∧ yrd xs w p (ρ a + b).toNat = ρ s + o := by
  have := g.2.2.1 _ (yfl_ok0 h)
  exact ⟨this.2.1, this.2.2⟩
theorem yG_fresh {r : yI} {x : Int} (g : yG L xs w0 gf ga ra Sp gh ρ S w) (hx : yin r x) : yG L xs w0 gf ga ra Sp gh (yup ρ S.1 x) (S.1 + 1, (S.1, r) :: S.2.1, S.2.2) w := by
  obtain ⟨g1, g2, g3, g4, g5, g6, g7⟩ := g
  have hu : ∀ i, i < S.1 → yup ρ S.1 x i = ρ i := yup_ag
  refine ⟨⟨by rw [hu 0 (by omega)]; exact g1.1, by show 1 < S.1 + 1; omega, by rw [hu 1 (by omega)]; exact g1.2.2⟩, fun e he => ?_, fun e he => ?_, g4, g5, fun e he => ?_, fun e he => ?_⟩
  · rcases List.mem_cons.mp he with rfl | he
    · exact ⟨Nat.lt_succ_self _, by show yin r (yup ρ S.1 x S.1); rw [yup_at]; exact hx⟩
    · have := g2 e he
      exact ⟨Nat.lt_succ_of_lt this.1, by rw [hu _ this.1]; exact this.2⟩
  · have := g3 e he
    exact ⟨Nat.lt_succ_of_lt this.1, Nat.lt_succ_of_lt this.2.1, by rw [hu _ this.1, hu _ this.2.1]; exact this.2.2⟩
  · have := g6 e he
    exact ⟨Nat.lt_succ_of_lt this.1, Nat.lt_succ_of_lt this.2.1, by rw [hu _ this.1, hu _ this.2.1]; exact this.2.2⟩
  · have := g7 e he
    refine ⟨fun a ha => Nat.lt_succ_of_lt (this.1 a ha), Nat.lt_succ_of_lt this.2.1, ?_⟩
    rw [hu _ this.2.1, ← this.2.2]
    congr 1
    exact List.map_congr_left (fun a ha => by rw [hu _ (this.1 a ha)])
theorem yR1.same {kd s : Nat} {o x : Int} {N : yV → yS → Bool} (g : yG L xs w0 gf ga ra Sp gh ρ S w) (hs : s < S.1) (hx : ρ s + o = x) (h : N (kd, s, o) S = true) : yR1 L xs w0 gf ga ra Sp gh ρ S w kd x N := ⟨ρ, S, (kd, s, o), Nat.le_refl _, yag.rf, g, hs, by show (kd, ρ s + o) = _; rw [hx], h⟩
theorem ynum_ok {kd : Nat} {r : yI} {x : Int} {N : yV → yS → Bool} (h : ynum kd S r N = true) (g : yG L xs w0 gf ga ra Sp gh ρ S w) (hx : yin r x) : yR1 L xs w0 gf ga ra Sp gh ρ S w kd x N := by
  unfold ynum at h
  by_cases c : yqi r.1 r.2 = true
  · rw [c] at h
    have e := yqi_i.mp c
    exact yR1.same g (by have := g.1.2.1; omega) (by rw [g.1.1]; have := hx.1; have := hx.2; omega) h
  · rw [ybf c] at h
    exact ⟨yup ρ S.1 x, _, (kd, S.1, 0), Nat.le_succ _, yup_ag, yG_fresh g hx, Nat.lt_succ_self _, by show (kd, yup ρ S.1 x S.1 + 0) = _; rw [yup_at, Int.add_zero], h⟩
theorem ybin_ok {kd s1 s2 : Nat} {o1 o2 : Int} {f : Int → Int → Int} {v : Int → Int → Int → Int → yI} {N : yV → yS → Bool} (hv : yok f v) (h : ybin kd f v S s1 o1 s2 o2 N = true) (g : yG L xs w0 gf ga ra Sp gh ρ S w) : yR1 L xs w0 gf ga ra Sp gh ρ S w kd (f (ρ s1 + o1) (ρ s2 + o2)) N := by
  unfold ybin at h
  split at h
  · rename_i a b c d h1 h2
    have k1 := yiv_ok g h1
    have k2 := yiv_ok g h2
    by_cases e : (yqi a b && yqi c d) = true
    · rw [e] at h
      rw [Bool.and_eq_true, yqi_i, yqi_i] at e
      exact yR1.same g (by have := g.1.2.1; omega) (by rw [g.1.1, Int.zero_add, show ρ s1 + o1 = a by omega, show ρ s2 + o2 = c by omega]) h
    · rw [ybf e] at h
      exact ynum_ok h g (hv _ _ _ _ _ _ k1.1 k1.2 k2.1 k2.2)
  · cases h
theorem yadd_ok {s1 s2 : Nat} {o1 o2 : Int} {N : yV → yS → Bool} (h : yadd 0 (fun x y => wrp (x + y)) vadd y32 S s1 o1 s2 o2 N = true) (g : yG L xs w0 gf ga ra Sp gh ρ S w) (hs1 : s1 < S.1) (hs2 : s2 < S.1) : yR1 L xs w0 gf ga ra Sp gh ρ S w 0 (wrp (ρ s1 + o1 + (ρ s2 + o2))) N := by
  unfold yadd at h
  split at h
  · rename_i a b c d h1 h2
    have k1 := yiv_ok g h1
    have k2 := yiv_ok g h2
    by_cases e : (yqi c d && (yle y32.1 (a + c) && yle (b + c) y32.2)) = true
    · rw [e] at h
      rw [Bool.and_eq_true, Bool.and_eq_true, yqi_i, yle_i, yle_i] at e
      have e1 : (-2147483648 : Int) ≤ a + c := e.2.1
      have e2 : b + c ≤ (2147483647 : Int) := e.2.2
      exact yR1.same g hs1 (by rw [wrp_id (by omega) (by omega)]; omega) h
    · rw [ybf e] at h
      by_cases e : (yqi a b && (yle y32.1 (a + c) && yle (a + d) y32.2)) = true
      · have h : (bif (yqi a b && (yle y32.1 (a + c) && yle (a + d) y32.2)) then N (0, s2, o2 + a) S else ynum 0 S (vadd a b c d) N) = true := h
        rw [e] at h
        rw [Bool.and_eq_true, Bool.and_eq_true, yqi_i, yle_i, yle_i] at e
        have e1 : (-2147483648 : Int) ≤ a + c := e.2.1
        have e2 : a + d ≤ (2147483647 : Int) := e.2.2
        exact yR1.same g hs2 (by rw [wrp_id (by omega) (by omega)]; omega) h
      · have h : (bif (yqi a b && (yle y32.1 (a + c) && yle (a + d) y32.2)) then N (0, s2, o2 + a) S else ynum 0 S (vadd a b c d) N) = true := h
        rw [ybf e] at h
        exact ynum_ok h g (vadd_ok _ _ _ _ _ _ k1.1 k1.2 k2.1 k2.2)
  · cases h
theorem ysub_ok {s1 s2 : Nat} {o1 o2 : Int} {N : yV → yS → Bool} (h : ysub 0 (fun x y => wrp (x - y)) vsub y32 S s1 o1 s2 o2 N = true) (g : yG L xs w0 gf ga ra Sp gh ρ S w) (hs1 : s1 < S.1) : yR1 L xs w0 gf ga ra Sp gh ρ S w 0 (wrp (ρ s1 + o1 - (ρ s2 + o2))) N := by
  unfold ysub at h
  split at h
  · rename_i a b c d h1 h2
    have k1 := yiv_ok g h1
    have k2 := yiv_ok g h2
    by_cases e : (yqi c d && (yle y32.1 (a - c) && yle (b - c) y32.2)) = true
    · rw [e] at h
      rw [Bool.and_eq_true, Bool.and_eq_true, yqi_i, yle_i, yle_i] at e
      have e1 : (-2147483648 : Int) ≤ a - c := e.2.1
      have e2 : b - c ≤ (2147483647 : Int) := e.2.2
      exact yR1.same g hs1 (by rw [wrp_id (by omega) (by omega)]; omega) h
    · rw [ybf e] at h
      exact ynum_ok h g (vsub_ok _ _ _ _ _ _ k1.1 k1.2 k2.1 k2.2)
  · cases h
theorem yun_ok {kd s : Nat} {o : Int} {f : Int → Int} {B : yI} {N : yV → yS → Bool} (hf1 : ∀ x, yin B x → f x = x) (hf2 : ∀ x, yin B (f x)) (h : yun kd f B S s o N = true) (g : yG L xs w0 gf ga ra Sp gh ρ S w) (hs : s < S.1) : yR1 L xs w0 gf ga ra Sp gh ρ S w kd (f (ρ s + o)) N := by
  unfold yun at h
  split at h
  · rename_i a b h1
    have k1 := yiv_ok g h1
    by_cases e : (yle B.1 a && yle b B.2) = true
    · rw [e] at h
      rw [Bool.and_eq_true, yle_i, yle_i] at e
      exact yR1.same g hs (hf1 _ ⟨by omega, by omega⟩).symm h
    · rw [ybf e] at h
      exact ynum_ok h g (hf2 _)
  · cases h
theorem yneg_ok {s : Nat} {o : Int} {N : yV → yS → Bool} (h : yneg S s o N = true) (g : yG L xs w0 gf ga ra Sp gh ρ S w) : yR1 L xs w0 gf ga ra Sp gh ρ S w 0 (wrp (-(ρ s + o))) N := by
  unfold yneg at h
  split at h
  · rename_i a b h1
    have k1 := yiv_ok g h1
    exact ynum_ok h g (yfit32 (by omega) (by omega))
  · cases h
/-- what is known more, in the same world -/
noncomputable def yR0 (L : Nat) (xs : Nat → Int) (w0 : qW) (gf : Nat → Nat → Option yI) (ga : Nat → Option yI) (ra : Nat → Nat → List Int) (Sp : qW → Prop) (gh : Nat → List Int → Int) (ρ : Nat → Int) (n : Nat) (w : qW) (P : yS → Bool) : Prop := ∃ S', S'.1 = n ∧ yG L xs w0 gf ga ra Sp gh ρ S' w ∧ P S' = true
theorem yrf_ok {s : Nat} {o a b lo hi : Int} {N : yS → Bool} (h : yrf S s o a b lo hi N = true) (g : yG L xs w0 gf ga ra Sp gh ρ S w) (hs : s < S.1) (h1 : lo ≤ ρ s + o) (h2 : ρ s + o ≤ hi) : yR0 L xs w0 gf ga ra Sp gh ρ S.1 w N := by
  unfold yrf at h
  rw [yle_i.mpr (show lo ≤ hi by omega)] at h
  have h : (bif Nat.beq s 0 || (yqi a lo && yqi b hi) then N S else N (S.1, (s, lo - o, hi - o) :: S.2.1, S.2.2)) = true := h
  by_cases c : (Nat.beq s 0 || (yqi a lo && yqi b hi)) = true
  · rw [c] at h
    exact ⟨S, rfl, g, h⟩
  · rw [ybf c, cond_false] at h
    refine ⟨(S.1, (s, lo - o, hi - o) :: S.2.1, S.2.2), rfl, ⟨g.1, fun e he => ?_, g.2.2⟩, h⟩
    rcases List.mem_cons.mp he with rfl | he
    · exact ⟨hs, by show lo - o ≤ ρ s; omega, by show ρ s ≤ hi - o; omega⟩
    · exact g.2.1 e he
theorem ydf_ok {s1 s2 : Nat} {c : Int} (g : yG L xs w0 gf ga ra Sp gh ρ S w) (hs1 : s1 < S.1) (hs2 : s2 < S.1) (h : ρ s1 + c ≤ ρ s2) : yG L xs w0 gf ga ra Sp gh ρ (ydf S s1 s2 c) w ∧ (ydf S s1 s2 c).1 = S.1 := by
  unfold ydf
  by_cases e : (Nat.beq s1 0 || Nat.beq s2 0) = true
  · rw [e]; exact ⟨g, rfl⟩
  · rw [ybf e]
    refine ⟨⟨g.1, g.2.1, g.2.2.1, g.2.2.2.1, g.2.2.2.2.1, fun x hx => ?_, g.2.2.2.2.2.2⟩, rfl⟩
    rcases List.mem_cons.mp hx with rfl | hx
    · exact ⟨hs1, hs2, h⟩
    · exact g.2.2.2.2.2.1 x hx
theorem ydl_ok0 {s1 s2 : Nat} {o1 o2 : Int} : ∀ {df : yD}, (∀ e ∈ df, ρ e.1 + e.2.2 ≤ ρ e.2.1) → ydl df s1 o1 s2 o2 = true → ρ s1 + o1 < ρ s2 + o2
  | [], _, h => by cases h
  | e :: r, hd, h => by
    unfold ydl at h
    rw [Bool.or_eq_true] at h
    rcases h with h | h
    · rw [Bool.and_eq_true, Bool.and_eq_true, yle_i] at h
      have := hd e List.mem_cons_self
      rw [Nat.eq_of_beq_eq_true h.1, Nat.eq_of_beq_eq_true h.2.1] at this
      omega
    · exact ydl_ok0 (fun e he => hd e (List.mem_cons_of_mem _ he)) h
theorem ydl_ok {s1 s2 : Nat} {o1 o2 : Int} (g : yG L xs w0 gf ga ra Sp gh ρ S w) (h : ydl S.2.2.2.2.1 s1 o1 s2 o2 = true) : ρ s1 + o1 < ρ s2 + o2 := ydl_ok0 (fun e he => (g.2.2.2.2.2.1 e he).2.2) h
theorem ylt_ok {s1 s2 : Nat} {o1 o2 : Int} {T F : yS → Bool} (h : ylt S s1 o1 s2 o2 T F = true) (g : yG L xs w0 gf ga ra Sp gh ρ S w) (hs1 : s1 < S.1) (hs2 : s2 < S.1) : (ρ s1 + o1 < ρ s2 + o2 → yR0 L xs w0 gf ga ra Sp gh ρ S.1 w T) ∧ (¬ ρ s1 + o1 < ρ s2 + o2 → yR0 L xs w0 gf ga ra Sp gh ρ S.1 w F) := by
  unfold ylt at h
  by_cases c : Nat.beq s1 s2 = true
  · rw [c] at h
    have e := Nat.eq_of_beq_eq_true c
    subst e
    have h : (bif yle o2 o1 then F S else T S) = true := h
    by_cases k : yle o2 o1 = true
    · rw [k] at h
      have := yle_i.mp k
      exact ⟨fun z => by omega, fun _ => ⟨S, rfl, g, h⟩⟩
    · rw [ybf k] at h
      have := yle_f k
      exact ⟨fun _ => ⟨S, rfl, g, h⟩, fun z => by omega⟩
  · rw [ybf c, cond_false] at h
    by_cases q1 : ydl S.2.2.2.2.1 s1 o1 s2 o2 = true
    · rw [q1] at h
      have := ydl_ok g q1
      exact ⟨fun _ => ⟨S, rfl, g, h⟩, fun z => absurd this z⟩
    rw [ybf q1, cond_false] at h
    by_cases q2 : ydl S.2.2.2.2.1 s2 (o2 - 1) s1 o1 = true
    · rw [q2] at h
      have := ydl_ok g q2
      exact ⟨fun z => by omega, fun _ => ⟨S, rfl, g, h⟩⟩
    rw [ybf q2, cond_false] at h
    split at h
    · rename_i a b c d h1 h2
      have k1 := yiv_ok g h1
      have k2 := yiv_ok g h2
      rw [Bool.and_eq_true] at h
      refine ⟨fun z => ?_, fun z => ?_⟩
      · have m1 := ymn_i b (d - 1)
        have m2 := ymx_i c (a + 1)
        obtain ⟨S1, e1, g1, h3⟩ := yrf_ok h.1 g hs1 k1.1 (by rcases m1.2.2 with h | h <;> omega)
        obtain ⟨S2, e2, g2, h4⟩ := yrf_ok h3 g1 (by omega) (by rcases m2.2.2 with h | h <;> omega) k2.2
        have := ydf_ok (s1 := s1) (s2 := s2) (c := o1 + 1 - o2) g2 (by omega) (by omega) (by omega)
        exact ⟨_, by rw [this.2]; omega, this.1, h4⟩
      · have m1 := ymn_i d b
        have m2 := ymx_i a c
        obtain ⟨S1, e1, g1, h3⟩ := yrf_ok h.2 g hs1 (by rcases m2.2.2 with h | h <;> omega) k1.2
        obtain ⟨S2, e2, g2, h4⟩ := yrf_ok h3 g1 (by omega) k2.1 (by rcases m1.2.2 with h | h <;> omega)
        have := ydf_ok (s1 := s2) (s2 := s1) (c := o2 - o1) g2 (by omega) (by omega) (by omega)
        exact ⟨_, by rw [this.2]; omega, this.1, h4⟩
    · cases h
theorem yne_ok {s : Nat} {o a b c : Int} {N : yS → Bool} (h : yne S s o a b c N = true) (g : yG L xs w0 gf ga ra Sp gh ρ S w) (hs : s < S.1) (h1 : a ≤ ρ s + o) (h2 : ρ s + o ≤ b) (h3 : ρ s + o ≠ c) : yR0 L xs w0 gf ga ra Sp gh ρ S.1 w N := by
  unfold yne at h
  by_cases e : yqi a c = true
  · rw [e] at h
    have := yqi_i.mp e
    exact yrf_ok h g hs (by omega) h2
  · rw [ybf e] at h
    have h : (bif yqi b c then yrf S s o a b a (b - 1) N else (yrf S s o a b a (ymn b (c - 1)) N && yrf S s o a b (ymx a (c + 1)) b N)) = true := h
    by_cases e : yqi b c = true
    · rw [e] at h
      have := yqi_i.mp e
      exact yrf_ok h g hs h1 (by omega)
    · rw [ybf e, cond_false, Bool.and_eq_true] at h
      have m1 := ymn_i b (c - 1)
      have m2 := ymx_i a (c + 1)
      by_cases z : ρ s + o < c
      · exact yrf_ok h.1 g hs h1 (by rcases m1.2.2 with q | q <;> omega)
      · exact yrf_ok h.2 g hs (by rcases m2.2.2 with q | q <;> omega) h2
theorem yqe_ok {s1 s2 : Nat} {o1 o2 : Int} {T F : yS → Bool} (h : yqe S s1 o1 s2 o2 T F = true) (g : yG L xs w0 gf ga ra Sp gh ρ S w) (hs1 : s1 < S.1) (hs2 : s2 < S.1) : (ρ s1 + o1 = ρ s2 + o2 → yR0 L xs w0 gf ga ra Sp gh ρ S.1 w T) ∧ (¬ ρ s1 + o1 = ρ s2 + o2 → yR0 L xs w0 gf ga ra Sp gh ρ S.1 w F) := by
  unfold yqe at h
  by_cases c : Nat.beq s1 s2 = true
  · rw [c] at h
    have e := Nat.eq_of_beq_eq_true c
    subst e
    have h : (bif yqi o1 o2 then T S else F S) = true := h
    by_cases k : yqi o1 o2 = true
    · rw [k] at h
      have := yqi_i.mp k
      exact ⟨fun _ => ⟨S, rfl, g, h⟩, fun z => by omega⟩
    · rw [ybf k] at h
      have k2 : ¬ o1 = o2 := fun z => k (yqi_i.mpr z)
      exact ⟨fun z => by omega, fun _ => ⟨S, rfl, g, h⟩⟩
  · rw [ybf c, cond_false] at h
    by_cases q1 : (ydl S.2.2.2.2.1 s1 o1 s2 o2 || ydl S.2.2.2.2.1 s2 o2 s1 o1) = true
    · rw [q1] at h
      have hn : ¬ ρ s1 + o1 = ρ s2 + o2 := by
        rw [Bool.or_eq_true] at q1
        rcases q1 with q1 | q1
        · have := ydl_ok g q1; omega
        · have := ydl_ok g q1; omega
      exact ⟨fun z => absurd z hn, fun _ => ⟨S, rfl, g, h⟩⟩
    rw [ybf q1, cond_false] at h
    split at h
    · rename_i a b c d h1 h2
      have k1 := yiv_ok g h1
      have k2 := yiv_ok g h2
      rw [Bool.and_eq_true] at h
      refine ⟨fun z => ?_, fun z => ?_⟩
      · have m1 := ymn_i b d
        have m2 := ymx_i a c
        obtain ⟨S1, e1, g1, h3⟩ := yrf_ok h.1 g hs1 (by rcases m2.2.2 with h | h <;> omega) (by rcases m1.2.2 with h | h <;> omega)
        obtain ⟨S2, e2, g2, h4⟩ := yrf_ok h3 g1 (by omega) (by rcases m2.2.2 with h | h <;> omega) (by rcases m1.2.2 with h | h <;> omega)
        have f1 := ydf_ok (s1 := s1) (s2 := s2) (c := o1 - o2) g2 (by omega) (by omega) (by omega)
        have f2 := ydf_ok (s1 := s2) (s2 := s1) (c := o2 - o1) f1.1 (by rw [f1.2]; omega) (by rw [f1.2]; omega) (by omega)
        exact ⟨_, by rw [f2.2, f1.2]; omega, f2.1, h4⟩
      · have h := h.2
        by_cases e : yqi c d = true
        · rw [e] at h
          have := yqi_i.mp e
          exact yne_ok h g hs1 k1.1 k1.2 (by omega)
        · rw [ybf e] at h
          replace h : (bif yqi a b then yne S s2 o2 c d a F else ylt S s1 o1 s2 o2 F (fun S => ylt S s2 o2 s1 o1 F (fun _ => true))) = true := h
          by_cases e : yqi a b = true
          · rw [e] at h
            have := yqi_i.mp e
            exact yne_ok h g hs2 k2.1 k2.2 (by omega)
          · rw [ybf e, cond_false] at h
            have l1 := ylt_ok h g hs1 hs2
            by_cases z2 : ρ s1 + o1 < ρ s2 + o2
            · exact l1.1 z2
            · obtain ⟨S1, e1, g1, h1⟩ := l1.2 z2
              have l2 := ylt_ok h1 g1 (by omega) (by omega)
              rw [e1] at l2
              exact l2.1 (by omega)
    · cases h
theorem ybr_ok {α : Type} {A B : α} {c : Jvm.ClassFile.Cond} {s1 s2 : Nat} {o1 o2 : Int} {T F : yS → Bool} (h : ybr c S s1 o1 s2 o2 T F = true) (g : yG L xs w0 gf ga ra Sp gh ρ S w) (hs1 : s1 < S.1) (hs2 : s2 < S.1) : (qbr c (ρ s1 + o1) (ρ s2 + o2) A B = A ∧ yR0 L xs w0 gf ga ra Sp gh ρ S.1 w T) ∨ (qbr c (ρ s1 + o1) (ρ s2 + o2) A B = B ∧ yR0 L xs w0 gf ga ra Sp gh ρ S.1 w F) := by
  cases c
  case eq =>
    have := yqe_ok (show yqe S s1 o1 s2 o2 T F = true from h) g hs1 hs2
    by_cases z : ρ s1 + o1 = ρ s2 + o2
    · exact .inl ⟨if_pos z, this.1 z⟩
    · exact .inr ⟨if_neg z, this.2 z⟩
  case ne =>
    have := yqe_ok (show yqe S s1 o1 s2 o2 F T = true from h) g hs1 hs2
    by_cases z : ρ s1 + o1 = ρ s2 + o2
    · exact .inr ⟨if_pos z, this.1 z⟩
    · exact .inl ⟨if_neg z, this.2 z⟩
  case lt =>
    have := ylt_ok (show ylt S s1 o1 s2 o2 T F = true from h) g hs1 hs2
    by_cases z : ρ s1 + o1 < ρ s2 + o2
    · exact .inl ⟨if_pos z, this.1 z⟩
    · exact .inr ⟨if_neg z, this.2 z⟩
  case ge =>
    have := ylt_ok (show ylt S s1 o1 s2 o2 F T = true from h) g hs1 hs2
    by_cases z : ρ s1 + o1 < ρ s2 + o2
    · exact .inr ⟨if_pos z, this.1 z⟩
    · exact .inl ⟨if_neg z, this.2 z⟩
  case gt =>
    have := ylt_ok (show ylt S s2 o2 s1 o1 T F = true from h) g hs2 hs1
    by_cases z : ρ s2 + o2 < ρ s1 + o1
    · exact .inl ⟨if_pos z, this.1 z⟩
    · exact .inr ⟨if_neg z, this.2 z⟩
  case le =>
    have := ylt_ok (show ylt S s2 o2 s1 o1 F T = true from h) g hs2 hs1
    by_cases z : ρ s2 + o2 < ρ s1 + o1
    · exact .inr ⟨if_pos z, this.1 z⟩
    · exact .inl ⟨if_neg z, this.2 z⟩
theorem yvl2_ok : ∀ {l m : List (Nat × Int)}, yvl2 l m = true → l = m
  | [], [], _ => rfl
  | a :: l, b :: m, h => by
    have h : (Nat.beq a.1 b.1 && (yqi a.2 b.2 && yvl2 l m)) = true := h
    rw [Bool.and_eq_true, Bool.and_eq_true, yqi_i] at h
    obtain ⟨a1, a2⟩ := a
    obtain ⟨b1, b2⟩ := b
    have h1 : a1 = b1 := Nat.eq_of_beq_eq_true h.1
    have h2 : a2 = b2 := h.2.1
    rw [h1, h2, yvl2_ok h.2.2]
  | [], _ :: _, h => by cases h
  | _ :: _, [], h => by cases h
theorem ymef_ok {g : Nat} {as : List (Nat × Int)} {s : Nat} {o : Int} : ∀ {l : yE}, ymef g as l = some (s, o) → (g, as, s, o) ∈ l
  | [], h => by cases h
  | e :: l, h => by
    unfold ymef at h
    by_cases c : (Nat.beq e.1 g && yvl2 e.2.1 as) = true
    · rw [c] at h
      have h : some e.2.2 = some (s, o) := h
      rw [Bool.and_eq_true] at c
      have h3 := Option.some.inj h
      have : (g, as, s, o) = e := by rw [← Nat.eq_of_beq_eq_true c.1, ← yvl2_ok c.2, ← h3]
      rw [this]; exact List.mem_cons_self
    · rw [ybf c] at h
      exact List.mem_cons_of_mem _ (ymef_ok h)
theorem ygho_ok {g : Nat} {as : List (Nat × Int)} {r : yI} {x : Int} {N : yV → yS → Bool} (h : ygho S g as r N = true) (hg : yG L xs w0 gf ga ra Sp gh ρ S w) (hs : ∀ a ∈ as, a.1 < S.1) (hx : yin r x) (hgh : Nat.beq g 0 = false → x = gh g (as.map (fun a => ρ a.1 + a.2))) : yR1 L xs w0 gf ga ra Sp gh ρ S w 0 x N := by
  unfold ygho at h
  by_cases c : Nat.beq g 0 = true
  · rw [c] at h; exact ynum_ok h hg hx
  · rw [ybf c, cond_false] at h
    have hgh := hgh (ybf c)
    split at h
    · rename_i s o hq
      have := hg.2.2.2.2.2.2 _ (ymef_ok hq)
      exact yR1.same hg this.2.1 (by rw [hgh, ← this.2.2]) h
    · obtain ⟨ρ', S', v, h1, h2, h3, h4, h5, h6⟩ := ynum_ok h hg hx
      refine ⟨ρ', (S'.1, S'.2.1, S'.2.2.1, S'.2.2.2.1, S'.2.2.2.2.1, (g, as, v.2.1, v.2.2) :: S'.2.2.2.2.2), v, h1, h2, ⟨h3.1, h3.2.1, h3.2.2.1, h3.2.2.2.1, h3.2.2.2.2.1, h3.2.2.2.2.2.1, fun e he => ?_⟩, h4, h5, h6⟩
      rcases List.mem_cons.mp he with rfl | he
      · refine ⟨fun a ha => Nat.lt_of_lt_of_le (hs a ha) h1, h4, ?_⟩
        have e1 : ρ' v.2.1 + v.2.2 = x := congrArg Prod.snd h5
        show gh g (as.map (fun a => ρ' a.1 + a.2)) = ρ' v.2.1 + v.2.2
        rw [e1, hgh]
        congr 1
        exact List.map_congr_left (fun a ha => by rw [h2 _ (hs a ha)])
      · exact h3.2.2.2.2.2.2 e he
theorem yandc_ok {s : Nat} {o c : Int} {r : yI} {N : yV → yS → Bool} (hgh : ∀ x c, gh 1000 [x, c] = qand x c) (h : yandc S s o c r N = true) (g : yG L xs w0 gf ga ra Sp gh ρ S w) (hs : s < S.1) (hx : yin r (qand (ρ s + o) c)) : yR1 L xs w0 gf ga ra Sp gh ρ S w 0 (qand (ρ s + o) c) N := ygho_ok h g (fun a ha => by
  rcases List.mem_cons.mp ha with rfl | ha
  · exact hs
  · rcases List.mem_cons.mp ha with rfl | ha
    · have := g.1.2.1; show 0 < S.1; omega
    · cases ha) hx (fun _ => by
  show _ = gh 1000 [ρ s + o, ρ 0 + c]
  rw [hgh, g.1.1, Int.zero_add])
theorem yand_neg {x c : Int} (hx : x < 0) (hx2 : -2147483648 ≤ x) (hc : -2147483648 ≤ c) (hc2 : c ≤ -1) : yin (-2147483648, -1) (qand x c) := by
  refine ⟨(y32_i _).1, ?_⟩
  show qand x c ≤ -1
  have h1 : (Int32.ofInt x &&& Int32.ofInt c).toBitVec.msb = true := by
    rw [Int32.toBitVec_and, BitVec.msb_and]
    have k : ∀ z : Int, -2147483648 ≤ z → z < 0 → (Int32.ofInt z).toBitVec.msb = true := fun z z1 z2 => by
      rw [BitVec.msb_eq_toInt]
      have e : (Int32.ofInt z).toBitVec.toInt = z := t32 ⟨z1, by omega⟩
      rw [e]
      exact decide_eq_true z2
    rw [k x hx2 hx, k c (by omega) (by omega)]; rfl
  rw [BitVec.msb_eq_toInt] at h1
  have h2 := of_decide_eq_true h1
  have h3 : qand x c < 0 := h2
  omega
theorem yand_nat {x c : Int} (hx : 0 ≤ x) (hx2 : x ≤ 2147483647) : qand x c = (((c % 4294967296).toNat &&& x.toNat : Nat) : Int) := by
  have := qand_r (x := c) (b := x.toNat) (by omega)
  rw [Int.toNat_of_nonneg hx] at this
  rw [qand_c]
  exact this
theorem yand_big {x c : Int} (hx : 65536 ≤ x) (hx2 : x ≤ 2147483647) (hc : -65536 ≤ c) (hc2 : c ≤ -1) : yin (1, 2147483647) (qand x c) := by
  rw [yand_nat (by omega) hx2]
  have h1 : ((c % 4294967296).toNat &&& x.toNat) >>> 16 = x.toNat / 65536 := by
    rw [Nat.shiftRight_and_distrib, Nat.shiftRight_eq_div_pow, Nat.shiftRight_eq_div_pow, show (c % 4294967296).toNat / 2 ^ 16 = 2 ^ 16 - 1 by omega, Nat.and_comm, Nat.and_two_pow_sub_one_eq_mod, Nat.mod_eq_of_lt (by omega)]
  rw [Nat.shiftRight_eq_div_pow] at h1
  have h2 : (c % 4294967296).toNat &&& x.toNat ≤ x.toNat := Nat.and_le_right
  generalize (c % 4294967296).toNat &&& x.toNat = z at h1 h2 ⊢
  exact ⟨by show (1 : Int) ≤ (z : Int); omega, by show (z : Int) ≤ 2147483647; omega⟩
theorem yand_mod {x c : Int} (hx : 0 ≤ x) (hx2 : x < 65536) : qand x c = qand x (c % 65536) := by
  rw [yand_nat hx (by omega), yand_nat hx (by omega)]
  have key : ∀ A : Nat, A &&& x.toNat = (A % 2 ^ 16) &&& x.toNat := fun A => by
    have h2 : A &&& x.toNat ≤ x.toNat := Nat.and_le_right
    have h3 := Nat.and_mod_two_pow (a := A) (b := x.toNat) (n := 16)
    rw [Nat.mod_eq_of_lt (show A &&& x.toNat < 2 ^ 16 by omega), Nat.mod_eq_of_lt (show x.toNat < 2 ^ 16 by omega)] at h3
    exact h3
  rw [key, key (c % 65536 % 4294967296).toNat, show (c % 4294967296).toNat % 2 ^ 16 = (c % 65536 % 4294967296).toNat % 2 ^ 16 by omega]
theorem yR1.sub {S1 : yS} {kd : Nat} {x : Int} {N : yV → yS → Bool} (e : S1.1 = S.1) (h : yR1 L xs w0 gf ga ra Sp gh ρ S1 w kd x N) : yR1 L xs w0 gf ga ra Sp gh ρ S w kd x N := by
  obtain ⟨ρ', S', v, h1, h2, h3⟩ := h
  rw [e] at h1 h2
  exact ⟨ρ', S', v, h1, h2, h3⟩
theorem yand_ok {s1 s2 : Nat} {o1 o2 : Int} {N : yV → yS → Bool} (hgh : ∀ x c, gh 1000 [x, c] = qand x c) (h : yand S s1 o1 s2 o2 N = true) (g : yG L xs w0 gf ga ra Sp gh ρ S w) (hs1 : s1 < S.1) : yR1 L xs w0 gf ga ra Sp gh ρ S w 0 (qand (ρ s1 + o1) (ρ s2 + o2)) N := by
  have h0 : 0 < S.1 := by have := g.1.2.1; omega
  unfold yand at h
  split at h
  · rename_i a b c d h1 h2
    have k1 := yiv_ok g h1
    have k2 := yiv_ok g h2
    by_cases e : (yqi a b && yqi c d) = true
    · rw [e] at h
      rw [Bool.and_eq_true, yqi_i, yqi_i] at e
      exact yR1.same g h0 (by rw [g.1.1, Int.zero_add, show ρ s1 + o1 = a by omega, show ρ s2 + o2 = c by omega]) h
    rw [ybf e, cond_false] at h
    by_cases e : (yle (-2147483648) c && (yle d (-1) && (yle (-2147483648) a && yle b 2147483647))) = true
    · rw [e, cond_true] at h
      rw [Bool.and_eq_true, Bool.and_eq_true, Bool.and_eq_true, yle_i, yle_i, yle_i, yle_i] at e
      obtain ⟨e2, e3, e4, e5⟩ := e
      have l1 := ylt_ok h g hs1 h0
      rw [show ρ 0 + 0 = 0 from by rw [g.1.1]; rfl] at l1
      by_cases z : ρ s1 + o1 < 0
      · obtain ⟨S1, q1, g1, n1⟩ := l1.1 z
        exact yR1.sub q1 (ynum_ok n1 g1 (yand_neg z (by omega) (by omega) (by omega)))
      · obtain ⟨S1, q1, g1, n1⟩ := l1.2 z
        have mx := ymx_i a 0
        replace n1 : (bif yqi c d && yle (-65536) c then (ylt S1 s1 o1 0 65536 (fun S => yandc S s1 o1 (c % 65536) (vand (ymx a 0) (ymn b 65535) (c % 65536) (c % 65536)) N) (fun S => ynum 0 S (1, 2147483647) N)) else ynum 0 S1 (vand (ymx a 0) b c d) N) = true := n1
        by_cases ee : (yqi c d && yle (-65536) c) = true
        case neg =>
          rw [ybf ee, cond_false] at n1
          exact yR1.sub q1 (ynum_ok n1 g1 (vand_ok _ _ _ _ _ _ (by rcases mx.2.2 with q | q <;> omega) k1.2 k2.1 k2.2))
        rw [ee, cond_true] at n1
        rw [Bool.and_eq_true, yqi_i, yle_i] at ee
        obtain ⟨ee1, ee2⟩ := ee
        rw [show ρ s2 + o2 = c by omega]
        have l2 := ylt_ok n1 g1 (by omega) (by omega)
        rw [show ρ 0 + 65536 = 65536 from by rw [g.1.1]; rfl] at l2
        by_cases z2 : ρ s1 + o1 < 65536
        · obtain ⟨S2, q2, g2, n2⟩ := l2.1 z2
          rw [yand_mod (by omega) z2]
          have m1 := ymx_i a 0
          have m2 := ymn_i b 65535
          exact yR1.sub (by omega) (yandc_ok hgh n2 g2 (by omega) (vand_ok _ _ _ _ _ _ (by rcases m1.2.2 with q | q <;> omega) (by rcases m2.2.2 with q | q <;> omega) (Int.le_refl _) (Int.le_refl _)))
        · obtain ⟨S2, q2, g2, n2⟩ := l2.2 z2
          exact yR1.sub (by omega) (ynum_ok n2 g2 (yand_big (by omega) (by omega) ee2 (by omega)))
    rw [ybf e, cond_false] at h
    by_cases e : (yqi c d && (yle 0 c && yle c 2147483647)) = true
    · rw [e, cond_true] at h
      rw [Bool.and_eq_true, Bool.and_eq_true, yqi_i, yle_i, yle_i] at e
      rw [show ρ s2 + o2 = c by omega]
      exact yandc_ok hgh h g hs1 (vand_ok _ _ _ _ _ _ k1.1 k1.2 (Int.le_refl _) (Int.le_refl _))
    · rw [ybf e, cond_false] at h
      exact ynum_ok h g (vand_ok _ _ _ _ _ _ k1.1 k1.2 k2.1 k2.2)
  · cases h
theorem ysw_ok {s : Nat} {o : Int} {N : Nat → yS → Bool} {pc : Nat} {dflt : Int} {fq : Nat → Option qC} (hs : s < S.1) : ∀ (l : List Int) (c : Int) (S1 : yS), S1.1 = S.1 → ysw s o N pc dflt l c S1 = true → yG L xs w0 gf ga ra Sp gh ρ S1 w → ∃ t, qtsw fq pc (ρ s + o) dflt l c = fq t ∧ yR0 L xs w0 gf ga ra Sp gh ρ S.1 w (N t)
  | [], c, S1, e, h, g => ⟨qtg pc dflt, rfl, ⟨S1, e, g, h⟩⟩
  | t :: r, c, S1, e, h, g => by
    have h : yqe S1 s o 0 c (fun S => N (qtg pc t) S) (fun S1 => ysw s o N pc dflt r (c + 1) S1) = true := h
    have k := yqe_ok h g (by omega) (by have := g.1.2.1; omega)
    rw [g.1.1, Int.zero_add, e] at k
    by_cases z : ρ s + o = c
    · exact ⟨qtg pc t, if_pos z, k.1 z⟩
    · obtain ⟨S2, e2, g2, h2⟩ := k.2 z
      obtain ⟨u, h3, h4⟩ := ysw_ok hs r (c + 1) S2 e2 h2 g2
      exact ⟨u, (if_neg z).trans h3, h4⟩
theorem yfk_ok {s : Nat} {o a b : Int} {N : Int → yS → Bool} (g : yG L xs w0 gf ga ra Sp gh ρ S w) (hs : s < S.1) : ∀ (n : Nat) (v : Int), yfk S s o a b N n v = true → v ≤ ρ s + o → ρ s + o < v + n → yR0 L xs w0 gf ga ra Sp gh ρ S.1 w (N (ρ s + o))
  | 0, v, _, h1, h2 => by omega
  | n + 1, v, h, h1, h2 => by
    have h : (yrf S s o a b v v (N v) && yfk S s o a b N n (v + 1)) = true := h
    rw [Bool.and_eq_true] at h
    by_cases z : ρ s + o = v
    · rw [z]; exact yrf_ok h.1 g hs (by omega) (by omega)
    · exact yfk_ok g hs n (v + 1) h.2 (by omega) (by omega)
theorem yall_ok {s : Nat} {o : Int} {N : Int → yS → Bool} (h : yall S s o N = true) (g : yG L xs w0 gf ga ra Sp gh ρ S w) (hs : s < S.1) : yR0 L xs w0 gf ga ra Sp gh ρ S.1 w (N (ρ s + o)) := by
  unfold yall at h
  split at h
  · rename_i a b h1
    have k := yiv_ok g h1
    exact yfk_ok g hs _ a h k.1 (by omega)
  · cases h
theorem yfc_ok {p a s : Nat} {b o : Int} (g : yG L xs w0 gf ga ra Sp gh ρ S w) (ha : a < S.1) (hs : s < S.1) (h : yrd xs w p (ρ a + b).toNat = ρ s + o) : yG L xs w0 gf ga ra Sp gh ρ (yfc S p a b s o) w := by
  refine ⟨g.1, g.2.1, fun e he => ?_, g.2.2.2⟩
  rcases List.mem_cons.mp he with rfl | he
  · exact ⟨ha, hs, h⟩
  · exact g.2.2.1 e he
theorem yfr_ok {kd p a : Nat} {b x : Int} {r : yI} {N : yV → yS → Bool} (h : yfr kd S r p a b N = true) (g : yG L xs w0 gf ga ra Sp gh ρ S w) (ha : a < S.1) (hx : yin r x) (hw : yrd xs w p (ρ a + b).toNat = x) : yR1 L xs w0 gf ga ra Sp gh ρ S w kd x N := by
  obtain ⟨ρ', S', v, h1, h2, h3, h4, h5, h6⟩ := ynum_ok h g hx
  refine ⟨ρ', yfc S' p a b v.2.1 v.2.2, v, h1, h2, yfc_ok h3 (by omega) h4 ?_, h4, h5, h6⟩
  rw [h2 a ha, hw]
  exact (congrArg Prod.snd h5).symm
theorem yalt_ok {p a : Nat} {b : Int} {x : Int} {N : yV → yS → Bool} (g : yG L xs w0 gf ga ra Sp gh ρ S w) (ha : a < S.1) (hw : yrd xs w p (ρ a + b).toNat = x) : ∀ (l : List Int), yalt S p a b N l = true → x ∈ l → yR1 L xs w0 gf ga ra Sp gh ρ S w 2 x N
  | [], _, hx => by cases hx
  | c :: l, h, hx => by
    have h : (N (2, 0, c) (yfc S p a b 0 c) && yalt S p a b N l) = true := h
    rw [Bool.and_eq_true] at h
    by_cases z : x = c
    · have h0 : 0 < S.1 := by have := g.1.2.1; omega
      exact ⟨ρ, yfc S p a b 0 c, (2, 0, c), Nat.le_refl _, yag.rf, yfc_ok g ha h0 (by rw [hw, g.1.1]; omega), h0, by show (2, ρ 0 + c) = _; rw [g.1.1, Int.zero_add, z], h.1⟩
    · rcases List.mem_cons.mp hx with z2 | hx
      · exact (z z2).elim
      · exact yalt_ok g ha hw l h.2 hx
theorem yrd_ne {p j : Nat} (hp : 0 < p) : yrd xs w p j = w p j := by
  unfold yrd
  rw [show Nat.beq p 0 = false from by cases p; omega; rfl]
  rfl
theorem yrd_0 {j : Nat} : yrd xs w 0 j = xs j := rfl
theorem yz_j (g : yG L xs w0 gf ga ra Sp gh ρ S w) (j : Nat) : (ρ 0 + (j : Int)).toNat = j := by rw [g.1.1, Int.zero_add, Int.toNat_natCast]
theorem ybase {p j : Nat} {c : Int} {q : Bool} (hbv : ∀ p j c, bv p j = some c → w0 p j = c) (g : yG L xs w0 gf ga ra Sp gh ρ S w) (h : (bif ymd p j S.2.2.2.1 || q then none else bv p j) = some c) : w p j = c := by
  by_cases e : (ymd p j S.2.2.2.1 || q) = true
  · rw [e] at h; cases h
  · rw [ybf e] at h
    have e2 : ymd p j S.2.2.2.1 = false := by
      cases hq : ymd p j S.2.2.2.1
      · rfl
      · rw [hq] at e; exact absurd rfl e
    rw [g.2.2.2.1 p j e2]
    exact hbv p j c h
theorem ybase0 {p j : Nat} {c : Int} (hbv : ∀ p j c, bv p j = some c → w0 p j = c) (g : yG L xs w0 gf ga ra Sp gh ρ S w) (h : (bif ymd p j S.2.2.2.1 then none else bv p j) = some c) : w p j = c := ybase (q := false) hbv g (by rw [Bool.or_false]; exact h)
theorem yref_ok {p j : Nat} {N : yV → yS → Bool} (hbv : ∀ p j c, bv p j = some c → w0 p j = c) (h : yref ra bv S p j N = true) (g : yG L xs w0 gf ga ra Sp gh ρ S w) (hp : 0 < p) (hy : yarr p = false) : yR1 L xs w0 gf ga ra Sp gh ρ S w 2 (w p j) N := by
  have h0 : 0 < S.1 := by have := g.1.2.1; omega
  have hj : yrd xs w p (ρ 0 + (j : Int)).toNat = w p j := by rw [yz_j g, yrd_ne hp]
  unfold yref at h
  split at h
  · rename_i s o h1
    have := yfl_ok g h1
    exact yR1.same g this.1 (by rw [← this.2, hj]) h
  · split at h
    · rename_i c h1
      exact yR1.same g h0 (by rw [g.1.1, ybase0 hbv g h1, Int.zero_add]) h
    · split at h
      · cases h
      · rename_i c l hr
        exact yalt_ok g h0 hj _ h (by rw [← hr]; exact g.2.2.2.2.1.2.2.1 p j (by rw [hr]; exact List.cons_ne_nil _ _) hy)
theorem yget_ok {p j kd : Nat} {N : yV → yS → Bool} (hbv : ∀ p j c, bv p j = some c → w0 p j = c) (h : yget gf bv S p j kd N = true) (g : yG L xs w0 gf ga ra Sp gh ρ S w) (hp : 0 < p) (hy : yarr p = false) : yR1 L xs w0 gf ga ra Sp gh ρ S w kd (w p j) N := by
  have h0 : 0 < S.1 := by have := g.1.2.1; omega
  have hj : yrd xs w p (ρ 0 + (j : Int)).toNat = w p j := by rw [yz_j g, yrd_ne hp]
  unfold yget at h
  split at h
  · rename_i s o h1
    have := yfl_ok g h1
    exact yR1.same g this.1 (by rw [← this.2, hj]) h
  · split at h
    · rename_i c h1
      exact yR1.same g h0 (by rw [g.1.1, ybase0 hbv g h1, Int.zero_add]) h
    · split at h
      · rename_i r hr
        exact yfr_ok h g h0 (g.2.2.2.2.1.1 p j r hr hy) hj
      · cases h
theorem ycln_ok {p j : Nat} : ∀ {l : yM}, ycln p l = true → ymd p j l = false
  | [], _ => rfl
  | e :: l, h => by
    have h : (!Nat.beq e.1 p && ycln p l) = true := h
    rw [Bool.and_eq_true] at h
    show ((Nat.beq e.1 p && (Nat.beq e.2 0 || Nat.beq e.2 (j + 1))) || ymd p j l) = false
    rw [ycln_ok h.2, Bool.or_false]
    cases hq : Nat.beq e.1 p
    · rfl
    · rw [hq] at h; cases h.1
theorem yel2_ok {p kd a : Nat} {b : Int} {N : yV → yS → Bool} (hbv : ∀ p j c, bv p j = some c → w0 p j = c) (hbb : ∀ p r, bb p = some r → ∀ j, yin r (w0 p j)) (h : yel2 ga bv bb S kd p a b N = true) (g : yG L xs w0 gf ga ra Sp gh ρ S w) (hp : 0 < p) (hy : yarr p = true) (ha : a < S.1) : yR1 L xs w0 gf ga ra Sp gh ρ S w kd (w p (ρ a + b).toNat) N := by
  have h0 : 0 < S.1 := by have := g.1.2.1; omega
  have hj : yrd xs w p (ρ a + b).toNat = w p (ρ a + b).toNat := yrd_ne hp
  unfold yel2 at h
  split at h
  · rename_i s o h1
    have := yfl_ok g h1
    exact yR1.same g this.1 (by rw [← this.2, hj]) h
  · split at h
    · rename_i c h1
      have e : a = 0 := by
        cases a with
        | zero => rfl
        | succ a9 =>
          rw [show Nat.blt 0 (a9 + 1) = true from rfl, Bool.or_true] at h1; cases h1
      subst e
      exact yR1.same g h0 (by rw [g.1.1, Int.zero_add, Int.zero_add, ybase hbv g h1]) h
    · split at h
      · rename_i r hr
        by_cases e : ycln p S.2.2.2.1 = true
        · rw [e] at hr
          exact yfr_ok h g ha (by rw [g.2.2.2.1 p _ (ycln_ok e)]; exact hbb p r hr _) hj
        · rw [ybf e] at hr; cases hr
      · split at h
        · rename_i r hr
          exact yfr_ok h g ha (g.2.2.2.2.1.2.1 p _ r hr hy) hj
        · cases h
theorem yel_ok {p kd m s : Nat} {o : Int} {N : yV → yS → Bool} (hbv : ∀ p j c, bv p j = some c → w0 p j = c) (hbb : ∀ p r, bb p = some r → ∀ j, yin r (w0 p j)) (h : yel ga bv bb S kd p m s o N = true) (g : yG L xs w0 gf ga ra Sp gh ρ S w) (hp : 0 < p) (hy : yarr p = true) (hs : s < S.1) : (0 ≤ ρ s + o ∧ ρ s + o < m) ∧ yR1 L xs w0 gf ga ra Sp gh ρ S w kd (w p (ρ s + o).toNat) N := by
  unfold yel at h
  split at h
  · rename_i a b h1
    have k := yiv_ok g h1
    rw [Bool.and_eq_true, Bool.and_eq_true, yle_i, yle_i] at h
    refine ⟨⟨by omega, by omega⟩, ?_⟩
    have h := h.2.2
    by_cases e : yqi a b = true
    · rw [e] at h
      have e2 := yqi_i.mp e
      have := yel2_ok hbv hbb h g hp hy (show 0 < S.1 by have := g.1.2.1; omega)
      rw [g.1.1, Int.zero_add] at this
      rw [show ρ s + o = a by omega]
      exact this
    · rw [ybf e] at h
      exact yel2_ok hbv hbb h g hp hy hs
  · cases h
theorem ydfl_ok {s : Nat} {o : Int} : ∀ {df : yD}, (∀ e ∈ df, ρ e.1 + e.2.2 ≤ ρ e.2.1) → ydfl df s o = true → ρ s + o + 1 ≤ ρ 1
  | [], _, h => by cases h
  | e :: r, hd, h => by
    unfold ydfl at h
    rw [Bool.or_eq_true] at h
    rcases h with h | h
    · rw [Bool.and_eq_true, Bool.and_eq_true, yle_i] at h
      have := hd e List.mem_cons_self
      rw [Nat.eq_of_beq_eq_true h.1, Nat.eq_of_beq_eq_true h.2.1] at this
      omega
    · exact ydfl_ok (fun e he => hd e (List.mem_cons_of_mem _ he)) h
theorem ysc2_ok {a : Nat} {b : Int} {N : yV → yS → Bool} (hxs : ∀ j, yin y32 (xs j)) (h : ysc2 S a b N = true) (g : yG L xs w0 gf ga ra Sp gh ρ S w) (ha : a < S.1) : yR1 L xs w0 gf ga ra Sp gh ρ S w 0 (xs (ρ a + b).toNat) N := by
  unfold ysc2 at h
  split at h
  · rename_i s o h1
    have := yfl_ok g h1
    exact yR1.same g this.1 (by rw [← this.2, yrd_0]) h
  · exact yfr_ok h g ha (hxs _) yrd_0
theorem yscr_ok {s : Nat} {o : Int} {N : yV → yS → Bool} (hxs : ∀ j, yin y32 (xs j)) (h : yscr S s o N = true) (g : yG L xs w0 gf ga ra Sp gh ρ S w) (hs : s < S.1) : (0 ≤ ρ s + o ∧ ρ s + o < L) ∧ yR1 L xs w0 gf ga ra Sp gh ρ S w 0 (xs (ρ s + o).toNat) N := by
  unfold yscr at h
  split at h
  · rename_i a b c d h1 h2
    have k := yiv_ok g h1
    have k2 := yiv_ok g h2
    rw [g.1.2.2, Int.add_zero] at k2
    rw [Bool.and_eq_true, Bool.and_eq_true, yle_i, Bool.or_eq_true, yle_i] at h
    refine ⟨⟨by omega, ?_⟩, ?_⟩
    · rcases h.2.1 with h | h
      · omega
      · have := ydfl_ok (fun e he => (g.2.2.2.2.2.1 e he).2.2) h
        rw [g.1.2.2] at this
        omega
    · have h := h.2.2
      by_cases e : yqi a b = true
      · rw [e] at h
        have e2 := yqi_i.mp e
        have := ysc2_ok hxs h g (show 0 < S.1 by have := g.1.2.1; omega)
        rw [g.1.1, Int.zero_add] at this
        rw [show ρ s + o = a by omega]
        exact this
      · rw [ybf e] at h
        exact ysc2_ok hxs h g hs
  · cases h
theorem ykill_ok {p : Nat} {e : Nat × Nat × Int × Nat × Int} : ∀ {hf : yH}, e ∈ ykill p hf → e ∈ hf ∧ e.1 ≠ p
  | [], h => by cases h
  | a :: r, h => by
    unfold ykill at h
    by_cases c : Nat.beq a.1 p = true
    · rw [c] at h
      have := ykill_ok (hf := r) h
      exact ⟨List.mem_cons_of_mem _ this.1, this.2⟩
    · rw [ybf c] at h
      rcases List.mem_cons.mp h with rfl | h
      · exact ⟨List.mem_cons_self, fun z => c (by rw [z]; exact Nat.beq_refl p)⟩
      · have := ykill_ok (hf := r) h
        exact ⟨List.mem_cons_of_mem _ this.1, this.2⟩
theorem ykilc_ok {p : Nat} {b : Int} {e : Nat × Nat × Int × Nat × Int} : ∀ {hf : yH}, e ∈ ykilc p b hf → e ∈ hf ∧ (e.1 ≠ p ∨ (e.2.1 = 0 ∧ 0 ≤ e.2.2.1 ∧ e.2.2.1 ≠ b))
  | [], h => by cases h
  | a :: r, h => by
    unfold ykilc at h
    by_cases c : (Nat.beq a.1 p && !(Nat.beq a.2.1 0 && (yle 0 a.2.2.1 && !yqi a.2.2.1 b))) = true
    · rw [c] at h
      have := ykilc_ok (hf := r) h
      exact ⟨List.mem_cons_of_mem _ this.1, this.2⟩
    · rw [ybf c] at h
      rcases List.mem_cons.mp h with rfl | h
      · refine ⟨List.mem_cons_self, ?_⟩
        by_cases c1 : e.1 = p
        · right
          rw [c1, Nat.beq_refl, Bool.true_and] at c
          have c2 : (Nat.beq e.2.1 0 && (yle 0 e.2.2.1 && !yqi e.2.2.1 b)) = true := by
            cases hq : (Nat.beq e.2.1 0 && (yle 0 e.2.2.1 && !yqi e.2.2.1 b))
            · rw [hq] at c; exact absurd rfl c
            · rfl
          rw [Bool.and_eq_true, Bool.and_eq_true, yle_i] at c2
          refine ⟨Nat.eq_of_beq_eq_true c2.1, c2.2.1, fun z => ?_⟩
          have := c2.2.2
          rw [yqi_i.mpr z] at this
          cases this
        · exact .inl c1
      · have := ykilc_ok (hf := r) h
        exact ⟨List.mem_cons_of_mem _ this.1, this.2⟩
theorem ymp_ok {p c j : Nat} : ∀ {l : yM}, (c = 0 ∨ c = j + 1) → ymp p c l = true → ymd p j l = true
  | [], _, h => by cases h
  | e :: l, hc, h => by
    have h : ((Nat.beq e.1 p && Nat.beq e.2 c) || ymp p c l) = true := h
    rw [Bool.or_eq_true] at h
    show ((Nat.beq e.1 p && (Nat.beq e.2 0 || Nat.beq e.2 (j + 1))) || ymd p j l) = true
    rw [Bool.or_eq_true]
    rcases h with h | h
    · left
      rw [Bool.and_eq_true] at h
      rw [Bool.and_eq_true, Bool.or_eq_true]
      rcases hc with hc | hc
      · exact ⟨h.1, .inl (hc ▸ h.2)⟩
      · exact ⟨h.1, .inr (hc ▸ h.2)⟩
    · exact .inr (ymp_ok hc h)
theorem yput_ok {p c a s : Nat} {b o : Int} (g : yG L xs w0 gf ga ra Sp gh ρ S w) (ha : a < S.1) (hs : s < S.1) (hp : 0 < p) (hc : c = 0 ∨ c = (ρ a + b).toNat + 1) (hb : a = 0 → 0 ≤ b) (hI : yInv gf ga ra Sp (qup w p (ρ a + b).toNat (ρ s + o))) : yG L xs w0 gf ga ra Sp gh ρ (yput S p c a b s o) (qup w p (ρ a + b).toNat (ρ s + o)) := by
  have hne : ∀ (q j : Nat), q ≠ p → yrd xs (qup w p (ρ a + b).toNat (ρ s + o)) q j = yrd xs w q j := fun q j hq => by
    by_cases q0 : q = 0
    · subst q0; rfl
    · rw [yrd_ne (by omega), yrd_ne (by omega)]
      show (if q = p then _ else w q) j = _
      rw [if_neg hq]
  have hk : ∀ e ∈ S.2.2.1, (e.1 ≠ p ∨ (a = 0 ∧ e.2.1 = 0 ∧ 0 ≤ e.2.2.1 ∧ e.2.2.1 ≠ b)) → e.2.1 < S.1 ∧ e.2.2.2.1 < S.1 ∧ yrd xs (qup w p (ρ a + b).toNat (ρ s + o)) e.1 (ρ e.2.1 + e.2.2.1).toNat = ρ e.2.2.2.1 + e.2.2.2.2 := fun e he h => by
    have k := g.2.2.1 e he
    refine ⟨k.1, k.2.1, ?_⟩
    by_cases c : e.1 = p
    · rcases h with h | ⟨h1, h2, h3, h4⟩
      · exact (h c).elim
      · rw [← k.2.2, c, yrd_ne hp, yrd_ne hp]
        show (if p = p then (fun j => if j = (ρ a + b).toNat then _ else w p j) else w p) _ = _
        rw [if_pos rfl]
        have hb' := hb h1
        exact if_neg (by rw [h1, h2, g.1.1]; omega)
    · rw [hne _ _ c]; exact k.2.2
  refine ⟨g.1, g.2.1, fun e he => ?_, fun q j hq => ?_, hI, g.2.2.2.2.2⟩
  · rcases List.mem_cons.mp he with rfl | he
    · refine ⟨ha, hs, ?_⟩
      rw [yrd_ne hp]
      show (if p = p then (fun j => if j = (ρ a + b).toNat then _ else w p j) else w p) _ = _
      rw [if_pos rfl]
      exact if_pos rfl
    · by_cases c : Nat.beq a 0 = true
      · rw [c] at he
        have := ykilc_ok (show e ∈ ykilc p b S.2.2.1 from he)
        exact hk e this.1 (this.2.imp id (fun z => ⟨Nat.eq_of_beq_eq_true c, z⟩))
      · rw [ybf c] at he
        have := ykill_ok (show e ∈ ykill p S.2.2.1 from he)
        exact hk e this.1 (.inl this.2)
  · have hq : ymd q j (bif ymp p c S.2.2.2.1 then S.2.2.2.1 else (p, c) :: S.2.2.2.1) = false := hq
    have h2 : (q ≠ p ∨ j ≠ (ρ a + b).toNat) ∧ ymd q j S.2.2.2.1 = false := by
      by_cases d : ymp p c S.2.2.2.1 = true
      · rw [d] at hq
        have hq : ymd q j S.2.2.2.1 = false := hq
        refine ⟨?_, hq⟩
        by_cases c1 : q = p
        · refine .inr (fun z => ?_)
          subst c1
          have key : ymd q j S.2.2.2.1 = true := ymp_ok (c := c) (by rcases hc with h | h; exact .inl h; exact .inr (by rw [z]; exact h)) d
          have hq2 : ymd q j S.2.2.2.1 = false := hq
          rw [key] at hq2
          cases hq2
        · exact .inl c1
      · rw [ybf d] at hq
        have hq : ((Nat.beq p q && (Nat.beq c 0 || Nat.beq c (j + 1))) || ymd q j S.2.2.2.1) = false := hq
        rw [Bool.or_eq_false_iff] at hq
        refine ⟨?_, hq.2⟩
        by_cases c1 : q = p
        · refine .inr (fun z => ?_)
          have := hq.1
          rw [c1, Nat.beq_refl, Bool.true_and, Bool.or_eq_false_iff] at this
          rcases hc with h | h
          · rw [h] at this; cases this.1
          · rw [z, h, Nat.beq_refl] at this; cases this.2
        · exact .inl c1
    show (if q = p then (fun i => if i = (ρ a + b).toNat then _ else w p i) else w q) j = _
    by_cases c1 : q = p
    · rw [if_pos c1]
      subst c1
      rcases h2.1 with h | h
      · exact absurd rfl h
      · exact (if_neg h).trans (g.2.2.2.1 q j h2.2)
    · rw [if_neg c1]
      exact g.2.2.2.1 q j h2.2
theorem yInv_up {p j : Nat} {x : Int} (hSp : ∀ w p j v, (yarr p = false → gf p j ≠ none ∨ ra p j ≠ []) → (yarr p = true → ga p ≠ none) → Sp w → Sp (qup w p j v)) (g : yInv gf ga ra Sp w) (h1 : yarr p = false → (∀ b, gf p j = some b → yin b x) ∧ (ra p j ≠ [] → x ∈ ra p j) ∧ (gf p j ≠ none ∨ ra p j ≠ [])) (h2 : yarr p = true → ∃ b, ga p = some b ∧ yin b x) : yInv gf ga ra Sp (qup w p j x) := by
  have hu : ∀ q i, qup w p j x q i = if q = p then (if i = j then x else w p i) else w q i := fun q i => by
    show (if q = p then (fun i => if i = j then x else w p i) else w q) i = _
    split <;> rfl
  refine ⟨fun q i b hb hy => ?_, fun q i b hb hy => ?_, fun q i hr hy => ?_, hSp w p j x (fun hy => (h1 hy).2.2) (fun hy => by obtain ⟨b, hb, _⟩ := h2 hy; rw [hb]; exact fun z => by cases z) g.2.2.2⟩
  · rw [hu]
    by_cases c : q = p
    · subst c
      rw [if_pos rfl]
      by_cases c : i = j
      · subst c; rw [if_pos rfl]; exact (h1 hy).1 b hb
      · rw [if_neg c]; exact g.1 q i b hb hy
    · rw [if_neg c]; exact g.1 q i b hb hy
  · rw [hu]
    by_cases c : q = p
    · subst c
      rw [if_pos rfl]
      by_cases c : i = j
      · subst c; rw [if_pos rfl]
        obtain ⟨b', hb', hx⟩ := h2 hy
        rw [hb] at hb'
        cases hb'
        exact hx
      · rw [if_neg c]; exact g.2.1 q i b hb hy
    · rw [if_neg c]; exact g.2.1 q i b hb hy
  · rw [hu]
    by_cases c : q = p
    · subst c
      rw [if_pos rfl]
      by_cases c : i = j
      · subst c; rw [if_pos rfl]; exact (h1 hy).2.1 hr
      · rw [if_neg c]; exact g.2.2.1 q i hr hy
    · rw [if_neg c]; exact g.2.2.1 q i hr hy
theorem yel3_ok {p m s vs : Nat} {o vo : Int} {B : yI} {N : yS → Bool} (hSp : ∀ w p j v, (yarr p = false → gf p j ≠ none ∨ ra p j ≠ []) → (yarr p = true → ga p ≠ none) → Sp w → Sp (qup w p j v)) (h : yel3 ga S p m s o vs vo B N = true) (g : yG L xs w0 gf ga ra Sp gh ρ S w) (hp : 0 < p) (hy : yarr p = true) (hs : s < S.1) (hvs : vs < S.1) : (0 ≤ ρ s + o ∧ ρ s + o < m) ∧ yin B (ρ vs + vo) ∧ yR0 L xs w0 gf ga ra Sp gh ρ S.1 (qup w p (ρ s + o).toNat (ρ vs + vo)) N := by
  unfold yel3 at h
  split at h
  · rename_i a b c d lo hi h1 h2 h3
    have k := yiv_ok g h1
    have k2 := yiv_ok g h2
    rw [Bool.and_eq_true, Bool.and_eq_true, Bool.and_eq_true, Bool.and_eq_true, Bool.and_eq_true, Bool.and_eq_true, yle_i, yle_i, yle_i, yle_i, yle_i, yle_i] at h
    obtain ⟨a1, a2, a3, a4, a5, a6, h⟩ := h
    have hI : ∀ j, yInv gf ga ra Sp (qup w p j (ρ vs + vo)) := fun j => yInv_up hSp g.2.2.2.2.1 (fun z => by rw [hy] at z; cases z) (fun _ => ⟨_, h3, by show lo ≤ _; omega, by show _ ≤ hi; omega⟩)
    refine ⟨⟨by omega, by omega⟩, ⟨by omega, by omega⟩, ?_⟩
    by_cases e : yqi a b = true
    · rw [e] at h
      have e2 := yqi_i.mp e
      have h0 : 0 < S.1 := by have := g.1.2.1; omega
      have := yput_ok (c := 0) (a := 0) (b := a) (s := vs) (o := vo) g h0 hvs hp (.inl rfl) (fun _ => a1) (hI _)
      rw [g.1.1, Int.zero_add] at this
      rw [show ρ s + o = a by omega]
      exact ⟨yput S p 0 0 a vs vo, rfl, this, h⟩
    · rw [ybf e] at h
      by_cases z : s = 0
      · subst z
        exact absurd (yqi_i.mpr (by
          unfold yiv at h1
          have h1 : some (o, o) = some (a, b) := h1
          cases h1; rfl)) e
      · exact ⟨yput S p 0 s o vs vo, rfl, yput_ok g hs hvs hp (.inl rfl) (fun z2 => (z z2).elim) (hI _), h⟩
  · cases h
theorem qnt_map (h0 : ρ 0 = 0) : ∀ (ls : List yV) (i : Nat), qnt (ls.map (yc ρ)) i = yc ρ (ynt ls i)
  | [], _ => by show (9, (0 : Int)) = (9, ρ 0 + 0); rw [h0]; rfl
  | _ :: _, 0 => rfl
  | _ :: l, i + 1 => qnt_map h0 l i
theorem qset_map : ∀ (ls : List yV) (i : Nat) (v : yV), qset (ls.map (yc ρ)) i (yc ρ v) = (yset ls i v).map (yc ρ)
  | [], _, _ => rfl
  | _ :: _, 0, _ => rfl
  | a :: l, i + 1, v => by show yc ρ a :: qset (l.map (yc ρ)) i (yc ρ v) = yc ρ a :: (yset l i v).map (yc ρ); rw [qset_map l i v]
theorem qnil (h0 : ρ 0 = 0) : ((9, 0) : qV) = yc ρ (9, 0, 0) := by show ((9, 0) : qV) = (9, ρ 0 + 0); rw [h0]; rfl
theorem qhf_map (h0 : ρ 0 = 0) (ls : List yV) : ∀ (i : Nat), qhf (ls.map (yc ρ)) i = (yhf ls i).map (yc ρ)
  | 0 => rfl
  | j + 1 => by
    show (match qnt (ls.map (yc ρ)) j with
      | (1, _) => qset (ls.map (yc ρ)) j (9, 0)
      | _ => ls.map (yc ρ)) = (bif Nat.beq (ynt ls j).1 1 then yset ls j (9, 0, 0) else ls).map (yc ρ)
    rw [qnt_map h0]
    generalize ynt ls j = v
    obtain ⟨k, x⟩ := v
    by_cases c : k = 1
    · subst c
      show qset (ls.map (yc ρ)) j (9, 0) = (yset ls j (9, 0, 0)).map (yc ρ)
      rw [qnil h0, qset_map]
    · rw [show Nat.beq k 1 = false from ybf (fun z => c (Nat.eq_of_beq_eq_true z))]
      show (match ((k, ρ x.1 + x.2) : qV) with
        | (1, _) => qset (ls.map (yc ρ)) j (9, 0)
        | _ => ls.map (yc ρ)) = ls.map (yc ρ)
      split
      · rename_i heq; cases heq; exact absurd rfl c
      · rfl
theorem qst_map (h0 : ρ 0 = 0) (ls : List yV) (i : Nat) (v : yV) : qst (ls.map (yc ρ)) i (yc ρ v) = (yst ls i v).map (yc ρ) := by
  obtain ⟨k, x⟩ := v
  unfold yst
  by_cases c : k = 1
  · subst c
    show qset (qset (qhf (ls.map (yc ρ)) i) i (yc ρ (1, x))) (i + 1) (9, 0) = (yset (yset (yhf ls i) i (1, x)) (i + 1) (9, 0, 0)).map (yc ρ)
    rw [qhf_map h0, qset_map, qnil h0, qset_map]
  · rw [show Nat.beq ((k, x) : yV).1 1 = false from ybf (fun z => c (Nat.eq_of_beq_eq_true z))]
    show (match ((k, ρ x.1 + x.2) : qV) with
      | (1, _) => qset (qset (qhf (ls.map (yc ρ)) i) i (k, ρ x.1 + x.2)) (i + 1) (9, 0)
      | _ => qset (qhf (ls.map (yc ρ)) i) i (k, ρ x.1 + x.2)) = (yset (yhf ls i) i (k, x)).map (yc ρ)
    rw [← qset_map, ← qhf_map h0]
    split
    · rename_i heq; cases heq; exact absurd rfl c
    · rfl
theorem yset_sc {n : Nat} : ∀ {ls : List yV} {i : Nat} {v : yV}, ySc n ls → v.2.1 < n → ySc n (yset ls i v)
  | [], _, _, _, _ => fun u hu => by cases hu
  | _ :: _, 0, _, h, hv => ySc.cons hv h.tl
  | _ :: _, _ + 1, _, h, hv => ySc.cons h.hd (yset_sc h.tl hv)
theorem yhf_sc {n : Nat} (hn : 0 < n) {ls : List yV} (h : ySc n ls) : ∀ (i : Nat), ySc n (yhf ls i)
  | 0 => h
  | j + 1 => by
    show ySc n (bif Nat.beq (ynt ls j).1 1 then yset ls j (9, 0, 0) else ls)
    by_cases c : Nat.beq (ynt ls j).1 1 = true
    · rw [c]; exact yset_sc h hn
    · rw [ybf c]; exact h
theorem yst_sc {n : Nat} (hn : 0 < n) {ls : List yV} {i : Nat} {v : yV} (h : ySc n ls) (hv : v.2.1 < n) : ySc n (yst ls i v) := by
  unfold yst
  by_cases c : Nat.beq v.1 1 = true
  · rw [c]; exact yset_sc (yset_sc (yhf_sc hn h i) hv) hn
  · rw [ybf c]; exact yset_sc (yhf_sc hn h i) hv
theorem ynt_sc {n : Nat} (hn : 0 < n) : ∀ {ls : List yV} {i : Nat}, ySc n ls → (ynt ls i).2.1 < n
  | [], _, _ => hn
  | _ :: _, 0, h => h.hd
  | _ :: l, i + 1, h => ynt_sc hn (ls := l) (i := i) h.tl
theorem yOK.same {N : yN} {o : Option qC} {pc : Nat} {ls st : List yV} (ho : o = some (pc, ls.map (yc ρ), st.map (yc ρ), w, 142)) (hl : ySc S.1 ls) (hs : ySc S.1 st) (g : yG L xs w0 gf ga ra Sp gh ρ S w) (h : N pc ls st S = true) : yOK L xs w0 gf ga ra Sp gh ρ S N o := ⟨pc, ls, st, S, ρ, w, ho, Nat.le_refl _, yag.rf, hl, hs, g, h⟩
theorem yOK.r1 {N : yN} {o : Option qC} {pc kd : Nat} {ls r : List yV} {x : Int} (hr : yR1 L xs w0 gf ga ra Sp gh ρ S w kd x (fun v S' => N pc ls (v :: r) S')) (ho : o = some (pc, ls.map (yc ρ), (kd, x) :: r.map (yc ρ), w, 142)) (hl : ySc S.1 ls) (hs : ySc S.1 r) : yOK L xs w0 gf ga ra Sp gh ρ S N o := by
  obtain ⟨ρ', S', v, h1, h2, h3, h4, h5, h6⟩ := hr
  refine ⟨pc, ls, v :: r, S', ρ', w, ?_, h1, h2, hl.mono h1, ySc.cons h4 (hs.mono h1), h3, h6⟩
  rw [ho, ← h5, ym_ag h2 hl, List.map_cons, ym_ag h2 hs]
theorem yOK.r0 {N : yN} {o : Option qC} {pc : Nat} {ls st : List yV} {w' : qW} (hr : yR0 L xs w0 gf ga ra Sp gh ρ S.1 w' (fun S' => N pc ls st S')) (ho : o = some (pc, ls.map (yc ρ), st.map (yc ρ), w', 142)) (hl : ySc S.1 ls) (hs : ySc S.1 st) : yOK L xs w0 gf ga ra Sp gh ρ S N o := by
  obtain ⟨S', h1, h2, h3⟩ := hr
  exact ⟨pc, ls, st, S', ρ, w', ho, by omega, yag.rf, by rw [h1]; exact hl, by rw [h1]; exact hs, h2, h3⟩
end SymOK
