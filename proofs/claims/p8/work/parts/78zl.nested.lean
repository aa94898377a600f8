/-! the reference's parser by the grammar -/
noncomputable def TMP (v tk : Int) : Prop := (v = -2 ∧ tk = 0) ∨ (v = -1 ∧ tk = 1) ∨ (0 ≤ v ∧ v < 10000 ∧ tk = 2) ∨ (v = 10000 ∧ tk = 7) ∨ (v = 10001 ∧ tk = 8) ∨ (v = 10002 ∧ tk = 3) ∨ (v = 10003 ∧ tk = 4) ∨ (v = 10004 ∧ tk = 5) ∨ (v = 10005 ∧ tk = 6) ∨ (10006 ≤ v ∧ v ≤ 10012 ∧ tk = v - 9965) ∨ (20000 ≤ v ∧ v ≤ 20255 ∧ tk = v - 19900)
noncomputable def TMS (v tk : Int) : Prop := (v = -2 ∧ tk = 0) ∨ (v = -1 ∧ tk = 1) ∨ (0 ≤ v ∧ v < 10000 ∧ tk = 2) ∨ (10000 ≤ v ∧ v ≤ 10005 ∧ tk = v - 9980) ∨ (20000 ≤ v ∧ v ≤ 20255 ∧ tk = v - 19900)
/-- how the reference stands at the token i of a tape -/
noncomputable def SO (S : Nat → qW → Prop) (C P : Nat → Int) (TM : Int → Int → Prop) : Prop := (∀ i w w', S i w → yInv zgf zga zra zSp w → NX w w' → S (i + 1) w') ∧ (∀ i w, S i w → TM (C i) (w 95 27) ∧ w 95 28 = P i ∧ (0 ≤ C i → C i < 10000 → w 95 29 = C i)) ∧ (∀ i w w', S i w → (∀ j, (j = 25 ∨ j = 26 ∨ j = 27 ∨ j = 28 ∨ j = 29 ∨ j = 30 ∨ j = 35) → w' 95 j = w 95 j) → (∀ j, w' 114 j = w 114 j) → S i w') ∧ ∀ i, C i = -2 ∨ i < 600
theorem SO.lay {S : Nat → qW → Prop} {C P : Nat → Int} {TM : Int → Int → Prop} (h : SO S C P TM) {i : Nat} {w : qW} {k v : Int} (hS : S i w) : S i (layW w k v) := h.2.2.1 i w _ hS (fun j hj => by unfold layW; rw [qup_j (by omega), qup_ne (by decide), qup_ne (by decide)]) (fun j => by unfold layW; rw [qup_ne (by decide), qup_ne (by decide), qup_ne (by decide)])
theorem SO.fld {S : Nat → qW → Prop} {C P : Nat → Int} {TM : Int → Int → Prop} (h : SO S C P TM) {i k : Nat} {w : qW} {v : Int} (hS : S i w) (hk : k = 33 ∨ k = 23) : S i (qup w 95 k v) := h.2.2.1 i w _ hS (fun j hj => qup_j (by omega)) (fun j => qup_nk (by decide))
theorem SO.arr {S : Nat → qW → Prop} {C P : Nat → Int} {TM : Int → Int → Prop} (h : SO S C P TM) {i p k : Nat} {w : qW} {v : Int} (hS : S i w) (hp : p ≠ 95 ∧ p ≠ 114) : S i (qup w p k v) := h.2.2.1 i w _ hS (fun j hj => qup_nk hp.1.symm) (fun j => qup_nk hp.2.symm)
noncomputable def sProdL (C : Nat → Int) : Nat → Nat → Int × Nat
  | 0, i => (0, i)
  | n + 1, i => if C i = 20047 then bnd (sNum C 1 9999 (i + 1)) (sProdL C n) else if C i = 20042 then bnd (sUnit C (i + 1)) (sProdL C n) else (0, i)
noncomputable def sProd (C : Nat → Int) (n i : Nat) : Int × Nat := bnd (sUnit C i) (sProdL C n)
noncomputable def sAddL (C : Nat → Int) (n9 : Nat) : Nat → Nat → Int × Nat
  | 0, i => (0, i)
  | n + 1, i => if C i = 20043 ∨ C i = 20045 then bnd (sProd C n9 (i + 1)) (sAddL C n9 n) else (0, i)
noncomputable def sAdd (C : Nat → Int) (n i : Nat) : Int × Nat := bnd (sProd C n i) (sAddL C n n)
noncomputable def sEvL (C : Nat → Int) (f : Nat → Int × Nat) : Nat → Nat → Int × Nat
  | 0, i => (0, i)
  | n + 1, i => if C i = 10004 then bnd (f (i + 1)) (sEvL C f n) else (0, i)
noncomputable def sEv (C : Nat → Int) (n : Nat) (f : Nat → Int × Nat) (i : Nat) : Int × Nat := bnd (f i) (sEvL C f n)
noncomputable def sAnL (C : Nat → Int) (g : Nat → Int × Nat) : Nat → Nat → Int × Nat
  | 0, i => (0, i)
  | n + 1, i => if C i = 10003 then bnd (g (i + 1)) (sAnL C g n) else (0, i)
noncomputable def sAn (C : Nat → Int) (n : Nat) (f : Nat → Int × Nat) (i : Nat) : Int × Nat := bnd (sEv C n f i) (sAnL C (sEv C n f) n)
noncomputable def sAtoR (C : Nat → Int) (n i : Nat) : Int × Nat := bnd (bnd (sAdd C n i) (sCmp C)) (sAdd C n)
noncomputable def sOne (C : Nat → Int) (n : Nat) : Nat → Nat → Int × Nat
  | 0, i => if C i = 10005 ∨ C i = 20040 then (3, i) else sAtoR C n i
  | q + 1, i => if C i = 10005 then sOne C n q (i + 1) else if C i = 20040 then bnd (sAn C n (sOne C n q) (i + 1)) (sNeed C 20041) else sAtoR C n i
theorem pL_s {C : Nat → Int} {n i : Nat} (h : C i = 20047) : sProdL C (n + 1) i = bnd (sNum C 1 9999 (i + 1)) (sProdL C n) := if_pos h
theorem pL_u {C : Nat → Int} {n i : Nat} (h : C i = 20042) : sProdL C (n + 1) i = bnd (sUnit C (i + 1)) (sProdL C n) := by
  show (if C i = 20047 then _ else _) = _
  rw [if_neg (by omega), if_pos h]
theorem pL_e {C : Nat → Int} {i : Nat} (h : ¬ C i = 20047) (h2 : ¬ C i = 20042) : ∀ n, sProdL C n i = (0, i)
  | 0 => rfl
  | n + 1 => by
    show (if C i = 20047 then _ else _) = _
    rw [if_neg h, if_neg h2]
theorem aL_y {C : Nat → Int} {n9 n i : Nat} (h : C i = 20043 ∨ C i = 20045) : sAddL C n9 (n + 1) i = bnd (sProd C n9 (i + 1)) (sAddL C n9 n) := if_pos h
theorem aL_e {C : Nat → Int} {n9 i : Nat} (h : ¬ (C i = 20043 ∨ C i = 20045)) : ∀ n, sAddL C n9 n i = (0, i)
  | 0 => rfl
  | n + 1 => if_neg h
theorem eL_y {C : Nat → Int} {f : Nat → Int × Nat} {n i : Nat} (h : C i = 10004) : sEvL C f (n + 1) i = bnd (f (i + 1)) (sEvL C f n) := if_pos h
theorem eL_e {C : Nat → Int} {f : Nat → Int × Nat} {i : Nat} (h : ¬ C i = 10004) : ∀ n, sEvL C f n i = (0, i)
  | 0 => rfl
  | n + 1 => if_neg h
theorem nL_y {C : Nat → Int} {f : Nat → Int × Nat} {n i : Nat} (h : C i = 10003) : sAnL C f (n + 1) i = bnd (f (i + 1)) (sAnL C f n) := if_pos h
theorem nL_e {C : Nat → Int} {f : Nat → Int × Nat} {i : Nat} (h : ¬ C i = 10003) : ∀ n, sAnL C f n i = (0, i)
  | 0 => rfl
  | n + 1 => if_neg h
theorem bnd_ok {r : Int × Nat} {f : Nat → Int × Nat} {j : Nat} (h : bnd r f = (0, j)) : ∃ a, r = (0, a) ∧ f a = (0, j) := by
  unfold bnd at h
  by_cases e : r.1 = 0
  · rw [if_pos e] at h; exact ⟨r.2, Prod.ext e rfl, h⟩
  · rw [if_neg e] at h; rw [h] at e; exact absurd rfl e
theorem num_lt {C : Nat → Int} {a b : Int} {i j : Nat} (h : sNum C a b i = (0, j)) : j = i + 1 := by
  unfold sNum at h
  split at h
  · cases h
  · split at h
    · cases h
    · cases h; rfl
theorem unit_lt {C : Nat → Int} {i j : Nat} (h : sUnit C i = (0, j)) : i < j := by
  unfold sUnit at h
  split at h
  · have := num_lt h; omega
  · split at h
    · cases h; omega
    · have := num_lt h; omega
theorem pL_le {C : Nat → Int} : ∀ (n i j : Nat), sProdL C n i = (0, j) → i ≤ j
  | 0, i, j, h => by cases h; exact Nat.le_refl _
  | n + 1, i, j, h => by
    unfold sProdL at h
    split at h
    · obtain ⟨a, h1, h2⟩ := bnd_ok h
      have := num_lt h1; have := pL_le n a j h2; omega
    · split at h
      · obtain ⟨a, h1, h2⟩ := bnd_ok h
        have := unit_lt h1; have := pL_le n a j h2; omega
      · cases h; exact Nat.le_refl _
theorem prod_lt {C : Nat → Int} {n i j : Nat} (h : sProd C n i = (0, j)) : i < j := by
  obtain ⟨a, h1, h2⟩ := bnd_ok h
  have := unit_lt h1; have := pL_le n a j h2; omega
theorem aL_le {C : Nat → Int} {n9 : Nat} : ∀ (n i j : Nat), sAddL C n9 n i = (0, j) → i ≤ j
  | 0, i, j, h => by cases h; exact Nat.le_refl _
  | n + 1, i, j, h => by
    unfold sAddL at h
    split at h
    · obtain ⟨a, h1, h2⟩ := bnd_ok h
      have := prod_lt h1; have := aL_le n a j h2; omega
    · cases h; exact Nat.le_refl _
theorem add_lt {C : Nat → Int} {n i j : Nat} (h : sAdd C n i = (0, j)) : i < j := by
  obtain ⟨a, h1, h2⟩ := bnd_ok h
  have := prod_lt h1; have := aL_le n a j h2; omega
theorem need_lt {C : Nat → Int} {v : Int} {i j : Nat} (h : sNeed C v i = (0, j)) : j = i + 1 := by
  unfold sNeed at h
  split at h
  · cases h; rfl
  · cases h
theorem cmp_lt {C : Nat → Int} {i j : Nat} (h : sCmp C i = (0, j)) : j = i + 1 := by
  unfold sCmp at h
  split at h
  · cases h; rfl
  · cases h
theorem atoR_lt {C : Nat → Int} {n i j : Nat} (h : sAtoR C n i = (0, j)) : i < j := by
  obtain ⟨a, h1, h2⟩ := bnd_ok h
  obtain ⟨b, h3, h4⟩ := bnd_ok h1
  have := add_lt h3; have := cmp_lt h4; have := add_lt h2; omega
theorem eL_le {C : Nat → Int} {f : Nat → Int × Nat} (hf : ∀ i j, f i = (0, j) → i < j) : ∀ (n i j : Nat), sEvL C f n i = (0, j) → i ≤ j
  | 0, i, j, h => by cases h; exact Nat.le_refl _
  | n + 1, i, j, h => by
    unfold sEvL at h
    split at h
    · obtain ⟨a, h1, h2⟩ := bnd_ok h
      have := hf _ _ h1; have := eL_le hf n a j h2; omega
    · cases h; exact Nat.le_refl _
theorem ev_lt {C : Nat → Int} {n : Nat} {f : Nat → Int × Nat} (hf : ∀ i j, f i = (0, j) → i < j) {i j : Nat} (h : sEv C n f i = (0, j)) : i < j := by
  obtain ⟨a, h1, h2⟩ := bnd_ok h
  have := hf _ _ h1; have := eL_le hf n a j h2; omega
theorem nL_le {C : Nat → Int} {f : Nat → Int × Nat} (hf : ∀ i j, f i = (0, j) → i < j) : ∀ (n i j : Nat), sAnL C f n i = (0, j) → i ≤ j
  | 0, i, j, h => by cases h; exact Nat.le_refl _
  | n + 1, i, j, h => by
    unfold sAnL at h
    split at h
    · obtain ⟨a, h1, h2⟩ := bnd_ok h
      have := hf _ _ h1; have := nL_le hf n a j h2; omega
    · cases h; exact Nat.le_refl _
theorem an_lt {C : Nat → Int} {n : Nat} {f : Nat → Int × Nat} (hf : ∀ i j, f i = (0, j) → i < j) {i j : Nat} (h : sAn C n f i = (0, j)) : i < j := by
  obtain ⟨a, h1, h2⟩ := bnd_ok h
  have := ev_lt hf h1; have := nL_le (fun i j => ev_lt hf) n a j h2; omega
theorem one_lt {C : Nat → Int} {n : Nat} : ∀ (q i j : Nat), sOne C n q i = (0, j) → i < j
  | 0, i, j, h => by
    unfold sOne at h
    split at h
    · cases h
    · exact atoR_lt h
  | q + 1, i, j, h => by
    unfold sOne at h
    split at h
    · have := one_lt q _ _ h; omega
    · split at h
      · obtain ⟨a, h1, h2⟩ := bnd_ok h
        have := an_lt (fun i j => one_lt q i j) h1; have := need_lt h2; omega
      · exact atoR_lt h
theorem bnd_a {r : Int × Nat} {f g : Nat → Int × Nat} : bnd (bnd r f) g = bnd r (fun j => bnd (f j) g) := by
  unfold bnd
  by_cases e : r.1 = 0
  · rw [if_pos e, if_pos e]
  · rw [if_neg e, if_neg e, if_neg e]
theorem bnd_c {r : Int × Nat} {f g : Nat → Int × Nat} (h : ∀ j, r = (0, j) → f j = g j) : bnd r f = bnd r g := by
  unfold bnd
  by_cases e : r.1 = 0
  · rw [if_pos e, if_pos e]; exact h r.2 (Prod.ext e rfl)
  · rw [if_neg e, if_neg e]
/-- sums: one loop, or a loop of products and one of sums -/
theorem flat_s {C : Nat → Int} {t n9 : Nat} (hC : ∀ i, t ≤ i → C i = -2) (hn : t ≤ n9) : ∀ (m f f1 f2 i : Nat), t + 1 - i ≤ m → t + 1 - i ≤ f → t + 1 - i ≤ f1 → t + 1 - i ≤ f2 → sSumL C f i = bnd (sProdL C f1 i) (sAddL C n9 f2) := by
  intro m
  induction m with
  | zero =>
    intro f f1 f2 i h0 _ _ _
    have e := hC i (by omega)
    have e1 : ∀ f, sSumL C f i = (0, i) := fun f => by
      cases f with
      | zero => rfl
      | succ f => exact sL_e (by omega) (by omega)
    rw [e1, pL_e (by omega) (by omega), bnd_0, aL_e (by omega)]
  | succ m ih =>
    intro f f1 f2 i h0 hf hf1 hf2
    by_cases ht : t ≤ i
    · have e := hC i ht
      have e1 : ∀ f, sSumL C f i = (0, i) := fun f => by
        cases f with
        | zero => rfl
        | succ f => exact sL_e (by omega) (by omega)
      rw [e1, pL_e (by omega) (by omega), bnd_0, aL_e (by omega)]
    · obtain ⟨g, rfl⟩ : ∃ g, f = g + 1 := ⟨f - 1, by omega⟩
      obtain ⟨g1, rfl⟩ : ∃ g, f1 = g + 1 := ⟨f1 - 1, by omega⟩
      obtain ⟨g2, rfl⟩ : ∃ g, f2 = g + 1 := ⟨f2 - 1, by omega⟩
      by_cases h47 : C i = 20047
      · rw [sL_s h47, pL_s h47, bnd_a]
        exact bnd_c (fun j hj => by have := num_lt hj; exact ih g g1 (g2 + 1) j (by omega) (by omega) (by omega) (by omega))
      · by_cases h42 : C i = 20042
        · rw [sL_u h47 (.inl h42), pL_u h42, bnd_a]
          exact bnd_c (fun j hj => by have := unit_lt hj; exact ih g g1 (g2 + 1) j (by omega) (by omega) (by omega) (by omega))
        · by_cases h43 : C i = 20043 ∨ C i = 20045
          · rw [sL_u h47 (.inr h43), pL_e h47 h42, bnd_0, aL_y h43]
            unfold sProd
            rw [bnd_a]
            exact bnd_c (fun j hj => by have := unit_lt hj; exact ih g n9 g2 j (by omega) (by omega) (by omega) (by omega))
          · rw [sL_e h47 (fun z => z.elim h42 h43), pL_e h47 h42, bnd_0, aL_e h43]
theorem sum_eq {C : Nat → Int} {t : Nat} (hC : ∀ i, t ≤ i → C i = -2) (ht : t ≤ 600) (i : Nat) : sSum C 601 i = sAdd C 601 i := by
  unfold sSum sAdd sProd
  rw [bnd_a]
  exact bnd_c (fun j _ => flat_s hC (by omega) (t + 1 - j) 601 601 601 j (Nat.le_refl _) (by omega) (by omega) (by omega))
theorem ato_eq {C : Nat → Int} {t : Nat} (hC : ∀ i, t ≤ i → C i = -2) (ht : t ≤ 600) (i : Nat) : sAtom C 601 i = sAtoR C 601 i := by
  unfold sAtom sAtoR
  rw [sum_eq hC ht, show sSum C 601 = sAdd C 601 from funext (sum_eq hC ht)]
theorem flat_c {C : Nat → Int} {t n9 : Nat} {f : Nat → Int × Nat} (hC : ∀ i, t ≤ i → C i = -2) (hn : t ≤ n9) (hf : ∀ i j, f i = (0, j) → i < j) : ∀ (m a b c i : Nat), t + 1 - i ≤ m → t + 1 - i ≤ a → t + 1 - i ≤ b → t + 1 - i ≤ c → sChL C f a i = bnd (sEvL C f b i) (sAnL C (sEv C n9 f) c) := by
  intro m
  induction m with
  | zero =>
    intro a b c i h0 _ _ _
    have e := hC i (by omega)
    have e1 : ∀ a, sChL C f a i = (0, i) := fun a => by
      cases a with
      | zero => rfl
      | succ a => exact chL_e (by omega)
    rw [e1, eL_e (by omega), bnd_0, nL_e (by omega)]
  | succ m ih =>
    intro a b c i h0 ha hb hc
    by_cases ht : t ≤ i
    · have e := hC i ht
      have e1 : ∀ a, sChL C f a i = (0, i) := fun a => by
        cases a with
        | zero => rfl
        | succ a => exact chL_e (by omega)
      rw [e1, eL_e (by omega), bnd_0, nL_e (by omega)]
    · obtain ⟨a1, rfl⟩ : ∃ g, a = g + 1 := ⟨a - 1, by omega⟩
      obtain ⟨b1, rfl⟩ : ∃ g, b = g + 1 := ⟨b - 1, by omega⟩
      obtain ⟨c1, rfl⟩ : ∃ g, c = g + 1 := ⟨c - 1, by omega⟩
      by_cases h4 : C i = 10004
      · rw [chL_y (.inr h4), eL_y h4, bnd_a]
        exact bnd_c (fun j hj => by have := hf _ _ hj; exact ih a1 b1 (c1 + 1) j (by omega) (by omega) (by omega) (by omega))
      · by_cases h3 : C i = 10003
        · rw [chL_y (.inl h3), eL_e h4, bnd_0, nL_y h3]
          unfold sEv
          rw [bnd_a]
          exact bnd_c (fun j hj => by have := hf _ _ hj; exact ih a1 n9 c1 j (by omega) (by omega) (by omega) (by omega))
        · rw [chL_e (fun z => z.elim h3 h4), eL_e h4, bnd_0, nL_e h3]
theorem cho_eq {C : Nat → Int} {t : Nat} {f : Nat → Int × Nat} (hC : ∀ i, t ≤ i → C i = -2) (ht : t ≤ 600) (hf : ∀ i j, f i = (0, j) → i < j) (i : Nat) : sCho C 601 f i = sAn C 601 f i := by
  unfold sCho sAn
  rw [show sEv C 601 f i = bnd (f i) (sEvL C f 601) from rfl, bnd_a]
  exact bnd_c (fun j _ => flat_c hC (by omega) hf (t + 1 - j) 601 601 601 j (Nat.le_refl _) (by omega) (by omega) (by omega))
theorem cond_eq {C : Nat → Int} {t : Nat} (hC : ∀ i, t ≤ i → C i = -2) (ht : t ≤ 600) : ∀ (q i : Nat), sCond C 601 q i = sOne C 601 q i
  | 0, i => by unfold sCond sOne; rw [ato_eq hC ht]
  | q + 1, i => by
    have e : sCond C 601 q = sOne C 601 q := funext (cond_eq hC ht q)
    unfold sCond sOne
    rw [e, ato_eq hC ht, cho_eq hC ht (fun i j => one_lt q i j)]
theorem chon_eq {C : Nat → Int} {t : Nat} (hC : ∀ i, t ≤ i → C i = -2) (ht : t ≤ 600) (q i : Nat) : sCho C 601 (sCond C 601 q) i = sAn C 601 (sOne C 601 q) i := by
  rw [show sCond C 601 q = sOne C 601 q from funext (cond_eq hC ht q)]
  exact cho_eq hC ht (fun i j => one_lt q i j) i
