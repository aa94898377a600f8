section
/-! the reference's table of poses; hides -/
theorem qG.bld {sc : Option (Nat × (Nat → Int))} {d k pc n m x len : Nat} {ls r : List qV} {w : qW} {Q : qV → qW → Nat → Prop} {i p : Int} (hq : qcd k pc = some (.baload, len)) (hp : qpl p.toNat = (1, 3, m, x)) (hi : 0 ≤ i ∧ i < (m : Int)) (h0 : 0 < p ∧ p ≤ (n : Int)) (g : qG sc d k (pc + 1) ls ((0, w p.toNat i.toNat) :: r) w n Q) : qG sc d k pc ls ((0, i) :: (2, p) :: r) w n Q := by
  refine qG.one (pc' := pc + 1) (ls' := ls) (st' := (0, w p.toNat i.toNat) :: r) (w' := w) (n' := n) ?_ g
  unfold qone
  rw [hq]
  show qs1 sc k .baload len pc ls ((0, i) :: (2, p) :: r) w n = _
  rw [qs1_baload]
  show (match qpl p.toNat with
    | (1, 3, m, _) => if 0 ≤ i ∧ i < (m : Int) then (if 0 < p ∧ p ≤ (n : Int) then some (pc + 1, ls, (0, w p.toNat i.toNat) :: r, w, n) else none) else none
    | (1, 4, m, _) => if 0 ≤ i ∧ i < (m : Int) then (if 0 < p ∧ p ≤ (n : Int) then some (pc + 1, ls, (0, w p.toNat i.toNat) :: r, w, n) else none) else none
    | _ => none) = _
  rw [hp]
  show (if 0 ≤ i ∧ i < (m : Int) then (if 0 < p ∧ p ≤ (n : Int) then some (pc + 1, ls, (0, w p.toNat i.toNat) :: r, w, n) else none) else none) = _
  rw [if_pos hi, if_pos h0]
theorem qG.bst {sc : Option (Nat × (Nat → Int))} {d k pc n m x len : Nat} {ls r : List qV} {w : qW} {Q : qV → qW → Nat → Prop} {i p v : Int} (hq : qcd k pc = some (.bastore, len)) (hp : qpl p.toNat = (1, 3, m, x)) (hi : (0 ≤ i ∧ i < (m : Int)) ∧ 0 ≤ v ∧ v ≤ 1) (h0 : 0 < p ∧ p ≤ (n : Int)) (g : qG sc d k (pc + 1) ls r (qup w p.toNat i.toNat v) n Q) : qG sc d k pc ls ((0, v) :: (0, i) :: (2, p) :: r) w n Q := by
  refine qG.one (pc' := pc + 1) (ls' := ls) (st' := r) (w' := qup w p.toNat i.toNat v) (n' := n) ?_ g
  unfold qone
  rw [hq]
  show qs1 sc k .bastore len pc ls ((0, v) :: (0, i) :: (2, p) :: r) w n = _
  rw [qs1_bastore]
  show (match qpl p.toNat with
    | (1, 3, m, _) => if (0 ≤ i ∧ i < (m : Int)) ∧ 0 ≤ v ∧ v ≤ 1 then (if 0 < p ∧ p ≤ (n : Int) then some (pc + 1, ls, r, qup w p.toNat i.toNat v, n) else none) else none
    | (1, 4, m, _) => if (0 ≤ i ∧ i < (m : Int)) ∧ -128 ≤ v ∧ v ≤ 127 then (if 0 < p ∧ p ≤ (n : Int) then some (pc + 1, ls, r, qup w p.toNat i.toNat v, n) else none) else none
    | _ => none) = _
  rw [hp]
  show (if (0 ≤ i ∧ i < (m : Int)) ∧ 0 ≤ v ∧ v ≤ 1 then (if 0 < p ∧ p ≤ (n : Int) then some (pc + 1, ls, r, qup w p.toNat i.toNat v, n) else none) else none) = _
  rw [if_pos hi, if_pos h0]
noncomputable def nxt (w : qW) (i j : Nat) : Prop := ∃ k : Nat, (k : Int) < w 102 i ∧ w 103 (50 * i + k) = (j : Int)
/-- who can be reached can be left to where one came from -/
noncomputable def S3 (w : qW) : Prop := ∀ i j : Nat, (i : Int) < w 95 8 → nxt w i j → (j : Int) < w 95 8 ∧ nxt w j i
theorem S3.cong {w w1 : qW} (h : S3 w) (h8 : w1 95 8 = w 95 8) (h2 : ∀ i, w1 102 i = w 102 i) (h3 : ∀ i, w1 103 i = w 103 i) : S3 w1 := by
  have e : ∀ i j, nxt w1 i j ↔ nxt w i j := fun i j => by unfold nxt; simp only [h2, h3]
  intro i j hi hn
  rw [h8] at hi ⊢
  rw [e] at hn ⊢
  exact h i j hi hn
theorem cM_ex {w : qW} {c k a : Nat} {l : List Nat} : ∀ {m : Nat}, m ≤ l.length → ∀ q, q < cM w c k l a m → ∃ j, j < m ∧ cM w c k l a j = q ∧ mvB w c k (a : Int) ((l.getD j 0 : Nat) : Int) = true
  | 0, _, q, hq => by
    have : cM w c k l a 0 = 0 := by unfold cM; rw [List.take_zero]; rfl
    omega
  | m + 1, hm, q, hq => by
    rw [cM_s (by omega)] at hq
    by_cases h : q < cM w c k l a m
    · obtain ⟨j, h1, h2, h3⟩ := cM_ex (m := m) (by omega) q h
      exact ⟨j, by omega, h2, h3⟩
    · by_cases hb : mvB w c k (a : Int) ((l.getD m 0 : Nat) : Int) = true
      · rw [if_pos hb] at hq
        exact ⟨m, by omega, by omega, hb⟩
      · rw [if_neg hb] at hq; omega
theorem mv_sym {w : qW} {c k a b : Nat} (ha : a < 65536) (hb : b < 65536) (h : mvB w c k (a : Int) (b : Int) = true) : mvB w c k (b : Int) (a : Int) = true := by
  have e1 : qand (b : Int) (a : Int) = qand (a : Int) (b : Int) := by rw [qand_n (by omega) (by omega), qand_n (by omega) (by omega), Nat.and_comm]
  have e2 : qor (b : Int) (a : Int) = qor (a : Int) (b : Int) := by rw [qor_n (by omega) (by omega), qor_n (by omega) (by omega), Nat.or_comm]
  unfold mvB at h ⊢
  rw [e1, e2]
  rw [Bool.or_eq_true] at h ⊢
  exact h.imp (fun z => by rw [decide_eq_true_eq] at z ⊢; exact z.symm) id
/-- what findsPoses leaves -/
noncomputable def fpP (w : qW) (c k : Nat) (w1 : qW) : Prop := (w 95 9 = ((8 * c + k : Nat) : Int) ∧ w1 = w) ∨ (¬ w 95 9 = ((8 * c + k : Nat) : Int) ∧ ∃ wA, fpI w c k 65536 wA ∧ fpJ wA w1 ∧ fpN w c k 65536 w1 (fpL w c k 65536).length)
theorem fpP.aw {w w1 : qW} {c k : Nat} (hI : yInv zgf zga zra zSp w) (h : fpP w c k w1) : AW zfpm w w1 := by
  rcases h with ⟨-, rfl⟩ | ⟨-, wA, hA, hJ, -⟩
  · exact AW.rf hI
  · exact ⟨hJ.2, fun p j hpj => zfpm_f hA hJ hpj⟩
theorem fpP.s3 {w w1 : qW} {c k : Nat} (hk1 : 1 ≤ k) (hk2 : k ≤ 4) (h : fpP w c k w1) (hS : S3 w) : S3 w1 := by
  rcases h with ⟨-, rfl⟩ | ⟨-, wA, hA, hJ, hN⟩
  · exact hS
  have h8 : w1 95 8 = (((fpL w c k 65536).length : Nat) : Int) := (hJ.1 95 8 (by decide) (by decide)).trans hA.1
  have hin : ∀ i, i < (fpL w c k 65536).length → (fpL w c k 65536).getD i 0 < 65536 ∧ pc ((fpL w c k 65536).getD i 0) 16 = k := fun i hi => by
    rw [List.getD_eq_getElem?_getD, List.getElem?_eq_getElem hi]
    exact fpL_in (Nat.le_refl _) (List.getElem_mem hi)
  intro i j hi hn
  rw [h8] at hi ⊢
  have hi : i < (fpL w c k 65536).length := by omega
  obtain ⟨q, hq, hqj⟩ := hn
  obtain ⟨n1, n2⟩ := hN i hi
  rw [n1] at hq
  obtain ⟨j2, hj2, hc2, hm2⟩ := cM_ex (w := w) (c := c) (k := k) (a := (fpL w c k 65536).getD i 0) (l := fpL w c k 65536) (Nat.le_refl _) q (by omega)
  have hw := n2 j2 hj2 hm2
  rw [hc2, hqj] at hw
  have e : j = j2 := by omega
  subst e
  refine ⟨by omega, ?_⟩
  obtain ⟨m1, m2⟩ := hN j hj2
  have hms := mv_sym (hin i hi).1 (hin j hj2).1 hm2
  exact ⟨_, by rw [m1]; exact Int.ofNat_lt.mpr (cM_lt hi (Nat.le_refl _) hms), m2 i hi hms⟩
theorem K_fp {d : Nat} (hd : 5 ≤ d) (c k : Nat) (hc : c < 3) (hk1 : 1 ≤ k) (hk2 : k ≤ 4) (w : qW) (hI : yInv zgf zga zra zSp w) (hS : S3 w) : qG none d 220 0 (qini 220 [(2, 95), (0, ((c : Nat) : Int)), (0, ((k : Nat) : Int))]) [] w 142 (fun r w1 n1 => r = (9, 0) ∧ n1 = 142 ∧ fpP w c k w1 ∧ AW zfpm w w1 ∧ S3 w1) := by
  refine qG.mono (K_findsPoses hd c k hc hk1 hk2 w hI) ?_
  rintro r w1 n1 ⟨h1, h2, h3⟩
  have h3 : fpP w c k w1 := h3
  exact ⟨h1, h2, h3, h3.aw hI, h3.s3 hk1 hk2 hS⟩
noncomputable def b01 (b : Bool) : Int := if b = true then 1 else 0
theorem b01_in (b : Bool) : 0 ≤ b01 b ∧ b01 b ≤ 1 := by cases b <;> decide
theorem b01_0 {b : Bool} (h : b01 b = 0) : b = false := by cases b; rfl; cases h
theorem b01_1 {b : Bool} (h : ¬ b01 b = 0) : b = true := by cases b; exact absurd rfl h; rfl
noncomputable def anyF (f : Nat → Bool) (g : Nat → Nat) : Nat → Bool
  | 0 => false
  | k + 1 => anyF f g k || f (g k)
theorem anyF_le {f : Nat → Bool} {g : Nat → Nat} {k : Nat} (h : anyF f g k = true) : ∀ m, k ≤ m → anyF f g m = true
  | 0, hm => by rw [show k = 0 by omega] at h; exact h
  | m + 1, hm => by
    by_cases e : k = m + 1
    · rw [← e]; exact h
    · show (anyF f g m || _) = true
      rw [anyF_le h m (by omega)]; rfl
theorem anyF_in {f : Nat → Bool} {g : Nat → Nat} : ∀ {m : Nat}, anyF f g m = true → ∃ k, k < m ∧ f (g k) = true
  | 0, h => by cases h
  | m + 1, h => by
    have h : (anyF f g m || f (g m)) = true := h
    rw [Bool.or_eq_true] at h
    rcases h with h | h
    · obtain ⟨k, hk, hf⟩ := anyF_in h
      exact ⟨k, by omega, hf⟩
    · exact ⟨m, by omega, h⟩
theorem anyF_mk {f : Nat → Bool} {g : Nat → Nat} {k m : Nat} (hk : k < m) (h : f (g k) = true) : anyF f g m = true := by
  refine anyF_le (k := k + 1) ?_ m hk
  show (anyF f g k || f (g k)) = true
  rw [h, Bool.or_true]
noncomputable def cntF (f : Nat → Bool) : Nat → Nat
  | 0 => 0
  | i + 1 => cntF f i + (if f i = true then 1 else 0)
theorem cntF_le (f : Nat → Bool) : ∀ i, cntF f i ≤ i
  | 0 => Nat.le_refl 0
  | i + 1 => by
    have := cntF_le f i
    show cntF f i + (if f i = true then 1 else 0) ≤ i + 1
    split <;> omega
theorem cntF_all {f : Nat → Bool} (h : ∀ i, f i = true) : ∀ i, cntF f i = i
  | 0 => rfl
  | i + 1 => by
    show cntF f i + (if f i = true then 1 else 0) = i + 1
    rw [cntF_all h i, if_pos (h i)]
theorem cntF_in {f : Nat → Bool} : ∀ {i : Nat}, cntF f i ≠ 0 → ∃ j, j < i ∧ f j = true
  | 0, h => absurd rfl h
  | i + 1, h => by
    by_cases hf : f i = true
    · exact ⟨i, by omega, hf⟩
    · have h : cntF f i + (if f i = true then 1 else 0) ≠ 0 := h
      rw [if_neg hf] at h
      obtain ⟨j, hj, hfj⟩ := cntF_in h
      exact ⟨j, by omega, hfj⟩
theorem cntF_y {f : Nat → Bool} {i : Nat} (h : f i = true) : cntF f (i + 1) = cntF f i + 1 := by
  show cntF f i + (if f i = true then 1 else 0) = cntF f i + 1
  rw [if_pos h]
theorem cntF_n {f : Nat → Bool} {i : Nat} (h : f i = false) : cntF f (i + 1) = cntF f i := by
  show cntF f i + (if f i = true then 1 else 0) = cntF f i
  rw [h]; rfl
noncomputable def nxF (w : qW) (i k : Nat) : Nat := (w 103 (50 * i + k)).toNat
noncomputable def clF (w : qW) (t i : Nat) : Bool := decide (qand (w 101 i) (w 116 t) = 0)
/-- who can stand at i after t seconds -/
noncomputable def cF (w : qW) : Nat → Nat → Bool
  | 0, _ => true
  | t + 1, i => clF w t i && anyF (cF w t) (nxF w i) (w 102 i).toNat
theorem nx_e {w : qW} (hI : yInv zgf zga zra zSp w) (i k : Nat) : w 103 (50 * i + k) = ((nxF w i k : Nat) : Int) := by
  have h := hI.2.1 103 (50 * i + k) (0, 1819) rfl rfl
  have h0 : (0 : Int) ≤ w 103 (50 * i + k) := h.1
  unfold nxF
  omega
theorem nx_lt {w : qW} (hI : yInv zgf zga zra zSp w) (hS : S3 w) {i k N : Nat} (hN : w 95 8 = (N : Int)) (hi : i < N) (hk : (k : Int) < w 102 i) : nxF w i k < N := by
  have := (hS i (nxF w i k) (by omega) ⟨k, hk, nx_e hI i k⟩).1
  omega
noncomputable def hdW (w0 w9 : qW) : Prop := (∀ p j, p ≠ 117 → p ≠ 118 → ¬ (p = 95 ∧ j = 46) → w9 p j = w0 p j) ∧ yInv zgf zga zra zSp w9
theorem hdW.u46 {w0 w9 : qW} {v : Int} (h : hdW w0 w9) (h0 : -1 ≤ v) (h1 : v ≤ 800) : hdW w0 (qup w9 95 46 v) := ⟨fun p j h1 h2 h3 => by rw [qup95 h3]; exact h.1 p j h1 h2 h3, zup_f h.2 (b := (-1, 800)) rfl rfl rfl ⟨h0, h1⟩⟩
theorem hdW.u117 {w0 w9 : qW} {v : Int} {i : Nat} (h : hdW w0 w9) (hv : 0 ≤ v ∧ v ≤ 1) : hdW w0 (qup w9 117 i v) := ⟨fun p j h1 h2 h3 => by rw [qup_ne h1]; exact h.1 p j h1 h2 h3, zup_a h.2 (b := (0, 1)) rfl rfl hv⟩
theorem hdW.u118 {w0 w9 : qW} {v : Int} {i : Nat} (h : hdW w0 w9) (hv : 0 ≤ v ∧ v ≤ 1) : hdW w0 (qup w9 118 i v) := ⟨fun p j h1 h2 h3 => by rw [qup_ne h2]; exact h.1 p j h1 h2 h3, zup_a h.2 (b := (0, 1)) rfl rfl hv⟩
theorem rows.nx {w : qW} {p i : Nat} {f : Nat → Int} {v : Int} (h : ∀ j, j < i → w p j = f j) (hv : v = f i) : ∀ j, j < i + 1 → qup w p i v p j = f j := fun j hj => by
  by_cases e : j = i
  · subst e; rw [qup_k]; exact hv
  · rw [qup_j e]; exact h j (by omega)
theorem rows.ke {w : qW} {p i N : Nat} {f : Nat → Int} {v : Int} (h : ∀ j, j < i → w p j = f j) (hN : i ≤ N) : ∀ j, j < i → qup w p N v p j = f j := fun j hj => by rw [qup_j (by omega)]; exact h j hj
theorem rows.e1 {w : qW} {p i : Nat} {f : Nat → Int} (h : ∀ j, j < i → w p j = f j) (hv : w p i = f i) : ∀ j, j < i + 1 → w p j = f j := fun j hj => by
  by_cases e : j = i
  · subst e; exact hv
  · exact h j (by omega)
theorem hd_E {w : qW} {t i k : Nat} (hI : yInv zgf zga zra zSp w) (hk : (k : Int) ≤ w 102 i) (h : (¬ (k : Int) < w 102 i) ∨ (clF w t i && anyF (cF w t) (nxF w i) k) = true ∨ clF w t i = false) : (clF w t i && anyF (cF w t) (nxF w i) k) = cF w (t + 1) i := by
  show _ = (clF w t i && anyF (cF w t) (nxF w i) (w 102 i).toNat)
  rcases h with h | h | h
  · rw [show (w 102 i).toNat = k by omega]
  · rw [h]
    rw [Bool.and_eq_true] at h
    rw [h.1, anyF_le h.2 _ (by omega)]; rfl
  · rw [h]; rfl
theorem hd_S {w : qW} {t i k : Nat} (h : qand (w 101 i) (w 116 t) = 0) (hn : (clF w t i && anyF (cF w t) (nxF w i) k) = false) : b01 (cF w t (nxF w i k)) = b01 (clF w t i && anyF (cF w t) (nxF w i) (k + 1)) := by
  have e : clF w t i = true := decide_eq_true h
  rw [e, Bool.true_and] at hn ⊢
  show _ = b01 (anyF (cF w t) (nxF w i) k || cF w t (nxF w i k))
  rw [hn, Bool.false_or]
theorem K_hides {d : Nat} (hd : 6 ≤ d) (c k9 : Nat) (hc : c < 3) (hk1 : 1 ≤ k9) (hk2 : k9 ≤ 4) (w : qW) (hI : yInv zgf zga zra zSp w) (hS : S3 w) : qG none d 257 0 [(2, 95), (0, ((c : Nat) : Int)), (0, ((k9 : Nat) : Int)), (9, 0), (9, 0), (9, 0), (9, 0)] [] w 142 (fun (r : qV) (w1 : qW) (n1 : Nat) => n1 = 142 ∧ ∃ w0, fpP w c k9 w0 ∧ AW zfpm w w0 ∧ S3 w0 ∧ hdW w0 w1 ∧ ∃ N S t : Nat, w0 95 8 = (N : Int) ∧ w0 95 37 = (S : Int) ∧ t ≤ S ∧ r = (0, ((cntF (cF w0 t) N : Nat) : Int)) ∧ (t = S ∨ cntF (cF w0 t) N = 0)) := by
  generalize hQ9 : (fun (r : qV) (w1 : qW) (n1 : Nat) => n1 = 142 ∧ ∃ w0, fpP w c k9 w0 ∧ AW zfpm w w0 ∧ S3 w0 ∧ hdW w0 w1 ∧ ∃ N S t : Nat, w0 95 8 = (N : Int) ∧ w0 95 37 = (S : Int) ∧ t ≤ S ∧ r = (0, ((cntF (cF w0 t) N : Nat) : Int)) ∧ (t = S ∨ cntF (cF w0 t) N = 0)) = Q9
  obtain ⟨d, rfl⟩ : ∃ d9, d = d9 + 1 := ⟨d - 1, by omega⟩
  refine qG.blk 3 (pc' := 3) (ls' := [(2, 95), (0, ((c : Nat) : Int)), (0, ((k9 : Nat) : Int)), (9, 0), (9, 0), (9, 0), (9, 0)]) (st' := [(0, ((k9 : Nat) : Int)), (0, ((c : Nat) : Int)), (2, 95)]) (w' := w) (n' := 142) rfl ?_
  refine qG.call (t := 220) (na := 3) (sk := 1) (md := 1) (ls1 := [(2, 95), (0, ((c : Nat) : Int)), (0, ((k9 : Nat) : Int)), (9, 0), (9, 0)]) (r1 := []) rfl rfl rfl rfl rfl (K_fp (by omega) c k9 hc hk1 hk2 w hI hS) ?_
  rintro _ w0 _ ⟨rfl, rfl, hfp, hA0, hS0⟩
  have h8 := zfld hA0.1 (j := 8) (b := (0, 1820)) rfl
  have h37 := zfld hA0.1 (j := 37) (b := (0, 800)) rfl
  have a8 : (0 : Int) ≤ w0 95 8 := h8.1
  have b8 : w0 95 8 ≤ (1820 : Int) := h8.2
  have a37 : (0 : Int) ≤ w0 95 37 := h37.1
  have b37 : w0 95 37 ≤ (800 : Int) := h37.2
  obtain ⟨N, hN⟩ : ∃ N : Nat, w0 95 8 = (N : Int) := ⟨(w0 95 8).toNat, by omega⟩
  obtain ⟨S, hSS⟩ : ∃ S : Nat, w0 95 37 = (S : Int) := ⟨(w0 95 37).toNat, by omega⟩
  have hm2 : ∀ i, (0 : Int) ≤ w0 102 i ∧ w0 102 i ≤ 50 := fun i => hA0.1.2.1 102 i (0, 50) rfl rfl
  show qG none (d + 1) 257 6 [(2, 95), (0, ((c : Nat) : Int)), (0, ((k9 : Nat) : Int)), (9, 0), (9, 0), (9, 0), (9, 0)] [] w0 142 Q9
  refine qG.blk 3 (pc' := 11) (ls' := [(2, 95), (0, ((c : Nat) : Int)), (0, ((k9 : Nat) : Int)), (9, 0), (9, 0), (9, 0), (9, 0)]) (st' := [(0, w0 95 8), (2, 95)]) (w' := w0) (n' := 142) rfl ?_
  rw [show w0 95 8 = ((N : Nat) : Int) from hN]
  refine qG.br (P := ((N : Nat) : Int) = 0) (pc1 := 14) (pc2 := 18) (st1 := [(2, 95)]) rfl (fun h1 => ?_) (fun h1 => ?_)
  · skip
    refine qG.blk 5 (pc' := 26) (ls' := [(2, 95), (0, ((c : Nat) : Int)), (0, ((k9 : Nat) : Int)), (9, 0), (9, 0), (9, 0), (9, 0)]) (st' := [(0, w0 95 8)]) (w' := (qup w0 95 46 0)) (n' := 142) rfl ?_
    rw [show w0 95 8 = ((N : Nat) : Int) from hN]
    refine qG.blk 3 (pc' := 30) (ls' := [(2, 95), (0, ((c : Nat) : Int)), (0, ((k9 : Nat) : Int)), (0, ((N : Nat) : Int)), (0, 0), (9, 0), (9, 0)]) (st' := []) (w' := (qup w0 95 46 0)) (n' := 142) rfl ?_
    have L30 : ∀ (m9 : Nat) (i : Nat) (w9 : qW), N - i = m9 → (i ≤ N ∧ hdW w0 w9 ∧ ∀ j, j < i → w9 117 j = 1) → qG none (d + 1) 257 30 [(2, 95), (0, ((c : Nat) : Int)), (0, ((k9 : Nat) : Int)), (0, ((N : Nat) : Int)), (0, ((i : Nat) : Int)), (9, 0), (9, 0)] [] w9 142 Q9 := by
      intro m9
      induction m9 using Nat.strongRecOn with
      | ind m9 ih30 =>
      intro i w9 hm30 hI30
      refine qG.blk 3 (pc' := 36) (ls' := [(2, 95), (0, ((c : Nat) : Int)), (0, ((k9 : Nat) : Int)), (0, ((N : Nat) : Int)), (0, ((i : Nat) : Int)), (9, 0), (9, 0)]) (st' := [(0, w9 95 8), (0, ((i : Nat) : Int))]) (w' := w9) (n' := 142) rfl ?_
      rw [show w9 95 8 = ((N : Nat) : Int) from (hI30.2.1.1 95 (8) (by decide) (by decide) (fun z => by cases z.2)).trans hN]
      refine qG.br (P := ((i : Nat) : Int) < ((N : Nat) : Int)) (pc1 := 39) (pc2 := 53) (st1 := []) rfl (fun h2 => ?_) (fun h2 => ?_)
      · skip
        refine qG.blk 2 (pc' := 43) (ls' := [(2, 95), (0, ((c : Nat) : Int)), (0, ((k9 : Nat) : Int)), (0, ((N : Nat) : Int)), (0, ((i : Nat) : Int)), (9, 0), (9, 0)]) (st' := [(2, w9 95 44)]) (w' := w9) (n' := 142) rfl ?_
        rw [show w9 95 44 = 117 from zref hI30.2.1.2 rfl rfl]
        refine qG.blk 2 (pc' := 46) (ls' := [(2, 95), (0, ((c : Nat) : Int)), (0, ((k9 : Nat) : Int)), (0, ((N : Nat) : Int)), (0, ((i : Nat) : Int)), (9, 0), (9, 0)]) (st' := [(0, 1), (0, ((i : Nat) : Int)), (2, 117)]) (w' := w9) (n' := 142) rfl ?_
        refine qG.bst (m := 1820) rfl rfl (by omega) (by decide) ?_
        show qG none (d + 1) 257 47 [(2, 95), (0, ((c : Nat) : Int)), (0, ((k9 : Nat) : Int)), (0, ((N : Nat) : Int)), (0, ((i : Nat) : Int)), (9, 0), (9, 0)] [] (qup w9 117 i 1) 142 Q9
        refine qG.blk 1 (pc' := 50) (ls' := [(2, 95), (0, ((c : Nat) : Int)), (0, ((k9 : Nat) : Int)), (0, ((N : Nat) : Int)), (0, wrp (((i : Nat) : Int) + 1)), (9, 0), (9, 0)]) (st' := []) (w' := (qup w9 117 i 1)) (n' := 142) rfl ?_
        rw [show wrp (((i : Nat) : Int) + 1) = ((i + 1 : Nat) : Int) from wrp_id (by omega) (by omega)]
        refine qG.blk 1 (pc' := 30) (ls' := [(2, 95), (0, ((c : Nat) : Int)), (0, ((k9 : Nat) : Int)), (0, ((N : Nat) : Int)), (0, ((i + 1 : Nat) : Int)), (9, 0), (9, 0)]) (st' := []) (w' := (qup w9 117 i 1)) (n' := 142) rfl ?_
        exact ih30 _ (by omega) (i + 1) ((qup w9 117 i 1)) rfl (⟨by omega, hdW.u117 hI30.2.1 (by decide), rows.nx (f := fun _ => 1) hI30.2.2 rfl⟩)
      · skip
        refine qG.blk 2 (pc' := 56) (ls' := [(2, 95), (0, ((c : Nat) : Int)), (0, ((k9 : Nat) : Int)), (0, ((N : Nat) : Int)), (0, 0), (9, 0), (9, 0)]) (st' := []) (w' := w9) (n' := 142) rfl ?_
        have L56 : ∀ (m9 : Nat) (t m : Nat) (w8 : qW) (x5 x6 : qV), S - t = m9 → (t ≤ S ∧ hdW w0 w8 ∧ (∀ j, j < N → w8 117 j = b01 (cF w0 t j)) ∧ m = cntF (cF w0 t) N) → qG none (d + 1) 257 56 [(2, 95), (0, ((c : Nat) : Int)), (0, ((k9 : Nat) : Int)), (0, ((m : Nat) : Int)), (0, ((t : Nat) : Int)), x5, x6] [] w8 142 Q9 := by
          intro m9
          induction m9 using Nat.strongRecOn with
          | ind m9 ih56 =>
          intro t m w8 x5 x6 hm56 hI56
          have hm9 := cntF_le (cF w0 t) N
          rw [← hI56.2.2.2] at hm9
          refine qG.blk 3 (pc' := 62) (ls' := [(2, 95), (0, ((c : Nat) : Int)), (0, ((k9 : Nat) : Int)), (0, ((m : Nat) : Int)), (0, ((t : Nat) : Int)), x5, x6]) (st' := [(0, w8 95 37), (0, ((t : Nat) : Int))]) (w' := w8) (n' := 142) rfl ?_
          rw [show w8 95 37 = ((S : Nat) : Int) from (hI56.2.1.1 95 (37) (by decide) (by decide) (fun z => by cases z.2)).trans hSS]
          refine qG.br (P := ((t : Nat) : Int) < ((S : Nat) : Int)) (pc1 := 65) (pc2 := 237) (st1 := []) rfl (fun hts => ?_) (fun hts => ?_)
          · skip
            refine qG.blk 1 (pc' := 66) (ls' := [(2, 95), (0, ((c : Nat) : Int)), (0, ((k9 : Nat) : Int)), (0, ((m : Nat) : Int)), (0, ((t : Nat) : Int)), x5, x6]) (st' := [(0, ((m : Nat) : Int))]) (w' := w8) (n' := 142) rfl ?_
            refine qG.br (P := 0 < ((m : Nat) : Int)) (pc1 := 69) (pc2 := 237) (st1 := []) rfl (fun hmp => ?_) (fun hmp => ?_)
            · skip
              refine qG.blk 4 (pc' := 74) (ls' := [(2, 95), (0, ((c : Nat) : Int)), (0, ((k9 : Nat) : Int)), (0, 0), (0, ((t : Nat) : Int)), (0, 0), x6]) (st' := []) (w' := w8) (n' := 142) rfl ?_
              have L74 : ∀ (m9 : Nat) (i m2 : Nat) (w7 : qW) (x6 : qV), N - i = m9 → (i ≤ N ∧ hdW w0 w7 ∧ (∀ j, j < N → w7 117 j = b01 (cF w0 t j)) ∧ (∀ j, j < i → w7 118 j = b01 (cF w0 (t + 1) j)) ∧ m2 = cntF (cF w0 (t + 1)) i ∧ m2 ≤ i) → qG none (d + 1) 257 74 [(2, 95), (0, ((c : Nat) : Int)), (0, ((k9 : Nat) : Int)), (0, ((m2 : Nat) : Int)), (0, ((t : Nat) : Int)), (0, ((i : Nat) : Int)), x6] [] w7 142 Q9 := by
                intro m9
                induction m9 using Nat.strongRecOn with
                | ind m9 ih74 =>
                intro i m2 w7 x6 hm74 hI74
                have hm2i := hm2 i
                refine qG.blk 3 (pc' := 80) (ls' := [(2, 95), (0, ((c : Nat) : Int)), (0, ((k9 : Nat) : Int)), (0, ((m2 : Nat) : Int)), (0, ((t : Nat) : Int)), (0, ((i : Nat) : Int)), x6]) (st' := [(0, w7 95 8), (0, ((i : Nat) : Int))]) (w' := w7) (n' := 142) rfl ?_
                rw [show w7 95 8 = ((N : Nat) : Int) from (hI74.2.1.1 95 (8) (by decide) (by decide) (fun z => by cases z.2)).trans hN]
                refine qG.br (P := ((i : Nat) : Int) < ((N : Nat) : Int)) (pc1 := 83) (pc2 := 189) (st1 := []) rfl (fun hiN => ?_) (fun hiN => ?_)
                · skip
                  refine qG.blk 2 (pc' := 87) (ls' := [(2, 95), (0, ((c : Nat) : Int)), (0, ((k9 : Nat) : Int)), (0, ((m2 : Nat) : Int)), (0, ((t : Nat) : Int)), (0, ((i : Nat) : Int)), x6]) (st' := [(2, w7 95 45)]) (w' := w7) (n' := 142) rfl ?_
                  rw [show w7 95 45 = 118 from zref hI74.2.1.2 rfl rfl]
                  refine qG.blk 2 (pc' := 90) (ls' := [(2, 95), (0, ((c : Nat) : Int)), (0, ((k9 : Nat) : Int)), (0, ((m2 : Nat) : Int)), (0, ((t : Nat) : Int)), (0, ((i : Nat) : Int)), x6]) (st' := [(0, 0), (0, ((i : Nat) : Int)), (2, 118)]) (w' := w7) (n' := 142) rfl ?_
                  refine qG.bst (m := 1820) rfl rfl (by omega) (by decide) ?_
                  show qG none (d + 1) 257 91 [(2, 95), (0, ((c : Nat) : Int)), (0, ((k9 : Nat) : Int)), (0, ((m2 : Nat) : Int)), (0, ((t : Nat) : Int)), (0, ((i : Nat) : Int)), x6] [] (qup w7 118 i 0) 142 Q9
                  refine qG.blk 2 (pc' := 94) (ls' := [(2, 95), (0, ((c : Nat) : Int)), (0, ((k9 : Nat) : Int)), (0, ((m2 : Nat) : Int)), (0, ((t : Nat) : Int)), (0, ((i : Nat) : Int)), (0, 0)]) (st' := []) (w' := (qup w7 118 i 0)) (n' := 142) rfl ?_
                  have L94 : ∀ (m9 : Nat) (k : Nat) (w6 : qW), 50 - k = m9 → ((k : Int) ≤ w0 102 i ∧ hdW w0 w6 ∧ (∀ j, j < N → w6 117 j = b01 (cF w0 t j)) ∧ (∀ j, j < i → w6 118 j = b01 (cF w0 (t + 1) j)) ∧ w6 118 i = b01 (clF w0 t i && anyF (cF w0 t) (nxF w0 i) k)) → qG none (d + 1) 257 94 [(2, 95), (0, ((c : Nat) : Int)), (0, ((k9 : Nat) : Int)), (0, ((m2 : Nat) : Int)), (0, ((t : Nat) : Int)), (0, ((i : Nat) : Int)), (0, ((k : Nat) : Int))] [] w6 142 Q9 := by
                    intro m9
                    induction m9 using Nat.strongRecOn with
                    | ind m9 ih94 =>
                    intro k w6 hm94 hI94
                    have hm2i := hm2 i
                    refine qG.blk 3 (pc' := 100) (ls' := [(2, 95), (0, ((c : Nat) : Int)), (0, ((k9 : Nat) : Int)), (0, ((m2 : Nat) : Int)), (0, ((t : Nat) : Int)), (0, ((i : Nat) : Int)), (0, ((k : Nat) : Int))]) (st' := [(2, w6 95 6), (0, ((k : Nat) : Int))]) (w' := w6) (n' := 142) rfl ?_
                    rw [show w6 95 6 = 102 from zref hI94.2.1.2 rfl rfl]
                    refine qG.blk 1 (pc' := 102) (ls' := [(2, 95), (0, ((c : Nat) : Int)), (0, ((k9 : Nat) : Int)), (0, ((m2 : Nat) : Int)), (0, ((t : Nat) : Int)), (0, ((i : Nat) : Int)), (0, ((k : Nat) : Int))]) (st' := [(0, ((i : Nat) : Int)), (2, 102), (0, ((k : Nat) : Int))]) (w' := w6) (n' := 142) rfl ?_
                    refine qG.ild (m := 1820) rfl rfl (by omega) (by decide) ?_
                    show qG none (d + 1) 257 103 [(2, 95), (0, ((c : Nat) : Int)), (0, ((k9 : Nat) : Int)), (0, ((m2 : Nat) : Int)), (0, ((t : Nat) : Int)), (0, ((i : Nat) : Int)), (0, ((k : Nat) : Int))] [(0, w6 102 i), (0, ((k : Nat) : Int))] w6 142 Q9
                    rw [show w6 102 i = w0 102 i from hI94.2.1.1 102 (i) (by decide) (by decide) (fun z => by cases z.1)]
                    refine qG.br (P := ((k : Nat) : Int) < w0 102 i) (pc1 := 106) (pc2 := 165) (st1 := []) rfl (fun hkm => ?_) (fun hkm => ?_)
                    · skip
                      have hnx : nxF w0 i k < N := nx_lt hA0.1 hS0 hN (by omega) hkm
                      refine qG.blk 2 (pc' := 110) (ls' := [(2, 95), (0, ((c : Nat) : Int)), (0, ((k9 : Nat) : Int)), (0, ((m2 : Nat) : Int)), (0, ((t : Nat) : Int)), (0, ((i : Nat) : Int)), (0, ((k : Nat) : Int))]) (st' := [(2, w6 95 45)]) (w' := w6) (n' := 142) rfl ?_
                      rw [show w6 95 45 = 118 from zref hI94.2.1.2 rfl rfl]
                      refine qG.blk 1 (pc' := 112) (ls' := [(2, 95), (0, ((c : Nat) : Int)), (0, ((k9 : Nat) : Int)), (0, ((m2 : Nat) : Int)), (0, ((t : Nat) : Int)), (0, ((i : Nat) : Int)), (0, ((k : Nat) : Int))]) (st' := [(0, ((i : Nat) : Int)), (2, 118)]) (w' := w6) (n' := 142) rfl ?_
                      refine qG.bld (m := 1820) rfl rfl (by omega) (by decide) ?_
                      show qG none (d + 1) 257 113 [(2, 95), (0, ((c : Nat) : Int)), (0, ((k9 : Nat) : Int)), (0, ((m2 : Nat) : Int)), (0, ((t : Nat) : Int)), (0, ((i : Nat) : Int)), (0, ((k : Nat) : Int))] [(0, w6 118 i)] w6 142 Q9
                      rw [show w6 118 i = b01 (clF w0 t i && anyF (cF w0 t) (nxF w0 i) k) from hI94.2.2.2.2]
                      refine qG.br (P := b01 (clF w0 t i && anyF (cF w0 t) (nxF w0 i) k) = 0) (pc1 := 116) (pc2 := 165) (st1 := []) rfl (fun htn => ?_) (fun htn => ?_)
                      · skip
                        refine qG.blk 2 (pc' := 120) (ls' := [(2, 95), (0, ((c : Nat) : Int)), (0, ((k9 : Nat) : Int)), (0, ((m2 : Nat) : Int)), (0, ((t : Nat) : Int)), (0, ((i : Nat) : Int)), (0, ((k : Nat) : Int))]) (st' := [(2, w6 95 5)]) (w' := w6) (n' := 142) rfl ?_
                        rw [show w6 95 5 = 101 from zref hI94.2.1.2 rfl rfl]
                        refine qG.blk 1 (pc' := 122) (ls' := [(2, 95), (0, ((c : Nat) : Int)), (0, ((k9 : Nat) : Int)), (0, ((m2 : Nat) : Int)), (0, ((t : Nat) : Int)), (0, ((i : Nat) : Int)), (0, ((k : Nat) : Int))]) (st' := [(0, ((i : Nat) : Int)), (2, 101)]) (w' := w6) (n' := 142) rfl ?_
                        refine qG.ild (m := 1820) rfl rfl (by omega) (by decide) ?_
                        show qG none (d + 1) 257 123 [(2, 95), (0, ((c : Nat) : Int)), (0, ((k9 : Nat) : Int)), (0, ((m2 : Nat) : Int)), (0, ((t : Nat) : Int)), (0, ((i : Nat) : Int)), (0, ((k : Nat) : Int))] [(0, w6 101 i)] w6 142 Q9
                        rw [show w6 101 i = w0 101 i from hI94.2.1.1 101 (i) (by decide) (by decide) (fun z => by cases z.1)]
                        refine qG.blk 2 (pc' := 127) (ls' := [(2, 95), (0, ((c : Nat) : Int)), (0, ((k9 : Nat) : Int)), (0, ((m2 : Nat) : Int)), (0, ((t : Nat) : Int)), (0, ((i : Nat) : Int)), (0, ((k : Nat) : Int))]) (st' := [(2, w6 95 36), (0, w0 101 i)]) (w' := w6) (n' := 142) rfl ?_
                        rw [show w6 95 36 = 116 from zref hI94.2.1.2 rfl rfl]
                        refine qG.blk 1 (pc' := 129) (ls' := [(2, 95), (0, ((c : Nat) : Int)), (0, ((k9 : Nat) : Int)), (0, ((m2 : Nat) : Int)), (0, ((t : Nat) : Int)), (0, ((i : Nat) : Int)), (0, ((k : Nat) : Int))]) (st' := [(0, ((t : Nat) : Int)), (2, 116), (0, w0 101 i)]) (w' := w6) (n' := 142) rfl ?_
                        refine qG.ild (m := 900) rfl rfl (by omega) (by decide) ?_
                        show qG none (d + 1) 257 130 [(2, 95), (0, ((c : Nat) : Int)), (0, ((k9 : Nat) : Int)), (0, ((m2 : Nat) : Int)), (0, ((t : Nat) : Int)), (0, ((i : Nat) : Int)), (0, ((k : Nat) : Int))] [(0, w6 116 t), (0, w0 101 i)] w6 142 Q9
                        rw [show w6 116 t = w0 116 t from hI94.2.1.1 116 (t) (by decide) (by decide) (fun z => by cases z.1)]
                        refine qG.blk 1 (pc' := 131) (ls' := [(2, 95), (0, ((c : Nat) : Int)), (0, ((k9 : Nat) : Int)), (0, ((m2 : Nat) : Int)), (0, ((t : Nat) : Int)), (0, ((i : Nat) : Int)), (0, ((k : Nat) : Int))]) (st' := [(0, qand (w0 101 i) (w0 116 t))]) (w' := w6) (n' := 142) rfl ?_
                        refine qG.br (P := qand (w0 101 i) (w0 116 t) = 0) (pc1 := 134) (pc2 := 165) (st1 := []) rfl (fun hcl => ?_) (fun hcl => ?_)
                        · skip
                          refine qG.blk 2 (pc' := 138) (ls' := [(2, 95), (0, ((c : Nat) : Int)), (0, ((k9 : Nat) : Int)), (0, ((m2 : Nat) : Int)), (0, ((t : Nat) : Int)), (0, ((i : Nat) : Int)), (0, ((k : Nat) : Int))]) (st' := [(2, w6 95 45)]) (w' := w6) (n' := 142) rfl ?_
                          rw [show w6 95 45 = 118 from zref hI94.2.1.2 rfl rfl]
                          refine qG.blk 3 (pc' := 144) (ls' := [(2, 95), (0, ((c : Nat) : Int)), (0, ((k9 : Nat) : Int)), (0, ((m2 : Nat) : Int)), (0, ((t : Nat) : Int)), (0, ((i : Nat) : Int)), (0, ((k : Nat) : Int))]) (st' := [(2, w6 95 44), (0, ((i : Nat) : Int)), (2, 118)]) (w' := w6) (n' := 142) rfl ?_
                          rw [show w6 95 44 = 117 from zref hI94.2.1.2 rfl rfl]
                          refine qG.blk 2 (pc' := 148) (ls' := [(2, 95), (0, ((c : Nat) : Int)), (0, ((k9 : Nat) : Int)), (0, ((m2 : Nat) : Int)), (0, ((t : Nat) : Int)), (0, ((i : Nat) : Int)), (0, ((k : Nat) : Int))]) (st' := [(2, w6 95 7), (2, 117), (0, ((i : Nat) : Int)), (2, 118)]) (w' := w6) (n' := 142) rfl ?_
                          rw [show w6 95 7 = 103 from zref hI94.2.1.2 rfl rfl]
                          refine qG.blk 3 (pc' := 153) (ls' := [(2, 95), (0, ((c : Nat) : Int)), (0, ((k9 : Nat) : Int)), (0, ((m2 : Nat) : Int)), (0, ((t : Nat) : Int)), (0, ((i : Nat) : Int)), (0, ((k : Nat) : Int))]) (st' := [(0, wrp (50 * ((i : Nat) : Int))), (2, 103), (2, 117), (0, ((i : Nat) : Int)), (2, 118)]) (w' := w6) (n' := 142) rfl ?_
                          rw [show wrp (50 * ((i : Nat) : Int)) = ((50 * i : Nat) : Int) from by rw [wrp_id (by omega) (by omega)]; omega]
                          refine qG.blk 2 (pc' := 156) (ls' := [(2, 95), (0, ((c : Nat) : Int)), (0, ((k9 : Nat) : Int)), (0, ((m2 : Nat) : Int)), (0, ((t : Nat) : Int)), (0, ((i : Nat) : Int)), (0, ((k : Nat) : Int))]) (st' := [(0, wrp (((50 * i : Nat) : Int) + ((k : Nat) : Int))), (2, 103), (2, 117), (0, ((i : Nat) : Int)), (2, 118)]) (w' := w6) (n' := 142) rfl ?_
                          rw [show wrp (((50 * i : Nat) : Int) + ((k : Nat) : Int)) = ((50 * i + k : Nat) : Int) from by rw [wrp_id (by omega) (by omega)]; omega]
                          refine qG.ild (m := 91000) rfl rfl (by omega) (by decide) ?_
                          show qG none (d + 1) 257 157 [(2, 95), (0, ((c : Nat) : Int)), (0, ((k9 : Nat) : Int)), (0, ((m2 : Nat) : Int)), (0, ((t : Nat) : Int)), (0, ((i : Nat) : Int)), (0, ((k : Nat) : Int))] [(0, w6 103 (50 * i + k)), (2, 117), (0, ((i : Nat) : Int)), (2, 118)] w6 142 Q9
                          rw [show w6 103 (50 * i + k) = ((nxF w0 i k : Nat) : Int) from (hI94.2.1.1 103 (50 * i + k) (by decide) (by decide) (fun z => by cases z.1)).trans (nx_e hA0.1 i k)]
                          refine qG.bld (m := 1820) rfl rfl (by omega) (by decide) ?_
                          show qG none (d + 1) 257 158 [(2, 95), (0, ((c : Nat) : Int)), (0, ((k9 : Nat) : Int)), (0, ((m2 : Nat) : Int)), (0, ((t : Nat) : Int)), (0, ((i : Nat) : Int)), (0, ((k : Nat) : Int))] [(0, w6 117 (nxF w0 i k)), (0, ((i : Nat) : Int)), (2, 118)] w6 142 Q9
                          rw [show w6 117 (nxF w0 i k) = b01 (cF w0 t (nxF w0 i k)) from hI94.2.2.1 _ hnx]
                          refine qG.bst (m := 1820) rfl rfl (by exact ⟨⟨by omega, by omega⟩, b01_in _⟩) (by decide) ?_
                          show qG none (d + 1) 257 159 [(2, 95), (0, ((c : Nat) : Int)), (0, ((k9 : Nat) : Int)), (0, ((m2 : Nat) : Int)), (0, ((t : Nat) : Int)), (0, ((i : Nat) : Int)), (0, ((k : Nat) : Int))] [] (qup w6 118 i (b01 (cF w0 t (nxF w0 i k)))) 142 Q9
                          refine qG.blk 1 (pc' := 162) (ls' := [(2, 95), (0, ((c : Nat) : Int)), (0, ((k9 : Nat) : Int)), (0, ((m2 : Nat) : Int)), (0, ((t : Nat) : Int)), (0, ((i : Nat) : Int)), (0, wrp (((k : Nat) : Int) + 1))]) (st' := []) (w' := (qup w6 118 i (b01 (cF w0 t (nxF w0 i k))))) (n' := 142) rfl ?_
                          rw [show wrp (((k : Nat) : Int) + 1) = ((k + 1 : Nat) : Int) from wrp_id (by omega) (by omega)]
                          refine qG.blk 1 (pc' := 94) (ls' := [(2, 95), (0, ((c : Nat) : Int)), (0, ((k9 : Nat) : Int)), (0, ((m2 : Nat) : Int)), (0, ((t : Nat) : Int)), (0, ((i : Nat) : Int)), (0, ((k + 1 : Nat) : Int))]) (st' := []) (w' := (qup w6 118 i (b01 (cF w0 t (nxF w0 i k))))) (n' := 142) rfl ?_
                          exact ih94 _ (by omega) (k + 1) ((qup w6 118 i (b01 (cF w0 t (nxF w0 i k))))) rfl (⟨by omega, hdW.u118 hI94.2.1 (b01_in _), fun j hj => by rw [qup_ne (by decide)]; exact hI94.2.2.1 j hj, rows.ke (f := fun j => b01 (cF w0 (t + 1) j)) hI94.2.2.2.1 (Nat.le_refl _), by rw [qup_k]; exact hd_S hcl (b01_0 htn)⟩)
                        · skip
                          have hE := hd_E (t := t) hA0.1 hI94.1 (.inr (.inr (decide_eq_false hcl)))
                          refine qG.blk 3 (pc' := 170) (ls' := [(2, 95), (0, ((c : Nat) : Int)), (0, ((k9 : Nat) : Int)), (0, ((m2 : Nat) : Int)), (0, ((t : Nat) : Int)), (0, ((i : Nat) : Int)), (0, ((k : Nat) : Int))]) (st' := [(2, w6 95 45), (0, ((m2 : Nat) : Int))]) (w' := w6) (n' := 142) rfl ?_
                          rw [show w6 95 45 = 118 from zref hI94.2.1.2 rfl rfl]
                          refine qG.blk 1 (pc' := 172) (ls' := [(2, 95), (0, ((c : Nat) : Int)), (0, ((k9 : Nat) : Int)), (0, ((m2 : Nat) : Int)), (0, ((t : Nat) : Int)), (0, ((i : Nat) : Int)), (0, ((k : Nat) : Int))]) (st' := [(0, ((i : Nat) : Int)), (2, 118), (0, ((m2 : Nat) : Int))]) (w' := w6) (n' := 142) rfl ?_
                          refine qG.bld (m := 1820) rfl rfl (by omega) (by decide) ?_
                          show qG none (d + 1) 257 173 [(2, 95), (0, ((c : Nat) : Int)), (0, ((k9 : Nat) : Int)), (0, ((m2 : Nat) : Int)), (0, ((t : Nat) : Int)), (0, ((i : Nat) : Int)), (0, ((k : Nat) : Int))] [(0, w6 118 i), (0, ((m2 : Nat) : Int))] w6 142 Q9
                          rw [show w6 118 i = b01 (clF w0 t i && anyF (cF w0 t) (nxF w0 i) k) from hI94.2.2.2.2]
                          refine qG.br (P := b01 (clF w0 t i && anyF (cF w0 t) (nxF w0 i) k) = 0) (pc1 := 180) (pc2 := 176) (st1 := [(0, ((m2 : Nat) : Int))]) rfl (fun hth => ?_) (fun hth => ?_)
                          · skip
                            refine qG.blk 2 (pc' := 182) (ls' := [(2, 95), (0, ((c : Nat) : Int)), (0, ((k9 : Nat) : Int)), (0, ((m2 : Nat) : Int)), (0, ((t : Nat) : Int)), (0, ((i : Nat) : Int)), (0, ((k : Nat) : Int))]) (st' := [(0, wrp (((m2 : Nat) : Int) + 0))]) (w' := w6) (n' := 142) rfl ?_
                            rw [show wrp (((m2 : Nat) : Int) + 0) = ((m2 + 0 : Nat) : Int) from by rw [wrp_id (by omega) (by omega)]; omega]
                            refine qG.blk 2 (pc' := 186) (ls' := [(2, 95), (0, ((c : Nat) : Int)), (0, ((k9 : Nat) : Int)), (0, ((m2 + 0 : Nat) : Int)), (0, ((t : Nat) : Int)), (0, wrp (((i : Nat) : Int) + 1)), (0, ((k : Nat) : Int))]) (st' := []) (w' := w6) (n' := 142) rfl ?_
                            rw [show wrp (((i : Nat) : Int) + 1) = ((i + 1 : Nat) : Int) from wrp_id (by omega) (by omega)]
                            refine qG.blk 1 (pc' := 74) (ls' := [(2, 95), (0, ((c : Nat) : Int)), (0, ((k9 : Nat) : Int)), (0, ((m2 + 0 : Nat) : Int)), (0, ((t : Nat) : Int)), (0, ((i + 1 : Nat) : Int)), (0, ((k : Nat) : Int))]) (st' := []) (w' := w6) (n' := 142) rfl ?_
                            exact ih74 _ (by omega) (i + 1) (m2 + 0) (w6) ((0, ((k : Nat) : Int))) rfl (⟨by omega, hI94.2.1, hI94.2.2.1, rows.e1 (f := fun j => b01 (cF w0 (t + 1) j)) hI94.2.2.2.1 (by rw [hI94.2.2.2.2, hE]), by first | (rw [cntF_n (by rw [← hE]; exact b01_0 hth)]; omega) | (rw [cntF_y (by rw [← hE]; exact b01_1 hth)]; omega), by omega⟩)
                          · skip
                            refine qG.blk 3 (pc' := 182) (ls' := [(2, 95), (0, ((c : Nat) : Int)), (0, ((k9 : Nat) : Int)), (0, ((m2 : Nat) : Int)), (0, ((t : Nat) : Int)), (0, ((i : Nat) : Int)), (0, ((k : Nat) : Int))]) (st' := [(0, wrp (((m2 : Nat) : Int) + 1))]) (w' := w6) (n' := 142) rfl ?_
                            rw [show wrp (((m2 : Nat) : Int) + 1) = ((m2 + 1 : Nat) : Int) from by rw [wrp_id (by omega) (by omega)]; omega]
                            refine qG.blk 2 (pc' := 186) (ls' := [(2, 95), (0, ((c : Nat) : Int)), (0, ((k9 : Nat) : Int)), (0, ((m2 + 1 : Nat) : Int)), (0, ((t : Nat) : Int)), (0, wrp (((i : Nat) : Int) + 1)), (0, ((k : Nat) : Int))]) (st' := []) (w' := w6) (n' := 142) rfl ?_
                            rw [show wrp (((i : Nat) : Int) + 1) = ((i + 1 : Nat) : Int) from wrp_id (by omega) (by omega)]
                            refine qG.blk 1 (pc' := 74) (ls' := [(2, 95), (0, ((c : Nat) : Int)), (0, ((k9 : Nat) : Int)), (0, ((m2 + 1 : Nat) : Int)), (0, ((t : Nat) : Int)), (0, ((i + 1 : Nat) : Int)), (0, ((k : Nat) : Int))]) (st' := []) (w' := w6) (n' := 142) rfl ?_
                            exact ih74 _ (by omega) (i + 1) (m2 + 1) (w6) ((0, ((k : Nat) : Int))) rfl (⟨by omega, hI94.2.1, hI94.2.2.1, rows.e1 (f := fun j => b01 (cF w0 (t + 1) j)) hI94.2.2.2.1 (by rw [hI94.2.2.2.2, hE]), by first | (rw [cntF_n (by rw [← hE]; exact b01_0 hth)]; omega) | (rw [cntF_y (by rw [← hE]; exact b01_1 hth)]; omega), by omega⟩)
                      · skip
                        have hE := hd_E (t := t) hA0.1 hI94.1 (.inr (.inl (b01_1 htn)))
                        refine qG.blk 3 (pc' := 170) (ls' := [(2, 95), (0, ((c : Nat) : Int)), (0, ((k9 : Nat) : Int)), (0, ((m2 : Nat) : Int)), (0, ((t : Nat) : Int)), (0, ((i : Nat) : Int)), (0, ((k : Nat) : Int))]) (st' := [(2, w6 95 45), (0, ((m2 : Nat) : Int))]) (w' := w6) (n' := 142) rfl ?_
                        rw [show w6 95 45 = 118 from zref hI94.2.1.2 rfl rfl]
                        refine qG.blk 1 (pc' := 172) (ls' := [(2, 95), (0, ((c : Nat) : Int)), (0, ((k9 : Nat) : Int)), (0, ((m2 : Nat) : Int)), (0, ((t : Nat) : Int)), (0, ((i : Nat) : Int)), (0, ((k : Nat) : Int))]) (st' := [(0, ((i : Nat) : Int)), (2, 118), (0, ((m2 : Nat) : Int))]) (w' := w6) (n' := 142) rfl ?_
                        refine qG.bld (m := 1820) rfl rfl (by omega) (by decide) ?_
                        show qG none (d + 1) 257 173 [(2, 95), (0, ((c : Nat) : Int)), (0, ((k9 : Nat) : Int)), (0, ((m2 : Nat) : Int)), (0, ((t : Nat) : Int)), (0, ((i : Nat) : Int)), (0, ((k : Nat) : Int))] [(0, w6 118 i), (0, ((m2 : Nat) : Int))] w6 142 Q9
                        rw [show w6 118 i = b01 (clF w0 t i && anyF (cF w0 t) (nxF w0 i) k) from hI94.2.2.2.2]
                        refine qG.br (P := b01 (clF w0 t i && anyF (cF w0 t) (nxF w0 i) k) = 0) (pc1 := 180) (pc2 := 176) (st1 := [(0, ((m2 : Nat) : Int))]) rfl (fun hth => ?_) (fun hth => ?_)
                        · skip
                          refine qG.blk 2 (pc' := 182) (ls' := [(2, 95), (0, ((c : Nat) : Int)), (0, ((k9 : Nat) : Int)), (0, ((m2 : Nat) : Int)), (0, ((t : Nat) : Int)), (0, ((i : Nat) : Int)), (0, ((k : Nat) : Int))]) (st' := [(0, wrp (((m2 : Nat) : Int) + 0))]) (w' := w6) (n' := 142) rfl ?_
                          rw [show wrp (((m2 : Nat) : Int) + 0) = ((m2 + 0 : Nat) : Int) from by rw [wrp_id (by omega) (by omega)]; omega]
                          refine qG.blk 2 (pc' := 186) (ls' := [(2, 95), (0, ((c : Nat) : Int)), (0, ((k9 : Nat) : Int)), (0, ((m2 + 0 : Nat) : Int)), (0, ((t : Nat) : Int)), (0, wrp (((i : Nat) : Int) + 1)), (0, ((k : Nat) : Int))]) (st' := []) (w' := w6) (n' := 142) rfl ?_
                          rw [show wrp (((i : Nat) : Int) + 1) = ((i + 1 : Nat) : Int) from wrp_id (by omega) (by omega)]
                          refine qG.blk 1 (pc' := 74) (ls' := [(2, 95), (0, ((c : Nat) : Int)), (0, ((k9 : Nat) : Int)), (0, ((m2 + 0 : Nat) : Int)), (0, ((t : Nat) : Int)), (0, ((i + 1 : Nat) : Int)), (0, ((k : Nat) : Int))]) (st' := []) (w' := w6) (n' := 142) rfl ?_
                          exact ih74 _ (by omega) (i + 1) (m2 + 0) (w6) ((0, ((k : Nat) : Int))) rfl (⟨by omega, hI94.2.1, hI94.2.2.1, rows.e1 (f := fun j => b01 (cF w0 (t + 1) j)) hI94.2.2.2.1 (by rw [hI94.2.2.2.2, hE]), by first | (rw [cntF_n (by rw [← hE]; exact b01_0 hth)]; omega) | (rw [cntF_y (by rw [← hE]; exact b01_1 hth)]; omega), by omega⟩)
                        · skip
                          refine qG.blk 3 (pc' := 182) (ls' := [(2, 95), (0, ((c : Nat) : Int)), (0, ((k9 : Nat) : Int)), (0, ((m2 : Nat) : Int)), (0, ((t : Nat) : Int)), (0, ((i : Nat) : Int)), (0, ((k : Nat) : Int))]) (st' := [(0, wrp (((m2 : Nat) : Int) + 1))]) (w' := w6) (n' := 142) rfl ?_
                          rw [show wrp (((m2 : Nat) : Int) + 1) = ((m2 + 1 : Nat) : Int) from by rw [wrp_id (by omega) (by omega)]; omega]
                          refine qG.blk 2 (pc' := 186) (ls' := [(2, 95), (0, ((c : Nat) : Int)), (0, ((k9 : Nat) : Int)), (0, ((m2 + 1 : Nat) : Int)), (0, ((t : Nat) : Int)), (0, wrp (((i : Nat) : Int) + 1)), (0, ((k : Nat) : Int))]) (st' := []) (w' := w6) (n' := 142) rfl ?_
                          rw [show wrp (((i : Nat) : Int) + 1) = ((i + 1 : Nat) : Int) from wrp_id (by omega) (by omega)]
                          refine qG.blk 1 (pc' := 74) (ls' := [(2, 95), (0, ((c : Nat) : Int)), (0, ((k9 : Nat) : Int)), (0, ((m2 + 1 : Nat) : Int)), (0, ((t : Nat) : Int)), (0, ((i + 1 : Nat) : Int)), (0, ((k : Nat) : Int))]) (st' := []) (w' := w6) (n' := 142) rfl ?_
                          exact ih74 _ (by omega) (i + 1) (m2 + 1) (w6) ((0, ((k : Nat) : Int))) rfl (⟨by omega, hI94.2.1, hI94.2.2.1, rows.e1 (f := fun j => b01 (cF w0 (t + 1) j)) hI94.2.2.2.1 (by rw [hI94.2.2.2.2, hE]), by first | (rw [cntF_n (by rw [← hE]; exact b01_0 hth)]; omega) | (rw [cntF_y (by rw [← hE]; exact b01_1 hth)]; omega), by omega⟩)
                    · skip
                      have hE := hd_E (t := t) hA0.1 hI94.1 (.inl hkm)
                      refine qG.blk 3 (pc' := 170) (ls' := [(2, 95), (0, ((c : Nat) : Int)), (0, ((k9 : Nat) : Int)), (0, ((m2 : Nat) : Int)), (0, ((t : Nat) : Int)), (0, ((i : Nat) : Int)), (0, ((k : Nat) : Int))]) (st' := [(2, w6 95 45), (0, ((m2 : Nat) : Int))]) (w' := w6) (n' := 142) rfl ?_
                      rw [show w6 95 45 = 118 from zref hI94.2.1.2 rfl rfl]
                      refine qG.blk 1 (pc' := 172) (ls' := [(2, 95), (0, ((c : Nat) : Int)), (0, ((k9 : Nat) : Int)), (0, ((m2 : Nat) : Int)), (0, ((t : Nat) : Int)), (0, ((i : Nat) : Int)), (0, ((k : Nat) : Int))]) (st' := [(0, ((i : Nat) : Int)), (2, 118), (0, ((m2 : Nat) : Int))]) (w' := w6) (n' := 142) rfl ?_
                      refine qG.bld (m := 1820) rfl rfl (by omega) (by decide) ?_
                      show qG none (d + 1) 257 173 [(2, 95), (0, ((c : Nat) : Int)), (0, ((k9 : Nat) : Int)), (0, ((m2 : Nat) : Int)), (0, ((t : Nat) : Int)), (0, ((i : Nat) : Int)), (0, ((k : Nat) : Int))] [(0, w6 118 i), (0, ((m2 : Nat) : Int))] w6 142 Q9
                      rw [show w6 118 i = b01 (clF w0 t i && anyF (cF w0 t) (nxF w0 i) k) from hI94.2.2.2.2]
                      refine qG.br (P := b01 (clF w0 t i && anyF (cF w0 t) (nxF w0 i) k) = 0) (pc1 := 180) (pc2 := 176) (st1 := [(0, ((m2 : Nat) : Int))]) rfl (fun hth => ?_) (fun hth => ?_)
                      · skip
                        refine qG.blk 2 (pc' := 182) (ls' := [(2, 95), (0, ((c : Nat) : Int)), (0, ((k9 : Nat) : Int)), (0, ((m2 : Nat) : Int)), (0, ((t : Nat) : Int)), (0, ((i : Nat) : Int)), (0, ((k : Nat) : Int))]) (st' := [(0, wrp (((m2 : Nat) : Int) + 0))]) (w' := w6) (n' := 142) rfl ?_
                        rw [show wrp (((m2 : Nat) : Int) + 0) = ((m2 + 0 : Nat) : Int) from by rw [wrp_id (by omega) (by omega)]; omega]
                        refine qG.blk 2 (pc' := 186) (ls' := [(2, 95), (0, ((c : Nat) : Int)), (0, ((k9 : Nat) : Int)), (0, ((m2 + 0 : Nat) : Int)), (0, ((t : Nat) : Int)), (0, wrp (((i : Nat) : Int) + 1)), (0, ((k : Nat) : Int))]) (st' := []) (w' := w6) (n' := 142) rfl ?_
                        rw [show wrp (((i : Nat) : Int) + 1) = ((i + 1 : Nat) : Int) from wrp_id (by omega) (by omega)]
                        refine qG.blk 1 (pc' := 74) (ls' := [(2, 95), (0, ((c : Nat) : Int)), (0, ((k9 : Nat) : Int)), (0, ((m2 + 0 : Nat) : Int)), (0, ((t : Nat) : Int)), (0, ((i + 1 : Nat) : Int)), (0, ((k : Nat) : Int))]) (st' := []) (w' := w6) (n' := 142) rfl ?_
                        exact ih74 _ (by omega) (i + 1) (m2 + 0) (w6) ((0, ((k : Nat) : Int))) rfl (⟨by omega, hI94.2.1, hI94.2.2.1, rows.e1 (f := fun j => b01 (cF w0 (t + 1) j)) hI94.2.2.2.1 (by rw [hI94.2.2.2.2, hE]), by first | (rw [cntF_n (by rw [← hE]; exact b01_0 hth)]; omega) | (rw [cntF_y (by rw [← hE]; exact b01_1 hth)]; omega), by omega⟩)
                      · skip
                        refine qG.blk 3 (pc' := 182) (ls' := [(2, 95), (0, ((c : Nat) : Int)), (0, ((k9 : Nat) : Int)), (0, ((m2 : Nat) : Int)), (0, ((t : Nat) : Int)), (0, ((i : Nat) : Int)), (0, ((k : Nat) : Int))]) (st' := [(0, wrp (((m2 : Nat) : Int) + 1))]) (w' := w6) (n' := 142) rfl ?_
                        rw [show wrp (((m2 : Nat) : Int) + 1) = ((m2 + 1 : Nat) : Int) from by rw [wrp_id (by omega) (by omega)]; omega]
                        refine qG.blk 2 (pc' := 186) (ls' := [(2, 95), (0, ((c : Nat) : Int)), (0, ((k9 : Nat) : Int)), (0, ((m2 + 1 : Nat) : Int)), (0, ((t : Nat) : Int)), (0, wrp (((i : Nat) : Int) + 1)), (0, ((k : Nat) : Int))]) (st' := []) (w' := w6) (n' := 142) rfl ?_
                        rw [show wrp (((i : Nat) : Int) + 1) = ((i + 1 : Nat) : Int) from wrp_id (by omega) (by omega)]
                        refine qG.blk 1 (pc' := 74) (ls' := [(2, 95), (0, ((c : Nat) : Int)), (0, ((k9 : Nat) : Int)), (0, ((m2 + 1 : Nat) : Int)), (0, ((t : Nat) : Int)), (0, ((i + 1 : Nat) : Int)), (0, ((k : Nat) : Int))]) (st' := []) (w' := w6) (n' := 142) rfl ?_
                        exact ih74 _ (by omega) (i + 1) (m2 + 1) (w6) ((0, ((k : Nat) : Int))) rfl (⟨by omega, hI94.2.1, hI94.2.2.1, rows.e1 (f := fun j => b01 (cF w0 (t + 1) j)) hI94.2.2.2.1 (by rw [hI94.2.2.2.2, hE]), by first | (rw [cntF_n (by rw [← hE]; exact b01_0 hth)]; omega) | (rw [cntF_y (by rw [← hE]; exact b01_1 hth)]; omega), by omega⟩)
                  exact L94 _ (0) ((qup w7 118 i 0)) rfl (⟨by omega, hdW.u118 hI74.2.1 (by decide), fun j hj => by rw [qup_ne (by decide)]; exact hI74.2.2.1 j hj, rows.ke (f := fun j => b01 (cF w0 (t + 1) j)) hI74.2.2.2.1 (Nat.le_refl _), by rw [qup_k]; show (0 : Int) = b01 (_ && false); rw [Bool.and_false]; rfl⟩)
                · skip
                  refine qG.blk 1 (pc' := 190) (ls' := [(2, 95), (0, ((c : Nat) : Int)), (0, ((k9 : Nat) : Int)), (0, ((m2 : Nat) : Int)), (0, ((t : Nat) : Int)), (0, ((i : Nat) : Int)), x6]) (st' := [(0, ((m2 : Nat) : Int))]) (w' := w7) (n' := 142) rfl ?_
                  refine qG.br (P := ((m2 : Nat) : Int) = 0) (pc1 := 193) (pc2 := 199) (st1 := []) rfl (fun hz => ?_) (fun hz => ?_)
                  · skip
                    refine qG.blk 5 (pc' := 202) (ls' := [(2, 95), (0, ((c : Nat) : Int)), (0, ((k9 : Nat) : Int)), (0, ((m2 : Nat) : Int)), (0, ((t : Nat) : Int)), (0, 0), x6]) (st' := []) (w' := (qup w7 95 46 ((t : Nat) : Int))) (n' := 142) rfl ?_
                    have L202 : ∀ (m9 : Nat) (i2 : Nat) (w5 : qW), N - i2 = m9 → (i2 ≤ N ∧ hdW w0 w5 ∧ (∀ j, j < N → w5 118 j = b01 (cF w0 (t + 1) j)) ∧ (∀ j, j < i2 → w5 117 j = b01 (cF w0 (t + 1) j))) → qG none (d + 1) 257 202 [(2, 95), (0, ((c : Nat) : Int)), (0, ((k9 : Nat) : Int)), (0, ((m2 : Nat) : Int)), (0, ((t : Nat) : Int)), (0, ((i2 : Nat) : Int)), x6] [] w5 142 Q9 := by
                      intro m9
                      induction m9 using Nat.strongRecOn with
                      | ind m9 ih202 =>
                      intro i2 w5 hm202 hI202
                      refine qG.blk 3 (pc' := 208) (ls' := [(2, 95), (0, ((c : Nat) : Int)), (0, ((k9 : Nat) : Int)), (0, ((m2 : Nat) : Int)), (0, ((t : Nat) : Int)), (0, ((i2 : Nat) : Int)), x6]) (st' := [(0, w5 95 8), (0, ((i2 : Nat) : Int))]) (w' := w5) (n' := 142) rfl ?_
                      rw [show w5 95 8 = ((N : Nat) : Int) from (hI202.2.1.1 95 (8) (by decide) (by decide) (fun z => by cases z.2)).trans hN]
                      refine qG.br (P := ((i2 : Nat) : Int) < ((N : Nat) : Int)) (pc1 := 211) (pc2 := 231) (st1 := []) rfl (fun h3 => ?_) (fun h3 => ?_)
                      · skip
                        refine qG.blk 2 (pc' := 215) (ls' := [(2, 95), (0, ((c : Nat) : Int)), (0, ((k9 : Nat) : Int)), (0, ((m2 : Nat) : Int)), (0, ((t : Nat) : Int)), (0, ((i2 : Nat) : Int)), x6]) (st' := [(2, w5 95 44)]) (w' := w5) (n' := 142) rfl ?_
                        rw [show w5 95 44 = 117 from zref hI202.2.1.2 rfl rfl]
                        refine qG.blk 3 (pc' := 221) (ls' := [(2, 95), (0, ((c : Nat) : Int)), (0, ((k9 : Nat) : Int)), (0, ((m2 : Nat) : Int)), (0, ((t : Nat) : Int)), (0, ((i2 : Nat) : Int)), x6]) (st' := [(2, w5 95 45), (0, ((i2 : Nat) : Int)), (2, 117)]) (w' := w5) (n' := 142) rfl ?_
                        rw [show w5 95 45 = 118 from zref hI202.2.1.2 rfl rfl]
                        refine qG.blk 1 (pc' := 223) (ls' := [(2, 95), (0, ((c : Nat) : Int)), (0, ((k9 : Nat) : Int)), (0, ((m2 : Nat) : Int)), (0, ((t : Nat) : Int)), (0, ((i2 : Nat) : Int)), x6]) (st' := [(0, ((i2 : Nat) : Int)), (2, 118), (0, ((i2 : Nat) : Int)), (2, 117)]) (w' := w5) (n' := 142) rfl ?_
                        refine qG.bld (m := 1820) rfl rfl (by omega) (by decide) ?_
                        show qG none (d + 1) 257 224 [(2, 95), (0, ((c : Nat) : Int)), (0, ((k9 : Nat) : Int)), (0, ((m2 : Nat) : Int)), (0, ((t : Nat) : Int)), (0, ((i2 : Nat) : Int)), x6] [(0, w5 118 i2), (0, ((i2 : Nat) : Int)), (2, 117)] w5 142 Q9
                        rw [show w5 118 i2 = b01 (cF w0 (t + 1) i2) from hI202.2.2.1 _ (by omega)]
                        refine qG.bst (m := 1820) rfl rfl (by exact ⟨⟨by omega, by omega⟩, b01_in _⟩) (by decide) ?_
                        show qG none (d + 1) 257 225 [(2, 95), (0, ((c : Nat) : Int)), (0, ((k9 : Nat) : Int)), (0, ((m2 : Nat) : Int)), (0, ((t : Nat) : Int)), (0, ((i2 : Nat) : Int)), x6] [] (qup w5 117 i2 (b01 (cF w0 (t + 1) i2))) 142 Q9
                        refine qG.blk 1 (pc' := 228) (ls' := [(2, 95), (0, ((c : Nat) : Int)), (0, ((k9 : Nat) : Int)), (0, ((m2 : Nat) : Int)), (0, ((t : Nat) : Int)), (0, wrp (((i2 : Nat) : Int) + 1)), x6]) (st' := []) (w' := (qup w5 117 i2 (b01 (cF w0 (t + 1) i2)))) (n' := 142) rfl ?_
                        rw [show wrp (((i2 : Nat) : Int) + 1) = ((i2 + 1 : Nat) : Int) from wrp_id (by omega) (by omega)]
                        refine qG.blk 1 (pc' := 202) (ls' := [(2, 95), (0, ((c : Nat) : Int)), (0, ((k9 : Nat) : Int)), (0, ((m2 : Nat) : Int)), (0, ((t : Nat) : Int)), (0, ((i2 + 1 : Nat) : Int)), x6]) (st' := []) (w' := (qup w5 117 i2 (b01 (cF w0 (t + 1) i2)))) (n' := 142) rfl ?_
                        exact ih202 _ (by omega) (i2 + 1) ((qup w5 117 i2 (b01 (cF w0 (t + 1) i2)))) rfl (⟨by omega, hdW.u117 hI202.2.1 (b01_in _), fun j hj => by rw [qup_ne (by decide)]; exact hI202.2.2.1 j hj, rows.nx (f := fun j => b01 (cF w0 (t + 1) j)) hI202.2.2.2 rfl⟩)
                      · skip
                        refine qG.blk 1 (pc' := 234) (ls' := [(2, 95), (0, ((c : Nat) : Int)), (0, ((k9 : Nat) : Int)), (0, ((m2 : Nat) : Int)), (0, wrp (((t : Nat) : Int) + 1)), (0, ((i2 : Nat) : Int)), x6]) (st' := []) (w' := w5) (n' := 142) rfl ?_
                        rw [show wrp (((t : Nat) : Int) + 1) = ((t + 1 : Nat) : Int) from wrp_id (by omega) (by omega)]
                        refine qG.blk 1 (pc' := 56) (ls' := [(2, 95), (0, ((c : Nat) : Int)), (0, ((k9 : Nat) : Int)), (0, ((m2 : Nat) : Int)), (0, ((t + 1 : Nat) : Int)), (0, ((i2 : Nat) : Int)), x6]) (st' := []) (w' := w5) (n' := 142) rfl ?_
                        exact ih56 _ (by omega) (t + 1) (m2) (w5) ((0, ((i2 : Nat) : Int))) (x6) rfl (⟨by omega, hI202.2.1, fun j hj => hI202.2.2.2 j (by omega), by rw [hI74.2.2.2.2.1, show i = N by omega]⟩)
                    exact L202 _ (0) ((qup w7 95 46 ((t : Nat) : Int))) rfl (⟨by omega, by first | exact hI74.2.1 | exact hI74.2.1.u46 (by omega) (by omega), fun j hj => by first | exact hI74.2.2.2.1 j (by omega) | (rw [qup_ne (by decide)]; exact hI74.2.2.2.1 j (by omega)), fun j hj => absurd hj (Nat.not_lt_zero j)⟩)
                  · skip
                    refine qG.blk 2 (pc' := 202) (ls' := [(2, 95), (0, ((c : Nat) : Int)), (0, ((k9 : Nat) : Int)), (0, ((m2 : Nat) : Int)), (0, ((t : Nat) : Int)), (0, 0), x6]) (st' := []) (w' := w7) (n' := 142) rfl ?_
                    have L202_1 : ∀ (m9 : Nat) (i2 : Nat) (w5 : qW), N - i2 = m9 → (i2 ≤ N ∧ hdW w0 w5 ∧ (∀ j, j < N → w5 118 j = b01 (cF w0 (t + 1) j)) ∧ (∀ j, j < i2 → w5 117 j = b01 (cF w0 (t + 1) j))) → qG none (d + 1) 257 202 [(2, 95), (0, ((c : Nat) : Int)), (0, ((k9 : Nat) : Int)), (0, ((m2 : Nat) : Int)), (0, ((t : Nat) : Int)), (0, ((i2 : Nat) : Int)), x6] [] w5 142 Q9 := by
                      intro m9
                      induction m9 using Nat.strongRecOn with
                      | ind m9 ih202 =>
                      intro i2 w5 hm202 hI202
                      refine qG.blk 3 (pc' := 208) (ls' := [(2, 95), (0, ((c : Nat) : Int)), (0, ((k9 : Nat) : Int)), (0, ((m2 : Nat) : Int)), (0, ((t : Nat) : Int)), (0, ((i2 : Nat) : Int)), x6]) (st' := [(0, w5 95 8), (0, ((i2 : Nat) : Int))]) (w' := w5) (n' := 142) rfl ?_
                      rw [show w5 95 8 = ((N : Nat) : Int) from (hI202.2.1.1 95 (8) (by decide) (by decide) (fun z => by cases z.2)).trans hN]
                      refine qG.br (P := ((i2 : Nat) : Int) < ((N : Nat) : Int)) (pc1 := 211) (pc2 := 231) (st1 := []) rfl (fun h4 => ?_) (fun h4 => ?_)
                      · skip
                        refine qG.blk 2 (pc' := 215) (ls' := [(2, 95), (0, ((c : Nat) : Int)), (0, ((k9 : Nat) : Int)), (0, ((m2 : Nat) : Int)), (0, ((t : Nat) : Int)), (0, ((i2 : Nat) : Int)), x6]) (st' := [(2, w5 95 44)]) (w' := w5) (n' := 142) rfl ?_
                        rw [show w5 95 44 = 117 from zref hI202.2.1.2 rfl rfl]
                        refine qG.blk 3 (pc' := 221) (ls' := [(2, 95), (0, ((c : Nat) : Int)), (0, ((k9 : Nat) : Int)), (0, ((m2 : Nat) : Int)), (0, ((t : Nat) : Int)), (0, ((i2 : Nat) : Int)), x6]) (st' := [(2, w5 95 45), (0, ((i2 : Nat) : Int)), (2, 117)]) (w' := w5) (n' := 142) rfl ?_
                        rw [show w5 95 45 = 118 from zref hI202.2.1.2 rfl rfl]
                        refine qG.blk 1 (pc' := 223) (ls' := [(2, 95), (0, ((c : Nat) : Int)), (0, ((k9 : Nat) : Int)), (0, ((m2 : Nat) : Int)), (0, ((t : Nat) : Int)), (0, ((i2 : Nat) : Int)), x6]) (st' := [(0, ((i2 : Nat) : Int)), (2, 118), (0, ((i2 : Nat) : Int)), (2, 117)]) (w' := w5) (n' := 142) rfl ?_
                        refine qG.bld (m := 1820) rfl rfl (by omega) (by decide) ?_
                        show qG none (d + 1) 257 224 [(2, 95), (0, ((c : Nat) : Int)), (0, ((k9 : Nat) : Int)), (0, ((m2 : Nat) : Int)), (0, ((t : Nat) : Int)), (0, ((i2 : Nat) : Int)), x6] [(0, w5 118 i2), (0, ((i2 : Nat) : Int)), (2, 117)] w5 142 Q9
                        rw [show w5 118 i2 = b01 (cF w0 (t + 1) i2) from hI202.2.2.1 _ (by omega)]
                        refine qG.bst (m := 1820) rfl rfl (by exact ⟨⟨by omega, by omega⟩, b01_in _⟩) (by decide) ?_
                        show qG none (d + 1) 257 225 [(2, 95), (0, ((c : Nat) : Int)), (0, ((k9 : Nat) : Int)), (0, ((m2 : Nat) : Int)), (0, ((t : Nat) : Int)), (0, ((i2 : Nat) : Int)), x6] [] (qup w5 117 i2 (b01 (cF w0 (t + 1) i2))) 142 Q9
                        refine qG.blk 1 (pc' := 228) (ls' := [(2, 95), (0, ((c : Nat) : Int)), (0, ((k9 : Nat) : Int)), (0, ((m2 : Nat) : Int)), (0, ((t : Nat) : Int)), (0, wrp (((i2 : Nat) : Int) + 1)), x6]) (st' := []) (w' := (qup w5 117 i2 (b01 (cF w0 (t + 1) i2)))) (n' := 142) rfl ?_
                        rw [show wrp (((i2 : Nat) : Int) + 1) = ((i2 + 1 : Nat) : Int) from wrp_id (by omega) (by omega)]
                        refine qG.blk 1 (pc' := 202) (ls' := [(2, 95), (0, ((c : Nat) : Int)), (0, ((k9 : Nat) : Int)), (0, ((m2 : Nat) : Int)), (0, ((t : Nat) : Int)), (0, ((i2 + 1 : Nat) : Int)), x6]) (st' := []) (w' := (qup w5 117 i2 (b01 (cF w0 (t + 1) i2)))) (n' := 142) rfl ?_
                        exact ih202 _ (by omega) (i2 + 1) ((qup w5 117 i2 (b01 (cF w0 (t + 1) i2)))) rfl (⟨by omega, hdW.u117 hI202.2.1 (b01_in _), fun j hj => by rw [qup_ne (by decide)]; exact hI202.2.2.1 j hj, rows.nx (f := fun j => b01 (cF w0 (t + 1) j)) hI202.2.2.2 rfl⟩)
                      · skip
                        refine qG.blk 1 (pc' := 234) (ls' := [(2, 95), (0, ((c : Nat) : Int)), (0, ((k9 : Nat) : Int)), (0, ((m2 : Nat) : Int)), (0, wrp (((t : Nat) : Int) + 1)), (0, ((i2 : Nat) : Int)), x6]) (st' := []) (w' := w5) (n' := 142) rfl ?_
                        rw [show wrp (((t : Nat) : Int) + 1) = ((t + 1 : Nat) : Int) from wrp_id (by omega) (by omega)]
                        refine qG.blk 1 (pc' := 56) (ls' := [(2, 95), (0, ((c : Nat) : Int)), (0, ((k9 : Nat) : Int)), (0, ((m2 : Nat) : Int)), (0, ((t + 1 : Nat) : Int)), (0, ((i2 : Nat) : Int)), x6]) (st' := []) (w' := w5) (n' := 142) rfl ?_
                        exact ih56 _ (by omega) (t + 1) (m2) (w5) ((0, ((i2 : Nat) : Int))) (x6) rfl (⟨by omega, hI202.2.1, fun j hj => hI202.2.2.2 j (by omega), by rw [hI74.2.2.2.2.1, show i = N by omega]⟩)
                    exact L202_1 _ (0) (w7) rfl (⟨by omega, by first | exact hI74.2.1 | exact hI74.2.1.u46 (by omega) (by omega), fun j hj => by first | exact hI74.2.2.2.1 j (by omega) | (rw [qup_ne (by decide)]; exact hI74.2.2.2.1 j (by omega)), fun j hj => absurd hj (Nat.not_lt_zero j)⟩)
              exact L74 _ (0) (0) (w8) (x6) rfl (⟨by omega, hI56.2.1, hI56.2.2.1, fun j hj => absurd hj (Nat.not_lt_zero j), rfl, by omega⟩)
            · skip
              refine qG.blk 1 (pc' := 238) (ls' := [(2, 95), (0, ((c : Nat) : Int)), (0, ((k9 : Nat) : Int)), (0, ((m : Nat) : Int)), (0, ((t : Nat) : Int)), x5, x6]) (st' := [(0, ((m : Nat) : Int))]) (w' := w8) (n' := 142) rfl ?_
              refine qG.ret rfl rfl ?_
              subst hQ9
              exact ⟨rfl, w0, hfp, hA0, hS0, hI56.2.1, N, S, t, hN, hSS, hI56.1, by rw [hI56.2.2.2], by first | (left; omega) | (right; omega)⟩
          · skip
            refine qG.blk 1 (pc' := 238) (ls' := [(2, 95), (0, ((c : Nat) : Int)), (0, ((k9 : Nat) : Int)), (0, ((m : Nat) : Int)), (0, ((t : Nat) : Int)), x5, x6]) (st' := [(0, ((m : Nat) : Int))]) (w' := w8) (n' := 142) rfl ?_
            refine qG.ret rfl rfl ?_
            subst hQ9
            exact ⟨rfl, w0, hfp, hA0, hS0, hI56.2.1, N, S, t, hN, hSS, hI56.1, by rw [hI56.2.2.2], by first | (left; omega) | (right; omega)⟩
        exact L56 _ (0) (N) (w9) ((9, 0)) ((9, 0)) rfl (⟨by omega, hI30.2.1, fun j hj => by rw [hI30.2.2 j (by omega)]; rfl, (cntF_all (fun _ => rfl) N).symm⟩)
    exact L30 _ (0) ((qup w0 95 46 0)) rfl (⟨by omega, hdW.u46 ⟨fun _ _ _ _ _ => rfl, hA0.1⟩ (by omega) (by omega), fun j hj => absurd hj (Nat.not_lt_zero j)⟩)
  · skip
    refine qG.blk 4 (pc' := 26) (ls' := [(2, 95), (0, ((c : Nat) : Int)), (0, ((k9 : Nat) : Int)), (9, 0), (9, 0), (9, 0), (9, 0)]) (st' := [(0, w0 95 8)]) (w' := (qup w0 95 46 (-1))) (n' := 142) rfl ?_
    rw [show w0 95 8 = ((N : Nat) : Int) from hN]
    refine qG.blk 3 (pc' := 30) (ls' := [(2, 95), (0, ((c : Nat) : Int)), (0, ((k9 : Nat) : Int)), (0, ((N : Nat) : Int)), (0, 0), (9, 0), (9, 0)]) (st' := []) (w' := (qup w0 95 46 (-1))) (n' := 142) rfl ?_
    have L30_1 : ∀ (m9 : Nat) (i : Nat) (w9 : qW), N - i = m9 → (i ≤ N ∧ hdW w0 w9 ∧ ∀ j, j < i → w9 117 j = 1) → qG none (d + 1) 257 30 [(2, 95), (0, ((c : Nat) : Int)), (0, ((k9 : Nat) : Int)), (0, ((N : Nat) : Int)), (0, ((i : Nat) : Int)), (9, 0), (9, 0)] [] w9 142 Q9 := by
      intro m9
      induction m9 using Nat.strongRecOn with
      | ind m9 ih30 =>
      intro i w9 hm30 hI30
      refine qG.blk 3 (pc' := 36) (ls' := [(2, 95), (0, ((c : Nat) : Int)), (0, ((k9 : Nat) : Int)), (0, ((N : Nat) : Int)), (0, ((i : Nat) : Int)), (9, 0), (9, 0)]) (st' := [(0, w9 95 8), (0, ((i : Nat) : Int))]) (w' := w9) (n' := 142) rfl ?_
      rw [show w9 95 8 = ((N : Nat) : Int) from (hI30.2.1.1 95 (8) (by decide) (by decide) (fun z => by cases z.2)).trans hN]
      refine qG.br (P := ((i : Nat) : Int) < ((N : Nat) : Int)) (pc1 := 39) (pc2 := 53) (st1 := []) rfl (fun h5 => ?_) (fun h5 => ?_)
      · skip
        refine qG.blk 2 (pc' := 43) (ls' := [(2, 95), (0, ((c : Nat) : Int)), (0, ((k9 : Nat) : Int)), (0, ((N : Nat) : Int)), (0, ((i : Nat) : Int)), (9, 0), (9, 0)]) (st' := [(2, w9 95 44)]) (w' := w9) (n' := 142) rfl ?_
        rw [show w9 95 44 = 117 from zref hI30.2.1.2 rfl rfl]
        refine qG.blk 2 (pc' := 46) (ls' := [(2, 95), (0, ((c : Nat) : Int)), (0, ((k9 : Nat) : Int)), (0, ((N : Nat) : Int)), (0, ((i : Nat) : Int)), (9, 0), (9, 0)]) (st' := [(0, 1), (0, ((i : Nat) : Int)), (2, 117)]) (w' := w9) (n' := 142) rfl ?_
        refine qG.bst (m := 1820) rfl rfl (by omega) (by decide) ?_
        show qG none (d + 1) 257 47 [(2, 95), (0, ((c : Nat) : Int)), (0, ((k9 : Nat) : Int)), (0, ((N : Nat) : Int)), (0, ((i : Nat) : Int)), (9, 0), (9, 0)] [] (qup w9 117 i 1) 142 Q9
        refine qG.blk 1 (pc' := 50) (ls' := [(2, 95), (0, ((c : Nat) : Int)), (0, ((k9 : Nat) : Int)), (0, ((N : Nat) : Int)), (0, wrp (((i : Nat) : Int) + 1)), (9, 0), (9, 0)]) (st' := []) (w' := (qup w9 117 i 1)) (n' := 142) rfl ?_
        rw [show wrp (((i : Nat) : Int) + 1) = ((i + 1 : Nat) : Int) from wrp_id (by omega) (by omega)]
        refine qG.blk 1 (pc' := 30) (ls' := [(2, 95), (0, ((c : Nat) : Int)), (0, ((k9 : Nat) : Int)), (0, ((N : Nat) : Int)), (0, ((i + 1 : Nat) : Int)), (9, 0), (9, 0)]) (st' := []) (w' := (qup w9 117 i 1)) (n' := 142) rfl ?_
        exact ih30 _ (by omega) (i + 1) ((qup w9 117 i 1)) rfl (⟨by omega, hdW.u117 hI30.2.1 (by decide), rows.nx (f := fun _ => 1) hI30.2.2 rfl⟩)
      · skip
        refine qG.blk 2 (pc' := 56) (ls' := [(2, 95), (0, ((c : Nat) : Int)), (0, ((k9 : Nat) : Int)), (0, ((N : Nat) : Int)), (0, 0), (9, 0), (9, 0)]) (st' := []) (w' := w9) (n' := 142) rfl ?_
        have L56_1 : ∀ (m9 : Nat) (t m : Nat) (w8 : qW) (x5 x6 : qV), S - t = m9 → (t ≤ S ∧ hdW w0 w8 ∧ (∀ j, j < N → w8 117 j = b01 (cF w0 t j)) ∧ m = cntF (cF w0 t) N) → qG none (d + 1) 257 56 [(2, 95), (0, ((c : Nat) : Int)), (0, ((k9 : Nat) : Int)), (0, ((m : Nat) : Int)), (0, ((t : Nat) : Int)), x5, x6] [] w8 142 Q9 := by
          intro m9
          induction m9 using Nat.strongRecOn with
          | ind m9 ih56 =>
          intro t m w8 x5 x6 hm56 hI56
          have hm9 := cntF_le (cF w0 t) N
          rw [← hI56.2.2.2] at hm9
          refine qG.blk 3 (pc' := 62) (ls' := [(2, 95), (0, ((c : Nat) : Int)), (0, ((k9 : Nat) : Int)), (0, ((m : Nat) : Int)), (0, ((t : Nat) : Int)), x5, x6]) (st' := [(0, w8 95 37), (0, ((t : Nat) : Int))]) (w' := w8) (n' := 142) rfl ?_
          rw [show w8 95 37 = ((S : Nat) : Int) from (hI56.2.1.1 95 (37) (by decide) (by decide) (fun z => by cases z.2)).trans hSS]
          refine qG.br (P := ((t : Nat) : Int) < ((S : Nat) : Int)) (pc1 := 65) (pc2 := 237) (st1 := []) rfl (fun hts => ?_) (fun hts => ?_)
          · skip
            refine qG.blk 1 (pc' := 66) (ls' := [(2, 95), (0, ((c : Nat) : Int)), (0, ((k9 : Nat) : Int)), (0, ((m : Nat) : Int)), (0, ((t : Nat) : Int)), x5, x6]) (st' := [(0, ((m : Nat) : Int))]) (w' := w8) (n' := 142) rfl ?_
            refine qG.br (P := 0 < ((m : Nat) : Int)) (pc1 := 69) (pc2 := 237) (st1 := []) rfl (fun hmp => ?_) (fun hmp => ?_)
            · skip
              refine qG.blk 4 (pc' := 74) (ls' := [(2, 95), (0, ((c : Nat) : Int)), (0, ((k9 : Nat) : Int)), (0, 0), (0, ((t : Nat) : Int)), (0, 0), x6]) (st' := []) (w' := w8) (n' := 142) rfl ?_
              have L74_1 : ∀ (m9 : Nat) (i m2 : Nat) (w7 : qW) (x6 : qV), N - i = m9 → (i ≤ N ∧ hdW w0 w7 ∧ (∀ j, j < N → w7 117 j = b01 (cF w0 t j)) ∧ (∀ j, j < i → w7 118 j = b01 (cF w0 (t + 1) j)) ∧ m2 = cntF (cF w0 (t + 1)) i ∧ m2 ≤ i) → qG none (d + 1) 257 74 [(2, 95), (0, ((c : Nat) : Int)), (0, ((k9 : Nat) : Int)), (0, ((m2 : Nat) : Int)), (0, ((t : Nat) : Int)), (0, ((i : Nat) : Int)), x6] [] w7 142 Q9 := by
                intro m9
                induction m9 using Nat.strongRecOn with
                | ind m9 ih74 =>
                intro i m2 w7 x6 hm74 hI74
                have hm2i := hm2 i
                refine qG.blk 3 (pc' := 80) (ls' := [(2, 95), (0, ((c : Nat) : Int)), (0, ((k9 : Nat) : Int)), (0, ((m2 : Nat) : Int)), (0, ((t : Nat) : Int)), (0, ((i : Nat) : Int)), x6]) (st' := [(0, w7 95 8), (0, ((i : Nat) : Int))]) (w' := w7) (n' := 142) rfl ?_
                rw [show w7 95 8 = ((N : Nat) : Int) from (hI74.2.1.1 95 (8) (by decide) (by decide) (fun z => by cases z.2)).trans hN]
                refine qG.br (P := ((i : Nat) : Int) < ((N : Nat) : Int)) (pc1 := 83) (pc2 := 189) (st1 := []) rfl (fun hiN => ?_) (fun hiN => ?_)
                · skip
                  refine qG.blk 2 (pc' := 87) (ls' := [(2, 95), (0, ((c : Nat) : Int)), (0, ((k9 : Nat) : Int)), (0, ((m2 : Nat) : Int)), (0, ((t : Nat) : Int)), (0, ((i : Nat) : Int)), x6]) (st' := [(2, w7 95 45)]) (w' := w7) (n' := 142) rfl ?_
                  rw [show w7 95 45 = 118 from zref hI74.2.1.2 rfl rfl]
                  refine qG.blk 2 (pc' := 90) (ls' := [(2, 95), (0, ((c : Nat) : Int)), (0, ((k9 : Nat) : Int)), (0, ((m2 : Nat) : Int)), (0, ((t : Nat) : Int)), (0, ((i : Nat) : Int)), x6]) (st' := [(0, 0), (0, ((i : Nat) : Int)), (2, 118)]) (w' := w7) (n' := 142) rfl ?_
                  refine qG.bst (m := 1820) rfl rfl (by omega) (by decide) ?_
                  show qG none (d + 1) 257 91 [(2, 95), (0, ((c : Nat) : Int)), (0, ((k9 : Nat) : Int)), (0, ((m2 : Nat) : Int)), (0, ((t : Nat) : Int)), (0, ((i : Nat) : Int)), x6] [] (qup w7 118 i 0) 142 Q9
                  refine qG.blk 2 (pc' := 94) (ls' := [(2, 95), (0, ((c : Nat) : Int)), (0, ((k9 : Nat) : Int)), (0, ((m2 : Nat) : Int)), (0, ((t : Nat) : Int)), (0, ((i : Nat) : Int)), (0, 0)]) (st' := []) (w' := (qup w7 118 i 0)) (n' := 142) rfl ?_
                  have L94_1 : ∀ (m9 : Nat) (k : Nat) (w6 : qW), 50 - k = m9 → ((k : Int) ≤ w0 102 i ∧ hdW w0 w6 ∧ (∀ j, j < N → w6 117 j = b01 (cF w0 t j)) ∧ (∀ j, j < i → w6 118 j = b01 (cF w0 (t + 1) j)) ∧ w6 118 i = b01 (clF w0 t i && anyF (cF w0 t) (nxF w0 i) k)) → qG none (d + 1) 257 94 [(2, 95), (0, ((c : Nat) : Int)), (0, ((k9 : Nat) : Int)), (0, ((m2 : Nat) : Int)), (0, ((t : Nat) : Int)), (0, ((i : Nat) : Int)), (0, ((k : Nat) : Int))] [] w6 142 Q9 := by
                    intro m9
                    induction m9 using Nat.strongRecOn with
                    | ind m9 ih94 =>
                    intro k w6 hm94 hI94
                    have hm2i := hm2 i
                    refine qG.blk 3 (pc' := 100) (ls' := [(2, 95), (0, ((c : Nat) : Int)), (0, ((k9 : Nat) : Int)), (0, ((m2 : Nat) : Int)), (0, ((t : Nat) : Int)), (0, ((i : Nat) : Int)), (0, ((k : Nat) : Int))]) (st' := [(2, w6 95 6), (0, ((k : Nat) : Int))]) (w' := w6) (n' := 142) rfl ?_
                    rw [show w6 95 6 = 102 from zref hI94.2.1.2 rfl rfl]
                    refine qG.blk 1 (pc' := 102) (ls' := [(2, 95), (0, ((c : Nat) : Int)), (0, ((k9 : Nat) : Int)), (0, ((m2 : Nat) : Int)), (0, ((t : Nat) : Int)), (0, ((i : Nat) : Int)), (0, ((k : Nat) : Int))]) (st' := [(0, ((i : Nat) : Int)), (2, 102), (0, ((k : Nat) : Int))]) (w' := w6) (n' := 142) rfl ?_
                    refine qG.ild (m := 1820) rfl rfl (by omega) (by decide) ?_
                    show qG none (d + 1) 257 103 [(2, 95), (0, ((c : Nat) : Int)), (0, ((k9 : Nat) : Int)), (0, ((m2 : Nat) : Int)), (0, ((t : Nat) : Int)), (0, ((i : Nat) : Int)), (0, ((k : Nat) : Int))] [(0, w6 102 i), (0, ((k : Nat) : Int))] w6 142 Q9
                    rw [show w6 102 i = w0 102 i from hI94.2.1.1 102 (i) (by decide) (by decide) (fun z => by cases z.1)]
                    refine qG.br (P := ((k : Nat) : Int) < w0 102 i) (pc1 := 106) (pc2 := 165) (st1 := []) rfl (fun hkm => ?_) (fun hkm => ?_)
                    · skip
                      have hnx : nxF w0 i k < N := nx_lt hA0.1 hS0 hN (by omega) hkm
                      refine qG.blk 2 (pc' := 110) (ls' := [(2, 95), (0, ((c : Nat) : Int)), (0, ((k9 : Nat) : Int)), (0, ((m2 : Nat) : Int)), (0, ((t : Nat) : Int)), (0, ((i : Nat) : Int)), (0, ((k : Nat) : Int))]) (st' := [(2, w6 95 45)]) (w' := w6) (n' := 142) rfl ?_
                      rw [show w6 95 45 = 118 from zref hI94.2.1.2 rfl rfl]
                      refine qG.blk 1 (pc' := 112) (ls' := [(2, 95), (0, ((c : Nat) : Int)), (0, ((k9 : Nat) : Int)), (0, ((m2 : Nat) : Int)), (0, ((t : Nat) : Int)), (0, ((i : Nat) : Int)), (0, ((k : Nat) : Int))]) (st' := [(0, ((i : Nat) : Int)), (2, 118)]) (w' := w6) (n' := 142) rfl ?_
                      refine qG.bld (m := 1820) rfl rfl (by omega) (by decide) ?_
                      show qG none (d + 1) 257 113 [(2, 95), (0, ((c : Nat) : Int)), (0, ((k9 : Nat) : Int)), (0, ((m2 : Nat) : Int)), (0, ((t : Nat) : Int)), (0, ((i : Nat) : Int)), (0, ((k : Nat) : Int))] [(0, w6 118 i)] w6 142 Q9
                      rw [show w6 118 i = b01 (clF w0 t i && anyF (cF w0 t) (nxF w0 i) k) from hI94.2.2.2.2]
                      refine qG.br (P := b01 (clF w0 t i && anyF (cF w0 t) (nxF w0 i) k) = 0) (pc1 := 116) (pc2 := 165) (st1 := []) rfl (fun htn => ?_) (fun htn => ?_)
                      · skip
                        refine qG.blk 2 (pc' := 120) (ls' := [(2, 95), (0, ((c : Nat) : Int)), (0, ((k9 : Nat) : Int)), (0, ((m2 : Nat) : Int)), (0, ((t : Nat) : Int)), (0, ((i : Nat) : Int)), (0, ((k : Nat) : Int))]) (st' := [(2, w6 95 5)]) (w' := w6) (n' := 142) rfl ?_
                        rw [show w6 95 5 = 101 from zref hI94.2.1.2 rfl rfl]
                        refine qG.blk 1 (pc' := 122) (ls' := [(2, 95), (0, ((c : Nat) : Int)), (0, ((k9 : Nat) : Int)), (0, ((m2 : Nat) : Int)), (0, ((t : Nat) : Int)), (0, ((i : Nat) : Int)), (0, ((k : Nat) : Int))]) (st' := [(0, ((i : Nat) : Int)), (2, 101)]) (w' := w6) (n' := 142) rfl ?_
                        refine qG.ild (m := 1820) rfl rfl (by omega) (by decide) ?_
                        show qG none (d + 1) 257 123 [(2, 95), (0, ((c : Nat) : Int)), (0, ((k9 : Nat) : Int)), (0, ((m2 : Nat) : Int)), (0, ((t : Nat) : Int)), (0, ((i : Nat) : Int)), (0, ((k : Nat) : Int))] [(0, w6 101 i)] w6 142 Q9
                        rw [show w6 101 i = w0 101 i from hI94.2.1.1 101 (i) (by decide) (by decide) (fun z => by cases z.1)]
                        refine qG.blk 2 (pc' := 127) (ls' := [(2, 95), (0, ((c : Nat) : Int)), (0, ((k9 : Nat) : Int)), (0, ((m2 : Nat) : Int)), (0, ((t : Nat) : Int)), (0, ((i : Nat) : Int)), (0, ((k : Nat) : Int))]) (st' := [(2, w6 95 36), (0, w0 101 i)]) (w' := w6) (n' := 142) rfl ?_
                        rw [show w6 95 36 = 116 from zref hI94.2.1.2 rfl rfl]
                        refine qG.blk 1 (pc' := 129) (ls' := [(2, 95), (0, ((c : Nat) : Int)), (0, ((k9 : Nat) : Int)), (0, ((m2 : Nat) : Int)), (0, ((t : Nat) : Int)), (0, ((i : Nat) : Int)), (0, ((k : Nat) : Int))]) (st' := [(0, ((t : Nat) : Int)), (2, 116), (0, w0 101 i)]) (w' := w6) (n' := 142) rfl ?_
                        refine qG.ild (m := 900) rfl rfl (by omega) (by decide) ?_
                        show qG none (d + 1) 257 130 [(2, 95), (0, ((c : Nat) : Int)), (0, ((k9 : Nat) : Int)), (0, ((m2 : Nat) : Int)), (0, ((t : Nat) : Int)), (0, ((i : Nat) : Int)), (0, ((k : Nat) : Int))] [(0, w6 116 t), (0, w0 101 i)] w6 142 Q9
                        rw [show w6 116 t = w0 116 t from hI94.2.1.1 116 (t) (by decide) (by decide) (fun z => by cases z.1)]
                        refine qG.blk 1 (pc' := 131) (ls' := [(2, 95), (0, ((c : Nat) : Int)), (0, ((k9 : Nat) : Int)), (0, ((m2 : Nat) : Int)), (0, ((t : Nat) : Int)), (0, ((i : Nat) : Int)), (0, ((k : Nat) : Int))]) (st' := [(0, qand (w0 101 i) (w0 116 t))]) (w' := w6) (n' := 142) rfl ?_
                        refine qG.br (P := qand (w0 101 i) (w0 116 t) = 0) (pc1 := 134) (pc2 := 165) (st1 := []) rfl (fun hcl => ?_) (fun hcl => ?_)
                        · skip
                          refine qG.blk 2 (pc' := 138) (ls' := [(2, 95), (0, ((c : Nat) : Int)), (0, ((k9 : Nat) : Int)), (0, ((m2 : Nat) : Int)), (0, ((t : Nat) : Int)), (0, ((i : Nat) : Int)), (0, ((k : Nat) : Int))]) (st' := [(2, w6 95 45)]) (w' := w6) (n' := 142) rfl ?_
                          rw [show w6 95 45 = 118 from zref hI94.2.1.2 rfl rfl]
                          refine qG.blk 3 (pc' := 144) (ls' := [(2, 95), (0, ((c : Nat) : Int)), (0, ((k9 : Nat) : Int)), (0, ((m2 : Nat) : Int)), (0, ((t : Nat) : Int)), (0, ((i : Nat) : Int)), (0, ((k : Nat) : Int))]) (st' := [(2, w6 95 44), (0, ((i : Nat) : Int)), (2, 118)]) (w' := w6) (n' := 142) rfl ?_
                          rw [show w6 95 44 = 117 from zref hI94.2.1.2 rfl rfl]
                          refine qG.blk 2 (pc' := 148) (ls' := [(2, 95), (0, ((c : Nat) : Int)), (0, ((k9 : Nat) : Int)), (0, ((m2 : Nat) : Int)), (0, ((t : Nat) : Int)), (0, ((i : Nat) : Int)), (0, ((k : Nat) : Int))]) (st' := [(2, w6 95 7), (2, 117), (0, ((i : Nat) : Int)), (2, 118)]) (w' := w6) (n' := 142) rfl ?_
                          rw [show w6 95 7 = 103 from zref hI94.2.1.2 rfl rfl]
                          refine qG.blk 3 (pc' := 153) (ls' := [(2, 95), (0, ((c : Nat) : Int)), (0, ((k9 : Nat) : Int)), (0, ((m2 : Nat) : Int)), (0, ((t : Nat) : Int)), (0, ((i : Nat) : Int)), (0, ((k : Nat) : Int))]) (st' := [(0, wrp (50 * ((i : Nat) : Int))), (2, 103), (2, 117), (0, ((i : Nat) : Int)), (2, 118)]) (w' := w6) (n' := 142) rfl ?_
                          rw [show wrp (50 * ((i : Nat) : Int)) = ((50 * i : Nat) : Int) from by rw [wrp_id (by omega) (by omega)]; omega]
                          refine qG.blk 2 (pc' := 156) (ls' := [(2, 95), (0, ((c : Nat) : Int)), (0, ((k9 : Nat) : Int)), (0, ((m2 : Nat) : Int)), (0, ((t : Nat) : Int)), (0, ((i : Nat) : Int)), (0, ((k : Nat) : Int))]) (st' := [(0, wrp (((50 * i : Nat) : Int) + ((k : Nat) : Int))), (2, 103), (2, 117), (0, ((i : Nat) : Int)), (2, 118)]) (w' := w6) (n' := 142) rfl ?_
                          rw [show wrp (((50 * i : Nat) : Int) + ((k : Nat) : Int)) = ((50 * i + k : Nat) : Int) from by rw [wrp_id (by omega) (by omega)]; omega]
                          refine qG.ild (m := 91000) rfl rfl (by omega) (by decide) ?_
                          show qG none (d + 1) 257 157 [(2, 95), (0, ((c : Nat) : Int)), (0, ((k9 : Nat) : Int)), (0, ((m2 : Nat) : Int)), (0, ((t : Nat) : Int)), (0, ((i : Nat) : Int)), (0, ((k : Nat) : Int))] [(0, w6 103 (50 * i + k)), (2, 117), (0, ((i : Nat) : Int)), (2, 118)] w6 142 Q9
                          rw [show w6 103 (50 * i + k) = ((nxF w0 i k : Nat) : Int) from (hI94.2.1.1 103 (50 * i + k) (by decide) (by decide) (fun z => by cases z.1)).trans (nx_e hA0.1 i k)]
                          refine qG.bld (m := 1820) rfl rfl (by omega) (by decide) ?_
                          show qG none (d + 1) 257 158 [(2, 95), (0, ((c : Nat) : Int)), (0, ((k9 : Nat) : Int)), (0, ((m2 : Nat) : Int)), (0, ((t : Nat) : Int)), (0, ((i : Nat) : Int)), (0, ((k : Nat) : Int))] [(0, w6 117 (nxF w0 i k)), (0, ((i : Nat) : Int)), (2, 118)] w6 142 Q9
                          rw [show w6 117 (nxF w0 i k) = b01 (cF w0 t (nxF w0 i k)) from hI94.2.2.1 _ hnx]
                          refine qG.bst (m := 1820) rfl rfl (by exact ⟨⟨by omega, by omega⟩, b01_in _⟩) (by decide) ?_
                          show qG none (d + 1) 257 159 [(2, 95), (0, ((c : Nat) : Int)), (0, ((k9 : Nat) : Int)), (0, ((m2 : Nat) : Int)), (0, ((t : Nat) : Int)), (0, ((i : Nat) : Int)), (0, ((k : Nat) : Int))] [] (qup w6 118 i (b01 (cF w0 t (nxF w0 i k)))) 142 Q9
                          refine qG.blk 1 (pc' := 162) (ls' := [(2, 95), (0, ((c : Nat) : Int)), (0, ((k9 : Nat) : Int)), (0, ((m2 : Nat) : Int)), (0, ((t : Nat) : Int)), (0, ((i : Nat) : Int)), (0, wrp (((k : Nat) : Int) + 1))]) (st' := []) (w' := (qup w6 118 i (b01 (cF w0 t (nxF w0 i k))))) (n' := 142) rfl ?_
                          rw [show wrp (((k : Nat) : Int) + 1) = ((k + 1 : Nat) : Int) from wrp_id (by omega) (by omega)]
                          refine qG.blk 1 (pc' := 94) (ls' := [(2, 95), (0, ((c : Nat) : Int)), (0, ((k9 : Nat) : Int)), (0, ((m2 : Nat) : Int)), (0, ((t : Nat) : Int)), (0, ((i : Nat) : Int)), (0, ((k + 1 : Nat) : Int))]) (st' := []) (w' := (qup w6 118 i (b01 (cF w0 t (nxF w0 i k))))) (n' := 142) rfl ?_
                          exact ih94 _ (by omega) (k + 1) ((qup w6 118 i (b01 (cF w0 t (nxF w0 i k))))) rfl (⟨by omega, hdW.u118 hI94.2.1 (b01_in _), fun j hj => by rw [qup_ne (by decide)]; exact hI94.2.2.1 j hj, rows.ke (f := fun j => b01 (cF w0 (t + 1) j)) hI94.2.2.2.1 (Nat.le_refl _), by rw [qup_k]; exact hd_S hcl (b01_0 htn)⟩)
                        · skip
                          have hE := hd_E (t := t) hA0.1 hI94.1 (.inr (.inr (decide_eq_false hcl)))
                          refine qG.blk 3 (pc' := 170) (ls' := [(2, 95), (0, ((c : Nat) : Int)), (0, ((k9 : Nat) : Int)), (0, ((m2 : Nat) : Int)), (0, ((t : Nat) : Int)), (0, ((i : Nat) : Int)), (0, ((k : Nat) : Int))]) (st' := [(2, w6 95 45), (0, ((m2 : Nat) : Int))]) (w' := w6) (n' := 142) rfl ?_
                          rw [show w6 95 45 = 118 from zref hI94.2.1.2 rfl rfl]
                          refine qG.blk 1 (pc' := 172) (ls' := [(2, 95), (0, ((c : Nat) : Int)), (0, ((k9 : Nat) : Int)), (0, ((m2 : Nat) : Int)), (0, ((t : Nat) : Int)), (0, ((i : Nat) : Int)), (0, ((k : Nat) : Int))]) (st' := [(0, ((i : Nat) : Int)), (2, 118), (0, ((m2 : Nat) : Int))]) (w' := w6) (n' := 142) rfl ?_
                          refine qG.bld (m := 1820) rfl rfl (by omega) (by decide) ?_
                          show qG none (d + 1) 257 173 [(2, 95), (0, ((c : Nat) : Int)), (0, ((k9 : Nat) : Int)), (0, ((m2 : Nat) : Int)), (0, ((t : Nat) : Int)), (0, ((i : Nat) : Int)), (0, ((k : Nat) : Int))] [(0, w6 118 i), (0, ((m2 : Nat) : Int))] w6 142 Q9
                          rw [show w6 118 i = b01 (clF w0 t i && anyF (cF w0 t) (nxF w0 i) k) from hI94.2.2.2.2]
                          refine qG.br (P := b01 (clF w0 t i && anyF (cF w0 t) (nxF w0 i) k) = 0) (pc1 := 180) (pc2 := 176) (st1 := [(0, ((m2 : Nat) : Int))]) rfl (fun hth => ?_) (fun hth => ?_)
                          · skip
                            refine qG.blk 2 (pc' := 182) (ls' := [(2, 95), (0, ((c : Nat) : Int)), (0, ((k9 : Nat) : Int)), (0, ((m2 : Nat) : Int)), (0, ((t : Nat) : Int)), (0, ((i : Nat) : Int)), (0, ((k : Nat) : Int))]) (st' := [(0, wrp (((m2 : Nat) : Int) + 0))]) (w' := w6) (n' := 142) rfl ?_
                            rw [show wrp (((m2 : Nat) : Int) + 0) = ((m2 + 0 : Nat) : Int) from by rw [wrp_id (by omega) (by omega)]; omega]
                            refine qG.blk 2 (pc' := 186) (ls' := [(2, 95), (0, ((c : Nat) : Int)), (0, ((k9 : Nat) : Int)), (0, ((m2 + 0 : Nat) : Int)), (0, ((t : Nat) : Int)), (0, wrp (((i : Nat) : Int) + 1)), (0, ((k : Nat) : Int))]) (st' := []) (w' := w6) (n' := 142) rfl ?_
                            rw [show wrp (((i : Nat) : Int) + 1) = ((i + 1 : Nat) : Int) from wrp_id (by omega) (by omega)]
                            refine qG.blk 1 (pc' := 74) (ls' := [(2, 95), (0, ((c : Nat) : Int)), (0, ((k9 : Nat) : Int)), (0, ((m2 + 0 : Nat) : Int)), (0, ((t : Nat) : Int)), (0, ((i + 1 : Nat) : Int)), (0, ((k : Nat) : Int))]) (st' := []) (w' := w6) (n' := 142) rfl ?_
                            exact ih74 _ (by omega) (i + 1) (m2 + 0) (w6) ((0, ((k : Nat) : Int))) rfl (⟨by omega, hI94.2.1, hI94.2.2.1, rows.e1 (f := fun j => b01 (cF w0 (t + 1) j)) hI94.2.2.2.1 (by rw [hI94.2.2.2.2, hE]), by first | (rw [cntF_n (by rw [← hE]; exact b01_0 hth)]; omega) | (rw [cntF_y (by rw [← hE]; exact b01_1 hth)]; omega), by omega⟩)
                          · skip
                            refine qG.blk 3 (pc' := 182) (ls' := [(2, 95), (0, ((c : Nat) : Int)), (0, ((k9 : Nat) : Int)), (0, ((m2 : Nat) : Int)), (0, ((t : Nat) : Int)), (0, ((i : Nat) : Int)), (0, ((k : Nat) : Int))]) (st' := [(0, wrp (((m2 : Nat) : Int) + 1))]) (w' := w6) (n' := 142) rfl ?_
                            rw [show wrp (((m2 : Nat) : Int) + 1) = ((m2 + 1 : Nat) : Int) from by rw [wrp_id (by omega) (by omega)]; omega]
                            refine qG.blk 2 (pc' := 186) (ls' := [(2, 95), (0, ((c : Nat) : Int)), (0, ((k9 : Nat) : Int)), (0, ((m2 + 1 : Nat) : Int)), (0, ((t : Nat) : Int)), (0, wrp (((i : Nat) : Int) + 1)), (0, ((k : Nat) : Int))]) (st' := []) (w' := w6) (n' := 142) rfl ?_
                            rw [show wrp (((i : Nat) : Int) + 1) = ((i + 1 : Nat) : Int) from wrp_id (by omega) (by omega)]
                            refine qG.blk 1 (pc' := 74) (ls' := [(2, 95), (0, ((c : Nat) : Int)), (0, ((k9 : Nat) : Int)), (0, ((m2 + 1 : Nat) : Int)), (0, ((t : Nat) : Int)), (0, ((i + 1 : Nat) : Int)), (0, ((k : Nat) : Int))]) (st' := []) (w' := w6) (n' := 142) rfl ?_
                            exact ih74 _ (by omega) (i + 1) (m2 + 1) (w6) ((0, ((k : Nat) : Int))) rfl (⟨by omega, hI94.2.1, hI94.2.2.1, rows.e1 (f := fun j => b01 (cF w0 (t + 1) j)) hI94.2.2.2.1 (by rw [hI94.2.2.2.2, hE]), by first | (rw [cntF_n (by rw [← hE]; exact b01_0 hth)]; omega) | (rw [cntF_y (by rw [← hE]; exact b01_1 hth)]; omega), by omega⟩)
                      · skip
                        have hE := hd_E (t := t) hA0.1 hI94.1 (.inr (.inl (b01_1 htn)))
                        refine qG.blk 3 (pc' := 170) (ls' := [(2, 95), (0, ((c : Nat) : Int)), (0, ((k9 : Nat) : Int)), (0, ((m2 : Nat) : Int)), (0, ((t : Nat) : Int)), (0, ((i : Nat) : Int)), (0, ((k : Nat) : Int))]) (st' := [(2, w6 95 45), (0, ((m2 : Nat) : Int))]) (w' := w6) (n' := 142) rfl ?_
                        rw [show w6 95 45 = 118 from zref hI94.2.1.2 rfl rfl]
                        refine qG.blk 1 (pc' := 172) (ls' := [(2, 95), (0, ((c : Nat) : Int)), (0, ((k9 : Nat) : Int)), (0, ((m2 : Nat) : Int)), (0, ((t : Nat) : Int)), (0, ((i : Nat) : Int)), (0, ((k : Nat) : Int))]) (st' := [(0, ((i : Nat) : Int)), (2, 118), (0, ((m2 : Nat) : Int))]) (w' := w6) (n' := 142) rfl ?_
                        refine qG.bld (m := 1820) rfl rfl (by omega) (by decide) ?_
                        show qG none (d + 1) 257 173 [(2, 95), (0, ((c : Nat) : Int)), (0, ((k9 : Nat) : Int)), (0, ((m2 : Nat) : Int)), (0, ((t : Nat) : Int)), (0, ((i : Nat) : Int)), (0, ((k : Nat) : Int))] [(0, w6 118 i), (0, ((m2 : Nat) : Int))] w6 142 Q9
                        rw [show w6 118 i = b01 (clF w0 t i && anyF (cF w0 t) (nxF w0 i) k) from hI94.2.2.2.2]
                        refine qG.br (P := b01 (clF w0 t i && anyF (cF w0 t) (nxF w0 i) k) = 0) (pc1 := 180) (pc2 := 176) (st1 := [(0, ((m2 : Nat) : Int))]) rfl (fun hth => ?_) (fun hth => ?_)
                        · skip
                          refine qG.blk 2 (pc' := 182) (ls' := [(2, 95), (0, ((c : Nat) : Int)), (0, ((k9 : Nat) : Int)), (0, ((m2 : Nat) : Int)), (0, ((t : Nat) : Int)), (0, ((i : Nat) : Int)), (0, ((k : Nat) : Int))]) (st' := [(0, wrp (((m2 : Nat) : Int) + 0))]) (w' := w6) (n' := 142) rfl ?_
                          rw [show wrp (((m2 : Nat) : Int) + 0) = ((m2 + 0 : Nat) : Int) from by rw [wrp_id (by omega) (by omega)]; omega]
                          refine qG.blk 2 (pc' := 186) (ls' := [(2, 95), (0, ((c : Nat) : Int)), (0, ((k9 : Nat) : Int)), (0, ((m2 + 0 : Nat) : Int)), (0, ((t : Nat) : Int)), (0, wrp (((i : Nat) : Int) + 1)), (0, ((k : Nat) : Int))]) (st' := []) (w' := w6) (n' := 142) rfl ?_
                          rw [show wrp (((i : Nat) : Int) + 1) = ((i + 1 : Nat) : Int) from wrp_id (by omega) (by omega)]
                          refine qG.blk 1 (pc' := 74) (ls' := [(2, 95), (0, ((c : Nat) : Int)), (0, ((k9 : Nat) : Int)), (0, ((m2 + 0 : Nat) : Int)), (0, ((t : Nat) : Int)), (0, ((i + 1 : Nat) : Int)), (0, ((k : Nat) : Int))]) (st' := []) (w' := w6) (n' := 142) rfl ?_
                          exact ih74 _ (by omega) (i + 1) (m2 + 0) (w6) ((0, ((k : Nat) : Int))) rfl (⟨by omega, hI94.2.1, hI94.2.2.1, rows.e1 (f := fun j => b01 (cF w0 (t + 1) j)) hI94.2.2.2.1 (by rw [hI94.2.2.2.2, hE]), by first | (rw [cntF_n (by rw [← hE]; exact b01_0 hth)]; omega) | (rw [cntF_y (by rw [← hE]; exact b01_1 hth)]; omega), by omega⟩)
                        · skip
                          refine qG.blk 3 (pc' := 182) (ls' := [(2, 95), (0, ((c : Nat) : Int)), (0, ((k9 : Nat) : Int)), (0, ((m2 : Nat) : Int)), (0, ((t : Nat) : Int)), (0, ((i : Nat) : Int)), (0, ((k : Nat) : Int))]) (st' := [(0, wrp (((m2 : Nat) : Int) + 1))]) (w' := w6) (n' := 142) rfl ?_
                          rw [show wrp (((m2 : Nat) : Int) + 1) = ((m2 + 1 : Nat) : Int) from by rw [wrp_id (by omega) (by omega)]; omega]
                          refine qG.blk 2 (pc' := 186) (ls' := [(2, 95), (0, ((c : Nat) : Int)), (0, ((k9 : Nat) : Int)), (0, ((m2 + 1 : Nat) : Int)), (0, ((t : Nat) : Int)), (0, wrp (((i : Nat) : Int) + 1)), (0, ((k : Nat) : Int))]) (st' := []) (w' := w6) (n' := 142) rfl ?_
                          rw [show wrp (((i : Nat) : Int) + 1) = ((i + 1 : Nat) : Int) from wrp_id (by omega) (by omega)]
                          refine qG.blk 1 (pc' := 74) (ls' := [(2, 95), (0, ((c : Nat) : Int)), (0, ((k9 : Nat) : Int)), (0, ((m2 + 1 : Nat) : Int)), (0, ((t : Nat) : Int)), (0, ((i + 1 : Nat) : Int)), (0, ((k : Nat) : Int))]) (st' := []) (w' := w6) (n' := 142) rfl ?_
                          exact ih74 _ (by omega) (i + 1) (m2 + 1) (w6) ((0, ((k : Nat) : Int))) rfl (⟨by omega, hI94.2.1, hI94.2.2.1, rows.e1 (f := fun j => b01 (cF w0 (t + 1) j)) hI94.2.2.2.1 (by rw [hI94.2.2.2.2, hE]), by first | (rw [cntF_n (by rw [← hE]; exact b01_0 hth)]; omega) | (rw [cntF_y (by rw [← hE]; exact b01_1 hth)]; omega), by omega⟩)
                    · skip
                      have hE := hd_E (t := t) hA0.1 hI94.1 (.inl hkm)
                      refine qG.blk 3 (pc' := 170) (ls' := [(2, 95), (0, ((c : Nat) : Int)), (0, ((k9 : Nat) : Int)), (0, ((m2 : Nat) : Int)), (0, ((t : Nat) : Int)), (0, ((i : Nat) : Int)), (0, ((k : Nat) : Int))]) (st' := [(2, w6 95 45), (0, ((m2 : Nat) : Int))]) (w' := w6) (n' := 142) rfl ?_
                      rw [show w6 95 45 = 118 from zref hI94.2.1.2 rfl rfl]
                      refine qG.blk 1 (pc' := 172) (ls' := [(2, 95), (0, ((c : Nat) : Int)), (0, ((k9 : Nat) : Int)), (0, ((m2 : Nat) : Int)), (0, ((t : Nat) : Int)), (0, ((i : Nat) : Int)), (0, ((k : Nat) : Int))]) (st' := [(0, ((i : Nat) : Int)), (2, 118), (0, ((m2 : Nat) : Int))]) (w' := w6) (n' := 142) rfl ?_
                      refine qG.bld (m := 1820) rfl rfl (by omega) (by decide) ?_
                      show qG none (d + 1) 257 173 [(2, 95), (0, ((c : Nat) : Int)), (0, ((k9 : Nat) : Int)), (0, ((m2 : Nat) : Int)), (0, ((t : Nat) : Int)), (0, ((i : Nat) : Int)), (0, ((k : Nat) : Int))] [(0, w6 118 i), (0, ((m2 : Nat) : Int))] w6 142 Q9
                      rw [show w6 118 i = b01 (clF w0 t i && anyF (cF w0 t) (nxF w0 i) k) from hI94.2.2.2.2]
                      refine qG.br (P := b01 (clF w0 t i && anyF (cF w0 t) (nxF w0 i) k) = 0) (pc1 := 180) (pc2 := 176) (st1 := [(0, ((m2 : Nat) : Int))]) rfl (fun hth => ?_) (fun hth => ?_)
                      · skip
                        refine qG.blk 2 (pc' := 182) (ls' := [(2, 95), (0, ((c : Nat) : Int)), (0, ((k9 : Nat) : Int)), (0, ((m2 : Nat) : Int)), (0, ((t : Nat) : Int)), (0, ((i : Nat) : Int)), (0, ((k : Nat) : Int))]) (st' := [(0, wrp (((m2 : Nat) : Int) + 0))]) (w' := w6) (n' := 142) rfl ?_
                        rw [show wrp (((m2 : Nat) : Int) + 0) = ((m2 + 0 : Nat) : Int) from by rw [wrp_id (by omega) (by omega)]; omega]
                        refine qG.blk 2 (pc' := 186) (ls' := [(2, 95), (0, ((c : Nat) : Int)), (0, ((k9 : Nat) : Int)), (0, ((m2 + 0 : Nat) : Int)), (0, ((t : Nat) : Int)), (0, wrp (((i : Nat) : Int) + 1)), (0, ((k : Nat) : Int))]) (st' := []) (w' := w6) (n' := 142) rfl ?_
                        rw [show wrp (((i : Nat) : Int) + 1) = ((i + 1 : Nat) : Int) from wrp_id (by omega) (by omega)]
                        refine qG.blk 1 (pc' := 74) (ls' := [(2, 95), (0, ((c : Nat) : Int)), (0, ((k9 : Nat) : Int)), (0, ((m2 + 0 : Nat) : Int)), (0, ((t : Nat) : Int)), (0, ((i + 1 : Nat) : Int)), (0, ((k : Nat) : Int))]) (st' := []) (w' := w6) (n' := 142) rfl ?_
                        exact ih74 _ (by omega) (i + 1) (m2 + 0) (w6) ((0, ((k : Nat) : Int))) rfl (⟨by omega, hI94.2.1, hI94.2.2.1, rows.e1 (f := fun j => b01 (cF w0 (t + 1) j)) hI94.2.2.2.1 (by rw [hI94.2.2.2.2, hE]), by first | (rw [cntF_n (by rw [← hE]; exact b01_0 hth)]; omega) | (rw [cntF_y (by rw [← hE]; exact b01_1 hth)]; omega), by omega⟩)
                      · skip
                        refine qG.blk 3 (pc' := 182) (ls' := [(2, 95), (0, ((c : Nat) : Int)), (0, ((k9 : Nat) : Int)), (0, ((m2 : Nat) : Int)), (0, ((t : Nat) : Int)), (0, ((i : Nat) : Int)), (0, ((k : Nat) : Int))]) (st' := [(0, wrp (((m2 : Nat) : Int) + 1))]) (w' := w6) (n' := 142) rfl ?_
                        rw [show wrp (((m2 : Nat) : Int) + 1) = ((m2 + 1 : Nat) : Int) from by rw [wrp_id (by omega) (by omega)]; omega]
                        refine qG.blk 2 (pc' := 186) (ls' := [(2, 95), (0, ((c : Nat) : Int)), (0, ((k9 : Nat) : Int)), (0, ((m2 + 1 : Nat) : Int)), (0, ((t : Nat) : Int)), (0, wrp (((i : Nat) : Int) + 1)), (0, ((k : Nat) : Int))]) (st' := []) (w' := w6) (n' := 142) rfl ?_
                        rw [show wrp (((i : Nat) : Int) + 1) = ((i + 1 : Nat) : Int) from wrp_id (by omega) (by omega)]
                        refine qG.blk 1 (pc' := 74) (ls' := [(2, 95), (0, ((c : Nat) : Int)), (0, ((k9 : Nat) : Int)), (0, ((m2 + 1 : Nat) : Int)), (0, ((t : Nat) : Int)), (0, ((i + 1 : Nat) : Int)), (0, ((k : Nat) : Int))]) (st' := []) (w' := w6) (n' := 142) rfl ?_
                        exact ih74 _ (by omega) (i + 1) (m2 + 1) (w6) ((0, ((k : Nat) : Int))) rfl (⟨by omega, hI94.2.1, hI94.2.2.1, rows.e1 (f := fun j => b01 (cF w0 (t + 1) j)) hI94.2.2.2.1 (by rw [hI94.2.2.2.2, hE]), by first | (rw [cntF_n (by rw [← hE]; exact b01_0 hth)]; omega) | (rw [cntF_y (by rw [← hE]; exact b01_1 hth)]; omega), by omega⟩)
                  exact L94_1 _ (0) ((qup w7 118 i 0)) rfl (⟨by omega, hdW.u118 hI74.2.1 (by decide), fun j hj => by rw [qup_ne (by decide)]; exact hI74.2.2.1 j hj, rows.ke (f := fun j => b01 (cF w0 (t + 1) j)) hI74.2.2.2.1 (Nat.le_refl _), by rw [qup_k]; show (0 : Int) = b01 (_ && false); rw [Bool.and_false]; rfl⟩)
                · skip
                  refine qG.blk 1 (pc' := 190) (ls' := [(2, 95), (0, ((c : Nat) : Int)), (0, ((k9 : Nat) : Int)), (0, ((m2 : Nat) : Int)), (0, ((t : Nat) : Int)), (0, ((i : Nat) : Int)), x6]) (st' := [(0, ((m2 : Nat) : Int))]) (w' := w7) (n' := 142) rfl ?_
                  refine qG.br (P := ((m2 : Nat) : Int) = 0) (pc1 := 193) (pc2 := 199) (st1 := []) rfl (fun hz => ?_) (fun hz => ?_)
                  · skip
                    refine qG.blk 5 (pc' := 202) (ls' := [(2, 95), (0, ((c : Nat) : Int)), (0, ((k9 : Nat) : Int)), (0, ((m2 : Nat) : Int)), (0, ((t : Nat) : Int)), (0, 0), x6]) (st' := []) (w' := (qup w7 95 46 ((t : Nat) : Int))) (n' := 142) rfl ?_
                    have L202_2 : ∀ (m9 : Nat) (i2 : Nat) (w5 : qW), N - i2 = m9 → (i2 ≤ N ∧ hdW w0 w5 ∧ (∀ j, j < N → w5 118 j = b01 (cF w0 (t + 1) j)) ∧ (∀ j, j < i2 → w5 117 j = b01 (cF w0 (t + 1) j))) → qG none (d + 1) 257 202 [(2, 95), (0, ((c : Nat) : Int)), (0, ((k9 : Nat) : Int)), (0, ((m2 : Nat) : Int)), (0, ((t : Nat) : Int)), (0, ((i2 : Nat) : Int)), x6] [] w5 142 Q9 := by
                      intro m9
                      induction m9 using Nat.strongRecOn with
                      | ind m9 ih202 =>
                      intro i2 w5 hm202 hI202
                      refine qG.blk 3 (pc' := 208) (ls' := [(2, 95), (0, ((c : Nat) : Int)), (0, ((k9 : Nat) : Int)), (0, ((m2 : Nat) : Int)), (0, ((t : Nat) : Int)), (0, ((i2 : Nat) : Int)), x6]) (st' := [(0, w5 95 8), (0, ((i2 : Nat) : Int))]) (w' := w5) (n' := 142) rfl ?_
                      rw [show w5 95 8 = ((N : Nat) : Int) from (hI202.2.1.1 95 (8) (by decide) (by decide) (fun z => by cases z.2)).trans hN]
                      refine qG.br (P := ((i2 : Nat) : Int) < ((N : Nat) : Int)) (pc1 := 211) (pc2 := 231) (st1 := []) rfl (fun h6 => ?_) (fun h6 => ?_)
                      · skip
                        refine qG.blk 2 (pc' := 215) (ls' := [(2, 95), (0, ((c : Nat) : Int)), (0, ((k9 : Nat) : Int)), (0, ((m2 : Nat) : Int)), (0, ((t : Nat) : Int)), (0, ((i2 : Nat) : Int)), x6]) (st' := [(2, w5 95 44)]) (w' := w5) (n' := 142) rfl ?_
                        rw [show w5 95 44 = 117 from zref hI202.2.1.2 rfl rfl]
                        refine qG.blk 3 (pc' := 221) (ls' := [(2, 95), (0, ((c : Nat) : Int)), (0, ((k9 : Nat) : Int)), (0, ((m2 : Nat) : Int)), (0, ((t : Nat) : Int)), (0, ((i2 : Nat) : Int)), x6]) (st' := [(2, w5 95 45), (0, ((i2 : Nat) : Int)), (2, 117)]) (w' := w5) (n' := 142) rfl ?_
                        rw [show w5 95 45 = 118 from zref hI202.2.1.2 rfl rfl]
                        refine qG.blk 1 (pc' := 223) (ls' := [(2, 95), (0, ((c : Nat) : Int)), (0, ((k9 : Nat) : Int)), (0, ((m2 : Nat) : Int)), (0, ((t : Nat) : Int)), (0, ((i2 : Nat) : Int)), x6]) (st' := [(0, ((i2 : Nat) : Int)), (2, 118), (0, ((i2 : Nat) : Int)), (2, 117)]) (w' := w5) (n' := 142) rfl ?_
                        refine qG.bld (m := 1820) rfl rfl (by omega) (by decide) ?_
                        show qG none (d + 1) 257 224 [(2, 95), (0, ((c : Nat) : Int)), (0, ((k9 : Nat) : Int)), (0, ((m2 : Nat) : Int)), (0, ((t : Nat) : Int)), (0, ((i2 : Nat) : Int)), x6] [(0, w5 118 i2), (0, ((i2 : Nat) : Int)), (2, 117)] w5 142 Q9
                        rw [show w5 118 i2 = b01 (cF w0 (t + 1) i2) from hI202.2.2.1 _ (by omega)]
                        refine qG.bst (m := 1820) rfl rfl (by exact ⟨⟨by omega, by omega⟩, b01_in _⟩) (by decide) ?_
                        show qG none (d + 1) 257 225 [(2, 95), (0, ((c : Nat) : Int)), (0, ((k9 : Nat) : Int)), (0, ((m2 : Nat) : Int)), (0, ((t : Nat) : Int)), (0, ((i2 : Nat) : Int)), x6] [] (qup w5 117 i2 (b01 (cF w0 (t + 1) i2))) 142 Q9
                        refine qG.blk 1 (pc' := 228) (ls' := [(2, 95), (0, ((c : Nat) : Int)), (0, ((k9 : Nat) : Int)), (0, ((m2 : Nat) : Int)), (0, ((t : Nat) : Int)), (0, wrp (((i2 : Nat) : Int) + 1)), x6]) (st' := []) (w' := (qup w5 117 i2 (b01 (cF w0 (t + 1) i2)))) (n' := 142) rfl ?_
                        rw [show wrp (((i2 : Nat) : Int) + 1) = ((i2 + 1 : Nat) : Int) from wrp_id (by omega) (by omega)]
                        refine qG.blk 1 (pc' := 202) (ls' := [(2, 95), (0, ((c : Nat) : Int)), (0, ((k9 : Nat) : Int)), (0, ((m2 : Nat) : Int)), (0, ((t : Nat) : Int)), (0, ((i2 + 1 : Nat) : Int)), x6]) (st' := []) (w' := (qup w5 117 i2 (b01 (cF w0 (t + 1) i2)))) (n' := 142) rfl ?_
                        exact ih202 _ (by omega) (i2 + 1) ((qup w5 117 i2 (b01 (cF w0 (t + 1) i2)))) rfl (⟨by omega, hdW.u117 hI202.2.1 (b01_in _), fun j hj => by rw [qup_ne (by decide)]; exact hI202.2.2.1 j hj, rows.nx (f := fun j => b01 (cF w0 (t + 1) j)) hI202.2.2.2 rfl⟩)
                      · skip
                        refine qG.blk 1 (pc' := 234) (ls' := [(2, 95), (0, ((c : Nat) : Int)), (0, ((k9 : Nat) : Int)), (0, ((m2 : Nat) : Int)), (0, wrp (((t : Nat) : Int) + 1)), (0, ((i2 : Nat) : Int)), x6]) (st' := []) (w' := w5) (n' := 142) rfl ?_
                        rw [show wrp (((t : Nat) : Int) + 1) = ((t + 1 : Nat) : Int) from wrp_id (by omega) (by omega)]
                        refine qG.blk 1 (pc' := 56) (ls' := [(2, 95), (0, ((c : Nat) : Int)), (0, ((k9 : Nat) : Int)), (0, ((m2 : Nat) : Int)), (0, ((t + 1 : Nat) : Int)), (0, ((i2 : Nat) : Int)), x6]) (st' := []) (w' := w5) (n' := 142) rfl ?_
                        exact ih56 _ (by omega) (t + 1) (m2) (w5) ((0, ((i2 : Nat) : Int))) (x6) rfl (⟨by omega, hI202.2.1, fun j hj => hI202.2.2.2 j (by omega), by rw [hI74.2.2.2.2.1, show i = N by omega]⟩)
                    exact L202_2 _ (0) ((qup w7 95 46 ((t : Nat) : Int))) rfl (⟨by omega, by first | exact hI74.2.1 | exact hI74.2.1.u46 (by omega) (by omega), fun j hj => by first | exact hI74.2.2.2.1 j (by omega) | (rw [qup_ne (by decide)]; exact hI74.2.2.2.1 j (by omega)), fun j hj => absurd hj (Nat.not_lt_zero j)⟩)
                  · skip
                    refine qG.blk 2 (pc' := 202) (ls' := [(2, 95), (0, ((c : Nat) : Int)), (0, ((k9 : Nat) : Int)), (0, ((m2 : Nat) : Int)), (0, ((t : Nat) : Int)), (0, 0), x6]) (st' := []) (w' := w7) (n' := 142) rfl ?_
                    have L202_3 : ∀ (m9 : Nat) (i2 : Nat) (w5 : qW), N - i2 = m9 → (i2 ≤ N ∧ hdW w0 w5 ∧ (∀ j, j < N → w5 118 j = b01 (cF w0 (t + 1) j)) ∧ (∀ j, j < i2 → w5 117 j = b01 (cF w0 (t + 1) j))) → qG none (d + 1) 257 202 [(2, 95), (0, ((c : Nat) : Int)), (0, ((k9 : Nat) : Int)), (0, ((m2 : Nat) : Int)), (0, ((t : Nat) : Int)), (0, ((i2 : Nat) : Int)), x6] [] w5 142 Q9 := by
                      intro m9
                      induction m9 using Nat.strongRecOn with
                      | ind m9 ih202 =>
                      intro i2 w5 hm202 hI202
                      refine qG.blk 3 (pc' := 208) (ls' := [(2, 95), (0, ((c : Nat) : Int)), (0, ((k9 : Nat) : Int)), (0, ((m2 : Nat) : Int)), (0, ((t : Nat) : Int)), (0, ((i2 : Nat) : Int)), x6]) (st' := [(0, w5 95 8), (0, ((i2 : Nat) : Int))]) (w' := w5) (n' := 142) rfl ?_
                      rw [show w5 95 8 = ((N : Nat) : Int) from (hI202.2.1.1 95 (8) (by decide) (by decide) (fun z => by cases z.2)).trans hN]
                      refine qG.br (P := ((i2 : Nat) : Int) < ((N : Nat) : Int)) (pc1 := 211) (pc2 := 231) (st1 := []) rfl (fun h7 => ?_) (fun h7 => ?_)
                      · skip
                        refine qG.blk 2 (pc' := 215) (ls' := [(2, 95), (0, ((c : Nat) : Int)), (0, ((k9 : Nat) : Int)), (0, ((m2 : Nat) : Int)), (0, ((t : Nat) : Int)), (0, ((i2 : Nat) : Int)), x6]) (st' := [(2, w5 95 44)]) (w' := w5) (n' := 142) rfl ?_
                        rw [show w5 95 44 = 117 from zref hI202.2.1.2 rfl rfl]
                        refine qG.blk 3 (pc' := 221) (ls' := [(2, 95), (0, ((c : Nat) : Int)), (0, ((k9 : Nat) : Int)), (0, ((m2 : Nat) : Int)), (0, ((t : Nat) : Int)), (0, ((i2 : Nat) : Int)), x6]) (st' := [(2, w5 95 45), (0, ((i2 : Nat) : Int)), (2, 117)]) (w' := w5) (n' := 142) rfl ?_
                        rw [show w5 95 45 = 118 from zref hI202.2.1.2 rfl rfl]
                        refine qG.blk 1 (pc' := 223) (ls' := [(2, 95), (0, ((c : Nat) : Int)), (0, ((k9 : Nat) : Int)), (0, ((m2 : Nat) : Int)), (0, ((t : Nat) : Int)), (0, ((i2 : Nat) : Int)), x6]) (st' := [(0, ((i2 : Nat) : Int)), (2, 118), (0, ((i2 : Nat) : Int)), (2, 117)]) (w' := w5) (n' := 142) rfl ?_
                        refine qG.bld (m := 1820) rfl rfl (by omega) (by decide) ?_
                        show qG none (d + 1) 257 224 [(2, 95), (0, ((c : Nat) : Int)), (0, ((k9 : Nat) : Int)), (0, ((m2 : Nat) : Int)), (0, ((t : Nat) : Int)), (0, ((i2 : Nat) : Int)), x6] [(0, w5 118 i2), (0, ((i2 : Nat) : Int)), (2, 117)] w5 142 Q9
                        rw [show w5 118 i2 = b01 (cF w0 (t + 1) i2) from hI202.2.2.1 _ (by omega)]
                        refine qG.bst (m := 1820) rfl rfl (by exact ⟨⟨by omega, by omega⟩, b01_in _⟩) (by decide) ?_
                        show qG none (d + 1) 257 225 [(2, 95), (0, ((c : Nat) : Int)), (0, ((k9 : Nat) : Int)), (0, ((m2 : Nat) : Int)), (0, ((t : Nat) : Int)), (0, ((i2 : Nat) : Int)), x6] [] (qup w5 117 i2 (b01 (cF w0 (t + 1) i2))) 142 Q9
                        refine qG.blk 1 (pc' := 228) (ls' := [(2, 95), (0, ((c : Nat) : Int)), (0, ((k9 : Nat) : Int)), (0, ((m2 : Nat) : Int)), (0, ((t : Nat) : Int)), (0, wrp (((i2 : Nat) : Int) + 1)), x6]) (st' := []) (w' := (qup w5 117 i2 (b01 (cF w0 (t + 1) i2)))) (n' := 142) rfl ?_
                        rw [show wrp (((i2 : Nat) : Int) + 1) = ((i2 + 1 : Nat) : Int) from wrp_id (by omega) (by omega)]
                        refine qG.blk 1 (pc' := 202) (ls' := [(2, 95), (0, ((c : Nat) : Int)), (0, ((k9 : Nat) : Int)), (0, ((m2 : Nat) : Int)), (0, ((t : Nat) : Int)), (0, ((i2 + 1 : Nat) : Int)), x6]) (st' := []) (w' := (qup w5 117 i2 (b01 (cF w0 (t + 1) i2)))) (n' := 142) rfl ?_
                        exact ih202 _ (by omega) (i2 + 1) ((qup w5 117 i2 (b01 (cF w0 (t + 1) i2)))) rfl (⟨by omega, hdW.u117 hI202.2.1 (b01_in _), fun j hj => by rw [qup_ne (by decide)]; exact hI202.2.2.1 j hj, rows.nx (f := fun j => b01 (cF w0 (t + 1) j)) hI202.2.2.2 rfl⟩)
                      · skip
                        refine qG.blk 1 (pc' := 234) (ls' := [(2, 95), (0, ((c : Nat) : Int)), (0, ((k9 : Nat) : Int)), (0, ((m2 : Nat) : Int)), (0, wrp (((t : Nat) : Int) + 1)), (0, ((i2 : Nat) : Int)), x6]) (st' := []) (w' := w5) (n' := 142) rfl ?_
                        rw [show wrp (((t : Nat) : Int) + 1) = ((t + 1 : Nat) : Int) from wrp_id (by omega) (by omega)]
                        refine qG.blk 1 (pc' := 56) (ls' := [(2, 95), (0, ((c : Nat) : Int)), (0, ((k9 : Nat) : Int)), (0, ((m2 : Nat) : Int)), (0, ((t + 1 : Nat) : Int)), (0, ((i2 : Nat) : Int)), x6]) (st' := []) (w' := w5) (n' := 142) rfl ?_
                        exact ih56 _ (by omega) (t + 1) (m2) (w5) ((0, ((i2 : Nat) : Int))) (x6) rfl (⟨by omega, hI202.2.1, fun j hj => hI202.2.2.2 j (by omega), by rw [hI74.2.2.2.2.1, show i = N by omega]⟩)
                    exact L202_3 _ (0) (w7) rfl (⟨by omega, by first | exact hI74.2.1 | exact hI74.2.1.u46 (by omega) (by omega), fun j hj => by first | exact hI74.2.2.2.1 j (by omega) | (rw [qup_ne (by decide)]; exact hI74.2.2.2.1 j (by omega)), fun j hj => absurd hj (Nat.not_lt_zero j)⟩)
              exact L74_1 _ (0) (0) (w8) (x6) rfl (⟨by omega, hI56.2.1, hI56.2.2.1, fun j hj => absurd hj (Nat.not_lt_zero j), rfl, by omega⟩)
            · skip
              refine qG.blk 1 (pc' := 238) (ls' := [(2, 95), (0, ((c : Nat) : Int)), (0, ((k9 : Nat) : Int)), (0, ((m : Nat) : Int)), (0, ((t : Nat) : Int)), x5, x6]) (st' := [(0, ((m : Nat) : Int))]) (w' := w8) (n' := 142) rfl ?_
              refine qG.ret rfl rfl ?_
              subst hQ9
              exact ⟨rfl, w0, hfp, hA0, hS0, hI56.2.1, N, S, t, hN, hSS, hI56.1, by rw [hI56.2.2.2], by first | (left; omega) | (right; omega)⟩
          · skip
            refine qG.blk 1 (pc' := 238) (ls' := [(2, 95), (0, ((c : Nat) : Int)), (0, ((k9 : Nat) : Int)), (0, ((m : Nat) : Int)), (0, ((t : Nat) : Int)), x5, x6]) (st' := [(0, ((m : Nat) : Int))]) (w' := w8) (n' := 142) rfl ?_
            refine qG.ret rfl rfl ?_
            subst hQ9
            exact ⟨rfl, w0, hfp, hA0, hS0, hI56.2.1, N, S, t, hN, hSS, hI56.1, by rw [hI56.2.2.2], by first | (left; omega) | (right; omega)⟩
        exact L56_1 _ (0) (N) (w9) ((9, 0)) ((9, 0)) rfl (⟨by omega, hI30.2.1, fun j hj => by rw [hI30.2.2 j (by omega)]; rfl, (cntF_all (fun _ => rfl) N).symm⟩)
    exact L30_1 _ (0) ((qup w0 95 46 (-1))) rfl (⟨by omega, hdW.u46 ⟨fun _ _ _ _ _ => rfl, hA0.1⟩ (by omega) (by omega), fun j hj => absurd hj (Nat.not_lt_zero j)⟩)
end
section
/-! the reference's isGoing, leadsBack -/
theorem shs32 : ∀ s : Nat, s < 32 → ((Int32.ofInt (s : Int) &&& 31).toBitVec.smod 32).toNat = s := by decide +kernel
theorem hbit_b {x : Int} {s : Nat} (hs : s < 32) : hbit x s = (Int32.ofInt x).toBitVec.getLsbD s := by
  unfold hbit qand qshr
  rw [Int32.ofInt_toInt]
  have e : (Int32.ofInt x >>> (Int32.ofInt (s : Int) &&& 31)).toBitVec.getLsbD 0 = (Int32.ofInt x).toBitVec.getLsbD s := by
    rw [Int32.toBitVec_shiftRight, BitVec.sshiftRight', shs32 s hs, BitVec.getLsbD_sshiftRight]
    simp [hs]
  rw [← e]
  generalize Int32.ofInt x >>> (Int32.ofInt (s : Int) &&& 31) = z
  have h2 : (z &&& Int32.ofInt 1).toBitVec = if z.toBitVec.getLsbD 0 = true then 1#32 else 0#32 := by
    rw [Int32.toBitVec_and]
    apply BitVec.eq_of_getLsbD_eq
    intro i hi
    rw [BitVec.getLsbD_and]
    have h3 : (Int32.ofInt 1).toBitVec = 1#32 := rfl
    rw [h3, BitVec.getLsbD_one]
    by_cases hi0 : i = 0
    · subst hi0; cases z.toBitVec.getLsbD 0 <;> simp
    · cases z.toBitVec.getLsbD 0 <;> simp [hi0, BitVec.getLsbD_one]
  have h4 : (z &&& Int32.ofInt 1).toInt = if z.toBitVec.getLsbD 0 = true then 1 else 0 := by
    show (z &&& Int32.ofInt 1).toBitVec.toInt = _
    rw [h2]
    split <;> rfl
  rw [h4]
  cases z.toBitVec.getLsbD 0 <;> rfl
theorem hbit_or {x y : Int} {s : Nat} (hs : s < 32) : hbit (qor x y) s = (hbit x s || hbit y s) := by
  rw [hbit_b hs, hbit_b hs, hbit_b hs]
  unfold qor
  rw [Int32.ofInt_toInt, Int32.toBitVec_or, BitVec.getLsbD_or]
theorem hbit_1 : ∀ r : Nat, r < 32 → ∀ s : Nat, s < 32 → hbit (qshl 1 (r : Int)) s = decide (r = s) := by decide +kernel
theorem hbit_z : ∀ s : Nat, s < 32 → hbit 0 s = false := by decide +kernel
theorem lbd : ∀ i : Nat, i < 1820 → qdiv (i : Int) 32 = ((i / 32 : Nat) : Int) ∧ qrem (i : Int) 32 = ((i % 32 : Nat) : Int) := by decide +kernel
noncomputable def goB (w : qW) (t i : Nat) : Bool := hbit (w 119 (57 * t + i / 32)) (i % 32)
theorem K_isGoing {d : Nat} (hd : 0 ≤ d) (t i : Nat) (ht : t < 900) (hi : i < 1820) (w : qW) (hI : yInv zgf zga zra zSp w) : qG none d 259 0 [(2, 95), (0, ((t : Nat) : Int)), (0, ((i : Nat) : Int))] [] w 142 (fun (r : qV) (w1 : qW) (n1 : Nat) => r = (0, b01 (goB w t i)) ∧ w1 = w ∧ n1 = 142) := by
  generalize hQ9 : (fun (r : qV) (w1 : qW) (n1 : Nat) => r = (0, b01 (goB w t i)) ∧ w1 = w ∧ n1 = 142) = Q9
  refine qG.blk 2 (pc' := 4) (ls' := [(2, 95), (0, ((t : Nat) : Int)), (0, ((i : Nat) : Int))]) (st' := [(2, w 95 47)]) (w' := w) (n' := 142) rfl ?_
  rw [show w 95 47 = 119 from zref hI rfl rfl]
  refine qG.blk 3 (pc' := 8) (ls' := [(2, 95), (0, ((t : Nat) : Int)), (0, ((i : Nat) : Int))]) (st' := [(0, wrp (57 * ((t : Nat) : Int))), (2, 119)]) (w' := w) (n' := 142) rfl ?_
  rw [show wrp (57 * ((t : Nat) : Int)) = ((57 * t : Nat) : Int) from by rw [wrp_id (by omega) (by omega)]; omega]
  refine qG.blk 2 (pc' := 11) (ls' := [(2, 95), (0, ((t : Nat) : Int)), (0, ((i : Nat) : Int))]) (st' := [(0, 32), (0, ((i : Nat) : Int)), (0, ((57 * t : Nat) : Int)), (2, 119)]) (w' := w) (n' := 142) rfl ?_
  refine qG.gn (P := 32 = 0) (pc' := 12) (ls' := [(2, 95), (0, ((t : Nat) : Int)), (0, ((i : Nat) : Int))]) (st' := [(0, qdiv ((i : Nat) : Int) 32), (0, ((57 * t : Nat) : Int)), (2, 119)]) (w' := w) (n' := 142) rfl (by decide) ?_
  rw [show qdiv ((i : Nat) : Int) 32 = ((i / 32 : Nat) : Int) from (lbd i hi).1]
  refine qG.blk 1 (pc' := 13) (ls' := [(2, 95), (0, ((t : Nat) : Int)), (0, ((i : Nat) : Int))]) (st' := [(0, wrp (((57 * t : Nat) : Int) + ((i / 32 : Nat) : Int))), (2, 119)]) (w' := w) (n' := 142) rfl ?_
  rw [show wrp (((57 * t : Nat) : Int) + ((i / 32 : Nat) : Int)) = ((57 * t + i / 32 : Nat) : Int) from by rw [wrp_id (by omega) (by omega)]; omega]
  refine qG.ild (m := 51300) rfl rfl (by omega) (by decide) ?_
  show qG none d 259 14 [(2, 95), (0, ((t : Nat) : Int)), (0, ((i : Nat) : Int))] [(0, w 119 (57 * t + i / 32))] w 142 Q9
  refine qG.blk 2 (pc' := 17) (ls' := [(2, 95), (0, ((t : Nat) : Int)), (0, ((i : Nat) : Int))]) (st' := [(0, 32), (0, ((i : Nat) : Int)), (0, w 119 (57 * t + i / 32))]) (w' := w) (n' := 142) rfl ?_
  refine qG.gn (P := 32 = 0) (pc' := 18) (ls' := [(2, 95), (0, ((t : Nat) : Int)), (0, ((i : Nat) : Int))]) (st' := [(0, qrem ((i : Nat) : Int) 32), (0, w 119 (57 * t + i / 32))]) (w' := w) (n' := 142) rfl (by decide) ?_
  rw [show qrem ((i : Nat) : Int) 32 = ((i % 32 : Nat) : Int) from (lbd i hi).2]
  refine qG.blk 4 (pc' := 22) (ls' := [(2, 95), (0, ((t : Nat) : Int)), (0, ((i : Nat) : Int))]) (st' := [(0, 1), (0, qand (qshr (w 119 (57 * t + i / 32)) ((i % 32 : Nat) : Int)) 1)]) (w' := w) (n' := 142) rfl ?_
  refine qG.br (P := qand (qshr (w 119 (57 * t + i / 32)) ((i % 32 : Nat) : Int)) 1 = 1) (pc1 := 25) (pc2 := 29) (st1 := []) rfl (fun hgo => ?_) (fun hgo => ?_)
  · skip
    refine qG.blk 2 (pc' := 30) (ls' := [(2, 95), (0, ((t : Nat) : Int)), (0, ((i : Nat) : Int))]) (st' := [(0, 1)]) (w' := w) (n' := 142) rfl ?_
    refine qG.ret rfl (by first | rfl | exact decide_eq_true (by omega)) ?_
    subst hQ9
    exact ⟨by first | (rw [show goB w t i = true from decide_eq_true hgo]; rfl) | (rw [show goB w t i = false from decide_eq_false hgo]; rfl), rfl, rfl⟩
  · skip
    refine qG.blk 1 (pc' := 30) (ls' := [(2, 95), (0, ((t : Nat) : Int)), (0, ((i : Nat) : Int))]) (st' := [(0, 0)]) (w' := w) (n' := 142) rfl ?_
    refine qG.ret rfl (by first | rfl | exact decide_eq_true (by omega)) ?_
    subst hQ9
    exact ⟨by first | (rw [show goB w t i = true from decide_eq_true hgo]; rfl) | (rw [show goB w t i = false from decide_eq_false hgo]; rfl), rfl, rfl⟩
/-- who can go on for the last u seconds of S -/
noncomputable def gF (w : qW) (S : Nat) : Nat → Nat → Bool
  | 0, _ => true
  | u + 1, i => anyF (fun j => gF w S u j && clF w (S - (u + 1)) j) (nxF w i) (w 102 i).toNat
noncomputable def gK (w : qW) (S u t i k : Nat) : Bool := decide (u = 0) || anyF (fun j => gF w S (u - 1) j && clF w t j) (nxF w i) k
theorem gK_F {w : qW} {S u t i : Nat} (h : (t : Int) = (S : Int) - (u : Int)) : gK w S u t i (w 102 i).toNat = gF w S u i := by
  cases u with
  | zero => rfl
  | succ u =>
    unfold gK
    rw [show t = S - (u + 1) by omega]
    rfl
theorem gK_E {w : qW} {S u t i k : Nat} (h : (t : Int) = (S : Int) - (u : Int)) (hk : (k : Int) ≤ w 102 i) (hx : (¬ (k : Int) < w 102 i) ∨ gK w S u t i k = true) : gK w S u t i k = gF w S u i := by
  rw [← gK_F h]
  rcases hx with hx | hx
  · rw [show (w 102 i).toNat = k by omega]
  · rw [hx]
    unfold gK at hx ⊢
    rw [Bool.or_eq_true] at hx
    rcases hx with hx | hx
    · rw [hx]; rfl
    · rw [anyF_le hx _ (by omega), Bool.or_true]
theorem gK_0 {w : qW} {S u t i k : Nat} (h : gK w S u t i k = false) : u ≠ 0 ∧ gK w S u t i (k + 1) = (gF w S (u - 1) (nxF w i k) && clF w t (nxF w i k)) := by
  unfold gK at h ⊢
  rw [Bool.or_eq_false_iff, decide_eq_false_iff_not] at h
  refine ⟨h.1, ?_⟩
  show (_ || (anyF _ _ k || _)) = _
  rw [decide_eq_false h.1, h.2, Bool.false_or, Bool.false_or]
noncomputable def lbW (w w9 : qW) : Prop := (∀ p j, p ≠ 119 → w9 p j = w p j) ∧ yInv zgf zga zra zSp w9
theorem lbW.up {w w9 : qW} {j : Nat} {v : Int} (h : lbW w w9) (hv : -2147483648 ≤ v ∧ v ≤ 2147483647) : lbW w (qup w9 119 j v) := ⟨fun p j hp => by rw [qup_ne hp]; exact h.1 p j hp, zup_a h.2 (b := (-2147483648, 2147483647)) rfl rfl hv⟩
/-- the rows of the seconds after t are laid -/
noncomputable def lbR (w : qW) (S N u : Nat) (w9 : qW) : Prop := ∀ u2 i, u2 < u → i < N → goB w9 (S - u2) i = gF w S u2 i
theorem lbR.up {w w9 : qW} {S N u t q : Nat} {v : Int} (h : lbR w S N u w9) (ht : (t : Int) = (S : Int) - (u : Int)) (hq : q < 57) : lbR w S N u (qup w9 119 (57 * t + q) v) := fun u2 i hu hi => by
  rw [← h u2 i hu hi]
  unfold goB
  rw [qup_j (by omega)]
theorem goB_set {w : qW} {t i j : Nat} (hi : i < 1820) (hj : j < 1820) : goB (qup w 119 (57 * t + i / 32) (qor (w 119 (57 * t + i / 32)) (qshl 1 ((i % 32 : Nat) : Int)))) t j = (goB w t j || decide (i = j)) := by
  unfold goB
  by_cases e : i / 32 = j / 32
  · rw [e, qup_k, hbit_or (Nat.mod_lt _ (by decide)), hbit_1 _ (Nat.mod_lt _ (by decide)) _ (Nat.mod_lt _ (by decide))]
    congr 1
    by_cases e2 : i = j
    · rw [e2, decide_eq_true rfl, decide_eq_true rfl]
    · rw [decide_eq_false e2, decide_eq_false (by omega)]
  · rw [qup_j (by omega), decide_eq_false (by omega), Bool.or_false]
theorem goB_n {w : qW} {t : Nat} (h : ∀ k, k < 57 → w 119 (57 * t + k) = 0) {j : Nat} (hj : j < 1820) : goB w t j = false := by
  unfold goB
  rw [h (j / 32) (by omega), hbit_z _ (Nat.mod_lt _ (by decide))]
theorem lbR.nx {w w9 : qW} {S N u t : Nat} (h : lbR w S N u w9) (ht : (t : Int) = (S : Int) - (u : Int)) (hr : ∀ j, j < N → goB w9 t j = gF w S u j) : lbR w S N (u + 1) w9 := fun u2 i hu hi => by
  by_cases e : u2 = u
  · subst e; rw [show S - u2 = t by omega]; exact hr i hi
  · exact h u2 i (by omega) hi
theorem rows.z {w : qW} {t k : Nat} (h : ∀ q, q < k → w 119 (57 * t + q) = 0) : ∀ q, q < k + 1 → qup w 119 (57 * t + k) 0 119 (57 * t + q) = 0 := fun q hq => by
  by_cases e : q = k
  · subst e; rw [qup_k]
  · rw [qup_j (by omega)]; exact h q (by omega)
theorem rows.g {f g : Nat → Bool} {i : Nat} (h : ∀ j, j < i → f j = g j) (hv : f i = g i) : ∀ j, j < i + 1 → f j = g j := fun j hj => by
  by_cases e : j = i
  · subst e; exact hv
  · exact h j (by omega)
theorem K_leadsBack {d : Nat} (hd : 1 ≤ d) (N S : Nat) (w : qW) (hI : yInv zgf zga zra zSp w) (hS : S3 w) (hN : w 95 8 = (N : Int)) (hSS : w 95 37 = (S : Int)) : qG none d 260 0 [(2, 95), (9, 0), (9, 0), (9, 0), (9, 0)] [] w 142 (fun (r : qV) (w1 : qW) (n1 : Nat) => r = (9, 0) ∧ n1 = 142 ∧ lbW w w1 ∧ ∀ u i, u ≤ S → i < N → goB w1 (S - u) i = gF w S u i) := by
  generalize hQ9 : (fun (r : qV) (w1 : qW) (n1 : Nat) => r = (9, 0) ∧ n1 = 142 ∧ lbW w w1 ∧ ∀ u i, u ≤ S → i < N → goB w1 (S - u) i = gF w S u i) = Q9
  have h8 := zfld hI (j := 8) (b := (0, 1820)) rfl
  have h37 := zfld hI (j := 37) (b := (0, 800)) rfl
  have a8 : (0 : Int) ≤ w 95 8 := h8.1
  have b8 : w 95 8 ≤ (1820 : Int) := h8.2
  have a37 : (0 : Int) ≤ w 95 37 := h37.1
  have b37 : w 95 37 ≤ (800 : Int) := h37.2
  have hm2 : ∀ i, (0 : Int) ≤ w 102 i ∧ w 102 i ≤ 50 := fun i => hI.2.1 102 i (0, 50) rfl rfl
  obtain ⟨d, rfl⟩ : ∃ d9, d = d9 + 1 := ⟨d - 1, by omega⟩
  refine qG.blk 2 (pc' := 4) (ls' := [(2, 95), (9, 0), (9, 0), (9, 0), (9, 0)]) (st' := [(0, w 95 37)]) (w' := w) (n' := 142) rfl ?_
  rw [show w 95 37 = ((S : Nat) : Int) from hSS]
  refine qG.blk 1 (pc' := 5) (ls' := [(2, 95), (0, ((S : Nat) : Int)), (9, 0), (9, 0), (9, 0)]) (st' := []) (w' := w) (n' := 142) rfl ?_
  have L5 : ∀ (m9 : Nat) (u : Nat) (x1 : Int) (w9 : qW) (x2 x3 x4 : qV), S + 1 - u = m9 → (x1 = (S : Int) - (u : Int) ∧ u ≤ S + 1 ∧ lbW w w9 ∧ lbR w S N u w9) → qG none (d + 1) 260 5 [(2, 95), (0, x1), x2, x3, x4] [] w9 142 Q9 := by
    intro m9
    induction m9 using Nat.strongRecOn with
    | ind m9 ih5 =>
    intro u x1 w9 x2 x3 x4 hm5 hI5
    refine qG.blk 1 (pc' := 6) (ls' := [(2, 95), (0, x1), x2, x3, x4]) (st' := [(0, x1)]) (w' := w9) (n' := 142) rfl ?_
    refine qG.br (P := x1 < 0) (pc1 := 177) (pc2 := 9) (st1 := []) rfl (fun ht0 => ?_) (fun ht0 => ?_)
    · skip
      refine qG.retv rfl rfl ?_
      subst hQ9
      exact ⟨rfl, rfl, hI5.2.2.1, fun u2 i h1 h2 => hI5.2.2.2 u2 i (by omega) h2⟩
    · skip
      obtain ⟨t, rfl⟩ : ∃ t : Nat, x1 = (t : Int) := ⟨x1.toNat, by omega⟩
      have ht : (t : Int) = (S : Int) - (u : Int) := hI5.1
      refine qG.blk 2 (pc' := 11) (ls' := [(2, 95), (0, ((t : Nat) : Int)), (0, 0), x3, x4]) (st' := []) (w' := w9) (n' := 142) rfl ?_
      have L11 : ∀ (m9 : Nat) (k : Nat) (w8 : qW), 57 - k = m9 → (k ≤ 57 ∧ lbW w w8 ∧ (∀ q, q < k → w8 119 (57 * t + q) = 0) ∧ lbR w S N u w8) → qG none (d + 1) 260 11 [(2, 95), (0, ((t : Nat) : Int)), (0, ((k : Nat) : Int)), x3, x4] [] w8 142 Q9 := by
        intro m9
        induction m9 using Nat.strongRecOn with
        | ind m9 ih11 =>
        intro k w8 hm11 hI11
        refine qG.blk 2 (pc' := 14) (ls' := [(2, 95), (0, ((t : Nat) : Int)), (0, ((k : Nat) : Int)), x3, x4]) (st' := [(0, 57), (0, ((k : Nat) : Int))]) (w' := w8) (n' := 142) rfl ?_
        refine qG.br (P := ((k : Nat) : Int) < 57) (pc1 := 17) (pc2 := 35) (st1 := []) rfl (fun hk57 => ?_) (fun hk57 => ?_)
        · skip
          refine qG.blk 2 (pc' := 21) (ls' := [(2, 95), (0, ((t : Nat) : Int)), (0, ((k : Nat) : Int)), x3, x4]) (st' := [(2, w8 95 47)]) (w' := w8) (n' := 142) rfl ?_
          rw [show w8 95 47 = 119 from zref hI11.2.1.2 rfl rfl]
          refine qG.blk 3 (pc' := 25) (ls' := [(2, 95), (0, ((t : Nat) : Int)), (0, ((k : Nat) : Int)), x3, x4]) (st' := [(0, wrp (57 * ((t : Nat) : Int))), (2, 119)]) (w' := w8) (n' := 142) rfl ?_
          rw [show wrp (57 * ((t : Nat) : Int)) = ((57 * t : Nat) : Int) from by rw [wrp_id (by omega) (by omega)]; omega]
          refine qG.blk 2 (pc' := 27) (ls' := [(2, 95), (0, ((t : Nat) : Int)), (0, ((k : Nat) : Int)), x3, x4]) (st' := [(0, wrp (((57 * t : Nat) : Int) + ((k : Nat) : Int))), (2, 119)]) (w' := w8) (n' := 142) rfl ?_
          rw [show wrp (((57 * t : Nat) : Int) + ((k : Nat) : Int)) = ((57 * t + k : Nat) : Int) from by rw [wrp_id (by omega) (by omega)]; omega]
          refine qG.blk 1 (pc' := 28) (ls' := [(2, 95), (0, ((t : Nat) : Int)), (0, ((k : Nat) : Int)), x3, x4]) (st' := [(0, 0), (0, ((57 * t + k : Nat) : Int)), (2, 119)]) (w' := w8) (n' := 142) rfl ?_
          refine qG.ist (m := 51300) rfl rfl (by omega) (by decide) ?_
          show qG none (d + 1) 260 29 [(2, 95), (0, ((t : Nat) : Int)), (0, ((k : Nat) : Int)), x3, x4] [] (qup w8 119 (57 * t + k) 0) 142 Q9
          refine qG.blk 1 (pc' := 32) (ls' := [(2, 95), (0, ((t : Nat) : Int)), (0, wrp (((k : Nat) : Int) + 1)), x3, x4]) (st' := []) (w' := (qup w8 119 (57 * t + k) 0)) (n' := 142) rfl ?_
          rw [show wrp (((k : Nat) : Int) + 1) = ((k + 1 : Nat) : Int) from wrp_id (by omega) (by omega)]
          refine qG.blk 1 (pc' := 11) (ls' := [(2, 95), (0, ((t : Nat) : Int)), (0, ((k + 1 : Nat) : Int)), x3, x4]) (st' := []) (w' := (qup w8 119 (57 * t + k) 0)) (n' := 142) rfl ?_
          exact ih11 _ (by omega) (k + 1) ((qup w8 119 (57 * t + k) 0)) rfl (⟨by omega, hI11.2.1.up (by decide), rows.z hI11.2.2.1, hI11.2.2.2.up ht (by omega)⟩)
        · skip
          refine qG.blk 2 (pc' := 37) (ls' := [(2, 95), (0, ((t : Nat) : Int)), (0, 0), x3, x4]) (st' := []) (w' := w8) (n' := 142) rfl ?_
          have L37 : ∀ (m9 : Nat) (i : Nat) (w7 : qW) (x3 x4 : qV), N - i = m9 → (i ≤ N ∧ lbW w w7 ∧ (∀ j, j < i → goB w7 t j = gF w S u j) ∧ (∀ j, i ≤ j → j < 1820 → goB w7 t j = false) ∧ lbR w S N u w7) → qG none (d + 1) 260 37 [(2, 95), (0, ((t : Nat) : Int)), (0, ((i : Nat) : Int)), x3, x4] [] w7 142 Q9 := by
            intro m9
            induction m9 using Nat.strongRecOn with
            | ind m9 ih37 =>
            intro i w7 x3 x4 hm37 hI37
            have hm2i := hm2 i
            refine qG.blk 3 (pc' := 42) (ls' := [(2, 95), (0, ((t : Nat) : Int)), (0, ((i : Nat) : Int)), x3, x4]) (st' := [(0, w7 95 8), (0, ((i : Nat) : Int))]) (w' := w7) (n' := 142) rfl ?_
            rw [show w7 95 8 = ((N : Nat) : Int) from (hI37.2.1.1 95 (8) (by decide)).trans hN]
            refine qG.br (P := ((i : Nat) : Int) < ((N : Nat) : Int)) (pc1 := 45) (pc2 := 171) (st1 := []) rfl (fun hiN => ?_) (fun hiN => ?_)
            · skip
              refine qG.blk 3 (pc' := 50) (ls' := [(2, 95), (0, ((t : Nat) : Int)), (0, ((i : Nat) : Int)), x3, x4]) (st' := [(0, w7 95 37), (0, ((t : Nat) : Int))]) (w' := w7) (n' := 142) rfl ?_
              rw [show w7 95 37 = ((S : Nat) : Int) from (hI37.2.1.1 95 (37) (by decide)).trans hSS]
              refine qG.br (P := ((t : Nat) : Int) = ((S : Nat) : Int)) (pc1 := 53) (pc2 := 57) (st1 := []) rfl (fun h1 => ?_) (fun h1 => ?_)
              · skip
                refine qG.blk 5 (pc' := 62) (ls' := [(2, 95), (0, ((t : Nat) : Int)), (0, ((i : Nat) : Int)), (0, 1), (0, 0)]) (st' := []) (w' := w7) (n' := 142) rfl ?_
                have L62 : ∀ (m9 : Nat) (k : Nat) (x3 : Int), 50 - k = m9 → ((k : Int) ≤ w 102 i ∧ x3 = b01 (gK w S u t i k)) → qG none (d + 1) 260 62 [(2, 95), (0, ((t : Nat) : Int)), (0, ((i : Nat) : Int)), (0, x3), (0, ((k : Nat) : Int))] [] w7 142 Q9 := by
                  intro m9
                  induction m9 using Nat.strongRecOn with
                  | ind m9 ih62 =>
                  intro k x3 hm62 hI62
                  refine qG.blk 3 (pc' := 68) (ls' := [(2, 95), (0, ((t : Nat) : Int)), (0, ((i : Nat) : Int)), (0, x3), (0, ((k : Nat) : Int))]) (st' := [(2, w7 95 6), (0, ((k : Nat) : Int))]) (w' := w7) (n' := 142) rfl ?_
                  rw [show w7 95 6 = 102 from zref hI37.2.1.2 rfl rfl]
                  refine qG.blk 1 (pc' := 69) (ls' := [(2, 95), (0, ((t : Nat) : Int)), (0, ((i : Nat) : Int)), (0, x3), (0, ((k : Nat) : Int))]) (st' := [(0, ((i : Nat) : Int)), (2, 102), (0, ((k : Nat) : Int))]) (w' := w7) (n' := 142) rfl ?_
                  refine qG.ild (m := 1820) rfl rfl (by omega) (by decide) ?_
                  show qG none (d + 1) 260 70 [(2, 95), (0, ((t : Nat) : Int)), (0, ((i : Nat) : Int)), (0, x3), (0, ((k : Nat) : Int))] [(0, w7 102 i), (0, ((k : Nat) : Int))] w7 142 Q9
                  rw [show w7 102 i = w 102 i from hI37.2.1.1 102 (i) (by decide)]
                  refine qG.br (P := ((k : Nat) : Int) < w 102 i) (pc1 := 73) (pc2 := 138) (st1 := []) rfl (fun hkm => ?_) (fun hkm => ?_)
                  · skip
                    have hnx : nxF w i k < N := nx_lt hI hS hN (by omega) hkm
                    refine qG.blk 1 (pc' := 74) (ls' := [(2, 95), (0, ((t : Nat) : Int)), (0, ((i : Nat) : Int)), (0, x3), (0, ((k : Nat) : Int))]) (st' := [(0, x3)]) (w' := w7) (n' := 142) rfl ?_
                    refine qG.br (P := x3 = 0) (pc1 := 77) (pc2 := 138) (st1 := []) rfl (fun hg1 => ?_) (fun hg1 => ?_)
                    · skip
                      have hg0 := gK_0 (b01_0 (hI62.2 ▸ hg1))
                      have hu0 := hg0.1
                      refine qG.blk 4 (pc' := 81) (ls' := [(2, 95), (0, ((t : Nat) : Int)), (0, ((i : Nat) : Int)), (0, x3), (0, ((k : Nat) : Int))]) (st' := [(0, wrp (((t : Nat) : Int) + 1)), (2, 95)]) (w' := w7) (n' := 142) rfl ?_
                      rw [show wrp (((t : Nat) : Int) + 1) = ((t + 1 : Nat) : Int) from by rw [wrp_id (by omega) (by omega)]; omega]
                      refine qG.blk 2 (pc' := 85) (ls' := [(2, 95), (0, ((t : Nat) : Int)), (0, ((i : Nat) : Int)), (0, x3), (0, ((k : Nat) : Int))]) (st' := [(2, w7 95 7), (0, ((t + 1 : Nat) : Int)), (2, 95)]) (w' := w7) (n' := 142) rfl ?_
                      rw [show w7 95 7 = 103 from zref hI37.2.1.2 rfl rfl]
                      refine qG.blk 3 (pc' := 89) (ls' := [(2, 95), (0, ((t : Nat) : Int)), (0, ((i : Nat) : Int)), (0, x3), (0, ((k : Nat) : Int))]) (st' := [(0, wrp (50 * ((i : Nat) : Int))), (2, 103), (0, ((t + 1 : Nat) : Int)), (2, 95)]) (w' := w7) (n' := 142) rfl ?_
                      rw [show wrp (50 * ((i : Nat) : Int)) = ((50 * i : Nat) : Int) from by rw [wrp_id (by omega) (by omega)]; omega]
                      refine qG.blk 2 (pc' := 92) (ls' := [(2, 95), (0, ((t : Nat) : Int)), (0, ((i : Nat) : Int)), (0, x3), (0, ((k : Nat) : Int))]) (st' := [(0, wrp (((50 * i : Nat) : Int) + ((k : Nat) : Int))), (2, 103), (0, ((t + 1 : Nat) : Int)), (2, 95)]) (w' := w7) (n' := 142) rfl ?_
                      rw [show wrp (((50 * i : Nat) : Int) + ((k : Nat) : Int)) = ((50 * i + k : Nat) : Int) from by rw [wrp_id (by omega) (by omega)]; omega]
                      refine qG.ild (m := 91000) rfl rfl (by omega) (by decide) ?_
                      show qG none (d + 1) 260 93 [(2, 95), (0, ((t : Nat) : Int)), (0, ((i : Nat) : Int)), (0, x3), (0, ((k : Nat) : Int))] [(0, w7 103 (50 * i + k)), (0, ((t + 1 : Nat) : Int)), (2, 95)] w7 142 Q9
                      rw [show w7 103 (50 * i + k) = ((nxF w i k : Nat) : Int) from (hI37.2.1.1 103 ((50 * i + k)) (by decide)).trans (nx_e hI i k)]
                      refine qG.call (t := 259) (na := 3) (sk := 1) (md := 1) (ls1 := [(2, 95), (0, ((t + 1 : Nat) : Int)), (0, ((nxF w i k : Nat) : Int))]) (r1 := []) rfl rfl rfl rfl rfl (K_isGoing (Nat.zero_le _) (t + 1) (nxF w i k) (by omega) (by omega) w7 hI37.2.1.2) ?_
                      rintro _ w6 _ ⟨rfl, hw6, rfl⟩
                      rw [hw6, show goB w7 (t + 1) (nxF w i k) = gF w S (u - 1) (nxF w i k) from (by have q := hI37.2.2.2.2 (u - 1) (nxF w i k) (by omega) hnx; rw [← q, show S - (u - 1) = t + 1 by omega])]
                      show qG none (d + 1) 260 96 [(2, 95), (0, ((t : Nat) : Int)), (0, ((i : Nat) : Int)), (0, x3), (0, ((k : Nat) : Int))] [(0, b01 (gF w S (u - 1) (nxF w i k)))] w7 142 Q9
                      refine qG.br (P := b01 (gF w S (u - 1) (nxF w i k)) = 0) (pc1 := 130) (pc2 := 99) (st1 := []) rfl (fun hgo => ?_) (fun hgo => ?_)
                      · skip
                        refine qG.blk 3 (pc' := 135) (ls' := [(2, 95), (0, ((t : Nat) : Int)), (0, ((i : Nat) : Int)), (0, 0), (0, wrp (((k : Nat) : Int) + 1))]) (st' := []) (w' := w7) (n' := 142) rfl ?_
                        rw [show wrp (((k : Nat) : Int) + 1) = ((k + 1 : Nat) : Int) from wrp_id (by omega) (by omega)]
                        refine qG.blk 1 (pc' := 62) (ls' := [(2, 95), (0, ((t : Nat) : Int)), (0, ((i : Nat) : Int)), (0, 0), (0, ((k + 1 : Nat) : Int))]) (st' := []) (w' := w7) (n' := 142) rfl ?_
                        exact ih62 _ (by omega) (k + 1) (0) rfl (⟨by omega, by rw [hg0.2]; first | (rw [b01_1 hgo, show clF w t (nxF w i k) = true from decide_eq_true hcl]; rfl) | (rw [b01_0 hgo]; rfl) | (rw [b01_1 hgo, show clF w t (nxF w i k) = false from decide_eq_false hcl]; rfl)⟩)
                      · skip
                        refine qG.blk 2 (pc' := 103) (ls' := [(2, 95), (0, ((t : Nat) : Int)), (0, ((i : Nat) : Int)), (0, x3), (0, ((k : Nat) : Int))]) (st' := [(2, w7 95 5)]) (w' := w7) (n' := 142) rfl ?_
                        rw [show w7 95 5 = 101 from zref hI37.2.1.2 rfl rfl]
                        refine qG.blk 2 (pc' := 107) (ls' := [(2, 95), (0, ((t : Nat) : Int)), (0, ((i : Nat) : Int)), (0, x3), (0, ((k : Nat) : Int))]) (st' := [(2, w7 95 7), (2, 101)]) (w' := w7) (n' := 142) rfl ?_
                        rw [show w7 95 7 = 103 from zref hI37.2.1.2 rfl rfl]
                        refine qG.blk 3 (pc' := 111) (ls' := [(2, 95), (0, ((t : Nat) : Int)), (0, ((i : Nat) : Int)), (0, x3), (0, ((k : Nat) : Int))]) (st' := [(0, wrp (50 * ((i : Nat) : Int))), (2, 103), (2, 101)]) (w' := w7) (n' := 142) rfl ?_
                        rw [show wrp (50 * ((i : Nat) : Int)) = ((50 * i : Nat) : Int) from by rw [wrp_id (by omega) (by omega)]; omega]
                        refine qG.blk 2 (pc' := 114) (ls' := [(2, 95), (0, ((t : Nat) : Int)), (0, ((i : Nat) : Int)), (0, x3), (0, ((k : Nat) : Int))]) (st' := [(0, wrp (((50 * i : Nat) : Int) + ((k : Nat) : Int))), (2, 103), (2, 101)]) (w' := w7) (n' := 142) rfl ?_
                        rw [show wrp (((50 * i : Nat) : Int) + ((k : Nat) : Int)) = ((50 * i + k : Nat) : Int) from by rw [wrp_id (by omega) (by omega)]; omega]
                        refine qG.ild (m := 91000) rfl rfl (by omega) (by decide) ?_
                        show qG none (d + 1) 260 115 [(2, 95), (0, ((t : Nat) : Int)), (0, ((i : Nat) : Int)), (0, x3), (0, ((k : Nat) : Int))] [(0, w7 103 (50 * i + k)), (2, 101)] w7 142 Q9
                        rw [show w7 103 (50 * i + k) = ((nxF w i k : Nat) : Int) from (hI37.2.1.1 103 ((50 * i + k)) (by decide)).trans (nx_e hI i k)]
                        refine qG.ild (m := 1820) rfl rfl (by omega) (by decide) ?_
                        show qG none (d + 1) 260 116 [(2, 95), (0, ((t : Nat) : Int)), (0, ((i : Nat) : Int)), (0, x3), (0, ((k : Nat) : Int))] [(0, w7 101 (nxF w i k))] w7 142 Q9
                        rw [show w7 101 (nxF w i k) = w 101 (nxF w i k) from hI37.2.1.1 101 ((nxF w i k)) (by decide)]
                        refine qG.blk 2 (pc' := 120) (ls' := [(2, 95), (0, ((t : Nat) : Int)), (0, ((i : Nat) : Int)), (0, x3), (0, ((k : Nat) : Int))]) (st' := [(2, w7 95 36), (0, w 101 (nxF w i k))]) (w' := w7) (n' := 142) rfl ?_
                        rw [show w7 95 36 = 116 from zref hI37.2.1.2 rfl rfl]
                        refine qG.blk 1 (pc' := 121) (ls' := [(2, 95), (0, ((t : Nat) : Int)), (0, ((i : Nat) : Int)), (0, x3), (0, ((k : Nat) : Int))]) (st' := [(0, ((t : Nat) : Int)), (2, 116), (0, w 101 (nxF w i k))]) (w' := w7) (n' := 142) rfl ?_
                        refine qG.ild (m := 900) rfl rfl (by omega) (by decide) ?_
                        show qG none (d + 1) 260 122 [(2, 95), (0, ((t : Nat) : Int)), (0, ((i : Nat) : Int)), (0, x3), (0, ((k : Nat) : Int))] [(0, w7 116 t), (0, w 101 (nxF w i k))] w7 142 Q9
                        rw [show w7 116 t = w 116 t from hI37.2.1.1 116 (t) (by decide)]
                        refine qG.blk 1 (pc' := 123) (ls' := [(2, 95), (0, ((t : Nat) : Int)), (0, ((i : Nat) : Int)), (0, x3), (0, ((k : Nat) : Int))]) (st' := [(0, qand (w 101 (nxF w i k)) (w 116 t))]) (w' := w7) (n' := 142) rfl ?_
                        refine qG.br (P := qand (w 101 (nxF w i k)) (w 116 t) = 0) (pc1 := 126) (pc2 := 130) (st1 := []) rfl (fun hcl => ?_) (fun hcl => ?_)
                        · skip
                          refine qG.blk 4 (pc' := 135) (ls' := [(2, 95), (0, ((t : Nat) : Int)), (0, ((i : Nat) : Int)), (0, 1), (0, wrp (((k : Nat) : Int) + 1))]) (st' := []) (w' := w7) (n' := 142) rfl ?_
                          rw [show wrp (((k : Nat) : Int) + 1) = ((k + 1 : Nat) : Int) from wrp_id (by omega) (by omega)]
                          refine qG.blk 1 (pc' := 62) (ls' := [(2, 95), (0, ((t : Nat) : Int)), (0, ((i : Nat) : Int)), (0, 1), (0, ((k + 1 : Nat) : Int))]) (st' := []) (w' := w7) (n' := 142) rfl ?_
                          exact ih62 _ (by omega) (k + 1) (1) rfl (⟨by omega, by rw [hg0.2]; first | (rw [b01_1 hgo, show clF w t (nxF w i k) = true from decide_eq_true hcl]; rfl) | (rw [b01_0 hgo]; rfl) | (rw [b01_1 hgo, show clF w t (nxF w i k) = false from decide_eq_false hcl]; rfl)⟩)
                        · skip
                          refine qG.blk 3 (pc' := 135) (ls' := [(2, 95), (0, ((t : Nat) : Int)), (0, ((i : Nat) : Int)), (0, 0), (0, wrp (((k : Nat) : Int) + 1))]) (st' := []) (w' := w7) (n' := 142) rfl ?_
                          rw [show wrp (((k : Nat) : Int) + 1) = ((k + 1 : Nat) : Int) from wrp_id (by omega) (by omega)]
                          refine qG.blk 1 (pc' := 62) (ls' := [(2, 95), (0, ((t : Nat) : Int)), (0, ((i : Nat) : Int)), (0, 0), (0, ((k + 1 : Nat) : Int))]) (st' := []) (w' := w7) (n' := 142) rfl ?_
                          exact ih62 _ (by omega) (k + 1) (0) rfl (⟨by omega, by rw [hg0.2]; first | (rw [b01_1 hgo, show clF w t (nxF w i k) = true from decide_eq_true hcl]; rfl) | (rw [b01_0 hgo]; rfl) | (rw [b01_1 hgo, show clF w t (nxF w i k) = false from decide_eq_false hcl]; rfl)⟩)
                    · skip
                      have hE := gK_E ht hI62.1 (.inr (b01_1 (hI62.2 ▸ hg1)))
                      refine qG.blk 1 (pc' := 139) (ls' := [(2, 95), (0, ((t : Nat) : Int)), (0, ((i : Nat) : Int)), (0, x3), (0, ((k : Nat) : Int))]) (st' := [(0, x3)]) (w' := w7) (n' := 142) rfl ?_
                      refine qG.br (P := x3 = 0) (pc1 := 165) (pc2 := 142) (st1 := []) rfl (fun hgd => ?_) (fun hgd => ?_)
                      · skip
                        refine qG.blk 1 (pc' := 168) (ls' := [(2, 95), (0, ((t : Nat) : Int)), (0, wrp (((i : Nat) : Int) + 1)), (0, x3), (0, ((k : Nat) : Int))]) (st' := []) (w' := w7) (n' := 142) rfl ?_
                        rw [show wrp (((i : Nat) : Int) + 1) = ((i + 1 : Nat) : Int) from wrp_id (by omega) (by omega)]
                        refine qG.blk 1 (pc' := 37) (ls' := [(2, 95), (0, ((t : Nat) : Int)), (0, ((i + 1 : Nat) : Int)), (0, x3), (0, ((k : Nat) : Int))]) (st' := []) (w' := w7) (n' := 142) rfl ?_
                        exact ih37 _ (by omega) (i + 1) (w7) ((0, x3)) ((0, ((k : Nat) : Int))) rfl (⟨by omega, hI37.2.1, rows.g hI37.2.2.1 (by rw [hI37.2.2.2.1 i (Nat.le_refl _) (by omega)]; exact hE ▸ (b01_0 (hI62.2 ▸ hgd)).symm), fun j h1 h2 => hI37.2.2.2.1 j (by omega) h2, hI37.2.2.2.2⟩)
                      · skip
                        refine qG.blk 2 (pc' := 146) (ls' := [(2, 95), (0, ((t : Nat) : Int)), (0, ((i : Nat) : Int)), (0, x3), (0, ((k : Nat) : Int))]) (st' := [(2, w7 95 47)]) (w' := w7) (n' := 142) rfl ?_
                        rw [show w7 95 47 = 119 from zref hI37.2.1.2 rfl rfl]
                        refine qG.blk 3 (pc' := 150) (ls' := [(2, 95), (0, ((t : Nat) : Int)), (0, ((i : Nat) : Int)), (0, x3), (0, ((k : Nat) : Int))]) (st' := [(0, wrp (57 * ((t : Nat) : Int))), (2, 119)]) (w' := w7) (n' := 142) rfl ?_
                        rw [show wrp (57 * ((t : Nat) : Int)) = ((57 * t : Nat) : Int) from by rw [wrp_id (by omega) (by omega)]; omega]
                        refine qG.blk 2 (pc' := 153) (ls' := [(2, 95), (0, ((t : Nat) : Int)), (0, ((i : Nat) : Int)), (0, x3), (0, ((k : Nat) : Int))]) (st' := [(0, 32), (0, ((i : Nat) : Int)), (0, ((57 * t : Nat) : Int)), (2, 119)]) (w' := w7) (n' := 142) rfl ?_
                        refine qG.gn (P := 32 = 0) (pc' := 154) (ls' := [(2, 95), (0, ((t : Nat) : Int)), (0, ((i : Nat) : Int)), (0, x3), (0, ((k : Nat) : Int))]) (st' := [(0, qdiv ((i : Nat) : Int) 32), (0, ((57 * t : Nat) : Int)), (2, 119)]) (w' := w7) (n' := 142) rfl (by decide) ?_
                        rw [show qdiv ((i : Nat) : Int) 32 = ((i / 32 : Nat) : Int) from (lbd i (by omega)).1]
                        refine qG.blk 1 (pc' := 155) (ls' := [(2, 95), (0, ((t : Nat) : Int)), (0, ((i : Nat) : Int)), (0, x3), (0, ((k : Nat) : Int))]) (st' := [(0, wrp (((57 * t : Nat) : Int) + ((i / 32 : Nat) : Int))), (2, 119)]) (w' := w7) (n' := 142) rfl ?_
                        rw [show wrp (((57 * t : Nat) : Int) + ((i / 32 : Nat) : Int)) = ((57 * t + i / 32 : Nat) : Int) from by rw [wrp_id (by omega) (by omega)]; omega]
                        refine qG.blk 1 (pc' := 156) (ls' := [(2, 95), (0, ((t : Nat) : Int)), (0, ((i : Nat) : Int)), (0, x3), (0, ((k : Nat) : Int))]) (st' := [(0, ((57 * t + i / 32 : Nat) : Int)), (2, 119), (0, ((57 * t + i / 32 : Nat) : Int)), (2, 119)]) (w' := w7) (n' := 142) rfl ?_
                        refine qG.ild (m := 51300) rfl rfl (by omega) (by decide) ?_
                        show qG none (d + 1) 260 157 [(2, 95), (0, ((t : Nat) : Int)), (0, ((i : Nat) : Int)), (0, x3), (0, ((k : Nat) : Int))] [(0, w7 119 (57 * t + i / 32)), (0, ((57 * t + i / 32 : Nat) : Int)), (2, 119)] w7 142 Q9
                        refine qG.blk 3 (pc' := 161) (ls' := [(2, 95), (0, ((t : Nat) : Int)), (0, ((i : Nat) : Int)), (0, x3), (0, ((k : Nat) : Int))]) (st' := [(0, 32), (0, ((i : Nat) : Int)), (0, 1), (0, w7 119 (57 * t + i / 32)), (0, ((57 * t + i / 32 : Nat) : Int)), (2, 119)]) (w' := w7) (n' := 142) rfl ?_
                        refine qG.gn (P := 32 = 0) (pc' := 162) (ls' := [(2, 95), (0, ((t : Nat) : Int)), (0, ((i : Nat) : Int)), (0, x3), (0, ((k : Nat) : Int))]) (st' := [(0, qrem ((i : Nat) : Int) 32), (0, 1), (0, w7 119 (57 * t + i / 32)), (0, ((57 * t + i / 32 : Nat) : Int)), (2, 119)]) (w' := w7) (n' := 142) rfl (by decide) ?_
                        rw [show qrem ((i : Nat) : Int) 32 = ((i % 32 : Nat) : Int) from (lbd i (by omega)).2]
                        refine qG.blk 2 (pc' := 164) (ls' := [(2, 95), (0, ((t : Nat) : Int)), (0, ((i : Nat) : Int)), (0, x3), (0, ((k : Nat) : Int))]) (st' := [(0, qor (w7 119 (57 * t + i / 32)) (qshl 1 ((i % 32 : Nat) : Int))), (0, ((57 * t + i / 32 : Nat) : Int)), (2, 119)]) (w' := w7) (n' := 142) rfl ?_
                        refine qG.ist (m := 51300) rfl rfl (by omega) (by decide) ?_
                        show qG none (d + 1) 260 165 [(2, 95), (0, ((t : Nat) : Int)), (0, ((i : Nat) : Int)), (0, x3), (0, ((k : Nat) : Int))] [] (qup w7 119 (57 * t + i / 32) (qor (w7 119 (57 * t + i / 32)) (qshl 1 ((i % 32 : Nat) : Int)))) 142 Q9
                        refine qG.blk 1 (pc' := 168) (ls' := [(2, 95), (0, ((t : Nat) : Int)), (0, wrp (((i : Nat) : Int) + 1)), (0, x3), (0, ((k : Nat) : Int))]) (st' := []) (w' := (qup w7 119 (57 * t + i / 32) (qor (w7 119 (57 * t + i / 32)) (qshl 1 ((i % 32 : Nat) : Int))))) (n' := 142) rfl ?_
                        rw [show wrp (((i : Nat) : Int) + 1) = ((i + 1 : Nat) : Int) from wrp_id (by omega) (by omega)]
                        refine qG.blk 1 (pc' := 37) (ls' := [(2, 95), (0, ((t : Nat) : Int)), (0, ((i + 1 : Nat) : Int)), (0, x3), (0, ((k : Nat) : Int))]) (st' := []) (w' := (qup w7 119 (57 * t + i / 32) (qor (w7 119 (57 * t + i / 32)) (qshl 1 ((i % 32 : Nat) : Int))))) (n' := 142) rfl ?_
                        exact ih37 _ (by omega) (i + 1) ((qup w7 119 (57 * t + i / 32) (qor (w7 119 (57 * t + i / 32)) (qshl 1 ((i % 32 : Nat) : Int))))) ((0, x3)) ((0, ((k : Nat) : Int))) rfl (⟨by omega, hI37.2.1.up (y32_i _), rows.g (fun j hj => by rw [goB_set (by omega) (by omega), hI37.2.2.1 j hj, decide_eq_false (show ¬ i = j by omega), Bool.or_false]) (by rw [goB_set (by omega) (by omega), decide_eq_true rfl, Bool.or_true]; exact hE ▸ (b01_1 (hI62.2 ▸ hgd)).symm), fun j h1 h2 => by rw [goB_set (by omega) h2, hI37.2.2.2.1 j (by omega) h2, decide_eq_false (show ¬ i = j by omega)]; rfl, hI37.2.2.2.2.up ht (by omega)⟩)
                  · skip
                    have hE := gK_E ht hI62.1 (.inl hkm)
                    refine qG.blk 1 (pc' := 139) (ls' := [(2, 95), (0, ((t : Nat) : Int)), (0, ((i : Nat) : Int)), (0, x3), (0, ((k : Nat) : Int))]) (st' := [(0, x3)]) (w' := w7) (n' := 142) rfl ?_
                    refine qG.br (P := x3 = 0) (pc1 := 165) (pc2 := 142) (st1 := []) rfl (fun hgd => ?_) (fun hgd => ?_)
                    · skip
                      refine qG.blk 1 (pc' := 168) (ls' := [(2, 95), (0, ((t : Nat) : Int)), (0, wrp (((i : Nat) : Int) + 1)), (0, x3), (0, ((k : Nat) : Int))]) (st' := []) (w' := w7) (n' := 142) rfl ?_
                      rw [show wrp (((i : Nat) : Int) + 1) = ((i + 1 : Nat) : Int) from wrp_id (by omega) (by omega)]
                      refine qG.blk 1 (pc' := 37) (ls' := [(2, 95), (0, ((t : Nat) : Int)), (0, ((i + 1 : Nat) : Int)), (0, x3), (0, ((k : Nat) : Int))]) (st' := []) (w' := w7) (n' := 142) rfl ?_
                      exact ih37 _ (by omega) (i + 1) (w7) ((0, x3)) ((0, ((k : Nat) : Int))) rfl (⟨by omega, hI37.2.1, rows.g hI37.2.2.1 (by rw [hI37.2.2.2.1 i (Nat.le_refl _) (by omega)]; exact hE ▸ (b01_0 (hI62.2 ▸ hgd)).symm), fun j h1 h2 => hI37.2.2.2.1 j (by omega) h2, hI37.2.2.2.2⟩)
                    · skip
                      refine qG.blk 2 (pc' := 146) (ls' := [(2, 95), (0, ((t : Nat) : Int)), (0, ((i : Nat) : Int)), (0, x3), (0, ((k : Nat) : Int))]) (st' := [(2, w7 95 47)]) (w' := w7) (n' := 142) rfl ?_
                      rw [show w7 95 47 = 119 from zref hI37.2.1.2 rfl rfl]
                      refine qG.blk 3 (pc' := 150) (ls' := [(2, 95), (0, ((t : Nat) : Int)), (0, ((i : Nat) : Int)), (0, x3), (0, ((k : Nat) : Int))]) (st' := [(0, wrp (57 * ((t : Nat) : Int))), (2, 119)]) (w' := w7) (n' := 142) rfl ?_
                      rw [show wrp (57 * ((t : Nat) : Int)) = ((57 * t : Nat) : Int) from by rw [wrp_id (by omega) (by omega)]; omega]
                      refine qG.blk 2 (pc' := 153) (ls' := [(2, 95), (0, ((t : Nat) : Int)), (0, ((i : Nat) : Int)), (0, x3), (0, ((k : Nat) : Int))]) (st' := [(0, 32), (0, ((i : Nat) : Int)), (0, ((57 * t : Nat) : Int)), (2, 119)]) (w' := w7) (n' := 142) rfl ?_
                      refine qG.gn (P := 32 = 0) (pc' := 154) (ls' := [(2, 95), (0, ((t : Nat) : Int)), (0, ((i : Nat) : Int)), (0, x3), (0, ((k : Nat) : Int))]) (st' := [(0, qdiv ((i : Nat) : Int) 32), (0, ((57 * t : Nat) : Int)), (2, 119)]) (w' := w7) (n' := 142) rfl (by decide) ?_
                      rw [show qdiv ((i : Nat) : Int) 32 = ((i / 32 : Nat) : Int) from (lbd i (by omega)).1]
                      refine qG.blk 1 (pc' := 155) (ls' := [(2, 95), (0, ((t : Nat) : Int)), (0, ((i : Nat) : Int)), (0, x3), (0, ((k : Nat) : Int))]) (st' := [(0, wrp (((57 * t : Nat) : Int) + ((i / 32 : Nat) : Int))), (2, 119)]) (w' := w7) (n' := 142) rfl ?_
                      rw [show wrp (((57 * t : Nat) : Int) + ((i / 32 : Nat) : Int)) = ((57 * t + i / 32 : Nat) : Int) from by rw [wrp_id (by omega) (by omega)]; omega]
                      refine qG.blk 1 (pc' := 156) (ls' := [(2, 95), (0, ((t : Nat) : Int)), (0, ((i : Nat) : Int)), (0, x3), (0, ((k : Nat) : Int))]) (st' := [(0, ((57 * t + i / 32 : Nat) : Int)), (2, 119), (0, ((57 * t + i / 32 : Nat) : Int)), (2, 119)]) (w' := w7) (n' := 142) rfl ?_
                      refine qG.ild (m := 51300) rfl rfl (by omega) (by decide) ?_
                      show qG none (d + 1) 260 157 [(2, 95), (0, ((t : Nat) : Int)), (0, ((i : Nat) : Int)), (0, x3), (0, ((k : Nat) : Int))] [(0, w7 119 (57 * t + i / 32)), (0, ((57 * t + i / 32 : Nat) : Int)), (2, 119)] w7 142 Q9
                      refine qG.blk 3 (pc' := 161) (ls' := [(2, 95), (0, ((t : Nat) : Int)), (0, ((i : Nat) : Int)), (0, x3), (0, ((k : Nat) : Int))]) (st' := [(0, 32), (0, ((i : Nat) : Int)), (0, 1), (0, w7 119 (57 * t + i / 32)), (0, ((57 * t + i / 32 : Nat) : Int)), (2, 119)]) (w' := w7) (n' := 142) rfl ?_
                      refine qG.gn (P := 32 = 0) (pc' := 162) (ls' := [(2, 95), (0, ((t : Nat) : Int)), (0, ((i : Nat) : Int)), (0, x3), (0, ((k : Nat) : Int))]) (st' := [(0, qrem ((i : Nat) : Int) 32), (0, 1), (0, w7 119 (57 * t + i / 32)), (0, ((57 * t + i / 32 : Nat) : Int)), (2, 119)]) (w' := w7) (n' := 142) rfl (by decide) ?_
                      rw [show qrem ((i : Nat) : Int) 32 = ((i % 32 : Nat) : Int) from (lbd i (by omega)).2]
                      refine qG.blk 2 (pc' := 164) (ls' := [(2, 95), (0, ((t : Nat) : Int)), (0, ((i : Nat) : Int)), (0, x3), (0, ((k : Nat) : Int))]) (st' := [(0, qor (w7 119 (57 * t + i / 32)) (qshl 1 ((i % 32 : Nat) : Int))), (0, ((57 * t + i / 32 : Nat) : Int)), (2, 119)]) (w' := w7) (n' := 142) rfl ?_
                      refine qG.ist (m := 51300) rfl rfl (by omega) (by decide) ?_
                      show qG none (d + 1) 260 165 [(2, 95), (0, ((t : Nat) : Int)), (0, ((i : Nat) : Int)), (0, x3), (0, ((k : Nat) : Int))] [] (qup w7 119 (57 * t + i / 32) (qor (w7 119 (57 * t + i / 32)) (qshl 1 ((i % 32 : Nat) : Int)))) 142 Q9
                      refine qG.blk 1 (pc' := 168) (ls' := [(2, 95), (0, ((t : Nat) : Int)), (0, wrp (((i : Nat) : Int) + 1)), (0, x3), (0, ((k : Nat) : Int))]) (st' := []) (w' := (qup w7 119 (57 * t + i / 32) (qor (w7 119 (57 * t + i / 32)) (qshl 1 ((i % 32 : Nat) : Int))))) (n' := 142) rfl ?_
                      rw [show wrp (((i : Nat) : Int) + 1) = ((i + 1 : Nat) : Int) from wrp_id (by omega) (by omega)]
                      refine qG.blk 1 (pc' := 37) (ls' := [(2, 95), (0, ((t : Nat) : Int)), (0, ((i + 1 : Nat) : Int)), (0, x3), (0, ((k : Nat) : Int))]) (st' := []) (w' := (qup w7 119 (57 * t + i / 32) (qor (w7 119 (57 * t + i / 32)) (qshl 1 ((i % 32 : Nat) : Int))))) (n' := 142) rfl ?_
                      exact ih37 _ (by omega) (i + 1) ((qup w7 119 (57 * t + i / 32) (qor (w7 119 (57 * t + i / 32)) (qshl 1 ((i % 32 : Nat) : Int))))) ((0, x3)) ((0, ((k : Nat) : Int))) rfl (⟨by omega, hI37.2.1.up (y32_i _), rows.g (fun j hj => by rw [goB_set (by omega) (by omega), hI37.2.2.1 j hj, decide_eq_false (show ¬ i = j by omega), Bool.or_false]) (by rw [goB_set (by omega) (by omega), decide_eq_true rfl, Bool.or_true]; exact hE ▸ (b01_1 (hI62.2 ▸ hgd)).symm), fun j h1 h2 => by rw [goB_set (by omega) h2, hI37.2.2.2.1 j (by omega) h2, decide_eq_false (show ¬ i = j by omega)]; rfl, hI37.2.2.2.2.up ht (by omega)⟩)
                exact L62 _ (0) (1) rfl (⟨by omega, by first | (unfold gK; rw [decide_eq_true (show u = 0 by omega)]; rfl) | (unfold gK; rw [decide_eq_false (show ¬ u = 0 by omega)]; rfl)⟩)
              · skip
                refine qG.blk 4 (pc' := 62) (ls' := [(2, 95), (0, ((t : Nat) : Int)), (0, ((i : Nat) : Int)), (0, 0), (0, 0)]) (st' := []) (w' := w7) (n' := 142) rfl ?_
                have L62_1 : ∀ (m9 : Nat) (k : Nat) (x3 : Int), 50 - k = m9 → ((k : Int) ≤ w 102 i ∧ x3 = b01 (gK w S u t i k)) → qG none (d + 1) 260 62 [(2, 95), (0, ((t : Nat) : Int)), (0, ((i : Nat) : Int)), (0, x3), (0, ((k : Nat) : Int))] [] w7 142 Q9 := by
                  intro m9
                  induction m9 using Nat.strongRecOn with
                  | ind m9 ih62 =>
                  intro k x3 hm62 hI62
                  refine qG.blk 3 (pc' := 68) (ls' := [(2, 95), (0, ((t : Nat) : Int)), (0, ((i : Nat) : Int)), (0, x3), (0, ((k : Nat) : Int))]) (st' := [(2, w7 95 6), (0, ((k : Nat) : Int))]) (w' := w7) (n' := 142) rfl ?_
                  rw [show w7 95 6 = 102 from zref hI37.2.1.2 rfl rfl]
                  refine qG.blk 1 (pc' := 69) (ls' := [(2, 95), (0, ((t : Nat) : Int)), (0, ((i : Nat) : Int)), (0, x3), (0, ((k : Nat) : Int))]) (st' := [(0, ((i : Nat) : Int)), (2, 102), (0, ((k : Nat) : Int))]) (w' := w7) (n' := 142) rfl ?_
                  refine qG.ild (m := 1820) rfl rfl (by omega) (by decide) ?_
                  show qG none (d + 1) 260 70 [(2, 95), (0, ((t : Nat) : Int)), (0, ((i : Nat) : Int)), (0, x3), (0, ((k : Nat) : Int))] [(0, w7 102 i), (0, ((k : Nat) : Int))] w7 142 Q9
                  rw [show w7 102 i = w 102 i from hI37.2.1.1 102 (i) (by decide)]
                  refine qG.br (P := ((k : Nat) : Int) < w 102 i) (pc1 := 73) (pc2 := 138) (st1 := []) rfl (fun hkm => ?_) (fun hkm => ?_)
                  · skip
                    have hnx : nxF w i k < N := nx_lt hI hS hN (by omega) hkm
                    refine qG.blk 1 (pc' := 74) (ls' := [(2, 95), (0, ((t : Nat) : Int)), (0, ((i : Nat) : Int)), (0, x3), (0, ((k : Nat) : Int))]) (st' := [(0, x3)]) (w' := w7) (n' := 142) rfl ?_
                    refine qG.br (P := x3 = 0) (pc1 := 77) (pc2 := 138) (st1 := []) rfl (fun hg1 => ?_) (fun hg1 => ?_)
                    · skip
                      have hg0 := gK_0 (b01_0 (hI62.2 ▸ hg1))
                      have hu0 := hg0.1
                      refine qG.blk 4 (pc' := 81) (ls' := [(2, 95), (0, ((t : Nat) : Int)), (0, ((i : Nat) : Int)), (0, x3), (0, ((k : Nat) : Int))]) (st' := [(0, wrp (((t : Nat) : Int) + 1)), (2, 95)]) (w' := w7) (n' := 142) rfl ?_
                      rw [show wrp (((t : Nat) : Int) + 1) = ((t + 1 : Nat) : Int) from by rw [wrp_id (by omega) (by omega)]; omega]
                      refine qG.blk 2 (pc' := 85) (ls' := [(2, 95), (0, ((t : Nat) : Int)), (0, ((i : Nat) : Int)), (0, x3), (0, ((k : Nat) : Int))]) (st' := [(2, w7 95 7), (0, ((t + 1 : Nat) : Int)), (2, 95)]) (w' := w7) (n' := 142) rfl ?_
                      rw [show w7 95 7 = 103 from zref hI37.2.1.2 rfl rfl]
                      refine qG.blk 3 (pc' := 89) (ls' := [(2, 95), (0, ((t : Nat) : Int)), (0, ((i : Nat) : Int)), (0, x3), (0, ((k : Nat) : Int))]) (st' := [(0, wrp (50 * ((i : Nat) : Int))), (2, 103), (0, ((t + 1 : Nat) : Int)), (2, 95)]) (w' := w7) (n' := 142) rfl ?_
                      rw [show wrp (50 * ((i : Nat) : Int)) = ((50 * i : Nat) : Int) from by rw [wrp_id (by omega) (by omega)]; omega]
                      refine qG.blk 2 (pc' := 92) (ls' := [(2, 95), (0, ((t : Nat) : Int)), (0, ((i : Nat) : Int)), (0, x3), (0, ((k : Nat) : Int))]) (st' := [(0, wrp (((50 * i : Nat) : Int) + ((k : Nat) : Int))), (2, 103), (0, ((t + 1 : Nat) : Int)), (2, 95)]) (w' := w7) (n' := 142) rfl ?_
                      rw [show wrp (((50 * i : Nat) : Int) + ((k : Nat) : Int)) = ((50 * i + k : Nat) : Int) from by rw [wrp_id (by omega) (by omega)]; omega]
                      refine qG.ild (m := 91000) rfl rfl (by omega) (by decide) ?_
                      show qG none (d + 1) 260 93 [(2, 95), (0, ((t : Nat) : Int)), (0, ((i : Nat) : Int)), (0, x3), (0, ((k : Nat) : Int))] [(0, w7 103 (50 * i + k)), (0, ((t + 1 : Nat) : Int)), (2, 95)] w7 142 Q9
                      rw [show w7 103 (50 * i + k) = ((nxF w i k : Nat) : Int) from (hI37.2.1.1 103 ((50 * i + k)) (by decide)).trans (nx_e hI i k)]
                      refine qG.call (t := 259) (na := 3) (sk := 1) (md := 1) (ls1 := [(2, 95), (0, ((t + 1 : Nat) : Int)), (0, ((nxF w i k : Nat) : Int))]) (r1 := []) rfl rfl rfl rfl rfl (K_isGoing (Nat.zero_le _) (t + 1) (nxF w i k) (by omega) (by omega) w7 hI37.2.1.2) ?_
                      rintro _ w6 _ ⟨rfl, hw6, rfl⟩
                      rw [hw6, show goB w7 (t + 1) (nxF w i k) = gF w S (u - 1) (nxF w i k) from (by have q := hI37.2.2.2.2 (u - 1) (nxF w i k) (by omega) hnx; rw [← q, show S - (u - 1) = t + 1 by omega])]
                      show qG none (d + 1) 260 96 [(2, 95), (0, ((t : Nat) : Int)), (0, ((i : Nat) : Int)), (0, x3), (0, ((k : Nat) : Int))] [(0, b01 (gF w S (u - 1) (nxF w i k)))] w7 142 Q9
                      refine qG.br (P := b01 (gF w S (u - 1) (nxF w i k)) = 0) (pc1 := 130) (pc2 := 99) (st1 := []) rfl (fun hgo => ?_) (fun hgo => ?_)
                      · skip
                        refine qG.blk 3 (pc' := 135) (ls' := [(2, 95), (0, ((t : Nat) : Int)), (0, ((i : Nat) : Int)), (0, 0), (0, wrp (((k : Nat) : Int) + 1))]) (st' := []) (w' := w7) (n' := 142) rfl ?_
                        rw [show wrp (((k : Nat) : Int) + 1) = ((k + 1 : Nat) : Int) from wrp_id (by omega) (by omega)]
                        refine qG.blk 1 (pc' := 62) (ls' := [(2, 95), (0, ((t : Nat) : Int)), (0, ((i : Nat) : Int)), (0, 0), (0, ((k + 1 : Nat) : Int))]) (st' := []) (w' := w7) (n' := 142) rfl ?_
                        exact ih62 _ (by omega) (k + 1) (0) rfl (⟨by omega, by rw [hg0.2]; first | (rw [b01_1 hgo, show clF w t (nxF w i k) = true from decide_eq_true hcl]; rfl) | (rw [b01_0 hgo]; rfl) | (rw [b01_1 hgo, show clF w t (nxF w i k) = false from decide_eq_false hcl]; rfl)⟩)
                      · skip
                        refine qG.blk 2 (pc' := 103) (ls' := [(2, 95), (0, ((t : Nat) : Int)), (0, ((i : Nat) : Int)), (0, x3), (0, ((k : Nat) : Int))]) (st' := [(2, w7 95 5)]) (w' := w7) (n' := 142) rfl ?_
                        rw [show w7 95 5 = 101 from zref hI37.2.1.2 rfl rfl]
                        refine qG.blk 2 (pc' := 107) (ls' := [(2, 95), (0, ((t : Nat) : Int)), (0, ((i : Nat) : Int)), (0, x3), (0, ((k : Nat) : Int))]) (st' := [(2, w7 95 7), (2, 101)]) (w' := w7) (n' := 142) rfl ?_
                        rw [show w7 95 7 = 103 from zref hI37.2.1.2 rfl rfl]
                        refine qG.blk 3 (pc' := 111) (ls' := [(2, 95), (0, ((t : Nat) : Int)), (0, ((i : Nat) : Int)), (0, x3), (0, ((k : Nat) : Int))]) (st' := [(0, wrp (50 * ((i : Nat) : Int))), (2, 103), (2, 101)]) (w' := w7) (n' := 142) rfl ?_
                        rw [show wrp (50 * ((i : Nat) : Int)) = ((50 * i : Nat) : Int) from by rw [wrp_id (by omega) (by omega)]; omega]
                        refine qG.blk 2 (pc' := 114) (ls' := [(2, 95), (0, ((t : Nat) : Int)), (0, ((i : Nat) : Int)), (0, x3), (0, ((k : Nat) : Int))]) (st' := [(0, wrp (((50 * i : Nat) : Int) + ((k : Nat) : Int))), (2, 103), (2, 101)]) (w' := w7) (n' := 142) rfl ?_
                        rw [show wrp (((50 * i : Nat) : Int) + ((k : Nat) : Int)) = ((50 * i + k : Nat) : Int) from by rw [wrp_id (by omega) (by omega)]; omega]
                        refine qG.ild (m := 91000) rfl rfl (by omega) (by decide) ?_
                        show qG none (d + 1) 260 115 [(2, 95), (0, ((t : Nat) : Int)), (0, ((i : Nat) : Int)), (0, x3), (0, ((k : Nat) : Int))] [(0, w7 103 (50 * i + k)), (2, 101)] w7 142 Q9
                        rw [show w7 103 (50 * i + k) = ((nxF w i k : Nat) : Int) from (hI37.2.1.1 103 ((50 * i + k)) (by decide)).trans (nx_e hI i k)]
                        refine qG.ild (m := 1820) rfl rfl (by omega) (by decide) ?_
                        show qG none (d + 1) 260 116 [(2, 95), (0, ((t : Nat) : Int)), (0, ((i : Nat) : Int)), (0, x3), (0, ((k : Nat) : Int))] [(0, w7 101 (nxF w i k))] w7 142 Q9
                        rw [show w7 101 (nxF w i k) = w 101 (nxF w i k) from hI37.2.1.1 101 ((nxF w i k)) (by decide)]
                        refine qG.blk 2 (pc' := 120) (ls' := [(2, 95), (0, ((t : Nat) : Int)), (0, ((i : Nat) : Int)), (0, x3), (0, ((k : Nat) : Int))]) (st' := [(2, w7 95 36), (0, w 101 (nxF w i k))]) (w' := w7) (n' := 142) rfl ?_
                        rw [show w7 95 36 = 116 from zref hI37.2.1.2 rfl rfl]
                        refine qG.blk 1 (pc' := 121) (ls' := [(2, 95), (0, ((t : Nat) : Int)), (0, ((i : Nat) : Int)), (0, x3), (0, ((k : Nat) : Int))]) (st' := [(0, ((t : Nat) : Int)), (2, 116), (0, w 101 (nxF w i k))]) (w' := w7) (n' := 142) rfl ?_
                        refine qG.ild (m := 900) rfl rfl (by omega) (by decide) ?_
                        show qG none (d + 1) 260 122 [(2, 95), (0, ((t : Nat) : Int)), (0, ((i : Nat) : Int)), (0, x3), (0, ((k : Nat) : Int))] [(0, w7 116 t), (0, w 101 (nxF w i k))] w7 142 Q9
                        rw [show w7 116 t = w 116 t from hI37.2.1.1 116 (t) (by decide)]
                        refine qG.blk 1 (pc' := 123) (ls' := [(2, 95), (0, ((t : Nat) : Int)), (0, ((i : Nat) : Int)), (0, x3), (0, ((k : Nat) : Int))]) (st' := [(0, qand (w 101 (nxF w i k)) (w 116 t))]) (w' := w7) (n' := 142) rfl ?_
                        refine qG.br (P := qand (w 101 (nxF w i k)) (w 116 t) = 0) (pc1 := 126) (pc2 := 130) (st1 := []) rfl (fun hcl => ?_) (fun hcl => ?_)
                        · skip
                          refine qG.blk 4 (pc' := 135) (ls' := [(2, 95), (0, ((t : Nat) : Int)), (0, ((i : Nat) : Int)), (0, 1), (0, wrp (((k : Nat) : Int) + 1))]) (st' := []) (w' := w7) (n' := 142) rfl ?_
                          rw [show wrp (((k : Nat) : Int) + 1) = ((k + 1 : Nat) : Int) from wrp_id (by omega) (by omega)]
                          refine qG.blk 1 (pc' := 62) (ls' := [(2, 95), (0, ((t : Nat) : Int)), (0, ((i : Nat) : Int)), (0, 1), (0, ((k + 1 : Nat) : Int))]) (st' := []) (w' := w7) (n' := 142) rfl ?_
                          exact ih62 _ (by omega) (k + 1) (1) rfl (⟨by omega, by rw [hg0.2]; first | (rw [b01_1 hgo, show clF w t (nxF w i k) = true from decide_eq_true hcl]; rfl) | (rw [b01_0 hgo]; rfl) | (rw [b01_1 hgo, show clF w t (nxF w i k) = false from decide_eq_false hcl]; rfl)⟩)
                        · skip
                          refine qG.blk 3 (pc' := 135) (ls' := [(2, 95), (0, ((t : Nat) : Int)), (0, ((i : Nat) : Int)), (0, 0), (0, wrp (((k : Nat) : Int) + 1))]) (st' := []) (w' := w7) (n' := 142) rfl ?_
                          rw [show wrp (((k : Nat) : Int) + 1) = ((k + 1 : Nat) : Int) from wrp_id (by omega) (by omega)]
                          refine qG.blk 1 (pc' := 62) (ls' := [(2, 95), (0, ((t : Nat) : Int)), (0, ((i : Nat) : Int)), (0, 0), (0, ((k + 1 : Nat) : Int))]) (st' := []) (w' := w7) (n' := 142) rfl ?_
                          exact ih62 _ (by omega) (k + 1) (0) rfl (⟨by omega, by rw [hg0.2]; first | (rw [b01_1 hgo, show clF w t (nxF w i k) = true from decide_eq_true hcl]; rfl) | (rw [b01_0 hgo]; rfl) | (rw [b01_1 hgo, show clF w t (nxF w i k) = false from decide_eq_false hcl]; rfl)⟩)
                    · skip
                      have hE := gK_E ht hI62.1 (.inr (b01_1 (hI62.2 ▸ hg1)))
                      refine qG.blk 1 (pc' := 139) (ls' := [(2, 95), (0, ((t : Nat) : Int)), (0, ((i : Nat) : Int)), (0, x3), (0, ((k : Nat) : Int))]) (st' := [(0, x3)]) (w' := w7) (n' := 142) rfl ?_
                      refine qG.br (P := x3 = 0) (pc1 := 165) (pc2 := 142) (st1 := []) rfl (fun hgd => ?_) (fun hgd => ?_)
                      · skip
                        refine qG.blk 1 (pc' := 168) (ls' := [(2, 95), (0, ((t : Nat) : Int)), (0, wrp (((i : Nat) : Int) + 1)), (0, x3), (0, ((k : Nat) : Int))]) (st' := []) (w' := w7) (n' := 142) rfl ?_
                        rw [show wrp (((i : Nat) : Int) + 1) = ((i + 1 : Nat) : Int) from wrp_id (by omega) (by omega)]
                        refine qG.blk 1 (pc' := 37) (ls' := [(2, 95), (0, ((t : Nat) : Int)), (0, ((i + 1 : Nat) : Int)), (0, x3), (0, ((k : Nat) : Int))]) (st' := []) (w' := w7) (n' := 142) rfl ?_
                        exact ih37 _ (by omega) (i + 1) (w7) ((0, x3)) ((0, ((k : Nat) : Int))) rfl (⟨by omega, hI37.2.1, rows.g hI37.2.2.1 (by rw [hI37.2.2.2.1 i (Nat.le_refl _) (by omega)]; exact hE ▸ (b01_0 (hI62.2 ▸ hgd)).symm), fun j h1 h2 => hI37.2.2.2.1 j (by omega) h2, hI37.2.2.2.2⟩)
                      · skip
                        refine qG.blk 2 (pc' := 146) (ls' := [(2, 95), (0, ((t : Nat) : Int)), (0, ((i : Nat) : Int)), (0, x3), (0, ((k : Nat) : Int))]) (st' := [(2, w7 95 47)]) (w' := w7) (n' := 142) rfl ?_
                        rw [show w7 95 47 = 119 from zref hI37.2.1.2 rfl rfl]
                        refine qG.blk 3 (pc' := 150) (ls' := [(2, 95), (0, ((t : Nat) : Int)), (0, ((i : Nat) : Int)), (0, x3), (0, ((k : Nat) : Int))]) (st' := [(0, wrp (57 * ((t : Nat) : Int))), (2, 119)]) (w' := w7) (n' := 142) rfl ?_
                        rw [show wrp (57 * ((t : Nat) : Int)) = ((57 * t : Nat) : Int) from by rw [wrp_id (by omega) (by omega)]; omega]
                        refine qG.blk 2 (pc' := 153) (ls' := [(2, 95), (0, ((t : Nat) : Int)), (0, ((i : Nat) : Int)), (0, x3), (0, ((k : Nat) : Int))]) (st' := [(0, 32), (0, ((i : Nat) : Int)), (0, ((57 * t : Nat) : Int)), (2, 119)]) (w' := w7) (n' := 142) rfl ?_
                        refine qG.gn (P := 32 = 0) (pc' := 154) (ls' := [(2, 95), (0, ((t : Nat) : Int)), (0, ((i : Nat) : Int)), (0, x3), (0, ((k : Nat) : Int))]) (st' := [(0, qdiv ((i : Nat) : Int) 32), (0, ((57 * t : Nat) : Int)), (2, 119)]) (w' := w7) (n' := 142) rfl (by decide) ?_
                        rw [show qdiv ((i : Nat) : Int) 32 = ((i / 32 : Nat) : Int) from (lbd i (by omega)).1]
                        refine qG.blk 1 (pc' := 155) (ls' := [(2, 95), (0, ((t : Nat) : Int)), (0, ((i : Nat) : Int)), (0, x3), (0, ((k : Nat) : Int))]) (st' := [(0, wrp (((57 * t : Nat) : Int) + ((i / 32 : Nat) : Int))), (2, 119)]) (w' := w7) (n' := 142) rfl ?_
                        rw [show wrp (((57 * t : Nat) : Int) + ((i / 32 : Nat) : Int)) = ((57 * t + i / 32 : Nat) : Int) from by rw [wrp_id (by omega) (by omega)]; omega]
                        refine qG.blk 1 (pc' := 156) (ls' := [(2, 95), (0, ((t : Nat) : Int)), (0, ((i : Nat) : Int)), (0, x3), (0, ((k : Nat) : Int))]) (st' := [(0, ((57 * t + i / 32 : Nat) : Int)), (2, 119), (0, ((57 * t + i / 32 : Nat) : Int)), (2, 119)]) (w' := w7) (n' := 142) rfl ?_
                        refine qG.ild (m := 51300) rfl rfl (by omega) (by decide) ?_
                        show qG none (d + 1) 260 157 [(2, 95), (0, ((t : Nat) : Int)), (0, ((i : Nat) : Int)), (0, x3), (0, ((k : Nat) : Int))] [(0, w7 119 (57 * t + i / 32)), (0, ((57 * t + i / 32 : Nat) : Int)), (2, 119)] w7 142 Q9
                        refine qG.blk 3 (pc' := 161) (ls' := [(2, 95), (0, ((t : Nat) : Int)), (0, ((i : Nat) : Int)), (0, x3), (0, ((k : Nat) : Int))]) (st' := [(0, 32), (0, ((i : Nat) : Int)), (0, 1), (0, w7 119 (57 * t + i / 32)), (0, ((57 * t + i / 32 : Nat) : Int)), (2, 119)]) (w' := w7) (n' := 142) rfl ?_
                        refine qG.gn (P := 32 = 0) (pc' := 162) (ls' := [(2, 95), (0, ((t : Nat) : Int)), (0, ((i : Nat) : Int)), (0, x3), (0, ((k : Nat) : Int))]) (st' := [(0, qrem ((i : Nat) : Int) 32), (0, 1), (0, w7 119 (57 * t + i / 32)), (0, ((57 * t + i / 32 : Nat) : Int)), (2, 119)]) (w' := w7) (n' := 142) rfl (by decide) ?_
                        rw [show qrem ((i : Nat) : Int) 32 = ((i % 32 : Nat) : Int) from (lbd i (by omega)).2]
                        refine qG.blk 2 (pc' := 164) (ls' := [(2, 95), (0, ((t : Nat) : Int)), (0, ((i : Nat) : Int)), (0, x3), (0, ((k : Nat) : Int))]) (st' := [(0, qor (w7 119 (57 * t + i / 32)) (qshl 1 ((i % 32 : Nat) : Int))), (0, ((57 * t + i / 32 : Nat) : Int)), (2, 119)]) (w' := w7) (n' := 142) rfl ?_
                        refine qG.ist (m := 51300) rfl rfl (by omega) (by decide) ?_
                        show qG none (d + 1) 260 165 [(2, 95), (0, ((t : Nat) : Int)), (0, ((i : Nat) : Int)), (0, x3), (0, ((k : Nat) : Int))] [] (qup w7 119 (57 * t + i / 32) (qor (w7 119 (57 * t + i / 32)) (qshl 1 ((i % 32 : Nat) : Int)))) 142 Q9
                        refine qG.blk 1 (pc' := 168) (ls' := [(2, 95), (0, ((t : Nat) : Int)), (0, wrp (((i : Nat) : Int) + 1)), (0, x3), (0, ((k : Nat) : Int))]) (st' := []) (w' := (qup w7 119 (57 * t + i / 32) (qor (w7 119 (57 * t + i / 32)) (qshl 1 ((i % 32 : Nat) : Int))))) (n' := 142) rfl ?_
                        rw [show wrp (((i : Nat) : Int) + 1) = ((i + 1 : Nat) : Int) from wrp_id (by omega) (by omega)]
                        refine qG.blk 1 (pc' := 37) (ls' := [(2, 95), (0, ((t : Nat) : Int)), (0, ((i + 1 : Nat) : Int)), (0, x3), (0, ((k : Nat) : Int))]) (st' := []) (w' := (qup w7 119 (57 * t + i / 32) (qor (w7 119 (57 * t + i / 32)) (qshl 1 ((i % 32 : Nat) : Int))))) (n' := 142) rfl ?_
                        exact ih37 _ (by omega) (i + 1) ((qup w7 119 (57 * t + i / 32) (qor (w7 119 (57 * t + i / 32)) (qshl 1 ((i % 32 : Nat) : Int))))) ((0, x3)) ((0, ((k : Nat) : Int))) rfl (⟨by omega, hI37.2.1.up (y32_i _), rows.g (fun j hj => by rw [goB_set (by omega) (by omega), hI37.2.2.1 j hj, decide_eq_false (show ¬ i = j by omega), Bool.or_false]) (by rw [goB_set (by omega) (by omega), decide_eq_true rfl, Bool.or_true]; exact hE ▸ (b01_1 (hI62.2 ▸ hgd)).symm), fun j h1 h2 => by rw [goB_set (by omega) h2, hI37.2.2.2.1 j (by omega) h2, decide_eq_false (show ¬ i = j by omega)]; rfl, hI37.2.2.2.2.up ht (by omega)⟩)
                  · skip
                    have hE := gK_E ht hI62.1 (.inl hkm)
                    refine qG.blk 1 (pc' := 139) (ls' := [(2, 95), (0, ((t : Nat) : Int)), (0, ((i : Nat) : Int)), (0, x3), (0, ((k : Nat) : Int))]) (st' := [(0, x3)]) (w' := w7) (n' := 142) rfl ?_
                    refine qG.br (P := x3 = 0) (pc1 := 165) (pc2 := 142) (st1 := []) rfl (fun hgd => ?_) (fun hgd => ?_)
                    · skip
                      refine qG.blk 1 (pc' := 168) (ls' := [(2, 95), (0, ((t : Nat) : Int)), (0, wrp (((i : Nat) : Int) + 1)), (0, x3), (0, ((k : Nat) : Int))]) (st' := []) (w' := w7) (n' := 142) rfl ?_
                      rw [show wrp (((i : Nat) : Int) + 1) = ((i + 1 : Nat) : Int) from wrp_id (by omega) (by omega)]
                      refine qG.blk 1 (pc' := 37) (ls' := [(2, 95), (0, ((t : Nat) : Int)), (0, ((i + 1 : Nat) : Int)), (0, x3), (0, ((k : Nat) : Int))]) (st' := []) (w' := w7) (n' := 142) rfl ?_
                      exact ih37 _ (by omega) (i + 1) (w7) ((0, x3)) ((0, ((k : Nat) : Int))) rfl (⟨by omega, hI37.2.1, rows.g hI37.2.2.1 (by rw [hI37.2.2.2.1 i (Nat.le_refl _) (by omega)]; exact hE ▸ (b01_0 (hI62.2 ▸ hgd)).symm), fun j h1 h2 => hI37.2.2.2.1 j (by omega) h2, hI37.2.2.2.2⟩)
                    · skip
                      refine qG.blk 2 (pc' := 146) (ls' := [(2, 95), (0, ((t : Nat) : Int)), (0, ((i : Nat) : Int)), (0, x3), (0, ((k : Nat) : Int))]) (st' := [(2, w7 95 47)]) (w' := w7) (n' := 142) rfl ?_
                      rw [show w7 95 47 = 119 from zref hI37.2.1.2 rfl rfl]
                      refine qG.blk 3 (pc' := 150) (ls' := [(2, 95), (0, ((t : Nat) : Int)), (0, ((i : Nat) : Int)), (0, x3), (0, ((k : Nat) : Int))]) (st' := [(0, wrp (57 * ((t : Nat) : Int))), (2, 119)]) (w' := w7) (n' := 142) rfl ?_
                      rw [show wrp (57 * ((t : Nat) : Int)) = ((57 * t : Nat) : Int) from by rw [wrp_id (by omega) (by omega)]; omega]
                      refine qG.blk 2 (pc' := 153) (ls' := [(2, 95), (0, ((t : Nat) : Int)), (0, ((i : Nat) : Int)), (0, x3), (0, ((k : Nat) : Int))]) (st' := [(0, 32), (0, ((i : Nat) : Int)), (0, ((57 * t : Nat) : Int)), (2, 119)]) (w' := w7) (n' := 142) rfl ?_
                      refine qG.gn (P := 32 = 0) (pc' := 154) (ls' := [(2, 95), (0, ((t : Nat) : Int)), (0, ((i : Nat) : Int)), (0, x3), (0, ((k : Nat) : Int))]) (st' := [(0, qdiv ((i : Nat) : Int) 32), (0, ((57 * t : Nat) : Int)), (2, 119)]) (w' := w7) (n' := 142) rfl (by decide) ?_
                      rw [show qdiv ((i : Nat) : Int) 32 = ((i / 32 : Nat) : Int) from (lbd i (by omega)).1]
                      refine qG.blk 1 (pc' := 155) (ls' := [(2, 95), (0, ((t : Nat) : Int)), (0, ((i : Nat) : Int)), (0, x3), (0, ((k : Nat) : Int))]) (st' := [(0, wrp (((57 * t : Nat) : Int) + ((i / 32 : Nat) : Int))), (2, 119)]) (w' := w7) (n' := 142) rfl ?_
                      rw [show wrp (((57 * t : Nat) : Int) + ((i / 32 : Nat) : Int)) = ((57 * t + i / 32 : Nat) : Int) from by rw [wrp_id (by omega) (by omega)]; omega]
                      refine qG.blk 1 (pc' := 156) (ls' := [(2, 95), (0, ((t : Nat) : Int)), (0, ((i : Nat) : Int)), (0, x3), (0, ((k : Nat) : Int))]) (st' := [(0, ((57 * t + i / 32 : Nat) : Int)), (2, 119), (0, ((57 * t + i / 32 : Nat) : Int)), (2, 119)]) (w' := w7) (n' := 142) rfl ?_
                      refine qG.ild (m := 51300) rfl rfl (by omega) (by decide) ?_
                      show qG none (d + 1) 260 157 [(2, 95), (0, ((t : Nat) : Int)), (0, ((i : Nat) : Int)), (0, x3), (0, ((k : Nat) : Int))] [(0, w7 119 (57 * t + i / 32)), (0, ((57 * t + i / 32 : Nat) : Int)), (2, 119)] w7 142 Q9
                      refine qG.blk 3 (pc' := 161) (ls' := [(2, 95), (0, ((t : Nat) : Int)), (0, ((i : Nat) : Int)), (0, x3), (0, ((k : Nat) : Int))]) (st' := [(0, 32), (0, ((i : Nat) : Int)), (0, 1), (0, w7 119 (57 * t + i / 32)), (0, ((57 * t + i / 32 : Nat) : Int)), (2, 119)]) (w' := w7) (n' := 142) rfl ?_
                      refine qG.gn (P := 32 = 0) (pc' := 162) (ls' := [(2, 95), (0, ((t : Nat) : Int)), (0, ((i : Nat) : Int)), (0, x3), (0, ((k : Nat) : Int))]) (st' := [(0, qrem ((i : Nat) : Int) 32), (0, 1), (0, w7 119 (57 * t + i / 32)), (0, ((57 * t + i / 32 : Nat) : Int)), (2, 119)]) (w' := w7) (n' := 142) rfl (by decide) ?_
                      rw [show qrem ((i : Nat) : Int) 32 = ((i % 32 : Nat) : Int) from (lbd i (by omega)).2]
                      refine qG.blk 2 (pc' := 164) (ls' := [(2, 95), (0, ((t : Nat) : Int)), (0, ((i : Nat) : Int)), (0, x3), (0, ((k : Nat) : Int))]) (st' := [(0, qor (w7 119 (57 * t + i / 32)) (qshl 1 ((i % 32 : Nat) : Int))), (0, ((57 * t + i / 32 : Nat) : Int)), (2, 119)]) (w' := w7) (n' := 142) rfl ?_
                      refine qG.ist (m := 51300) rfl rfl (by omega) (by decide) ?_
                      show qG none (d + 1) 260 165 [(2, 95), (0, ((t : Nat) : Int)), (0, ((i : Nat) : Int)), (0, x3), (0, ((k : Nat) : Int))] [] (qup w7 119 (57 * t + i / 32) (qor (w7 119 (57 * t + i / 32)) (qshl 1 ((i % 32 : Nat) : Int)))) 142 Q9
                      refine qG.blk 1 (pc' := 168) (ls' := [(2, 95), (0, ((t : Nat) : Int)), (0, wrp (((i : Nat) : Int) + 1)), (0, x3), (0, ((k : Nat) : Int))]) (st' := []) (w' := (qup w7 119 (57 * t + i / 32) (qor (w7 119 (57 * t + i / 32)) (qshl 1 ((i % 32 : Nat) : Int))))) (n' := 142) rfl ?_
                      rw [show wrp (((i : Nat) : Int) + 1) = ((i + 1 : Nat) : Int) from wrp_id (by omega) (by omega)]
                      refine qG.blk 1 (pc' := 37) (ls' := [(2, 95), (0, ((t : Nat) : Int)), (0, ((i + 1 : Nat) : Int)), (0, x3), (0, ((k : Nat) : Int))]) (st' := []) (w' := (qup w7 119 (57 * t + i / 32) (qor (w7 119 (57 * t + i / 32)) (qshl 1 ((i % 32 : Nat) : Int))))) (n' := 142) rfl ?_
                      exact ih37 _ (by omega) (i + 1) ((qup w7 119 (57 * t + i / 32) (qor (w7 119 (57 * t + i / 32)) (qshl 1 ((i % 32 : Nat) : Int))))) ((0, x3)) ((0, ((k : Nat) : Int))) rfl (⟨by omega, hI37.2.1.up (y32_i _), rows.g (fun j hj => by rw [goB_set (by omega) (by omega), hI37.2.2.1 j hj, decide_eq_false (show ¬ i = j by omega), Bool.or_false]) (by rw [goB_set (by omega) (by omega), decide_eq_true rfl, Bool.or_true]; exact hE ▸ (b01_1 (hI62.2 ▸ hgd)).symm), fun j h1 h2 => by rw [goB_set (by omega) h2, hI37.2.2.2.1 j (by omega) h2, decide_eq_false (show ¬ i = j by omega)]; rfl, hI37.2.2.2.2.up ht (by omega)⟩)
                exact L62_1 _ (0) (0) rfl (⟨by omega, by first | (unfold gK; rw [decide_eq_true (show u = 0 by omega)]; rfl) | (unfold gK; rw [decide_eq_false (show ¬ u = 0 by omega)]; rfl)⟩)
            · skip
              refine qG.blk 1 (pc' := 174) (ls' := [(2, 95), (0, wrp (((t : Nat) : Int) + (-1))), (0, ((i : Nat) : Int)), x3, x4]) (st' := []) (w' := w7) (n' := 142) rfl ?_
              rw [show wrp (((t : Nat) : Int) + (-1)) = ((t : Nat) : Int) + (-1) from wrp_id (by omega) (by omega)]
              refine qG.blk 1 (pc' := 5) (ls' := [(2, 95), (0, ((t : Nat) : Int) + (-1)), (0, ((i : Nat) : Int)), x3, x4]) (st' := []) (w' := w7) (n' := 142) rfl ?_
              exact ih5 _ (by omega) (u + 1) (((t : Nat) : Int) + (-1)) (w7) ((0, ((i : Nat) : Int))) (x3) (x4) rfl (⟨by first | omega | (rw [wrp_id (by omega) (by omega)]; omega), by omega, hI37.2.1, hI37.2.2.2.2.nx ht (fun j hj => hI37.2.2.1 j (by omega))⟩)
          exact L37 _ (0) (w8) (x3) (x4) rfl (⟨by omega, hI11.2.1, fun j hj => absurd hj (Nat.not_lt_zero j), fun j _ hj => goB_n (fun q hq => hI11.2.2.1 q (by omega)) hj, hI11.2.2.2⟩)
      exact L11 _ (0) (w9) rfl (⟨by omega, hI5.2.2.1, fun q hq => absurd hq (Nat.not_lt_zero q), hI5.2.2.2⟩)
  exact L5 _ (0) (((S : Nat) : Int)) (w) ((9, 0)) ((9, 0)) ((9, 0)) rfl (⟨by omega, by omega, ⟨fun _ _ _ => rfl, hI⟩, fun u2 i hu _ => absurd hu (Nat.not_lt_zero u2)⟩)
end
section
/-! the reference's seen, run, poses, hide, way: they end and keep the table of poses in order -/
theorem K_isChest {d : Nat} (hd : 1 ≤ d) (c : Int) (w : qW) : qG none d 207 0 [(0, c)] [] w 142 (fun (r : qV) (w1 : qW) (n1 : Nat) => r = (0, isInV c 0 2) ∧ w1 = w ∧ n1 = 142) := by
  generalize hQ9 : (fun (r : qV) (w1 : qW) (n1 : Nat) => r = (0, isInV c 0 2) ∧ w1 = w ∧ n1 = 142) = Q9
  obtain ⟨d, rfl⟩ : ∃ d9, d = d9 + 1 := ⟨d - 1, by omega⟩
  refine qG.blk 3 (pc' := 3) (ls' := [(0, c)]) (st' := [(0, 2), (0, 0), (0, c)]) (w' := w) (n' := 142) rfl ?_
  refine qG.call (t := 206) (na := 3) (sk := 0) (md := 0) (ls1 := [(0, c), (0, 0), (0, 2)]) (r1 := []) rfl rfl rfl rfl rfl (K_isIn (Nat.zero_le _) _ _ _ _) ?_
  rintro _ w7 _ ⟨rfl, hw7, rfl⟩
  rw [hw7]
  show qG none (d + 1) 207 6 [(0, c)] [(0, isInV (c) (0) (2))] w 142 Q9
  refine qG.ret rfl (by have q9 := isInV_01 c 0 2; exact decide_eq_true (by omega)) ?_
  subst hQ9
  exact ⟨rfl, rfl, rfl⟩
theorem K_isShow {d : Nat} (hd : 1 ≤ d) (c : Int) (w : qW) : qG none d 209 0 [(0, c)] [] w 142 (fun (r : qV) (w1 : qW) (n1 : Nat) => r = (0, isInV c 0 3) ∧ w1 = w ∧ n1 = 142) := by
  generalize hQ9 : (fun (r : qV) (w1 : qW) (n1 : Nat) => r = (0, isInV c 0 3) ∧ w1 = w ∧ n1 = 142) = Q9
  obtain ⟨d, rfl⟩ : ∃ d9, d = d9 + 1 := ⟨d - 1, by omega⟩
  refine qG.blk 3 (pc' := 3) (ls' := [(0, c)]) (st' := [(0, 3), (0, 0), (0, c)]) (w' := w) (n' := 142) rfl ?_
  refine qG.call (t := 206) (na := 3) (sk := 0) (md := 0) (ls1 := [(0, c), (0, 0), (0, 3)]) (r1 := []) rfl rfl rfl rfl rfl (K_isIn (Nat.zero_le _) _ _ _ _) ?_
  rintro _ w7 _ ⟨rfl, hw7, rfl⟩
  rw [hw7]
  show qG none (d + 1) 209 6 [(0, c)] [(0, isInV (c) (0) (3))] w 142 Q9
  refine qG.ret rfl (by have q9 := isInV_01 c 0 3; exact decide_eq_true (by omega)) ?_
  subst hQ9
  exact ⟨rfl, rfl, rfl⟩
theorem K_isSize {d : Nat} (hd : 1 ≤ d) (c : Int) (w : qW) : qG none d 210 0 [(0, c)] [] w 142 (fun (r : qV) (w1 : qW) (n1 : Nat) => r = (0, isInV c 1 4) ∧ w1 = w ∧ n1 = 142) := by
  generalize hQ9 : (fun (r : qV) (w1 : qW) (n1 : Nat) => r = (0, isInV c 1 4) ∧ w1 = w ∧ n1 = 142) = Q9
  obtain ⟨d, rfl⟩ : ∃ d9, d = d9 + 1 := ⟨d - 1, by omega⟩
  refine qG.blk 3 (pc' := 3) (ls' := [(0, c)]) (st' := [(0, 4), (0, 1), (0, c)]) (w' := w) (n' := 142) rfl ?_
  refine qG.call (t := 206) (na := 3) (sk := 0) (md := 0) (ls1 := [(0, c), (0, 1), (0, 4)]) (r1 := []) rfl rfl rfl rfl rfl (K_isIn (Nat.zero_le _) _ _ _ _) ?_
  rintro _ w7 _ ⟨rfl, hw7, rfl⟩
  rw [hw7]
  show qG none (d + 1) 210 6 [(0, c)] [(0, isInV (c) (1) (4))] w 142 Q9
  refine qG.ret rfl (by have q9 := isInV_01 c 1 4; exact decide_eq_true (by omega)) ?_
  subst hQ9
  exact ⟨rfl, rfl, rfl⟩
theorem isIn_n {c a b : Int} (ha : 0 ≤ a) (h : ¬ isInV c a b = 0) : ∃ n : Nat, c = (n : Int) ∧ a ≤ (n : Int) ∧ (n : Int) ≤ b := by
  unfold isInV at h
  split at h
  · exact absurd rfl h
  · split at h
    · exact absurd rfl h
    · exact ⟨c.toNat, by omega, by omega, by omega⟩
noncomputable def SHM : List Nat := [116, 38095, 39095, 40095, 41095, 42095, 43095, 44095]
noncomputable def HDM : List Nat := [101, 102, 103, 9095, 10095, 117, 118, 47095]
noncomputable def WYM : List Nat := [116, 38095, 39095, 40095, 41095, 42095, 43095, 44095, 101, 102, 103, 9095, 10095, 117, 118, 47095, 119]
theorem sh_aw {w : qW} {c k : Nat} (hk : k < 4) (hI : yInv zgf zga zra zSp w) (hS : Sp1 w) : AW SHM w (shW w c k (w 106 k).toNat) ∧ (∀ j, shW w c k (w 106 k).toNat 102 j = w 102 j) ∧ (∀ j, shW w c k (w 106 k).toNat 103 j = w 103 j) ∧ shW w c k (w 106 k).toNat 95 8 = w 95 8 := by
  have h106 := hI.2.1 106 k (0, 40) rfl rfl
  have h6 : w 106 k ≤ (40 : Int) := h106.2
  refine ⟨⟨(shW_I hk hI hS _ (by omega)).1, fun p j hp => ?_⟩, fun j => shW_o (by decide) (fun z => by omega) _, fun j => shW_o (by decide) (fun z => by omega) _, shW_o (by decide) (fun z => by omega) _⟩
  refine shW_o (fun z => ?_) (fun z => ?_) _
  · have := hp (by omega); rw [z] at this; cases this
  · obtain ⟨z1, z2, z3⟩ := z
    have := hp (by omega)
    rw [z1] at this
    rcases (show j = 37 ∨ j = 38 ∨ j = 39 ∨ j = 40 ∨ j = 41 ∨ j = 42 ∨ j = 43 by omega) with e | e | e | e | e | e | e <;> (rw [e] at this; cases this)
theorem sh_s3 {w : qW} {c k : Nat} (hk : k < 4) (hI : yInv zgf zga zra zSp w) (hS : Sp1 w) (h3 : S3 w) : S3 (shW w c k (w 106 k).toNat) := by
  obtain ⟨-, a, b, c8⟩ := sh_aw (c := c) hk hI hS
  exact h3.cong c8 a b
theorem hd_aw {w w0 w1 : qW} (h : AW zfpm w w0) (h2 : hdW w0 w1) : AW HDM w w1 := ⟨h2.2, fun p j hp => by
  have k1 : p ≠ 117 := fun z => by have := hp (by omega); rw [z] at this; cases this
  have k2 : p ≠ 118 := fun z => by have := hp (by omega); rw [z] at this; cases this
  have k3 : ¬ (p = 95 ∧ j = 46) := fun z => by have := hp (by omega); rw [z.1, z.2] at this; cases this
  rw [h2.1 p j k1 k2 k3]
  exact h.2 p j (fun k => ysubm_ok (b := HDM) (by decide +kernel) k (hp k))⟩
theorem hd_s3 {w0 w1 : qW} (h : S3 w0) (h2 : hdW w0 w1) : S3 w1 := h.cong (h2.1 95 8 (by decide) (by decide) (fun z => by cases z.2)) (fun i => h2.1 102 i (by decide) (by decide) (fun z => by cases z.1)) (fun i => h2.1 103 i (by decide) (by decide) (fun z => by cases z.1))
theorem lb_s3 {w0 w1 : qW} (h : S3 w0) (h2 : lbW w0 w1) : S3 w1 := h.cong (h2.1 95 8 (by decide)) (fun i => h2.1 102 i (by decide)) (fun i => h2.1 103 i (by decide))
theorem cF_cong {w w1 : qW} (h1 : ∀ i, w1 101 i = w 101 i) (h2 : ∀ i, w1 102 i = w 102 i) (h3 : ∀ i, w1 103 i = w 103 i) (h4 : ∀ i, w1 116 i = w 116 i) : ∀ t, cF w1 t = cF w t
  | 0 => rfl
  | t + 1 => by
    funext i
    have e : nxF w1 i = nxF w i := by funext k; unfold nxF; rw [h3]
    show (clF w1 t i && anyF (cF w1 t) (nxF w1 i) (w1 102 i).toNat) = (clF w t i && anyF (cF w t) (nxF w i) (w 102 i).toNat)
    rw [cF_cong h1 h2 h3 h4 t, e, h2]
    unfold clF
    rw [h1, h4]
theorem nxt_i {w : qW} (hI : yInv zgf zga zra zSp w) {i j : Nat} (h : nxt w i j) : ∃ k, k < (w 102 i).toNat ∧ nxF w i k = j := by
  obtain ⟨k, h1, h2⟩ := h
  refine ⟨k, by omega, ?_⟩
  unfold nxF
  rw [h2]; rfl
theorem way_0 {w : qW} (hI : yInv zgf zga zra zSp w) (hS : S3 w) {N S : Nat} (hN : w 95 8 = (N : Int)) : ∀ t j, t ≤ S → j < N → cF w t j = true → gF w S (S - t) j = true → ∃ i, i < N ∧ gF w S S i = true
  | 0, j, _, hj, _, hg => ⟨j, hj, hg⟩
  | t + 1, j, ht, hj, hc, hg => by
    have hc : (clF w t j && anyF (cF w t) (nxF w j) (w 102 j).toNat) = true := hc
    rw [Bool.and_eq_true] at hc
    obtain ⟨k, hk, hck⟩ := anyF_in hc.2
    have hn : nxt w j (nxF w j k) := ⟨k, by omega, nx_e hI j k⟩
    obtain ⟨h1, h2⟩ := hS j _ (by omega) hn
    refine way_0 hI hS hN t (nxF w j k) (by omega) (by omega) hck ?_
    obtain ⟨q, hq, hqj⟩ := nxt_i hI h2
    rw [show S - t = (S - (t + 1)) + 1 by omega]
    show anyF (fun j => gF w S (S - (t + 1)) j && clF w (S - ((S - (t + 1)) + 1)) j) (nxF w (nxF w j k)) (w 102 (nxF w j k)).toNat = true
    refine anyF_mk hq ?_
    show (gF w S (S - (t + 1)) (nxF w (nxF w j k) q) && clF w (S - ((S - (t + 1)) + 1)) (nxF w (nxF w j k) q)) = true
    rw [hqj, hg, show S - ((S - (t + 1)) + 1) = t by omega, hc.1]; rfl
theorem way_s {w : qW} {N S t i : Nat} (hI : yInv zgf zga zra zSp w) (hS : S3 w) (hN : w 95 8 = (N : Int)) (hi : i < N) (ht : t < S) (hg : gF w S (S - t) i = true) : ∃ k : Nat, (k : Int) < w 102 i ∧ nxF w i k < N ∧ gF w S (S - (t + 1)) (nxF w i k) = true ∧ clF w t (nxF w i k) = true := by
  rw [show S - t = (S - (t + 1)) + 1 by omega] at hg
  obtain ⟨k, hk, hf⟩ := anyF_in hg
  have hf : (gF w S (S - (t + 1)) (nxF w i k) && clF w (S - ((S - (t + 1)) + 1)) (nxF w i k)) = true := hf
  rw [show S - ((S - (t + 1)) + 1) = t by omega, Bool.and_eq_true] at hf
  exact ⟨k, by omega, nx_lt hI hS hN hi (by omega), hf.1, hf.2⟩
/-- a call's end -/
noncomputable def SQ (m : List Nat) (w : qW) (r : qV) (w1 : qW) (n1 : Nat) : Prop := n1 = 142 ∧ (∃ x, r = (0, x)) ∧ AW m w w1 ∧ S3 w1
theorem SQ.rf {m : List Nat} {w : qW} {x : Int} (hI : yInv zgf zga zra zSp w) (hS : S3 w) : SQ m w (0, x) w 142 := ⟨rfl, ⟨x, rfl⟩, AW.rf hI, hS⟩
theorem SQ.mk' {m m2 : List Nat} {w w1 : qW} {x : Int} (h : AW m2 w w1) (hm : ysubm m2 m = true) (hS : S3 w1) : SQ m w (0, x) w1 142 := ⟨rfl, ⟨x, rfl⟩, ⟨h.1, fun p j hp => h.2 p j (fun k => ysubm_ok hm k (hp k))⟩, hS⟩
theorem K_seen {d : Nat} (hd : 6 ≤ d) (c k s : Int) (hs1 : -2147483648 ≤ s) (hs2 : s ≤ 2147483647) (w : qW) (hI : yInv zgf zga zra zSp w) (hS1 : Sp1 w) (hS : S3 w) : qG none d 254 0 [(2, 95), (0, c), (0, k), (0, s)] [] w 142 (SQ WYM w) := by
  generalize hQ9 : (SQ WYM w) = Q9
  obtain ⟨d, rfl⟩ : ∃ d9, d = d9 + 1 := ⟨d - 1, by omega⟩
  refine qG.blk 1 (pc' := 1) (ls' := [(2, 95), (0, c), (0, k), (0, s)]) (st' := [(0, c)]) (w' := w) (n' := 142) rfl ?_
  refine qG.call (t := 207) (na := 1) (sk := 0) (md := 0) (ls1 := [(0, c)]) (r1 := []) rfl rfl rfl rfl rfl (K_isChest (by omega) _ _) ?_
  rintro _ w7 _ ⟨rfl, hw7, rfl⟩
  rw [hw7]
  show qG none (d + 1) 254 4 [(2, 95), (0, c), (0, k), (0, s)] [(0, isInV c 0 2)] w 142 Q9
  refine qG.br (P := isInV c 0 2 = 0) (pc1 := 14) (pc2 := 7) (st1 := []) rfl (fun hc0 => ?_) (fun hc0 => ?_)
  · skip
    refine qG.blk 1 (pc' := 15) (ls' := [(2, 95), (0, c), (0, k), (0, s)]) (st' := [(0, (-1))]) (w' := w) (n' := 142) rfl ?_
    refine qG.ret rfl rfl ?_
    subst hQ9
    first | exact SQ.rf hI hS | exact SQ.mk' hAs (by decide +kernel) hSs
  · skip
    obtain ⟨c9, rfl, hlc9, huc9⟩ := isIn_n (by decide) hc0
    refine qG.blk 1 (pc' := 8) (ls' := [(2, 95), (0, ((c9 : Nat) : Int)), (0, k), (0, s)]) (st' := [(0, k)]) (w' := w) (n' := 142) rfl ?_
    refine qG.call (t := 209) (na := 1) (sk := 0) (md := 0) (ls1 := [(0, k)]) (r1 := []) rfl rfl rfl rfl rfl (K_isShow (by omega) _ _) ?_
    rintro _ w7 _ ⟨rfl, hw7, rfl⟩
    rw [hw7]
    show qG none (d + 1) 254 11 [(2, 95), (0, ((c9 : Nat) : Int)), (0, k), (0, s)] [(0, isInV k 0 3)] w 142 Q9
    refine qG.br (P := isInV k 0 3 = 0) (pc1 := 14) (pc2 := 16) (st1 := []) rfl (fun hk0 => ?_) (fun hk0 => ?_)
    · skip
      refine qG.blk 1 (pc' := 15) (ls' := [(2, 95), (0, ((c9 : Nat) : Int)), (0, k), (0, s)]) (st' := [(0, (-1))]) (w' := w) (n' := 142) rfl ?_
      refine qG.ret rfl rfl ?_
      subst hQ9
      first | exact SQ.rf hI hS | exact SQ.mk' hAs (by decide +kernel) hSs
    · skip
      obtain ⟨k9, rfl, hlk9, huk9⟩ := isIn_n (by decide) hk0
      refine qG.blk 3 (pc' := 19) (ls' := [(2, 95), (0, ((c9 : Nat) : Int)), (0, ((k9 : Nat) : Int)), (0, s)]) (st' := [(0, ((k9 : Nat) : Int)), (0, ((c9 : Nat) : Int)), (2, 95)]) (w' := w) (n' := 142) rfl ?_
      refine qG.call (t := 253) (na := 3) (sk := 1) (md := 1) (ls1 := [(2, 95), (0, ((c9 : Nat) : Int)), (0, ((k9 : Nat) : Int)), (9, 0)]) (r1 := []) rfl rfl rfl rfl rfl (K_shows (by omega) c9 k9 (by omega) (by omega) w hI hS1) ?_
      rintro _ ws _ ⟨rfl, rfl, rfl⟩
      have hAs := (sh_aw (c := c9) (k := k9) (by omega) hI hS1).1
      have hSs := sh_s3 (c := c9) (k := k9) (by omega) hI hS1 hS
      generalize shW w c9 k9 (w 106 k9).toNat = ws at hAs hSs ⊢
      have h37 := zfld hAs.1 (j := 37) (b := (0, 800)) rfl
      have a37 : (0 : Int) ≤ ws 95 37 := h37.1
      have b37 : ws 95 37 ≤ (800 : Int) := h37.2
      show qG none (d + 1) 254 22 [(2, 95), (0, ((c9 : Nat) : Int)), (0, ((k9 : Nat) : Int)), (0, s)] [] ws 142 Q9
      refine qG.blk 6 (pc' := 30) (ls' := [(2, 95), (0, ((c9 : Nat) : Int)), (0, ((k9 : Nat) : Int)), (0, s)]) (st' := [(0, wrp ((ws 95 37) - 1)), (0, 0), (0, s)]) (w' := ws) (n' := 142) rfl ?_
      rw [show wrp ((ws 95 37) - 1) = (ws 95 37) - 1 from wrp_id (by omega) (by omega)]
      refine qG.call (t := 206) (na := 3) (sk := 0) (md := 0) (ls1 := [(0, s), (0, 0), (0, (ws 95 37) - 1)]) (r1 := []) rfl rfl rfl rfl rfl (K_isIn (Nat.zero_le _) _ _ _ _) ?_
      rintro _ w7 _ ⟨rfl, hw7, rfl⟩
      rw [hw7]
      show qG none (d + 1) 254 33 [(2, 95), (0, ((c9 : Nat) : Int)), (0, ((k9 : Nat) : Int)), (0, s)] [(0, isInV (s) (0) ((ws 95 37) - 1))] ws 142 Q9
      refine qG.br (P := isInV (s) (0) ((ws 95 37) - 1) = 0) (pc1 := 45) (pc2 := 36) (st1 := []) rfl (fun hs0 => ?_) (fun hs0 => ?_)
      · skip
        refine qG.blk 1 (pc' := 46) (ls' := [(2, 95), (0, ((c9 : Nat) : Int)), (0, ((k9 : Nat) : Int)), (0, s)]) (st' := [(0, (-1))]) (w' := ws) (n' := 142) rfl ?_
        refine qG.ret rfl rfl ?_
        subst hQ9
        first | exact SQ.rf hI hS | exact SQ.mk' hAs (by decide +kernel) hSs
      · skip
        obtain ⟨s9, rfl, hls9, hus9⟩ := isIn_n (by decide) hs0
        refine qG.blk 2 (pc' := 40) (ls' := [(2, 95), (0, ((c9 : Nat) : Int)), (0, ((k9 : Nat) : Int)), (0, ((s9 : Nat) : Int))]) (st' := [(2, ws 95 36)]) (w' := ws) (n' := 142) rfl ?_
        rw [show ws 95 36 = 116 from zref hAs.1 rfl rfl]
        refine qG.blk 1 (pc' := 41) (ls' := [(2, 95), (0, ((c9 : Nat) : Int)), (0, ((k9 : Nat) : Int)), (0, ((s9 : Nat) : Int))]) (st' := [(0, ((s9 : Nat) : Int)), (2, 116)]) (w' := ws) (n' := 142) rfl ?_
        refine qG.ild (m := 900) rfl rfl (by omega) (by decide) ?_
        show qG none (d + 1) 254 42 [(2, 95), (0, ((c9 : Nat) : Int)), (0, ((k9 : Nat) : Int)), (0, ((s9 : Nat) : Int))] [(0, ws 116 s9)] ws 142 Q9
        refine qG.blk 1 (pc' := 46) (ls' := [(2, 95), (0, ((c9 : Nat) : Int)), (0, ((k9 : Nat) : Int)), (0, ((s9 : Nat) : Int))]) (st' := [(0, ws 116 s9)]) (w' := ws) (n' := 142) rfl ?_
        refine qG.ret rfl rfl ?_
        subst hQ9
        first | exact SQ.rf hI hS | exact SQ.mk' hAs (by decide +kernel) hSs
theorem K_run {d : Nat} (hd : 6 ≤ d) (c k s : Int) (w : qW) (hI : yInv zgf zga zra zSp w) (hS1 : Sp1 w) (hS : S3 w) : qG none d 255 0 [(2, 95), (0, c), (0, k), (0, s)] [] w 142 (SQ WYM w) := by
  generalize hQ9 : (SQ WYM w) = Q9
  obtain ⟨d, rfl⟩ : ∃ d9, d = d9 + 1 := ⟨d - 1, by omega⟩
  refine qG.blk 1 (pc' := 1) (ls' := [(2, 95), (0, c), (0, k), (0, s)]) (st' := [(0, c)]) (w' := w) (n' := 142) rfl ?_
  refine qG.call (t := 207) (na := 1) (sk := 0) (md := 0) (ls1 := [(0, c)]) (r1 := []) rfl rfl rfl rfl rfl (K_isChest (by omega) _ _) ?_
  rintro _ w7 _ ⟨rfl, hw7, rfl⟩
  rw [hw7]
  show qG none (d + 1) 255 4 [(2, 95), (0, c), (0, k), (0, s)] [(0, isInV c 0 2)] w 142 Q9
  refine qG.br (P := isInV c 0 2 = 0) (pc1 := 14) (pc2 := 7) (st1 := []) rfl (fun hc0 => ?_) (fun hc0 => ?_)
  · skip
    refine qG.blk 1 (pc' := 15) (ls' := [(2, 95), (0, c), (0, k), (0, s)]) (st' := [(0, (-1))]) (w' := w) (n' := 142) rfl ?_
    refine qG.ret rfl rfl ?_
    subst hQ9
    first | exact SQ.rf hI hS | exact SQ.mk' hAs (by decide +kernel) hSs
  · skip
    obtain ⟨c9, rfl, hlc9, huc9⟩ := isIn_n (by decide) hc0
    refine qG.blk 1 (pc' := 8) (ls' := [(2, 95), (0, ((c9 : Nat) : Int)), (0, k), (0, s)]) (st' := [(0, k)]) (w' := w) (n' := 142) rfl ?_
    refine qG.call (t := 209) (na := 1) (sk := 0) (md := 0) (ls1 := [(0, k)]) (r1 := []) rfl rfl rfl rfl rfl (K_isShow (by omega) _ _) ?_
    rintro _ w7 _ ⟨rfl, hw7, rfl⟩
    rw [hw7]
    show qG none (d + 1) 255 11 [(2, 95), (0, ((c9 : Nat) : Int)), (0, k), (0, s)] [(0, isInV k 0 3)] w 142 Q9
    refine qG.br (P := isInV k 0 3 = 0) (pc1 := 14) (pc2 := 16) (st1 := []) rfl (fun hk0 => ?_) (fun hk0 => ?_)
    · skip
      refine qG.blk 1 (pc' := 15) (ls' := [(2, 95), (0, ((c9 : Nat) : Int)), (0, k), (0, s)]) (st' := [(0, (-1))]) (w' := w) (n' := 142) rfl ?_
      refine qG.ret rfl rfl ?_
      subst hQ9
      first | exact SQ.rf hI hS | exact SQ.mk' hAs (by decide +kernel) hSs
    · skip
      obtain ⟨k9, rfl, hlk9, huk9⟩ := isIn_n (by decide) hk0
      refine qG.blk 3 (pc' := 19) (ls' := [(2, 95), (0, ((c9 : Nat) : Int)), (0, ((k9 : Nat) : Int)), (0, s)]) (st' := [(0, ((k9 : Nat) : Int)), (0, ((c9 : Nat) : Int)), (2, 95)]) (w' := w) (n' := 142) rfl ?_
      refine qG.call (t := 253) (na := 3) (sk := 1) (md := 1) (ls1 := [(2, 95), (0, ((c9 : Nat) : Int)), (0, ((k9 : Nat) : Int)), (9, 0)]) (r1 := []) rfl rfl rfl rfl rfl (K_shows (by omega) c9 k9 (by omega) (by omega) w hI hS1) ?_
      rintro _ ws _ ⟨rfl, rfl, rfl⟩
      have hAs := (sh_aw (c := c9) (k := k9) (by omega) hI hS1).1
      have hSs := sh_s3 (c := c9) (k := k9) (by omega) hI hS1 hS
      generalize shW w c9 k9 (w 106 k9).toNat = ws at hAs hSs ⊢
      have h37 := zfld hAs.1 (j := 37) (b := (0, 800)) rfl
      have a37 : (0 : Int) ≤ ws 95 37 := h37.1
      have b37 : ws 95 37 ≤ (800 : Int) := h37.2
      show qG none (d + 1) 255 22 [(2, 95), (0, ((c9 : Nat) : Int)), (0, ((k9 : Nat) : Int)), (0, s)] [] ws 142 Q9
      refine qG.blk 1 (pc' := 23) (ls' := [(2, 95), (0, ((c9 : Nat) : Int)), (0, ((k9 : Nat) : Int)), (0, s)]) (st' := [(0, s)]) (w' := ws) (n' := 142) rfl ?_
      refine qG.br (P := s = 0) (pc1 := 26) (pc2 := 33) (st1 := []) rfl (fun h1 => ?_) (fun h1 => ?_)
      · skip
        refine qG.blk 3 (pc' := 70) (ls' := [(2, 95), (0, ((c9 : Nat) : Int)), (0, ((k9 : Nat) : Int)), (0, s)]) (st' := [(0, ws 95 37)]) (w' := ws) (n' := 142) rfl ?_
        refine qG.ret rfl rfl ?_
        subst hQ9
        first | exact SQ.rf hI hS | exact SQ.mk' hAs (by decide +kernel) hSs
      · skip
        refine qG.blk 2 (pc' := 35) (ls' := [(2, 95), (0, ((c9 : Nat) : Int)), (0, ((k9 : Nat) : Int)), (0, s)]) (st' := [(0, 1), (0, s)]) (w' := ws) (n' := 142) rfl ?_
        refine qG.br (P := s = 1) (pc1 := 38) (pc2 := 45) (st1 := []) rfl (fun h2 => ?_) (fun h2 => ?_)
        · skip
          refine qG.blk 3 (pc' := 70) (ls' := [(2, 95), (0, ((c9 : Nat) : Int)), (0, ((k9 : Nat) : Int)), (0, s)]) (st' := [(0, ws 95 38)]) (w' := ws) (n' := 142) rfl ?_
          refine qG.ret rfl rfl ?_
          subst hQ9
          first | exact SQ.rf hI hS | exact SQ.mk' hAs (by decide +kernel) hSs
        · skip
          refine qG.blk 2 (pc' := 47) (ls' := [(2, 95), (0, ((c9 : Nat) : Int)), (0, ((k9 : Nat) : Int)), (0, s)]) (st' := [(0, 2), (0, s)]) (w' := ws) (n' := 142) rfl ?_
          refine qG.br (P := s = 2) (pc1 := 50) (pc2 := 57) (st1 := []) rfl (fun h3 => ?_) (fun h3 => ?_)
          · skip
            refine qG.blk 3 (pc' := 70) (ls' := [(2, 95), (0, ((c9 : Nat) : Int)), (0, ((k9 : Nat) : Int)), (0, s)]) (st' := [(0, ws 95 39)]) (w' := ws) (n' := 142) rfl ?_
            refine qG.ret rfl rfl ?_
            subst hQ9
            first | exact SQ.rf hI hS | exact SQ.mk' hAs (by decide +kernel) hSs
          · skip
            refine qG.blk 2 (pc' := 59) (ls' := [(2, 95), (0, ((c9 : Nat) : Int)), (0, ((k9 : Nat) : Int)), (0, s)]) (st' := [(0, 3), (0, s)]) (w' := ws) (n' := 142) rfl ?_
            refine qG.br (P := s = 3) (pc1 := 62) (pc2 := 69) (st1 := []) rfl (fun h4 => ?_) (fun h4 => ?_)
            · skip
              refine qG.blk 3 (pc' := 70) (ls' := [(2, 95), (0, ((c9 : Nat) : Int)), (0, ((k9 : Nat) : Int)), (0, s)]) (st' := [(0, ws 95 40)]) (w' := ws) (n' := 142) rfl ?_
              refine qG.ret rfl rfl ?_
              subst hQ9
              first | exact SQ.rf hI hS | exact SQ.mk' hAs (by decide +kernel) hSs
            · skip
              refine qG.blk 1 (pc' := 70) (ls' := [(2, 95), (0, ((c9 : Nat) : Int)), (0, ((k9 : Nat) : Int)), (0, s)]) (st' := [(0, (-1))]) (w' := ws) (n' := 142) rfl ?_
              refine qG.ret rfl rfl ?_
              subst hQ9
              first | exact SQ.rf hI hS | exact SQ.mk' hAs (by decide +kernel) hSs
theorem K_poses {d : Nat} (hd : 6 ≤ d) (c s : Int) (w : qW) (hI : yInv zgf zga zra zSp w) (hS1 : Sp1 w) (hS : S3 w) : qG none d 221 0 [(2, 95), (0, c), (0, s)] [] w 142 (SQ WYM w) := by
  generalize hQ9 : (SQ WYM w) = Q9
  obtain ⟨d, rfl⟩ : ∃ d9, d = d9 + 1 := ⟨d - 1, by omega⟩
  refine qG.blk 1 (pc' := 1) (ls' := [(2, 95), (0, c), (0, s)]) (st' := [(0, c)]) (w' := w) (n' := 142) rfl ?_
  refine qG.call (t := 207) (na := 1) (sk := 0) (md := 0) (ls1 := [(0, c)]) (r1 := []) rfl rfl rfl rfl rfl (K_isChest (by omega) _ _) ?_
  rintro _ w7 _ ⟨rfl, hw7, rfl⟩
  rw [hw7]
  show qG none (d + 1) 221 4 [(2, 95), (0, c), (0, s)] [(0, isInV c 0 2)] w 142 Q9
  refine qG.br (P := isInV c 0 2 = 0) (pc1 := 14) (pc2 := 7) (st1 := []) rfl (fun hc0 => ?_) (fun hc0 => ?_)
  · skip
    refine qG.blk 1 (pc' := 15) (ls' := [(2, 95), (0, c), (0, s)]) (st' := [(0, (-1))]) (w' := w) (n' := 142) rfl ?_
    refine qG.ret rfl rfl ?_
    subst hQ9
    first | exact SQ.rf hI hS | exact SQ.mk' hA0 (by decide +kernel) hS0
  · skip
    obtain ⟨c9, rfl, hlc9, huc9⟩ := isIn_n (by decide) hc0
    refine qG.blk 1 (pc' := 8) (ls' := [(2, 95), (0, ((c9 : Nat) : Int)), (0, s)]) (st' := [(0, s)]) (w' := w) (n' := 142) rfl ?_
    refine qG.call (t := 210) (na := 1) (sk := 0) (md := 0) (ls1 := [(0, s)]) (r1 := []) rfl rfl rfl rfl rfl (K_isSize (by omega) _ _) ?_
    rintro _ w7 _ ⟨rfl, hw7, rfl⟩
    rw [hw7]
    show qG none (d + 1) 221 11 [(2, 95), (0, ((c9 : Nat) : Int)), (0, s)] [(0, isInV s 1 4)] w 142 Q9
    refine qG.br (P := isInV s 1 4 = 0) (pc1 := 14) (pc2 := 16) (st1 := []) rfl (fun hs0 => ?_) (fun hs0 => ?_)
    · skip
      refine qG.blk 1 (pc' := 15) (ls' := [(2, 95), (0, ((c9 : Nat) : Int)), (0, s)]) (st' := [(0, (-1))]) (w' := w) (n' := 142) rfl ?_
      refine qG.ret rfl rfl ?_
      subst hQ9
      first | exact SQ.rf hI hS | exact SQ.mk' hA0 (by decide +kernel) hS0
    · skip
      obtain ⟨s9, rfl, hls9, hus9⟩ := isIn_n (by decide) hs0
      refine qG.blk 3 (pc' := 19) (ls' := [(2, 95), (0, ((c9 : Nat) : Int)), (0, ((s9 : Nat) : Int))]) (st' := [(0, ((s9 : Nat) : Int)), (0, ((c9 : Nat) : Int)), (2, 95)]) (w' := w) (n' := 142) rfl ?_
      refine qG.call (t := 220) (na := 3) (sk := 1) (md := 1) (ls1 := [(2, 95), (0, ((c9 : Nat) : Int)), (0, ((s9 : Nat) : Int)), (9, 0), (9, 0)]) (r1 := []) rfl rfl rfl rfl rfl (K_fp (by omega) c9 s9 (by omega) (by omega) (by omega) w hI hS) ?_
      rintro _ w0 _ ⟨rfl, rfl, hfp, hA0, hS0⟩
      show qG none (d + 1) 221 22 [(2, 95), (0, ((c9 : Nat) : Int)), (0, ((s9 : Nat) : Int))] [] w0 142 Q9
      refine qG.blk 2 (pc' := 26) (ls' := [(2, 95), (0, ((c9 : Nat) : Int)), (0, ((s9 : Nat) : Int))]) (st' := [(0, w0 95 8)]) (w' := w0) (n' := 142) rfl ?_
      refine qG.ret rfl rfl ?_
      subst hQ9
      first | exact SQ.rf hI hS | exact SQ.mk' hA0 (by decide +kernel) hS0
theorem hdW_e {w0 w1 : qW} (h : hdW w0 w1) {j : Nat} (hj : j ≠ 46) : w1 95 j = w0 95 j := h.1 95 j (by decide) (by decide) (fun z => hj z.2)
theorem AW.tr1 {w ws w0 w1 : qW} (h : AW SHM w ws) (h0 : AW zfpm ws w0) (h1 : hdW w0 w1) : AW WYM w w1 := ⟨h1.2, fun p j hp => by
  rw [(hd_aw h0 h1).2 p j (fun k => ysubm_ok (b := WYM) (by decide +kernel) k (hp k))]
  exact h.2 p j (fun k => ysubm_ok (b := WYM) (by decide +kernel) k (hp k))⟩
theorem AW.tr2 {w w1 w2 : qW} (h : AW WYM w w1) (h2 : lbW w1 w2) : AW WYM w w2 := ⟨h2.2, fun p j hp => by
  rw [h2.1 p j (fun z => by have := hp (by omega); rw [z] at this; cases this)]
  exact h.2 p j hp⟩
theorem K_hide {d : Nat} (hd : 7 ≤ d) (c k s v : Int) (w : qW) (hI : yInv zgf zga zra zSp w) (hS1 : Sp1 w) (hS : S3 w) : qG none d 258 0 [(2, 95), (0, c), (0, k), (0, s), (0, v), (9, 0)] [] w 142 (SQ WYM w) := by
  generalize hQ9 : (SQ WYM w) = Q9
  obtain ⟨d, rfl⟩ : ∃ d9, d = d9 + 1 := ⟨d - 1, by omega⟩
  refine qG.blk 1 (pc' := 1) (ls' := [(2, 95), (0, c), (0, k), (0, s), (0, v), (9, 0)]) (st' := [(0, c)]) (w' := w) (n' := 142) rfl ?_
  refine qG.call (t := 207) (na := 1) (sk := 0) (md := 0) (ls1 := [(0, c)]) (r1 := []) rfl rfl rfl rfl rfl (K_isChest (by omega) _ _) ?_
  rintro _ w7 _ ⟨rfl, hw7, rfl⟩
  rw [hw7]
  show qG none (d + 1) 258 4 [(2, 95), (0, c), (0, k), (0, s), (0, v), (9, 0)] [(0, isInV c 0 2)] w 142 Q9
  refine qG.br (P := isInV c 0 2 = 0) (pc1 := 31) (pc2 := 7) (st1 := []) rfl (fun hc0 => ?_) (fun hc0 => ?_)
  · skip
    refine qG.blk 1 (pc' := 32) (ls' := [(2, 95), (0, c), (0, k), (0, s), (0, v), (9, 0)]) (st' := [(0, (-1))]) (w' := w) (n' := 142) rfl ?_
    refine qG.ret rfl rfl ?_
    subst hQ9
    first | exact SQ.rf hI hS | exact SQ.mk' hA1 (by decide +kernel) hS3
  · skip
    obtain ⟨c9, rfl, hlc9, huc9⟩ := isIn_n (by decide) hc0
    refine qG.blk 1 (pc' := 8) (ls' := [(2, 95), (0, ((c9 : Nat) : Int)), (0, k), (0, s), (0, v), (9, 0)]) (st' := [(0, k)]) (w' := w) (n' := 142) rfl ?_
    refine qG.call (t := 209) (na := 1) (sk := 0) (md := 0) (ls1 := [(0, k)]) (r1 := []) rfl rfl rfl rfl rfl (K_isShow (by omega) _ _) ?_
    rintro _ w7 _ ⟨rfl, hw7, rfl⟩
    rw [hw7]
    show qG none (d + 1) 258 11 [(2, 95), (0, ((c9 : Nat) : Int)), (0, k), (0, s), (0, v), (9, 0)] [(0, isInV k 0 3)] w 142 Q9
    refine qG.br (P := isInV k 0 3 = 0) (pc1 := 31) (pc2 := 14) (st1 := []) rfl (fun hk0 => ?_) (fun hk0 => ?_)
    · skip
      refine qG.blk 1 (pc' := 32) (ls' := [(2, 95), (0, ((c9 : Nat) : Int)), (0, k), (0, s), (0, v), (9, 0)]) (st' := [(0, (-1))]) (w' := w) (n' := 142) rfl ?_
      refine qG.ret rfl rfl ?_
      subst hQ9
      first | exact SQ.rf hI hS | exact SQ.mk' hA1 (by decide +kernel) hS3
    · skip
      obtain ⟨k9, rfl, hlk9, huk9⟩ := isIn_n (by decide) hk0
      refine qG.blk 1 (pc' := 15) (ls' := [(2, 95), (0, ((c9 : Nat) : Int)), (0, ((k9 : Nat) : Int)), (0, s), (0, v), (9, 0)]) (st' := [(0, s)]) (w' := w) (n' := 142) rfl ?_
      refine qG.call (t := 210) (na := 1) (sk := 0) (md := 0) (ls1 := [(0, s)]) (r1 := []) rfl rfl rfl rfl rfl (K_isSize (by omega) _ _) ?_
      rintro _ w7 _ ⟨rfl, hw7, rfl⟩
      rw [hw7]
      show qG none (d + 1) 258 18 [(2, 95), (0, ((c9 : Nat) : Int)), (0, ((k9 : Nat) : Int)), (0, s), (0, v), (9, 0)] [(0, isInV s 1 4)] w 142 Q9
      refine qG.br (P := isInV s 1 4 = 0) (pc1 := 31) (pc2 := 21) (st1 := []) rfl (fun hs0 => ?_) (fun hs0 => ?_)
      · skip
        refine qG.blk 1 (pc' := 32) (ls' := [(2, 95), (0, ((c9 : Nat) : Int)), (0, ((k9 : Nat) : Int)), (0, s), (0, v), (9, 0)]) (st' := [(0, (-1))]) (w' := w) (n' := 142) rfl ?_
        refine qG.ret rfl rfl ?_
        subst hQ9
        first | exact SQ.rf hI hS | exact SQ.mk' hA1 (by decide +kernel) hS3
      · skip
        obtain ⟨s9, rfl, hls9, hus9⟩ := isIn_n (by decide) hs0
        refine qG.blk 3 (pc' := 25) (ls' := [(2, 95), (0, ((c9 : Nat) : Int)), (0, ((k9 : Nat) : Int)), (0, ((s9 : Nat) : Int)), (0, v), (9, 0)]) (st' := [(0, 2), (0, 0), (0, v)]) (w' := w) (n' := 142) rfl ?_
        refine qG.call (t := 206) (na := 3) (sk := 0) (md := 0) (ls1 := [(0, v), (0, 0), (0, 2)]) (r1 := []) rfl rfl rfl rfl rfl (K_isIn (Nat.zero_le _) _ _ _ _) ?_
        rintro _ w7 _ ⟨rfl, hw7, rfl⟩
        rw [hw7]
        show qG none (d + 1) 258 28 [(2, 95), (0, ((c9 : Nat) : Int)), (0, ((k9 : Nat) : Int)), (0, ((s9 : Nat) : Int)), (0, v), (9, 0)] [(0, isInV (v) (0) (2))] w 142 Q9
        refine qG.br (P := isInV (v) (0) (2) = 0) (pc1 := 31) (pc2 := 33) (st1 := []) rfl (fun h1 => ?_) (fun h1 => ?_)
        · skip
          refine qG.blk 1 (pc' := 32) (ls' := [(2, 95), (0, ((c9 : Nat) : Int)), (0, ((k9 : Nat) : Int)), (0, ((s9 : Nat) : Int)), (0, v), (9, 0)]) (st' := [(0, (-1))]) (w' := w) (n' := 142) rfl ?_
          refine qG.ret rfl rfl ?_
          subst hQ9
          first | exact SQ.rf hI hS | exact SQ.mk' hA1 (by decide +kernel) hS3
        · skip
          refine qG.blk 3 (pc' := 36) (ls' := [(2, 95), (0, ((c9 : Nat) : Int)), (0, ((k9 : Nat) : Int)), (0, ((s9 : Nat) : Int)), (0, v), (9, 0)]) (st' := [(0, ((k9 : Nat) : Int)), (0, ((c9 : Nat) : Int)), (2, 95)]) (w' := w) (n' := 142) rfl ?_
          refine qG.call (t := 253) (na := 3) (sk := 1) (md := 1) (ls1 := [(2, 95), (0, ((c9 : Nat) : Int)), (0, ((k9 : Nat) : Int)), (9, 0)]) (r1 := []) rfl rfl rfl rfl rfl (K_shows (by omega) c9 k9 (by omega) (by omega) w hI hS1) ?_
          rintro _ ws _ ⟨rfl, rfl, rfl⟩
          have hAs := (sh_aw (c := c9) (k := k9) (by omega) hI hS1).1
          have hSs := sh_s3 (c := c9) (k := k9) (by omega) hI hS1 hS
          generalize shW w c9 k9 (w 106 k9).toNat = ws at hAs hSs ⊢
          have h37 := zfld hAs.1 (j := 37) (b := (0, 800)) rfl
          have a37 : (0 : Int) ≤ ws 95 37 := h37.1
          have b37 : ws 95 37 ≤ (800 : Int) := h37.2
          show qG none (d + 1) 258 39 [(2, 95), (0, ((c9 : Nat) : Int)), (0, ((k9 : Nat) : Int)), (0, ((s9 : Nat) : Int)), (0, v), (9, 0)] [] ws 142 Q9
          refine qG.blk 3 (pc' := 42) (ls' := [(2, 95), (0, ((c9 : Nat) : Int)), (0, ((k9 : Nat) : Int)), (0, ((s9 : Nat) : Int)), (0, v), (9, 0)]) (st' := [(0, ((s9 : Nat) : Int)), (0, ((c9 : Nat) : Int)), (2, 95)]) (w' := ws) (n' := 142) rfl ?_
          refine qG.call (t := 257) (na := 3) (sk := 1) (md := 1) (ls1 := [(2, 95), (0, ((c9 : Nat) : Int)), (0, ((s9 : Nat) : Int)), (9, 0), (9, 0), (9, 0), (9, 0)]) (r1 := []) rfl rfl rfl rfl rfl (K_hides (by omega) c9 s9 (by omega) (by omega) (by omega) ws hAs.1 hSs) ?_
          rintro _ w1 _ ⟨rfl, w0, hfp, hA0, hS0, hH, N, S, t, hN, hSS, htS, rfl, htc⟩
          have hA1 := hAs.tr1 hA0 hH
          have hS3 := hd_s3 hS0 hH
          show qG none (d + 1) 258 45 [(2, 95), (0, ((c9 : Nat) : Int)), (0, ((k9 : Nat) : Int)), (0, ((s9 : Nat) : Int)), (0, v), (9, 0)] [(0, ((cntF (cF w0 t) N : Nat) : Int))] w1 142 Q9
          refine qG.blk 2 (pc' := 49) (ls' := [(2, 95), (0, ((c9 : Nat) : Int)), (0, ((k9 : Nat) : Int)), (0, ((s9 : Nat) : Int)), (0, v), (0, ((cntF (cF w0 t) N : Nat) : Int))]) (st' := [(0, v)]) (w' := w1) (n' := 142) rfl ?_
          refine qG.br (P := v = 0) (pc1 := 52) (pc2 := 65) (st1 := []) rfl (fun h2 => ?_) (fun h2 => ?_)
          · skip
            refine qG.blk 1 (pc' := 54) (ls' := [(2, 95), (0, ((c9 : Nat) : Int)), (0, ((k9 : Nat) : Int)), (0, ((s9 : Nat) : Int)), (0, v), (0, ((cntF (cF w0 t) N : Nat) : Int))]) (st' := [(0, ((cntF (cF w0 t) N : Nat) : Int))]) (w' := w1) (n' := 142) rfl ?_
            refine qG.br (P := 0 < ((cntF (cF w0 t) N : Nat) : Int)) (pc1 := 57) (pc2 := 61) (st1 := []) rfl (fun h3 => ?_) (fun h3 => ?_)
            · skip
              refine qG.blk 2 (pc' := 80) (ls' := [(2, 95), (0, ((c9 : Nat) : Int)), (0, ((k9 : Nat) : Int)), (0, ((s9 : Nat) : Int)), (0, v), (0, ((cntF (cF w0 t) N : Nat) : Int))]) (st' := [(0, 1)]) (w' := w1) (n' := 142) rfl ?_
              refine qG.ret rfl rfl ?_
              subst hQ9
              first | exact SQ.rf hI hS | exact SQ.mk' hA1 (by decide +kernel) hS3
            · skip
              refine qG.blk 2 (pc' := 80) (ls' := [(2, 95), (0, ((c9 : Nat) : Int)), (0, ((k9 : Nat) : Int)), (0, ((s9 : Nat) : Int)), (0, v), (0, ((cntF (cF w0 t) N : Nat) : Int))]) (st' := [(0, 0)]) (w' := w1) (n' := 142) rfl ?_
              refine qG.ret rfl rfl ?_
              subst hQ9
              first | exact SQ.rf hI hS | exact SQ.mk' hA1 (by decide +kernel) hS3
          · skip
            refine qG.blk 2 (pc' := 68) (ls' := [(2, 95), (0, ((c9 : Nat) : Int)), (0, ((k9 : Nat) : Int)), (0, ((s9 : Nat) : Int)), (0, v), (0, ((cntF (cF w0 t) N : Nat) : Int))]) (st' := [(0, 1), (0, v)]) (w' := w1) (n' := 142) rfl ?_
            refine qG.br (P := v = 1) (pc1 := 71) (pc2 := 78) (st1 := []) rfl (fun h4 => ?_) (fun h4 => ?_)
            · skip
              refine qG.blk 3 (pc' := 80) (ls' := [(2, 95), (0, ((c9 : Nat) : Int)), (0, ((k9 : Nat) : Int)), (0, ((s9 : Nat) : Int)), (0, v), (0, ((cntF (cF w0 t) N : Nat) : Int))]) (st' := [(0, w1 95 46)]) (w' := w1) (n' := 142) rfl ?_
              refine qG.ret rfl rfl ?_
              subst hQ9
              first | exact SQ.rf hI hS | exact SQ.mk' hA1 (by decide +kernel) hS3
            · skip
              refine qG.blk 1 (pc' := 80) (ls' := [(2, 95), (0, ((c9 : Nat) : Int)), (0, ((k9 : Nat) : Int)), (0, ((s9 : Nat) : Int)), (0, v), (0, ((cntF (cF w0 t) N : Nat) : Int))]) (st' := [(0, ((cntF (cF w0 t) N : Nat) : Int))]) (w' := w1) (n' := 142) rfl ?_
              refine qG.ret rfl rfl ?_
              subst hQ9
              first | exact SQ.rf hI hS | exact SQ.mk' hA1 (by decide +kernel) hS3
theorem K_way {d : Nat} (hd : 7 ≤ d) (c k s n : Int) (w : qW) (hI : yInv zgf zga zra zSp w) (hS1 : Sp1 w) (hS : S3 w) : qG none d 261 0 [(2, 95), (0, c), (0, k), (0, s), (0, n), (9, 0), (9, 0), (9, 0)] [] w 142 (SQ WYM w) := by
  generalize hQ9 : (SQ WYM w) = Q9
  obtain ⟨d, rfl⟩ : ∃ d9, d = d9 + 1 := ⟨d - 1, by omega⟩
  refine qG.blk 1 (pc' := 1) (ls' := [(2, 95), (0, c), (0, k), (0, s), (0, n), (9, 0), (9, 0), (9, 0)]) (st' := [(0, c)]) (w' := w) (n' := 142) rfl ?_
  refine qG.call (t := 207) (na := 1) (sk := 0) (md := 0) (ls1 := [(0, c)]) (r1 := []) rfl rfl rfl rfl rfl (K_isChest (by omega) _ _) ?_
  rintro _ w7 _ ⟨rfl, hw7, rfl⟩
  rw [hw7]
  show qG none (d + 1) 261 4 [(2, 95), (0, c), (0, k), (0, s), (0, n), (9, 0), (9, 0), (9, 0)] [(0, isInV c 0 2)] w 142 Q9
  refine qG.br (P := isInV c 0 2 = 0) (pc1 := 21) (pc2 := 7) (st1 := []) rfl (fun hc0 => ?_) (fun hc0 => ?_)
  · skip
    refine qG.blk 1 (pc' := 22) (ls' := [(2, 95), (0, c), (0, k), (0, s), (0, n), (9, 0), (9, 0), (9, 0)]) (st' := [(0, (-1))]) (w' := w) (n' := 142) rfl ?_
    refine qG.ret rfl rfl ?_
    subst hQ9
    first | exact SQ.rf hI hS | exact SQ.mk' hAs (by decide +kernel) hSs | exact SQ.mk' hA1 (by decide +kernel) hS3 | exact SQ.mk' hA2 (by decide +kernel) hS2
  · skip
    obtain ⟨c9, rfl, hlc9, huc9⟩ := isIn_n (by decide) hc0
    refine qG.blk 1 (pc' := 8) (ls' := [(2, 95), (0, ((c9 : Nat) : Int)), (0, k), (0, s), (0, n), (9, 0), (9, 0), (9, 0)]) (st' := [(0, k)]) (w' := w) (n' := 142) rfl ?_
    refine qG.call (t := 209) (na := 1) (sk := 0) (md := 0) (ls1 := [(0, k)]) (r1 := []) rfl rfl rfl rfl rfl (K_isShow (by omega) _ _) ?_
    rintro _ w7 _ ⟨rfl, hw7, rfl⟩
    rw [hw7]
    show qG none (d + 1) 261 11 [(2, 95), (0, ((c9 : Nat) : Int)), (0, k), (0, s), (0, n), (9, 0), (9, 0), (9, 0)] [(0, isInV k 0 3)] w 142 Q9
    refine qG.br (P := isInV k 0 3 = 0) (pc1 := 21) (pc2 := 14) (st1 := []) rfl (fun hk0 => ?_) (fun hk0 => ?_)
    · skip
      refine qG.blk 1 (pc' := 22) (ls' := [(2, 95), (0, ((c9 : Nat) : Int)), (0, k), (0, s), (0, n), (9, 0), (9, 0), (9, 0)]) (st' := [(0, (-1))]) (w' := w) (n' := 142) rfl ?_
      refine qG.ret rfl rfl ?_
      subst hQ9
      first | exact SQ.rf hI hS | exact SQ.mk' hAs (by decide +kernel) hSs | exact SQ.mk' hA1 (by decide +kernel) hS3 | exact SQ.mk' hA2 (by decide +kernel) hS2
    · skip
      obtain ⟨k9, rfl, hlk9, huk9⟩ := isIn_n (by decide) hk0
      refine qG.blk 1 (pc' := 15) (ls' := [(2, 95), (0, ((c9 : Nat) : Int)), (0, ((k9 : Nat) : Int)), (0, s), (0, n), (9, 0), (9, 0), (9, 0)]) (st' := [(0, s)]) (w' := w) (n' := 142) rfl ?_
      refine qG.call (t := 210) (na := 1) (sk := 0) (md := 0) (ls1 := [(0, s)]) (r1 := []) rfl rfl rfl rfl rfl (K_isSize (by omega) _ _) ?_
      rintro _ w7 _ ⟨rfl, hw7, rfl⟩
      rw [hw7]
      show qG none (d + 1) 261 18 [(2, 95), (0, ((c9 : Nat) : Int)), (0, ((k9 : Nat) : Int)), (0, s), (0, n), (9, 0), (9, 0), (9, 0)] [(0, isInV s 1 4)] w 142 Q9
      refine qG.br (P := isInV s 1 4 = 0) (pc1 := 21) (pc2 := 23) (st1 := []) rfl (fun hs0 => ?_) (fun hs0 => ?_)
      · skip
        refine qG.blk 1 (pc' := 22) (ls' := [(2, 95), (0, ((c9 : Nat) : Int)), (0, ((k9 : Nat) : Int)), (0, s), (0, n), (9, 0), (9, 0), (9, 0)]) (st' := [(0, (-1))]) (w' := w) (n' := 142) rfl ?_
        refine qG.ret rfl rfl ?_
        subst hQ9
        first | exact SQ.rf hI hS | exact SQ.mk' hAs (by decide +kernel) hSs | exact SQ.mk' hA1 (by decide +kernel) hS3 | exact SQ.mk' hA2 (by decide +kernel) hS2
      · skip
        obtain ⟨s9, rfl, hls9, hus9⟩ := isIn_n (by decide) hs0
        refine qG.blk 3 (pc' := 26) (ls' := [(2, 95), (0, ((c9 : Nat) : Int)), (0, ((k9 : Nat) : Int)), (0, ((s9 : Nat) : Int)), (0, n), (9, 0), (9, 0), (9, 0)]) (st' := [(0, ((k9 : Nat) : Int)), (0, ((c9 : Nat) : Int)), (2, 95)]) (w' := w) (n' := 142) rfl ?_
        refine qG.call (t := 253) (na := 3) (sk := 1) (md := 1) (ls1 := [(2, 95), (0, ((c9 : Nat) : Int)), (0, ((k9 : Nat) : Int)), (9, 0)]) (r1 := []) rfl rfl rfl rfl rfl (K_shows (by omega) c9 k9 (by omega) (by omega) w hI hS1) ?_
        rintro _ ws _ ⟨rfl, rfl, rfl⟩
        have hAs := (sh_aw (c := c9) (k := k9) (by omega) hI hS1).1
        have hSs := sh_s3 (c := c9) (k := k9) (by omega) hI hS1 hS
        generalize shW w c9 k9 (w 106 k9).toNat = ws at hAs hSs ⊢
        have h37 := zfld hAs.1 (j := 37) (b := (0, 800)) rfl
        have a37 : (0 : Int) ≤ ws 95 37 := h37.1
        have b37 : ws 95 37 ≤ (800 : Int) := h37.2
        show qG none (d + 1) 261 29 [(2, 95), (0, ((c9 : Nat) : Int)), (0, ((k9 : Nat) : Int)), (0, ((s9 : Nat) : Int)), (0, n), (9, 0), (9, 0), (9, 0)] [] ws 142 Q9
        refine qG.blk 4 (pc' := 36) (ls' := [(2, 95), (0, ((c9 : Nat) : Int)), (0, ((k9 : Nat) : Int)), (0, ((s9 : Nat) : Int)), (0, n), (9, 0), (9, 0), (9, 0)]) (st' := [(0, ws 95 37), (0, 0), (0, n)]) (w' := ws) (n' := 142) rfl ?_
        refine qG.call (t := 206) (na := 3) (sk := 0) (md := 0) (ls1 := [(0, n), (0, 0), (0, ws 95 37)]) (r1 := []) rfl rfl rfl rfl rfl (K_isIn (Nat.zero_le _) _ _ _ _) ?_
        rintro _ w7 _ ⟨rfl, hw7, rfl⟩
        rw [hw7]
        show qG none (d + 1) 261 39 [(2, 95), (0, ((c9 : Nat) : Int)), (0, ((k9 : Nat) : Int)), (0, ((s9 : Nat) : Int)), (0, n), (9, 0), (9, 0), (9, 0)] [(0, isInV (n) (0) (ws 95 37))] ws 142 Q9
        refine qG.br (P := isInV (n) (0) (ws 95 37) = 0) (pc1 := 51) (pc2 := 42) (st1 := []) rfl (fun hn0 => ?_) (fun hn0 => ?_)
        · skip
          refine qG.blk 1 (pc' := 52) (ls' := [(2, 95), (0, ((c9 : Nat) : Int)), (0, ((k9 : Nat) : Int)), (0, ((s9 : Nat) : Int)), (0, n), (9, 0), (9, 0), (9, 0)]) (st' := [(0, (-1))]) (w' := ws) (n' := 142) rfl ?_
          refine qG.ret rfl rfl ?_
          subst hQ9
          first | exact SQ.rf hI hS | exact SQ.mk' hAs (by decide +kernel) hSs | exact SQ.mk' hA1 (by decide +kernel) hS3 | exact SQ.mk' hA2 (by decide +kernel) hS2
        · skip
          obtain ⟨n9, rfl, hln9, hun9⟩ := isIn_n (by decide) hn0
          refine qG.blk 3 (pc' := 45) (ls' := [(2, 95), (0, ((c9 : Nat) : Int)), (0, ((k9 : Nat) : Int)), (0, ((s9 : Nat) : Int)), (0, ((n9 : Nat) : Int)), (9, 0), (9, 0), (9, 0)]) (st' := [(0, ((s9 : Nat) : Int)), (0, ((c9 : Nat) : Int)), (2, 95)]) (w' := ws) (n' := 142) rfl ?_
          refine qG.call (t := 257) (na := 3) (sk := 1) (md := 1) (ls1 := [(2, 95), (0, ((c9 : Nat) : Int)), (0, ((s9 : Nat) : Int)), (9, 0), (9, 0), (9, 0), (9, 0)]) (r1 := []) rfl rfl rfl rfl rfl (K_hides (by omega) c9 s9 (by omega) (by omega) (by omega) ws hAs.1 hSs) ?_
          rintro _ w1 _ ⟨rfl, w0, hfp, hA0, hS0, hH, N, S, t, hN, hSS, htS, rfl, htc⟩
          have hA1 := hAs.tr1 hA0 hH
          have hS3 := hd_s3 hS0 hH
          show qG none (d + 1) 261 48 [(2, 95), (0, ((c9 : Nat) : Int)), (0, ((k9 : Nat) : Int)), (0, ((s9 : Nat) : Int)), (0, ((n9 : Nat) : Int)), (9, 0), (9, 0), (9, 0)] [(0, ((cntF (cF w0 t) N : Nat) : Int))] w1 142 Q9
          refine qG.br (P := ((cntF (cF w0 t) N : Nat) : Int) = 0) (pc1 := 51) (pc2 := 53) (st1 := []) rfl (fun hz => ?_) (fun hz => ?_)
          · skip
            refine qG.blk 1 (pc' := 52) (ls' := [(2, 95), (0, ((c9 : Nat) : Int)), (0, ((k9 : Nat) : Int)), (0, ((s9 : Nat) : Int)), (0, ((n9 : Nat) : Int)), (9, 0), (9, 0), (9, 0)]) (st' := [(0, (-1))]) (w' := w1) (n' := 142) rfl ?_
            refine qG.ret rfl rfl ?_
            subst hQ9
            first | exact SQ.rf hI hS | exact SQ.mk' hAs (by decide +kernel) hSs | exact SQ.mk' hA1 (by decide +kernel) hS3 | exact SQ.mk' hA2 (by decide +kernel) hS2
          · skip
            have hN1 : w1 95 8 = (N : Int) := (hdW_e hH (by decide)).trans hN
            have hSS1 : w1 95 37 = (S : Int) := (hdW_e hH (by decide)).trans hSS
            have h8 := zfld hH.2 (j := 8) (b := (0, 1820)) rfl
            have b8 : w1 95 8 ≤ (1820 : Int) := h8.2
            have h37b := zfld hH.2 (j := 37) (b := (0, 800)) rfl
            have b37b : w1 95 37 ≤ (800 : Int) := h37b.2
            have hm2 : ∀ i, (0 : Int) ≤ w1 102 i ∧ w1 102 i ≤ 50 := fun i => hH.2.2.1 102 i (0, 50) rfl rfl
            have hsn : ws 95 37 = (S : Int) := ((hA0.2 95 37 (fun _ => rfl)).symm).trans hSS
            refine qG.blk 1 (pc' := 54) (ls' := [(2, 95), (0, ((c9 : Nat) : Int)), (0, ((k9 : Nat) : Int)), (0, ((s9 : Nat) : Int)), (0, ((n9 : Nat) : Int)), (9, 0), (9, 0), (9, 0)]) (st' := [(2, 95)]) (w' := w1) (n' := 142) rfl ?_
            refine qG.call (t := 260) (na := 1) (sk := 1) (md := 1) (ls1 := [(2, 95), (9, 0), (9, 0), (9, 0), (9, 0)]) (r1 := []) rfl rfl rfl rfl rfl (K_leadsBack (by omega) N S w1 hH.2 hS3 hN1 hSS1) ?_
            rintro _ w2 _ ⟨rfl, rfl, hL, hrow⟩
            have hA2 := hA1.tr2 hL
            have hS2 := lb_s3 hS3 hL
            show qG none (d + 1) 261 57 [(2, 95), (0, ((c9 : Nat) : Int)), (0, ((k9 : Nat) : Int)), (0, ((s9 : Nat) : Int)), (0, ((n9 : Nat) : Int)), (9, 0), (9, 0), (9, 0)] [] w2 142 Q9
            refine qG.blk 2 (pc' := 60) (ls' := [(2, 95), (0, ((c9 : Nat) : Int)), (0, ((k9 : Nat) : Int)), (0, ((s9 : Nat) : Int)), (0, ((n9 : Nat) : Int)), (0, 0), (9, 0), (9, 0)]) (st' := []) (w' := w2) (n' := 142) rfl ?_
            have htS2 : t = S := by omega
            obtain ⟨j9, hj9, hcj⟩ := cntF_in (f := cF w0 t) (i := N) (by omega)
            have hcF := cF_cong (w := w0) (w1 := w1) (fun i => hH.1 101 i (by decide) (by decide) (fun z => by cases z.1)) (fun i => hH.1 102 i (by decide) (by decide) (fun z => by cases z.1)) (fun i => hH.1 103 i (by decide) (by decide) (fun z => by cases z.1)) (fun i => hH.1 116 i (by decide) (by decide) (fun z => by cases z.1)) t
            rw [← hcF] at hcj
            obtain ⟨e9, heN, he9⟩ := way_0 (S := S) hH.2 hS3 hN1 t j9 htS hj9 hcj (by rw [htS2, Nat.sub_self]; rfl)
            have L60 : ∀ (m9 : Nat) (i : Nat), e9 + 1 - i = m9 → (i ≤ e9) → qG none (d + 1) 261 60 [(2, 95), (0, ((c9 : Nat) : Int)), (0, ((k9 : Nat) : Int)), (0, ((s9 : Nat) : Int)), (0, ((n9 : Nat) : Int)), (0, ((i : Nat) : Int)), (9, 0), (9, 0)] [] w2 142 Q9 := by
              intro m9
              induction m9 using Nat.strongRecOn with
              | ind m9 ih60 =>
              intro i hm60 hI60
              refine qG.blk 3 (pc' := 64) (ls' := [(2, 95), (0, ((c9 : Nat) : Int)), (0, ((k9 : Nat) : Int)), (0, ((s9 : Nat) : Int)), (0, ((n9 : Nat) : Int)), (0, ((i : Nat) : Int)), (9, 0), (9, 0)]) (st' := [(0, ((i : Nat) : Int)), (0, 0), (2, 95)]) (w' := w2) (n' := 142) rfl ?_
              refine qG.call (t := 259) (na := 3) (sk := 1) (md := 1) (ls1 := [(2, 95), (0, 0), (0, ((i : Nat) : Int))]) (r1 := []) rfl rfl rfl rfl rfl ((K_isGoing (Nat.zero_le _) 0 i (by omega) (by omega) w2 hL.2 : qG none _ 259 0 [(2, 95), (0, 0), (0, ((i : Nat) : Int))] [] w2 142 _)) ?_
              rintro _ w6 _ ⟨rfl, hw6, rfl⟩
              rw [hw6, show goB w2 0 i = gF w1 S S i from (by have q := hrow S i (Nat.le_refl _) (by omega); rw [Nat.sub_self] at q; exact q)]
              show qG none (d + 1) 261 67 [(2, 95), (0, ((c9 : Nat) : Int)), (0, ((k9 : Nat) : Int)), (0, ((s9 : Nat) : Int)), (0, ((n9 : Nat) : Int)), (0, ((i : Nat) : Int)), (9, 0), (9, 0)] [(0, b01 (gF w1 S S i))] w2 142 Q9
              refine qG.br (P := b01 (gF w1 S S i) = 0) (pc1 := 70) (pc2 := 76) (st1 := []) rfl (fun hgo => ?_) (fun hgo => ?_)
              · skip
                refine qG.blk 1 (pc' := 73) (ls' := [(2, 95), (0, ((c9 : Nat) : Int)), (0, ((k9 : Nat) : Int)), (0, ((s9 : Nat) : Int)), (0, ((n9 : Nat) : Int)), (0, wrp (((i : Nat) : Int) + 1)), (9, 0), (9, 0)]) (st' := []) (w' := w2) (n' := 142) rfl ?_
                rw [show wrp (((i : Nat) : Int) + 1) = ((i + 1 : Nat) : Int) from wrp_id (by omega) (by omega)]
                refine qG.blk 1 (pc' := 60) (ls' := [(2, 95), (0, ((c9 : Nat) : Int)), (0, ((k9 : Nat) : Int)), (0, ((s9 : Nat) : Int)), (0, ((n9 : Nat) : Int)), (0, ((i + 1 : Nat) : Int)), (9, 0), (9, 0)]) (st' := []) (w' := w2) (n' := 142) rfl ?_
                exact ih60 _ (by have q : i ≠ e9 := fun z => (by rw [z, he9] at hgo; exact absurd hgo (by decide)); omega) (i + 1) rfl ((by have q : i ≠ e9 := fun z => (by rw [z, he9] at hgo; exact absurd hgo (by decide)); omega))
              · skip
                refine qG.blk 2 (pc' := 79) (ls' := [(2, 95), (0, ((c9 : Nat) : Int)), (0, ((k9 : Nat) : Int)), (0, ((s9 : Nat) : Int)), (0, ((n9 : Nat) : Int)), (0, ((i : Nat) : Int)), (0, 0), (9, 0)]) (st' := []) (w' := w2) (n' := 142) rfl ?_
                have L79 : ∀ (m9 : Nat) (t2 i : Nat) (x7 : qV), n9 - t2 = m9 → (t2 ≤ n9 ∧ i < N ∧ gF w1 S (S - t2) i = true) → qG none (d + 1) 261 79 [(2, 95), (0, ((c9 : Nat) : Int)), (0, ((k9 : Nat) : Int)), (0, ((s9 : Nat) : Int)), (0, ((n9 : Nat) : Int)), (0, ((i : Nat) : Int)), (0, ((t2 : Nat) : Int)), x7] [] w2 142 Q9 := by
                  intro m9
                  induction m9 using Nat.strongRecOn with
                  | ind m9 ih79 =>
                  intro t2 i x7 hm79 hI79
                  refine qG.blk 2 (pc' := 83) (ls' := [(2, 95), (0, ((c9 : Nat) : Int)), (0, ((k9 : Nat) : Int)), (0, ((s9 : Nat) : Int)), (0, ((n9 : Nat) : Int)), (0, ((i : Nat) : Int)), (0, ((t2 : Nat) : Int)), x7]) (st' := [(0, ((n9 : Nat) : Int)), (0, ((t2 : Nat) : Int))]) (w' := w2) (n' := 142) rfl ?_
                  refine qG.br (P := ((t2 : Nat) : Int) < ((n9 : Nat) : Int)) (pc1 := 86) (pc2 := 169) (st1 := []) rfl (fun htn => ?_) (fun htn => ?_)
                  · skip
                    refine qG.blk 2 (pc' := 89) (ls' := [(2, 95), (0, ((c9 : Nat) : Int)), (0, ((k9 : Nat) : Int)), (0, ((s9 : Nat) : Int)), (0, ((n9 : Nat) : Int)), (0, ((i : Nat) : Int)), (0, ((t2 : Nat) : Int)), (0, 0)]) (st' := []) (w' := w2) (n' := 142) rfl ?_
                    obtain ⟨k9b, hkm, hkN, hgk, hck⟩ := way_s (t := t2) hH.2 hS3 hN1 hI79.2.1 (by omega) hI79.2.2
                    have hm2i := hm2 i
                    have L89 : ∀ (m9 : Nat) (k : Nat), k9b + 1 - k = m9 → (k ≤ k9b) → qG none (d + 1) 261 89 [(2, 95), (0, ((c9 : Nat) : Int)), (0, ((k9 : Nat) : Int)), (0, ((s9 : Nat) : Int)), (0, ((n9 : Nat) : Int)), (0, ((i : Nat) : Int)), (0, ((t2 : Nat) : Int)), (0, ((k : Nat) : Int))] [] w2 142 Q9 := by
                      intro m9
                      induction m9 using Nat.strongRecOn with
                      | ind m9 ih89 =>
                      intro k hm89 hI89
                      have hnx : nxF w1 i k < N := nx_lt hH.2 hS3 hN1 hI79.2.1 (by omega)
                      refine qG.blk 4 (pc' := 94) (ls' := [(2, 95), (0, ((c9 : Nat) : Int)), (0, ((k9 : Nat) : Int)), (0, ((s9 : Nat) : Int)), (0, ((n9 : Nat) : Int)), (0, ((i : Nat) : Int)), (0, ((t2 : Nat) : Int)), (0, ((k : Nat) : Int))]) (st' := [(0, wrp (((t2 : Nat) : Int) + 1)), (2, 95)]) (w' := w2) (n' := 142) rfl ?_
                      rw [show wrp (((t2 : Nat) : Int) + 1) = ((t2 + 1 : Nat) : Int) from by rw [wrp_id (by omega) (by omega)]; omega]
                      refine qG.blk 2 (pc' := 98) (ls' := [(2, 95), (0, ((c9 : Nat) : Int)), (0, ((k9 : Nat) : Int)), (0, ((s9 : Nat) : Int)), (0, ((n9 : Nat) : Int)), (0, ((i : Nat) : Int)), (0, ((t2 : Nat) : Int)), (0, ((k : Nat) : Int))]) (st' := [(2, w2 95 7), (0, ((t2 + 1 : Nat) : Int)), (2, 95)]) (w' := w2) (n' := 142) rfl ?_
                      rw [show w2 95 7 = 103 from zref hL.2 rfl rfl]
                      refine qG.blk 3 (pc' := 103) (ls' := [(2, 95), (0, ((c9 : Nat) : Int)), (0, ((k9 : Nat) : Int)), (0, ((s9 : Nat) : Int)), (0, ((n9 : Nat) : Int)), (0, ((i : Nat) : Int)), (0, ((t2 : Nat) : Int)), (0, ((k : Nat) : Int))]) (st' := [(0, wrp (50 * ((i : Nat) : Int))), (2, 103), (0, ((t2 + 1 : Nat) : Int)), (2, 95)]) (w' := w2) (n' := 142) rfl ?_
                      rw [show wrp (50 * ((i : Nat) : Int)) = ((50 * i : Nat) : Int) from by rw [wrp_id (by omega) (by omega)]; omega]
                      refine qG.blk 2 (pc' := 106) (ls' := [(2, 95), (0, ((c9 : Nat) : Int)), (0, ((k9 : Nat) : Int)), (0, ((s9 : Nat) : Int)), (0, ((n9 : Nat) : Int)), (0, ((i : Nat) : Int)), (0, ((t2 : Nat) : Int)), (0, ((k : Nat) : Int))]) (st' := [(0, wrp (((50 * i : Nat) : Int) + ((k : Nat) : Int))), (2, 103), (0, ((t2 + 1 : Nat) : Int)), (2, 95)]) (w' := w2) (n' := 142) rfl ?_
                      rw [show wrp (((50 * i : Nat) : Int) + ((k : Nat) : Int)) = ((50 * i + k : Nat) : Int) from by rw [wrp_id (by omega) (by omega)]; omega]
                      refine qG.ild (m := 91000) rfl rfl (by omega) (by decide) ?_
                      show qG none (d + 1) 261 107 [(2, 95), (0, ((c9 : Nat) : Int)), (0, ((k9 : Nat) : Int)), (0, ((s9 : Nat) : Int)), (0, ((n9 : Nat) : Int)), (0, ((i : Nat) : Int)), (0, ((t2 : Nat) : Int)), (0, ((k : Nat) : Int))] [(0, w2 103 (50 * i + k)), (0, ((t2 + 1 : Nat) : Int)), (2, 95)] w2 142 Q9
                      rw [show w2 103 (50 * i + k) = ((nxF w1 i k : Nat) : Int) from (hL.1 103 ((50 * i + k)) (by decide)).trans (nx_e hH.2 i k)]
                      refine qG.call (t := 259) (na := 3) (sk := 1) (md := 1) (ls1 := [(2, 95), (0, ((t2 + 1 : Nat) : Int)), (0, ((nxF w1 i k : Nat) : Int))]) (r1 := []) rfl rfl rfl rfl rfl (K_isGoing (Nat.zero_le _) (t2 + 1) (nxF w1 i k) (by omega) (by omega) w2 hL.2) ?_
                      rintro _ w6 _ ⟨rfl, hw6, rfl⟩
                      rw [hw6, show goB w2 (t2 + 1) (nxF w1 i k) = gF w1 S (S - (t2 + 1)) (nxF w1 i k) from (by have q := hrow (S - (t2 + 1)) (nxF w1 i k) (by omega) hnx; rw [← q, show S - (S - (t2 + 1)) = t2 + 1 by omega])]
                      show qG none (d + 1) 261 110 [(2, 95), (0, ((c9 : Nat) : Int)), (0, ((k9 : Nat) : Int)), (0, ((s9 : Nat) : Int)), (0, ((n9 : Nat) : Int)), (0, ((i : Nat) : Int)), (0, ((t2 : Nat) : Int)), (0, ((k : Nat) : Int))] [(0, b01 (gF w1 S (S - (t2 + 1)) (nxF w1 i k)))] w2 142 Q9
                      refine qG.br (P := b01 (gF w1 S (S - (t2 + 1)) (nxF w1 i k)) = 0) (pc1 := 142) (pc2 := 113) (st1 := []) rfl (fun hgo2 => ?_) (fun hgo2 => ?_)
                      · skip
                        refine qG.blk 1 (pc' := 145) (ls' := [(2, 95), (0, ((c9 : Nat) : Int)), (0, ((k9 : Nat) : Int)), (0, ((s9 : Nat) : Int)), (0, ((n9 : Nat) : Int)), (0, ((i : Nat) : Int)), (0, ((t2 : Nat) : Int)), (0, wrp (((k : Nat) : Int) + 1))]) (st' := []) (w' := w2) (n' := 142) rfl ?_
                        rw [show wrp (((k : Nat) : Int) + 1) = ((k + 1 : Nat) : Int) from wrp_id (by omega) (by omega)]
                        refine qG.blk 1 (pc' := 89) (ls' := [(2, 95), (0, ((c9 : Nat) : Int)), (0, ((k9 : Nat) : Int)), (0, ((s9 : Nat) : Int)), (0, ((n9 : Nat) : Int)), (0, ((i : Nat) : Int)), (0, ((t2 : Nat) : Int)), (0, ((k + 1 : Nat) : Int))]) (st' := []) (w' := w2) (n' := 142) rfl ?_
                        exact ih89 _ (by have q : k ≠ k9b := (by first | exact fun z => (by rw [z, hgk] at hgo2; exact absurd hgo2 (by decide)) | exact fun z => (by rw [z] at hcl; exact hcl (of_decide_eq_true hck))); omega) (k + 1) rfl ((by have q : k ≠ k9b := (by first | exact fun z => (by rw [z, hgk] at hgo2; exact absurd hgo2 (by decide)) | exact fun z => (by rw [z] at hcl; exact hcl (of_decide_eq_true hck))); omega))
                      · skip
                        refine qG.blk 2 (pc' := 117) (ls' := [(2, 95), (0, ((c9 : Nat) : Int)), (0, ((k9 : Nat) : Int)), (0, ((s9 : Nat) : Int)), (0, ((n9 : Nat) : Int)), (0, ((i : Nat) : Int)), (0, ((t2 : Nat) : Int)), (0, ((k : Nat) : Int))]) (st' := [(2, w2 95 5)]) (w' := w2) (n' := 142) rfl ?_
                        rw [show w2 95 5 = 101 from zref hL.2 rfl rfl]
                        refine qG.blk 2 (pc' := 121) (ls' := [(2, 95), (0, ((c9 : Nat) : Int)), (0, ((k9 : Nat) : Int)), (0, ((s9 : Nat) : Int)), (0, ((n9 : Nat) : Int)), (0, ((i : Nat) : Int)), (0, ((t2 : Nat) : Int)), (0, ((k : Nat) : Int))]) (st' := [(2, w2 95 7), (2, 101)]) (w' := w2) (n' := 142) rfl ?_
                        rw [show w2 95 7 = 103 from zref hL.2 rfl rfl]
                        refine qG.blk 3 (pc' := 126) (ls' := [(2, 95), (0, ((c9 : Nat) : Int)), (0, ((k9 : Nat) : Int)), (0, ((s9 : Nat) : Int)), (0, ((n9 : Nat) : Int)), (0, ((i : Nat) : Int)), (0, ((t2 : Nat) : Int)), (0, ((k : Nat) : Int))]) (st' := [(0, wrp (50 * ((i : Nat) : Int))), (2, 103), (2, 101)]) (w' := w2) (n' := 142) rfl ?_
                        rw [show wrp (50 * ((i : Nat) : Int)) = ((50 * i : Nat) : Int) from by rw [wrp_id (by omega) (by omega)]; omega]
                        refine qG.blk 2 (pc' := 129) (ls' := [(2, 95), (0, ((c9 : Nat) : Int)), (0, ((k9 : Nat) : Int)), (0, ((s9 : Nat) : Int)), (0, ((n9 : Nat) : Int)), (0, ((i : Nat) : Int)), (0, ((t2 : Nat) : Int)), (0, ((k : Nat) : Int))]) (st' := [(0, wrp (((50 * i : Nat) : Int) + ((k : Nat) : Int))), (2, 103), (2, 101)]) (w' := w2) (n' := 142) rfl ?_
                        rw [show wrp (((50 * i : Nat) : Int) + ((k : Nat) : Int)) = ((50 * i + k : Nat) : Int) from by rw [wrp_id (by omega) (by omega)]; omega]
                        refine qG.ild (m := 91000) rfl rfl (by omega) (by decide) ?_
                        show qG none (d + 1) 261 130 [(2, 95), (0, ((c9 : Nat) : Int)), (0, ((k9 : Nat) : Int)), (0, ((s9 : Nat) : Int)), (0, ((n9 : Nat) : Int)), (0, ((i : Nat) : Int)), (0, ((t2 : Nat) : Int)), (0, ((k : Nat) : Int))] [(0, w2 103 (50 * i + k)), (2, 101)] w2 142 Q9
                        rw [show w2 103 (50 * i + k) = ((nxF w1 i k : Nat) : Int) from (hL.1 103 ((50 * i + k)) (by decide)).trans (nx_e hH.2 i k)]
                        refine qG.ild (m := 1820) rfl rfl (by omega) (by decide) ?_
                        show qG none (d + 1) 261 131 [(2, 95), (0, ((c9 : Nat) : Int)), (0, ((k9 : Nat) : Int)), (0, ((s9 : Nat) : Int)), (0, ((n9 : Nat) : Int)), (0, ((i : Nat) : Int)), (0, ((t2 : Nat) : Int)), (0, ((k : Nat) : Int))] [(0, w2 101 (nxF w1 i k))] w2 142 Q9
                        rw [show w2 101 (nxF w1 i k) = w1 101 (nxF w1 i k) from hL.1 101 ((nxF w1 i k)) (by decide)]
                        refine qG.blk 2 (pc' := 135) (ls' := [(2, 95), (0, ((c9 : Nat) : Int)), (0, ((k9 : Nat) : Int)), (0, ((s9 : Nat) : Int)), (0, ((n9 : Nat) : Int)), (0, ((i : Nat) : Int)), (0, ((t2 : Nat) : Int)), (0, ((k : Nat) : Int))]) (st' := [(2, w2 95 36), (0, w1 101 (nxF w1 i k))]) (w' := w2) (n' := 142) rfl ?_
                        rw [show w2 95 36 = 116 from zref hL.2 rfl rfl]
                        refine qG.blk 1 (pc' := 137) (ls' := [(2, 95), (0, ((c9 : Nat) : Int)), (0, ((k9 : Nat) : Int)), (0, ((s9 : Nat) : Int)), (0, ((n9 : Nat) : Int)), (0, ((i : Nat) : Int)), (0, ((t2 : Nat) : Int)), (0, ((k : Nat) : Int))]) (st' := [(0, ((t2 : Nat) : Int)), (2, 116), (0, w1 101 (nxF w1 i k))]) (w' := w2) (n' := 142) rfl ?_
                        refine qG.ild (m := 900) rfl rfl (by omega) (by decide) ?_
                        show qG none (d + 1) 261 138 [(2, 95), (0, ((c9 : Nat) : Int)), (0, ((k9 : Nat) : Int)), (0, ((s9 : Nat) : Int)), (0, ((n9 : Nat) : Int)), (0, ((i : Nat) : Int)), (0, ((t2 : Nat) : Int)), (0, ((k : Nat) : Int))] [(0, w2 116 t2), (0, w1 101 (nxF w1 i k))] w2 142 Q9
                        rw [show w2 116 t2 = w1 116 t2 from hL.1 116 (t2) (by decide)]
                        refine qG.blk 1 (pc' := 139) (ls' := [(2, 95), (0, ((c9 : Nat) : Int)), (0, ((k9 : Nat) : Int)), (0, ((s9 : Nat) : Int)), (0, ((n9 : Nat) : Int)), (0, ((i : Nat) : Int)), (0, ((t2 : Nat) : Int)), (0, ((k : Nat) : Int))]) (st' := [(0, qand (w1 101 (nxF w1 i k)) (w1 116 t2))]) (w' := w2) (n' := 142) rfl ?_
                        refine qG.br (P := qand (w1 101 (nxF w1 i k)) (w1 116 t2) = 0) (pc1 := 148) (pc2 := 142) (st1 := []) rfl (fun hcl => ?_) (fun hcl => ?_)
                        · skip
                          refine qG.blk 2 (pc' := 152) (ls' := [(2, 95), (0, ((c9 : Nat) : Int)), (0, ((k9 : Nat) : Int)), (0, ((s9 : Nat) : Int)), (0, ((n9 : Nat) : Int)), (0, ((i : Nat) : Int)), (0, ((t2 : Nat) : Int)), (0, ((k : Nat) : Int))]) (st' := [(2, w2 95 7)]) (w' := w2) (n' := 142) rfl ?_
                          rw [show w2 95 7 = 103 from zref hL.2 rfl rfl]
                          refine qG.blk 3 (pc' := 157) (ls' := [(2, 95), (0, ((c9 : Nat) : Int)), (0, ((k9 : Nat) : Int)), (0, ((s9 : Nat) : Int)), (0, ((n9 : Nat) : Int)), (0, ((i : Nat) : Int)), (0, ((t2 : Nat) : Int)), (0, ((k : Nat) : Int))]) (st' := [(0, wrp (50 * ((i : Nat) : Int))), (2, 103)]) (w' := w2) (n' := 142) rfl ?_
                          rw [show wrp (50 * ((i : Nat) : Int)) = ((50 * i : Nat) : Int) from by rw [wrp_id (by omega) (by omega)]; omega]
                          refine qG.blk 2 (pc' := 160) (ls' := [(2, 95), (0, ((c9 : Nat) : Int)), (0, ((k9 : Nat) : Int)), (0, ((s9 : Nat) : Int)), (0, ((n9 : Nat) : Int)), (0, ((i : Nat) : Int)), (0, ((t2 : Nat) : Int)), (0, ((k : Nat) : Int))]) (st' := [(0, wrp (((50 * i : Nat) : Int) + ((k : Nat) : Int))), (2, 103)]) (w' := w2) (n' := 142) rfl ?_
                          rw [show wrp (((50 * i : Nat) : Int) + ((k : Nat) : Int)) = ((50 * i + k : Nat) : Int) from by rw [wrp_id (by omega) (by omega)]; omega]
                          refine qG.ild (m := 91000) rfl rfl (by omega) (by decide) ?_
                          show qG none (d + 1) 261 161 [(2, 95), (0, ((c9 : Nat) : Int)), (0, ((k9 : Nat) : Int)), (0, ((s9 : Nat) : Int)), (0, ((n9 : Nat) : Int)), (0, ((i : Nat) : Int)), (0, ((t2 : Nat) : Int)), (0, ((k : Nat) : Int))] [(0, w2 103 (50 * i + k))] w2 142 Q9
                          rw [show w2 103 (50 * i + k) = ((nxF w1 i k : Nat) : Int) from (hL.1 103 ((50 * i + k)) (by decide)).trans (nx_e hH.2 i k)]
                          refine qG.blk 2 (pc' := 166) (ls' := [(2, 95), (0, ((c9 : Nat) : Int)), (0, ((k9 : Nat) : Int)), (0, ((s9 : Nat) : Int)), (0, ((n9 : Nat) : Int)), (0, ((nxF w1 i k : Nat) : Int)), (0, wrp (((t2 : Nat) : Int) + 1)), (0, ((k : Nat) : Int))]) (st' := []) (w' := w2) (n' := 142) rfl ?_
                          rw [show wrp (((t2 : Nat) : Int) + 1) = ((t2 + 1 : Nat) : Int) from wrp_id (by omega) (by omega)]
                          refine qG.blk 1 (pc' := 79) (ls' := [(2, 95), (0, ((c9 : Nat) : Int)), (0, ((k9 : Nat) : Int)), (0, ((s9 : Nat) : Int)), (0, ((n9 : Nat) : Int)), (0, ((nxF w1 i k : Nat) : Int)), (0, ((t2 + 1 : Nat) : Int)), (0, ((k : Nat) : Int))]) (st' := []) (w' := w2) (n' := 142) rfl ?_
                          exact ih79 _ (by omega) (t2 + 1) (nxF w1 i k) ((0, ((k : Nat) : Int))) rfl (⟨by omega, hnx, b01_1 hgo2⟩)
                        · skip
                          refine qG.blk 1 (pc' := 145) (ls' := [(2, 95), (0, ((c9 : Nat) : Int)), (0, ((k9 : Nat) : Int)), (0, ((s9 : Nat) : Int)), (0, ((n9 : Nat) : Int)), (0, ((i : Nat) : Int)), (0, ((t2 : Nat) : Int)), (0, wrp (((k : Nat) : Int) + 1))]) (st' := []) (w' := w2) (n' := 142) rfl ?_
                          rw [show wrp (((k : Nat) : Int) + 1) = ((k + 1 : Nat) : Int) from wrp_id (by omega) (by omega)]
                          refine qG.blk 1 (pc' := 89) (ls' := [(2, 95), (0, ((c9 : Nat) : Int)), (0, ((k9 : Nat) : Int)), (0, ((s9 : Nat) : Int)), (0, ((n9 : Nat) : Int)), (0, ((i : Nat) : Int)), (0, ((t2 : Nat) : Int)), (0, ((k + 1 : Nat) : Int))]) (st' := []) (w' := w2) (n' := 142) rfl ?_
                          exact ih89 _ (by have q : k ≠ k9b := (by first | exact fun z => (by rw [z, hgk] at hgo2; exact absurd hgo2 (by decide)) | exact fun z => (by rw [z] at hcl; exact hcl (of_decide_eq_true hck))); omega) (k + 1) rfl ((by have q : k ≠ k9b := (by first | exact fun z => (by rw [z, hgk] at hgo2; exact absurd hgo2 (by decide)) | exact fun z => (by rw [z] at hcl; exact hcl (of_decide_eq_true hck))); omega))
                    exact L89 _ (0) rfl (by omega)
                  · skip
                    refine qG.blk 2 (pc' := 173) (ls' := [(2, 95), (0, ((c9 : Nat) : Int)), (0, ((k9 : Nat) : Int)), (0, ((s9 : Nat) : Int)), (0, ((n9 : Nat) : Int)), (0, ((i : Nat) : Int)), (0, ((t2 : Nat) : Int)), x7]) (st' := [(2, w2 95 5)]) (w' := w2) (n' := 142) rfl ?_
                    rw [show w2 95 5 = 101 from zref hL.2 rfl rfl]
                    refine qG.blk 1 (pc' := 175) (ls' := [(2, 95), (0, ((c9 : Nat) : Int)), (0, ((k9 : Nat) : Int)), (0, ((s9 : Nat) : Int)), (0, ((n9 : Nat) : Int)), (0, ((i : Nat) : Int)), (0, ((t2 : Nat) : Int)), x7]) (st' := [(0, ((i : Nat) : Int)), (2, 101)]) (w' := w2) (n' := 142) rfl ?_
                    refine qG.ild (m := 1820) rfl rfl (by omega) (by decide) ?_
                    show qG none (d + 1) 261 176 [(2, 95), (0, ((c9 : Nat) : Int)), (0, ((k9 : Nat) : Int)), (0, ((s9 : Nat) : Int)), (0, ((n9 : Nat) : Int)), (0, ((i : Nat) : Int)), (0, ((t2 : Nat) : Int)), x7] [(0, w2 101 i)] w2 142 Q9
                    rw [show w2 101 i = w1 101 i from hL.1 101 (i) (by decide)]
                    refine qG.ret rfl rfl ?_
                    subst hQ9
                    first | exact SQ.rf hI hS | exact SQ.mk' hAs (by decide +kernel) hSs | exact SQ.mk' hA1 (by decide +kernel) hS3 | exact SQ.mk' hA2 (by decide +kernel) hS2
                exact L79 _ (0) (i) ((9, 0)) rfl (⟨by omega, by omega, b01_1 hgo⟩)
            exact L60 _ (0) rfl (by omega)
end
section
/-! the reference's comesTo, weighs, isMan, reason, pamphlet: they end -/
noncomputable def PL : List Nat := [115]
noncomputable def RSM : List Nat := [115, 116, 38095, 39095, 40095, 41095, 42095, 43095, 44095, 101, 102, 103, 9095, 10095, 117, 118, 47095, 119]
theorem AW.mono {m m2 : List Nat} {w w1 : qW} (h : AW m w w1) (hm : ysubm m m2 = true) : AW m2 w w1 := ⟨h.1, fun p j hp => h.2 p j (fun k => ysubm_ok hm k (hp k))⟩
theorem AW.pile {w w1 : qW} {j : Nat} {v : Int} (h : AW PL w w1) (hv : yin (-2147483648, 2147483647) v) : AW PL w (qup w1 115 j v) := ⟨zup_a h.1 (b := (-2147483648, 2147483647)) rfl rfl hv, fun p q hp => by
  rw [qup_ne (fun z => by have := hp (by omega); rw [z] at this; cases this)]
  exact h.2 p q hp⟩
theorem AW.a {m : List Nat} {w w1 : qW} (h : AW m w w1) {p : Nat} (hp : p < 1000) (hf : m.all (fun e => !Nat.beq (e % 1000) p) = true) (j : Nat) : w1 p j = w p j := h.2 p j (fun _ => ymo_far hp hf j)
theorem S3.aw {m : List Nat} {w w1 : qW} (h : S3 w) (a : AW m w w1) (h8 : ymo 95 8 m = false) (h2 : m.all (fun e => !Nat.beq (e % 1000) 102) = true) (h3 : m.all (fun e => !Nat.beq (e % 1000) 103) = true) : S3 w1 := h.cong (a.2 95 8 (fun _ => h8)) (a.a (by decide) h2) (a.a (by decide) h3)
theorem Sp2.aw {m : List Nat} {w w1 : qW} (h : Sp2 w) (a : AW m w w1) (h8 : ymo 95 22 m = false) (h2 : m.all (fun e => !Nat.beq (e % 1000) 111) = true) (h3 : m.all (fun e => !Nat.beq (e % 1000) 112) = true) : Sp2 w1 := h.cong (a.2 95 22 (fun _ => h8)) (a.a (by decide) h2) (a.a (by decide) h3)
theorem Sp1.aw {m : List Nat} {w w1 : qW} (h : Sp1 w) (a : AW m w w1) (h2 : m.all (fun e => !Nat.beq (e % 1000) 104) = true) (h3 : m.all (fun e => !Nat.beq (e % 1000) 105) = true) : Sp1 w1 := h.cong (a.a (by decide) h2) (a.a (by decide) h3)
theorem run_st {f : Nat → Int} {b e i h k : Nat} (hb : b ≤ i) (hi : i < e) (h1 : runS f b (i - b) 0 = some h) (h2 : runS f b (e - b) 0 = some k) : ∃ g, stepH (f (2 * i)) (f (2 * i + 1)) h = some g ∧ runS f b (i + 1 - b) 0 = some g := by
  have h3 := runS_app (i - b) (m := e - i) h1
  rw [show i - b + (e - i) = e - b by omega, h2, show b + (i - b) = i by omega, show e - i = (e - i - 1) + 1 by omega] at h3
  have h3 : some k = (match stepH (f (2 * i)) (f (2 * i + 1)) h with
    | some h' => runS f (i + 1) (e - i - 1) h'
    | none => none) := h3
  have h4 := runS_app (i - b) (m := 1) h1
  rw [show i - b + 1 = i + 1 - b by omega, show b + (i - b) = i by omega] at h4
  have h4 : runS f b (i + 1 - b) 0 = (match stepH (f (2 * i)) (f (2 * i + 1)) h with
    | some h' => some h'
    | none => none) := h4
  cases hs : stepH (f (2 * i)) (f (2 * i + 1)) h with
  | none => rw [hs] at h3; cases h3
  | some g => rw [hs] at h4; exact ⟨g, rfl, h4⟩
theorem step_c {s v : Int} {h g : Nat} (e : stepH s v h = some g) : (s < 8 → g = h + 1) ∧ (¬ s < 8 → s = 11 → 1 ≤ h ∧ 1 ≤ v ∧ g = h) ∧ (¬ s < 8 → ¬ s = 11 → s = 15 → 1 ≤ h ∧ g = h) ∧ (¬ s < 8 → ¬ s = 11 → ¬ s = 15 → 2 ≤ h ∧ g + 1 = h) := by
  unfold stepH at e
  refine ⟨fun a => ?_, fun a b => ?_, fun a b c => ?_, fun a b c => ?_⟩
  · rw [if_pos a] at e; cases e; rfl
  · rw [if_neg a, if_pos b] at e
    split at e
    · cases e; rename_i z; exact ⟨z.1, z.2, rfl⟩
    · cases e
  · rw [if_neg a, if_neg b, if_pos c] at e
    split at e
    · cases e; rename_i z; exact ⟨z, rfl⟩
    · cases e
  · rw [if_neg a, if_neg b, if_neg c] at e
    split at e
    · cases e; rename_i z; exact ⟨z, by omega⟩
    · cases e
theorem K_comesTo {d : Nat} (hd : 3 ≤ d) (b e : Nat) (hbe : b ≤ e) (he : e ≤ 610) (w : qW) (hI : yInv zgf zga zra zSp w) (hrun : runS (w 112) b (e - b) 0 = some 1) : qG none d 267 0 [(2, 95), (0, ((b : Nat) : Int)), (0, ((e : Nat) : Int)), (9, 0), (9, 0), (9, 0), (9, 0)] [] w 142 (fun (r : qV) (w1 : qW) (n1 : Nat) => n1 = 142 ∧ (∃ x, r = (0, x) ∧ -2147483648 ≤ x ∧ x ≤ 2147483647) ∧ AW PL w w1) := by
  generalize hQ9 : (fun (r : qV) (w1 : qW) (n1 : Nat) => n1 = 142 ∧ (∃ x, r = (0, x) ∧ -2147483648 ≤ x ∧ x ≤ 2147483647) ∧ AW PL w w1) = Q9
  obtain ⟨d, rfl⟩ : ∃ d9, d = d9 + 1 := ⟨d - 1, by omega⟩
  refine qG.blk 4 (pc' := 5) (ls' := [(2, 95), (0, ((b : Nat) : Int)), (0, ((e : Nat) : Int)), (0, 0), (0, ((b : Nat) : Int)), (9, 0), (9, 0)]) (st' := []) (w' := w) (n' := 142) rfl ?_
  have L5 : ∀ (m9 : Nat) (i h : Nat) (w9 : qW) (x5 x6 : qV), e - i = m9 → (b ≤ i ∧ i ≤ e ∧ runS (w 112) b (i - b) 0 = some h ∧ h ≤ i - b ∧ AW PL w w9) → qG none (d + 1) 267 5 [(2, 95), (0, ((b : Nat) : Int)), (0, ((e : Nat) : Int)), (0, ((h : Nat) : Int)), (0, ((i : Nat) : Int)), x5, x6] [] w9 142 Q9 := by
    intro m9
    induction m9 using Nat.strongRecOn with
    | ind m9 ih5 =>
    intro i h w9 x5 x6 hm5 hI5
    refine qG.blk 2 (pc' := 8) (ls' := [(2, 95), (0, ((b : Nat) : Int)), (0, ((e : Nat) : Int)), (0, ((h : Nat) : Int)), (0, ((i : Nat) : Int)), x5, x6]) (st' := [(0, ((e : Nat) : Int)), (0, ((i : Nat) : Int))]) (w' := w9) (n' := 142) rfl ?_
    refine qG.br (P := ((i : Nat) : Int) < ((e : Nat) : Int)) (pc1 := 11) (pc2 := 149) (st1 := []) rfl (fun hie => ?_) (fun hie => ?_)
    · skip
      obtain ⟨g9, hst, hr2⟩ := run_st hI5.1 (by omega) hI5.2.2.1 hrun
      have hC := step_c hst
      have hq1 := hI.2.1 112 (2 * i) (-2147483648, 2147483647) rfl rfl
      have hq2 := hI.2.1 112 (2 * i + 1) (-2147483648, 2147483647) rfl rfl
      have q1 : (-2147483648 : Int) ≤ w 112 (2 * i) := hq1.1
      have q2 : w 112 (2 * i) ≤ (2147483647 : Int) := hq1.2
      have q3 : (-2147483648 : Int) ≤ w 112 (2 * i + 1) := hq2.1
      have q4 : w 112 (2 * i + 1) ≤ (2147483647 : Int) := hq2.2
      have hpr : ∀ j, (-2147483648 : Int) ≤ w9 115 j ∧ w9 115 j ≤ 2147483647 := fun j => hI5.2.2.2.2.1.2.1 115 j (-2147483648, 2147483647) rfl rfl
      have hp1 := hpr (h - 1)
      have hp2 := hpr (h - 2)
      refine qG.blk 2 (pc' := 15) (ls' := [(2, 95), (0, ((b : Nat) : Int)), (0, ((e : Nat) : Int)), (0, ((h : Nat) : Int)), (0, ((i : Nat) : Int)), x5, x6]) (st' := [(2, w9 95 18)]) (w' := w9) (n' := 142) rfl ?_
      rw [show w9 95 18 = 112 from zref hI5.2.2.2.2.1 rfl rfl]
      refine qG.blk 3 (pc' := 19) (ls' := [(2, 95), (0, ((b : Nat) : Int)), (0, ((e : Nat) : Int)), (0, ((h : Nat) : Int)), (0, ((i : Nat) : Int)), x5, x6]) (st' := [(0, wrp (2 * ((i : Nat) : Int))), (2, 112)]) (w' := w9) (n' := 142) rfl ?_
      rw [show wrp (2 * ((i : Nat) : Int)) = ((2 * i : Nat) : Int) from by rw [wrp_id (by omega) (by omega)]; omega]
      refine qG.ild (m := 1220) rfl rfl (by omega) (by decide) ?_
      show qG none (d + 1) 267 20 [(2, 95), (0, ((b : Nat) : Int)), (0, ((e : Nat) : Int)), (0, ((h : Nat) : Int)), (0, ((i : Nat) : Int)), x5, x6] [(0, w9 112 (2 * i))] w9 142 Q9
      rw [show w9 112 (2 * i) = w 112 (2 * i) from hI5.2.2.2.2.a (p := 112) (by decide) (by decide) ((2 * i))]
      refine qG.blk 3 (pc' := 26) (ls' := [(2, 95), (0, ((b : Nat) : Int)), (0, ((e : Nat) : Int)), (0, ((h : Nat) : Int)), (0, ((i : Nat) : Int)), (0, w 112 (2 * i)), x6]) (st' := [(2, w9 95 18)]) (w' := w9) (n' := 142) rfl ?_
      rw [show w9 95 18 = 112 from zref hI5.2.2.2.2.1 rfl rfl]
      refine qG.blk 3 (pc' := 30) (ls' := [(2, 95), (0, ((b : Nat) : Int)), (0, ((e : Nat) : Int)), (0, ((h : Nat) : Int)), (0, ((i : Nat) : Int)), (0, w 112 (2 * i)), x6]) (st' := [(0, wrp (2 * ((i : Nat) : Int))), (2, 112)]) (w' := w9) (n' := 142) rfl ?_
      rw [show wrp (2 * ((i : Nat) : Int)) = ((2 * i : Nat) : Int) from by rw [wrp_id (by omega) (by omega)]; omega]
      refine qG.blk 2 (pc' := 32) (ls' := [(2, 95), (0, ((b : Nat) : Int)), (0, ((e : Nat) : Int)), (0, ((h : Nat) : Int)), (0, ((i : Nat) : Int)), (0, w 112 (2 * i)), x6]) (st' := [(0, wrp (((2 * i : Nat) : Int) + 1)), (2, 112)]) (w' := w9) (n' := 142) rfl ?_
      rw [show wrp (((2 * i : Nat) : Int) + 1) = ((2 * i + 1 : Nat) : Int) from by rw [wrp_id (by omega) (by omega)]; omega]
      refine qG.ild (m := 1220) rfl rfl (by omega) (by decide) ?_
      show qG none (d + 1) 267 33 [(2, 95), (0, ((b : Nat) : Int)), (0, ((e : Nat) : Int)), (0, ((h : Nat) : Int)), (0, ((i : Nat) : Int)), (0, w 112 (2 * i)), x6] [(0, w9 112 (2 * i + 1))] w9 142 Q9
      rw [show w9 112 (2 * i + 1) = w 112 (2 * i + 1) from hI5.2.2.2.2.a (p := 112) (by decide) (by decide) ((2 * i + 1))]
      refine qG.blk 3 (pc' := 39) (ls' := [(2, 95), (0, ((b : Nat) : Int)), (0, ((e : Nat) : Int)), (0, ((h : Nat) : Int)), (0, ((i : Nat) : Int)), (0, w 112 (2 * i)), (0, w 112 (2 * i + 1))]) (st' := [(0, 8), (0, w 112 (2 * i))]) (w' := w9) (n' := 142) rfl ?_
      refine qG.br (P := w 112 (2 * i) < 8) (pc1 := 42) (pc2 := 62) (st1 := []) rfl (fun hs8 => ?_) (fun hs8 => ?_)
      · skip
        refine qG.blk 2 (pc' := 46) (ls' := [(2, 95), (0, ((b : Nat) : Int)), (0, ((e : Nat) : Int)), (0, ((h : Nat) : Int)), (0, ((i : Nat) : Int)), (0, w 112 (2 * i)), (0, w 112 (2 * i + 1))]) (st' := [(2, w9 95 21)]) (w' := w9) (n' := 142) rfl ?_
        rw [show w9 95 21 = 115 from zref hI5.2.2.2.2.1 rfl rfl]
        refine qG.blk 4 (pc' := 52) (ls' := [(2, 95), (0, ((b : Nat) : Int)), (0, ((e : Nat) : Int)), (0, ((h : Nat) : Int)), (0, ((i : Nat) : Int)), (0, w 112 (2 * i)), (0, w 112 (2 * i + 1))]) (st' := [(0, w 112 (2 * i + 1)), (0, w 112 (2 * i)), (2, 95), (0, ((h : Nat) : Int)), (2, 115)]) (w' := w9) (n' := 142) rfl ?_
        refine qG.call (t := 265) (na := 3) (sk := 1) (md := 1) (ls1 := [(2, 95), (0, w 112 (2 * i)), (0, w 112 (2 * i + 1))]) (r1 := [(0, ((h : Nat) : Int)), (2, 115)]) rfl rfl rfl rfl rfl (AW.use (c := C_R_fact.2) (as := [(2, 95), (0, w 112 (2 * i)), (0, w 112 (2 * i + 1))]) T_R_fact hI5.2.2.2.2 (show 2 ≤ d by omega) ⟨⟨rfl, by decide, by decide⟩, ⟨rfl, by omega, by omega⟩, ⟨rfl, by omega, by omega⟩, trivial⟩ rfl rfl (by decide +kernel)) ?_
        rintro _ w1 _ ⟨x1, rfl, hl1, hu1, hA1, rfl, hB1⟩
        have hl1 : ((-2147483648) : Int) ≤ x1 := hl1
        have hu1 : x1 ≤ (2147483647 : Int) := hu1
        show qG none (d + 1) 267 55 [(2, 95), (0, ((b : Nat) : Int)), (0, ((e : Nat) : Int)), (0, ((h : Nat) : Int)), (0, ((i : Nat) : Int)), (0, w 112 (2 * i)), (0, w 112 (2 * i + 1))] [(0, x1), (0, ((h : Nat) : Int)), (2, 115)] w1 142 Q9
        refine qG.ist (m := 620) rfl rfl (by omega) (by decide) ?_
        show qG none (d + 1) 267 56 [(2, 95), (0, ((b : Nat) : Int)), (0, ((e : Nat) : Int)), (0, ((h : Nat) : Int)), (0, ((i : Nat) : Int)), (0, w 112 (2 * i)), (0, w 112 (2 * i + 1))] [] (qup w1 115 h x1) 142 Q9
        refine qG.blk 1 (pc' := 59) (ls' := [(2, 95), (0, ((b : Nat) : Int)), (0, ((e : Nat) : Int)), (0, wrp (((h : Nat) : Int) + 1)), (0, ((i : Nat) : Int)), (0, w 112 (2 * i)), (0, w 112 (2 * i + 1))]) (st' := []) (w' := (qup w1 115 h x1)) (n' := 142) rfl ?_
        rw [show wrp (((h : Nat) : Int) + 1) = ((h + 1 : Nat) : Int) from wrp_id (by omega) (by omega)]
        refine qG.blk 2 (pc' := 146) (ls' := [(2, 95), (0, ((b : Nat) : Int)), (0, ((e : Nat) : Int)), (0, ((h + 1 : Nat) : Int)), (0, wrp (((i : Nat) : Int) + 1)), (0, w 112 (2 * i)), (0, w 112 (2 * i + 1))]) (st' := []) (w' := (qup w1 115 h x1)) (n' := 142) rfl ?_
        rw [show wrp (((i : Nat) : Int) + 1) = ((i + 1 : Nat) : Int) from wrp_id (by omega) (by omega)]
        refine qG.blk 1 (pc' := 5) (ls' := [(2, 95), (0, ((b : Nat) : Int)), (0, ((e : Nat) : Int)), (0, ((h + 1 : Nat) : Int)), (0, ((i + 1 : Nat) : Int)), (0, w 112 (2 * i)), (0, w 112 (2 * i + 1))]) (st' := []) (w' := (qup w1 115 h x1)) (n' := 142) rfl ?_
        exact ih5 _ (by omega) (i + 1) (h + 1) ((qup w1 115 h x1)) ((0, w 112 (2 * i))) ((0, w 112 (2 * i + 1))) rfl (⟨by omega, by omega, (show g9 = h + 1 from (by omega)) ▸ hr2, by omega, AW.pile hA1 ⟨hl1, hu1⟩⟩)
      · skip
        refine qG.blk 2 (pc' := 66) (ls' := [(2, 95), (0, ((b : Nat) : Int)), (0, ((e : Nat) : Int)), (0, ((h : Nat) : Int)), (0, ((i : Nat) : Int)), (0, w 112 (2 * i)), (0, w 112 (2 * i + 1))]) (st' := [(0, 11), (0, w 112 (2 * i))]) (w' := w9) (n' := 142) rfl ?_
        refine qG.br (P := w 112 (2 * i) = 11) (pc1 := 69) (pc2 := 85) (st1 := []) rfl (fun hs11 => ?_) (fun hs11 => ?_)
        · skip
          refine qG.blk 2 (pc' := 73) (ls' := [(2, 95), (0, ((b : Nat) : Int)), (0, ((e : Nat) : Int)), (0, ((h : Nat) : Int)), (0, ((i : Nat) : Int)), (0, w 112 (2 * i)), (0, w 112 (2 * i + 1))]) (st' := [(2, w9 95 21)]) (w' := w9) (n' := 142) rfl ?_
          rw [show w9 95 21 = 115 from zref hI5.2.2.2.2.1 rfl rfl]
          refine qG.blk 3 (pc' := 76) (ls' := [(2, 95), (0, ((b : Nat) : Int)), (0, ((e : Nat) : Int)), (0, ((h : Nat) : Int)), (0, ((i : Nat) : Int)), (0, w 112 (2 * i)), (0, w 112 (2 * i + 1))]) (st' := [(0, wrp (((h : Nat) : Int) - 1)), (2, 115)]) (w' := w9) (n' := 142) rfl ?_
          rw [show wrp (((h : Nat) : Int) - 1) = ((h - 1 : Nat) : Int) from by rw [wrp_id (by omega) (by omega)]; omega]
          refine qG.blk 1 (pc' := 77) (ls' := [(2, 95), (0, ((b : Nat) : Int)), (0, ((e : Nat) : Int)), (0, ((h : Nat) : Int)), (0, ((i : Nat) : Int)), (0, w 112 (2 * i)), (0, w 112 (2 * i + 1))]) (st' := [(0, ((h - 1 : Nat) : Int)), (2, 115), (0, ((h - 1 : Nat) : Int)), (2, 115)]) (w' := w9) (n' := 142) rfl ?_
          refine qG.ild (m := 620) rfl rfl (by omega) (by decide) ?_
          show qG none (d + 1) 267 78 [(2, 95), (0, ((b : Nat) : Int)), (0, ((e : Nat) : Int)), (0, ((h : Nat) : Int)), (0, ((i : Nat) : Int)), (0, w 112 (2 * i)), (0, w 112 (2 * i + 1))] [(0, w9 115 (h - 1)), (0, ((h - 1 : Nat) : Int)), (2, 115)] w9 142 Q9
          refine qG.blk 1 (pc' := 80) (ls' := [(2, 95), (0, ((b : Nat) : Int)), (0, ((e : Nat) : Int)), (0, ((h : Nat) : Int)), (0, ((i : Nat) : Int)), (0, w 112 (2 * i)), (0, w 112 (2 * i + 1))]) (st' := [(0, w 112 (2 * i + 1)), (0, w9 115 (h - 1)), (0, ((h - 1 : Nat) : Int)), (2, 115)]) (w' := w9) (n' := 142) rfl ?_
          refine qG.gn (P := w 112 (2 * i + 1) = 0) (pc' := 81) (ls' := [(2, 95), (0, ((b : Nat) : Int)), (0, ((e : Nat) : Int)), (0, ((h : Nat) : Int)), (0, ((i : Nat) : Int)), (0, w 112 (2 * i)), (0, w 112 (2 * i + 1))]) (st' := [(0, qdiv (w9 115 (h - 1)) (w 112 (2 * i + 1))), (0, ((h - 1 : Nat) : Int)), (2, 115)]) (w' := w9) (n' := 142) rfl (by omega) ?_
          refine qG.ist (m := 620) rfl rfl (by omega) (by decide) ?_
          show qG none (d + 1) 267 82 [(2, 95), (0, ((b : Nat) : Int)), (0, ((e : Nat) : Int)), (0, ((h : Nat) : Int)), (0, ((i : Nat) : Int)), (0, w 112 (2 * i)), (0, w 112 (2 * i + 1))] [] (qup w9 115 (h - 1) (qdiv (w9 115 (h - 1)) (w 112 (2 * i + 1)))) 142 Q9
          refine qG.blk 2 (pc' := 146) (ls' := [(2, 95), (0, ((b : Nat) : Int)), (0, ((e : Nat) : Int)), (0, ((h : Nat) : Int)), (0, wrp (((i : Nat) : Int) + 1)), (0, w 112 (2 * i)), (0, w 112 (2 * i + 1))]) (st' := []) (w' := (qup w9 115 (h - 1) (qdiv (w9 115 (h - 1)) (w 112 (2 * i + 1))))) (n' := 142) rfl ?_
          rw [show wrp (((i : Nat) : Int) + 1) = ((i + 1 : Nat) : Int) from wrp_id (by omega) (by omega)]
          refine qG.blk 1 (pc' := 5) (ls' := [(2, 95), (0, ((b : Nat) : Int)), (0, ((e : Nat) : Int)), (0, ((h : Nat) : Int)), (0, ((i + 1 : Nat) : Int)), (0, w 112 (2 * i)), (0, w 112 (2 * i + 1))]) (st' := []) (w' := (qup w9 115 (h - 1) (qdiv (w9 115 (h - 1)) (w 112 (2 * i + 1))))) (n' := 142) rfl ?_
          exact ih5 _ (by omega) (i + 1) (h) ((qup w9 115 (h - 1) (qdiv (w9 115 (h - 1)) (w 112 (2 * i + 1))))) ((0, w 112 (2 * i))) ((0, w 112 (2 * i + 1))) rfl (⟨by omega, by omega, (show g9 = h from (by omega)) ▸ hr2, by omega, AW.pile hI5.2.2.2.2 (wrp_32 _)⟩)
        · skip
          refine qG.blk 2 (pc' := 89) (ls' := [(2, 95), (0, ((b : Nat) : Int)), (0, ((e : Nat) : Int)), (0, ((h : Nat) : Int)), (0, ((i : Nat) : Int)), (0, w 112 (2 * i)), (0, w 112 (2 * i + 1))]) (st' := [(0, 15), (0, w 112 (2 * i))]) (w' := w9) (n' := 142) rfl ?_
          refine qG.br (P := w 112 (2 * i) = 15) (pc1 := 92) (pc2 := 113) (st1 := []) rfl (fun hs15 => ?_) (fun hs15 => ?_)
          · skip
            refine qG.blk 2 (pc' := 96) (ls' := [(2, 95), (0, ((b : Nat) : Int)), (0, ((e : Nat) : Int)), (0, ((h : Nat) : Int)), (0, ((i : Nat) : Int)), (0, w 112 (2 * i)), (0, w 112 (2 * i + 1))]) (st' := [(2, w9 95 21)]) (w' := w9) (n' := 142) rfl ?_
            rw [show w9 95 21 = 115 from zref hI5.2.2.2.2.1 rfl rfl]
            refine qG.blk 3 (pc' := 99) (ls' := [(2, 95), (0, ((b : Nat) : Int)), (0, ((e : Nat) : Int)), (0, ((h : Nat) : Int)), (0, ((i : Nat) : Int)), (0, w 112 (2 * i)), (0, w 112 (2 * i + 1))]) (st' := [(0, wrp (((h : Nat) : Int) - 1)), (2, 115)]) (w' := w9) (n' := 142) rfl ?_
            rw [show wrp (((h : Nat) : Int) - 1) = ((h - 1 : Nat) : Int) from by rw [wrp_id (by omega) (by omega)]; omega]
            refine qG.blk 3 (pc' := 104) (ls' := [(2, 95), (0, ((b : Nat) : Int)), (0, ((e : Nat) : Int)), (0, ((h : Nat) : Int)), (0, ((i : Nat) : Int)), (0, w 112 (2 * i)), (0, w 112 (2 * i + 1))]) (st' := [(2, w9 95 21), (0, 1), (0, ((h - 1 : Nat) : Int)), (2, 115)]) (w' := w9) (n' := 142) rfl ?_
            rw [show w9 95 21 = 115 from zref hI5.2.2.2.2.1 rfl rfl]
            refine qG.blk 3 (pc' := 107) (ls' := [(2, 95), (0, ((b : Nat) : Int)), (0, ((e : Nat) : Int)), (0, ((h : Nat) : Int)), (0, ((i : Nat) : Int)), (0, w 112 (2 * i)), (0, w 112 (2 * i + 1))]) (st' := [(0, wrp (((h : Nat) : Int) - 1)), (2, 115), (0, 1), (0, ((h - 1 : Nat) : Int)), (2, 115)]) (w' := w9) (n' := 142) rfl ?_
            rw [show wrp (((h : Nat) : Int) - 1) = ((h - 1 : Nat) : Int) from by rw [wrp_id (by omega) (by omega)]; omega]
            refine qG.ild (m := 620) rfl rfl (by omega) (by decide) ?_
            show qG none (d + 1) 267 108 [(2, 95), (0, ((b : Nat) : Int)), (0, ((e : Nat) : Int)), (0, ((h : Nat) : Int)), (0, ((i : Nat) : Int)), (0, w 112 (2 * i)), (0, w 112 (2 * i + 1))] [(0, w9 115 (h - 1)), (0, 1), (0, ((h - 1 : Nat) : Int)), (2, 115)] w9 142 Q9
            refine qG.blk 1 (pc' := 109) (ls' := [(2, 95), (0, ((b : Nat) : Int)), (0, ((e : Nat) : Int)), (0, ((h : Nat) : Int)), (0, ((i : Nat) : Int)), (0, w 112 (2 * i)), (0, w 112 (2 * i + 1))]) (st' := [(0, wrp (1 - (w9 115 (h - 1)))), (0, ((h - 1 : Nat) : Int)), (2, 115)]) (w' := w9) (n' := 142) rfl ?_
            refine qG.ist (m := 620) rfl rfl (by omega) (by decide) ?_
            show qG none (d + 1) 267 110 [(2, 95), (0, ((b : Nat) : Int)), (0, ((e : Nat) : Int)), (0, ((h : Nat) : Int)), (0, ((i : Nat) : Int)), (0, w 112 (2 * i)), (0, w 112 (2 * i + 1))] [] (qup w9 115 (h - 1) (wrp (1 - (w9 115 (h - 1))))) 142 Q9
            refine qG.blk 2 (pc' := 146) (ls' := [(2, 95), (0, ((b : Nat) : Int)), (0, ((e : Nat) : Int)), (0, ((h : Nat) : Int)), (0, wrp (((i : Nat) : Int) + 1)), (0, w 112 (2 * i)), (0, w 112 (2 * i + 1))]) (st' := []) (w' := (qup w9 115 (h - 1) (wrp (1 - (w9 115 (h - 1)))))) (n' := 142) rfl ?_
            rw [show wrp (((i : Nat) : Int) + 1) = ((i + 1 : Nat) : Int) from wrp_id (by omega) (by omega)]
            refine qG.blk 1 (pc' := 5) (ls' := [(2, 95), (0, ((b : Nat) : Int)), (0, ((e : Nat) : Int)), (0, ((h : Nat) : Int)), (0, ((i + 1 : Nat) : Int)), (0, w 112 (2 * i)), (0, w 112 (2 * i + 1))]) (st' := []) (w' := (qup w9 115 (h - 1) (wrp (1 - (w9 115 (h - 1)))))) (n' := 142) rfl ?_
            exact ih5 _ (by omega) (i + 1) (h) ((qup w9 115 (h - 1) (wrp (1 - (w9 115 (h - 1)))))) ((0, w 112 (2 * i))) ((0, w 112 (2 * i + 1))) rfl (⟨by omega, by omega, (show g9 = h from (by omega)) ▸ hr2, by omega, AW.pile hI5.2.2.2.2 (wrp_32 _)⟩)
          · skip
            refine qG.blk 1 (pc' := 116) (ls' := [(2, 95), (0, ((b : Nat) : Int)), (0, ((e : Nat) : Int)), (0, wrp (((h : Nat) : Int) + (-1))), (0, ((i : Nat) : Int)), (0, w 112 (2 * i)), (0, w 112 (2 * i + 1))]) (st' := []) (w' := w9) (n' := 142) rfl ?_
            rw [show wrp (((h : Nat) : Int) + (-1)) = ((h - 1 : Nat) : Int) from by rw [wrp_id (by omega) (by omega)]; omega]
            refine qG.blk 2 (pc' := 120) (ls' := [(2, 95), (0, ((b : Nat) : Int)), (0, ((e : Nat) : Int)), (0, ((h - 1 : Nat) : Int)), (0, ((i : Nat) : Int)), (0, w 112 (2 * i)), (0, w 112 (2 * i + 1))]) (st' := [(2, w9 95 21)]) (w' := w9) (n' := 142) rfl ?_
            rw [show w9 95 21 = 115 from zref hI5.2.2.2.2.1 rfl rfl]
            refine qG.blk 3 (pc' := 123) (ls' := [(2, 95), (0, ((b : Nat) : Int)), (0, ((e : Nat) : Int)), (0, ((h - 1 : Nat) : Int)), (0, ((i : Nat) : Int)), (0, w 112 (2 * i)), (0, w 112 (2 * i + 1))]) (st' := [(0, wrp (((h - 1 : Nat) : Int) - 1)), (2, 115)]) (w' := w9) (n' := 142) rfl ?_
            rw [show wrp (((h - 1 : Nat) : Int) - 1) = ((h - 2 : Nat) : Int) from by rw [wrp_id (by omega) (by omega)]; omega]
            refine qG.blk 3 (pc' := 129) (ls' := [(2, 95), (0, ((b : Nat) : Int)), (0, ((e : Nat) : Int)), (0, ((h - 1 : Nat) : Int)), (0, ((i : Nat) : Int)), (0, w 112 (2 * i)), (0, w 112 (2 * i + 1))]) (st' := [(2, w9 95 21), (0, w 112 (2 * i)), (0, ((h - 2 : Nat) : Int)), (2, 115)]) (w' := w9) (n' := 142) rfl ?_
            rw [show w9 95 21 = 115 from zref hI5.2.2.2.2.1 rfl rfl]
            refine qG.blk 3 (pc' := 132) (ls' := [(2, 95), (0, ((b : Nat) : Int)), (0, ((e : Nat) : Int)), (0, ((h - 1 : Nat) : Int)), (0, ((i : Nat) : Int)), (0, w 112 (2 * i)), (0, w 112 (2 * i + 1))]) (st' := [(0, wrp (((h - 1 : Nat) : Int) - 1)), (2, 115), (0, w 112 (2 * i)), (0, ((h - 2 : Nat) : Int)), (2, 115)]) (w' := w9) (n' := 142) rfl ?_
            rw [show wrp (((h - 1 : Nat) : Int) - 1) = ((h - 2 : Nat) : Int) from by rw [wrp_id (by omega) (by omega)]; omega]
            refine qG.ild (m := 620) rfl rfl (by omega) (by decide) ?_
            show qG none (d + 1) 267 133 [(2, 95), (0, ((b : Nat) : Int)), (0, ((e : Nat) : Int)), (0, ((h - 1 : Nat) : Int)), (0, ((i : Nat) : Int)), (0, w 112 (2 * i)), (0, w 112 (2 * i + 1))] [(0, w9 115 (h - 2)), (0, w 112 (2 * i)), (0, ((h - 2 : Nat) : Int)), (2, 115)] w9 142 Q9
            refine qG.blk 2 (pc' := 137) (ls' := [(2, 95), (0, ((b : Nat) : Int)), (0, ((e : Nat) : Int)), (0, ((h - 1 : Nat) : Int)), (0, ((i : Nat) : Int)), (0, w 112 (2 * i)), (0, w 112 (2 * i + 1))]) (st' := [(2, w9 95 21), (0, w9 115 (h - 2)), (0, w 112 (2 * i)), (0, ((h - 2 : Nat) : Int)), (2, 115)]) (w' := w9) (n' := 142) rfl ?_
            rw [show w9 95 21 = 115 from zref hI5.2.2.2.2.1 rfl rfl]
            refine qG.blk 1 (pc' := 138) (ls' := [(2, 95), (0, ((b : Nat) : Int)), (0, ((e : Nat) : Int)), (0, ((h - 1 : Nat) : Int)), (0, ((i : Nat) : Int)), (0, w 112 (2 * i)), (0, w 112 (2 * i + 1))]) (st' := [(0, ((h - 1 : Nat) : Int)), (2, 115), (0, w9 115 (h - 2)), (0, w 112 (2 * i)), (0, ((h - 2 : Nat) : Int)), (2, 115)]) (w' := w9) (n' := 142) rfl ?_
            refine qG.ild (m := 620) rfl rfl (by omega) (by decide) ?_
            show qG none (d + 1) 267 139 [(2, 95), (0, ((b : Nat) : Int)), (0, ((e : Nat) : Int)), (0, ((h - 1 : Nat) : Int)), (0, ((i : Nat) : Int)), (0, w 112 (2 * i)), (0, w 112 (2 * i + 1))] [(0, w9 115 (h - 1)), (0, w9 115 (h - 2)), (0, w 112 (2 * i)), (0, ((h - 2 : Nat) : Int)), (2, 115)] w9 142 Q9
            refine qG.call (t := 266) (na := 3) (sk := 0) (md := 0) (ls1 := [(0, w 112 (2 * i)), (0, w9 115 (h - 2)), (0, w9 115 (h - 1))]) (r1 := [(0, ((h - 2 : Nat) : Int)), (2, 115)]) rfl rfl rfl rfl rfl (AW.use (c := C_R_both.2) (as := [(0, w 112 (2 * i)), (0, w9 115 (h - 2)), (0, w9 115 (h - 1))]) T_R_both hI5.2.2.2.2 (show 0 ≤ d by omega) ⟨⟨rfl, q1, q2⟩, ⟨rfl, hp2.1, hp2.2⟩, ⟨rfl, hp1.1, hp1.2⟩, trivial⟩ rfl rfl (by decide +kernel)) ?_
            rintro _ w2 _ ⟨x2, rfl, hl2, hu2, hA2, rfl, hB2⟩
            have hl2 : ((-2147483648) : Int) ≤ x2 := hl2
            have hu2 : x2 ≤ (2147483647 : Int) := hu2
            show qG none (d + 1) 267 142 [(2, 95), (0, ((b : Nat) : Int)), (0, ((e : Nat) : Int)), (0, ((h - 1 : Nat) : Int)), (0, ((i : Nat) : Int)), (0, w 112 (2 * i)), (0, w 112 (2 * i + 1))] [(0, x2), (0, ((h - 2 : Nat) : Int)), (2, 115)] w2 142 Q9
            refine qG.ist (m := 620) rfl rfl (by omega) (by decide) ?_
            show qG none (d + 1) 267 143 [(2, 95), (0, ((b : Nat) : Int)), (0, ((e : Nat) : Int)), (0, ((h - 1 : Nat) : Int)), (0, ((i : Nat) : Int)), (0, w 112 (2 * i)), (0, w 112 (2 * i + 1))] [] (qup w2 115 (h - 2) x2) 142 Q9
            refine qG.blk 1 (pc' := 146) (ls' := [(2, 95), (0, ((b : Nat) : Int)), (0, ((e : Nat) : Int)), (0, ((h - 1 : Nat) : Int)), (0, wrp (((i : Nat) : Int) + 1)), (0, w 112 (2 * i)), (0, w 112 (2 * i + 1))]) (st' := []) (w' := (qup w2 115 (h - 2) x2)) (n' := 142) rfl ?_
            rw [show wrp (((i : Nat) : Int) + 1) = ((i + 1 : Nat) : Int) from wrp_id (by omega) (by omega)]
            refine qG.blk 1 (pc' := 5) (ls' := [(2, 95), (0, ((b : Nat) : Int)), (0, ((e : Nat) : Int)), (0, ((h - 1 : Nat) : Int)), (0, ((i + 1 : Nat) : Int)), (0, w 112 (2 * i)), (0, w 112 (2 * i + 1))]) (st' := []) (w' := (qup w2 115 (h - 2) x2)) (n' := 142) rfl ?_
            exact ih5 _ (by omega) (i + 1) (h - 1) ((qup w2 115 (h - 2) x2)) ((0, w 112 (2 * i))) ((0, w 112 (2 * i + 1))) rfl (⟨by omega, by omega, (show g9 = h - 1 from (by omega)) ▸ hr2, by omega, AW.pile hA2 ⟨hl2, hu2⟩⟩)
    · skip
      refine qG.blk 2 (pc' := 153) (ls' := [(2, 95), (0, ((b : Nat) : Int)), (0, ((e : Nat) : Int)), (0, ((h : Nat) : Int)), (0, ((i : Nat) : Int)), x5, x6]) (st' := [(2, w9 95 21)]) (w' := w9) (n' := 142) rfl ?_
      rw [show w9 95 21 = 115 from zref hI5.2.2.2.2.1 rfl rfl]
      refine qG.blk 1 (pc' := 154) (ls' := [(2, 95), (0, ((b : Nat) : Int)), (0, ((e : Nat) : Int)), (0, ((h : Nat) : Int)), (0, ((i : Nat) : Int)), x5, x6]) (st' := [(0, 0), (2, 115)]) (w' := w9) (n' := 142) rfl ?_
      refine qG.ild (m := 620) rfl rfl (by omega) (by decide) ?_
      show qG none (d + 1) 267 155 [(2, 95), (0, ((b : Nat) : Int)), (0, ((e : Nat) : Int)), (0, ((h : Nat) : Int)), (0, ((i : Nat) : Int)), x5, x6] [(0, w9 115 0)] w9 142 Q9
      refine qG.ret rfl rfl ?_
      subst hQ9
      exact ⟨rfl, ⟨_, rfl, (hI5.2.2.2.2.1.2.1 115 0 (-2147483648, 2147483647) rfl rfl).1, (hI5.2.2.2.2.1.2.1 115 0 (-2147483648, 2147483647) rfl rfl).2⟩, hI5.2.2.2.2⟩
  exact L5 _ (b) (0) (w) ((9, 0)) ((9, 0)) rfl (⟨Nat.le_refl _, by omega, by rw [Nat.sub_self]; rfl, by omega, AW.rf hI⟩)
theorem K_weighs {d : Nat} (hd : 4 ≤ d) (k : Nat) (m : Int) (w : qW) (hI : yInv zgf zga zra zSp w) (hS2 : Sp2 w) (hk : (k : Int) < w 95 22) : qG none d 269 0 [(2, 95), (0, ((k : Nat) : Int)), (0, m)] [] w 142 (fun (r : qV) (w1 : qW) (n1 : Nat) => n1 = 142 ∧ (∃ x, r = (0, x) ∧ 0 ≤ x ∧ x ≤ 2) ∧ AW PL w w1) := by
  generalize hQ9 : (fun (r : qV) (w1 : qW) (n1 : Nat) => n1 = 142 ∧ (∃ x, r = (0, x) ∧ 0 ≤ x ∧ x ≤ 2) ∧ AW PL w w1) = Q9
  have h22 := zfld hI (j := 22) (b := (0, 20)) rfl
  have b22 : w 95 22 ≤ (20 : Int) := h22.2
  obtain ⟨s1, s2, s3, s4⟩ := hS2 k hk
  obtain ⟨b, hb⟩ : ∃ b : Nat, w 111 k = (b : Int) := ⟨(w 111 k).toNat, by omega⟩
  obtain ⟨e, he⟩ : ∃ e : Nat, w 111 (k + 1) = (e : Int) := ⟨(w 111 (k + 1)).toNat, by omega⟩
  have hrun := s4 0
  rw [show (w 111 k).toNat = b by omega, show (w 111 (k + 1) - w 111 k).toNat = e - b by omega] at hrun
  obtain ⟨d, rfl⟩ : ∃ d9, d = d9 + 1 := ⟨d - 1, by omega⟩
  refine qG.blk 3 (pc' := 5) (ls' := [(2, 95), (0, ((k : Nat) : Int)), (0, m)]) (st' := [(2, w 95 17), (2, 95)]) (w' := w) (n' := 142) rfl ?_
  rw [show w 95 17 = 111 from zref hI rfl rfl]
  refine qG.blk 1 (pc' := 6) (ls' := [(2, 95), (0, ((k : Nat) : Int)), (0, m)]) (st' := [(0, ((k : Nat) : Int)), (2, 111), (2, 95)]) (w' := w) (n' := 142) rfl ?_
  refine qG.ar (P := 0 ≤ ((k : Nat) : Int) ∧ ((k : Nat) : Int) < ((21 : Nat) : Int)) (P2 := 0 < (111 : Int) ∧ (111 : Int) ≤ ((142 : Nat) : Int)) (pc' := 7) (ls' := [(2, 95), (0, ((k : Nat) : Int)), (0, m)]) (st' := [(0, w 111 k), (2, 95)]) (w' := w) (n' := 142) rfl (by omega) (by decide) ?_
  rw [show w 111 k = ((b : Nat) : Int) from hb]
  refine qG.blk 2 (pc' := 11) (ls' := [(2, 95), (0, ((k : Nat) : Int)), (0, m)]) (st' := [(2, w 95 17), (0, ((b : Nat) : Int)), (2, 95)]) (w' := w) (n' := 142) rfl ?_
  rw [show w 95 17 = 111 from zref hI rfl rfl]
  refine qG.blk 3 (pc' := 14) (ls' := [(2, 95), (0, ((k : Nat) : Int)), (0, m)]) (st' := [(0, wrp (((k : Nat) : Int) + 1)), (2, 111), (0, ((b : Nat) : Int)), (2, 95)]) (w' := w) (n' := 142) rfl ?_
  rw [show wrp (((k : Nat) : Int) + 1) = ((k + 1 : Nat) : Int) from by rw [wrp_id (by omega) (by omega)]; omega]
  refine qG.ar (P := 0 ≤ ((k + 1 : Nat) : Int) ∧ ((k + 1 : Nat) : Int) < ((21 : Nat) : Int)) (P2 := 0 < (111 : Int) ∧ (111 : Int) ≤ ((142 : Nat) : Int)) (pc' := 15) (ls' := [(2, 95), (0, ((k : Nat) : Int)), (0, m)]) (st' := [(0, w 111 (k + 1)), (0, ((b : Nat) : Int)), (2, 95)]) (w' := w) (n' := 142) rfl (by omega) (by decide) ?_
  rw [show w 111 (k + 1) = ((e : Nat) : Int) from he]
  refine qG.call (t := 267) (na := 3) (sk := 1) (md := 1) (ls1 := [(2, 95), (0, ((b : Nat) : Int)), (0, ((e : Nat) : Int)), (9, 0), (9, 0), (9, 0), (9, 0)]) (r1 := []) rfl rfl rfl rfl rfl (K_comesTo (by omega) b e (by omega) (by omega) w hI hrun) ?_
  rintro _ w1 _ ⟨rfl, ⟨x, rfl, hx1, hx2⟩, hA1⟩
  show qG none (d + 1) 269 18 [(2, 95), (0, ((k : Nat) : Int)), (0, m)] [(0, x)] w1 142 Q9
  refine qG.blk 1 (pc' := 19) (ls' := [(2, 95), (0, ((k : Nat) : Int)), (0, m)]) (st' := [(0, 1), (0, x)]) (w' := w1) (n' := 142) rfl ?_
  refine qG.br (P := x = 1) (pc1 := 24) (pc2 := 22) (st1 := []) rfl (fun h1 => ?_) (fun h1 => ?_)
  · skip
    refine qG.blk 2 (pc' := 28) (ls' := [(2, 95), (0, ((k : Nat) : Int)), (0, m)]) (st' := [(2, w1 95 16)]) (w' := w1) (n' := 142) rfl ?_
    rw [show w1 95 16 = 110 from zref hA1.1 rfl rfl]
    refine qG.blk 1 (pc' := 29) (ls' := [(2, 95), (0, ((k : Nat) : Int)), (0, m)]) (st' := [(0, ((k : Nat) : Int)), (2, 110)]) (w' := w1) (n' := 142) rfl ?_
    refine qG.ar (P := 0 ≤ ((k : Nat) : Int) ∧ ((k : Nat) : Int) < ((20 : Nat) : Int)) (P2 := 0 < (110 : Int) ∧ (110 : Int) ≤ ((142 : Nat) : Int)) (pc' := 30) (ls' := [(2, 95), (0, ((k : Nat) : Int)), (0, m)]) (st' := [(0, w1 110 k)]) (w' := w1) (n' := 142) rfl (by omega) (by decide) ?_
    refine qG.br (P := w1 110 k = 0) (pc1 := 33) (pc2 := 37) (st1 := []) rfl (fun h2 => ?_) (fun h2 => ?_)
    · skip
      refine qG.blk 3 (pc' := 39) (ls' := [(2, 95), (0, ((k : Nat) : Int)), (0, m)]) (st' := [(0, m), (0, 1)]) (w' := w1) (n' := 142) rfl ?_
      refine qG.br (P := 1 = m) (pc1 := 42) (pc2 := 46) (st1 := []) rfl (fun h3 => ?_) (fun h3 => ?_)
      · skip
        refine qG.blk 2 (pc' := 47) (ls' := [(2, 95), (0, ((k : Nat) : Int)), (0, m)]) (st' := [(0, 2)]) (w' := w1) (n' := 142) rfl ?_
        refine qG.ret rfl rfl ?_
        subst hQ9
        exact ⟨rfl, ⟨_, rfl, by decide, by decide⟩, hA1⟩
      · skip
        refine qG.blk 1 (pc' := 47) (ls' := [(2, 95), (0, ((k : Nat) : Int)), (0, m)]) (st' := [(0, 1)]) (w' := w1) (n' := 142) rfl ?_
        refine qG.ret rfl rfl ?_
        subst hQ9
        exact ⟨rfl, ⟨_, rfl, by decide, by decide⟩, hA1⟩
    · skip
      refine qG.blk 2 (pc' := 39) (ls' := [(2, 95), (0, ((k : Nat) : Int)), (0, m)]) (st' := [(0, m), (0, 0)]) (w' := w1) (n' := 142) rfl ?_
      refine qG.br (P := 0 = m) (pc1 := 42) (pc2 := 46) (st1 := []) rfl (fun h4 => ?_) (fun h4 => ?_)
      · skip
        refine qG.blk 2 (pc' := 47) (ls' := [(2, 95), (0, ((k : Nat) : Int)), (0, m)]) (st' := [(0, 2)]) (w' := w1) (n' := 142) rfl ?_
        refine qG.ret rfl rfl ?_
        subst hQ9
        exact ⟨rfl, ⟨_, rfl, by decide, by decide⟩, hA1⟩
      · skip
        refine qG.blk 1 (pc' := 47) (ls' := [(2, 95), (0, ((k : Nat) : Int)), (0, m)]) (st' := [(0, 1)]) (w' := w1) (n' := 142) rfl ?_
        refine qG.ret rfl rfl ?_
        subst hQ9
        exact ⟨rfl, ⟨_, rfl, by decide, by decide⟩, hA1⟩
  · skip
    refine qG.blk 1 (pc' := 23) (ls' := [(2, 95), (0, ((k : Nat) : Int)), (0, m)]) (st' := [(0, 0)]) (w' := w1) (n' := 142) rfl ?_
    refine qG.ret rfl rfl ?_
    subst hQ9
    exact ⟨rfl, ⟨_, rfl, by decide, by decide⟩, hA1⟩
theorem K_isMan {d : Nat} (hd : 7 ≤ d) (w : qW) (hI : yInv zgf zga zra zSp w) (hS1 : Sp1 w) (hS : S3 w) : qG none d 268 0 [(2, 95)] [] w 142 (fun (r : qV) (w1 : qW) (n1 : Nat) => SQ WYM w r w1 n1 ∧ 0 ≤ r.2 ∧ r.2 ≤ 1) := by
  generalize hQ9 : (fun (r : qV) (w1 : qW) (n1 : Nat) => SQ WYM w r w1 n1 ∧ 0 ≤ r.2 ∧ r.2 ≤ 1) = Q9
  obtain ⟨d, rfl⟩ : ∃ d9, d = d9 + 1 := ⟨d - 1, by omega⟩
  refine qG.blk 3 (pc' := 3) (ls' := [(2, 95)]) (st' := [(0, 0), (0, 0), (2, 95)]) (w' := w) (n' := 142) rfl ?_
  refine qG.call (t := 253) (na := 3) (sk := 1) (md := 1) (ls1 := [(2, 95), (0, 0), (0, 0), (9, 0)]) (r1 := []) rfl rfl rfl rfl rfl ((K_shows (by omega) 0 0 (by omega) (by omega) w hI hS1 : qG none _ 253 0 [(2, 95), (0, 0), (0, 0), (9, 0)] [] w 142 _)) ?_
  rintro _ ws _ ⟨rfl, rfl, rfl⟩
  have hAs := (sh_aw (c := 0) (k := 0) (by omega) hI hS1).1
  have hSs := sh_s3 (c := 0) (k := 0) (by omega) hI hS1 hS
  generalize shW w 0 0 (w 106 0).toNat = ws at hAs hSs ⊢
  show qG none (d + 1) 268 6 [(2, 95)] [] ws 142 Q9
  refine qG.blk 3 (pc' := 9) (ls' := [(2, 95)]) (st' := [(0, 2), (0, 0), (2, 95)]) (w' := ws) (n' := 142) rfl ?_
  refine qG.call (t := 257) (na := 3) (sk := 1) (md := 1) (ls1 := [(2, 95), (0, 0), (0, 2), (9, 0), (9, 0), (9, 0), (9, 0)]) (r1 := []) rfl rfl rfl rfl rfl ((K_hides (by omega) 0 2 (by omega) (by omega) (by omega) ws hAs.1 hSs : qG none _ 257 0 [(2, 95), (0, 0), (0, 2), (9, 0), (9, 0), (9, 0), (9, 0)] [] ws 142 _)) ?_
  rintro _ w1 _ ⟨rfl, w0, hfp, hA0, hS0, hH, N, S, t, hN, hSS, htS, rfl, htc⟩
  have hA1 := hAs.tr1 hA0 hH
  have hS3 := hd_s3 hS0 hH
  show qG none (d + 1) 268 12 [(2, 95)] [(0, ((cntF (cF w0 t) N : Nat) : Int))] w1 142 Q9
  refine qG.br (P := 0 < ((cntF (cF w0 t) N : Nat) : Int)) (pc1 := 15) (pc2 := 19) (st1 := []) rfl (fun h1 => ?_) (fun h1 => ?_)
  · skip
    refine qG.blk 2 (pc' := 20) (ls' := [(2, 95)]) (st' := [(0, 1)]) (w' := w1) (n' := 142) rfl ?_
    refine qG.ret rfl (by first | rfl | exact decide_eq_true (by omega)) ?_
    subst hQ9
    exact ⟨SQ.mk' hA1 (by decide +kernel) hS3, by decide, by decide⟩
  · skip
    refine qG.blk 1 (pc' := 20) (ls' := [(2, 95)]) (st' := [(0, 0)]) (w' := w1) (n' := 142) rfl ?_
    refine qG.ret rfl (by first | rfl | exact decide_eq_true (by omega)) ?_
    subst hQ9
    exact ⟨SQ.mk' hA1 (by decide +kernel) hS3, by decide, by decide⟩
theorem K_reason {d : Nat} (hd : 8 ≤ d) (k : Int) (w : qW) (hI : yInv zgf zga zra zSp w) (hS1 : Sp1 w) (hS2 : Sp2 w) (hS : S3 w) : qG none d 270 0 [(2, 95), (0, k)] [] w 142 (SQ RSM w) := by
  generalize hQ9 : (SQ RSM w) = Q9
  have h22 := zfld hI (j := 22) (b := (0, 20)) rfl
  have a22 : (0 : Int) ≤ w 95 22 := h22.1
  have b22 : w 95 22 ≤ (20 : Int) := h22.2
  obtain ⟨d, rfl⟩ : ∃ d9, d = d9 + 1 := ⟨d - 1, by omega⟩
  refine qG.blk 6 (pc' := 8) (ls' := [(2, 95), (0, k)]) (st' := [(0, wrp ((w 95 22) - 1)), (0, 0), (0, k)]) (w' := w) (n' := 142) rfl ?_
  rw [show wrp ((w 95 22) - 1) = (w 95 22) - 1 from wrp_id (by omega) (by omega)]
  refine qG.call (t := 206) (na := 3) (sk := 0) (md := 0) (ls1 := [(0, k), (0, 0), (0, (w 95 22) - 1)]) (r1 := []) rfl rfl rfl rfl rfl (K_isIn (Nat.zero_le _) _ _ _ _) ?_
  rintro _ w7 _ ⟨rfl, hw7, rfl⟩
  rw [hw7]
  show qG none (d + 1) 270 11 [(2, 95), (0, k)] [(0, isInV (k) (0) ((w 95 22) - 1))] w 142 Q9
  refine qG.br (P := isInV (k) (0) ((w 95 22) - 1) = 0) (pc1 := 26) (pc2 := 14) (st1 := []) rfl (fun hk0 => ?_) (fun hk0 => ?_)
  · skip
    refine qG.blk 1 (pc' := 27) (ls' := [(2, 95), (0, k)]) (st' := [(0, (-1))]) (w' := w) (n' := 142) rfl ?_
    refine qG.ret rfl rfl ?_
    subst hQ9
    first | exact SQ.rf hI hS | exact SQ.mk' hA3 (by decide +kernel) hS4
  · skip
    obtain ⟨k9, rfl, hlk9, huk9⟩ := isIn_n (by decide) hk0
    refine qG.blk 3 (pc' := 17) (ls' := [(2, 95), (0, ((k9 : Nat) : Int))]) (st' := [(2, 95), (0, ((k9 : Nat) : Int)), (2, 95)]) (w' := w) (n' := 142) rfl ?_
    refine qG.call (t := 268) (na := 1) (sk := 1) (md := 1) (ls1 := [(2, 95)]) (r1 := [(0, ((k9 : Nat) : Int)), (2, 95)]) rfl rfl rfl rfl rfl (K_isMan (by omega) w hI hS1 hS) ?_
    rintro ⟨_, m⟩ w1 _ ⟨⟨rfl, ⟨x9, hx9⟩, hA1, hS3⟩, hm1, hm2⟩
    obtain ⟨rfl, rfl⟩ := Prod.mk.inj hx9
    have hS2b := hS2.aw hA1 rfl (by decide) (by decide)
    have e22 : w1 95 22 = w 95 22 := hA1.2 95 22 (fun _ => rfl)
    have hm1 : 0 ≤ m := hm1
    have hm2 : m ≤ 1 := hm2
    show qG none (d + 1) 270 20 [(2, 95), (0, ((k9 : Nat) : Int))] [(0, m), (0, ((k9 : Nat) : Int)), (2, 95)] w1 142 Q9
    refine qG.call (t := 269) (na := 3) (sk := 1) (md := 1) (ls1 := [(2, 95), (0, ((k9 : Nat) : Int)), (0, m)]) (r1 := []) rfl rfl rfl rfl rfl (K_weighs (by omega) k9 m w1 hA1.1 hS2b (by omega)) ?_
    rintro _ w2 _ ⟨rfl, ⟨x, rfl, hx1, hx2⟩, hA2⟩
    have hA3 := (hA1.mono (m2 := RSM) (by decide +kernel)).tr hA2 (by decide +kernel)
    have hS4 := hS3.aw hA2 rfl (by decide) (by decide)
    show qG none (d + 1) 270 23 [(2, 95), (0, ((k9 : Nat) : Int))] [(0, x)] w2 142 Q9
    refine qG.blk 1 (pc' := 27) (ls' := [(2, 95), (0, ((k9 : Nat) : Int))]) (st' := [(0, x)]) (w' := w2) (n' := 142) rfl ?_
    refine qG.ret rfl rfl ?_
    subst hQ9
    first | exact SQ.rf hI hS | exact SQ.mk' hA3 (by decide +kernel) hS4
theorem K_pamphlet {d : Nat} (hd : 8 ≤ d) (k : Int) (w : qW) (hI : yInv zgf zga zra zSp w) (hS1 : Sp1 w) (hS2 : Sp2 w) (hS : S3 w) : qG none d 271 0 [(2, 95), (0, k), (9, 0), (9, 0), (9, 0)] [] w 142 (SQ RSM w) := by
  generalize hQ9 : (SQ RSM w) = Q9
  have h22 := zfld hI (j := 22) (b := (0, 20)) rfl
  have a22 : (0 : Int) ≤ w 95 22 := h22.1
  have b22 : w 95 22 ≤ (20 : Int) := h22.2
  obtain ⟨d, rfl⟩ : ∃ d9, d = d9 + 1 := ⟨d - 1, by omega⟩
  refine qG.blk 3 (pc' := 3) (ls' := [(2, 95), (0, k), (9, 0), (9, 0), (9, 0)]) (st' := [(0, 3), (0, 0), (0, k)]) (w' := w) (n' := 142) rfl ?_
  refine qG.call (t := 206) (na := 3) (sk := 0) (md := 0) (ls1 := [(0, k), (0, 0), (0, 3)]) (r1 := []) rfl rfl rfl rfl rfl (K_isIn (Nat.zero_le _) _ _ _ _) ?_
  rintro _ w7 _ ⟨rfl, hw7, rfl⟩
  rw [hw7]
  show qG none (d + 1) 271 6 [(2, 95), (0, k), (9, 0), (9, 0), (9, 0)] [(0, isInV (k) (0) (3))] w 142 Q9
  refine qG.br (P := isInV (k) (0) (3) = 0) (pc1 := 9) (pc2 := 11) (st1 := []) rfl (fun hk0 => ?_) (fun hk0 => ?_)
  · skip
    refine qG.blk 1 (pc' := 10) (ls' := [(2, 95), (0, k), (9, 0), (9, 0), (9, 0)]) (st' := [(0, (-1))]) (w' := w) (n' := 142) rfl ?_
    refine qG.ret rfl rfl ?_
    subst hQ9
    first | exact SQ.rf hI hS | exact SQ.mk' hA1 (by decide +kernel) hS3 | exact SQ.mk' hI36.2.2.1 (by decide +kernel) hI36.2.2.2.1
  · skip
    obtain ⟨q9, rfl, hlq9, huq9⟩ := isIn_n (by decide) hk0
    refine qG.blk 1 (pc' := 12) (ls' := [(2, 95), (0, ((q9 : Nat) : Int)), (9, 0), (9, 0), (9, 0)]) (st' := [(2, 95)]) (w' := w) (n' := 142) rfl ?_
    refine qG.call (t := 268) (na := 1) (sk := 1) (md := 1) (ls1 := [(2, 95)]) (r1 := []) rfl rfl rfl rfl rfl (K_isMan (by omega) w hI hS1 hS) ?_
    rintro ⟨_, m⟩ w1 _ ⟨⟨rfl, ⟨x9, hx9⟩, hA1, hS3⟩, hm1, hm2⟩
    obtain ⟨rfl, rfl⟩ := Prod.mk.inj hx9
    have hS2b := hS2.aw hA1 rfl (by decide) (by decide)
    have e22 : w1 95 22 = w 95 22 := hA1.2 95 22 (fun _ => rfl)
    have hm1 : 0 ≤ m := hm1
    have hm2 : m ≤ 1 := hm2
    show qG none (d + 1) 271 15 [(2, 95), (0, ((q9 : Nat) : Int)), (9, 0), (9, 0), (9, 0)] [(0, m)] w1 142 Q9
    refine qG.blk 3 (pc' := 18) (ls' := [(2, 95), (0, ((q9 : Nat) : Int)), (0, m), (9, 0), (9, 0)]) (st' := [(0, 3), (0, ((q9 : Nat) : Int))]) (w' := w1) (n' := 142) rfl ?_
    refine qG.br (P := ((q9 : Nat) : Int) = 3) (pc1 := 21) (pc2 := 31) (st1 := []) rfl (fun h1 => ?_) (fun h1 => ?_)
    · skip
      refine qG.blk 1 (pc' := 22) (ls' := [(2, 95), (0, ((q9 : Nat) : Int)), (0, m), (9, 0), (9, 0)]) (st' := [(0, m)]) (w' := w1) (n' := 142) rfl ?_
      refine qG.br (P := m = 0) (pc1 := 29) (pc2 := 25) (st1 := []) rfl (fun h2 => ?_) (fun h2 => ?_)
      · skip
        refine qG.blk 1 (pc' := 30) (ls' := [(2, 95), (0, ((q9 : Nat) : Int)), (0, m), (9, 0), (9, 0)]) (st' := [(0, 0)]) (w' := w1) (n' := 142) rfl ?_
        refine qG.ret rfl rfl ?_
        subst hQ9
        first | exact SQ.rf hI hS | exact SQ.mk' hA1 (by decide +kernel) hS3 | exact SQ.mk' hI36.2.2.1 (by decide +kernel) hI36.2.2.2.1
      · skip
        refine qG.blk 2 (pc' := 30) (ls' := [(2, 95), (0, ((q9 : Nat) : Int)), (0, m), (9, 0), (9, 0)]) (st' := [(0, 1)]) (w' := w1) (n' := 142) rfl ?_
        refine qG.ret rfl rfl ?_
        subst hQ9
        first | exact SQ.rf hI hS | exact SQ.mk' hA1 (by decide +kernel) hS3 | exact SQ.mk' hI36.2.2.1 (by decide +kernel) hI36.2.2.2.1
    · skip
      refine qG.blk 4 (pc' := 36) (ls' := [(2, 95), (0, ((q9 : Nat) : Int)), (0, m), (0, 0), (0, 0)]) (st' := []) (w' := w1) (n' := 142) rfl ?_
      have L36 : ∀ (m9 : Nat) (k9 n9 : Nat) (w5 : qW), 20 - k9 = m9 → ((k9 : Int) ≤ w 95 22 ∧ n9 ≤ k9 ∧ AW RSM w w5 ∧ S3 w5 ∧ Sp2 w5) → qG none (d + 1) 271 36 [(2, 95), (0, ((q9 : Nat) : Int)), (0, m), (0, ((n9 : Nat) : Int)), (0, ((k9 : Nat) : Int))] [] w5 142 Q9 := by
        intro m9
        induction m9 using Nat.strongRecOn with
        | ind m9 ih36 =>
        intro k9 n9 w5 hm36 hI36
        refine qG.blk 3 (pc' := 42) (ls' := [(2, 95), (0, ((q9 : Nat) : Int)), (0, m), (0, ((n9 : Nat) : Int)), (0, ((k9 : Nat) : Int))]) (st' := [(0, w5 95 22), (0, ((k9 : Nat) : Int))]) (w' := w5) (n' := 142) rfl ?_
        rw [show w5 95 22 = w 95 22 from hI36.2.2.1.2 95 22 (fun _ => rfl)]
        refine qG.br (P := ((k9 : Nat) : Int) < w 95 22) (pc1 := 45) (pc2 := 72) (st1 := []) rfl (fun h3 => ?_) (fun h3 => ?_)
        · skip
          refine qG.blk 4 (pc' := 50) (ls' := [(2, 95), (0, ((q9 : Nat) : Int)), (0, m), (0, ((n9 : Nat) : Int)), (0, ((k9 : Nat) : Int))]) (st' := [(0, m), (0, ((k9 : Nat) : Int)), (2, 95), (0, ((n9 : Nat) : Int))]) (w' := w5) (n' := 142) rfl ?_
          refine qG.call (t := 269) (na := 3) (sk := 1) (md := 1) (ls1 := [(2, 95), (0, ((k9 : Nat) : Int)), (0, m)]) (r1 := [(0, ((n9 : Nat) : Int))]) rfl rfl rfl rfl rfl (K_weighs (by omega) k9 m w5 hI36.2.2.1.1 hI36.2.2.2.2 (by have := hI36.2.2.1.2 95 22 (fun _ => rfl); omega)) ?_
          rintro _ w6 _ ⟨rfl, ⟨x, rfl, hx1, hx2⟩, hA2⟩
          have hA6 := hI36.2.2.1.tr hA2 (by decide +kernel)
          have hS6 := hI36.2.2.2.1.aw hA2 rfl (by decide) (by decide)
          show qG none (d + 1) 271 53 [(2, 95), (0, ((q9 : Nat) : Int)), (0, m), (0, ((n9 : Nat) : Int)), (0, ((k9 : Nat) : Int))] [(0, x), (0, ((n9 : Nat) : Int))] w6 142 Q9
          refine qG.blk 3 (pc' := 56) (ls' := [(2, 95), (0, ((q9 : Nat) : Int)), (0, m), (0, ((n9 : Nat) : Int)), (0, ((k9 : Nat) : Int))]) (st' := [(0, wrp (2 - ((q9 : Nat) : Int))), (0, x), (0, ((n9 : Nat) : Int))]) (w' := w6) (n' := 142) rfl ?_
          rw [show wrp (2 - ((q9 : Nat) : Int)) = 2 - ((q9 : Nat) : Int) from wrp_id (by omega) (by omega)]
          refine qG.br (P := x = 2 - ((q9 : Nat) : Int)) (pc1 := 59) (pc2 := 63) (st1 := [(0, ((n9 : Nat) : Int))]) rfl (fun h4 => ?_) (fun h4 => ?_)
          · skip
            refine qG.blk 3 (pc' := 65) (ls' := [(2, 95), (0, ((q9 : Nat) : Int)), (0, m), (0, ((n9 : Nat) : Int)), (0, ((k9 : Nat) : Int))]) (st' := [(0, wrp (((n9 : Nat) : Int) + 1))]) (w' := w6) (n' := 142) rfl ?_
            rw [show wrp (((n9 : Nat) : Int) + 1) = ((n9 + 1 : Nat) : Int) from by rw [wrp_id (by omega) (by omega)]; omega]
            refine qG.blk 2 (pc' := 69) (ls' := [(2, 95), (0, ((q9 : Nat) : Int)), (0, m), (0, ((n9 + 1 : Nat) : Int)), (0, wrp (((k9 : Nat) : Int) + 1))]) (st' := []) (w' := w6) (n' := 142) rfl ?_
            rw [show wrp (((k9 : Nat) : Int) + 1) = ((k9 + 1 : Nat) : Int) from wrp_id (by omega) (by omega)]
            refine qG.blk 1 (pc' := 36) (ls' := [(2, 95), (0, ((q9 : Nat) : Int)), (0, m), (0, ((n9 + 1 : Nat) : Int)), (0, ((k9 + 1 : Nat) : Int))]) (st' := []) (w' := w6) (n' := 142) rfl ?_
            exact ih36 _ (by omega) (k9 + 1) (n9 + 1) (w6) rfl (⟨by omega, by omega, hA6, hS6, hI36.2.2.2.2.aw hA2 rfl (by decide) (by decide)⟩)
          · skip
            refine qG.blk 2 (pc' := 65) (ls' := [(2, 95), (0, ((q9 : Nat) : Int)), (0, m), (0, ((n9 : Nat) : Int)), (0, ((k9 : Nat) : Int))]) (st' := [(0, wrp (((n9 : Nat) : Int) + 0))]) (w' := w6) (n' := 142) rfl ?_
            rw [show wrp (((n9 : Nat) : Int) + 0) = ((n9 + 0 : Nat) : Int) from by rw [wrp_id (by omega) (by omega)]; omega]
            refine qG.blk 2 (pc' := 69) (ls' := [(2, 95), (0, ((q9 : Nat) : Int)), (0, m), (0, ((n9 + 0 : Nat) : Int)), (0, wrp (((k9 : Nat) : Int) + 1))]) (st' := []) (w' := w6) (n' := 142) rfl ?_
            rw [show wrp (((k9 : Nat) : Int) + 1) = ((k9 + 1 : Nat) : Int) from wrp_id (by omega) (by omega)]
            refine qG.blk 1 (pc' := 36) (ls' := [(2, 95), (0, ((q9 : Nat) : Int)), (0, m), (0, ((n9 + 0 : Nat) : Int)), (0, ((k9 + 1 : Nat) : Int))]) (st' := []) (w' := w6) (n' := 142) rfl ?_
            exact ih36 _ (by omega) (k9 + 1) (n9 + 0) (w6) rfl (⟨by omega, by omega, hA6, hS6, hI36.2.2.2.2.aw hA2 rfl (by decide) (by decide)⟩)
        · skip
          refine qG.blk 1 (pc' := 73) (ls' := [(2, 95), (0, ((q9 : Nat) : Int)), (0, m), (0, ((n9 : Nat) : Int)), (0, ((k9 : Nat) : Int))]) (st' := [(0, ((n9 : Nat) : Int))]) (w' := w5) (n' := 142) rfl ?_
          refine qG.ret rfl rfl ?_
          subst hQ9
          first | exact SQ.rf hI hS | exact SQ.mk' hA1 (by decide +kernel) hS3 | exact SQ.mk' hI36.2.2.1 (by decide +kernel) hI36.2.2.2.1
      exact L36 _ (0) (0) (w1) rfl (⟨by omega, by omega, hA1.mono (by decide +kernel), hS3, hS2b⟩)
end
section
/-! the reference's proof, tries, order: they end -/
theorem AW.eq {w w1 : qW} (h : AW [] w w1) : w1 = w := by funext p j; exact h.2 p j (fun _ => rfl)
theorem AW.upd {m : List Nat} {w w1 : qW} {p j : Nat} {v : Int} (h : AW m w w1) (hp : p < 1000) (hm : ymo p j m = true) (hI : yInv zgf zga zra zSp (qup w1 p j v)) : AW m w (qup w1 p j v) := ⟨hI, fun p2 j2 hp2 => by
  by_cases e : p2 = p
  · subst e
    by_cases e2 : j2 = j
    · subst e2; have := hp2 hp; rw [hm] at this; cases this
    · rw [qup_j e2]; exact h.2 p2 j2 hp2
  · rw [qup_ne e]; exact h.2 p2 j2 hp2⟩
theorem K_proof {d : Nat} (hd : 6 ≤ d) (c k s : Int) (w : qW) (hI : yInv zgf zga zra zSp w) (hS : S3 w) : qG none d 264 0 [(2, 95), (0, c), (0, k), (0, s), (9, 0), (9, 0), (9, 0), (9, 0), (9, 0)] [] w 142 (SQ WYM w) := by
  generalize hQ9 : (SQ WYM w) = Q9
  obtain ⟨N6, hN6⟩ : ∃ N : Int, N = 1024 := ⟨_, rfl⟩
  obtain ⟨d, rfl⟩ : ∃ d9, d = d9 + 1 := ⟨d - 1, by omega⟩
  refine qG.blk 1 (pc' := 1) (ls' := [(2, 95), (0, c), (0, k), (0, s), (9, 0), (9, 0), (9, 0), (9, 0), (9, 0)]) (st' := [(0, c)]) (w' := w) (n' := 142) rfl ?_
  refine qG.call (t := 207) (na := 1) (sk := 0) (md := 0) (ls1 := [(0, c)]) (r1 := []) rfl rfl rfl rfl rfl (K_isChest (by omega) _ _) ?_
  rintro _ w7 _ ⟨rfl, hw7, rfl⟩
  rw [hw7]
  show qG none (d + 1) 264 4 [(2, 95), (0, c), (0, k), (0, s), (9, 0), (9, 0), (9, 0), (9, 0), (9, 0)] [(0, isInV c 0 2)] w 142 Q9
  refine qG.br (P := isInV c 0 2 = 0) (pc1 := 25) (pc2 := 7) (st1 := []) rfl (fun hc0 => ?_) (fun hc0 => ?_)
  · skip
    refine qG.blk 1 (pc' := 26) (ls' := [(2, 95), (0, c), (0, k), (0, s), (9, 0), (9, 0), (9, 0), (9, 0), (9, 0)]) (st' := [(0, (-1))]) (w' := w) (n' := 142) rfl ?_
    refine qG.ret rfl rfl ?_
    subst hQ9
    first | exact SQ.rf hI hS | exact SQ.mk' hA0 (by decide +kernel) hS0
  · skip
    obtain ⟨c9, rfl, hlc9, huc9⟩ := isIn_n (by decide) hc0
    refine qG.blk 1 (pc' := 8) (ls' := [(2, 95), (0, ((c9 : Nat) : Int)), (0, k), (0, s), (9, 0), (9, 0), (9, 0), (9, 0), (9, 0)]) (st' := [(0, k)]) (w' := w) (n' := 142) rfl ?_
    refine qG.call (t := 210) (na := 1) (sk := 0) (md := 0) (ls1 := [(0, k)]) (r1 := []) rfl rfl rfl rfl rfl (K_isSize (by omega) _ _) ?_
    rintro _ w7 _ ⟨rfl, hw7, rfl⟩
    rw [hw7]
    show qG none (d + 1) 264 11 [(2, 95), (0, ((c9 : Nat) : Int)), (0, k), (0, s), (9, 0), (9, 0), (9, 0), (9, 0), (9, 0)] [(0, isInV k 1 4)] w 142 Q9
    refine qG.br (P := isInV k 1 4 = 0) (pc1 := 25) (pc2 := 14) (st1 := []) rfl (fun hk0 => ?_) (fun hk0 => ?_)
    · skip
      refine qG.blk 1 (pc' := 26) (ls' := [(2, 95), (0, ((c9 : Nat) : Int)), (0, k), (0, s), (9, 0), (9, 0), (9, 0), (9, 0), (9, 0)]) (st' := [(0, (-1))]) (w' := w) (n' := 142) rfl ?_
      refine qG.ret rfl rfl ?_
      subst hQ9
      first | exact SQ.rf hI hS | exact SQ.mk' hA0 (by decide +kernel) hS0
    · skip
      obtain ⟨k9, rfl, hlk9, huk9⟩ := isIn_n (by decide) hk0
      refine qG.blk 3 (pc' := 19) (ls' := [(2, 95), (0, ((c9 : Nat) : Int)), (0, ((k9 : Nat) : Int)), (0, s), (9, 0), (9, 0), (9, 0), (9, 0), (9, 0)]) (st' := [(0, 1023), (0, 0), (0, s)]) (w' := w) (n' := 142) rfl ?_
      refine qG.call (t := 206) (na := 3) (sk := 0) (md := 0) (ls1 := [(0, s), (0, 0), (0, 1023)]) (r1 := []) rfl rfl rfl rfl rfl (K_isIn (Nat.zero_le _) _ _ _ _) ?_
      rintro _ w7 _ ⟨rfl, hw7, rfl⟩
      rw [hw7]
      show qG none (d + 1) 264 22 [(2, 95), (0, ((c9 : Nat) : Int)), (0, ((k9 : Nat) : Int)), (0, s), (9, 0), (9, 0), (9, 0), (9, 0), (9, 0)] [(0, isInV (s) (0) (1023))] w 142 Q9
      refine qG.br (P := isInV (s) (0) (1023) = 0) (pc1 := 25) (pc2 := 27) (st1 := []) rfl (fun hs0 => ?_) (fun hs0 => ?_)
      · skip
        refine qG.blk 1 (pc' := 26) (ls' := [(2, 95), (0, ((c9 : Nat) : Int)), (0, ((k9 : Nat) : Int)), (0, s), (9, 0), (9, 0), (9, 0), (9, 0), (9, 0)]) (st' := [(0, (-1))]) (w' := w) (n' := 142) rfl ?_
        refine qG.ret rfl rfl ?_
        subst hQ9
        first | exact SQ.rf hI hS | exact SQ.mk' hA0 (by decide +kernel) hS0
      · skip
        obtain ⟨s9, rfl, hls9, hus9⟩ := isIn_n (by decide) hs0
        refine qG.blk 3 (pc' := 30) (ls' := [(2, 95), (0, ((c9 : Nat) : Int)), (0, ((k9 : Nat) : Int)), (0, ((s9 : Nat) : Int)), (9, 0), (9, 0), (9, 0), (9, 0), (9, 0)]) (st' := [(0, ((k9 : Nat) : Int)), (0, ((c9 : Nat) : Int)), (2, 95)]) (w' := w) (n' := 142) rfl ?_
        refine qG.call (t := 220) (na := 3) (sk := 1) (md := 1) (ls1 := [(2, 95), (0, ((c9 : Nat) : Int)), (0, ((k9 : Nat) : Int)), (9, 0), (9, 0)]) (r1 := []) rfl rfl rfl rfl rfl (K_fp (by omega) c9 k9 (by omega) (by omega) (by omega) w hI hS) ?_
        rintro _ w0 _ ⟨rfl, rfl, hfp, hA0, hS0⟩
        have h8 := zfld hA0.1 (j := 8) (b := (0, 1820)) rfl
        have a8 : (0 : Int) ≤ w0 95 8 := h8.1
        have b8 : w0 95 8 ≤ (1820 : Int) := h8.2
        show qG none (d + 1) 264 33 [(2, 95), (0, ((c9 : Nat) : Int)), (0, ((k9 : Nat) : Int)), (0, ((s9 : Nat) : Int)), (9, 0), (9, 0), (9, 0), (9, 0), (9, 0)] [] w0 142 Q9
        refine qG.blk 4 (pc' := 39) (ls' := [(2, 95), (0, ((c9 : Nat) : Int)), (0, ((k9 : Nat) : Int)), (0, ((s9 : Nat) : Int)), (0, (-1)), (0, 0), (9, 0), (9, 0), (9, 0)]) (st' := []) (w' := w0) (n' := 142) rfl ?_
        have L39 : ∀ (m9 : Nat) (n9 : Nat) (x4 : Int) (x6 x7 x8 : qV), 1024 - n9 = m9 → (n9 ≤ 1024) → qG none (d + 1) 264 39 [(2, 95), (0, ((c9 : Nat) : Int)), (0, ((k9 : Nat) : Int)), (0, ((s9 : Nat) : Int)), (0, x4), (0, ((n9 : Nat) : Int)), x6, x7, x8] [] w0 142 Q9 := by
          intro m9
          induction m9 using Nat.strongRecOn with
          | ind m9 ih39 =>
          intro n9 x4 x6 x7 x8 hm39 hI39
          refine qG.blk 2 (pc' := 44) (ls' := [(2, 95), (0, ((c9 : Nat) : Int)), (0, ((k9 : Nat) : Int)), (0, ((s9 : Nat) : Int)), (0, x4), (0, ((n9 : Nat) : Int)), x6, x7, x8]) (st' := [(0, 1024), (0, ((n9 : Nat) : Int))]) (w' := w0) (n' := 142) rfl ?_
          rw [show (1024 : Int) = N6 from hN6.symm]
          refine qG.br (P := ((n9 : Nat) : Int) < N6) (pc1 := 47) (pc2 := 180) (st1 := []) rfl (fun hn => ?_) (fun hn => ?_)
          · skip
            refine qG.blk 3 (pc' := 51) (ls' := [(2, 95), (0, ((c9 : Nat) : Int)), (0, ((k9 : Nat) : Int)), (0, ((s9 : Nat) : Int)), (0, x4), (0, ((n9 : Nat) : Int)), x6, x7, x8]) (st' := [(0, qand ((n9 : Nat) : Int) ((s9 : Nat) : Int))]) (w' := w0) (n' := 142) rfl ?_
            refine qG.br (P := qand ((n9 : Nat) : Int) ((s9 : Nat) : Int) = 0) (pc1 := 54) (pc2 := 174) (st1 := []) rfl (fun h1 => ?_) (fun h1 => ?_)
            · skip
              refine qG.blk 2 (pc' := 57) (ls' := [(2, 95), (0, ((c9 : Nat) : Int)), (0, ((k9 : Nat) : Int)), (0, ((s9 : Nat) : Int)), (0, x4), (0, ((n9 : Nat) : Int)), x6, x7, x8]) (st' := [(0, (-1)), (0, x4)]) (w' := w0) (n' := 142) rfl ?_
              refine qG.br (P := x4 = (-1)) (pc1 := 76) (pc2 := 60) (st1 := []) rfl (fun h2 => ?_) (fun h2 => ?_)
              · skip
                refine qG.blk 4 (pc' := 82) (ls' := [(2, 95), (0, ((c9 : Nat) : Int)), (0, ((k9 : Nat) : Int)), (0, ((s9 : Nat) : Int)), (0, x4), (0, ((n9 : Nat) : Int)), (0, 0), (0, 0), x8]) (st' := []) (w' := w0) (n' := 142) rfl ?_
                have L82 : ∀ (m9 : Nat) (d9 : Nat) (x6 : Int), 10 - d9 = m9 → (d9 ≤ 10) → qG none (d + 1) 264 82 [(2, 95), (0, ((c9 : Nat) : Int)), (0, ((k9 : Nat) : Int)), (0, ((s9 : Nat) : Int)), (0, x4), (0, ((n9 : Nat) : Int)), (0, x6), (0, ((d9 : Nat) : Int)), x8] [] w0 142 Q9 := by
                  intro m9
                  induction m9 using Nat.strongRecOn with
                  | ind m9 ih82 =>
                  intro d9 x6 hm82 hI82
                  refine qG.blk 2 (pc' := 86) (ls' := [(2, 95), (0, ((c9 : Nat) : Int)), (0, ((k9 : Nat) : Int)), (0, ((s9 : Nat) : Int)), (0, x4), (0, ((n9 : Nat) : Int)), (0, x6), (0, ((d9 : Nat) : Int)), x8]) (st' := [(0, 10), (0, ((d9 : Nat) : Int))]) (w' := w0) (n' := 142) rfl ?_
                  refine qG.br (P := ((d9 : Nat) : Int) < 10) (pc1 := 89) (pc2 := 119) (st1 := []) rfl (fun hd10 => ?_) (fun hd10 => ?_)
                  · skip
                    refine qG.blk 6 (pc' := 97) (ls' := [(2, 95), (0, ((c9 : Nat) : Int)), (0, ((k9 : Nat) : Int)), (0, ((s9 : Nat) : Int)), (0, x4), (0, ((n9 : Nat) : Int)), (0, x6), (0, ((d9 : Nat) : Int)), x8]) (st' := [(0, 1), (0, qand (qshr ((n9 : Nat) : Int) ((d9 : Nat) : Int)) 1)]) (w' := w0) (n' := 142) rfl ?_
                    refine qG.br (P := qand (qshr ((n9 : Nat) : Int) ((d9 : Nat) : Int)) 1 = 1) (pc1 := 100) (pc2 := 113) (st1 := []) rfl (fun h3 => ?_) (fun h3 => ?_)
                    · skip
                      refine qG.blk 5 (pc' := 107) (ls' := [(2, 95), (0, ((c9 : Nat) : Int)), (0, ((k9 : Nat) : Int)), (0, ((s9 : Nat) : Int)), (0, x4), (0, ((n9 : Nat) : Int)), (0, x6), (0, ((d9 : Nat) : Int)), x8]) (st' := [(0, 1), (0, ((d9 : Nat) : Int)), (0, ((c9 : Nat) : Int)), (2, 95), (0, x6)]) (w' := w0) (n' := 142) rfl ?_
                      refine qG.call (t := 250) (na := 4) (sk := 1) (md := 1) (ls1 := [(2, 95), (0, ((c9 : Nat) : Int)), (0, ((d9 : Nat) : Int)), (0, 1), (9, 0), (9, 0)]) (r1 := [(0, x6)]) rfl rfl rfl rfl rfl (AW.use (c := C_R_through.2) (as := [(2, 95), (0, ((c9 : Nat) : Int)), (0, ((d9 : Nat) : Int)), (0, 1)]) (m := []) T_R_through (AW.rf hA0.1) (Nat.zero_le _) ⟨⟨rfl, by decide, by decide⟩, ⟨rfl, hlc9, huc9⟩, ⟨rfl, Int.natCast_nonneg _, Int.le_of_lt_add_one hd10⟩, ⟨rfl, by decide, by decide⟩, trivial⟩ rfl rfl (by decide +kernel)) ?_
                      rintro _ w7 _ ⟨x, rfl, hx1, hx2, hA7, rfl, -⟩
                      have e7 := hA7.eq
                      rw [e7]
                      show qG none (d + 1) 264 110 [(2, 95), (0, ((c9 : Nat) : Int)), (0, ((k9 : Nat) : Int)), (0, ((s9 : Nat) : Int)), (0, x4), (0, ((n9 : Nat) : Int)), (0, x6), (0, ((d9 : Nat) : Int)), x8] [(0, x), (0, x6)] w0 142 Q9
                      refine qG.blk 3 (pc' := 116) (ls' := [(2, 95), (0, ((c9 : Nat) : Int)), (0, ((k9 : Nat) : Int)), (0, ((s9 : Nat) : Int)), (0, x4), (0, ((n9 : Nat) : Int)), (0, qor x6 x), (0, wrp (((d9 : Nat) : Int) + 1)), x8]) (st' := []) (w' := w0) (n' := 142) rfl ?_
                      rw [show wrp (((d9 : Nat) : Int) + 1) = ((d9 + 1 : Nat) : Int) from wrp_id (by omega) (by omega)]
                      refine qG.blk 1 (pc' := 82) (ls' := [(2, 95), (0, ((c9 : Nat) : Int)), (0, ((k9 : Nat) : Int)), (0, ((s9 : Nat) : Int)), (0, x4), (0, ((n9 : Nat) : Int)), (0, qor x6 x), (0, ((d9 + 1 : Nat) : Int)), x8]) (st' := []) (w' := w0) (n' := 142) rfl ?_
                      exact ih82 _ (by omega) (d9 + 1) (qor x6 x) rfl (by omega)
                    · skip
                      refine qG.blk 1 (pc' := 116) (ls' := [(2, 95), (0, ((c9 : Nat) : Int)), (0, ((k9 : Nat) : Int)), (0, ((s9 : Nat) : Int)), (0, x4), (0, ((n9 : Nat) : Int)), (0, x6), (0, wrp (((d9 : Nat) : Int) + 1)), x8]) (st' := []) (w' := w0) (n' := 142) rfl ?_
                      rw [show wrp (((d9 : Nat) : Int) + 1) = ((d9 + 1 : Nat) : Int) from wrp_id (by omega) (by omega)]
                      refine qG.blk 1 (pc' := 82) (ls' := [(2, 95), (0, ((c9 : Nat) : Int)), (0, ((k9 : Nat) : Int)), (0, ((s9 : Nat) : Int)), (0, x4), (0, ((n9 : Nat) : Int)), (0, x6), (0, ((d9 + 1 : Nat) : Int)), x8]) (st' := []) (w' := w0) (n' := 142) rfl ?_
                      exact ih82 _ (by omega) (d9 + 1) (x6) rfl (by omega)
                  · skip
                    refine qG.blk 4 (pc' := 125) (ls' := [(2, 95), (0, ((c9 : Nat) : Int)), (0, ((k9 : Nat) : Int)), (0, ((s9 : Nat) : Int)), (0, x4), (0, ((n9 : Nat) : Int)), (0, x6), (0, 1), (0, 0)]) (st' := []) (w' := w0) (n' := 142) rfl ?_
                    have L125 : ∀ (m9 : Nat) (i9 : Nat) (x7 : Int), 1820 - i9 = m9 → ((i9 : Int) ≤ w0 95 8) → qG none (d + 1) 264 125 [(2, 95), (0, ((c9 : Nat) : Int)), (0, ((k9 : Nat) : Int)), (0, ((s9 : Nat) : Int)), (0, x4), (0, ((n9 : Nat) : Int)), (0, x6), (0, x7), (0, ((i9 : Nat) : Int))] [] w0 142 Q9 := by
                      intro m9
                      induction m9 using Nat.strongRecOn with
                      | ind m9 ih125 =>
                      intro i9 x7 hm125 hI125
                      refine qG.blk 3 (pc' := 131) (ls' := [(2, 95), (0, ((c9 : Nat) : Int)), (0, ((k9 : Nat) : Int)), (0, ((s9 : Nat) : Int)), (0, x4), (0, ((n9 : Nat) : Int)), (0, x6), (0, x7), (0, ((i9 : Nat) : Int))]) (st' := [(0, w0 95 8), (0, ((i9 : Nat) : Int))]) (w' := w0) (n' := 142) rfl ?_
                      refine qG.br (P := ((i9 : Nat) : Int) < w0 95 8) (pc1 := 134) (pc2 := 165) (st1 := []) rfl (fun h4 => ?_) (fun h4 => ?_)
                      · skip
                        refine qG.blk 1 (pc' := 136) (ls' := [(2, 95), (0, ((c9 : Nat) : Int)), (0, ((k9 : Nat) : Int)), (0, ((s9 : Nat) : Int)), (0, x4), (0, ((n9 : Nat) : Int)), (0, x6), (0, x7), (0, ((i9 : Nat) : Int))]) (st' := [(0, x7)]) (w' := w0) (n' := 142) rfl ?_
                        refine qG.br (P := x7 = 0) (pc1 := 165) (pc2 := 139) (st1 := []) rfl (fun h5 => ?_) (fun h5 => ?_)
                        · skip
                          refine qG.blk 1 (pc' := 167) (ls' := [(2, 95), (0, ((c9 : Nat) : Int)), (0, ((k9 : Nat) : Int)), (0, ((s9 : Nat) : Int)), (0, x4), (0, ((n9 : Nat) : Int)), (0, x6), (0, x7), (0, ((i9 : Nat) : Int))]) (st' := [(0, x7)]) (w' := w0) (n' := 142) rfl ?_
                          refine qG.br (P := x7 = 0) (pc1 := 174) (pc2 := 170) (st1 := []) rfl (fun h6 => ?_) (fun h6 => ?_)
                          · skip
                            refine qG.blk 1 (pc' := 177) (ls' := [(2, 95), (0, ((c9 : Nat) : Int)), (0, ((k9 : Nat) : Int)), (0, ((s9 : Nat) : Int)), (0, x4), (0, wrp (((n9 : Nat) : Int) + 1)), (0, x6), (0, x7), (0, ((i9 : Nat) : Int))]) (st' := []) (w' := w0) (n' := 142) rfl ?_
                            rw [show wrp (((n9 : Nat) : Int) + 1) = ((n9 + 1 : Nat) : Int) from wrp_id (by omega) (by omega)]
                            refine qG.blk 1 (pc' := 39) (ls' := [(2, 95), (0, ((c9 : Nat) : Int)), (0, ((k9 : Nat) : Int)), (0, ((s9 : Nat) : Int)), (0, x4), (0, ((n9 + 1 : Nat) : Int)), (0, x6), (0, x7), (0, ((i9 : Nat) : Int))]) (st' := []) (w' := w0) (n' := 142) rfl ?_
                            exact ih39 _ (by omega) (n9 + 1) (x4) ((0, x6)) ((0, x7)) ((0, ((i9 : Nat) : Int))) rfl (by omega)
                          · skip
                            refine qG.blk 3 (pc' := 177) (ls' := [(2, 95), (0, ((c9 : Nat) : Int)), (0, ((k9 : Nat) : Int)), (0, ((s9 : Nat) : Int)), (0, ((n9 : Nat) : Int)), (0, wrp (((n9 : Nat) : Int) + 1)), (0, x6), (0, x7), (0, ((i9 : Nat) : Int))]) (st' := []) (w' := w0) (n' := 142) rfl ?_
                            rw [show wrp (((n9 : Nat) : Int) + 1) = ((n9 + 1 : Nat) : Int) from wrp_id (by omega) (by omega)]
                            refine qG.blk 1 (pc' := 39) (ls' := [(2, 95), (0, ((c9 : Nat) : Int)), (0, ((k9 : Nat) : Int)), (0, ((s9 : Nat) : Int)), (0, ((n9 : Nat) : Int)), (0, ((n9 + 1 : Nat) : Int)), (0, x6), (0, x7), (0, ((i9 : Nat) : Int))]) (st' := []) (w' := w0) (n' := 142) rfl ?_
                            exact ih39 _ (by omega) (n9 + 1) (((n9 : Nat) : Int)) ((0, x6)) ((0, x7)) ((0, ((i9 : Nat) : Int))) rfl (by omega)
                        · skip
                          refine qG.blk 2 (pc' := 143) (ls' := [(2, 95), (0, ((c9 : Nat) : Int)), (0, ((k9 : Nat) : Int)), (0, ((s9 : Nat) : Int)), (0, x4), (0, ((n9 : Nat) : Int)), (0, x6), (0, x7), (0, ((i9 : Nat) : Int))]) (st' := [(2, w0 95 5)]) (w' := w0) (n' := 142) rfl ?_
                          rw [show w0 95 5 = 101 from zref hA0.1 rfl rfl]
                          refine qG.blk 1 (pc' := 145) (ls' := [(2, 95), (0, ((c9 : Nat) : Int)), (0, ((k9 : Nat) : Int)), (0, ((s9 : Nat) : Int)), (0, x4), (0, ((n9 : Nat) : Int)), (0, x6), (0, x7), (0, ((i9 : Nat) : Int))]) (st' := [(0, ((i9 : Nat) : Int)), (2, 101)]) (w' := w0) (n' := 142) rfl ?_
                          refine qG.ild (m := 1820) rfl rfl (by omega) (by decide) ?_
                          show qG none (d + 1) 264 146 [(2, 95), (0, ((c9 : Nat) : Int)), (0, ((k9 : Nat) : Int)), (0, ((s9 : Nat) : Int)), (0, x4), (0, ((n9 : Nat) : Int)), (0, x6), (0, x7), (0, ((i9 : Nat) : Int))] [(0, w0 101 i9)] w0 142 Q9
                          refine qG.blk 2 (pc' := 149) (ls' := [(2, 95), (0, ((c9 : Nat) : Int)), (0, ((k9 : Nat) : Int)), (0, ((s9 : Nat) : Int)), (0, x4), (0, ((n9 : Nat) : Int)), (0, x6), (0, x7), (0, ((i9 : Nat) : Int))]) (st' := [(0, qand (w0 101 i9) x6)]) (w' := w0) (n' := 142) rfl ?_
                          refine qG.br (P := qand (w0 101 i9) x6 = 0) (pc1 := 156) (pc2 := 152) (st1 := []) rfl (fun h7 => ?_) (fun h7 => ?_)
                          · skip
                            refine qG.blk 3 (pc' := 162) (ls' := [(2, 95), (0, ((c9 : Nat) : Int)), (0, ((k9 : Nat) : Int)), (0, ((s9 : Nat) : Int)), (0, x4), (0, ((n9 : Nat) : Int)), (0, x6), (0, 0), (0, wrp (((i9 : Nat) : Int) + 1))]) (st' := []) (w' := w0) (n' := 142) rfl ?_
                            rw [show wrp (((i9 : Nat) : Int) + 1) = ((i9 + 1 : Nat) : Int) from wrp_id (by omega) (by omega)]
                            refine qG.blk 1 (pc' := 125) (ls' := [(2, 95), (0, ((c9 : Nat) : Int)), (0, ((k9 : Nat) : Int)), (0, ((s9 : Nat) : Int)), (0, x4), (0, ((n9 : Nat) : Int)), (0, x6), (0, 0), (0, ((i9 + 1 : Nat) : Int))]) (st' := []) (w' := w0) (n' := 142) rfl ?_
                            exact ih125 _ (by omega) (i9 + 1) (0) rfl (by omega)
                          · skip
                            refine qG.blk 4 (pc' := 162) (ls' := [(2, 95), (0, ((c9 : Nat) : Int)), (0, ((k9 : Nat) : Int)), (0, ((s9 : Nat) : Int)), (0, x4), (0, ((n9 : Nat) : Int)), (0, x6), (0, 1), (0, wrp (((i9 : Nat) : Int) + 1))]) (st' := []) (w' := w0) (n' := 142) rfl ?_
                            rw [show wrp (((i9 : Nat) : Int) + 1) = ((i9 + 1 : Nat) : Int) from wrp_id (by omega) (by omega)]
                            refine qG.blk 1 (pc' := 125) (ls' := [(2, 95), (0, ((c9 : Nat) : Int)), (0, ((k9 : Nat) : Int)), (0, ((s9 : Nat) : Int)), (0, x4), (0, ((n9 : Nat) : Int)), (0, x6), (0, 1), (0, ((i9 + 1 : Nat) : Int))]) (st' := []) (w' := w0) (n' := 142) rfl ?_
                            exact ih125 _ (by omega) (i9 + 1) (1) rfl (by omega)
                      · skip
                        refine qG.blk 1 (pc' := 167) (ls' := [(2, 95), (0, ((c9 : Nat) : Int)), (0, ((k9 : Nat) : Int)), (0, ((s9 : Nat) : Int)), (0, x4), (0, ((n9 : Nat) : Int)), (0, x6), (0, x7), (0, ((i9 : Nat) : Int))]) (st' := [(0, x7)]) (w' := w0) (n' := 142) rfl ?_
                        refine qG.br (P := x7 = 0) (pc1 := 174) (pc2 := 170) (st1 := []) rfl (fun h8 => ?_) (fun h8 => ?_)
                        · skip
                          refine qG.blk 1 (pc' := 177) (ls' := [(2, 95), (0, ((c9 : Nat) : Int)), (0, ((k9 : Nat) : Int)), (0, ((s9 : Nat) : Int)), (0, x4), (0, wrp (((n9 : Nat) : Int) + 1)), (0, x6), (0, x7), (0, ((i9 : Nat) : Int))]) (st' := []) (w' := w0) (n' := 142) rfl ?_
                          rw [show wrp (((n9 : Nat) : Int) + 1) = ((n9 + 1 : Nat) : Int) from wrp_id (by omega) (by omega)]
                          refine qG.blk 1 (pc' := 39) (ls' := [(2, 95), (0, ((c9 : Nat) : Int)), (0, ((k9 : Nat) : Int)), (0, ((s9 : Nat) : Int)), (0, x4), (0, ((n9 + 1 : Nat) : Int)), (0, x6), (0, x7), (0, ((i9 : Nat) : Int))]) (st' := []) (w' := w0) (n' := 142) rfl ?_
                          exact ih39 _ (by omega) (n9 + 1) (x4) ((0, x6)) ((0, x7)) ((0, ((i9 : Nat) : Int))) rfl (by omega)
                        · skip
                          refine qG.blk 3 (pc' := 177) (ls' := [(2, 95), (0, ((c9 : Nat) : Int)), (0, ((k9 : Nat) : Int)), (0, ((s9 : Nat) : Int)), (0, ((n9 : Nat) : Int)), (0, wrp (((n9 : Nat) : Int) + 1)), (0, x6), (0, x7), (0, ((i9 : Nat) : Int))]) (st' := []) (w' := w0) (n' := 142) rfl ?_
                          rw [show wrp (((n9 : Nat) : Int) + 1) = ((n9 + 1 : Nat) : Int) from wrp_id (by omega) (by omega)]
                          refine qG.blk 1 (pc' := 39) (ls' := [(2, 95), (0, ((c9 : Nat) : Int)), (0, ((k9 : Nat) : Int)), (0, ((s9 : Nat) : Int)), (0, ((n9 : Nat) : Int)), (0, ((n9 + 1 : Nat) : Int)), (0, x6), (0, x7), (0, ((i9 : Nat) : Int))]) (st' := []) (w' := w0) (n' := 142) rfl ?_
                          exact ih39 _ (by omega) (n9 + 1) (((n9 : Nat) : Int)) ((0, x6)) ((0, x7)) ((0, ((i9 : Nat) : Int))) rfl (by omega)
                    exact L125 _ (0) (1) rfl (by omega)
                exact L82 _ (0) (0) rfl (by omega)
              · skip
                refine qG.blk 1 (pc' := 62) (ls' := [(2, 95), (0, ((c9 : Nat) : Int)), (0, ((k9 : Nat) : Int)), (0, ((s9 : Nat) : Int)), (0, x4), (0, ((n9 : Nat) : Int)), x6, x7, x8]) (st' := [(0, ((n9 : Nat) : Int))]) (w' := w0) (n' := 142) rfl ?_
                refine qG.call (t := 211) (na := 1) (sk := 0) (md := 0) (ls1 := [(0, ((n9 : Nat) : Int)), (9, 0), (9, 0)]) (r1 := []) rfl rfl rfl rfl rfl (K_bits (Nat.zero_le _) (((n9 : Nat) : Int)) _) ?_
                rintro _ w7 _ ⟨rfl, hw7, rfl⟩
                rw [hw7]
                show qG none (d + 1) 264 65 [(2, 95), (0, ((c9 : Nat) : Int)), (0, ((k9 : Nat) : Int)), (0, ((s9 : Nat) : Int)), (0, x4), (0, ((n9 : Nat) : Int)), x6, x7, x8] [(0, bitsF (((n9 : Nat) : Int)) 16)] w0 142 Q9
                refine qG.blk 1 (pc' := 67) (ls' := [(2, 95), (0, ((c9 : Nat) : Int)), (0, ((k9 : Nat) : Int)), (0, ((s9 : Nat) : Int)), (0, x4), (0, ((n9 : Nat) : Int)), x6, x7, x8]) (st' := [(0, x4), (0, bitsF (((n9 : Nat) : Int)) 16)]) (w' := w0) (n' := 142) rfl ?_
                refine qG.call (t := 211) (na := 1) (sk := 0) (md := 0) (ls1 := [(0, x4), (9, 0), (9, 0)]) (r1 := [(0, bitsF (((n9 : Nat) : Int)) 16)]) rfl rfl rfl rfl rfl (K_bits (Nat.zero_le _) (x4) _) ?_
                rintro _ w7 _ ⟨rfl, hw7, rfl⟩
                rw [hw7]
                show qG none (d + 1) 264 70 [(2, 95), (0, ((c9 : Nat) : Int)), (0, ((k9 : Nat) : Int)), (0, ((s9 : Nat) : Int)), (0, x4), (0, ((n9 : Nat) : Int)), x6, x7, x8] [(0, bitsF (x4) 16), (0, bitsF (((n9 : Nat) : Int)) 16)] w0 142 Q9
                refine qG.br (P := bitsF (((n9 : Nat) : Int)) 16 < bitsF (x4) 16) (pc1 := 76) (pc2 := 73) (st1 := []) rfl (fun h9 => ?_) (fun h9 => ?_)
                · skip
                  refine qG.blk 4 (pc' := 82) (ls' := [(2, 95), (0, ((c9 : Nat) : Int)), (0, ((k9 : Nat) : Int)), (0, ((s9 : Nat) : Int)), (0, x4), (0, ((n9 : Nat) : Int)), (0, 0), (0, 0), x8]) (st' := []) (w' := w0) (n' := 142) rfl ?_
                  have L82_1 : ∀ (m9 : Nat) (d9 : Nat) (x6 : Int), 10 - d9 = m9 → (d9 ≤ 10) → qG none (d + 1) 264 82 [(2, 95), (0, ((c9 : Nat) : Int)), (0, ((k9 : Nat) : Int)), (0, ((s9 : Nat) : Int)), (0, x4), (0, ((n9 : Nat) : Int)), (0, x6), (0, ((d9 : Nat) : Int)), x8] [] w0 142 Q9 := by
                    intro m9
                    induction m9 using Nat.strongRecOn with
                    | ind m9 ih82 =>
                    intro d9 x6 hm82 hI82
                    refine qG.blk 2 (pc' := 86) (ls' := [(2, 95), (0, ((c9 : Nat) : Int)), (0, ((k9 : Nat) : Int)), (0, ((s9 : Nat) : Int)), (0, x4), (0, ((n9 : Nat) : Int)), (0, x6), (0, ((d9 : Nat) : Int)), x8]) (st' := [(0, 10), (0, ((d9 : Nat) : Int))]) (w' := w0) (n' := 142) rfl ?_
                    refine qG.br (P := ((d9 : Nat) : Int) < 10) (pc1 := 89) (pc2 := 119) (st1 := []) rfl (fun hd10 => ?_) (fun hd10 => ?_)
                    · skip
                      refine qG.blk 6 (pc' := 97) (ls' := [(2, 95), (0, ((c9 : Nat) : Int)), (0, ((k9 : Nat) : Int)), (0, ((s9 : Nat) : Int)), (0, x4), (0, ((n9 : Nat) : Int)), (0, x6), (0, ((d9 : Nat) : Int)), x8]) (st' := [(0, 1), (0, qand (qshr ((n9 : Nat) : Int) ((d9 : Nat) : Int)) 1)]) (w' := w0) (n' := 142) rfl ?_
                      refine qG.br (P := qand (qshr ((n9 : Nat) : Int) ((d9 : Nat) : Int)) 1 = 1) (pc1 := 100) (pc2 := 113) (st1 := []) rfl (fun h10 => ?_) (fun h10 => ?_)
                      · skip
                        refine qG.blk 5 (pc' := 107) (ls' := [(2, 95), (0, ((c9 : Nat) : Int)), (0, ((k9 : Nat) : Int)), (0, ((s9 : Nat) : Int)), (0, x4), (0, ((n9 : Nat) : Int)), (0, x6), (0, ((d9 : Nat) : Int)), x8]) (st' := [(0, 1), (0, ((d9 : Nat) : Int)), (0, ((c9 : Nat) : Int)), (2, 95), (0, x6)]) (w' := w0) (n' := 142) rfl ?_
                        refine qG.call (t := 250) (na := 4) (sk := 1) (md := 1) (ls1 := [(2, 95), (0, ((c9 : Nat) : Int)), (0, ((d9 : Nat) : Int)), (0, 1), (9, 0), (9, 0)]) (r1 := [(0, x6)]) rfl rfl rfl rfl rfl (AW.use (c := C_R_through.2) (as := [(2, 95), (0, ((c9 : Nat) : Int)), (0, ((d9 : Nat) : Int)), (0, 1)]) (m := []) T_R_through (AW.rf hA0.1) (Nat.zero_le _) ⟨⟨rfl, by decide, by decide⟩, ⟨rfl, hlc9, huc9⟩, ⟨rfl, Int.natCast_nonneg _, Int.le_of_lt_add_one hd10⟩, ⟨rfl, by decide, by decide⟩, trivial⟩ rfl rfl (by decide +kernel)) ?_
                        rintro _ w7 _ ⟨x, rfl, hx1, hx2, hA7, rfl, -⟩
                        have e7 := hA7.eq
                        rw [e7]
                        show qG none (d + 1) 264 110 [(2, 95), (0, ((c9 : Nat) : Int)), (0, ((k9 : Nat) : Int)), (0, ((s9 : Nat) : Int)), (0, x4), (0, ((n9 : Nat) : Int)), (0, x6), (0, ((d9 : Nat) : Int)), x8] [(0, x), (0, x6)] w0 142 Q9
                        refine qG.blk 3 (pc' := 116) (ls' := [(2, 95), (0, ((c9 : Nat) : Int)), (0, ((k9 : Nat) : Int)), (0, ((s9 : Nat) : Int)), (0, x4), (0, ((n9 : Nat) : Int)), (0, qor x6 x), (0, wrp (((d9 : Nat) : Int) + 1)), x8]) (st' := []) (w' := w0) (n' := 142) rfl ?_
                        rw [show wrp (((d9 : Nat) : Int) + 1) = ((d9 + 1 : Nat) : Int) from wrp_id (by omega) (by omega)]
                        refine qG.blk 1 (pc' := 82) (ls' := [(2, 95), (0, ((c9 : Nat) : Int)), (0, ((k9 : Nat) : Int)), (0, ((s9 : Nat) : Int)), (0, x4), (0, ((n9 : Nat) : Int)), (0, qor x6 x), (0, ((d9 + 1 : Nat) : Int)), x8]) (st' := []) (w' := w0) (n' := 142) rfl ?_
                        exact ih82 _ (by omega) (d9 + 1) (qor x6 x) rfl (by omega)
                      · skip
                        refine qG.blk 1 (pc' := 116) (ls' := [(2, 95), (0, ((c9 : Nat) : Int)), (0, ((k9 : Nat) : Int)), (0, ((s9 : Nat) : Int)), (0, x4), (0, ((n9 : Nat) : Int)), (0, x6), (0, wrp (((d9 : Nat) : Int) + 1)), x8]) (st' := []) (w' := w0) (n' := 142) rfl ?_
                        rw [show wrp (((d9 : Nat) : Int) + 1) = ((d9 + 1 : Nat) : Int) from wrp_id (by omega) (by omega)]
                        refine qG.blk 1 (pc' := 82) (ls' := [(2, 95), (0, ((c9 : Nat) : Int)), (0, ((k9 : Nat) : Int)), (0, ((s9 : Nat) : Int)), (0, x4), (0, ((n9 : Nat) : Int)), (0, x6), (0, ((d9 + 1 : Nat) : Int)), x8]) (st' := []) (w' := w0) (n' := 142) rfl ?_
                        exact ih82 _ (by omega) (d9 + 1) (x6) rfl (by omega)
                    · skip
                      refine qG.blk 4 (pc' := 125) (ls' := [(2, 95), (0, ((c9 : Nat) : Int)), (0, ((k9 : Nat) : Int)), (0, ((s9 : Nat) : Int)), (0, x4), (0, ((n9 : Nat) : Int)), (0, x6), (0, 1), (0, 0)]) (st' := []) (w' := w0) (n' := 142) rfl ?_
                      have L125_1 : ∀ (m9 : Nat) (i9 : Nat) (x7 : Int), 1820 - i9 = m9 → ((i9 : Int) ≤ w0 95 8) → qG none (d + 1) 264 125 [(2, 95), (0, ((c9 : Nat) : Int)), (0, ((k9 : Nat) : Int)), (0, ((s9 : Nat) : Int)), (0, x4), (0, ((n9 : Nat) : Int)), (0, x6), (0, x7), (0, ((i9 : Nat) : Int))] [] w0 142 Q9 := by
                        intro m9
                        induction m9 using Nat.strongRecOn with
                        | ind m9 ih125 =>
                        intro i9 x7 hm125 hI125
                        refine qG.blk 3 (pc' := 131) (ls' := [(2, 95), (0, ((c9 : Nat) : Int)), (0, ((k9 : Nat) : Int)), (0, ((s9 : Nat) : Int)), (0, x4), (0, ((n9 : Nat) : Int)), (0, x6), (0, x7), (0, ((i9 : Nat) : Int))]) (st' := [(0, w0 95 8), (0, ((i9 : Nat) : Int))]) (w' := w0) (n' := 142) rfl ?_
                        refine qG.br (P := ((i9 : Nat) : Int) < w0 95 8) (pc1 := 134) (pc2 := 165) (st1 := []) rfl (fun h11 => ?_) (fun h11 => ?_)
                        · skip
                          refine qG.blk 1 (pc' := 136) (ls' := [(2, 95), (0, ((c9 : Nat) : Int)), (0, ((k9 : Nat) : Int)), (0, ((s9 : Nat) : Int)), (0, x4), (0, ((n9 : Nat) : Int)), (0, x6), (0, x7), (0, ((i9 : Nat) : Int))]) (st' := [(0, x7)]) (w' := w0) (n' := 142) rfl ?_
                          refine qG.br (P := x7 = 0) (pc1 := 165) (pc2 := 139) (st1 := []) rfl (fun h12 => ?_) (fun h12 => ?_)
                          · skip
                            refine qG.blk 1 (pc' := 167) (ls' := [(2, 95), (0, ((c9 : Nat) : Int)), (0, ((k9 : Nat) : Int)), (0, ((s9 : Nat) : Int)), (0, x4), (0, ((n9 : Nat) : Int)), (0, x6), (0, x7), (0, ((i9 : Nat) : Int))]) (st' := [(0, x7)]) (w' := w0) (n' := 142) rfl ?_
                            refine qG.br (P := x7 = 0) (pc1 := 174) (pc2 := 170) (st1 := []) rfl (fun h13 => ?_) (fun h13 => ?_)
                            · skip
                              refine qG.blk 1 (pc' := 177) (ls' := [(2, 95), (0, ((c9 : Nat) : Int)), (0, ((k9 : Nat) : Int)), (0, ((s9 : Nat) : Int)), (0, x4), (0, wrp (((n9 : Nat) : Int) + 1)), (0, x6), (0, x7), (0, ((i9 : Nat) : Int))]) (st' := []) (w' := w0) (n' := 142) rfl ?_
                              rw [show wrp (((n9 : Nat) : Int) + 1) = ((n9 + 1 : Nat) : Int) from wrp_id (by omega) (by omega)]
                              refine qG.blk 1 (pc' := 39) (ls' := [(2, 95), (0, ((c9 : Nat) : Int)), (0, ((k9 : Nat) : Int)), (0, ((s9 : Nat) : Int)), (0, x4), (0, ((n9 + 1 : Nat) : Int)), (0, x6), (0, x7), (0, ((i9 : Nat) : Int))]) (st' := []) (w' := w0) (n' := 142) rfl ?_
                              exact ih39 _ (by omega) (n9 + 1) (x4) ((0, x6)) ((0, x7)) ((0, ((i9 : Nat) : Int))) rfl (by omega)
                            · skip
                              refine qG.blk 3 (pc' := 177) (ls' := [(2, 95), (0, ((c9 : Nat) : Int)), (0, ((k9 : Nat) : Int)), (0, ((s9 : Nat) : Int)), (0, ((n9 : Nat) : Int)), (0, wrp (((n9 : Nat) : Int) + 1)), (0, x6), (0, x7), (0, ((i9 : Nat) : Int))]) (st' := []) (w' := w0) (n' := 142) rfl ?_
                              rw [show wrp (((n9 : Nat) : Int) + 1) = ((n9 + 1 : Nat) : Int) from wrp_id (by omega) (by omega)]
                              refine qG.blk 1 (pc' := 39) (ls' := [(2, 95), (0, ((c9 : Nat) : Int)), (0, ((k9 : Nat) : Int)), (0, ((s9 : Nat) : Int)), (0, ((n9 : Nat) : Int)), (0, ((n9 + 1 : Nat) : Int)), (0, x6), (0, x7), (0, ((i9 : Nat) : Int))]) (st' := []) (w' := w0) (n' := 142) rfl ?_
                              exact ih39 _ (by omega) (n9 + 1) (((n9 : Nat) : Int)) ((0, x6)) ((0, x7)) ((0, ((i9 : Nat) : Int))) rfl (by omega)
                          · skip
                            refine qG.blk 2 (pc' := 143) (ls' := [(2, 95), (0, ((c9 : Nat) : Int)), (0, ((k9 : Nat) : Int)), (0, ((s9 : Nat) : Int)), (0, x4), (0, ((n9 : Nat) : Int)), (0, x6), (0, x7), (0, ((i9 : Nat) : Int))]) (st' := [(2, w0 95 5)]) (w' := w0) (n' := 142) rfl ?_
                            rw [show w0 95 5 = 101 from zref hA0.1 rfl rfl]
                            refine qG.blk 1 (pc' := 145) (ls' := [(2, 95), (0, ((c9 : Nat) : Int)), (0, ((k9 : Nat) : Int)), (0, ((s9 : Nat) : Int)), (0, x4), (0, ((n9 : Nat) : Int)), (0, x6), (0, x7), (0, ((i9 : Nat) : Int))]) (st' := [(0, ((i9 : Nat) : Int)), (2, 101)]) (w' := w0) (n' := 142) rfl ?_
                            refine qG.ild (m := 1820) rfl rfl (by omega) (by decide) ?_
                            show qG none (d + 1) 264 146 [(2, 95), (0, ((c9 : Nat) : Int)), (0, ((k9 : Nat) : Int)), (0, ((s9 : Nat) : Int)), (0, x4), (0, ((n9 : Nat) : Int)), (0, x6), (0, x7), (0, ((i9 : Nat) : Int))] [(0, w0 101 i9)] w0 142 Q9
                            refine qG.blk 2 (pc' := 149) (ls' := [(2, 95), (0, ((c9 : Nat) : Int)), (0, ((k9 : Nat) : Int)), (0, ((s9 : Nat) : Int)), (0, x4), (0, ((n9 : Nat) : Int)), (0, x6), (0, x7), (0, ((i9 : Nat) : Int))]) (st' := [(0, qand (w0 101 i9) x6)]) (w' := w0) (n' := 142) rfl ?_
                            refine qG.br (P := qand (w0 101 i9) x6 = 0) (pc1 := 156) (pc2 := 152) (st1 := []) rfl (fun h14 => ?_) (fun h14 => ?_)
                            · skip
                              refine qG.blk 3 (pc' := 162) (ls' := [(2, 95), (0, ((c9 : Nat) : Int)), (0, ((k9 : Nat) : Int)), (0, ((s9 : Nat) : Int)), (0, x4), (0, ((n9 : Nat) : Int)), (0, x6), (0, 0), (0, wrp (((i9 : Nat) : Int) + 1))]) (st' := []) (w' := w0) (n' := 142) rfl ?_
                              rw [show wrp (((i9 : Nat) : Int) + 1) = ((i9 + 1 : Nat) : Int) from wrp_id (by omega) (by omega)]
                              refine qG.blk 1 (pc' := 125) (ls' := [(2, 95), (0, ((c9 : Nat) : Int)), (0, ((k9 : Nat) : Int)), (0, ((s9 : Nat) : Int)), (0, x4), (0, ((n9 : Nat) : Int)), (0, x6), (0, 0), (0, ((i9 + 1 : Nat) : Int))]) (st' := []) (w' := w0) (n' := 142) rfl ?_
                              exact ih125 _ (by omega) (i9 + 1) (0) rfl (by omega)
                            · skip
                              refine qG.blk 4 (pc' := 162) (ls' := [(2, 95), (0, ((c9 : Nat) : Int)), (0, ((k9 : Nat) : Int)), (0, ((s9 : Nat) : Int)), (0, x4), (0, ((n9 : Nat) : Int)), (0, x6), (0, 1), (0, wrp (((i9 : Nat) : Int) + 1))]) (st' := []) (w' := w0) (n' := 142) rfl ?_
                              rw [show wrp (((i9 : Nat) : Int) + 1) = ((i9 + 1 : Nat) : Int) from wrp_id (by omega) (by omega)]
                              refine qG.blk 1 (pc' := 125) (ls' := [(2, 95), (0, ((c9 : Nat) : Int)), (0, ((k9 : Nat) : Int)), (0, ((s9 : Nat) : Int)), (0, x4), (0, ((n9 : Nat) : Int)), (0, x6), (0, 1), (0, ((i9 + 1 : Nat) : Int))]) (st' := []) (w' := w0) (n' := 142) rfl ?_
                              exact ih125 _ (by omega) (i9 + 1) (1) rfl (by omega)
                        · skip
                          refine qG.blk 1 (pc' := 167) (ls' := [(2, 95), (0, ((c9 : Nat) : Int)), (0, ((k9 : Nat) : Int)), (0, ((s9 : Nat) : Int)), (0, x4), (0, ((n9 : Nat) : Int)), (0, x6), (0, x7), (0, ((i9 : Nat) : Int))]) (st' := [(0, x7)]) (w' := w0) (n' := 142) rfl ?_
                          refine qG.br (P := x7 = 0) (pc1 := 174) (pc2 := 170) (st1 := []) rfl (fun h15 => ?_) (fun h15 => ?_)
                          · skip
                            refine qG.blk 1 (pc' := 177) (ls' := [(2, 95), (0, ((c9 : Nat) : Int)), (0, ((k9 : Nat) : Int)), (0, ((s9 : Nat) : Int)), (0, x4), (0, wrp (((n9 : Nat) : Int) + 1)), (0, x6), (0, x7), (0, ((i9 : Nat) : Int))]) (st' := []) (w' := w0) (n' := 142) rfl ?_
                            rw [show wrp (((n9 : Nat) : Int) + 1) = ((n9 + 1 : Nat) : Int) from wrp_id (by omega) (by omega)]
                            refine qG.blk 1 (pc' := 39) (ls' := [(2, 95), (0, ((c9 : Nat) : Int)), (0, ((k9 : Nat) : Int)), (0, ((s9 : Nat) : Int)), (0, x4), (0, ((n9 + 1 : Nat) : Int)), (0, x6), (0, x7), (0, ((i9 : Nat) : Int))]) (st' := []) (w' := w0) (n' := 142) rfl ?_
                            exact ih39 _ (by omega) (n9 + 1) (x4) ((0, x6)) ((0, x7)) ((0, ((i9 : Nat) : Int))) rfl (by omega)
                          · skip
                            refine qG.blk 3 (pc' := 177) (ls' := [(2, 95), (0, ((c9 : Nat) : Int)), (0, ((k9 : Nat) : Int)), (0, ((s9 : Nat) : Int)), (0, ((n9 : Nat) : Int)), (0, wrp (((n9 : Nat) : Int) + 1)), (0, x6), (0, x7), (0, ((i9 : Nat) : Int))]) (st' := []) (w' := w0) (n' := 142) rfl ?_
                            rw [show wrp (((n9 : Nat) : Int) + 1) = ((n9 + 1 : Nat) : Int) from wrp_id (by omega) (by omega)]
                            refine qG.blk 1 (pc' := 39) (ls' := [(2, 95), (0, ((c9 : Nat) : Int)), (0, ((k9 : Nat) : Int)), (0, ((s9 : Nat) : Int)), (0, ((n9 : Nat) : Int)), (0, ((n9 + 1 : Nat) : Int)), (0, x6), (0, x7), (0, ((i9 : Nat) : Int))]) (st' := []) (w' := w0) (n' := 142) rfl ?_
                            exact ih39 _ (by omega) (n9 + 1) (((n9 : Nat) : Int)) ((0, x6)) ((0, x7)) ((0, ((i9 : Nat) : Int))) rfl (by omega)
                      exact L125_1 _ (0) (1) rfl (by omega)
                  exact L82_1 _ (0) (0) rfl (by omega)
                · skip
                  refine qG.blk 2 (pc' := 177) (ls' := [(2, 95), (0, ((c9 : Nat) : Int)), (0, ((k9 : Nat) : Int)), (0, ((s9 : Nat) : Int)), (0, x4), (0, wrp (((n9 : Nat) : Int) + 1)), x6, x7, x8]) (st' := []) (w' := w0) (n' := 142) rfl ?_
                  rw [show wrp (((n9 : Nat) : Int) + 1) = ((n9 + 1 : Nat) : Int) from wrp_id (by omega) (by omega)]
                  refine qG.blk 1 (pc' := 39) (ls' := [(2, 95), (0, ((c9 : Nat) : Int)), (0, ((k9 : Nat) : Int)), (0, ((s9 : Nat) : Int)), (0, x4), (0, ((n9 + 1 : Nat) : Int)), x6, x7, x8]) (st' := []) (w' := w0) (n' := 142) rfl ?_
                  exact ih39 _ (by omega) (n9 + 1) (x4) (x6) (x7) (x8) rfl (by omega)
            · skip
              refine qG.blk 1 (pc' := 177) (ls' := [(2, 95), (0, ((c9 : Nat) : Int)), (0, ((k9 : Nat) : Int)), (0, ((s9 : Nat) : Int)), (0, x4), (0, wrp (((n9 : Nat) : Int) + 1)), x6, x7, x8]) (st' := []) (w' := w0) (n' := 142) rfl ?_
              rw [show wrp (((n9 : Nat) : Int) + 1) = ((n9 + 1 : Nat) : Int) from wrp_id (by omega) (by omega)]
              refine qG.blk 1 (pc' := 39) (ls' := [(2, 95), (0, ((c9 : Nat) : Int)), (0, ((k9 : Nat) : Int)), (0, ((s9 : Nat) : Int)), (0, x4), (0, ((n9 + 1 : Nat) : Int)), x6, x7, x8]) (st' := []) (w' := w0) (n' := 142) rfl ?_
              exact ih39 _ (by omega) (n9 + 1) (x4) (x6) (x7) (x8) rfl (by omega)
          · skip
            refine qG.blk 1 (pc' := 182) (ls' := [(2, 95), (0, ((c9 : Nat) : Int)), (0, ((k9 : Nat) : Int)), (0, ((s9 : Nat) : Int)), (0, x4), (0, ((n9 : Nat) : Int)), x6, x7, x8]) (st' := [(0, x4)]) (w' := w0) (n' := 142) rfl ?_
            refine qG.ret rfl rfl ?_
            subst hQ9
            first | exact SQ.rf hI hS | exact SQ.mk' hA0 (by decide +kernel) hS0
        exact L39 _ (0) ((-1)) ((9, 0)) ((9, 0)) ((9, 0)) rfl (by omega)
noncomputable def trX (D U : Nat) : Nat := D &&& (1023 - U)
theorem tr_tab : ∀ U : Nat, U < 1024 → qand 1023 (qxor (U : Int) (-1)) = ((1023 - U : Nat) : Int) := by decide +kernel
theorem tr_not : ∀ U : Nat, U < 1024 → ∀ j : Nat, j < 10 → (1023 - U).testBit j = !U.testBit j := by decide +kernel
theorem tr_pow : ∀ j : Nat, j < 10 → qshl 1 (j : Int) = ((2 ^ j : Nat) : Int) ∧ 2 ^ j < 1024 := by decide +kernel
theorem qand_as (x y z : Int) : qand (qand x y) z = qand x (qand y z) := by
  unfold qand
  rw [Int32.ofInt_toInt, Int32.ofInt_toInt, Int32.and_assoc]
theorem tr_and {D U : Nat} (hD : D < 1024) (hU : U < 1024) : qand (D : Int) (qxor (U : Int) (-1)) = ((trX D U : Nat) : Int) := by
  have h1 : qand (D : Int) 1023 = (D : Int) := by
    have h := qand_n (a := D) (b := 1023) (by omega) (by omega)
    have h : qand (D : Int) 1023 = ((D &&& 1023 : Nat) : Int) := h
    rw [h, show D &&& 1023 = D % 1024 from Nat.and_two_pow_sub_one_eq_mod D 10, Nat.mod_eq_of_lt hD]
  rw [← h1, qand_as, tr_tab U hU, qand_n (by omega) (by omega)]
  rfl
theorem trX_lt {D U : Nat} (hD : D < 1024) : trX D U < 1024 := Nat.lt_of_le_of_lt Nat.and_le_left hD
theorem tr_bit {D U j : Nat} (hU : U < 1024) (hj : j < 10) : (trX D U).testBit j = (D.testBit j && !U.testBit j) := by
  unfold trX
  rw [Nat.testBit_and, tr_not U hU j hj]
theorem tr_ult {U j : Nat} (hU : U < 1024) (hj : j < 10) : U ||| 2 ^ j < 1024 := Nat.or_lt_two_pow (n := 10) hU (tr_pow j hj).2
theorem tr_or {U j : Nat} (hU : U < 1024) (hj : j < 10) : qor (U : Int) (qshl 1 (j : Int)) = ((U ||| 2 ^ j : Nat) : Int) := by
  have := (tr_pow j hj).2
  rw [(tr_pow j hj).1, qor_n (by omega) (by omega)]
theorem ctb_lt {f g : Nat → Bool} {x : Nat} : ∀ {m : Nat}, (∀ i, i < m → f i = true → g i = true) → x < m → g x = true → f x = false → ctb f m + 1 ≤ ctb g m
  | 0, _, h, _, _ => absurd h (Nat.not_lt_zero x)
  | m + 1, hm, h, hg, hf => by
    show ctb f m + (bif f m then 1 else 0) + 1 ≤ ctb g m + (bif g m then 1 else 0)
    by_cases e : x = m
    · subst e
      have := ctb_mono (f := f) (g := g) (m := x) (fun i hi => hm i (by omega))
      rw [hg, hf]
      show ctb f x + 0 + 1 ≤ ctb g x + 1
      omega
    · have ih := ctb_lt (f := f) (g := g) (m := m) (fun i hi => hm i (by omega)) (by omega) hg hf
      have k := hm m (by omega)
      cases q1 : f m with
      | false =>
        show ctb f m + 0 + 1 ≤ ctb g m + (bif g m then 1 else 0)
        omega
      | true =>
        rw [k q1]
        show ctb f m + 1 + 1 ≤ ctb g m + 1
        omega
theorem tr_dec {D U j : Nat} (hU : U < 1024) (hj : j < 10) (h : (trX D U).testBit j = true) : pc (trX D (U ||| 2 ^ j)) 10 + 1 ≤ pc (trX D U) 10 := by
  refine ctb_lt (f := fun i => (trX D (U ||| 2 ^ j)).testBit i) (g := fun i => (trX D U).testBit i) (x := j) (fun i hi q => ?_) hj h ?_
  · have q : (trX D (U ||| 2 ^ j)).testBit i = true := q
    rw [tr_bit (tr_ult hU hj) hi, Nat.testBit_or] at q
    show (trX D U).testBit i = true
    rw [tr_bit hU hi]
    revert q
    cases D.testBit i <;> cases U.testBit i <;> cases (2 ^ j).testBit i <;> decide
  · show (trX D (U ||| 2 ^ j)).testBit j = false
    rw [tr_bit (tr_ult hU hj) hj, Nat.testBit_or, Nat.testBit_two_pow_self]
    cases D.testBit j <;> cases U.testBit j <;> rfl
noncomputable def TRM : List Nat := [116, 38095, 39095, 40095, 41095, 42095, 43095, 44095, 101, 102, 103, 9095, 10095, 117, 118, 47095, 120, 121, 51095, 52095]
noncomputable def TQ (w : qW) (r : qV) (w1 : qW) (n1 : Nat) : Prop := r = (9, 0) ∧ n1 = 142 ∧ AW TRM w w1 ∧ S3 w1
theorem TQ.tr {w w9 w1 : qW} {r : qV} {n1 : Nat} (h : AW TRM w w9) (h2 : TQ w9 r w1 n1) : TQ w r w1 n1 := ⟨h2.1, h2.2.1, h.tr h2.2.2.1 (by decide +kernel), h2.2.2.2⟩
noncomputable def TRs (n : Nat) : Prop := ∀ (d : Nat) (w : qW) (c s : Nat) (W : Int) (D U : Nat), 20 - n ≤ d → c < 3 → D < 1024 → (1 ≤ W ∧ W ≤ 5) → (1 ≤ s ∧ s ≤ 4) → U < 1024 → pc (trX D U) 10 + n ≤ 4 → yInv zgf zga zra zSp w → S3 w → qG none d 262 0 [(2, 95), (0, (c : Int)), (0, (D : Int)), (0, W), (0, (s : Int)), (0, (n : Int)), (0, (U : Int)), (9, 0), (9, 0), (9, 0)] [] w 142 (TQ w)
theorem K_tr174 (n : Nat) (hn : n ≤ 4) (IH : n < 4 → TRs (n + 1)) {d : Nat} (hd : 20 - n ≤ d) (c s : Nat) (W : Int) (D U : Nat) (hc : c < 3) (hD : D < 1024) (hW : 1 ≤ W ∧ W ≤ 5) (hk : 1 ≤ s ∧ s ≤ 4) (hU : U < 1024) (hpc : pc (trX D U) 10 + n ≤ 4) (x7 x8 : Int) (x9 : qV) (w : qW) (hI : yInv zgf zga zra zSp w) (hS : S3 w) : qG none d 262 174 [(2, 95), (0, ((c : Nat) : Int)), (0, ((D : Nat) : Int)), (0, W), (0, ((s : Nat) : Int)), (0, ((n : Nat) : Int)), (0, ((U : Nat) : Int)), (0, x7), (0, x8), x9] [] w 142 (TQ w) := by
  generalize hQ9 : (TQ w) = Q9
  obtain ⟨d, rfl⟩ : ∃ d9, d = d9 + 1 := ⟨d - 1, by omega⟩
  refine qG.blk 2 (pc' := 177) (ls' := [(2, 95), (0, ((c : Nat) : Int)), (0, ((D : Nat) : Int)), (0, W), (0, ((s : Nat) : Int)), (0, ((n : Nat) : Int)), (0, ((U : Nat) : Int)), (0, x7), (0, x8), (0, 0)]) (st' := []) (w' := w) (n' := 142) rfl ?_
  have L177 : ∀ (m9 : Nat) (j : Nat) (w9 : qW), 10 - j = m9 → (j ≤ 10 ∧ AW TRM w w9 ∧ S3 w9) → qG none (d + 1) 262 177 [(2, 95), (0, ((c : Nat) : Int)), (0, ((D : Nat) : Int)), (0, W), (0, ((s : Nat) : Int)), (0, ((n : Nat) : Int)), (0, ((U : Nat) : Int)), (0, x7), (0, x8), (0, ((j : Nat) : Int))] [] w9 142 Q9 := by
    intro m9
    induction m9 using Nat.strongRecOn with
    | ind m9 ih177 =>
    intro j w9 hm177 hI177
    refine qG.blk 2 (pc' := 181) (ls' := [(2, 95), (0, ((c : Nat) : Int)), (0, ((D : Nat) : Int)), (0, W), (0, ((s : Nat) : Int)), (0, ((n : Nat) : Int)), (0, ((U : Nat) : Int)), (0, x7), (0, x8), (0, ((j : Nat) : Int))]) (st' := [(0, 10), (0, ((j : Nat) : Int))]) (w' := w9) (n' := 142) rfl ?_
    refine qG.br (P := ((j : Nat) : Int) < 10) (pc1 := 184) (pc2 := 236) (st1 := []) rfl (fun h1 => ?_) (fun h1 => ?_)
    · skip
      refine qG.blk 5 (pc' := 190) (ls' := [(2, 95), (0, ((c : Nat) : Int)), (0, ((D : Nat) : Int)), (0, W), (0, ((s : Nat) : Int)), (0, ((n : Nat) : Int)), (0, ((U : Nat) : Int)), (0, x7), (0, x8), (0, ((j : Nat) : Int))]) (st' := [(0, qand ((D : Nat) : Int) (qxor ((U : Nat) : Int) (-1)))]) (w' := w9) (n' := 142) rfl ?_
      rw [show qand ((D : Nat) : Int) (qxor ((U : Nat) : Int) (-1)) = ((trX D U : Nat) : Int) from tr_and hD hU]
      refine qG.blk 4 (pc' := 195) (ls' := [(2, 95), (0, ((c : Nat) : Int)), (0, ((D : Nat) : Int)), (0, W), (0, ((s : Nat) : Int)), (0, ((n : Nat) : Int)), (0, ((U : Nat) : Int)), (0, x7), (0, x8), (0, ((j : Nat) : Int))]) (st' := [(0, qand (qshr ((trX D U : Nat) : Int) ((j : Nat) : Int)) 1)]) (w' := w9) (n' := 142) rfl ?_
      rw [show qand (qshr ((trX D U : Nat) : Int) ((j : Nat) : Int)) 1 = (if (trX D U).testBit j = true then 1 else 0) from hb_bit (Nat.lt_of_lt_of_le (trX_lt hD) (by decide)) (by omega)]
      refine qG.br (P := (if (trX D U).testBit j = true then 1 else 0) = 0) (pc1 := 198) (pc2 := 201) (st1 := []) rfl (fun htb => ?_) (fun htb => ?_)
      · skip
        refine qG.blk 2 (pc' := 233) (ls' := [(2, 95), (0, ((c : Nat) : Int)), (0, ((D : Nat) : Int)), (0, W), (0, ((s : Nat) : Int)), (0, ((n : Nat) : Int)), (0, ((U : Nat) : Int)), (0, x7), (0, x8), (0, wrp (((j : Nat) : Int) + 1))]) (st' := []) (w' := w9) (n' := 142) rfl ?_
        rw [show wrp (((j : Nat) : Int) + 1) = ((j + 1 : Nat) : Int) from wrp_id (by omega) (by omega)]
        refine qG.blk 1 (pc' := 177) (ls' := [(2, 95), (0, ((c : Nat) : Int)), (0, ((D : Nat) : Int)), (0, W), (0, ((s : Nat) : Int)), (0, ((n : Nat) : Int)), (0, ((U : Nat) : Int)), (0, x7), (0, x8), (0, ((j + 1 : Nat) : Int))]) (st' := []) (w' := w9) (n' := 142) rfl ?_
        exact ih177 _ (by omega) (j + 1) (w9) rfl (⟨by omega, hI177.2.1, hI177.2.2⟩)
      · skip
        have htb2 : (trX D U).testBit j = true := Decidable.of_not_not (fun z => htb (ite01.mpr z))
        have hj9 : j < 10 := by omega
        have hdec := tr_dec hU hj9 htb2
        have hA10 : AW TRM w (qup w9 120 n ((j : Nat) : Int)) := hI177.2.1.upd (by decide) rfl (zup_a hI177.2.1.1 (b := (0, 9)) rfl rfl ⟨by show (0 : Int) ≤ _; omega, by show _ ≤ (9 : Int); omega⟩)
        have hS10 : S3 (qup w9 120 n ((j : Nat) : Int)) := hI177.2.2.cong (by rw [qup_ne (by decide)]) (fun i => by rw [qup_ne (by decide)]) (fun i => by rw [qup_ne (by decide)])
        refine qG.blk 2 (pc' := 205) (ls' := [(2, 95), (0, ((c : Nat) : Int)), (0, ((D : Nat) : Int)), (0, W), (0, ((s : Nat) : Int)), (0, ((n : Nat) : Int)), (0, ((U : Nat) : Int)), (0, x7), (0, x8), (0, ((j : Nat) : Int))]) (st' := [(2, w9 95 48)]) (w' := w9) (n' := 142) rfl ?_
        rw [show w9 95 48 = 120 from zref hI177.2.1.1 rfl rfl]
        refine qG.blk 2 (pc' := 209) (ls' := [(2, 95), (0, ((c : Nat) : Int)), (0, ((D : Nat) : Int)), (0, W), (0, ((s : Nat) : Int)), (0, ((n : Nat) : Int)), (0, ((U : Nat) : Int)), (0, x7), (0, x8), (0, ((j : Nat) : Int))]) (st' := [(0, ((j : Nat) : Int)), (0, ((n : Nat) : Int)), (2, 120)]) (w' := w9) (n' := 142) rfl ?_
        refine qG.ar (P := 0 ≤ ((n : Nat) : Int) ∧ ((n : Nat) : Int) < ((4 : Nat) : Int)) (P2 := 0 < (120 : Int) ∧ (120 : Int) ≤ ((142 : Nat) : Int)) (pc' := 210) (ls' := [(2, 95), (0, ((c : Nat) : Int)), (0, ((D : Nat) : Int)), (0, W), (0, ((s : Nat) : Int)), (0, ((n : Nat) : Int)), (0, ((U : Nat) : Int)), (0, x7), (0, x8), (0, ((j : Nat) : Int))]) (st' := []) (w' := (qup w9 120 n ((j : Nat) : Int))) (n' := 142) rfl (by omega) (by decide) ?_
        refine qG.blk 8 (pc' := 220) (ls' := [(2, 95), (0, ((c : Nat) : Int)), (0, ((D : Nat) : Int)), (0, W), (0, ((s : Nat) : Int)), (0, ((n : Nat) : Int)), (0, ((U : Nat) : Int)), (0, x7), (0, x8), (0, ((j : Nat) : Int))]) (st' := [(0, wrp (((n : Nat) : Int) + 1)), (0, ((s : Nat) : Int)), (0, W), (0, ((D : Nat) : Int)), (0, ((c : Nat) : Int)), (2, 95)]) (w' := (qup w9 120 n ((j : Nat) : Int))) (n' := 142) rfl ?_
        rw [show wrp (((n : Nat) : Int) + 1) = ((n + 1 : Nat) : Int) from by rw [wrp_id (by omega) (by omega)]; omega]
        refine qG.blk 5 (pc' := 227) (ls' := [(2, 95), (0, ((c : Nat) : Int)), (0, ((D : Nat) : Int)), (0, W), (0, ((s : Nat) : Int)), (0, ((n : Nat) : Int)), (0, ((U : Nat) : Int)), (0, x7), (0, x8), (0, ((j : Nat) : Int))]) (st' := [(0, qor ((U : Nat) : Int) (qshl 1 ((j : Nat) : Int))), (0, ((n + 1 : Nat) : Int)), (0, ((s : Nat) : Int)), (0, W), (0, ((D : Nat) : Int)), (0, ((c : Nat) : Int)), (2, 95)]) (w' := (qup w9 120 n ((j : Nat) : Int))) (n' := 142) rfl ?_
        rw [show qor ((U : Nat) : Int) (qshl 1 ((j : Nat) : Int)) = ((U ||| 2 ^ j : Nat) : Int) from tr_or hU hj9]
        refine qG.call (t := 262) (na := 7) (sk := 1) (md := 1) (ls1 := [(2, 95), (0, ((c : Nat) : Int)), (0, ((D : Nat) : Int)), (0, W), (0, ((s : Nat) : Int)), (0, ((n + 1 : Nat) : Int)), (0, ((U ||| 2 ^ j : Nat) : Int)), (9, 0), (9, 0), (9, 0)]) (r1 := []) rfl rfl rfl rfl rfl (IH (by omega) d (qup w9 120 n ((j : Nat) : Int)) c s W D (U ||| 2 ^ j) (by omega) hc hD hW hk (tr_ult hU hj9) (by omega) hA10.1 hS10) ?_
        rintro _ w7 _ ⟨rfl, rfl, hA7, hS7⟩
        show qG none (d + 1) 262 230 [(2, 95), (0, ((c : Nat) : Int)), (0, ((D : Nat) : Int)), (0, W), (0, ((s : Nat) : Int)), (0, ((n : Nat) : Int)), (0, ((U : Nat) : Int)), (0, x7), (0, x8), (0, ((j : Nat) : Int))] [] w7 142 Q9
        refine qG.blk 1 (pc' := 233) (ls' := [(2, 95), (0, ((c : Nat) : Int)), (0, ((D : Nat) : Int)), (0, W), (0, ((s : Nat) : Int)), (0, ((n : Nat) : Int)), (0, ((U : Nat) : Int)), (0, x7), (0, x8), (0, wrp (((j : Nat) : Int) + 1))]) (st' := []) (w' := w7) (n' := 142) rfl ?_
        rw [show wrp (((j : Nat) : Int) + 1) = ((j + 1 : Nat) : Int) from wrp_id (by omega) (by omega)]
        refine qG.blk 1 (pc' := 177) (ls' := [(2, 95), (0, ((c : Nat) : Int)), (0, ((D : Nat) : Int)), (0, W), (0, ((s : Nat) : Int)), (0, ((n : Nat) : Int)), (0, ((U : Nat) : Int)), (0, x7), (0, x8), (0, ((j + 1 : Nat) : Int))]) (st' := []) (w' := w7) (n' := 142) rfl ?_
        exact ih177 _ (by omega) (j + 1) (w7) rfl (⟨by omega, hA10.tr hA7 (by decide +kernel), hS7⟩)
    · skip
      refine qG.retv rfl rfl ?_
      subst hQ9
      exact ⟨rfl, rfl, hI177.2.1, hI177.2.2⟩
  exact L177 _ (0) (w) rfl (⟨by omega, AW.rf hI, hS⟩)
theorem K_tr117 (n : Nat) (hn : n ≤ 4) (IH : n < 4 → TRs (n + 1)) {d : Nat} (hd : 20 - n ≤ d) (c s : Nat) (W : Int) (D U : Nat) (hc : c < 3) (hD : D < 1024) (hW : 1 ≤ W ∧ W ≤ 5) (hk : 1 ≤ s ∧ s ≤ 4) (hU : U < 1024) (hpc : pc (trX D U) 10 + n ≤ 4) (x7 b : Int) (hx7 : yin (0, 16) x7) (x9 : qV) (w : qW) (hI : yInv zgf zga zra zSp w) (hS : S3 w) : qG none d 262 117 [(2, 95), (0, ((c : Nat) : Int)), (0, ((D : Nat) : Int)), (0, W), (0, ((s : Nat) : Int)), (0, ((n : Nat) : Int)), (0, ((U : Nat) : Int)), (0, x7), (0, b), x9] [] w 142 (TQ w) := by
  generalize hQ9 : (TQ w) = Q9
  obtain ⟨d, rfl⟩ : ∃ d9, d = d9 + 1 := ⟨d - 1, by omega⟩
  refine qG.blk 1 (pc' := 119) (ls' := [(2, 95), (0, ((c : Nat) : Int)), (0, ((D : Nat) : Int)), (0, W), (0, ((s : Nat) : Int)), (0, ((n : Nat) : Int)), (0, ((U : Nat) : Int)), (0, x7), (0, b), x9]) (st' := [(0, b)]) (w' := w) (n' := 142) rfl ?_
  refine qG.br (P := b = 0) (pc1 := 174) (pc2 := 122) (st1 := []) rfl (fun h1 => ?_) (fun h1 => ?_)
  · skip
    subst hQ9
    exact qG.mono (K_tr174 n hn IH hd c s W D U hc hD hW hk hU hpc x7 b x9 w hI hS) (fun _ _ _ hh => TQ.tr (AW.rf hI) hh)
  · skip
    refine qG.blk 3 (pc' := 126) (ls' := [(2, 95), (0, ((c : Nat) : Int)), (0, ((D : Nat) : Int)), (0, W), (0, ((s : Nat) : Int)), (0, ((n : Nat) : Int)), (0, ((U : Nat) : Int)), (0, x7), (0, b), x9]) (st' := [(0, ((s : Nat) : Int)), (0, ((c : Nat) : Int)), (2, 95)]) (w' := w) (n' := 142) rfl ?_
    refine qG.call (t := 257) (na := 3) (sk := 1) (md := 1) (ls1 := [(2, 95), (0, ((c : Nat) : Int)), (0, ((s : Nat) : Int)), (9, 0), (9, 0), (9, 0), (9, 0)]) (r1 := []) rfl rfl rfl rfl rfl (K_hides (by omega) c s hc hk.1 hk.2 w hI hS) ?_
    rintro _ w1 _ ⟨rfl, w0, hfp, hA0, hS0, hH, N, S, t, hN, hSS, htS, rfl, htc⟩
    have hA1 : AW TRM w w1 := (hd_aw hA0 hH).mono (by decide +kernel)
    have hS3 := hd_s3 hS0 hH
    show qG none (d + 1) 262 129 [(2, 95), (0, ((c : Nat) : Int)), (0, ((D : Nat) : Int)), (0, W), (0, ((s : Nat) : Int)), (0, ((n : Nat) : Int)), (0, ((U : Nat) : Int)), (0, x7), (0, b), x9] [(0, ((cntF (cF w0 t) N : Nat) : Int))] w1 142 Q9
    refine qG.br (P := 0 < ((cntF (cF w0 t) N : Nat) : Int)) (pc1 := 132) (pc2 := 174) (st1 := []) rfl (fun h2 => ?_) (fun h2 => ?_)
    · skip
      refine qG.blk 8 (pc' := 147) (ls' := [(2, 95), (0, ((c : Nat) : Int)), (0, ((D : Nat) : Int)), (0, W), (0, ((s : Nat) : Int)), (0, ((n : Nat) : Int)), (0, ((U : Nat) : Int)), (0, x7), (0, b), (0, 0)]) (st' := []) (w' := (qup (qup w1 95 50 ((n : Nat) : Int)) 95 51 x7)) (n' := 142) rfl ?_
      have L147 : ∀ (m9 : Nat) (j : Nat) (w9 : qW), n - j = m9 → (j ≤ n ∧ AW TRM w w9 ∧ S3 w9) → qG none (d + 1) 262 147 [(2, 95), (0, ((c : Nat) : Int)), (0, ((D : Nat) : Int)), (0, W), (0, ((s : Nat) : Int)), (0, ((n : Nat) : Int)), (0, ((U : Nat) : Int)), (0, x7), (0, b), (0, ((j : Nat) : Int))] [] w9 142 Q9 := by
        intro m9
        induction m9 using Nat.strongRecOn with
        | ind m9 ih147 =>
        intro j w9 hm147 hI147
        have h120 := hI147.2.1.1.2.1 120 j (0, 9) rfl rfl
        refine qG.blk 2 (pc' := 151) (ls' := [(2, 95), (0, ((c : Nat) : Int)), (0, ((D : Nat) : Int)), (0, W), (0, ((s : Nat) : Int)), (0, ((n : Nat) : Int)), (0, ((U : Nat) : Int)), (0, x7), (0, b), (0, ((j : Nat) : Int))]) (st' := [(0, ((n : Nat) : Int)), (0, ((j : Nat) : Int))]) (w' := w9) (n' := 142) rfl ?_
        refine qG.br (P := ((j : Nat) : Int) < ((n : Nat) : Int)) (pc1 := 154) (pc2 := 174) (st1 := []) rfl (fun h3 => ?_) (fun h3 => ?_)
        · skip
          refine qG.blk 2 (pc' := 158) (ls' := [(2, 95), (0, ((c : Nat) : Int)), (0, ((D : Nat) : Int)), (0, W), (0, ((s : Nat) : Int)), (0, ((n : Nat) : Int)), (0, ((U : Nat) : Int)), (0, x7), (0, b), (0, ((j : Nat) : Int))]) (st' := [(2, w9 95 49)]) (w' := w9) (n' := 142) rfl ?_
          rw [show w9 95 49 = 121 from zref hI147.2.1.1 rfl rfl]
          refine qG.blk 3 (pc' := 164) (ls' := [(2, 95), (0, ((c : Nat) : Int)), (0, ((D : Nat) : Int)), (0, W), (0, ((s : Nat) : Int)), (0, ((n : Nat) : Int)), (0, ((U : Nat) : Int)), (0, x7), (0, b), (0, ((j : Nat) : Int))]) (st' := [(2, w9 95 48), (0, ((j : Nat) : Int)), (2, 121)]) (w' := w9) (n' := 142) rfl ?_
          rw [show w9 95 48 = 120 from zref hI147.2.1.1 rfl rfl]
          refine qG.blk 1 (pc' := 166) (ls' := [(2, 95), (0, ((c : Nat) : Int)), (0, ((D : Nat) : Int)), (0, W), (0, ((s : Nat) : Int)), (0, ((n : Nat) : Int)), (0, ((U : Nat) : Int)), (0, x7), (0, b), (0, ((j : Nat) : Int))]) (st' := [(0, ((j : Nat) : Int)), (2, 120), (0, ((j : Nat) : Int)), (2, 121)]) (w' := w9) (n' := 142) rfl ?_
          refine qG.ar (P := 0 ≤ ((j : Nat) : Int) ∧ ((j : Nat) : Int) < ((4 : Nat) : Int)) (P2 := 0 < (120 : Int) ∧ (120 : Int) ≤ ((142 : Nat) : Int)) (pc' := 167) (ls' := [(2, 95), (0, ((c : Nat) : Int)), (0, ((D : Nat) : Int)), (0, W), (0, ((s : Nat) : Int)), (0, ((n : Nat) : Int)), (0, ((U : Nat) : Int)), (0, x7), (0, b), (0, ((j : Nat) : Int))]) (st' := [(0, w9 120 j), (0, ((j : Nat) : Int)), (2, 121)]) (w' := w9) (n' := 142) rfl (by omega) (by decide) ?_
          refine qG.ar (P := 0 ≤ ((j : Nat) : Int) ∧ ((j : Nat) : Int) < ((4 : Nat) : Int)) (P2 := 0 < (121 : Int) ∧ (121 : Int) ≤ ((142 : Nat) : Int)) (pc' := 168) (ls' := [(2, 95), (0, ((c : Nat) : Int)), (0, ((D : Nat) : Int)), (0, W), (0, ((s : Nat) : Int)), (0, ((n : Nat) : Int)), (0, ((U : Nat) : Int)), (0, x7), (0, b), (0, ((j : Nat) : Int))]) (st' := []) (w' := (qup w9 121 j (w9 120 j))) (n' := 142) rfl (by omega) (by decide) ?_
          refine qG.blk 1 (pc' := 171) (ls' := [(2, 95), (0, ((c : Nat) : Int)), (0, ((D : Nat) : Int)), (0, W), (0, ((s : Nat) : Int)), (0, ((n : Nat) : Int)), (0, ((U : Nat) : Int)), (0, x7), (0, b), (0, wrp (((j : Nat) : Int) + 1))]) (st' := []) (w' := (qup w9 121 j (w9 120 j))) (n' := 142) rfl ?_
          rw [show wrp (((j : Nat) : Int) + 1) = ((j + 1 : Nat) : Int) from wrp_id (by omega) (by omega)]
          refine qG.blk 1 (pc' := 147) (ls' := [(2, 95), (0, ((c : Nat) : Int)), (0, ((D : Nat) : Int)), (0, W), (0, ((s : Nat) : Int)), (0, ((n : Nat) : Int)), (0, ((U : Nat) : Int)), (0, x7), (0, b), (0, ((j + 1 : Nat) : Int))]) (st' := []) (w' := (qup w9 121 j (w9 120 j))) (n' := 142) rfl ?_
          exact ih147 _ (by omega) (j + 1) ((qup w9 121 j (w9 120 j))) rfl (⟨by omega, hI147.2.1.upd (by decide) rfl (zup_a hI147.2.1.1 (b := (0, 9)) rfl rfl h120), hI147.2.2.cong (by rw [qup_ne (by decide)]) (fun i => by rw [qup_ne (by decide)]) (fun i => by rw [qup_ne (by decide)])⟩)
        · skip
          subst hQ9
          exact qG.mono (K_tr174 n hn IH hd c s W D U hc hD hW hk hU hpc x7 b (0, ((j : Nat) : Int)) w9 hI147.2.1.1 hI147.2.2) (fun _ _ _ hh => TQ.tr (hI147.2.1) hh)
      exact L147 _ (0) ((qup (qup w1 95 50 ((n : Nat) : Int)) 95 51 x7)) rfl (⟨by omega, (hA1.upd (p := 95) (j := 50) (v := ((n : Nat) : Int)) (by decide) rfl (zup_f hA1.1 (b := (-1, 4)) rfl rfl rfl ⟨by show (-1 : Int) ≤ _; omega, by show _ ≤ (4 : Int); omega⟩)).upd (p := 95) (j := 51) (v := x7) (by decide) rfl (zup_f (zup_f hA1.1 (b := (-1, 4)) rfl rfl rfl ⟨by show (-1 : Int) ≤ _; omega, by show _ ≤ (4 : Int); omega⟩) (b := (0, 16)) rfl rfl rfl hx7), hS3.cong ((qup_j (by decide)).trans (qup_j (by decide))) (fun i => by rw [qup_ne (by decide), qup_ne (by decide)]) (fun i => by rw [qup_ne (by decide), qup_ne (by decide)])⟩)
    · skip
      subst hQ9
      exact qG.mono (K_tr174 n hn IH hd c s W D U hc hD hW hk hU hpc x7 b x9 w1 hA1.1 hS3) (fun _ _ _ hh => TQ.tr (hA1) hh)
theorem bg_aw {w : qW} (hI : yInv zgf zga zra zSp w) : AW SHM w (begW w) := ⟨begW_I hI, fun p j hp => begW_o (fun z => by
  obtain ⟨z1, z2, z3⟩ := z
  have := hp (by omega)
  rw [z1] at this
  rcases (show j = 37 ∨ j = 38 ∨ j = 39 ∨ j = 40 ∨ j = 41 ∨ j = 42 ∨ j = 43 by omega) with e | e | e | e | e | e | e <;> (rw [e] at this; cases this))⟩
theorem do_aw {w w1 : qW} {c : Nat} {kind what : Int} (h : AW SHM w w1) (hw : yin (-2147483648, 2147483647) what) (hs : w1 95 37 + (dN kind what : Nat) ≤ 800) : AW SHM w (doesW w1 c kind what) := ⟨doesW_I h.1 hw hs, fun p j hp => (doesW_o (fun z => (by have := hp (by omega); rw [z] at this; cases this)) (fun z => by
  obtain ⟨z1, z2, z3⟩ := z
  have := hp (by omega)
  rw [z1] at this
  rcases (show j = 37 ∨ j = 38 ∨ j = 39 ∨ j = 40 ∨ j = 41 ∨ j = 42 ∨ j = 43 by omega) with e | e | e | e | e | e | e <;> (rw [e] at this; cases this))).trans (h.2 p j hp)⟩
theorem K_tr0 (n : Nat) (hn : n ≤ 4) (IH : n < 4 → TRs (n + 1)) {d : Nat} (hd : 20 - n ≤ d) (c s : Nat) (W : Int) (D U : Nat) (hc : c < 3) (hD : D < 1024) (hW : 1 ≤ W ∧ W ≤ 5) (hk : 1 ≤ s ∧ s ≤ 4) (hU : U < 1024) (hpc : pc (trX D U) 10 + n ≤ 4) (w : qW) (hI : yInv zgf zga zra zSp w) (hS : S3 w) : qG none d 262 0 [(2, 95), (0, ((c : Nat) : Int)), (0, ((D : Nat) : Int)), (0, W), (0, ((s : Nat) : Int)), (0, ((n : Nat) : Int)), (0, ((U : Nat) : Int)), (9, 0), (9, 0), (9, 0)] [] w 142 (TQ w) := by
  generalize hQ9 : (TQ w) = Q9
  obtain ⟨d, rfl⟩ : ∃ d9, d = d9 + 1 := ⟨d - 1, by omega⟩
  refine qG.blk 1 (pc' := 1) (ls' := [(2, 95), (0, ((c : Nat) : Int)), (0, ((D : Nat) : Int)), (0, W), (0, ((s : Nat) : Int)), (0, ((n : Nat) : Int)), (0, ((U : Nat) : Int)), (9, 0), (9, 0), (9, 0)]) (st' := [(2, 95)]) (w' := w) (n' := 142) rfl ?_
  refine qG.call (t := 251) (na := 1) (sk := 1) (md := 1) (ls1 := [(2, 95)]) (r1 := []) rfl rfl rfl rfl rfl (K_begins (Nat.zero_le _) w hI) ?_
  rintro _ wb _ ⟨rfl, hwb, rfl⟩
  have hAb : AW SHM w wb := hwb ▸ bg_aw hI
  have hsb : wb 95 37 = 0 := hwb ▸ begW_37
  show qG none (d + 1) 262 4 [(2, 95), (0, ((c : Nat) : Int)), (0, ((D : Nat) : Int)), (0, W), (0, ((s : Nat) : Int)), (0, ((n : Nat) : Int)), (0, ((U : Nat) : Int)), (9, 0), (9, 0), (9, 0)] [] wb 142 Q9
  refine qG.blk 2 (pc' := 7) (ls' := [(2, 95), (0, ((c : Nat) : Int)), (0, ((D : Nat) : Int)), (0, W), (0, ((s : Nat) : Int)), (0, ((n : Nat) : Int)), (0, ((U : Nat) : Int)), (0, 0), (9, 0), (9, 0)]) (st' := []) (w' := wb) (n' := 142) rfl ?_
  have L7 : ∀ (m9 : Nat) (k : Nat) (w9 : qW), n - k = m9 → (k ≤ n ∧ AW SHM w w9 ∧ w9 95 37 ≤ 8 * (k : Int)) → qG none (d + 1) 262 7 [(2, 95), (0, ((c : Nat) : Int)), (0, ((D : Nat) : Int)), (0, W), (0, ((s : Nat) : Int)), (0, ((n : Nat) : Int)), (0, ((U : Nat) : Int)), (0, ((k : Nat) : Int)), (9, 0), (9, 0)] [] w9 142 Q9 := by
    intro m9
    induction m9 using Nat.strongRecOn with
    | ind m9 ih7 =>
    intro k w9 hm7 hI7
    refine qG.blk 2 (pc' := 11) (ls' := [(2, 95), (0, ((c : Nat) : Int)), (0, ((D : Nat) : Int)), (0, W), (0, ((s : Nat) : Int)), (0, ((n : Nat) : Int)), (0, ((U : Nat) : Int)), (0, ((k : Nat) : Int)), (9, 0), (9, 0)]) (st' := [(0, ((n : Nat) : Int)), (0, ((k : Nat) : Int))]) (w' := w9) (n' := 142) rfl ?_
    refine qG.br (P := ((k : Nat) : Int) < ((n : Nat) : Int)) (pc1 := 14) (pc2 := 66) (st1 := []) rfl (fun h1 => ?_) (fun h1 => ?_)
    · skip
      refine qG.blk 5 (pc' := 21) (ls' := [(2, 95), (0, ((c : Nat) : Int)), (0, ((D : Nat) : Int)), (0, W), (0, ((s : Nat) : Int)), (0, ((n : Nat) : Int)), (0, ((U : Nat) : Int)), (0, ((k : Nat) : Int)), (9, 0), (9, 0)]) (st' := [(2, w9 95 48), (0, 3), (0, ((c : Nat) : Int)), (2, 95)]) (w' := w9) (n' := 142) rfl ?_
      rw [show w9 95 48 = 120 from zref hI7.2.1.1 rfl rfl]
      refine qG.blk 1 (pc' := 23) (ls' := [(2, 95), (0, ((c : Nat) : Int)), (0, ((D : Nat) : Int)), (0, W), (0, ((s : Nat) : Int)), (0, ((n : Nat) : Int)), (0, ((U : Nat) : Int)), (0, ((k : Nat) : Int)), (9, 0), (9, 0)]) (st' := [(0, ((k : Nat) : Int)), (2, 120), (0, 3), (0, ((c : Nat) : Int)), (2, 95)]) (w' := w9) (n' := 142) rfl ?_
      refine qG.ar (P := 0 ≤ ((k : Nat) : Int) ∧ ((k : Nat) : Int) < ((4 : Nat) : Int)) (P2 := 0 < (120 : Int) ∧ (120 : Int) ≤ ((142 : Nat) : Int)) (pc' := 24) (ls' := [(2, 95), (0, ((c : Nat) : Int)), (0, ((D : Nat) : Int)), (0, W), (0, ((s : Nat) : Int)), (0, ((n : Nat) : Int)), (0, ((U : Nat) : Int)), (0, ((k : Nat) : Int)), (9, 0), (9, 0)]) (st' := [(0, w9 120 k), (0, 3), (0, ((c : Nat) : Int)), (2, 95)]) (w' := w9) (n' := 142) rfl (by omega) (by decide) ?_
      have h1202 := hI7.2.1.1.2.1 120 k (0, 9) rfl rfl
      have u1202 : (0 : Int) ≤ w9 120 k := h1202.1
      have v1202 : w9 120 k ≤ (9 : Int) := h1202.2
      have hdn2 : dN 3 (w9 120 k) = 1 := rfl
      refine qG.call (t := 252) (na := 4) (sk := 1) (md := 1) (ls1 := [(2, 95), (0, ((c : Nat) : Int)), (0, 3), (0, w9 120 k), (9, 0), (9, 0)]) (r1 := []) rfl rfl rfl rfl rfl (K_does (by omega) c 3 (w9 120 k) hc ⟨by decide, by decide⟩ ⟨by show (-2147483648 : Int) ≤ _; omega, by show _ ≤ (2147483647 : Int); omega⟩ w9 hI7.2.1.1 (by rw [hdn2]; omega)) ?_
      rintro _ w2 _ ⟨rfl, hw2, rfl⟩
      have hA2 : AW SHM w w2 := hw2 ▸ do_aw hI7.2.1 ⟨by show (-2147483648 : Int) ≤ _; omega, by show _ ≤ (2147483647 : Int); omega⟩ (by rw [hdn2]; omega)
      have hs2 : w2 95 37 ≤ 8 * (k : Int) + (1) := by rw [hw2, doesW_s hI7.2.1.1, hdn2]; omega
      show qG none (d + 1) 262 27 [(2, 95), (0, ((c : Nat) : Int)), (0, ((D : Nat) : Int)), (0, W), (0, ((s : Nat) : Int)), (0, ((n : Nat) : Int)), (0, ((U : Nat) : Int)), (0, ((k : Nat) : Int)), (9, 0), (9, 0)] [] w2 142 Q9
      refine qG.blk 5 (pc' := 34) (ls' := [(2, 95), (0, ((c : Nat) : Int)), (0, ((D : Nat) : Int)), (0, W), (0, ((s : Nat) : Int)), (0, ((n : Nat) : Int)), (0, ((U : Nat) : Int)), (0, ((k : Nat) : Int)), (9, 0), (9, 0)]) (st' := [(2, w2 95 48), (0, 0), (0, ((c : Nat) : Int)), (2, 95)]) (w' := w2) (n' := 142) rfl ?_
      rw [show w2 95 48 = 120 from zref hA2.1 rfl rfl]
      refine qG.blk 1 (pc' := 36) (ls' := [(2, 95), (0, ((c : Nat) : Int)), (0, ((D : Nat) : Int)), (0, W), (0, ((s : Nat) : Int)), (0, ((n : Nat) : Int)), (0, ((U : Nat) : Int)), (0, ((k : Nat) : Int)), (9, 0), (9, 0)]) (st' := [(0, ((k : Nat) : Int)), (2, 120), (0, 0), (0, ((c : Nat) : Int)), (2, 95)]) (w' := w2) (n' := 142) rfl ?_
      refine qG.ar (P := 0 ≤ ((k : Nat) : Int) ∧ ((k : Nat) : Int) < ((4 : Nat) : Int)) (P2 := 0 < (120 : Int) ∧ (120 : Int) ≤ ((142 : Nat) : Int)) (pc' := 37) (ls' := [(2, 95), (0, ((c : Nat) : Int)), (0, ((D : Nat) : Int)), (0, W), (0, ((s : Nat) : Int)), (0, ((n : Nat) : Int)), (0, ((U : Nat) : Int)), (0, ((k : Nat) : Int)), (9, 0), (9, 0)]) (st' := [(0, w2 120 k), (0, 0), (0, ((c : Nat) : Int)), (2, 95)]) (w' := w2) (n' := 142) rfl (by omega) (by decide) ?_
      have h1203 := hA2.1.2.1 120 k (0, 9) rfl rfl
      have u1203 : (0 : Int) ≤ w2 120 k := h1203.1
      have v1203 : w2 120 k ≤ (9 : Int) := h1203.2
      have hdn3 : dN 0 (w2 120 k) = 1 := rfl
      refine qG.call (t := 252) (na := 4) (sk := 1) (md := 1) (ls1 := [(2, 95), (0, ((c : Nat) : Int)), (0, 0), (0, w2 120 k), (9, 0), (9, 0)]) (r1 := []) rfl rfl rfl rfl rfl (K_does (by omega) c 0 (w2 120 k) hc ⟨by decide, by decide⟩ ⟨by show (-2147483648 : Int) ≤ _; omega, by show _ ≤ (2147483647 : Int); omega⟩ w2 hA2.1 (by rw [hdn3]; omega)) ?_
      rintro _ w3 _ ⟨rfl, hw3, rfl⟩
      have hA3 : AW SHM w w3 := hw3 ▸ do_aw hA2 ⟨by show (-2147483648 : Int) ≤ _; omega, by show _ ≤ (2147483647 : Int); omega⟩ (by rw [hdn3]; omega)
      have hs3 : w3 95 37 ≤ 8 * (k : Int) + (2) := by rw [hw3, doesW_s hA2.1, hdn3]; omega
      show qG none (d + 1) 262 40 [(2, 95), (0, ((c : Nat) : Int)), (0, ((D : Nat) : Int)), (0, W), (0, ((s : Nat) : Int)), (0, ((n : Nat) : Int)), (0, ((U : Nat) : Int)), (0, ((k : Nat) : Int)), (9, 0), (9, 0)] [] w3 142 Q9
      refine qG.blk 4 (pc' := 44) (ls' := [(2, 95), (0, ((c : Nat) : Int)), (0, ((D : Nat) : Int)), (0, W), (0, ((s : Nat) : Int)), (0, ((n : Nat) : Int)), (0, ((U : Nat) : Int)), (0, ((k : Nat) : Int)), (9, 0), (9, 0)]) (st' := [(0, W), (0, 2), (0, ((c : Nat) : Int)), (2, 95)]) (w' := w3) (n' := 142) rfl ?_
      have hdn4 : dN 2 (W) = (W).toNat := rfl
      refine qG.call (t := 252) (na := 4) (sk := 1) (md := 1) (ls1 := [(2, 95), (0, ((c : Nat) : Int)), (0, 2), (0, W), (9, 0), (9, 0)]) (r1 := []) rfl rfl rfl rfl rfl (K_does (by omega) c 2 (W) hc ⟨by decide, by decide⟩ ⟨by show (-2147483648 : Int) ≤ _; omega, by show _ ≤ (2147483647 : Int); omega⟩ w3 hA3.1 (by rw [hdn4]; omega)) ?_
      rintro _ w4 _ ⟨rfl, hw4, rfl⟩
      have hA4 : AW SHM w w4 := hw4 ▸ do_aw hA3 ⟨by show (-2147483648 : Int) ≤ _; omega, by show _ ≤ (2147483647 : Int); omega⟩ (by rw [hdn4]; omega)
      have hs4 : w4 95 37 ≤ 8 * (k : Int) + (2 + W) := by rw [hw4, doesW_s hA3.1, hdn4]; omega
      show qG none (d + 1) 262 47 [(2, 95), (0, ((c : Nat) : Int)), (0, ((D : Nat) : Int)), (0, W), (0, ((s : Nat) : Int)), (0, ((n : Nat) : Int)), (0, ((U : Nat) : Int)), (0, ((k : Nat) : Int)), (9, 0), (9, 0)] [] w4 142 Q9
      refine qG.blk 5 (pc' := 54) (ls' := [(2, 95), (0, ((c : Nat) : Int)), (0, ((D : Nat) : Int)), (0, W), (0, ((s : Nat) : Int)), (0, ((n : Nat) : Int)), (0, ((U : Nat) : Int)), (0, ((k : Nat) : Int)), (9, 0), (9, 0)]) (st' := [(2, w4 95 48), (0, 1), (0, ((c : Nat) : Int)), (2, 95)]) (w' := w4) (n' := 142) rfl ?_
      rw [show w4 95 48 = 120 from zref hA4.1 rfl rfl]
      refine qG.blk 1 (pc' := 56) (ls' := [(2, 95), (0, ((c : Nat) : Int)), (0, ((D : Nat) : Int)), (0, W), (0, ((s : Nat) : Int)), (0, ((n : Nat) : Int)), (0, ((U : Nat) : Int)), (0, ((k : Nat) : Int)), (9, 0), (9, 0)]) (st' := [(0, ((k : Nat) : Int)), (2, 120), (0, 1), (0, ((c : Nat) : Int)), (2, 95)]) (w' := w4) (n' := 142) rfl ?_
      refine qG.ar (P := 0 ≤ ((k : Nat) : Int) ∧ ((k : Nat) : Int) < ((4 : Nat) : Int)) (P2 := 0 < (120 : Int) ∧ (120 : Int) ≤ ((142 : Nat) : Int)) (pc' := 57) (ls' := [(2, 95), (0, ((c : Nat) : Int)), (0, ((D : Nat) : Int)), (0, W), (0, ((s : Nat) : Int)), (0, ((n : Nat) : Int)), (0, ((U : Nat) : Int)), (0, ((k : Nat) : Int)), (9, 0), (9, 0)]) (st' := [(0, w4 120 k), (0, 1), (0, ((c : Nat) : Int)), (2, 95)]) (w' := w4) (n' := 142) rfl (by omega) (by decide) ?_
      have h1205 := hA4.1.2.1 120 k (0, 9) rfl rfl
      have u1205 : (0 : Int) ≤ w4 120 k := h1205.1
      have v1205 : w4 120 k ≤ (9 : Int) := h1205.2
      have hdn5 : dN 1 (w4 120 k) = 1 := rfl
      refine qG.call (t := 252) (na := 4) (sk := 1) (md := 1) (ls1 := [(2, 95), (0, ((c : Nat) : Int)), (0, 1), (0, w4 120 k), (9, 0), (9, 0)]) (r1 := []) rfl rfl rfl rfl rfl (K_does (by omega) c 1 (w4 120 k) hc ⟨by decide, by decide⟩ ⟨by show (-2147483648 : Int) ≤ _; omega, by show _ ≤ (2147483647 : Int); omega⟩ w4 hA4.1 (by rw [hdn5]; omega)) ?_
      rintro _ w5 _ ⟨rfl, hw5, rfl⟩
      have hA5 : AW SHM w w5 := hw5 ▸ do_aw hA4 ⟨by show (-2147483648 : Int) ≤ _; omega, by show _ ≤ (2147483647 : Int); omega⟩ (by rw [hdn5]; omega)
      have hs5 : w5 95 37 ≤ 8 * (k : Int) + (3 + W) := by rw [hw5, doesW_s hA4.1, hdn5]; omega
      show qG none (d + 1) 262 60 [(2, 95), (0, ((c : Nat) : Int)), (0, ((D : Nat) : Int)), (0, W), (0, ((s : Nat) : Int)), (0, ((n : Nat) : Int)), (0, ((U : Nat) : Int)), (0, ((k : Nat) : Int)), (9, 0), (9, 0)] [] w5 142 Q9
      refine qG.blk 1 (pc' := 63) (ls' := [(2, 95), (0, ((c : Nat) : Int)), (0, ((D : Nat) : Int)), (0, W), (0, ((s : Nat) : Int)), (0, ((n : Nat) : Int)), (0, ((U : Nat) : Int)), (0, wrp (((k : Nat) : Int) + 1)), (9, 0), (9, 0)]) (st' := []) (w' := w5) (n' := 142) rfl ?_
      rw [show wrp (((k : Nat) : Int) + 1) = ((k + 1 : Nat) : Int) from wrp_id (by omega) (by omega)]
      refine qG.blk 1 (pc' := 7) (ls' := [(2, 95), (0, ((c : Nat) : Int)), (0, ((D : Nat) : Int)), (0, W), (0, ((s : Nat) : Int)), (0, ((n : Nat) : Int)), (0, ((U : Nat) : Int)), (0, ((k + 1 : Nat) : Int)), (9, 0), (9, 0)]) (st' := []) (w' := w5) (n' := 142) rfl ?_
      exact ih7 _ (by omega) (k + 1) (w5) rfl (⟨by omega, hA5, by have := hs5; omega⟩)
    · skip
      refine qG.blk 2 (pc' := 70) (ls' := [(2, 95), (0, ((c : Nat) : Int)), (0, ((D : Nat) : Int)), (0, W), (0, ((s : Nat) : Int)), (0, ((n : Nat) : Int)), (0, ((U : Nat) : Int)), (0, ((k : Nat) : Int)), (9, 0), (9, 0)]) (st' := [(0, w9 95 38)]) (w' := w9) (n' := 142) rfl ?_
      refine qG.call (t := 211) (na := 1) (sk := 0) (md := 0) (ls1 := [(0, w9 95 38), (9, 0), (9, 0)]) (r1 := []) rfl rfl rfl rfl rfl (K_bits (Nat.zero_le _) (w9 95 38) _) ?_
      rintro _ w7 _ ⟨rfl, hw7, rfl⟩
      rw [hw7]
      show qG none (d + 1) 262 73 [(2, 95), (0, ((c : Nat) : Int)), (0, ((D : Nat) : Int)), (0, W), (0, ((s : Nat) : Int)), (0, ((n : Nat) : Int)), (0, ((U : Nat) : Int)), (0, ((k : Nat) : Int)), (9, 0), (9, 0)] [(0, bitsF (w9 95 38) 16)] w9 142 Q9
      refine qG.blk 4 (pc' := 80) (ls' := [(2, 95), (0, ((c : Nat) : Int)), (0, ((D : Nat) : Int)), (0, W), (0, ((s : Nat) : Int)), (0, ((n : Nat) : Int)), (0, ((U : Nat) : Int)), (0, bitsF (w9 95 38) 16), (9, 0), (9, 0)]) (st' := [(0, (-1)), (0, w9 95 50)]) (w' := w9) (n' := 142) rfl ?_
      refine qG.br (P := w9 95 50 = (-1)) (pc1 := 110) (pc2 := 83) (st1 := []) rfl (fun h6 => ?_) (fun h6 => ?_)
      · skip
        refine qG.blk 3 (pc' := 117) (ls' := [(2, 95), (0, ((c : Nat) : Int)), (0, ((D : Nat) : Int)), (0, W), (0, ((s : Nat) : Int)), (0, ((n : Nat) : Int)), (0, ((U : Nat) : Int)), (0, bitsF (w9 95 38) 16), (0, 1), (9, 0)]) (st' := []) (w' := w9) (n' := 142) rfl ?_
        subst hQ9
        exact qG.mono (K_tr117 n hn IH hd c s W D U hc hD hW hk hU hpc (bitsF (w9 95 38) 16) 1 (bitsF_in _ 16) (9, 0) w9 hI7.2.1.1 (hS.aw hI7.2.1 rfl (by decide) (by decide))) (fun _ _ _ hh => TQ.tr (hI7.2.1.mono (by decide +kernel)) hh)
      · skip
        refine qG.blk 3 (pc' := 89) (ls' := [(2, 95), (0, ((c : Nat) : Int)), (0, ((D : Nat) : Int)), (0, W), (0, ((s : Nat) : Int)), (0, ((n : Nat) : Int)), (0, ((U : Nat) : Int)), (0, bitsF (w9 95 38) 16), (9, 0), (9, 0)]) (st' := [(0, w9 95 51), (0, bitsF (w9 95 38) 16)]) (w' := w9) (n' := 142) rfl ?_
        refine qG.br (P := w9 95 51 < bitsF (w9 95 38) 16) (pc1 := 110) (pc2 := 92) (st1 := []) rfl (fun h7 => ?_) (fun h7 => ?_)
        · skip
          refine qG.blk 3 (pc' := 117) (ls' := [(2, 95), (0, ((c : Nat) : Int)), (0, ((D : Nat) : Int)), (0, W), (0, ((s : Nat) : Int)), (0, ((n : Nat) : Int)), (0, ((U : Nat) : Int)), (0, bitsF (w9 95 38) 16), (0, 1), (9, 0)]) (st' := []) (w' := w9) (n' := 142) rfl ?_
          subst hQ9
          exact qG.mono (K_tr117 n hn IH hd c s W D U hc hD hW hk hU hpc (bitsF (w9 95 38) 16) 1 (bitsF_in _ 16) (9, 0) w9 hI7.2.1.1 (hS.aw hI7.2.1 rfl (by decide) (by decide))) (fun _ _ _ hh => TQ.tr (hI7.2.1.mono (by decide +kernel)) hh)
        · skip
          refine qG.blk 3 (pc' := 98) (ls' := [(2, 95), (0, ((c : Nat) : Int)), (0, ((D : Nat) : Int)), (0, W), (0, ((s : Nat) : Int)), (0, ((n : Nat) : Int)), (0, ((U : Nat) : Int)), (0, bitsF (w9 95 38) 16), (9, 0), (9, 0)]) (st' := [(0, w9 95 51), (0, bitsF (w9 95 38) 16)]) (w' := w9) (n' := 142) rfl ?_
          refine qG.br (P := bitsF (w9 95 38) 16 = w9 95 51) (pc1 := 101) (pc2 := 114) (st1 := []) rfl (fun h8 => ?_) (fun h8 => ?_)
          · skip
            refine qG.blk 3 (pc' := 107) (ls' := [(2, 95), (0, ((c : Nat) : Int)), (0, ((D : Nat) : Int)), (0, W), (0, ((s : Nat) : Int)), (0, ((n : Nat) : Int)), (0, ((U : Nat) : Int)), (0, bitsF (w9 95 38) 16), (9, 0), (9, 0)]) (st' := [(0, w9 95 50), (0, ((n : Nat) : Int))]) (w' := w9) (n' := 142) rfl ?_
            refine qG.br (P := ((n : Nat) : Int) < w9 95 50) (pc1 := 110) (pc2 := 114) (st1 := []) rfl (fun h9 => ?_) (fun h9 => ?_)
            · skip
              refine qG.blk 3 (pc' := 117) (ls' := [(2, 95), (0, ((c : Nat) : Int)), (0, ((D : Nat) : Int)), (0, W), (0, ((s : Nat) : Int)), (0, ((n : Nat) : Int)), (0, ((U : Nat) : Int)), (0, bitsF (w9 95 38) 16), (0, 1), (9, 0)]) (st' := []) (w' := w9) (n' := 142) rfl ?_
              subst hQ9
              exact qG.mono (K_tr117 n hn IH hd c s W D U hc hD hW hk hU hpc (bitsF (w9 95 38) 16) 1 (bitsF_in _ 16) (9, 0) w9 hI7.2.1.1 (hS.aw hI7.2.1 rfl (by decide) (by decide))) (fun _ _ _ hh => TQ.tr (hI7.2.1.mono (by decide +kernel)) hh)
            · skip
              refine qG.blk 2 (pc' := 117) (ls' := [(2, 95), (0, ((c : Nat) : Int)), (0, ((D : Nat) : Int)), (0, W), (0, ((s : Nat) : Int)), (0, ((n : Nat) : Int)), (0, ((U : Nat) : Int)), (0, bitsF (w9 95 38) 16), (0, 0), (9, 0)]) (st' := []) (w' := w9) (n' := 142) rfl ?_
              subst hQ9
              exact qG.mono (K_tr117 n hn IH hd c s W D U hc hD hW hk hU hpc (bitsF (w9 95 38) 16) 0 (bitsF_in _ 16) (9, 0) w9 hI7.2.1.1 (hS.aw hI7.2.1 rfl (by decide) (by decide))) (fun _ _ _ hh => TQ.tr (hI7.2.1.mono (by decide +kernel)) hh)
          · skip
            refine qG.blk 2 (pc' := 117) (ls' := [(2, 95), (0, ((c : Nat) : Int)), (0, ((D : Nat) : Int)), (0, W), (0, ((s : Nat) : Int)), (0, ((n : Nat) : Int)), (0, ((U : Nat) : Int)), (0, bitsF (w9 95 38) 16), (0, 0), (9, 0)]) (st' := []) (w' := w9) (n' := 142) rfl ?_
            subst hQ9
            exact qG.mono (K_tr117 n hn IH hd c s W D U hc hD hW hk hU hpc (bitsF (w9 95 38) 16) 0 (bitsF_in _ 16) (9, 0) w9 hI7.2.1.1 (hS.aw hI7.2.1 rfl (by decide) (by decide))) (fun _ _ _ hh => TQ.tr (hI7.2.1.mono (by decide +kernel)) hh)
  exact L7 _ (0) (wb) rfl (⟨by omega, hAb, by rw [hsb]; decide⟩)
theorem TR_4 : TRs 4 := fun d w c s W D U hd hc hD hW hk hU hpc hI hS => K_tr0 4 (by decide) (fun h => absurd h (by decide)) hd c s W D U hc hD hW hk hU hpc w hI hS
theorem TR_3 : TRs 3 := fun d w c s W D U hd hc hD hW hk hU hpc hI hS => K_tr0 3 (by decide) (fun h => TR_4) hd c s W D U hc hD hW hk hU hpc w hI hS
theorem TR_2 : TRs 2 := fun d w c s W D U hd hc hD hW hk hU hpc hI hS => K_tr0 2 (by decide) (fun h => TR_3) hd c s W D U hc hD hW hk hU hpc w hI hS
theorem TR_1 : TRs 1 := fun d w c s W D U hd hc hD hW hk hU hpc hI hS => K_tr0 1 (by decide) (fun h => TR_2) hd c s W D U hc hD hW hk hU hpc w hI hS
theorem TR_0 : TRs 0 := fun d w c s W D U hd hc hD hW hk hU hpc hI hS => K_tr0 0 (by decide) (fun h => TR_1) hd c s W D U hc hD hW hk hU hpc w hI hS
theorem trD_0 : ∀ D : Nat, D < 1024 → pc (trX D 0) 10 = pc D 16 := by decide +kernel
theorem K_order {d : Nat} (hd : 22 ≤ d) (c D W s v : Int) (w : qW) (hI : yInv zgf zga zra zSp w) (hS : S3 w) : qG none d 263 0 [(2, 95), (0, c), (0, D), (0, W), (0, s), (0, v)] [] w 142 (SQ TRM w) := by
  generalize hQ9 : (SQ TRM w) = Q9
  obtain ⟨d, rfl⟩ : ∃ d9, d = d9 + 1 := ⟨d - 1, by omega⟩
  refine qG.blk 1 (pc' := 1) (ls' := [(2, 95), (0, c), (0, D), (0, W), (0, s), (0, v)]) (st' := [(0, c)]) (w' := w) (n' := 142) rfl ?_
  refine qG.call (t := 207) (na := 1) (sk := 0) (md := 0) (ls1 := [(0, c)]) (r1 := []) rfl rfl rfl rfl rfl (K_isChest (by omega) _ _) ?_
  rintro _ w7 _ ⟨rfl, hw7, rfl⟩
  rw [hw7]
  show qG none (d + 1) 263 4 [(2, 95), (0, c), (0, D), (0, W), (0, s), (0, v)] [(0, isInV c 0 2)] w 142 Q9
  refine qG.br (P := isInV c 0 2 = 0) (pc1 := 53) (pc2 := 7) (st1 := []) rfl (fun hc0 => ?_) (fun hc0 => ?_)
  · skip
    refine qG.blk 1 (pc' := 54) (ls' := [(2, 95), (0, c), (0, D), (0, W), (0, s), (0, v)]) (st' := [(0, (-1))]) (w' := w) (n' := 142) rfl ?_
    refine qG.ret rfl rfl ?_
    subst hQ9
    first | exact SQ.rf hI hS | exact SQ.mk' hA1 (by decide +kernel) hS1
  · skip
    obtain ⟨c9, rfl, hlc9, huc9⟩ := isIn_n (by decide) hc0
    refine qG.blk 3 (pc' := 12) (ls' := [(2, 95), (0, ((c9 : Nat) : Int)), (0, D), (0, W), (0, s), (0, v)]) (st' := [(0, 1023), (0, 0), (0, D)]) (w' := w) (n' := 142) rfl ?_
    refine qG.call (t := 206) (na := 3) (sk := 0) (md := 0) (ls1 := [(0, D), (0, 0), (0, 1023)]) (r1 := []) rfl rfl rfl rfl rfl (K_isIn (Nat.zero_le _) _ _ _ _) ?_
    rintro _ w7 _ ⟨rfl, hw7, rfl⟩
    rw [hw7]
    show qG none (d + 1) 263 15 [(2, 95), (0, ((c9 : Nat) : Int)), (0, D), (0, W), (0, s), (0, v)] [(0, isInV (D) (0) (1023))] w 142 Q9
    refine qG.br (P := isInV (D) (0) (1023) = 0) (pc1 := 53) (pc2 := 18) (st1 := []) rfl (fun hD0 => ?_) (fun hD0 => ?_)
    · skip
      refine qG.blk 1 (pc' := 54) (ls' := [(2, 95), (0, ((c9 : Nat) : Int)), (0, D), (0, W), (0, s), (0, v)]) (st' := [(0, (-1))]) (w' := w) (n' := 142) rfl ?_
      refine qG.ret rfl rfl ?_
      subst hQ9
      first | exact SQ.rf hI hS | exact SQ.mk' hA1 (by decide +kernel) hS1
    · skip
      obtain ⟨D9, rfl, hlD9, huD9⟩ := isIn_n (by decide) hD0
      refine qG.blk 1 (pc' := 19) (ls' := [(2, 95), (0, ((c9 : Nat) : Int)), (0, ((D9 : Nat) : Int)), (0, W), (0, s), (0, v)]) (st' := [(0, ((D9 : Nat) : Int))]) (w' := w) (n' := 142) rfl ?_
      refine qG.call (t := 211) (na := 1) (sk := 0) (md := 0) (ls1 := [(0, ((D9 : Nat) : Int)), (9, 0), (9, 0)]) (r1 := []) rfl rfl rfl rfl rfl (K_bits (Nat.zero_le _) (((D9 : Nat) : Int)) _) ?_
      rintro _ w7 _ ⟨rfl, hw7, rfl⟩
      rw [hw7]
      show qG none (d + 1) 263 22 [(2, 95), (0, ((c9 : Nat) : Int)), (0, ((D9 : Nat) : Int)), (0, W), (0, s), (0, v)] [(0, bitsF (((D9 : Nat) : Int)) 16)] w 142 Q9
      refine qG.blk 1 (pc' := 23) (ls' := [(2, 95), (0, ((c9 : Nat) : Int)), (0, ((D9 : Nat) : Int)), (0, W), (0, s), (0, v)]) (st' := [(0, 4), (0, bitsF (((D9 : Nat) : Int)) 16)]) (w' := w) (n' := 142) rfl ?_
      refine qG.br (P := 4 < bitsF (((D9 : Nat) : Int)) 16) (pc1 := 53) (pc2 := 26) (st1 := []) rfl (fun hb4 => ?_) (fun hb4 => ?_)
      · skip
        refine qG.blk 1 (pc' := 54) (ls' := [(2, 95), (0, ((c9 : Nat) : Int)), (0, ((D9 : Nat) : Int)), (0, W), (0, s), (0, v)]) (st' := [(0, (-1))]) (w' := w) (n' := 142) rfl ?_
        refine qG.ret rfl rfl ?_
        subst hQ9
        first | exact SQ.rf hI hS | exact SQ.mk' hA1 (by decide +kernel) hS1
      · skip
        refine qG.blk 3 (pc' := 29) (ls' := [(2, 95), (0, ((c9 : Nat) : Int)), (0, ((D9 : Nat) : Int)), (0, W), (0, s), (0, v)]) (st' := [(0, 5), (0, 1), (0, W)]) (w' := w) (n' := 142) rfl ?_
        refine qG.call (t := 206) (na := 3) (sk := 0) (md := 0) (ls1 := [(0, W), (0, 1), (0, 5)]) (r1 := []) rfl rfl rfl rfl rfl (K_isIn (Nat.zero_le _) _ _ _ _) ?_
        rintro _ w7 _ ⟨rfl, hw7, rfl⟩
        rw [hw7]
        show qG none (d + 1) 263 32 [(2, 95), (0, ((c9 : Nat) : Int)), (0, ((D9 : Nat) : Int)), (0, W), (0, s), (0, v)] [(0, isInV (W) (1) (5))] w 142 Q9
        refine qG.br (P := isInV (W) (1) (5) = 0) (pc1 := 53) (pc2 := 35) (st1 := []) rfl (fun hW0 => ?_) (fun hW0 => ?_)
        · skip
          refine qG.blk 1 (pc' := 54) (ls' := [(2, 95), (0, ((c9 : Nat) : Int)), (0, ((D9 : Nat) : Int)), (0, W), (0, s), (0, v)]) (st' := [(0, (-1))]) (w' := w) (n' := 142) rfl ?_
          refine qG.ret rfl rfl ?_
          subst hQ9
          first | exact SQ.rf hI hS | exact SQ.mk' hA1 (by decide +kernel) hS1
        · skip
          obtain ⟨W8, hW8, hlW8, huW8⟩ := isIn_n (by decide) hW0
          have hW9 : 1 ≤ W ∧ W ≤ 5 := ⟨by omega, by omega⟩
          refine qG.blk 1 (pc' := 37) (ls' := [(2, 95), (0, ((c9 : Nat) : Int)), (0, ((D9 : Nat) : Int)), (0, W), (0, s), (0, v)]) (st' := [(0, s)]) (w' := w) (n' := 142) rfl ?_
          refine qG.call (t := 210) (na := 1) (sk := 0) (md := 0) (ls1 := [(0, s)]) (r1 := []) rfl rfl rfl rfl rfl (K_isSize (by omega) _ _) ?_
          rintro _ w7 _ ⟨rfl, hw7, rfl⟩
          rw [hw7]
          show qG none (d + 1) 263 40 [(2, 95), (0, ((c9 : Nat) : Int)), (0, ((D9 : Nat) : Int)), (0, W), (0, s), (0, v)] [(0, isInV s 1 4)] w 142 Q9
          refine qG.br (P := isInV s 1 4 = 0) (pc1 := 53) (pc2 := 43) (st1 := []) rfl (fun hs0 => ?_) (fun hs0 => ?_)
          · skip
            refine qG.blk 1 (pc' := 54) (ls' := [(2, 95), (0, ((c9 : Nat) : Int)), (0, ((D9 : Nat) : Int)), (0, W), (0, s), (0, v)]) (st' := [(0, (-1))]) (w' := w) (n' := 142) rfl ?_
            refine qG.ret rfl rfl ?_
            subst hQ9
            first | exact SQ.rf hI hS | exact SQ.mk' hA1 (by decide +kernel) hS1
          · skip
            obtain ⟨s9, rfl, hls9, hus9⟩ := isIn_n (by decide) hs0
            refine qG.blk 3 (pc' := 47) (ls' := [(2, 95), (0, ((c9 : Nat) : Int)), (0, ((D9 : Nat) : Int)), (0, W), (0, ((s9 : Nat) : Int)), (0, v)]) (st' := [(0, 5), (0, 0), (0, v)]) (w' := w) (n' := 142) rfl ?_
            refine qG.call (t := 206) (na := 3) (sk := 0) (md := 0) (ls1 := [(0, v), (0, 0), (0, 5)]) (r1 := []) rfl rfl rfl rfl rfl (K_isIn (Nat.zero_le _) _ _ _ _) ?_
            rintro _ w7 _ ⟨rfl, hw7, rfl⟩
            rw [hw7]
            show qG none (d + 1) 263 50 [(2, 95), (0, ((c9 : Nat) : Int)), (0, ((D9 : Nat) : Int)), (0, W), (0, ((s9 : Nat) : Int)), (0, v)] [(0, isInV (v) (0) (5))] w 142 Q9
            refine qG.br (P := isInV (v) (0) (5) = 0) (pc1 := 53) (pc2 := 55) (st1 := []) rfl (fun hv0 => ?_) (fun hv0 => ?_)
            · skip
              refine qG.blk 1 (pc' := 54) (ls' := [(2, 95), (0, ((c9 : Nat) : Int)), (0, ((D9 : Nat) : Int)), (0, W), (0, ((s9 : Nat) : Int)), (0, v)]) (st' := [(0, (-1))]) (w' := w) (n' := 142) rfl ?_
              refine qG.ret rfl rfl ?_
              subst hQ9
              first | exact SQ.rf hI hS | exact SQ.mk' hA1 (by decide +kernel) hS1
            · skip
              obtain ⟨v9, rfl, hlv9, huv9⟩ := isIn_n (by decide) hv0
              have hAq : AW TRM w (qup w 95 50 (-1)) := (AW.rf hI).upd (by decide) rfl (zup_f hI (b := (-1, 4)) rfl rfl rfl ⟨by decide, by decide⟩)
              have hSq : S3 (qup w 95 50 (-1)) := hS.cong (qup_j (by decide)) (fun i => by rw [qup_ne (by decide)]) (fun i => by rw [qup_ne (by decide)])
              refine qG.blk 10 (pc' := 68) (ls' := [(2, 95), (0, ((c9 : Nat) : Int)), (0, ((D9 : Nat) : Int)), (0, W), (0, ((s9 : Nat) : Int)), (0, ((v9 : Nat) : Int))]) (st' := [(0, 0), (0, 0), (0, ((s9 : Nat) : Int)), (0, W), (0, ((D9 : Nat) : Int)), (0, ((c9 : Nat) : Int)), (2, 95)]) (w' := (qup w 95 50 (-1))) (n' := 142) rfl ?_
              refine qG.call (t := 262) (na := 7) (sk := 1) (md := 1) (ls1 := [(2, 95), (0, ((c9 : Nat) : Int)), (0, ((D9 : Nat) : Int)), (0, W), (0, ((s9 : Nat) : Int)), (0, 0), (0, 0), (9, 0), (9, 0), (9, 0)]) (r1 := []) rfl rfl rfl rfl rfl ((TR_0 d (qup w 95 50 (-1)) c9 s9 W D9 0 (by omega) (by omega) (by omega) hW9 ⟨by omega, by omega⟩ (by decide) (by rw [trD_0 D9 (by omega)]; rw [bitsF_pc (by omega) 16 (by decide)] at hb4; omega) hAq.1 hSq : qG none d 262 0 [(2, 95), (0, ((c9 : Nat) : Int)), (0, ((D9 : Nat) : Int)), (0, W), (0, ((s9 : Nat) : Int)), (0, 0), (0, 0), (9, 0), (9, 0), (9, 0)] [] (qup w 95 50 (-1)) 142 _)) ?_
              rintro _ w1 _ ⟨rfl, rfl, hA1q, hS1⟩
              have hA1 := hAq.tr hA1q (by decide +kernel)
              have h50 := zfld hA1.1 (j := 50) (b := (-1, 4)) rfl
              have b50 : w1 95 50 ≤ (4 : Int) := h50.2
              show qG none (d + 1) 263 71 [(2, 95), (0, ((c9 : Nat) : Int)), (0, ((D9 : Nat) : Int)), (0, W), (0, ((s9 : Nat) : Int)), (0, ((v9 : Nat) : Int))] [] w1 142 Q9
              refine qG.blk 3 (pc' := 76) (ls' := [(2, 95), (0, ((c9 : Nat) : Int)), (0, ((D9 : Nat) : Int)), (0, W), (0, ((s9 : Nat) : Int)), (0, ((v9 : Nat) : Int))]) (st' := [(0, (-1)), (0, w1 95 50)]) (w' := w1) (n' := 142) rfl ?_
              refine qG.br (P := w1 95 50 = (-1)) (pc1 := 79) (pc2 := 81) (st1 := []) rfl (fun h1 => ?_) (fun h1 => ?_)
              · skip
                refine qG.blk 1 (pc' := 80) (ls' := [(2, 95), (0, ((c9 : Nat) : Int)), (0, ((D9 : Nat) : Int)), (0, W), (0, ((s9 : Nat) : Int)), (0, ((v9 : Nat) : Int))]) (st' := [(0, (-1))]) (w' := w1) (n' := 142) rfl ?_
                refine qG.ret rfl rfl ?_
                subst hQ9
                first | exact SQ.rf hI hS | exact SQ.mk' hA1 (by decide +kernel) hS1
              · skip
                refine qG.blk 1 (pc' := 83) (ls' := [(2, 95), (0, ((c9 : Nat) : Int)), (0, ((D9 : Nat) : Int)), (0, W), (0, ((s9 : Nat) : Int)), (0, ((v9 : Nat) : Int))]) (st' := [(0, ((v9 : Nat) : Int))]) (w' := w1) (n' := 142) rfl ?_
                refine qG.br (P := ((v9 : Nat) : Int) = 0) (pc1 := 86) (pc2 := 93) (st1 := []) rfl (fun hv1 => ?_) (fun hv1 => ?_)
                · skip
                  refine qG.blk 3 (pc' := 130) (ls' := [(2, 95), (0, ((c9 : Nat) : Int)), (0, ((D9 : Nat) : Int)), (0, W), (0, ((s9 : Nat) : Int)), (0, ((v9 : Nat) : Int))]) (st' := [(0, w1 95 51)]) (w' := w1) (n' := 142) rfl ?_
                  refine qG.ret rfl rfl ?_
                  subst hQ9
                  first | exact SQ.rf hI hS | exact SQ.mk' hA1 (by decide +kernel) hS1
                · skip
                  refine qG.blk 2 (pc' := 96) (ls' := [(2, 95), (0, ((c9 : Nat) : Int)), (0, ((D9 : Nat) : Int)), (0, W), (0, ((s9 : Nat) : Int)), (0, ((v9 : Nat) : Int))]) (st' := [(0, 1), (0, ((v9 : Nat) : Int))]) (w' := w1) (n' := 142) rfl ?_
                  refine qG.br (P := ((v9 : Nat) : Int) = 1) (pc1 := 99) (pc2 := 106) (st1 := []) rfl (fun hv2 => ?_) (fun hv2 => ?_)
                  · skip
                    refine qG.blk 3 (pc' := 130) (ls' := [(2, 95), (0, ((c9 : Nat) : Int)), (0, ((D9 : Nat) : Int)), (0, W), (0, ((s9 : Nat) : Int)), (0, ((v9 : Nat) : Int))]) (st' := [(0, w1 95 50)]) (w' := w1) (n' := 142) rfl ?_
                    refine qG.ret rfl rfl ?_
                    subst hQ9
                    first | exact SQ.rf hI hS | exact SQ.mk' hA1 (by decide +kernel) hS1
                  · skip
                    refine qG.blk 3 (pc' := 110) (ls' := [(2, 95), (0, ((c9 : Nat) : Int)), (0, ((D9 : Nat) : Int)), (0, W), (0, ((s9 : Nat) : Int)), (0, ((v9 : Nat) : Int))]) (st' := [(0, wrp (((v9 : Nat) : Int) - 2))]) (w' := w1) (n' := 142) rfl ?_
                    rw [show wrp (((v9 : Nat) : Int) - 2) = ((v9 - 2 : Nat) : Int) from by rw [wrp_id (by omega) (by omega)]; omega]
                    refine qG.blk 2 (pc' := 114) (ls' := [(2, 95), (0, ((c9 : Nat) : Int)), (0, ((D9 : Nat) : Int)), (0, W), (0, ((s9 : Nat) : Int)), (0, ((v9 : Nat) : Int))]) (st' := [(0, w1 95 50), (0, ((v9 - 2 : Nat) : Int))]) (w' := w1) (n' := 142) rfl ?_
                    refine qG.br (P := ((v9 - 2 : Nat) : Int) < w1 95 50) (pc1 := 117) (pc2 := 129) (st1 := []) rfl (fun h2 => ?_) (fun h2 => ?_)
                    · skip
                      refine qG.blk 2 (pc' := 121) (ls' := [(2, 95), (0, ((c9 : Nat) : Int)), (0, ((D9 : Nat) : Int)), (0, W), (0, ((s9 : Nat) : Int)), (0, ((v9 : Nat) : Int))]) (st' := [(2, w1 95 49)]) (w' := w1) (n' := 142) rfl ?_
                      rw [show w1 95 49 = 121 from zref hA1.1 rfl rfl]
                      refine qG.blk 3 (pc' := 125) (ls' := [(2, 95), (0, ((c9 : Nat) : Int)), (0, ((D9 : Nat) : Int)), (0, W), (0, ((s9 : Nat) : Int)), (0, ((v9 : Nat) : Int))]) (st' := [(0, wrp (((v9 : Nat) : Int) - 2)), (2, 121)]) (w' := w1) (n' := 142) rfl ?_
                      rw [show wrp (((v9 : Nat) : Int) - 2) = ((v9 - 2 : Nat) : Int) from by rw [wrp_id (by omega) (by omega)]; omega]
                      refine qG.ar (P := 0 ≤ ((v9 - 2 : Nat) : Int) ∧ ((v9 - 2 : Nat) : Int) < ((4 : Nat) : Int)) (P2 := 0 < (121 : Int) ∧ (121 : Int) ≤ ((142 : Nat) : Int)) (pc' := 126) (ls' := [(2, 95), (0, ((c9 : Nat) : Int)), (0, ((D9 : Nat) : Int)), (0, W), (0, ((s9 : Nat) : Int)), (0, ((v9 : Nat) : Int))]) (st' := [(0, w1 121 (v9 - 2))]) (w' := w1) (n' := 142) rfl (by omega) (by decide) ?_
                      refine qG.blk 1 (pc' := 130) (ls' := [(2, 95), (0, ((c9 : Nat) : Int)), (0, ((D9 : Nat) : Int)), (0, W), (0, ((s9 : Nat) : Int)), (0, ((v9 : Nat) : Int))]) (st' := [(0, w1 121 (v9 - 2))]) (w' := w1) (n' := 142) rfl ?_
                      refine qG.ret rfl rfl ?_
                      subst hQ9
                      first | exact SQ.rf hI hS | exact SQ.mk' hA1 (by decide +kernel) hS1
                    · skip
                      refine qG.blk 1 (pc' := 130) (ls' := [(2, 95), (0, ((c9 : Nat) : Int)), (0, ((D9 : Nat) : Int)), (0, W), (0, ((s9 : Nat) : Int)), (0, ((v9 : Nat) : Int))]) (st' := [(0, (-1))]) (w' := w1) (n' := 142) rfl ?_
                      refine qG.ret rfl rfl ?_
                      subst hQ9
                      first | exact SQ.rf hI hS | exact SQ.mk' hA1 (by decide +kernel) hS1
end
section
/-! the reference's all: it ends -/
noncomputable def ALM : List Nat := [137]
theorem qcmp_p {x y : Int} : 0 < qcmp x y ↔ y < x := by unfold qcmp; split <;> (try split) <;> constructor <;> intro h <;> omega
theorem qcmp_z {x y : Int} : qcmp x y = 0 ↔ x = y := by unfold qcmp; split <;> (try split) <;> constructor <;> intro h <;> omega
theorem qldiv_k {x : Int} (h0 : 0 ≤ x) (h1 : x ≤ 891000000000) : qldiv x 1000 = x / 1000 := by
  unfold qldiv
  rw [Int.tdiv_eq_ediv_of_nonneg h0, wrl_id (by omega) (by omega)]
/-- the products so far -/
noncomputable def PW9 (w w9 : qW) (M : Nat) (t : Int) : Prop := AW ALM w w9 ∧ ∀ j : Nat, j < M → 0 ≤ w9 137 j ∧ w9 137 j ≤ t
noncomputable def PX9 (w w9 : qW) (M k : Nat) (s t : Int) : Prop := AW ALM w w9 ∧ (∀ j : Nat, j < k → 0 ≤ w9 137 j ∧ w9 137 j ≤ s) ∧ (∀ j : Nat, k ≤ j → j < M → 0 ≤ w9 137 j ∧ w9 137 j ≤ t)
theorem PX9.up {w w9 : qW} {M k : Nat} {s t v : Int} (h : PX9 w w9 M k s t) (h0 : 0 ≤ v) (h1 : v ≤ s) (h2 : s ≤ 891000000000) : PX9 w (qup w9 137 k v) M (k + 1) s t := by
  refine ⟨⟨zup_a h.1.1 (b := (-9223372036854775808, 9223372036854775807)) rfl rfl ⟨by show (-9223372036854775808 : Int) ≤ _; omega, by show _ ≤ (9223372036854775807 : Int); omega⟩, fun p j hp => ?_⟩, fun j hj => ?_, fun j hj hM => ?_⟩
  · rw [qup_ne (fun z => by have := hp (by omega); rw [z] at this; cases this)]
    exact h.1.2 p j hp
  · by_cases e : j = k
    · rw [e, qup_k]; exact ⟨h0, h1⟩
    · rw [qup_j e]; exact h.2.1 j (by omega)
  · rw [qup_j (by omega)]; exact h.2.2 j (by omega) hM
theorem PX9.fin {w w9 : qW} {M k : Nat} {s t : Int} (h : PX9 w w9 M k s t) (hk : k = M) : PW9 w w9 M s := ⟨h.1, fun j hj => h.2.1 j (by omega)⟩
theorem PW9.ini {w w9 : qW} {M : Nat} {s t : Int} (h : PW9 w w9 M t) : PX9 w w9 M 0 s t := ⟨h.1, fun j hj => absurd hj (Nat.not_lt_zero j), fun j _ hM => h.2 j hM⟩
theorem mul_b {x y : Int} (h0 : 0 ≤ x) (h1 : x ≤ 1000000000) (k0 : 0 ≤ y) (k1 : y ≤ 891) : 0 ≤ x * y ∧ x * y ≤ 891000000000 := by
  refine ⟨Int.mul_nonneg h0 k0, ?_⟩
  have := Int.mul_le_mul h1 k1 k0 (show (0 : Int) ≤ 1000000000 by decide)
  exact this
theorem K_isMaster {d : Nat} (hd : 1 ≤ d) (m : Int) (w : qW) (hI : yInv zgf zga zra zSp w) : qG none d 279 0 [(2, 95), (0, m)] [] w 142 (fun (r : qV) (w1 : qW) (n1 : Nat) => r = (0, isInV m 0 (w 95 55 - 1)) ∧ w1 = w ∧ n1 = 142) := by
  generalize hQ9 : (fun (r : qV) (w1 : qW) (n1 : Nat) => r = (0, isInV m 0 (w 95 55 - 1)) ∧ w1 = w ∧ n1 = 142) = Q9
  have h55 := zfld hI (j := 55) (b := (0, 12)) rfl
  have a55 : (0 : Int) ≤ w 95 55 := h55.1
  have b55 : w 95 55 ≤ (12 : Int) := h55.2
  obtain ⟨d, rfl⟩ : ∃ d9, d = d9 + 1 := ⟨d - 1, by omega⟩
  refine qG.blk 6 (pc' := 8) (ls' := [(2, 95), (0, m)]) (st' := [(0, wrp ((w 95 55) - 1)), (0, 0), (0, m)]) (w' := w) (n' := 142) rfl ?_
  rw [show wrp ((w 95 55) - 1) = (w 95 55) - 1 from wrp_id (by omega) (by omega)]
  refine qG.call (t := 206) (na := 3) (sk := 0) (md := 0) (ls1 := [(0, m), (0, 0), (0, (w 95 55) - 1)]) (r1 := []) rfl rfl rfl rfl rfl (K_isIn (Nat.zero_le _) _ _ _ _) ?_
  rintro _ w7 _ ⟨rfl, hw7, rfl⟩
  rw [hw7]
  show qG none (d + 1) 279 11 [(2, 95), (0, m)] [(0, isInV (m) (0) ((w 95 55) - 1))] w 142 Q9
  refine qG.ret rfl (by have q9 := isInV_01 m 0 (w 95 55 - 1); exact decide_eq_true (by omega)) ?_
  subst hQ9
  exact ⟨rfl, rfl, rfl⟩
theorem px_s {w : qW} {k : Nat} {v t : Int} (h : ∀ j : Nat, j < k → w 137 j ≤ t) (hv : v ≤ t) : ∀ j : Nat, j < k + 1 → qup w 137 k v 137 j ≤ t := fun j hj => by
  by_cases e : j = k
  · rw [e, qup_k]; exact hv
  · rw [qup_j e]; exact h j (by omega)
theorem K_all {d : Nat} (hd : 4 ≤ d) (a b m : Int) (w : qW) (hI : yInv zgf zga zra zSp w) : qG none d 287 0 [(2, 95), (0, a), (0, b), (0, m), (9, 0), (9, 0), (9, 0)] [] w 142 (fun (r : qV) (w1 : qW) (n1 : Nat) => n1 = 142 ∧ (∃ x, r = (0, x)) ∧ AW ALM w w1) := by
  generalize hQ9 : (fun (r : qV) (w1 : qW) (n1 : Nat) => n1 = 142 ∧ (∃ x, r = (0, x)) ∧ AW ALM w w1) = Q9
  have h55 := zfld hI (j := 55) (b := (0, 12)) rfl
  have a55 : (0 : Int) ≤ w 95 55 := h55.1
  have b55 : w 95 55 ≤ (12 : Int) := h55.2
  have h57 := zfld hI (j := 57) (b := (0, 60)) rfl
  have a57 : (0 : Int) ≤ w 95 57 := h57.1
  have b57 : w 95 57 ≤ (60 : Int) := h57.2
  obtain ⟨M, hM⟩ : ∃ M : Nat, w 95 55 = (M : Int) := ⟨(w 95 55).toNat, by omega⟩
  obtain ⟨d, rfl⟩ : ∃ d9, d = d9 + 1 := ⟨d - 1, by omega⟩
  refine qG.blk 6 (pc' := 8) (ls' := [(2, 95), (0, a), (0, b), (0, m), (9, 0), (9, 0), (9, 0)]) (st' := [(0, wrp ((w 95 57) - 1)), (0, 0), (0, a)]) (w' := w) (n' := 142) rfl ?_
  rw [show wrp ((w 95 57) - 1) = (w 95 57) - 1 from wrp_id (by omega) (by omega)]
  refine qG.call (t := 206) (na := 3) (sk := 0) (md := 0) (ls1 := [(0, a), (0, 0), (0, (w 95 57) - 1)]) (r1 := []) rfl rfl rfl rfl rfl (K_isIn (Nat.zero_le _) _ _ _ _) ?_
  rintro _ w7 _ ⟨rfl, hw7, rfl⟩
  rw [hw7]
  show qG none (d + 1) 287 11 [(2, 95), (0, a), (0, b), (0, m), (9, 0), (9, 0), (9, 0)] [(0, isInV (a) (0) ((w 95 57) - 1))] w 142 Q9
  refine qG.br (P := isInV (a) (0) ((w 95 57) - 1) = 0) (pc1 := 36) (pc2 := 14) (st1 := []) rfl (fun ha0 => ?_) (fun ha0 => ?_)
  · skip
    refine qG.blk 1 (pc' := 37) (ls' := [(2, 95), (0, a), (0, b), (0, m), (9, 0), (9, 0), (9, 0)]) (st' := [(0, (-1))]) (w' := w) (n' := 142) rfl ?_
    refine qG.ret rfl rfl ?_
    subst hQ9
    first | exact ⟨rfl, ⟨_, rfl⟩, AW.rf hI⟩ | exact ⟨rfl, ⟨_, rfl⟩, hI67.2.1⟩
  · skip
    obtain ⟨a9, rfl, hla9, hua9⟩ := isIn_n (by decide) ha0
    refine qG.blk 6 (pc' := 22) (ls' := [(2, 95), (0, ((a9 : Nat) : Int)), (0, b), (0, m), (9, 0), (9, 0), (9, 0)]) (st' := [(0, wrp ((w 95 57) - 1)), (0, ((a9 : Nat) : Int)), (0, b)]) (w' := w) (n' := 142) rfl ?_
    rw [show wrp ((w 95 57) - 1) = (w 95 57) - 1 from wrp_id (by omega) (by omega)]
    refine qG.call (t := 206) (na := 3) (sk := 0) (md := 0) (ls1 := [(0, b), (0, ((a9 : Nat) : Int)), (0, (w 95 57) - 1)]) (r1 := []) rfl rfl rfl rfl rfl (K_isIn (Nat.zero_le _) _ _ _ _) ?_
    rintro _ w7 _ ⟨rfl, hw7, rfl⟩
    rw [hw7]
    show qG none (d + 1) 287 25 [(2, 95), (0, ((a9 : Nat) : Int)), (0, b), (0, m), (9, 0), (9, 0), (9, 0)] [(0, isInV (b) (((a9 : Nat) : Int)) ((w 95 57) - 1))] w 142 Q9
    refine qG.br (P := isInV (b) (((a9 : Nat) : Int)) ((w 95 57) - 1) = 0) (pc1 := 36) (pc2 := 28) (st1 := []) rfl (fun hb0 => ?_) (fun hb0 => ?_)
    · skip
      refine qG.blk 1 (pc' := 37) (ls' := [(2, 95), (0, ((a9 : Nat) : Int)), (0, b), (0, m), (9, 0), (9, 0), (9, 0)]) (st' := [(0, (-1))]) (w' := w) (n' := 142) rfl ?_
      refine qG.ret rfl rfl ?_
      subst hQ9
      first | exact ⟨rfl, ⟨_, rfl⟩, AW.rf hI⟩ | exact ⟨rfl, ⟨_, rfl⟩, hI67.2.1⟩
    · skip
      obtain ⟨b9, rfl, hlb9, hub9⟩ := isIn_n (by omega) hb0
      refine qG.blk 2 (pc' := 30) (ls' := [(2, 95), (0, ((a9 : Nat) : Int)), (0, ((b9 : Nat) : Int)), (0, m), (9, 0), (9, 0), (9, 0)]) (st' := [(0, m), (2, 95)]) (w' := w) (n' := 142) rfl ?_
      refine qG.call (t := 279) (na := 2) (sk := 1) (md := 1) (ls1 := [(2, 95), (0, m)]) (r1 := []) rfl rfl rfl rfl rfl (K_isMaster (by omega) m w hI) ?_
      rintro _ w7 _ ⟨rfl, hw7, rfl⟩
      rw [hw7]
      show qG none (d + 1) 287 33 [(2, 95), (0, ((a9 : Nat) : Int)), (0, ((b9 : Nat) : Int)), (0, m), (9, 0), (9, 0), (9, 0)] [(0, isInV m 0 (w 95 55 - 1))] w 142 Q9
      refine qG.br (P := isInV m 0 (w 95 55 - 1) = 0) (pc1 := 36) (pc2 := 38) (st1 := []) rfl (fun hm0 => ?_) (fun hm0 => ?_)
      · skip
        refine qG.blk 1 (pc' := 37) (ls' := [(2, 95), (0, ((a9 : Nat) : Int)), (0, ((b9 : Nat) : Int)), (0, m), (9, 0), (9, 0), (9, 0)]) (st' := [(0, (-1))]) (w' := w) (n' := 142) rfl ?_
        refine qG.ret rfl rfl ?_
        subst hQ9
        first | exact ⟨rfl, ⟨_, rfl⟩, AW.rf hI⟩ | exact ⟨rfl, ⟨_, rfl⟩, hI67.2.1⟩
      · skip
        obtain ⟨m9a, rfl, hlm9, hum9⟩ := isIn_n (by decide) hm0
        refine qG.blk 2 (pc' := 41) (ls' := [(2, 95), (0, ((a9 : Nat) : Int)), (0, ((b9 : Nat) : Int)), (0, ((m9a : Nat) : Int)), (0, 0), (9, 0), (9, 0)]) (st' := []) (w' := w) (n' := 142) rfl ?_
        have L41 : ∀ (m9 : Nat) (k : Nat) (w9 : qW), M - k = m9 → (k ≤ M ∧ AW ALM w w9 ∧ (∀ j : Nat, j < k → 0 ≤ w9 137 j ∧ w9 137 j ≤ 1000000000)) → qG none (d + 1) 287 41 [(2, 95), (0, ((a9 : Nat) : Int)), (0, ((b9 : Nat) : Int)), (0, ((m9a : Nat) : Int)), (0, ((k : Nat) : Int)), (9, 0), (9, 0)] [] w9 142 Q9 := by
          intro m9
          induction m9 using Nat.strongRecOn with
          | ind m9 ih41 =>
          intro k w9 hm41 hI41
          refine qG.blk 3 (pc' := 47) (ls' := [(2, 95), (0, ((a9 : Nat) : Int)), (0, ((b9 : Nat) : Int)), (0, ((m9a : Nat) : Int)), (0, ((k : Nat) : Int)), (9, 0), (9, 0)]) (st' := [(0, w9 95 55), (0, ((k : Nat) : Int))]) (w' := w9) (n' := 142) rfl ?_
          rw [show w9 95 55 = ((M : Nat) : Int) from (hI41.2.1.2 95 55 (fun _ => rfl)).trans hM]
          refine qG.br (P := ((k : Nat) : Int) < ((M : Nat) : Int)) (pc1 := 50) (pc2 := 64) (st1 := []) rfl (fun h1 => ?_) (fun h1 => ?_)
          · skip
            refine qG.blk 2 (pc' := 54) (ls' := [(2, 95), (0, ((a9 : Nat) : Int)), (0, ((b9 : Nat) : Int)), (0, ((m9a : Nat) : Int)), (0, ((k : Nat) : Int)), (9, 0), (9, 0)]) (st' := [(2, w9 95 70)]) (w' := w9) (n' := 142) rfl ?_
            rw [show w9 95 70 = 137 from zref hI41.2.1.1 rfl rfl]
            refine qG.blk 2 (pc' := 57) (ls' := [(2, 95), (0, ((a9 : Nat) : Int)), (0, ((b9 : Nat) : Int)), (0, ((m9a : Nat) : Int)), (0, ((k : Nat) : Int)), (9, 0), (9, 0)]) (st' := [(1, 1), (0, ((k : Nat) : Int)), (2, 137)]) (w' := w9) (n' := 142) rfl ?_
            refine qG.ar (P := 0 ≤ ((k : Nat) : Int) ∧ ((k : Nat) : Int) < ((12 : Nat) : Int)) (P2 := 0 < (137 : Int) ∧ (137 : Int) ≤ ((142 : Nat) : Int)) (pc' := 58) (ls' := [(2, 95), (0, ((a9 : Nat) : Int)), (0, ((b9 : Nat) : Int)), (0, ((m9a : Nat) : Int)), (0, ((k : Nat) : Int)), (9, 0), (9, 0)]) (st' := []) (w' := (qup w9 137 k 1)) (n' := 142) rfl (by omega) (by decide) ?_
            refine qG.blk 1 (pc' := 61) (ls' := [(2, 95), (0, ((a9 : Nat) : Int)), (0, ((b9 : Nat) : Int)), (0, ((m9a : Nat) : Int)), (0, wrp (((k : Nat) : Int) + 1)), (9, 0), (9, 0)]) (st' := []) (w' := (qup w9 137 k 1)) (n' := 142) rfl ?_
            rw [show wrp (((k : Nat) : Int) + 1) = ((k + 1 : Nat) : Int) from wrp_id (by omega) (by omega)]
            refine qG.blk 1 (pc' := 41) (ls' := [(2, 95), (0, ((a9 : Nat) : Int)), (0, ((b9 : Nat) : Int)), (0, ((m9a : Nat) : Int)), (0, ((k + 1 : Nat) : Int)), (9, 0), (9, 0)]) (st' := []) (w' := (qup w9 137 k 1)) (n' := 142) rfl ?_
            exact ih41 _ (by omega) (k + 1) ((qup w9 137 k 1)) rfl (⟨by omega, (PX9.up (M := 0) (t := 0) (s := 1000000000) ⟨hI41.2.1, hI41.2.2, fun j _ hj => absurd hj (Nat.not_lt_zero j)⟩ (by decide) (by decide) (by decide)).1, (PX9.up (M := 0) (t := 0) (s := 1000000000) ⟨hI41.2.1, hI41.2.2, fun j _ hj => absurd hj (Nat.not_lt_zero j)⟩ (by decide) (by decide) (by decide)).2.1⟩)
          · skip
            refine qG.blk 2 (pc' := 67) (ls' := [(2, 95), (0, ((a9 : Nat) : Int)), (0, ((b9 : Nat) : Int)), (0, ((m9a : Nat) : Int)), (0, ((a9 : Nat) : Int)), (9, 0), (9, 0)]) (st' := []) (w' := w9) (n' := 142) rfl ?_
            have L67 : ∀ (m9 : Nat) (n : Nat) (w8 : qW) (x5 x6 : qV), b9 + 1 - n = m9 → (n ≤ b9 + 1 ∧ PW9 w w8 M 1000000000) → qG none (d + 1) 287 67 [(2, 95), (0, ((a9 : Nat) : Int)), (0, ((b9 : Nat) : Int)), (0, ((m9a : Nat) : Int)), (0, ((n : Nat) : Int)), x5, x6] [] w8 142 Q9 := by
              intro m9
              induction m9 using Nat.strongRecOn with
              | ind m9 ih67 =>
              intro n w8 x5 x6 hm67 hI67
              refine qG.blk 2 (pc' := 70) (ls' := [(2, 95), (0, ((a9 : Nat) : Int)), (0, ((b9 : Nat) : Int)), (0, ((m9a : Nat) : Int)), (0, ((n : Nat) : Int)), x5, x6]) (st' := [(0, ((b9 : Nat) : Int)), (0, ((n : Nat) : Int))]) (w' := w8) (n' := 142) rfl ?_
              refine qG.br (P := ((b9 : Nat) : Int) < ((n : Nat) : Int)) (pc1 := 213) (pc2 := 73) (st1 := []) rfl (fun h2 => ?_) (fun h2 => ?_)
              · skip
                refine qG.blk 4 (pc' := 219) (ls' := [(2, 95), (0, ((a9 : Nat) : Int)), (0, ((b9 : Nat) : Int)), (0, ((m9a : Nat) : Int)), (1, 0), (9, 0), (0, 0)]) (st' := []) (w' := w8) (n' := 142) rfl ?_
                have L219 : ∀ (m9 : Nat) (k : Nat) (s : Int), M - k = m9 → (k ≤ M ∧ 0 ≤ s ∧ s ≤ 1000000000 * (k : Int)) → qG none (d + 1) 287 219 [(2, 95), (0, ((a9 : Nat) : Int)), (0, ((b9 : Nat) : Int)), (0, ((m9a : Nat) : Int)), (1, s), (9, 0), (0, ((k : Nat) : Int))] [] w8 142 Q9 := by
                  intro m9
                  induction m9 using Nat.strongRecOn with
                  | ind m9 ih219 =>
                  intro k s hm219 hI219
                  have hq6 := hI67.2.2 k
                  refine qG.blk 3 (pc' := 225) (ls' := [(2, 95), (0, ((a9 : Nat) : Int)), (0, ((b9 : Nat) : Int)), (0, ((m9a : Nat) : Int)), (1, s), (9, 0), (0, ((k : Nat) : Int))]) (st' := [(0, w8 95 55), (0, ((k : Nat) : Int))]) (w' := w8) (n' := 142) rfl ?_
                  rw [show w8 95 55 = ((M : Nat) : Int) from (hI67.2.1.2 95 55 (fun _ => rfl)).trans hM]
                  refine qG.br (P := ((k : Nat) : Int) < ((M : Nat) : Int)) (pc1 := 228) (pc2 := 246) (st1 := []) rfl (fun h3 => ?_) (fun h3 => ?_)
                  · skip
                    refine qG.blk 3 (pc' := 234) (ls' := [(2, 95), (0, ((a9 : Nat) : Int)), (0, ((b9 : Nat) : Int)), (0, ((m9a : Nat) : Int)), (1, s), (9, 0), (0, ((k : Nat) : Int))]) (st' := [(2, w8 95 70), (1, s)]) (w' := w8) (n' := 142) rfl ?_
                    rw [show w8 95 70 = 137 from zref hI67.2.1.1 rfl rfl]
                    refine qG.blk 1 (pc' := 236) (ls' := [(2, 95), (0, ((a9 : Nat) : Int)), (0, ((b9 : Nat) : Int)), (0, ((m9a : Nat) : Int)), (1, s), (9, 0), (0, ((k : Nat) : Int))]) (st' := [(0, ((k : Nat) : Int)), (2, 137), (1, s)]) (w' := w8) (n' := 142) rfl ?_
                    refine qG.ar (P := 0 ≤ ((k : Nat) : Int) ∧ ((k : Nat) : Int) < ((12 : Nat) : Int)) (P2 := 0 < (137 : Int) ∧ (137 : Int) ≤ ((142 : Nat) : Int)) (pc' := 237) (ls' := [(2, 95), (0, ((a9 : Nat) : Int)), (0, ((b9 : Nat) : Int)), (0, ((m9a : Nat) : Int)), (1, s), (9, 0), (0, ((k : Nat) : Int))]) (st' := [(1, w8 137 k), (1, s)]) (w' := w8) (n' := 142) rfl (by omega) (by decide) ?_
                    refine qG.blk 1 (pc' := 238) (ls' := [(2, 95), (0, ((a9 : Nat) : Int)), (0, ((b9 : Nat) : Int)), (0, ((m9a : Nat) : Int)), (1, s), (9, 0), (0, ((k : Nat) : Int))]) (st' := [(1, wrl (s + (w8 137 k)))]) (w' := w8) (n' := 142) rfl ?_
                    rw [show wrl (s + (w8 137 k)) = s + (w8 137 k) from wrl_id (by omega) (by omega)]
                    refine qG.blk 2 (pc' := 243) (ls' := [(2, 95), (0, ((a9 : Nat) : Int)), (0, ((b9 : Nat) : Int)), (0, ((m9a : Nat) : Int)), (1, s + (w8 137 k)), (9, 0), (0, wrp (((k : Nat) : Int) + 1))]) (st' := []) (w' := w8) (n' := 142) rfl ?_
                    rw [show wrp (((k : Nat) : Int) + 1) = ((k + 1 : Nat) : Int) from wrp_id (by omega) (by omega)]
                    refine qG.blk 1 (pc' := 219) (ls' := [(2, 95), (0, ((a9 : Nat) : Int)), (0, ((b9 : Nat) : Int)), (0, ((m9a : Nat) : Int)), (1, s + (w8 137 k)), (9, 0), (0, ((k + 1 : Nat) : Int))]) (st' := []) (w' := w8) (n' := 142) rfl ?_
                    exact ih219 _ (by omega) (k + 1) (s + (w8 137 k)) rfl (⟨by omega, by omega, by omega⟩)
                  · skip
                    refine qG.blk 3 (pc' := 250) (ls' := [(2, 95), (0, ((a9 : Nat) : Int)), (0, ((b9 : Nat) : Int)), (0, ((m9a : Nat) : Int)), (1, s), (9, 0), (0, ((k : Nat) : Int))]) (st' := [(0, qcmp s 0)]) (w' := w8) (n' := 142) rfl ?_
                    refine qG.br (P := qcmp s 0 = 0) (pc1 := 253) (pc2 := 257) (st1 := []) rfl (fun hs0 => ?_) (fun hs0 => ?_)
                    · skip
                      refine qG.blk 2 (pc' := 271) (ls' := [(2, 95), (0, ((a9 : Nat) : Int)), (0, ((b9 : Nat) : Int)), (0, ((m9a : Nat) : Int)), (1, s), (9, 0), (0, ((k : Nat) : Int))]) (st' := [(0, (-1))]) (w' := w8) (n' := 142) rfl ?_
                      refine qG.ret rfl rfl ?_
                      subst hQ9
                      first | exact ⟨rfl, ⟨_, rfl⟩, AW.rf hI⟩ | exact ⟨rfl, ⟨_, rfl⟩, hI67.2.1⟩
                    · skip
                      rw [qcmp_z] at hs0
                      have hqm := hI67.2.2 m9a (by omega)
                      refine qG.blk 3 (pc' := 264) (ls' := [(2, 95), (0, ((a9 : Nat) : Int)), (0, ((b9 : Nat) : Int)), (0, ((m9a : Nat) : Int)), (1, s), (9, 0), (0, ((k : Nat) : Int))]) (st' := [(2, w8 95 70), (1, 1000)]) (w' := w8) (n' := 142) rfl ?_
                      rw [show w8 95 70 = 137 from zref hI67.2.1.1 rfl rfl]
                      refine qG.blk 1 (pc' := 265) (ls' := [(2, 95), (0, ((a9 : Nat) : Int)), (0, ((b9 : Nat) : Int)), (0, ((m9a : Nat) : Int)), (1, s), (9, 0), (0, ((k : Nat) : Int))]) (st' := [(0, ((m9a : Nat) : Int)), (2, 137), (1, 1000)]) (w' := w8) (n' := 142) rfl ?_
                      refine qG.ar (P := 0 ≤ ((m9a : Nat) : Int) ∧ ((m9a : Nat) : Int) < ((12 : Nat) : Int)) (P2 := 0 < (137 : Int) ∧ (137 : Int) ≤ ((142 : Nat) : Int)) (pc' := 266) (ls' := [(2, 95), (0, ((a9 : Nat) : Int)), (0, ((b9 : Nat) : Int)), (0, ((m9a : Nat) : Int)), (1, s), (9, 0), (0, ((k : Nat) : Int))]) (st' := [(1, w8 137 m9a), (1, 1000)]) (w' := w8) (n' := 142) rfl (by omega) (by decide) ?_
                      refine qG.blk 1 (pc' := 267) (ls' := [(2, 95), (0, ((a9 : Nat) : Int)), (0, ((b9 : Nat) : Int)), (0, ((m9a : Nat) : Int)), (1, s), (9, 0), (0, ((k : Nat) : Int))]) (st' := [(1, wrl (1000 * (w8 137 m9a)))]) (w' := w8) (n' := 142) rfl ?_
                      rw [show wrl (1000 * (w8 137 m9a)) = 1000 * (w8 137 m9a) from wrl_id (by omega) (by omega)]
                      refine qG.blk 1 (pc' := 269) (ls' := [(2, 95), (0, ((a9 : Nat) : Int)), (0, ((b9 : Nat) : Int)), (0, ((m9a : Nat) : Int)), (1, s), (9, 0), (0, ((k : Nat) : Int))]) (st' := [(1, s), (1, 1000 * (w8 137 m9a))]) (w' := w8) (n' := 142) rfl ?_
                      refine qG.gn (P := s = 0) (pc' := 270) (ls' := [(2, 95), (0, ((a9 : Nat) : Int)), (0, ((b9 : Nat) : Int)), (0, ((m9a : Nat) : Int)), (1, s), (9, 0), (0, ((k : Nat) : Int))]) (st' := [(1, qldiv (1000 * (w8 137 m9a)) s)]) (w' := w8) (n' := 142) rfl (by exact hs0) ?_
                      refine qG.blk 1 (pc' := 271) (ls' := [(2, 95), (0, ((a9 : Nat) : Int)), (0, ((b9 : Nat) : Int)), (0, ((m9a : Nat) : Int)), (1, s), (9, 0), (0, ((k : Nat) : Int))]) (st' := [(0, wrp (qldiv (1000 * (w8 137 m9a)) s))]) (w' := w8) (n' := 142) rfl ?_
                      refine qG.ret rfl rfl ?_
                      subst hQ9
                      first | exact ⟨rfl, ⟨_, rfl⟩, AW.rf hI⟩ | exact ⟨rfl, ⟨_, rfl⟩, hI67.2.1⟩
                exact L219 _ (0) (0) rfl (⟨by omega, by decide, by decide⟩)
              · skip
                refine qG.blk 4 (pc' := 79) (ls' := [(2, 95), (0, ((a9 : Nat) : Int)), (0, ((b9 : Nat) : Int)), (0, ((m9a : Nat) : Int)), (0, ((n : Nat) : Int)), (0, 0), (0, 0)]) (st' := []) (w' := w8) (n' := 142) rfl ?_
                have L79 : ∀ (m9 : Nat) (k : Nat) (w7a : qW) (x5 : Int), M - k = m9 → (k ≤ M ∧ PX9 w w7a M k 891000000000 1000000000 ∧ (x5 = 0 → ∀ j : Nat, j < k → w7a 137 j ≤ 1000000000)) → qG none (d + 1) 287 79 [(2, 95), (0, ((a9 : Nat) : Int)), (0, ((b9 : Nat) : Int)), (0, ((m9a : Nat) : Int)), (0, ((n : Nat) : Int)), (0, x5), (0, ((k : Nat) : Int))] [] w7a 142 Q9 := by
                  intro m9
                  induction m9 using Nat.strongRecOn with
                  | ind m9 ih79 =>
                  intro k w7a x5 hm79 hI79
                  refine qG.blk 3 (pc' := 85) (ls' := [(2, 95), (0, ((a9 : Nat) : Int)), (0, ((b9 : Nat) : Int)), (0, ((m9a : Nat) : Int)), (0, ((n : Nat) : Int)), (0, x5), (0, ((k : Nat) : Int))]) (st' := [(0, w7a 95 55), (0, ((k : Nat) : Int))]) (w' := w7a) (n' := 142) rfl ?_
                  rw [show w7a 95 55 = ((M : Nat) : Int) from (hI79.2.1.1.2 95 55 (fun _ => rfl)).trans hM]
                  refine qG.br (P := ((k : Nat) : Int) < ((M : Nat) : Int)) (pc1 := 88) (pc2 := 139) (st1 := []) rfl (fun h4 => ?_) (fun h4 => ?_)
                  · skip
                    refine qG.blk 2 (pc' := 92) (ls' := [(2, 95), (0, ((a9 : Nat) : Int)), (0, ((b9 : Nat) : Int)), (0, ((m9a : Nat) : Int)), (0, ((n : Nat) : Int)), (0, x5), (0, ((k : Nat) : Int))]) (st' := [(2, w7a 95 70)]) (w' := w7a) (n' := 142) rfl ?_
                    rw [show w7a 95 70 = 137 from zref hI79.2.1.1.1 rfl rfl]
                    refine qG.blk 2 (pc' := 95) (ls' := [(2, 95), (0, ((a9 : Nat) : Int)), (0, ((b9 : Nat) : Int)), (0, ((m9a : Nat) : Int)), (0, ((n : Nat) : Int)), (0, x5), (0, ((k : Nat) : Int))]) (st' := [(0, ((k : Nat) : Int)), (2, 137), (0, ((k : Nat) : Int)), (2, 137)]) (w' := w7a) (n' := 142) rfl ?_
                    refine qG.ar (P := 0 ≤ ((k : Nat) : Int) ∧ ((k : Nat) : Int) < ((12 : Nat) : Int)) (P2 := 0 < (137 : Int) ∧ (137 : Int) ≤ ((142 : Nat) : Int)) (pc' := 96) (ls' := [(2, 95), (0, ((a9 : Nat) : Int)), (0, ((b9 : Nat) : Int)), (0, ((m9a : Nat) : Int)), (0, ((n : Nat) : Int)), (0, x5), (0, ((k : Nat) : Int))]) (st' := [(1, w7a 137 k), (0, ((k : Nat) : Int)), (2, 137)]) (w' := w7a) (n' := 142) rfl (by omega) (by decide) ?_
                    refine qG.blk 3 (pc' := 101) (ls' := [(2, 95), (0, ((a9 : Nat) : Int)), (0, ((b9 : Nat) : Int)), (0, ((m9a : Nat) : Int)), (0, ((n : Nat) : Int)), (0, x5), (0, ((k : Nat) : Int))]) (st' := [(0, ((k : Nat) : Int)), (0, ((n : Nat) : Int)), (2, 95), (1, w7a 137 k), (0, ((k : Nat) : Int)), (2, 137)]) (w' := w7a) (n' := 142) rfl ?_
                    refine qG.call (t := 285) (na := 3) (sk := 1) (md := 1) (ls1 := [(2, 95), (0, ((n : Nat) : Int)), (0, ((k : Nat) : Int)), (9, 0), (9, 0)]) (r1 := [(1, w7a 137 k), (0, ((k : Nat) : Int)), (2, 137)]) rfl rfl rfl rfl rfl (AW.use (c := C_R_weight.2) (as := [(2, 95), (0, ((n : Nat) : Int)), (0, ((k : Nat) : Int))]) (m := []) T_R_weight (AW.rf hI79.2.1.1.1) (show 2 ≤ d by omega) ⟨⟨rfl, by decide, by decide⟩, ⟨rfl, by show (0 : Int) ≤ _; omega, by show _ ≤ (59 : Int); omega⟩, ⟨rfl, by show (0 : Int) ≤ _; omega, by show _ ≤ (11 : Int); omega⟩, trivial⟩ rfl rfl (by decide +kernel)) ?_
                    rintro _ w7 _ ⟨x, rfl, hx1, hx2, hA7, rfl, -⟩
                    have hx1 : 0 ≤ x := hx1
                    have hx2 : x ≤ 891 := hx2
                    have e7 := hA7.eq
                    rw [e7]
                    have hq := hI79.2.1.2.2 k (Nat.le_refl k) (by omega)
                    obtain ⟨hm1, hm2⟩ := mul_b hq.1 hq.2 hx1 hx2
                    show qG none (d + 1) 287 104 [(2, 95), (0, ((a9 : Nat) : Int)), (0, ((b9 : Nat) : Int)), (0, ((m9a : Nat) : Int)), (0, ((n : Nat) : Int)), (0, x5), (0, ((k : Nat) : Int))] [(0, x), (1, w7a 137 k), (0, ((k : Nat) : Int)), (2, 137)] w7a 142 Q9
                    refine qG.blk 2 (pc' := 106) (ls' := [(2, 95), (0, ((a9 : Nat) : Int)), (0, ((b9 : Nat) : Int)), (0, ((m9a : Nat) : Int)), (0, ((n : Nat) : Int)), (0, x5), (0, ((k : Nat) : Int))]) (st' := [(1, wrl ((w7a 137 k) * x)), (0, ((k : Nat) : Int)), (2, 137)]) (w' := w7a) (n' := 142) rfl ?_
                    rw [show wrl ((w7a 137 k) * x) = (w7a 137 k) * x from wrl_id (by omega) (by omega)]
                    refine qG.ar (P := 0 ≤ ((k : Nat) : Int) ∧ ((k : Nat) : Int) < ((12 : Nat) : Int)) (P2 := 0 < (137 : Int) ∧ (137 : Int) ≤ ((142 : Nat) : Int)) (pc' := 107) (ls' := [(2, 95), (0, ((a9 : Nat) : Int)), (0, ((b9 : Nat) : Int)), (0, ((m9a : Nat) : Int)), (0, ((n : Nat) : Int)), (0, x5), (0, ((k : Nat) : Int))]) (st' := []) (w' := (qup w7a 137 k ((w7a 137 k) * x))) (n' := 142) rfl (by omega) (by decide) ?_
                    refine qG.blk 1 (pc' := 109) (ls' := [(2, 95), (0, ((a9 : Nat) : Int)), (0, ((b9 : Nat) : Int)), (0, ((m9a : Nat) : Int)), (0, ((n : Nat) : Int)), (0, x5), (0, ((k : Nat) : Int))]) (st' := [(0, x5)]) (w' := (qup w7a 137 k ((w7a 137 k) * x))) (n' := 142) rfl ?_
                    refine qG.br (P := x5 = 0) (pc1 := 112) (pc2 := 126) (st1 := []) rfl (fun h5 => ?_) (fun h5 => ?_)
                    · skip
                      refine qG.blk 2 (pc' := 116) (ls' := [(2, 95), (0, ((a9 : Nat) : Int)), (0, ((b9 : Nat) : Int)), (0, ((m9a : Nat) : Int)), (0, ((n : Nat) : Int)), (0, x5), (0, ((k : Nat) : Int))]) (st' := [(2, w7a 95 70)]) (w' := (qup w7a 137 k ((w7a 137 k) * x))) (n' := 142) rfl ?_
                      rw [show w7a 95 70 = 137 from zref hI79.2.1.1.1 rfl rfl]
                      refine qG.blk 1 (pc' := 118) (ls' := [(2, 95), (0, ((a9 : Nat) : Int)), (0, ((b9 : Nat) : Int)), (0, ((m9a : Nat) : Int)), (0, ((n : Nat) : Int)), (0, x5), (0, ((k : Nat) : Int))]) (st' := [(0, ((k : Nat) : Int)), (2, 137)]) (w' := (qup w7a 137 k ((w7a 137 k) * x))) (n' := 142) rfl ?_
                      refine qG.ar (P := 0 ≤ ((k : Nat) : Int) ∧ ((k : Nat) : Int) < ((12 : Nat) : Int)) (P2 := 0 < (137 : Int) ∧ (137 : Int) ≤ ((142 : Nat) : Int)) (pc' := 119) (ls' := [(2, 95), (0, ((a9 : Nat) : Int)), (0, ((b9 : Nat) : Int)), (0, ((m9a : Nat) : Int)), (0, ((n : Nat) : Int)), (0, x5), (0, ((k : Nat) : Int))]) (st' := [(1, (qup w7a 137 k ((w7a 137 k) * x)) 137 k)]) (w' := (qup w7a 137 k ((w7a 137 k) * x))) (n' := 142) rfl (by omega) (by decide) ?_
                      rw [qup_k]
                      refine qG.blk 2 (pc' := 123) (ls' := [(2, 95), (0, ((a9 : Nat) : Int)), (0, ((b9 : Nat) : Int)), (0, ((m9a : Nat) : Int)), (0, ((n : Nat) : Int)), (0, x5), (0, ((k : Nat) : Int))]) (st' := [(0, qcmp ((w7a 137 k) * x) 1000000000)]) (w' := (qup w7a 137 k ((w7a 137 k) * x))) (n' := 142) rfl ?_
                      refine qG.br (P := 0 < qcmp ((w7a 137 k) * x) 1000000000) (pc1 := 126) (pc2 := 130) (st1 := []) rfl (fun hc => ?_) (fun hc => ?_)
                      · skip
                        refine qG.blk 4 (pc' := 136) (ls' := [(2, 95), (0, ((a9 : Nat) : Int)), (0, ((b9 : Nat) : Int)), (0, ((m9a : Nat) : Int)), (0, ((n : Nat) : Int)), (0, 1), (0, wrp (((k : Nat) : Int) + 1))]) (st' := []) (w' := (qup w7a 137 k ((w7a 137 k) * x))) (n' := 142) rfl ?_
                        rw [show wrp (((k : Nat) : Int) + 1) = ((k + 1 : Nat) : Int) from wrp_id (by omega) (by omega)]
                        refine qG.blk 1 (pc' := 79) (ls' := [(2, 95), (0, ((a9 : Nat) : Int)), (0, ((b9 : Nat) : Int)), (0, ((m9a : Nat) : Int)), (0, ((n : Nat) : Int)), (0, 1), (0, ((k + 1 : Nat) : Int))]) (st' := []) (w' := (qup w7a 137 k ((w7a 137 k) * x))) (n' := 142) rfl ?_
                        exact ih79 _ (by omega) (k + 1) ((qup w7a 137 k ((w7a 137 k) * x))) (1) rfl (⟨by omega, hI79.2.1.up hm1 hm2 (by decide), by first | exact fun z => absurd z h5 | exact fun z => absurd z (by decide) | exact fun _ => px_s (hI79.2.2 (by omega)) (by rw [qcmp_p] at hc; omega)⟩)
                      · skip
                        refine qG.blk 3 (pc' := 136) (ls' := [(2, 95), (0, ((a9 : Nat) : Int)), (0, ((b9 : Nat) : Int)), (0, ((m9a : Nat) : Int)), (0, ((n : Nat) : Int)), (0, 0), (0, wrp (((k : Nat) : Int) + 1))]) (st' := []) (w' := (qup w7a 137 k ((w7a 137 k) * x))) (n' := 142) rfl ?_
                        rw [show wrp (((k : Nat) : Int) + 1) = ((k + 1 : Nat) : Int) from wrp_id (by omega) (by omega)]
                        refine qG.blk 1 (pc' := 79) (ls' := [(2, 95), (0, ((a9 : Nat) : Int)), (0, ((b9 : Nat) : Int)), (0, ((m9a : Nat) : Int)), (0, ((n : Nat) : Int)), (0, 0), (0, ((k + 1 : Nat) : Int))]) (st' := []) (w' := (qup w7a 137 k ((w7a 137 k) * x))) (n' := 142) rfl ?_
                        exact ih79 _ (by omega) (k + 1) ((qup w7a 137 k ((w7a 137 k) * x))) (0) rfl (⟨by omega, hI79.2.1.up hm1 hm2 (by decide), by first | exact fun z => absurd z h5 | exact fun z => absurd z (by decide) | exact fun _ => px_s (hI79.2.2 (by omega)) (by rw [qcmp_p] at hc; omega)⟩)
                    · skip
                      refine qG.blk 4 (pc' := 136) (ls' := [(2, 95), (0, ((a9 : Nat) : Int)), (0, ((b9 : Nat) : Int)), (0, ((m9a : Nat) : Int)), (0, ((n : Nat) : Int)), (0, 1), (0, wrp (((k : Nat) : Int) + 1))]) (st' := []) (w' := (qup w7a 137 k ((w7a 137 k) * x))) (n' := 142) rfl ?_
                      rw [show wrp (((k : Nat) : Int) + 1) = ((k + 1 : Nat) : Int) from wrp_id (by omega) (by omega)]
                      refine qG.blk 1 (pc' := 79) (ls' := [(2, 95), (0, ((a9 : Nat) : Int)), (0, ((b9 : Nat) : Int)), (0, ((m9a : Nat) : Int)), (0, ((n : Nat) : Int)), (0, 1), (0, ((k + 1 : Nat) : Int))]) (st' := []) (w' := (qup w7a 137 k ((w7a 137 k) * x))) (n' := 142) rfl ?_
                      exact ih79 _ (by omega) (k + 1) ((qup w7a 137 k ((w7a 137 k) * x))) (1) rfl (⟨by omega, hI79.2.1.up hm1 hm2 (by decide), by first | exact fun z => absurd z h5 | exact fun z => absurd z (by decide) | exact fun _ => px_s (hI79.2.2 (by omega)) (by rw [qcmp_p] at hc; omega)⟩)
                  · skip
                    have L139 : ∀ (m9 : Nat) (p : Nat) (w6 : qW) (x5 : Int) (x6 : qV), p = m9 → ((p = 0 → x5 = 0) ∧ (x5 = 0 → ∀ j : Nat, j < M → w6 137 j ≤ 1000000000) ∧ PW9 w w6 M 891000000000) → qG none (d + 1) 287 139 [(2, 95), (0, ((a9 : Nat) : Int)), (0, ((b9 : Nat) : Int)), (0, ((m9a : Nat) : Int)), (0, ((n : Nat) : Int)), (0, x5), x6] [] w6 142 Q9 := by
                      intro m9
                      induction m9 using Nat.strongRecOn with
                      | ind m9 ih139 =>
                      intro p w6 x5 x6 hm139 hI139
                      refine qG.blk 1 (pc' := 141) (ls' := [(2, 95), (0, ((a9 : Nat) : Int)), (0, ((b9 : Nat) : Int)), (0, ((m9a : Nat) : Int)), (0, ((n : Nat) : Int)), (0, x5), x6]) (st' := [(0, x5)]) (w' := w6) (n' := 142) rfl ?_
                      refine qG.br (P := x5 = 0) (pc1 := 207) (pc2 := 144) (st1 := []) rfl (fun h5b => ?_) (fun h5b => ?_)
                      · skip
                        refine qG.blk 1 (pc' := 210) (ls' := [(2, 95), (0, ((a9 : Nat) : Int)), (0, ((b9 : Nat) : Int)), (0, ((m9a : Nat) : Int)), (0, wrp (((n : Nat) : Int) + 1)), (0, x5), x6]) (st' := []) (w' := w6) (n' := 142) rfl ?_
                        rw [show wrp (((n : Nat) : Int) + 1) = ((n + 1 : Nat) : Int) from wrp_id (by omega) (by omega)]
                        refine qG.blk 1 (pc' := 67) (ls' := [(2, 95), (0, ((a9 : Nat) : Int)), (0, ((b9 : Nat) : Int)), (0, ((m9a : Nat) : Int)), (0, ((n + 1 : Nat) : Int)), (0, x5), x6]) (st' := []) (w' := w6) (n' := 142) rfl ?_
                        exact ih67 _ (by omega) (n + 1) (w6) ((0, x5)) (x6) rfl (⟨by omega, hI139.2.2.1, fun j hj => ⟨(hI139.2.2.2 j hj).1, hI139.2.1 (by omega) j hj⟩⟩)
                      · skip
                        refine qG.blk 4 (pc' := 150) (ls' := [(2, 95), (0, ((a9 : Nat) : Int)), (0, ((b9 : Nat) : Int)), (0, ((m9a : Nat) : Int)), (0, ((n : Nat) : Int)), (0, 0), (0, 0)]) (st' := []) (w' := w6) (n' := 142) rfl ?_
                        have L150 : ∀ (m9 : Nat) (k : Nat) (w5 : qW) (x5b : Int), M - k = m9 → (k ≤ M ∧ PX9 w w5 M k 891000000 891000000000 ∧ x5b = 0) → qG none (d + 1) 287 150 [(2, 95), (0, ((a9 : Nat) : Int)), (0, ((b9 : Nat) : Int)), (0, ((m9a : Nat) : Int)), (0, ((n : Nat) : Int)), (0, x5b), (0, ((k : Nat) : Int))] [] w5 142 Q9 := by
                          intro m9
                          induction m9 using Nat.strongRecOn with
                          | ind m9 ih150 =>
                          intro k w5 x5b hm150 hI150
                          have hq5 := hI150.2.1.2.2 k (Nat.le_refl k)
                          refine qG.blk 3 (pc' := 156) (ls' := [(2, 95), (0, ((a9 : Nat) : Int)), (0, ((b9 : Nat) : Int)), (0, ((m9a : Nat) : Int)), (0, ((n : Nat) : Int)), (0, x5b), (0, ((k : Nat) : Int))]) (st' := [(0, w5 95 55), (0, ((k : Nat) : Int))]) (w' := w5) (n' := 142) rfl ?_
                          rw [show w5 95 55 = ((M : Nat) : Int) from (hI150.2.1.1.2 95 55 (fun _ => rfl)).trans hM]
                          refine qG.br (P := ((k : Nat) : Int) < ((M : Nat) : Int)) (pc1 := 159) (pc2 := 204) (st1 := []) rfl (fun h5 => ?_) (fun h5 => ?_)
                          · skip
                            refine qG.blk 2 (pc' := 163) (ls' := [(2, 95), (0, ((a9 : Nat) : Int)), (0, ((b9 : Nat) : Int)), (0, ((m9a : Nat) : Int)), (0, ((n : Nat) : Int)), (0, x5b), (0, ((k : Nat) : Int))]) (st' := [(2, w5 95 70)]) (w' := w5) (n' := 142) rfl ?_
                            rw [show w5 95 70 = 137 from zref hI150.2.1.1.1 rfl rfl]
                            refine qG.blk 2 (pc' := 166) (ls' := [(2, 95), (0, ((a9 : Nat) : Int)), (0, ((b9 : Nat) : Int)), (0, ((m9a : Nat) : Int)), (0, ((n : Nat) : Int)), (0, x5b), (0, ((k : Nat) : Int))]) (st' := [(0, ((k : Nat) : Int)), (2, 137), (0, ((k : Nat) : Int)), (2, 137)]) (w' := w5) (n' := 142) rfl ?_
                            refine qG.ar (P := 0 ≤ ((k : Nat) : Int) ∧ ((k : Nat) : Int) < ((12 : Nat) : Int)) (P2 := 0 < (137 : Int) ∧ (137 : Int) ≤ ((142 : Nat) : Int)) (pc' := 167) (ls' := [(2, 95), (0, ((a9 : Nat) : Int)), (0, ((b9 : Nat) : Int)), (0, ((m9a : Nat) : Int)), (0, ((n : Nat) : Int)), (0, x5b), (0, ((k : Nat) : Int))]) (st' := [(1, w5 137 k), (0, ((k : Nat) : Int)), (2, 137)]) (w' := w5) (n' := 142) rfl (by omega) (by decide) ?_
                            refine qG.blk 1 (pc' := 170) (ls' := [(2, 95), (0, ((a9 : Nat) : Int)), (0, ((b9 : Nat) : Int)), (0, ((m9a : Nat) : Int)), (0, ((n : Nat) : Int)), (0, x5b), (0, ((k : Nat) : Int))]) (st' := [(1, 1000), (1, w5 137 k), (0, ((k : Nat) : Int)), (2, 137)]) (w' := w5) (n' := 142) rfl ?_
                            refine qG.gn (P := 1000 = 0) (pc' := 171) (ls' := [(2, 95), (0, ((a9 : Nat) : Int)), (0, ((b9 : Nat) : Int)), (0, ((m9a : Nat) : Int)), (0, ((n : Nat) : Int)), (0, x5b), (0, ((k : Nat) : Int))]) (st' := [(1, qldiv (w5 137 k) 1000), (0, ((k : Nat) : Int)), (2, 137)]) (w' := w5) (n' := 142) rfl (by decide) ?_
                            rw [show qldiv (w5 137 k) 1000 = w5 137 k / 1000 from qldiv_k (hq5 (by omega)).1 (hq5 (by omega)).2]
                            refine qG.ar (P := 0 ≤ ((k : Nat) : Int) ∧ ((k : Nat) : Int) < ((12 : Nat) : Int)) (P2 := 0 < (137 : Int) ∧ (137 : Int) ≤ ((142 : Nat) : Int)) (pc' := 172) (ls' := [(2, 95), (0, ((a9 : Nat) : Int)), (0, ((b9 : Nat) : Int)), (0, ((m9a : Nat) : Int)), (0, ((n : Nat) : Int)), (0, x5b), (0, ((k : Nat) : Int))]) (st' := []) (w' := (qup w5 137 k (w5 137 k / 1000))) (n' := 142) rfl (by omega) (by decide) ?_
                            refine qG.blk 1 (pc' := 174) (ls' := [(2, 95), (0, ((a9 : Nat) : Int)), (0, ((b9 : Nat) : Int)), (0, ((m9a : Nat) : Int)), (0, ((n : Nat) : Int)), (0, x5b), (0, ((k : Nat) : Int))]) (st' := [(0, x5b)]) (w' := (qup w5 137 k (w5 137 k / 1000))) (n' := 142) rfl ?_
                            have hq5 := hq5 (by omega)
                            refine qG.br (P := x5b = 0) (pc1 := 177) (pc2 := 191) (st1 := []) rfl (fun h5c => ?_) (fun h5c => ?_)
                            · skip
                              refine qG.blk 2 (pc' := 181) (ls' := [(2, 95), (0, ((a9 : Nat) : Int)), (0, ((b9 : Nat) : Int)), (0, ((m9a : Nat) : Int)), (0, ((n : Nat) : Int)), (0, x5b), (0, ((k : Nat) : Int))]) (st' := [(2, w5 95 70)]) (w' := (qup w5 137 k (w5 137 k / 1000))) (n' := 142) rfl ?_
                              rw [show w5 95 70 = 137 from zref hI150.2.1.1.1 rfl rfl]
                              refine qG.blk 1 (pc' := 183) (ls' := [(2, 95), (0, ((a9 : Nat) : Int)), (0, ((b9 : Nat) : Int)), (0, ((m9a : Nat) : Int)), (0, ((n : Nat) : Int)), (0, x5b), (0, ((k : Nat) : Int))]) (st' := [(0, ((k : Nat) : Int)), (2, 137)]) (w' := (qup w5 137 k (w5 137 k / 1000))) (n' := 142) rfl ?_
                              refine qG.ar (P := 0 ≤ ((k : Nat) : Int) ∧ ((k : Nat) : Int) < ((12 : Nat) : Int)) (P2 := 0 < (137 : Int) ∧ (137 : Int) ≤ ((142 : Nat) : Int)) (pc' := 184) (ls' := [(2, 95), (0, ((a9 : Nat) : Int)), (0, ((b9 : Nat) : Int)), (0, ((m9a : Nat) : Int)), (0, ((n : Nat) : Int)), (0, x5b), (0, ((k : Nat) : Int))]) (st' := [(1, (qup w5 137 k (w5 137 k / 1000)) 137 k)]) (w' := (qup w5 137 k (w5 137 k / 1000))) (n' := 142) rfl (by omega) (by decide) ?_
                              rw [qup_k]
                              refine qG.blk 2 (pc' := 188) (ls' := [(2, 95), (0, ((a9 : Nat) : Int)), (0, ((b9 : Nat) : Int)), (0, ((m9a : Nat) : Int)), (0, ((n : Nat) : Int)), (0, x5b), (0, ((k : Nat) : Int))]) (st' := [(0, qcmp (w5 137 k / 1000) 1000000000)]) (w' := (qup w5 137 k (w5 137 k / 1000))) (n' := 142) rfl ?_
                              refine qG.br (P := 0 < qcmp (w5 137 k / 1000) 1000000000) (pc1 := 191) (pc2 := 195) (st1 := []) rfl (fun hc2 => ?_) (fun hc2 => ?_)
                              · skip
                                refine qG.blk 4 (pc' := 201) (ls' := [(2, 95), (0, ((a9 : Nat) : Int)), (0, ((b9 : Nat) : Int)), (0, ((m9a : Nat) : Int)), (0, ((n : Nat) : Int)), (0, 1), (0, wrp (((k : Nat) : Int) + 1))]) (st' := []) (w' := (qup w5 137 k (w5 137 k / 1000))) (n' := 142) rfl ?_
                                rw [show wrp (((k : Nat) : Int) + 1) = ((k + 1 : Nat) : Int) from wrp_id (by omega) (by omega)]
                                refine qG.blk 1 (pc' := 150) (ls' := [(2, 95), (0, ((a9 : Nat) : Int)), (0, ((b9 : Nat) : Int)), (0, ((m9a : Nat) : Int)), (0, ((n : Nat) : Int)), (0, 1), (0, ((k + 1 : Nat) : Int))]) (st' := []) (w' := (qup w5 137 k (w5 137 k / 1000))) (n' := 142) rfl ?_
                                exact ih150 _ (by omega) (k + 1) ((qup w5 137 k (w5 137 k / 1000))) (1) rfl (⟨by omega, hI150.2.1.up (by omega) (by omega) (by decide), by first | rfl | (exfalso; rw [qcmp_p] at hc2; omega) | (exfalso; omega)⟩)
                              · skip
                                refine qG.blk 3 (pc' := 201) (ls' := [(2, 95), (0, ((a9 : Nat) : Int)), (0, ((b9 : Nat) : Int)), (0, ((m9a : Nat) : Int)), (0, ((n : Nat) : Int)), (0, 0), (0, wrp (((k : Nat) : Int) + 1))]) (st' := []) (w' := (qup w5 137 k (w5 137 k / 1000))) (n' := 142) rfl ?_
                                rw [show wrp (((k : Nat) : Int) + 1) = ((k + 1 : Nat) : Int) from wrp_id (by omega) (by omega)]
                                refine qG.blk 1 (pc' := 150) (ls' := [(2, 95), (0, ((a9 : Nat) : Int)), (0, ((b9 : Nat) : Int)), (0, ((m9a : Nat) : Int)), (0, ((n : Nat) : Int)), (0, 0), (0, ((k + 1 : Nat) : Int))]) (st' := []) (w' := (qup w5 137 k (w5 137 k / 1000))) (n' := 142) rfl ?_
                                exact ih150 _ (by omega) (k + 1) ((qup w5 137 k (w5 137 k / 1000))) (0) rfl (⟨by omega, hI150.2.1.up (by omega) (by omega) (by decide), by first | rfl | (exfalso; rw [qcmp_p] at hc2; omega) | (exfalso; omega)⟩)
                            · skip
                              refine qG.blk 4 (pc' := 201) (ls' := [(2, 95), (0, ((a9 : Nat) : Int)), (0, ((b9 : Nat) : Int)), (0, ((m9a : Nat) : Int)), (0, ((n : Nat) : Int)), (0, 1), (0, wrp (((k : Nat) : Int) + 1))]) (st' := []) (w' := (qup w5 137 k (w5 137 k / 1000))) (n' := 142) rfl ?_
                              rw [show wrp (((k : Nat) : Int) + 1) = ((k + 1 : Nat) : Int) from wrp_id (by omega) (by omega)]
                              refine qG.blk 1 (pc' := 150) (ls' := [(2, 95), (0, ((a9 : Nat) : Int)), (0, ((b9 : Nat) : Int)), (0, ((m9a : Nat) : Int)), (0, ((n : Nat) : Int)), (0, 1), (0, ((k + 1 : Nat) : Int))]) (st' := []) (w' := (qup w5 137 k (w5 137 k / 1000))) (n' := 142) rfl ?_
                              exact ih150 _ (by omega) (k + 1) ((qup w5 137 k (w5 137 k / 1000))) (1) rfl (⟨by omega, hI150.2.1.up (by omega) (by omega) (by decide), by first | rfl | (exfalso; rw [qcmp_p] at hc2; omega) | (exfalso; omega)⟩)
                          · skip
                            refine qG.blk 1 (pc' := 139) (ls' := [(2, 95), (0, ((a9 : Nat) : Int)), (0, ((b9 : Nat) : Int)), (0, ((m9a : Nat) : Int)), (0, ((n : Nat) : Int)), (0, x5b), (0, ((k : Nat) : Int))]) (st' := []) (w' := w5) (n' := 142) rfl ?_
                            exact ih139 _ (by have q : p ≠ 0 := fun z => h5b (hI139.1 z); omega) (0) (w5) (x5b) ((0, ((k : Nat) : Int))) rfl (⟨fun _ => hI150.2.2, fun _ j hj => by have := (hI150.2.1.2.1 j (by omega)).2; omega, ⟨hI150.2.1.1, fun j hj => by have := hI150.2.1.2.1 j (by omega); omega⟩⟩)
                        exact L150 _ (0) (w6) (0) rfl (⟨by omega, hI139.2.2.ini, rfl⟩)
                    exact L139 _ (1) (w7a) (x5) ((0, ((k : Nat) : Int))) rfl (⟨fun z => absurd z (by decide), fun z j hj => hI79.2.2 z j (by omega), hI79.2.1.fin (by omega)⟩)
                exact L79 _ (0) (w8) (0) rfl (⟨by omega, hI67.2.ini, fun _ j hj => absurd hj (Nat.not_lt_zero j)⟩)
            exact L67 _ (a9) (w9) ((9, 0)) ((9, 0)) rfl (⟨by omega, hI41.2.1, fun j hj => hI41.2.2 j (by omega)⟩)
        exact L41 _ (0) (w) rfl (⟨by omega, AW.rf hI, fun j hj => absurd hj (Nat.not_lt_zero j)⟩)
end
