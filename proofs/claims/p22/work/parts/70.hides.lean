/-! the reference's table of poses; hides -/
theorem qG.bld {sc : Option (Nat × (Nat → Int))} {d k pc n m x len : Nat} {ls r : List qV} {w : qW} {Q : qV → qW → Nat → Prop} {i p : Int} (hq : qcd k pc = some (.baload, len)) (hp : qpl p.toNat = (1, 3, m, x)) (hi : 0 ≤ i ∧ i < (m : Int)) (h0 : 0 < p ∧ p ≤ (n : Int)) (g : qG sc d k (pc + 1) ls ((0, w p.toNat i.toNat) :: r) w n Q) : qG sc d k pc ls ((0, i) :: (2, p) :: r) w n Q := by
  refine qG.one (pc' := pc + 1) (ls' := ls) (st' := (0, w p.toNat i.toNat) :: r) (w' := w) (n' := n) ?_ g
  unfold qone
  rw [hq]
  show qs1 sc k .baload len pc ls ((0, i) :: (2, p) :: r) w n = _
  rw [qs1_baload]
  show (match qpl p.toNat with
    | (1, 3, m, _) => if 0 ≤ i ∧ i < (m : Int) then (if 0 < p ∧ p ≤ (n : Int) then some (pc + 1, ls, (0, w p.toNat i.toNat) :: r, w, n) else none) else none
    | (1, 4, m, _) => if 0 ≤ i ∧ i < (m : Int) then (if 0 < p ∧ p ≤ (n : Int) then some (pc + 1, ls, (0, w p.toNat i.toNat) :: r, w, n) else none) else none
    | _ => none) = _
  rw [hp]
  show (if 0 ≤ i ∧ i < (m : Int) then (if 0 < p ∧ p ≤ (n : Int) then some (pc + 1, ls, (0, w p.toNat i.toNat) :: r, w, n) else none) else none) = _
  rw [if_pos hi, if_pos h0]
theorem qG.bst {sc : Option (Nat × (Nat → Int))} {d k pc n m x len : Nat} {ls r : List qV} {w : qW} {Q : qV → qW → Nat → Prop} {i p v : Int} (hq : qcd k pc = some (.bastore, len)) (hp : qpl p.toNat = (1, 3, m, x)) (hi : (0 ≤ i ∧ i < (m : Int)) ∧ 0 ≤ v ∧ v ≤ 1) (h0 : 0 < p ∧ p ≤ (n : Int)) (g : qG sc d k (pc + 1) ls r (qup w p.toNat i.toNat v) n Q) : qG sc d k pc ls ((0, v) :: (0, i) :: (2, p) :: r) w n Q := by
  refine qG.one (pc' := pc + 1) (ls' := ls) (st' := r) (w' := qup w p.toNat i.toNat v) (n' := n) ?_ g
  unfold qone
  rw [hq]
  show qs1 sc k .bastore len pc ls ((0, v) :: (0, i) :: (2, p) :: r) w n = _
  rw [qs1_bastore]
  show (match qpl p.toNat with
    | (1, 3, m, _) => if (0 ≤ i ∧ i < (m : Int)) ∧ 0 ≤ v ∧ v ≤ 1 then (if 0 < p ∧ p ≤ (n : Int) then some (pc + 1, ls, r, qup w p.toNat i.toNat v, n) else none) else none
    | (1, 4, m, _) => if (0 ≤ i ∧ i < (m : Int)) ∧ -128 ≤ v ∧ v ≤ 127 then (if 0 < p ∧ p ≤ (n : Int) then some (pc + 1, ls, r, qup w p.toNat i.toNat v, n) else none) else none
    | _ => none) = _
  rw [hp]
  show (if (0 ≤ i ∧ i < (m : Int)) ∧ 0 ≤ v ∧ v ≤ 1 then (if 0 < p ∧ p ≤ (n : Int) then some (pc + 1, ls, r, qup w p.toNat i.toNat v, n) else none) else none) = _
  rw [if_pos hi, if_pos h0]
noncomputable def nxt (w : qW) (i j : Nat) : Prop := ∃ k : Nat, (k : Int) < w 102 i ∧ w 103 (50 * i + k) = (j : Int)
/-- who can be reached can be left to where one came from -/
noncomputable def S3 (w : qW) : Prop := ∀ i j : Nat, (i : Int) < w 95 8 → nxt w i j → (j : Int) < w 95 8 ∧ nxt w j i
theorem S3.cong {w w1 : qW} (h : S3 w) (h8 : w1 95 8 = w 95 8) (h2 : ∀ i, w1 102 i = w 102 i) (h3 : ∀ i, w1 103 i = w 103 i) : S3 w1 := by
  have e : ∀ i j, nxt w1 i j ↔ nxt w i j := fun i j => by unfold nxt; simp only [h2, h3]
  intro i j hi hn
  rw [h8] at hi ⊢
  rw [e] at hn ⊢
  exact h i j hi hn
theorem cM_ex {w : qW} {c k a : Nat} {l : List Nat} : ∀ {m : Nat}, m ≤ l.length → ∀ q, q < cM w c k l a m → ∃ j, j < m ∧ cM w c k l a j = q ∧ mvB w c k (a : Int) ((l.getD j 0 : Nat) : Int) = true
  | 0, _, q, hq => by
    have : cM w c k l a 0 = 0 := by unfold cM; rw [List.take_zero]; rfl
    omega
  | m + 1, hm, q, hq => by
    rw [cM_s (by omega)] at hq
    by_cases h : q < cM w c k l a m
    · obtain ⟨j, h1, h2, h3⟩ := cM_ex (m := m) (by omega) q h
      exact ⟨j, by omega, h2, h3⟩
    · by_cases hb : mvB w c k (a : Int) ((l.getD m 0 : Nat) : Int) = true
      · rw [if_pos hb] at hq
        exact ⟨m, by omega, by omega, hb⟩
      · rw [if_neg hb] at hq; omega
theorem mv_sym {w : qW} {c k a b : Nat} (ha : a < 65536) (hb : b < 65536) (h : mvB w c k (a : Int) (b : Int) = true) : mvB w c k (b : Int) (a : Int) = true := by
  have e1 : qand (b : Int) (a : Int) = qand (a : Int) (b : Int) := by rw [qand_n (by omega) (by omega), qand_n (by omega) (by omega), Nat.and_comm]
  have e2 : qor (b : Int) (a : Int) = qor (a : Int) (b : Int) := by rw [qor_n (by omega) (by omega), qor_n (by omega) (by omega), Nat.or_comm]
  unfold mvB at h ⊢
  rw [e1, e2]
  rw [Bool.or_eq_true] at h ⊢
  exact h.imp (fun z => by rw [decide_eq_true_eq] at z ⊢; exact z.symm) id
/-- what findsPoses leaves -/
noncomputable def fpP (w : qW) (c k : Nat) (w1 : qW) : Prop := (w 95 9 = ((8 * c + k : Nat) : Int) ∧ w1 = w) ∨ (¬ w 95 9 = ((8 * c + k : Nat) : Int) ∧ ∃ wA, fpI w c k 65536 wA ∧ fpJ wA w1 ∧ fpN w c k 65536 w1 (fpL w c k 65536).length)
theorem fpP.aw {w w1 : qW} {c k : Nat} (hI : yInv zgf zga zra zSp w) (h : fpP w c k w1) : AW zfpm w w1 := by
  rcases h with ⟨-, rfl⟩ | ⟨-, wA, hA, hJ, -⟩
  · exact AW.rf hI
  · exact ⟨hJ.2, fun p j hpj => zfpm_f hA hJ hpj⟩
theorem fpP.s3 {w w1 : qW} {c k : Nat} (hk1 : 1 ≤ k) (hk2 : k ≤ 4) (h : fpP w c k w1) (hS : S3 w) : S3 w1 := by
  rcases h with ⟨-, rfl⟩ | ⟨-, wA, hA, hJ, hN⟩
  · exact hS
  have h8 : w1 95 8 = (((fpL w c k 65536).length : Nat) : Int) := (hJ.1 95 8 (by decide) (by decide)).trans hA.1
  have hin : ∀ i, i < (fpL w c k 65536).length → (fpL w c k 65536).getD i 0 < 65536 ∧ pc ((fpL w c k 65536).getD i 0) 16 = k := fun i hi => by
    rw [List.getD_eq_getElem?_getD, List.getElem?_eq_getElem hi]
    exact fpL_in (Nat.le_refl _) (List.getElem_mem hi)
  intro i j hi hn
  rw [h8] at hi ⊢
  have hi : i < (fpL w c k 65536).length := by omega
  obtain ⟨q, hq, hqj⟩ := hn
  obtain ⟨n1, n2⟩ := hN i hi
  rw [n1] at hq
  obtain ⟨j2, hj2, hc2, hm2⟩ := cM_ex (w := w) (c := c) (k := k) (a := (fpL w c k 65536).getD i 0) (l := fpL w c k 65536) (Nat.le_refl _) q (by omega)
  have hw := n2 j2 hj2 hm2
  rw [hc2, hqj] at hw
  have e : j = j2 := by omega
  subst e
  refine ⟨by omega, ?_⟩
  obtain ⟨m1, m2⟩ := hN j hj2
  have hms := mv_sym (hin i hi).1 (hin j hj2).1 hm2
  exact ⟨_, by rw [m1]; exact Int.ofNat_lt.mpr (cM_lt hi (Nat.le_refl _) hms), m2 i hi hms⟩
theorem K_fp {d : Nat} (hd : 5 ≤ d) (c k : Nat) (hc : c < 3) (hk1 : 1 ≤ k) (hk2 : k ≤ 4) (w : qW) (hI : yInv zgf zga zra zSp w) (hS : S3 w) : qG none d 220 0 (qini 220 [(2, 95), (0, ((c : Nat) : Int)), (0, ((k : Nat) : Int))]) [] w 142 (fun r w1 n1 => r = (9, 0) ∧ n1 = 142 ∧ fpP w c k w1 ∧ AW zfpm w w1 ∧ S3 w1) := by
  refine qG.mono (K_findsPoses hd c k hc hk1 hk2 w hI) ?_
  rintro r w1 n1 ⟨h1, h2, h3⟩
  have h3 : fpP w c k w1 := h3
  exact ⟨h1, h2, h3, h3.aw hI, h3.s3 hk1 hk2 hS⟩
noncomputable def b01 (b : Bool) : Int := if b = true then 1 else 0
theorem b01_in (b : Bool) : 0 ≤ b01 b ∧ b01 b ≤ 1 := by cases b <;> decide
theorem b01_0 {b : Bool} (h : b01 b = 0) : b = false := by cases b; rfl; cases h
theorem b01_1 {b : Bool} (h : ¬ b01 b = 0) : b = true := by cases b; exact absurd rfl h; rfl
noncomputable def anyF (f : Nat → Bool) (g : Nat → Nat) : Nat → Bool
  | 0 => false
  | k + 1 => anyF f g k || f (g k)
theorem anyF_le {f : Nat → Bool} {g : Nat → Nat} {k : Nat} (h : anyF f g k = true) : ∀ m, k ≤ m → anyF f g m = true
  | 0, hm => by rw [show k = 0 by omega] at h; exact h
  | m + 1, hm => by
    by_cases e : k = m + 1
    · rw [← e]; exact h
    · show (anyF f g m || _) = true
      rw [anyF_le h m (by omega)]; rfl
theorem anyF_in {f : Nat → Bool} {g : Nat → Nat} : ∀ {m : Nat}, anyF f g m = true → ∃ k, k < m ∧ f (g k) = true
  | 0, h => by cases h
  | m + 1, h => by
    have h : (anyF f g m || f (g m)) = true := h
    rw [Bool.or_eq_true] at h
    rcases h with h | h
    · obtain ⟨k, hk, hf⟩ := anyF_in h
      exact ⟨k, by omega, hf⟩
    · exact ⟨m, by omega, h⟩
theorem anyF_mk {f : Nat → Bool} {g : Nat → Nat} {k m : Nat} (hk : k < m) (h : f (g k) = true) : anyF f g m = true := by
  refine anyF_le (k := k + 1) ?_ m hk
  show (anyF f g k || f (g k)) = true
  rw [h, Bool.or_true]
noncomputable def cntF (f : Nat → Bool) : Nat → Nat
  | 0 => 0
  | i + 1 => cntF f i + (if f i = true then 1 else 0)
theorem cntF_le (f : Nat → Bool) : ∀ i, cntF f i ≤ i
  | 0 => Nat.le_refl 0
  | i + 1 => by
    have := cntF_le f i
    show cntF f i + (if f i = true then 1 else 0) ≤ i + 1
    split <;> omega
theorem cntF_all {f : Nat → Bool} (h : ∀ i, f i = true) : ∀ i, cntF f i = i
  | 0 => rfl
  | i + 1 => by
    show cntF f i + (if f i = true then 1 else 0) = i + 1
    rw [cntF_all h i, if_pos (h i)]
theorem cntF_in {f : Nat → Bool} : ∀ {i : Nat}, cntF f i ≠ 0 → ∃ j, j < i ∧ f j = true
  | 0, h => absurd rfl h
  | i + 1, h => by
    by_cases hf : f i = true
    · exact ⟨i, by omega, hf⟩
    · have h : cntF f i + (if f i = true then 1 else 0) ≠ 0 := h
      rw [if_neg hf] at h
      obtain ⟨j, hj, hfj⟩ := cntF_in h
      exact ⟨j, by omega, hfj⟩
theorem cntF_y {f : Nat → Bool} {i : Nat} (h : f i = true) : cntF f (i + 1) = cntF f i + 1 := by
  show cntF f i + (if f i = true then 1 else 0) = cntF f i + 1
  rw [if_pos h]
theorem cntF_n {f : Nat → Bool} {i : Nat} (h : f i = false) : cntF f (i + 1) = cntF f i := by
  show cntF f i + (if f i = true then 1 else 0) = cntF f i
  rw [h]; rfl
noncomputable def nxF (w : qW) (i k : Nat) : Nat := (w 103 (50 * i + k)).toNat
noncomputable def clF (w : qW) (t i : Nat) : Bool := decide (qand (w 101 i) (w 116 t) = 0)
/-- who can stand at i after t seconds -/
noncomputable def cF (w : qW) : Nat → Nat → Bool
  | 0, _ => true
  | t + 1, i => clF w t i && anyF (cF w t) (nxF w i) (w 102 i).toNat
theorem nx_e {w : qW} (hI : yInv zgf zga zra zSp w) (i k : Nat) : w 103 (50 * i + k) = ((nxF w i k : Nat) : Int) := by
  have h := hI.2.1 103 (50 * i + k) (0, 1819) rfl rfl
  have h0 : (0 : Int) ≤ w 103 (50 * i + k) := h.1
  unfold nxF
  omega
theorem nx_lt {w : qW} (hI : yInv zgf zga zra zSp w) (hS : S3 w) {i k N : Nat} (hN : w 95 8 = (N : Int)) (hi : i < N) (hk : (k : Int) < w 102 i) : nxF w i k < N := by
  have := (hS i (nxF w i k) (by omega) ⟨k, hk, nx_e hI i k⟩).1
  omega
noncomputable def hdW (w0 w9 : qW) : Prop := (∀ p j, p ≠ 117 → p ≠ 118 → ¬ (p = 95 ∧ j = 46) → w9 p j = w0 p j) ∧ yInv zgf zga zra zSp w9
theorem hdW.u46 {w0 w9 : qW} {v : Int} (h : hdW w0 w9) (h0 : -1 ≤ v) (h1 : v ≤ 800) : hdW w0 (qup w9 95 46 v) := ⟨fun p j h1 h2 h3 => by rw [qup95 h3]; exact h.1 p j h1 h2 h3, zup_f h.2 (b := (-1, 800)) rfl rfl rfl ⟨h0, h1⟩⟩
theorem hdW.u117 {w0 w9 : qW} {v : Int} {i : Nat} (h : hdW w0 w9) (hv : 0 ≤ v ∧ v ≤ 1) : hdW w0 (qup w9 117 i v) := ⟨fun p j h1 h2 h3 => by rw [qup_ne h1]; exact h.1 p j h1 h2 h3, zup_a h.2 (b := (0, 1)) rfl rfl hv⟩
theorem hdW.u118 {w0 w9 : qW} {v : Int} {i : Nat} (h : hdW w0 w9) (hv : 0 ≤ v ∧ v ≤ 1) : hdW w0 (qup w9 118 i v) := ⟨fun p j h1 h2 h3 => by rw [qup_ne h2]; exact h.1 p j h1 h2 h3, zup_a h.2 (b := (0, 1)) rfl rfl hv⟩
theorem rows.nx {w : qW} {p i : Nat} {f : Nat → Int} {v : Int} (h : ∀ j, j < i → w p j = f j) (hv : v = f i) : ∀ j, j < i + 1 → qup w p i v p j = f j := fun j hj => by
  by_cases e : j = i
  · subst e; rw [qup_k]; exact hv
  · rw [qup_j e]; exact h j (by omega)
theorem rows.ke {w : qW} {p i N : Nat} {f : Nat → Int} {v : Int} (h : ∀ j, j < i → w p j = f j) (hN : i ≤ N) : ∀ j, j < i → qup w p N v p j = f j := fun j hj => by rw [qup_j (by omega)]; exact h j hj
theorem rows.e1 {w : qW} {p i : Nat} {f : Nat → Int} (h : ∀ j, j < i → w p j = f j) (hv : w p i = f i) : ∀ j, j < i + 1 → w p j = f j := fun j hj => by
  by_cases e : j = i
  · subst e; exact hv
  · exact h j (by omega)
theorem hd_E {w : qW} {t i k : Nat} (hI : yInv zgf zga zra zSp w) (hk : (k : Int) ≤ w 102 i) (h : (¬ (k : Int) < w 102 i) ∨ (clF w t i && anyF (cF w t) (nxF w i) k) = true ∨ clF w t i = false) : (clF w t i && anyF (cF w t) (nxF w i) k) = cF w (t + 1) i := by
  show _ = (clF w t i && anyF (cF w t) (nxF w i) (w 102 i).toNat)
  rcases h with h | h | h
  · rw [show (w 102 i).toNat = k by omega]
  · rw [h]
    rw [Bool.and_eq_true] at h
    rw [h.1, anyF_le h.2 _ (by omega)]; rfl
  · rw [h]; rfl
theorem hd_S {w : qW} {t i k : Nat} (h : qand (w 101 i) (w 116 t) = 0) (hn : (clF w t i && anyF (cF w t) (nxF w i) k) = false) : b01 (cF w t (nxF w i k)) = b01 (clF w t i && anyF (cF w t) (nxF w i) (k + 1)) := by
  have e : clF w t i = true := decide_eq_true h
  rw [e, Bool.true_and] at hn ⊢
  show _ = b01 (anyF (cF w t) (nxF w i) k || cF w t (nxF w i k))
  rw [hn, Bool.false_or]
theorem K_hides {d : Nat} (hd : 6 ≤ d) (c k9 : Nat) (hc : c < 3) (hk1 : 1 ≤ k9) (hk2 : k9 ≤ 4) (w : qW) (hI : yInv zgf zga zra zSp w) (hS : S3 w) : qG none d 257 0 [(2, 95), (0, ((c : Nat) : Int)), (0, ((k9 : Nat) : Int)), (9, 0), (9, 0), (9, 0), (9, 0)] [] w 142 (fun (r : qV) (w1 : qW) (n1 : Nat) => n1 = 142 ∧ ∃ w0, fpP w c k9 w0 ∧ AW zfpm w w0 ∧ S3 w0 ∧ hdW w0 w1 ∧ ∃ N S t : Nat, w0 95 8 = (N : Int) ∧ w0 95 37 = (S : Int) ∧ t ≤ S ∧ r = (0, ((cntF (cF w0 t) N : Nat) : Int)) ∧ (t = S ∨ cntF (cF w0 t) N = 0)) := by
  generalize hQ9 : (fun (r : qV) (w1 : qW) (n1 : Nat) => n1 = 142 ∧ ∃ w0, fpP w c k9 w0 ∧ AW zfpm w w0 ∧ S3 w0 ∧ hdW w0 w1 ∧ ∃ N S t : Nat, w0 95 8 = (N : Int) ∧ w0 95 37 = (S : Int) ∧ t ≤ S ∧ r = (0, ((cntF (cF w0 t) N : Nat) : Int)) ∧ (t = S ∨ cntF (cF w0 t) N = 0)) = Q9
  obtain ⟨d, rfl⟩ : ∃ d9, d = d9 + 1 := ⟨d - 1, by omega⟩
  refine qG.blk 3 (pc' := 3) (ls' := [(2, 95), (0, ((c : Nat) : Int)), (0, ((k9 : Nat) : Int)), (9, 0), (9, 0), (9, 0), (9, 0)]) (st' := [(0, ((k9 : Nat) : Int)), (0, ((c : Nat) : Int)), (2, 95)]) (w' := w) (n' := 142) rfl ?_
  refine qG.call (t := 220) (na := 3) (sk := 1) (md := 1) (ls1 := [(2, 95), (0, ((c : Nat) : Int)), (0, ((k9 : Nat) : Int)), (9, 0), (9, 0)]) (r1 := []) rfl rfl rfl rfl rfl (K_fp (by omega) c k9 hc hk1 hk2 w hI hS) ?_
  rintro _ w0 _ ⟨rfl, rfl, hfp, hA0, hS0⟩
  have h8 := zfld hA0.1 (j := 8) (b := (0, 1820)) rfl
  have h37 := zfld hA0.1 (j := 37) (b := (0, 800)) rfl
  have a8 : (0 : Int) ≤ w0 95 8 := h8.1
  have b8 : w0 95 8 ≤ (1820 : Int) := h8.2
  have a37 : (0 : Int) ≤ w0 95 37 := h37.1
  have b37 : w0 95 37 ≤ (800 : Int) := h37.2
  obtain ⟨N, hN⟩ : ∃ N : Nat, w0 95 8 = (N : Int) := ⟨(w0 95 8).toNat, by omega⟩
  obtain ⟨S, hSS⟩ : ∃ S : Nat, w0 95 37 = (S : Int) := ⟨(w0 95 37).toNat, by omega⟩
  have hm2 : ∀ i, (0 : Int) ≤ w0 102 i ∧ w0 102 i ≤ 50 := fun i => hA0.1.2.1 102 i (0, 50) rfl rfl
  show qG none (d + 1) 257 6 [(2, 95), (0, ((c : Nat) : Int)), (0, ((k9 : Nat) : Int)), (9, 0), (9, 0), (9, 0), (9, 0)] [] w0 142 Q9
  refine qG.blk 3 (pc' := 11) (ls' := [(2, 95), (0, ((c : Nat) : Int)), (0, ((k9 : Nat) : Int)), (9, 0), (9, 0), (9, 0), (9, 0)]) (st' := [(0, w0 95 8), (2, 95)]) (w' := w0) (n' := 142) rfl ?_
  rw [show w0 95 8 = ((N : Nat) : Int) from hN]
  refine qG.br (P := ((N : Nat) : Int) = 0) (pc1 := 14) (pc2 := 18) (st1 := [(2, 95)]) rfl (fun h1 => ?_) (fun h1 => ?_)
  · skip
    refine qG.blk 5 (pc' := 26) (ls' := [(2, 95), (0, ((c : Nat) : Int)), (0, ((k9 : Nat) : Int)), (9, 0), (9, 0), (9, 0), (9, 0)]) (st' := [(0, w0 95 8)]) (w' := (qup w0 95 46 0)) (n' := 142) rfl ?_
    rw [show w0 95 8 = ((N : Nat) : Int) from hN]
    refine qG.blk 3 (pc' := 30) (ls' := [(2, 95), (0, ((c : Nat) : Int)), (0, ((k9 : Nat) : Int)), (0, ((N : Nat) : Int)), (0, 0), (9, 0), (9, 0)]) (st' := []) (w' := (qup w0 95 46 0)) (n' := 142) rfl ?_
    have L30 : ∀ (m9 : Nat) (i : Nat) (w9 : qW), N - i = m9 → (i ≤ N ∧ hdW w0 w9 ∧ ∀ j, j < i → w9 117 j = 1) → qG none (d + 1) 257 30 [(2, 95), (0, ((c : Nat) : Int)), (0, ((k9 : Nat) : Int)), (0, ((N : Nat) : Int)), (0, ((i : Nat) : Int)), (9, 0), (9, 0)] [] w9 142 Q9 := by
      intro m9
      induction m9 using Nat.strongRecOn with
      | ind m9 ih30 =>
      intro i w9 hm30 hI30
      refine qG.blk 3 (pc' := 36) (ls' := [(2, 95), (0, ((c : Nat) : Int)), (0, ((k9 : Nat) : Int)), (0, ((N : Nat) : Int)), (0, ((i : Nat) : Int)), (9, 0), (9, 0)]) (st' := [(0, w9 95 8), (0, ((i : Nat) : Int))]) (w' := w9) (n' := 142) rfl ?_
      rw [show w9 95 8 = ((N : Nat) : Int) from (hI30.2.1.1 95 (8) (by decide) (by decide) (fun z => by cases z.2)).trans hN]
      refine qG.br (P := ((i : Nat) : Int) < ((N : Nat) : Int)) (pc1 := 39) (pc2 := 53) (st1 := []) rfl (fun h2 => ?_) (fun h2 => ?_)
      · skip
        refine qG.blk 2 (pc' := 43) (ls' := [(2, 95), (0, ((c : Nat) : Int)), (0, ((k9 : Nat) : Int)), (0, ((N : Nat) : Int)), (0, ((i : Nat) : Int)), (9, 0), (9, 0)]) (st' := [(2, w9 95 44)]) (w' := w9) (n' := 142) rfl ?_
        rw [show w9 95 44 = 117 from zref hI30.2.1.2 rfl rfl]
        refine qG.blk 2 (pc' := 46) (ls' := [(2, 95), (0, ((c : Nat) : Int)), (0, ((k9 : Nat) : Int)), (0, ((N : Nat) : Int)), (0, ((i : Nat) : Int)), (9, 0), (9, 0)]) (st' := [(0, 1), (0, ((i : Nat) : Int)), (2, 117)]) (w' := w9) (n' := 142) rfl ?_
        refine qG.bst (m := 1820) rfl rfl (by omega) (by decide) ?_
        show qG none (d + 1) 257 47 [(2, 95), (0, ((c : Nat) : Int)), (0, ((k9 : Nat) : Int)), (0, ((N : Nat) : Int)), (0, ((i : Nat) : Int)), (9, 0), (9, 0)] [] (qup w9 117 i 1) 142 Q9
        refine qG.blk 1 (pc' := 50) (ls' := [(2, 95), (0, ((c : Nat) : Int)), (0, ((k9 : Nat) : Int)), (0, ((N : Nat) : Int)), (0, wrp (((i : Nat) : Int) + 1)), (9, 0), (9, 0)]) (st' := []) (w' := (qup w9 117 i 1)) (n' := 142) rfl ?_
        rw [show wrp (((i : Nat) : Int) + 1) = ((i + 1 : Nat) : Int) from wrp_id (by omega) (by omega)]
        refine qG.blk 1 (pc' := 30) (ls' := [(2, 95), (0, ((c : Nat) : Int)), (0, ((k9 : Nat) : Int)), (0, ((N : Nat) : Int)), (0, ((i + 1 : Nat) : Int)), (9, 0), (9, 0)]) (st' := []) (w' := (qup w9 117 i 1)) (n' := 142) rfl ?_
        exact ih30 _ (by omega) (i + 1) ((qup w9 117 i 1)) rfl (⟨by omega, hdW.u117 hI30.2.1 (by decide), rows.nx (f := fun _ => 1) hI30.2.2 rfl⟩)
      · skip
        refine qG.blk 2 (pc' := 56) (ls' := [(2, 95), (0, ((c : Nat) : Int)), (0, ((k9 : Nat) : Int)), (0, ((N : Nat) : Int)), (0, 0), (9, 0), (9, 0)]) (st' := []) (w' := w9) (n' := 142) rfl ?_
        have L56 : ∀ (m9 : Nat) (t m : Nat) (w8 : qW) (x5 x6 : qV), S - t = m9 → (t ≤ S ∧ hdW w0 w8 ∧ (∀ j, j < N → w8 117 j = b01 (cF w0 t j)) ∧ m = cntF (cF w0 t) N) → qG none (d + 1) 257 56 [(2, 95), (0, ((c : Nat) : Int)), (0, ((k9 : Nat) : Int)), (0, ((m : Nat) : Int)), (0, ((t : Nat) : Int)), x5, x6] [] w8 142 Q9 := by
          intro m9
          induction m9 using Nat.strongRecOn with
          | ind m9 ih56 =>
          intro t m w8 x5 x6 hm56 hI56
          have hm9 := cntF_le (cF w0 t) N
          rw [← hI56.2.2.2] at hm9
          refine qG.blk 3 (pc' := 62) (ls' := [(2, 95), (0, ((c : Nat) : Int)), (0, ((k9 : Nat) : Int)), (0, ((m : Nat) : Int)), (0, ((t : Nat) : Int)), x5, x6]) (st' := [(0, w8 95 37), (0, ((t : Nat) : Int))]) (w' := w8) (n' := 142) rfl ?_
          rw [show w8 95 37 = ((S : Nat) : Int) from (hI56.2.1.1 95 (37) (by decide) (by decide) (fun z => by cases z.2)).trans hSS]
          refine qG.br (P := ((t : Nat) : Int) < ((S : Nat) : Int)) (pc1 := 65) (pc2 := 237) (st1 := []) rfl (fun hts => ?_) (fun hts => ?_)
          · skip
            refine qG.blk 1 (pc' := 66) (ls' := [(2, 95), (0, ((c : Nat) : Int)), (0, ((k9 : Nat) : Int)), (0, ((m : Nat) : Int)), (0, ((t : Nat) : Int)), x5, x6]) (st' := [(0, ((m : Nat) : Int))]) (w' := w8) (n' := 142) rfl ?_
            refine qG.br (P := 0 < ((m : Nat) : Int)) (pc1 := 69) (pc2 := 237) (st1 := []) rfl (fun hmp => ?_) (fun hmp => ?_)
            · skip
              refine qG.blk 4 (pc' := 74) (ls' := [(2, 95), (0, ((c : Nat) : Int)), (0, ((k9 : Nat) : Int)), (0, 0), (0, ((t : Nat) : Int)), (0, 0), x6]) (st' := []) (w' := w8) (n' := 142) rfl ?_
              have L74 : ∀ (m9 : Nat) (i m2 : Nat) (w7 : qW) (x6 : qV), N - i = m9 → (i ≤ N ∧ hdW w0 w7 ∧ (∀ j, j < N → w7 117 j = b01 (cF w0 t j)) ∧ (∀ j, j < i → w7 118 j = b01 (cF w0 (t + 1) j)) ∧ m2 = cntF (cF w0 (t + 1)) i ∧ m2 ≤ i) → qG none (d + 1) 257 74 [(2, 95), (0, ((c : Nat) : Int)), (0, ((k9 : Nat) : Int)), (0, ((m2 : Nat) : Int)), (0, ((t : Nat) : Int)), (0, ((i : Nat) : Int)), x6] [] w7 142 Q9 := by
                intro m9
                induction m9 using Nat.strongRecOn with
                | ind m9 ih74 =>
                intro i m2 w7 x6 hm74 hI74
                have hm2i := hm2 i
                refine qG.blk 3 (pc' := 80) (ls' := [(2, 95), (0, ((c : Nat) : Int)), (0, ((k9 : Nat) : Int)), (0, ((m2 : Nat) : Int)), (0, ((t : Nat) : Int)), (0, ((i : Nat) : Int)), x6]) (st' := [(0, w7 95 8), (0, ((i : Nat) : Int))]) (w' := w7) (n' := 142) rfl ?_
                rw [show w7 95 8 = ((N : Nat) : Int) from (hI74.2.1.1 95 (8) (by decide) (by decide) (fun z => by cases z.2)).trans hN]
                refine qG.br (P := ((i : Nat) : Int) < ((N : Nat) : Int)) (pc1 := 83) (pc2 := 189) (st1 := []) rfl (fun hiN => ?_) (fun hiN => ?_)
                · skip
                  refine qG.blk 2 (pc' := 87) (ls' := [(2, 95), (0, ((c : Nat) : Int)), (0, ((k9 : Nat) : Int)), (0, ((m2 : Nat) : Int)), (0, ((t : Nat) : Int)), (0, ((i : Nat) : Int)), x6]) (st' := [(2, w7 95 45)]) (w' := w7) (n' := 142) rfl ?_
                  rw [show w7 95 45 = 118 from zref hI74.2.1.2 rfl rfl]
                  refine qG.blk 2 (pc' := 90) (ls' := [(2, 95), (0, ((c : Nat) : Int)), (0, ((k9 : Nat) : Int)), (0, ((m2 : Nat) : Int)), (0, ((t : Nat) : Int)), (0, ((i : Nat) : Int)), x6]) (st' := [(0, 0), (0, ((i : Nat) : Int)), (2, 118)]) (w' := w7) (n' := 142) rfl ?_
                  refine qG.bst (m := 1820) rfl rfl (by omega) (by decide) ?_
                  show qG none (d + 1) 257 91 [(2, 95), (0, ((c : Nat) : Int)), (0, ((k9 : Nat) : Int)), (0, ((m2 : Nat) : Int)), (0, ((t : Nat) : Int)), (0, ((i : Nat) : Int)), x6] [] (qup w7 118 i 0) 142 Q9
                  refine qG.blk 2 (pc' := 94) (ls' := [(2, 95), (0, ((c : Nat) : Int)), (0, ((k9 : Nat) : Int)), (0, ((m2 : Nat) : Int)), (0, ((t : Nat) : Int)), (0, ((i : Nat) : Int)), (0, 0)]) (st' := []) (w' := (qup w7 118 i 0)) (n' := 142) rfl ?_
                  have L94 : ∀ (m9 : Nat) (k : Nat) (w6 : qW), 50 - k = m9 → ((k : Int) ≤ w0 102 i ∧ hdW w0 w6 ∧ (∀ j, j < N → w6 117 j = b01 (cF w0 t j)) ∧ (∀ j, j < i → w6 118 j = b01 (cF w0 (t + 1) j)) ∧ w6 118 i = b01 (clF w0 t i && anyF (cF w0 t) (nxF w0 i) k)) → qG none (d + 1) 257 94 [(2, 95), (0, ((c : Nat) : Int)), (0, ((k9 : Nat) : Int)), (0, ((m2 : Nat) : Int)), (0, ((t : Nat) : Int)), (0, ((i : Nat) : Int)), (0, ((k : Nat) : Int))] [] w6 142 Q9 := by
                    intro m9
                    induction m9 using Nat.strongRecOn with
                    | ind m9 ih94 =>
                    intro k w6 hm94 hI94
                    have hm2i := hm2 i
                    refine qG.blk 3 (pc' := 100) (ls' := [(2, 95), (0, ((c : Nat) : Int)), (0, ((k9 : Nat) : Int)), (0, ((m2 : Nat) : Int)), (0, ((t : Nat) : Int)), (0, ((i : Nat) : Int)), (0, ((k : Nat) : Int))]) (st' := [(2, w6 95 6), (0, ((k : Nat) : Int))]) (w' := w6) (n' := 142) rfl ?_
                    rw [show w6 95 6 = 102 from zref hI94.2.1.2 rfl rfl]
                    refine qG.blk 1 (pc' := 102) (ls' := [(2, 95), (0, ((c : Nat) : Int)), (0, ((k9 : Nat) : Int)), (0, ((m2 : Nat) : Int)), (0, ((t : Nat) : Int)), (0, ((i : Nat) : Int)), (0, ((k : Nat) : Int))]) (st' := [(0, ((i : Nat) : Int)), (2, 102), (0, ((k : Nat) : Int))]) (w' := w6) (n' := 142) rfl ?_
                    refine qG.ild (m := 1820) rfl rfl (by omega) (by decide) ?_
                    show qG none (d + 1) 257 103 [(2, 95), (0, ((c : Nat) : Int)), (0, ((k9 : Nat) : Int)), (0, ((m2 : Nat) : Int)), (0, ((t : Nat) : Int)), (0, ((i : Nat) : Int)), (0, ((k : Nat) : Int))] [(0, w6 102 i), (0, ((k : Nat) : Int))] w6 142 Q9
                    rw [show w6 102 i = w0 102 i from hI94.2.1.1 102 (i) (by decide) (by decide) (fun z => by cases z.1)]
                    refine qG.br (P := ((k : Nat) : Int) < w0 102 i) (pc1 := 106) (pc2 := 165) (st1 := []) rfl (fun hkm => ?_) (fun hkm => ?_)
                    · skip
                      have hnx : nxF w0 i k < N := nx_lt hA0.1 hS0 hN (by omega) hkm
                      refine qG.blk 2 (pc' := 110) (ls' := [(2, 95), (0, ((c : Nat) : Int)), (0, ((k9 : Nat) : Int)), (0, ((m2 : Nat) : Int)), (0, ((t : Nat) : Int)), (0, ((i : Nat) : Int)), (0, ((k : Nat) : Int))]) (st' := [(2, w6 95 45)]) (w' := w6) (n' := 142) rfl ?_
                      rw [show w6 95 45 = 118 from zref hI94.2.1.2 rfl rfl]
                      refine qG.blk 1 (pc' := 112) (ls' := [(2, 95), (0, ((c : Nat) : Int)), (0, ((k9 : Nat) : Int)), (0, ((m2 : Nat) : Int)), (0, ((t : Nat) : Int)), (0, ((i : Nat) : Int)), (0, ((k : Nat) : Int))]) (st' := [(0, ((i : Nat) : Int)), (2, 118)]) (w' := w6) (n' := 142) rfl ?_
                      refine qG.bld (m := 1820) rfl rfl (by omega) (by decide) ?_
                      show qG none (d + 1) 257 113 [(2, 95), (0, ((c : Nat) : Int)), (0, ((k9 : Nat) : Int)), (0, ((m2 : Nat) : Int)), (0, ((t : Nat) : Int)), (0, ((i : Nat) : Int)), (0, ((k : Nat) : Int))] [(0, w6 118 i)] w6 142 Q9
                      rw [show w6 118 i = b01 (clF w0 t i && anyF (cF w0 t) (nxF w0 i) k) from hI94.2.2.2.2]
                      refine qG.br (P := b01 (clF w0 t i && anyF (cF w0 t) (nxF w0 i) k) = 0) (pc1 := 116) (pc2 := 165) (st1 := []) rfl (fun htn => ?_) (fun htn => ?_)
                      · skip
                        refine qG.blk 2 (pc' := 120) (ls' := [(2, 95), (0, ((c : Nat) : Int)), (0, ((k9 : Nat) : Int)), (0, ((m2 : Nat) : Int)), (0, ((t : Nat) : Int)), (0, ((i : Nat) : Int)), (0, ((k : Nat) : Int))]) (st' := [(2, w6 95 5)]) (w' := w6) (n' := 142) rfl ?_
                        rw [show w6 95 5 = 101 from zref hI94.2.1.2 rfl rfl]
                        refine qG.blk 1 (pc' := 122) (ls' := [(2, 95), (0, ((c : Nat) : Int)), (0, ((k9 : Nat) : Int)), (0, ((m2 : Nat) : Int)), (0, ((t : Nat) : Int)), (0, ((i : Nat) : Int)), (0, ((k : Nat) : Int))]) (st' := [(0, ((i : Nat) : Int)), (2, 101)]) (w' := w6) (n' := 142) rfl ?_
                        refine qG.ild (m := 1820) rfl rfl (by omega) (by decide) ?_
                        show qG none (d + 1) 257 123 [(2, 95), (0, ((c : Nat) : Int)), (0, ((k9 : Nat) : Int)), (0, ((m2 : Nat) : Int)), (0, ((t : Nat) : Int)), (0, ((i : Nat) : Int)), (0, ((k : Nat) : Int))] [(0, w6 101 i)] w6 142 Q9
                        rw [show w6 101 i = w0 101 i from hI94.2.1.1 101 (i) (by decide) (by decide) (fun z => by cases z.1)]
                        refine qG.blk 2 (pc' := 127) (ls' := [(2, 95), (0, ((c : Nat) : Int)), (0, ((k9 : Nat) : Int)), (0, ((m2 : Nat) : Int)), (0, ((t : Nat) : Int)), (0, ((i : Nat) : Int)), (0, ((k : Nat) : Int))]) (st' := [(2, w6 95 36), (0, w0 101 i)]) (w' := w6) (n' := 142) rfl ?_
                        rw [show w6 95 36 = 116 from zref hI94.2.1.2 rfl rfl]
                        refine qG.blk 1 (pc' := 129) (ls' := [(2, 95), (0, ((c : Nat) : Int)), (0, ((k9 : Nat) : Int)), (0, ((m2 : Nat) : Int)), (0, ((t : Nat) : Int)), (0, ((i : Nat) : Int)), (0, ((k : Nat) : Int))]) (st' := [(0, ((t : Nat) : Int)), (2, 116), (0, w0 101 i)]) (w' := w6) (n' := 142) rfl ?_
                        refine qG.ild (m := 900) rfl rfl (by omega) (by decide) ?_
                        show qG none (d + 1) 257 130 [(2, 95), (0, ((c : Nat) : Int)), (0, ((k9 : Nat) : Int)), (0, ((m2 : Nat) : Int)), (0, ((t : Nat) : Int)), (0, ((i : Nat) : Int)), (0, ((k : Nat) : Int))] [(0, w6 116 t), (0, w0 101 i)] w6 142 Q9
                        rw [show w6 116 t = w0 116 t from hI94.2.1.1 116 (t) (by decide) (by decide) (fun z => by cases z.1)]
                        refine qG.blk 1 (pc' := 131) (ls' := [(2, 95), (0, ((c : Nat) : Int)), (0, ((k9 : Nat) : Int)), (0, ((m2 : Nat) : Int)), (0, ((t : Nat) : Int)), (0, ((i : Nat) : Int)), (0, ((k : Nat) : Int))]) (st' := [(0, qand (w0 101 i) (w0 116 t))]) (w' := w6) (n' := 142) rfl ?_
                        refine qG.br (P := qand (w0 101 i) (w0 116 t) = 0) (pc1 := 134) (pc2 := 165) (st1 := []) rfl (fun hcl => ?_) (fun hcl => ?_)
                        · skip
                          refine qG.blk 2 (pc' := 138) (ls' := [(2, 95), (0, ((c : Nat) : Int)), (0, ((k9 : Nat) : Int)), (0, ((m2 : Nat) : Int)), (0, ((t : Nat) : Int)), (0, ((i : Nat) : Int)), (0, ((k : Nat) : Int))]) (st' := [(2, w6 95 45)]) (w' := w6) (n' := 142) rfl ?_
                          rw [show w6 95 45 = 118 from zref hI94.2.1.2 rfl rfl]
                          refine qG.blk 3 (pc' := 144) (ls' := [(2, 95), (0, ((c : Nat) : Int)), (0, ((k9 : Nat) : Int)), (0, ((m2 : Nat) : Int)), (0, ((t : Nat) : Int)), (0, ((i : Nat) : Int)), (0, ((k : Nat) : Int))]) (st' := [(2, w6 95 44), (0, ((i : Nat) : Int)), (2, 118)]) (w' := w6) (n' := 142) rfl ?_
                          rw [show w6 95 44 = 117 from zref hI94.2.1.2 rfl rfl]
                          refine qG.blk 2 (pc' := 148) (ls' := [(2, 95), (0, ((c : Nat) : Int)), (0, ((k9 : Nat) : Int)), (0, ((m2 : Nat) : Int)), (0, ((t : Nat) : Int)), (0, ((i : Nat) : Int)), (0, ((k : Nat) : Int))]) (st' := [(2, w6 95 7), (2, 117), (0, ((i : Nat) : Int)), (2, 118)]) (w' := w6) (n' := 142) rfl ?_
                          rw [show w6 95 7 = 103 from zref hI94.2.1.2 rfl rfl]
                          refine qG.blk 3 (pc' := 153) (ls' := [(2, 95), (0, ((c : Nat) : Int)), (0, ((k9 : Nat) : Int)), (0, ((m2 : Nat) : Int)), (0, ((t : Nat) : Int)), (0, ((i : Nat) : Int)), (0, ((k : Nat) : Int))]) (st' := [(0, wrp (50 * ((i : Nat) : Int))), (2, 103), (2, 117), (0, ((i : Nat) : Int)), (2, 118)]) (w' := w6) (n' := 142) rfl ?_
                          rw [show wrp (50 * ((i : Nat) : Int)) = ((50 * i : Nat) : Int) from by rw [wrp_id (by omega) (by omega)]; omega]
                          refine qG.blk 2 (pc' := 156) (ls' := [(2, 95), (0, ((c : Nat) : Int)), (0, ((k9 : Nat) : Int)), (0, ((m2 : Nat) : Int)), (0, ((t : Nat) : Int)), (0, ((i : Nat) : Int)), (0, ((k : Nat) : Int))]) (st' := [(0, wrp (((50 * i : Nat) : Int) + ((k : Nat) : Int))), (2, 103), (2, 117), (0, ((i : Nat) : Int)), (2, 118)]) (w' := w6) (n' := 142) rfl ?_
                          rw [show wrp (((50 * i : Nat) : Int) + ((k : Nat) : Int)) = ((50 * i + k : Nat) : Int) from by rw [wrp_id (by omega) (by omega)]; omega]
                          refine qG.ild (m := 91000) rfl rfl (by omega) (by decide) ?_
                          show qG none (d + 1) 257 157 [(2, 95), (0, ((c : Nat) : Int)), (0, ((k9 : Nat) : Int)), (0, ((m2 : Nat) : Int)), (0, ((t : Nat) : Int)), (0, ((i : Nat) : Int)), (0, ((k : Nat) : Int))] [(0, w6 103 (50 * i + k)), (2, 117), (0, ((i : Nat) : Int)), (2, 118)] w6 142 Q9
                          rw [show w6 103 (50 * i + k) = ((nxF w0 i k : Nat) : Int) from (hI94.2.1.1 103 (50 * i + k) (by decide) (by decide) (fun z => by cases z.1)).trans (nx_e hA0.1 i k)]
                          refine qG.bld (m := 1820) rfl rfl (by omega) (by decide) ?_
                          show qG none (d + 1) 257 158 [(2, 95), (0, ((c : Nat) : Int)), (0, ((k9 : Nat) : Int)), (0, ((m2 : Nat) : Int)), (0, ((t : Nat) : Int)), (0, ((i : Nat) : Int)), (0, ((k : Nat) : Int))] [(0, w6 117 (nxF w0 i k)), (0, ((i : Nat) : Int)), (2, 118)] w6 142 Q9
                          rw [show w6 117 (nxF w0 i k) = b01 (cF w0 t (nxF w0 i k)) from hI94.2.2.1 _ hnx]
                          refine qG.bst (m := 1820) rfl rfl (by exact ⟨⟨by omega, by omega⟩, b01_in _⟩) (by decide) ?_
                          show qG none (d + 1) 257 159 [(2, 95), (0, ((c : Nat) : Int)), (0, ((k9 : Nat) : Int)), (0, ((m2 : Nat) : Int)), (0, ((t : Nat) : Int)), (0, ((i : Nat) : Int)), (0, ((k : Nat) : Int))] [] (qup w6 118 i (b01 (cF w0 t (nxF w0 i k)))) 142 Q9
                          refine qG.blk 1 (pc' := 162) (ls' := [(2, 95), (0, ((c : Nat) : Int)), (0, ((k9 : Nat) : Int)), (0, ((m2 : Nat) : Int)), (0, ((t : Nat) : Int)), (0, ((i : Nat) : Int)), (0, wrp (((k : Nat) : Int) + 1))]) (st' := []) (w' := (qup w6 118 i (b01 (cF w0 t (nxF w0 i k))))) (n' := 142) rfl ?_
                          rw [show wrp (((k : Nat) : Int) + 1) = ((k + 1 : Nat) : Int) from wrp_id (by omega) (by omega)]
                          refine qG.blk 1 (pc' := 94) (ls' := [(2, 95), (0, ((c : Nat) : Int)), (0, ((k9 : Nat) : Int)), (0, ((m2 : Nat) : Int)), (0, ((t : Nat) : Int)), (0, ((i : Nat) : Int)), (0, ((k + 1 : Nat) : Int))]) (st' := []) (w' := (qup w6 118 i (b01 (cF w0 t (nxF w0 i k))))) (n' := 142) rfl ?_
                          exact ih94 _ (by omega) (k + 1) ((qup w6 118 i (b01 (cF w0 t (nxF w0 i k))))) rfl (⟨by omega, hdW.u118 hI94.2.1 (b01_in _), fun j hj => by rw [qup_ne (by decide)]; exact hI94.2.2.1 j hj, rows.ke (f := fun j => b01 (cF w0 (t + 1) j)) hI94.2.2.2.1 (Nat.le_refl _), by rw [qup_k]; exact hd_S hcl (b01_0 htn)⟩)
                        · skip
                          have hE := hd_E (t := t) hA0.1 hI94.1 (.inr (.inr (decide_eq_false hcl)))
                          refine qG.blk 3 (pc' := 170) (ls' := [(2, 95), (0, ((c : Nat) : Int)), (0, ((k9 : Nat) : Int)), (0, ((m2 : Nat) : Int)), (0, ((t : Nat) : Int)), (0, ((i : Nat) : Int)), (0, ((k : Nat) : Int))]) (st' := [(2, w6 95 45), (0, ((m2 : Nat) : Int))]) (w' := w6) (n' := 142) rfl ?_
                          rw [show w6 95 45 = 118 from zref hI94.2.1.2 rfl rfl]
                          refine qG.blk 1 (pc' := 172) (ls' := [(2, 95), (0, ((c : Nat) : Int)), (0, ((k9 : Nat) : Int)), (0, ((m2 : Nat) : Int)), (0, ((t : Nat) : Int)), (0, ((i : Nat) : Int)), (0, ((k : Nat) : Int))]) (st' := [(0, ((i : Nat) : Int)), (2, 118), (0, ((m2 : Nat) : Int))]) (w' := w6) (n' := 142) rfl ?_
                          refine qG.bld (m := 1820) rfl rfl (by omega) (by decide) ?_
                          show qG none (d + 1) 257 173 [(2, 95), (0, ((c : Nat) : Int)), (0, ((k9 : Nat) : Int)), (0, ((m2 : Nat) : Int)), (0, ((t : Nat) : Int)), (0, ((i : Nat) : Int)), (0, ((k : Nat) : Int))] [(0, w6 118 i), (0, ((m2 : Nat) : Int))] w6 142 Q9
                          rw [show w6 118 i = b01 (clF w0 t i && anyF (cF w0 t) (nxF w0 i) k) from hI94.2.2.2.2]
                          refine qG.br (P := b01 (clF w0 t i && anyF (cF w0 t) (nxF w0 i) k) = 0) (pc1 := 180) (pc2 := 176) (st1 := [(0, ((m2 : Nat) : Int))]) rfl (fun hth => ?_) (fun hth => ?_)
                          · skip
                            refine qG.blk 2 (pc' := 182) (ls' := [(2, 95), (0, ((c : Nat) : Int)), (0, ((k9 : Nat) : Int)), (0, ((m2 : Nat) : Int)), (0, ((t : Nat) : Int)), (0, ((i : Nat) : Int)), (0, ((k : Nat) : Int))]) (st' := [(0, wrp (((m2 : Nat) : Int) + 0))]) (w' := w6) (n' := 142) rfl ?_
                            rw [show wrp (((m2 : Nat) : Int) + 0) = ((m2 + 0 : Nat) : Int) from by rw [wrp_id (by omega) (by omega)]; omega]
                            refine qG.blk 2 (pc' := 186) (ls' := [(2, 95), (0, ((c : Nat) : Int)), (0, ((k9 : Nat) : Int)), (0, ((m2 + 0 : Nat) : Int)), (0, ((t : Nat) : Int)), (0, wrp (((i : Nat) : Int) + 1)), (0, ((k : Nat) : Int))]) (st' := []) (w' := w6) (n' := 142) rfl ?_
                            rw [show wrp (((i : Nat) : Int) + 1) = ((i + 1 : Nat) : Int) from wrp_id (by omega) (by omega)]
                            refine qG.blk 1 (pc' := 74) (ls' := [(2, 95), (0, ((c : Nat) : Int)), (0, ((k9 : Nat) : Int)), (0, ((m2 + 0 : Nat) : Int)), (0, ((t : Nat) : Int)), (0, ((i + 1 : Nat) : Int)), (0, ((k : Nat) : Int))]) (st' := []) (w' := w6) (n' := 142) rfl ?_
                            exact ih74 _ (by omega) (i + 1) (m2 + 0) (w6) ((0, ((k : Nat) : Int))) rfl (⟨by omega, hI94.2.1, hI94.2.2.1, rows.e1 (f := fun j => b01 (cF w0 (t + 1) j)) hI94.2.2.2.1 (by rw [hI94.2.2.2.2, hE]), by first | (rw [cntF_n (by rw [← hE]; exact b01_0 hth)]; omega) | (rw [cntF_y (by rw [← hE]; exact b01_1 hth)]; omega), by omega⟩)
                          · skip
                            refine qG.blk 3 (pc' := 182) (ls' := [(2, 95), (0, ((c : Nat) : Int)), (0, ((k9 : Nat) : Int)), (0, ((m2 : Nat) : Int)), (0, ((t : Nat) : Int)), (0, ((i : Nat) : Int)), (0, ((k : Nat) : Int))]) (st' := [(0, wrp (((m2 : Nat) : Int) + 1))]) (w' := w6) (n' := 142) rfl ?_
                            rw [show wrp (((m2 : Nat) : Int) + 1) = ((m2 + 1 : Nat) : Int) from by rw [wrp_id (by omega) (by omega)]; omega]
                            refine qG.blk 2 (pc' := 186) (ls' := [(2, 95), (0, ((c : Nat) : Int)), (0, ((k9 : Nat) : Int)), (0, ((m2 + 1 : Nat) : Int)), (0, ((t : Nat) : Int)), (0, wrp (((i : Nat) : Int) + 1)), (0, ((k : Nat) : Int))]) (st' := []) (w' := w6) (n' := 142) rfl ?_
                            rw [show wrp (((i : Nat) : Int) + 1) = ((i + 1 : Nat) : Int) from wrp_id (by omega) (by omega)]
                            refine qG.blk 1 (pc' := 74) (ls' := [(2, 95), (0, ((c : Nat) : Int)), (0, ((k9 : Nat) : Int)), (0, ((m2 + 1 : Nat) : Int)), (0, ((t : Nat) : Int)), (0, ((i + 1 : Nat) : Int)), (0, ((k : Nat) : Int))]) (st' := []) (w' := w6) (n' := 142) rfl ?_
                            exact ih74 _ (by omega) (i + 1) (m2 + 1) (w6) ((0, ((k : Nat) : Int))) rfl (⟨by omega, hI94.2.1, hI94.2.2.1, rows.e1 (f := fun j => b01 (cF w0 (t + 1) j)) hI94.2.2.2.1 (by rw [hI94.2.2.2.2, hE]), by first | (rw [cntF_n (by rw [← hE]; exact b01_0 hth)]; omega) | (rw [cntF_y (by rw [← hE]; exact b01_1 hth)]; omega), by omega⟩)
                      · skip
                        have hE := hd_E (t := t) hA0.1 hI94.1 (.inr (.inl (b01_1 htn)))
                        refine qG.blk 3 (pc' := 170) (ls' := [(2, 95), (0, ((c : Nat) : Int)), (0, ((k9 : Nat) : Int)), (0, ((m2 : Nat) : Int)), (0, ((t : Nat) : Int)), (0, ((i : Nat) : Int)), (0, ((k : Nat) : Int))]) (st' := [(2, w6 95 45), (0, ((m2 : Nat) : Int))]) (w' := w6) (n' := 142) rfl ?_
                        rw [show w6 95 45 = 118 from zref hI94.2.1.2 rfl rfl]
                        refine qG.blk 1 (pc' := 172) (ls' := [(2, 95), (0, ((c : Nat) : Int)), (0, ((k9 : Nat) : Int)), (0, ((m2 : Nat) : Int)), (0, ((t : Nat) : Int)), (0, ((i : Nat) : Int)), (0, ((k : Nat) : Int))]) (st' := [(0, ((i : Nat) : Int)), (2, 118), (0, ((m2 : Nat) : Int))]) (w' := w6) (n' := 142) rfl ?_
                        refine qG.bld (m := 1820) rfl rfl (by omega) (by decide) ?_
                        show qG none (d + 1) 257 173 [(2, 95), (0, ((c : Nat) : Int)), (0, ((k9 : Nat) : Int)), (0, ((m2 : Nat) : Int)), (0, ((t : Nat) : Int)), (0, ((i : Nat) : Int)), (0, ((k : Nat) : Int))] [(0, w6 118 i), (0, ((m2 : Nat) : Int))] w6 142 Q9
                        rw [show w6 118 i = b01 (clF w0 t i && anyF (cF w0 t) (nxF w0 i) k) from hI94.2.2.2.2]
                        refine qG.br (P := b01 (clF w0 t i && anyF (cF w0 t) (nxF w0 i) k) = 0) (pc1 := 180) (pc2 := 176) (st1 := [(0, ((m2 : Nat) : Int))]) rfl (fun hth => ?_) (fun hth => ?_)
                        · skip
                          refine qG.blk 2 (pc' := 182) (ls' := [(2, 95), (0, ((c : Nat) : Int)), (0, ((k9 : Nat) : Int)), (0, ((m2 : Nat) : Int)), (0, ((t : Nat) : Int)), (0, ((i : Nat) : Int)), (0, ((k : Nat) : Int))]) (st' := [(0, wrp (((m2 : Nat) : Int) + 0))]) (w' := w6) (n' := 142) rfl ?_
                          rw [show wrp (((m2 : Nat) : Int) + 0) = ((m2 + 0 : Nat) : Int) from by rw [wrp_id (by omega) (by omega)]; omega]
                          refine qG.blk 2 (pc' := 186) (ls' := [(2, 95), (0, ((c : Nat) : Int)), (0, ((k9 : Nat) : Int)), (0, ((m2 + 0 : Nat) : Int)), (0, ((t : Nat) : Int)), (0, wrp (((i : Nat) : Int) + 1)), (0, ((k : Nat) : Int))]) (st' := []) (w' := w6) (n' := 142) rfl ?_
                          rw [show wrp (((i : Nat) : Int) + 1) = ((i + 1 : Nat) : Int) from wrp_id (by omega) (by omega)]
                          refine qG.blk 1 (pc' := 74) (ls' := [(2, 95), (0, ((c : Nat) : Int)), (0, ((k9 : Nat) : Int)), (0, ((m2 + 0 : Nat) : Int)), (0, ((t : Nat) : Int)), (0, ((i + 1 : Nat) : Int)), (0, ((k : Nat) : Int))]) (st' := []) (w' := w6) (n' := 142) rfl ?_
                          exact ih74 _ (by omega) (i + 1) (m2 + 0) (w6) ((0, ((k : Nat) : Int))) rfl (⟨by omega, hI94.2.1, hI94.2.2.1, rows.e1 (f := fun j => b01 (cF w0 (t + 1) j)) hI94.2.2.2.1 (by rw [hI94.2.2.2.2, hE]), by first | (rw [cntF_n (by rw [← hE]; exact b01_0 hth)]; omega) | (rw [cntF_y (by rw [← hE]; exact b01_1 hth)]; omega), by omega⟩)
                        · skip
                          refine qG.blk 3 (pc' := 182) (ls' := [(2, 95), (0, ((c : Nat) : Int)), (0, ((k9 : Nat) : Int)), (0, ((m2 : Nat) : Int)), (0, ((t : Nat) : Int)), (0, ((i : Nat) : Int)), (0, ((k : Nat) : Int))]) (st' := [(0, wrp (((m2 : Nat) : Int) + 1))]) (w' := w6) (n' := 142) rfl ?_
                          rw [show wrp (((m2 : Nat) : Int) + 1) = ((m2 + 1 : Nat) : Int) from by rw [wrp_id (by omega) (by omega)]; omega]
                          refine qG.blk 2 (pc' := 186) (ls' := [(2, 95), (0, ((c : Nat) : Int)), (0, ((k9 : Nat) : Int)), (0, ((m2 + 1 : Nat) : Int)), (0, ((t : Nat) : Int)), (0, wrp (((i : Nat) : Int) + 1)), (0, ((k : Nat) : Int))]) (st' := []) (w' := w6) (n' := 142) rfl ?_
                          rw [show wrp (((i : Nat) : Int) + 1) = ((i + 1 : Nat) : Int) from wrp_id (by omega) (by omega)]
                          refine qG.blk 1 (pc' := 74) (ls' := [(2, 95), (0, ((c : Nat) : Int)), (0, ((k9 : Nat) : Int)), (0, ((m2 + 1 : Nat) : Int)), (0, ((t : Nat) : Int)), (0, ((i + 1 : Nat) : Int)), (0, ((k : Nat) : Int))]) (st' := []) (w' := w6) (n' := 142) rfl ?_
                          exact ih74 _ (by omega) (i + 1) (m2 + 1) (w6) ((0, ((k : Nat) : Int))) rfl (⟨by omega, hI94.2.1, hI94.2.2.1, rows.e1 (f := fun j => b01 (cF w0 (t + 1) j)) hI94.2.2.2.1 (by rw [hI94.2.2.2.2, hE]), by first | (rw [cntF_n (by rw [← hE]; exact b01_0 hth)]; omega) | (rw [cntF_y (by rw [← hE]; exact b01_1 hth)]; omega), by omega⟩)
                    · skip
                      have hE := hd_E (t := t) hA0.1 hI94.1 (.inl hkm)
                      refine qG.blk 3 (pc' := 170) (ls' := [(2, 95), (0, ((c : Nat) : Int)), (0, ((k9 : Nat) : Int)), (0, ((m2 : Nat) : Int)), (0, ((t : Nat) : Int)), (0, ((i : Nat) : Int)), (0, ((k : Nat) : Int))]) (st' := [(2, w6 95 45), (0, ((m2 : Nat) : Int))]) (w' := w6) (n' := 142) rfl ?_
                      rw [show w6 95 45 = 118 from zref hI94.2.1.2 rfl rfl]
                      refine qG.blk 1 (pc' := 172) (ls' := [(2, 95), (0, ((c : Nat) : Int)), (0, ((k9 : Nat) : Int)), (0, ((m2 : Nat) : Int)), (0, ((t : Nat) : Int)), (0, ((i : Nat) : Int)), (0, ((k : Nat) : Int))]) (st' := [(0, ((i : Nat) : Int)), (2, 118), (0, ((m2 : Nat) : Int))]) (w' := w6) (n' := 142) rfl ?_
                      refine qG.bld (m := 1820) rfl rfl (by omega) (by decide) ?_
                      show qG none (d + 1) 257 173 [(2, 95), (0, ((c : Nat) : Int)), (0, ((k9 : Nat) : Int)), (0, ((m2 : Nat) : Int)), (0, ((t : Nat) : Int)), (0, ((i : Nat) : Int)), (0, ((k : Nat) : Int))] [(0, w6 118 i), (0, ((m2 : Nat) : Int))] w6 142 Q9
                      rw [show w6 118 i = b01 (clF w0 t i && anyF (cF w0 t) (nxF w0 i) k) from hI94.2.2.2.2]
                      refine qG.br (P := b01 (clF w0 t i && anyF (cF w0 t) (nxF w0 i) k) = 0) (pc1 := 180) (pc2 := 176) (st1 := [(0, ((m2 : Nat) : Int))]) rfl (fun hth => ?_) (fun hth => ?_)
                      · skip
                        refine qG.blk 2 (pc' := 182) (ls' := [(2, 95), (0, ((c : Nat) : Int)), (0, ((k9 : Nat) : Int)), (0, ((m2 : Nat) : Int)), (0, ((t : Nat) : Int)), (0, ((i : Nat) : Int)), (0, ((k : Nat) : Int))]) (st' := [(0, wrp (((m2 : Nat) : Int) + 0))]) (w' := w6) (n' := 142) rfl ?_
                        rw [show wrp (((m2 : Nat) : Int) + 0) = ((m2 + 0 : Nat) : Int) from by rw [wrp_id (by omega) (by omega)]; omega]
                        refine qG.blk 2 (pc' := 186) (ls' := [(2, 95), (0, ((c : Nat) : Int)), (0, ((k9 : Nat) : Int)), (0, ((m2 + 0 : Nat) : Int)), (0, ((t : Nat) : Int)), (0, wrp (((i : Nat) : Int) + 1)), (0, ((k : Nat) : Int))]) (st' := []) (w' := w6) (n' := 142) rfl ?_
                        rw [show wrp (((i : Nat) : Int) + 1) = ((i + 1 : Nat) : Int) from wrp_id (by omega) (by omega)]
                        refine qG.blk 1 (pc' := 74) (ls' := [(2, 95), (0, ((c : Nat) : Int)), (0, ((k9 : Nat) : Int)), (0, ((m2 + 0 : Nat) : Int)), (0, ((t : Nat) : Int)), (0, ((i + 1 : Nat) : Int)), (0, ((k : Nat) : Int))]) (st' := []) (w' := w6) (n' := 142) rfl ?_
                        exact ih74 _ (by omega) (i + 1) (m2 + 0) (w6) ((0, ((k : Nat) : Int))) rfl (⟨by omega, hI94.2.1, hI94.2.2.1, rows.e1 (f := fun j => b01 (cF w0 (t + 1) j)) hI94.2.2.2.1 (by rw [hI94.2.2.2.2, hE]), by first | (rw [cntF_n (by rw [← hE]; exact b01_0 hth)]; omega) | (rw [cntF_y (by rw [← hE]; exact b01_1 hth)]; omega), by omega⟩)
                      · skip
                        refine qG.blk 3 (pc' := 182) (ls' := [(2, 95), (0, ((c : Nat) : Int)), (0, ((k9 : Nat) : Int)), (0, ((m2 : Nat) : Int)), (0, ((t : Nat) : Int)), (0, ((i : Nat) : Int)), (0, ((k : Nat) : Int))]) (st' := [(0, wrp (((m2 : Nat) : Int) + 1))]) (w' := w6) (n' := 142) rfl ?_
                        rw [show wrp (((m2 : Nat) : Int) + 1) = ((m2 + 1 : Nat) : Int) from by rw [wrp_id (by omega) (by omega)]; omega]
                        refine qG.blk 2 (pc' := 186) (ls' := [(2, 95), (0, ((c : Nat) : Int)), (0, ((k9 : Nat) : Int)), (0, ((m2 + 1 : Nat) : Int)), (0, ((t : Nat) : Int)), (0, wrp (((i : Nat) : Int) + 1)), (0, ((k : Nat) : Int))]) (st' := []) (w' := w6) (n' := 142) rfl ?_
                        rw [show wrp (((i : Nat) : Int) + 1) = ((i + 1 : Nat) : Int) from wrp_id (by omega) (by omega)]
                        refine qG.blk 1 (pc' := 74) (ls' := [(2, 95), (0, ((c : Nat) : Int)), (0, ((k9 : Nat) : Int)), (0, ((m2 + 1 : Nat) : Int)), (0, ((t : Nat) : Int)), (0, ((i + 1 : Nat) : Int)), (0, ((k : Nat) : Int))]) (st' := []) (w' := w6) (n' := 142) rfl ?_
                        exact ih74 _ (by omega) (i + 1) (m2 + 1) (w6) ((0, ((k : Nat) : Int))) rfl (⟨by omega, hI94.2.1, hI94.2.2.1, rows.e1 (f := fun j => b01 (cF w0 (t + 1) j)) hI94.2.2.2.1 (by rw [hI94.2.2.2.2, hE]), by first | (rw [cntF_n (by rw [← hE]; exact b01_0 hth)]; omega) | (rw [cntF_y (by rw [← hE]; exact b01_1 hth)]; omega), by omega⟩)
                  exact L94 _ (0) ((qup w7 118 i 0)) rfl (⟨by omega, hdW.u118 hI74.2.1 (by decide), fun j hj => by rw [qup_ne (by decide)]; exact hI74.2.2.1 j hj, rows.ke (f := fun j => b01 (cF w0 (t + 1) j)) hI74.2.2.2.1 (Nat.le_refl _), by rw [qup_k]; show (0 : Int) = b01 (_ && false); rw [Bool.and_false]; rfl⟩)
                · skip
                  refine qG.blk 1 (pc' := 190) (ls' := [(2, 95), (0, ((c : Nat) : Int)), (0, ((k9 : Nat) : Int)), (0, ((m2 : Nat) : Int)), (0, ((t : Nat) : Int)), (0, ((i : Nat) : Int)), x6]) (st' := [(0, ((m2 : Nat) : Int))]) (w' := w7) (n' := 142) rfl ?_
                  refine qG.br (P := ((m2 : Nat) : Int) = 0) (pc1 := 193) (pc2 := 199) (st1 := []) rfl (fun hz => ?_) (fun hz => ?_)
                  · skip
                    refine qG.blk 5 (pc' := 202) (ls' := [(2, 95), (0, ((c : Nat) : Int)), (0, ((k9 : Nat) : Int)), (0, ((m2 : Nat) : Int)), (0, ((t : Nat) : Int)), (0, 0), x6]) (st' := []) (w' := (qup w7 95 46 ((t : Nat) : Int))) (n' := 142) rfl ?_
                    have L202 : ∀ (m9 : Nat) (i2 : Nat) (w5 : qW), N - i2 = m9 → (i2 ≤ N ∧ hdW w0 w5 ∧ (∀ j, j < N → w5 118 j = b01 (cF w0 (t + 1) j)) ∧ (∀ j, j < i2 → w5 117 j = b01 (cF w0 (t + 1) j))) → qG none (d + 1) 257 202 [(2, 95), (0, ((c : Nat) : Int)), (0, ((k9 : Nat) : Int)), (0, ((m2 : Nat) : Int)), (0, ((t : Nat) : Int)), (0, ((i2 : Nat) : Int)), x6] [] w5 142 Q9 := by
                      intro m9
                      induction m9 using Nat.strongRecOn with
                      | ind m9 ih202 =>
                      intro i2 w5 hm202 hI202
                      refine qG.blk 3 (pc' := 208) (ls' := [(2, 95), (0, ((c : Nat) : Int)), (0, ((k9 : Nat) : Int)), (0, ((m2 : Nat) : Int)), (0, ((t : Nat) : Int)), (0, ((i2 : Nat) : Int)), x6]) (st' := [(0, w5 95 8), (0, ((i2 : Nat) : Int))]) (w' := w5) (n' := 142) rfl ?_
                      rw [show w5 95 8 = ((N : Nat) : Int) from (hI202.2.1.1 95 (8) (by decide) (by decide) (fun z => by cases z.2)).trans hN]
                      refine qG.br (P := ((i2 : Nat) : Int) < ((N : Nat) : Int)) (pc1 := 211) (pc2 := 231) (st1 := []) rfl (fun h3 => ?_) (fun h3 => ?_)
                      · skip
                        refine qG.blk 2 (pc' := 215) (ls' := [(2, 95), (0, ((c : Nat) : Int)), (0, ((k9 : Nat) : Int)), (0, ((m2 : Nat) : Int)), (0, ((t : Nat) : Int)), (0, ((i2 : Nat) : Int)), x6]) (st' := [(2, w5 95 44)]) (w' := w5) (n' := 142) rfl ?_
                        rw [show w5 95 44 = 117 from zref hI202.2.1.2 rfl rfl]
                        refine qG.blk 3 (pc' := 221) (ls' := [(2, 95), (0, ((c : Nat) : Int)), (0, ((k9 : Nat) : Int)), (0, ((m2 : Nat) : Int)), (0, ((t : Nat) : Int)), (0, ((i2 : Nat) : Int)), x6]) (st' := [(2, w5 95 45), (0, ((i2 : Nat) : Int)), (2, 117)]) (w' := w5) (n' := 142) rfl ?_
                        rw [show w5 95 45 = 118 from zref hI202.2.1.2 rfl rfl]
                        refine qG.blk 1 (pc' := 223) (ls' := [(2, 95), (0, ((c : Nat) : Int)), (0, ((k9 : Nat) : Int)), (0, ((m2 : Nat) : Int)), (0, ((t : Nat) : Int)), (0, ((i2 : Nat) : Int)), x6]) (st' := [(0, ((i2 : Nat) : Int)), (2, 118), (0, ((i2 : Nat) : Int)), (2, 117)]) (w' := w5) (n' := 142) rfl ?_
                        refine qG.bld (m := 1820) rfl rfl (by omega) (by decide) ?_
                        show qG none (d + 1) 257 224 [(2, 95), (0, ((c : Nat) : Int)), (0, ((k9 : Nat) : Int)), (0, ((m2 : Nat) : Int)), (0, ((t : Nat) : Int)), (0, ((i2 : Nat) : Int)), x6] [(0, w5 118 i2), (0, ((i2 : Nat) : Int)), (2, 117)] w5 142 Q9
                        rw [show w5 118 i2 = b01 (cF w0 (t + 1) i2) from hI202.2.2.1 _ (by omega)]
                        refine qG.bst (m := 1820) rfl rfl (by exact ⟨⟨by omega, by omega⟩, b01_in _⟩) (by decide) ?_
                        show qG none (d + 1) 257 225 [(2, 95), (0, ((c : Nat) : Int)), (0, ((k9 : Nat) : Int)), (0, ((m2 : Nat) : Int)), (0, ((t : Nat) : Int)), (0, ((i2 : Nat) : Int)), x6] [] (qup w5 117 i2 (b01 (cF w0 (t + 1) i2))) 142 Q9
                        refine qG.blk 1 (pc' := 228) (ls' := [(2, 95), (0, ((c : Nat) : Int)), (0, ((k9 : Nat) : Int)), (0, ((m2 : Nat) : Int)), (0, ((t : Nat) : Int)), (0, wrp (((i2 : Nat) : Int) + 1)), x6]) (st' := []) (w' := (qup w5 117 i2 (b01 (cF w0 (t + 1) i2)))) (n' := 142) rfl ?_
                        rw [show wrp (((i2 : Nat) : Int) + 1) = ((i2 + 1 : Nat) : Int) from wrp_id (by omega) (by omega)]
                        refine qG.blk 1 (pc' := 202) (ls' := [(2, 95), (0, ((c : Nat) : Int)), (0, ((k9 : Nat) : Int)), (0, ((m2 : Nat) : Int)), (0, ((t : Nat) : Int)), (0, ((i2 + 1 : Nat) : Int)), x6]) (st' := []) (w' := (qup w5 117 i2 (b01 (cF w0 (t + 1) i2)))) (n' := 142) rfl ?_
                        exact ih202 _ (by omega) (i2 + 1) ((qup w5 117 i2 (b01 (cF w0 (t + 1) i2)))) rfl (⟨by omega, hdW.u117 hI202.2.1 (b01_in _), fun j hj => by rw [qup_ne (by decide)]; exact hI202.2.2.1 j hj, rows.nx (f := fun j => b01 (cF w0 (t + 1) j)) hI202.2.2.2 rfl⟩)
                      · skip
                        refine qG.blk 1 (pc' := 234) (ls' := [(2, 95), (0, ((c : Nat) : Int)), (0, ((k9 : Nat) : Int)), (0, ((m2 : Nat) : Int)), (0, wrp (((t : Nat) : Int) + 1)), (0, ((i2 : Nat) : Int)), x6]) (st' := []) (w' := w5) (n' := 142) rfl ?_
                        rw [show wrp (((t : Nat) : Int) + 1) = ((t + 1 : Nat) : Int) from wrp_id (by omega) (by omega)]
                        refine qG.blk 1 (pc' := 56) (ls' := [(2, 95), (0, ((c : Nat) : Int)), (0, ((k9 : Nat) : Int)), (0, ((m2 : Nat) : Int)), (0, ((t + 1 : Nat) : Int)), (0, ((i2 : Nat) : Int)), x6]) (st' := []) (w' := w5) (n' := 142) rfl ?_
                        exact ih56 _ (by omega) (t + 1) (m2) (w5) ((0, ((i2 : Nat) : Int))) (x6) rfl (⟨by omega, hI202.2.1, fun j hj => hI202.2.2.2 j (by omega), by rw [hI74.2.2.2.2.1, show i = N by omega]⟩)
                    exact L202 _ (0) ((qup w7 95 46 ((t : Nat) : Int))) rfl (⟨by omega, by first | exact hI74.2.1 | exact hI74.2.1.u46 (by omega) (by omega), fun j hj => by first | exact hI74.2.2.2.1 j (by omega) | (rw [qup_ne (by decide)]; exact hI74.2.2.2.1 j (by omega)), fun j hj => absurd hj (Nat.not_lt_zero j)⟩)
                  · skip
                    refine qG.blk 2 (pc' := 202) (ls' := [(2, 95), (0, ((c : Nat) : Int)), (0, ((k9 : Nat) : Int)), (0, ((m2 : Nat) : Int)), (0, ((t : Nat) : Int)), (0, 0), x6]) (st' := []) (w' := w7) (n' := 142) rfl ?_
                    have L202_1 : ∀ (m9 : Nat) (i2 : Nat) (w5 : qW), N - i2 = m9 → (i2 ≤ N ∧ hdW w0 w5 ∧ (∀ j, j < N → w5 118 j = b01 (cF w0 (t + 1) j)) ∧ (∀ j, j < i2 → w5 117 j = b01 (cF w0 (t + 1) j))) → qG none (d + 1) 257 202 [(2, 95), (0, ((c : Nat) : Int)), (0, ((k9 : Nat) : Int)), (0, ((m2 : Nat) : Int)), (0, ((t : Nat) : Int)), (0, ((i2 : Nat) : Int)), x6] [] w5 142 Q9 := by
                      intro m9
                      induction m9 using Nat.strongRecOn with
                      | ind m9 ih202 =>
                      intro i2 w5 hm202 hI202
                      refine qG.blk 3 (pc' := 208) (ls' := [(2, 95), (0, ((c : Nat) : Int)), (0, ((k9 : Nat) : Int)), (0, ((m2 : Nat) : Int)), (0, ((t : Nat) : Int)), (0, ((i2 : Nat) : Int)), x6]) (st' := [(0, w5 95 8), (0, ((i2 : Nat) : Int))]) (w' := w5) (n' := 142) rfl ?_
                      rw [show w5 95 8 = ((N : Nat) : Int) from (hI202.2.1.1 95 (8) (by decide) (by decide) (fun z => by cases z.2)).trans hN]
                      refine qG.br (P := ((i2 : Nat) : Int) < ((N : Nat) : Int)) (pc1 := 211) (pc2 := 231) (st1 := []) rfl (fun h4 => ?_) (fun h4 => ?_)
                      · skip
                        refine qG.blk 2 (pc' := 215) (ls' := [(2, 95), (0, ((c : Nat) : Int)), (0, ((k9 : Nat) : Int)), (0, ((m2 : Nat) : Int)), (0, ((t : Nat) : Int)), (0, ((i2 : Nat) : Int)), x6]) (st' := [(2, w5 95 44)]) (w' := w5) (n' := 142) rfl ?_
                        rw [show w5 95 44 = 117 from zref hI202.2.1.2 rfl rfl]
                        refine qG.blk 3 (pc' := 221) (ls' := [(2, 95), (0, ((c : Nat) : Int)), (0, ((k9 : Nat) : Int)), (0, ((m2 : Nat) : Int)), (0, ((t : Nat) : Int)), (0, ((i2 : Nat) : Int)), x6]) (st' := [(2, w5 95 45), (0, ((i2 : Nat) : Int)), (2, 117)]) (w' := w5) (n' := 142) rfl ?_
                        rw [show w5 95 45 = 118 from zref hI202.2.1.2 rfl rfl]
                        refine qG.blk 1 (pc' := 223) (ls' := [(2, 95), (0, ((c : Nat) : Int)), (0, ((k9 : Nat) : Int)), (0, ((m2 : Nat) : Int)), (0, ((t : Nat) : Int)), (0, ((i2 : Nat) : Int)), x6]) (st' := [(0, ((i2 : Nat) : Int)), (2, 118), (0, ((i2 : Nat) : Int)), (2, 117)]) (w' := w5) (n' := 142) rfl ?_
                        refine qG.bld (m := 1820) rfl rfl (by omega) (by decide) ?_
                        show qG none (d + 1) 257 224 [(2, 95), (0, ((c : Nat) : Int)), (0, ((k9 : Nat) : Int)), (0, ((m2 : Nat) : Int)), (0, ((t : Nat) : Int)), (0, ((i2 : Nat) : Int)), x6] [(0, w5 118 i2), (0, ((i2 : Nat) : Int)), (2, 117)] w5 142 Q9
                        rw [show w5 118 i2 = b01 (cF w0 (t + 1) i2) from hI202.2.2.1 _ (by omega)]
                        refine qG.bst (m := 1820) rfl rfl (by exact ⟨⟨by omega, by omega⟩, b01_in _⟩) (by decide) ?_
                        show qG none (d + 1) 257 225 [(2, 95), (0, ((c : Nat) : Int)), (0, ((k9 : Nat) : Int)), (0, ((m2 : Nat) : Int)), (0, ((t : Nat) : Int)), (0, ((i2 : Nat) : Int)), x6] [] (qup w5 117 i2 (b01 (cF w0 (t + 1) i2))) 142 Q9
                        refine qG.blk 1 (pc' := 228) (ls' := [(2, 95), (0, ((c : Nat) : Int)), (0, ((k9 : Nat) : Int)), (0, ((m2 : Nat) : Int)), (0, ((t : Nat) : Int)), (0, wrp (((i2 : Nat) : Int) + 1)), x6]) (st' := []) (w' := (qup w5 117 i2 (b01 (cF w0 (t + 1) i2)))) (n' := 142) rfl ?_
                        rw [show wrp (((i2 : Nat) : Int) + 1) = ((i2 + 1 : Nat) : Int) from wrp_id (by omega) (by omega)]
                        refine qG.blk 1 (pc' := 202) (ls' := [(2, 95), (0, ((c : Nat) : Int)), (0, ((k9 : Nat) : Int)), (0, ((m2 : Nat) : Int)), (0, ((t : Nat) : Int)), (0, ((i2 + 1 : Nat) : Int)), x6]) (st' := []) (w' := (qup w5 117 i2 (b01 (cF w0 (t + 1) i2)))) (n' := 142) rfl ?_
                        exact ih202 _ (by omega) (i2 + 1) ((qup w5 117 i2 (b01 (cF w0 (t + 1) i2)))) rfl (⟨by omega, hdW.u117 hI202.2.1 (b01_in _), fun j hj => by rw [qup_ne (by decide)]; exact hI202.2.2.1 j hj, rows.nx (f := fun j => b01 (cF w0 (t + 1) j)) hI202.2.2.2 rfl⟩)
                      · skip
                        refine qG.blk 1 (pc' := 234) (ls' := [(2, 95), (0, ((c : Nat) : Int)), (0, ((k9 : Nat) : Int)), (0, ((m2 : Nat) : Int)), (0, wrp (((t : Nat) : Int) + 1)), (0, ((i2 : Nat) : Int)), x6]) (st' := []) (w' := w5) (n' := 142) rfl ?_
                        rw [show wrp (((t : Nat) : Int) + 1) = ((t + 1 : Nat) : Int) from wrp_id (by omega) (by omega)]
                        refine qG.blk 1 (pc' := 56) (ls' := [(2, 95), (0, ((c : Nat) : Int)), (0, ((k9 : Nat) : Int)), (0, ((m2 : Nat) : Int)), (0, ((t + 1 : Nat) : Int)), (0, ((i2 : Nat) : Int)), x6]) (st' := []) (w' := w5) (n' := 142) rfl ?_
                        exact ih56 _ (by omega) (t + 1) (m2) (w5) ((0, ((i2 : Nat) : Int))) (x6) rfl (⟨by omega, hI202.2.1, fun j hj => hI202.2.2.2 j (by omega), by rw [hI74.2.2.2.2.1, show i = N by omega]⟩)
                    exact L202_1 _ (0) (w7) rfl (⟨by omega, by first | exact hI74.2.1 | exact hI74.2.1.u46 (by omega) (by omega), fun j hj => by first | exact hI74.2.2.2.1 j (by omega) | (rw [qup_ne (by decide)]; exact hI74.2.2.2.1 j (by omega)), fun j hj => absurd hj (Nat.not_lt_zero j)⟩)
              exact L74 _ (0) (0) (w8) (x6) rfl (⟨by omega, hI56.2.1, hI56.2.2.1, fun j hj => absurd hj (Nat.not_lt_zero j), rfl, by omega⟩)
            · skip
              refine qG.blk 1 (pc' := 238) (ls' := [(2, 95), (0, ((c : Nat) : Int)), (0, ((k9 : Nat) : Int)), (0, ((m : Nat) : Int)), (0, ((t : Nat) : Int)), x5, x6]) (st' := [(0, ((m : Nat) : Int))]) (w' := w8) (n' := 142) rfl ?_
              refine qG.ret rfl rfl ?_
              subst hQ9
              exact ⟨rfl, w0, hfp, hA0, hS0, hI56.2.1, N, S, t, hN, hSS, hI56.1, by rw [hI56.2.2.2], by first | (left; omega) | (right; omega)⟩
          · skip
            refine qG.blk 1 (pc' := 238) (ls' := [(2, 95), (0, ((c : Nat) : Int)), (0, ((k9 : Nat) : Int)), (0, ((m : Nat) : Int)), (0, ((t : Nat) : Int)), x5, x6]) (st' := [(0, ((m : Nat) : Int))]) (w' := w8) (n' := 142) rfl ?_
            refine qG.ret rfl rfl ?_
            subst hQ9
            exact ⟨rfl, w0, hfp, hA0, hS0, hI56.2.1, N, S, t, hN, hSS, hI56.1, by rw [hI56.2.2.2], by first | (left; omega) | (right; omega)⟩
        exact L56 _ (0) (N) (w9) ((9, 0)) ((9, 0)) rfl (⟨by omega, hI30.2.1, fun j hj => by rw [hI30.2.2 j (by omega)]; rfl, (cntF_all (fun _ => rfl) N).symm⟩)
    exact L30 _ (0) ((qup w0 95 46 0)) rfl (⟨by omega, hdW.u46 ⟨fun _ _ _ _ _ => rfl, hA0.1⟩ (by omega) (by omega), fun j hj => absurd hj (Nat.not_lt_zero j)⟩)
  · skip
    refine qG.blk 4 (pc' := 26) (ls' := [(2, 95), (0, ((c : Nat) : Int)), (0, ((k9 : Nat) : Int)), (9, 0), (9, 0), (9, 0), (9, 0)]) (st' := [(0, w0 95 8)]) (w' := (qup w0 95 46 (-1))) (n' := 142) rfl ?_
    rw [show w0 95 8 = ((N : Nat) : Int) from hN]
    refine qG.blk 3 (pc' := 30) (ls' := [(2, 95), (0, ((c : Nat) : Int)), (0, ((k9 : Nat) : Int)), (0, ((N : Nat) : Int)), (0, 0), (9, 0), (9, 0)]) (st' := []) (w' := (qup w0 95 46 (-1))) (n' := 142) rfl ?_
    have L30_1 : ∀ (m9 : Nat) (i : Nat) (w9 : qW), N - i = m9 → (i ≤ N ∧ hdW w0 w9 ∧ ∀ j, j < i → w9 117 j = 1) → qG none (d + 1) 257 30 [(2, 95), (0, ((c : Nat) : Int)), (0, ((k9 : Nat) : Int)), (0, ((N : Nat) : Int)), (0, ((i : Nat) : Int)), (9, 0), (9, 0)] [] w9 142 Q9 := by
      intro m9
      induction m9 using Nat.strongRecOn with
      | ind m9 ih30 =>
      intro i w9 hm30 hI30
      refine qG.blk 3 (pc' := 36) (ls' := [(2, 95), (0, ((c : Nat) : Int)), (0, ((k9 : Nat) : Int)), (0, ((N : Nat) : Int)), (0, ((i : Nat) : Int)), (9, 0), (9, 0)]) (st' := [(0, w9 95 8), (0, ((i : Nat) : Int))]) (w' := w9) (n' := 142) rfl ?_
      rw [show w9 95 8 = ((N : Nat) : Int) from (hI30.2.1.1 95 (8) (by decide) (by decide) (fun z => by cases z.2)).trans hN]
      refine qG.br (P := ((i : Nat) : Int) < ((N : Nat) : Int)) (pc1 := 39) (pc2 := 53) (st1 := []) rfl (fun h5 => ?_) (fun h5 => ?_)
      · skip
        refine qG.blk 2 (pc' := 43) (ls' := [(2, 95), (0, ((c : Nat) : Int)), (0, ((k9 : Nat) : Int)), (0, ((N : Nat) : Int)), (0, ((i : Nat) : Int)), (9, 0), (9, 0)]) (st' := [(2, w9 95 44)]) (w' := w9) (n' := 142) rfl ?_
        rw [show w9 95 44 = 117 from zref hI30.2.1.2 rfl rfl]
        refine qG.blk 2 (pc' := 46) (ls' := [(2, 95), (0, ((c : Nat) : Int)), (0, ((k9 : Nat) : Int)), (0, ((N : Nat) : Int)), (0, ((i : Nat) : Int)), (9, 0), (9, 0)]) (st' := [(0, 1), (0, ((i : Nat) : Int)), (2, 117)]) (w' := w9) (n' := 142) rfl ?_
        refine qG.bst (m := 1820) rfl rfl (by omega) (by decide) ?_
        show qG none (d + 1) 257 47 [(2, 95), (0, ((c : Nat) : Int)), (0, ((k9 : Nat) : Int)), (0, ((N : Nat) : Int)), (0, ((i : Nat) : Int)), (9, 0), (9, 0)] [] (qup w9 117 i 1) 142 Q9
        refine qG.blk 1 (pc' := 50) (ls' := [(2, 95), (0, ((c : Nat) : Int)), (0, ((k9 : Nat) : Int)), (0, ((N : Nat) : Int)), (0, wrp (((i : Nat) : Int) + 1)), (9, 0), (9, 0)]) (st' := []) (w' := (qup w9 117 i 1)) (n' := 142) rfl ?_
        rw [show wrp (((i : Nat) : Int) + 1) = ((i + 1 : Nat) : Int) from wrp_id (by omega) (by omega)]
        refine qG.blk 1 (pc' := 30) (ls' := [(2, 95), (0, ((c : Nat) : Int)), (0, ((k9 : Nat) : Int)), (0, ((N : Nat) : Int)), (0, ((i + 1 : Nat) : Int)), (9, 0), (9, 0)]) (st' := []) (w' := (qup w9 117 i 1)) (n' := 142) rfl ?_
        exact ih30 _ (by omega) (i + 1) ((qup w9 117 i 1)) rfl (⟨by omega, hdW.u117 hI30.2.1 (by decide), rows.nx (f := fun _ => 1) hI30.2.2 rfl⟩)
      · skip
        refine qG.blk 2 (pc' := 56) (ls' := [(2, 95), (0, ((c : Nat) : Int)), (0, ((k9 : Nat) : Int)), (0, ((N : Nat) : Int)), (0, 0), (9, 0), (9, 0)]) (st' := []) (w' := w9) (n' := 142) rfl ?_
        have L56_1 : ∀ (m9 : Nat) (t m : Nat) (w8 : qW) (x5 x6 : qV), S - t = m9 → (t ≤ S ∧ hdW w0 w8 ∧ (∀ j, j < N → w8 117 j = b01 (cF w0 t j)) ∧ m = cntF (cF w0 t) N) → qG none (d + 1) 257 56 [(2, 95), (0, ((c : Nat) : Int)), (0, ((k9 : Nat) : Int)), (0, ((m : Nat) : Int)), (0, ((t : Nat) : Int)), x5, x6] [] w8 142 Q9 := by
          intro m9
          induction m9 using Nat.strongRecOn with
          | ind m9 ih56 =>
          intro t m w8 x5 x6 hm56 hI56
          have hm9 := cntF_le (cF w0 t) N
          rw [← hI56.2.2.2] at hm9
          refine qG.blk 3 (pc' := 62) (ls' := [(2, 95), (0, ((c : Nat) : Int)), (0, ((k9 : Nat) : Int)), (0, ((m : Nat) : Int)), (0, ((t : Nat) : Int)), x5, x6]) (st' := [(0, w8 95 37), (0, ((t : Nat) : Int))]) (w' := w8) (n' := 142) rfl ?_
          rw [show w8 95 37 = ((S : Nat) : Int) from (hI56.2.1.1 95 (37) (by decide) (by decide) (fun z => by cases z.2)).trans hSS]
          refine qG.br (P := ((t : Nat) : Int) < ((S : Nat) : Int)) (pc1 := 65) (pc2 := 237) (st1 := []) rfl (fun hts => ?_) (fun hts => ?_)
          · skip
            refine qG.blk 1 (pc' := 66) (ls' := [(2, 95), (0, ((c : Nat) : Int)), (0, ((k9 : Nat) : Int)), (0, ((m : Nat) : Int)), (0, ((t : Nat) : Int)), x5, x6]) (st' := [(0, ((m : Nat) : Int))]) (w' := w8) (n' := 142) rfl ?_
            refine qG.br (P := 0 < ((m : Nat) : Int)) (pc1 := 69) (pc2 := 237) (st1 := []) rfl (fun hmp => ?_) (fun hmp => ?_)
            · skip
              refine qG.blk 4 (pc' := 74) (ls' := [(2, 95), (0, ((c : Nat) : Int)), (0, ((k9 : Nat) : Int)), (0, 0), (0, ((t : Nat) : Int)), (0, 0), x6]) (st' := []) (w' := w8) (n' := 142) rfl ?_
              have L74_1 : ∀ (m9 : Nat) (i m2 : Nat) (w7 : qW) (x6 : qV), N - i = m9 → (i ≤ N ∧ hdW w0 w7 ∧ (∀ j, j < N → w7 117 j = b01 (cF w0 t j)) ∧ (∀ j, j < i → w7 118 j = b01 (cF w0 (t + 1) j)) ∧ m2 = cntF (cF w0 (t + 1)) i ∧ m2 ≤ i) → qG none (d + 1) 257 74 [(2, 95), (0, ((c : Nat) : Int)), (0, ((k9 : Nat) : Int)), (0, ((m2 : Nat) : Int)), (0, ((t : Nat) : Int)), (0, ((i : Nat) : Int)), x6] [] w7 142 Q9 := by
                intro m9
                induction m9 using Nat.strongRecOn with
                | ind m9 ih74 =>
                intro i m2 w7 x6 hm74 hI74
                have hm2i := hm2 i
                refine qG.blk 3 (pc' := 80) (ls' := [(2, 95), (0, ((c : Nat) : Int)), (0, ((k9 : Nat) : Int)), (0, ((m2 : Nat) : Int)), (0, ((t : Nat) : Int)), (0, ((i : Nat) : Int)), x6]) (st' := [(0, w7 95 8), (0, ((i : Nat) : Int))]) (w' := w7) (n' := 142) rfl ?_
                rw [show w7 95 8 = ((N : Nat) : Int) from (hI74.2.1.1 95 (8) (by decide) (by decide) (fun z => by cases z.2)).trans hN]
                refine qG.br (P := ((i : Nat) : Int) < ((N : Nat) : Int)) (pc1 := 83) (pc2 := 189) (st1 := []) rfl (fun hiN => ?_) (fun hiN => ?_)
                · skip
                  refine qG.blk 2 (pc' := 87) (ls' := [(2, 95), (0, ((c : Nat) : Int)), (0, ((k9 : Nat) : Int)), (0, ((m2 : Nat) : Int)), (0, ((t : Nat) : Int)), (0, ((i : Nat) : Int)), x6]) (st' := [(2, w7 95 45)]) (w' := w7) (n' := 142) rfl ?_
                  rw [show w7 95 45 = 118 from zref hI74.2.1.2 rfl rfl]
                  refine qG.blk 2 (pc' := 90) (ls' := [(2, 95), (0, ((c : Nat) : Int)), (0, ((k9 : Nat) : Int)), (0, ((m2 : Nat) : Int)), (0, ((t : Nat) : Int)), (0, ((i : Nat) : Int)), x6]) (st' := [(0, 0), (0, ((i : Nat) : Int)), (2, 118)]) (w' := w7) (n' := 142) rfl ?_
                  refine qG.bst (m := 1820) rfl rfl (by omega) (by decide) ?_
                  show qG none (d + 1) 257 91 [(2, 95), (0, ((c : Nat) : Int)), (0, ((k9 : Nat) : Int)), (0, ((m2 : Nat) : Int)), (0, ((t : Nat) : Int)), (0, ((i : Nat) : Int)), x6] [] (qup w7 118 i 0) 142 Q9
                  refine qG.blk 2 (pc' := 94) (ls' := [(2, 95), (0, ((c : Nat) : Int)), (0, ((k9 : Nat) : Int)), (0, ((m2 : Nat) : Int)), (0, ((t : Nat) : Int)), (0, ((i : Nat) : Int)), (0, 0)]) (st' := []) (w' := (qup w7 118 i 0)) (n' := 142) rfl ?_
                  have L94_1 : ∀ (m9 : Nat) (k : Nat) (w6 : qW), 50 - k = m9 → ((k : Int) ≤ w0 102 i ∧ hdW w0 w6 ∧ (∀ j, j < N → w6 117 j = b01 (cF w0 t j)) ∧ (∀ j, j < i → w6 118 j = b01 (cF w0 (t + 1) j)) ∧ w6 118 i = b01 (clF w0 t i && anyF (cF w0 t) (nxF w0 i) k)) → qG none (d + 1) 257 94 [(2, 95), (0, ((c : Nat) : Int)), (0, ((k9 : Nat) : Int)), (0, ((m2 : Nat) : Int)), (0, ((t : Nat) : Int)), (0, ((i : Nat) : Int)), (0, ((k : Nat) : Int))] [] w6 142 Q9 := by
                    intro m9
                    induction m9 using Nat.strongRecOn with
                    | ind m9 ih94 =>
                    intro k w6 hm94 hI94
                    have hm2i := hm2 i
                    refine qG.blk 3 (pc' := 100) (ls' := [(2, 95), (0, ((c : Nat) : Int)), (0, ((k9 : Nat) : Int)), (0, ((m2 : Nat) : Int)), (0, ((t : Nat) : Int)), (0, ((i : Nat) : Int)), (0, ((k : Nat) : Int))]) (st' := [(2, w6 95 6), (0, ((k : Nat) : Int))]) (w' := w6) (n' := 142) rfl ?_
                    rw [show w6 95 6 = 102 from zref hI94.2.1.2 rfl rfl]
                    refine qG.blk 1 (pc' := 102) (ls' := [(2, 95), (0, ((c : Nat) : Int)), (0, ((k9 : Nat) : Int)), (0, ((m2 : Nat) : Int)), (0, ((t : Nat) : Int)), (0, ((i : Nat) : Int)), (0, ((k : Nat) : Int))]) (st' := [(0, ((i : Nat) : Int)), (2, 102), (0, ((k : Nat) : Int))]) (w' := w6) (n' := 142) rfl ?_
                    refine qG.ild (m := 1820) rfl rfl (by omega) (by decide) ?_
                    show qG none (d + 1) 257 103 [(2, 95), (0, ((c : Nat) : Int)), (0, ((k9 : Nat) : Int)), (0, ((m2 : Nat) : Int)), (0, ((t : Nat) : Int)), (0, ((i : Nat) : Int)), (0, ((k : Nat) : Int))] [(0, w6 102 i), (0, ((k : Nat) : Int))] w6 142 Q9
                    rw [show w6 102 i = w0 102 i from hI94.2.1.1 102 (i) (by decide) (by decide) (fun z => by cases z.1)]
                    refine qG.br (P := ((k : Nat) : Int) < w0 102 i) (pc1 := 106) (pc2 := 165) (st1 := []) rfl (fun hkm => ?_) (fun hkm => ?_)
                    · skip
                      have hnx : nxF w0 i k < N := nx_lt hA0.1 hS0 hN (by omega) hkm
                      refine qG.blk 2 (pc' := 110) (ls' := [(2, 95), (0, ((c : Nat) : Int)), (0, ((k9 : Nat) : Int)), (0, ((m2 : Nat) : Int)), (0, ((t : Nat) : Int)), (0, ((i : Nat) : Int)), (0, ((k : Nat) : Int))]) (st' := [(2, w6 95 45)]) (w' := w6) (n' := 142) rfl ?_
                      rw [show w6 95 45 = 118 from zref hI94.2.1.2 rfl rfl]
                      refine qG.blk 1 (pc' := 112) (ls' := [(2, 95), (0, ((c : Nat) : Int)), (0, ((k9 : Nat) : Int)), (0, ((m2 : Nat) : Int)), (0, ((t : Nat) : Int)), (0, ((i : Nat) : Int)), (0, ((k : Nat) : Int))]) (st' := [(0, ((i : Nat) : Int)), (2, 118)]) (w' := w6) (n' := 142) rfl ?_
                      refine qG.bld (m := 1820) rfl rfl (by omega) (by decide) ?_
                      show qG none (d + 1) 257 113 [(2, 95), (0, ((c : Nat) : Int)), (0, ((k9 : Nat) : Int)), (0, ((m2 : Nat) : Int)), (0, ((t : Nat) : Int)), (0, ((i : Nat) : Int)), (0, ((k : Nat) : Int))] [(0, w6 118 i)] w6 142 Q9
                      rw [show w6 118 i = b01 (clF w0 t i && anyF (cF w0 t) (nxF w0 i) k) from hI94.2.2.2.2]
                      refine qG.br (P := b01 (clF w0 t i && anyF (cF w0 t) (nxF w0 i) k) = 0) (pc1 := 116) (pc2 := 165) (st1 := []) rfl (fun htn => ?_) (fun htn => ?_)
                      · skip
                        refine qG.blk 2 (pc' := 120) (ls' := [(2, 95), (0, ((c : Nat) : Int)), (0, ((k9 : Nat) : Int)), (0, ((m2 : Nat) : Int)), (0, ((t : Nat) : Int)), (0, ((i : Nat) : Int)), (0, ((k : Nat) : Int))]) (st' := [(2, w6 95 5)]) (w' := w6) (n' := 142) rfl ?_
                        rw [show w6 95 5 = 101 from zref hI94.2.1.2 rfl rfl]
                        refine qG.blk 1 (pc' := 122) (ls' := [(2, 95), (0, ((c : Nat) : Int)), (0, ((k9 : Nat) : Int)), (0, ((m2 : Nat) : Int)), (0, ((t : Nat) : Int)), (0, ((i : Nat) : Int)), (0, ((k : Nat) : Int))]) (st' := [(0, ((i : Nat) : Int)), (2, 101)]) (w' := w6) (n' := 142) rfl ?_
                        refine qG.ild (m := 1820) rfl rfl (by omega) (by decide) ?_
                        show qG none (d + 1) 257 123 [(2, 95), (0, ((c : Nat) : Int)), (0, ((k9 : Nat) : Int)), (0, ((m2 : Nat) : Int)), (0, ((t : Nat) : Int)), (0, ((i : Nat) : Int)), (0, ((k : Nat) : Int))] [(0, w6 101 i)] w6 142 Q9
                        rw [show w6 101 i = w0 101 i from hI94.2.1.1 101 (i) (by decide) (by decide) (fun z => by cases z.1)]
                        refine qG.blk 2 (pc' := 127) (ls' := [(2, 95), (0, ((c : Nat) : Int)), (0, ((k9 : Nat) : Int)), (0, ((m2 : Nat) : Int)), (0, ((t : Nat) : Int)), (0, ((i : Nat) : Int)), (0, ((k : Nat) : Int))]) (st' := [(2, w6 95 36), (0, w0 101 i)]) (w' := w6) (n' := 142) rfl ?_
                        rw [show w6 95 36 = 116 from zref hI94.2.1.2 rfl rfl]
                        refine qG.blk 1 (pc' := 129) (ls' := [(2, 95), (0, ((c : Nat) : Int)), (0, ((k9 : Nat) : Int)), (0, ((m2 : Nat) : Int)), (0, ((t : Nat) : Int)), (0, ((i : Nat) : Int)), (0, ((k : Nat) : Int))]) (st' := [(0, ((t : Nat) : Int)), (2, 116), (0, w0 101 i)]) (w' := w6) (n' := 142) rfl ?_
                        refine qG.ild (m := 900) rfl rfl (by omega) (by decide) ?_
                        show qG none (d + 1) 257 130 [(2, 95), (0, ((c : Nat) : Int)), (0, ((k9 : Nat) : Int)), (0, ((m2 : Nat) : Int)), (0, ((t : Nat) : Int)), (0, ((i : Nat) : Int)), (0, ((k : Nat) : Int))] [(0, w6 116 t), (0, w0 101 i)] w6 142 Q9
                        rw [show w6 116 t = w0 116 t from hI94.2.1.1 116 (t) (by decide) (by decide) (fun z => by cases z.1)]
                        refine qG.blk 1 (pc' := 131) (ls' := [(2, 95), (0, ((c : Nat) : Int)), (0, ((k9 : Nat) : Int)), (0, ((m2 : Nat) : Int)), (0, ((t : Nat) : Int)), (0, ((i : Nat) : Int)), (0, ((k : Nat) : Int))]) (st' := [(0, qand (w0 101 i) (w0 116 t))]) (w' := w6) (n' := 142) rfl ?_
                        refine qG.br (P := qand (w0 101 i) (w0 116 t) = 0) (pc1 := 134) (pc2 := 165) (st1 := []) rfl (fun hcl => ?_) (fun hcl => ?_)
                        · skip
                          refine qG.blk 2 (pc' := 138) (ls' := [(2, 95), (0, ((c : Nat) : Int)), (0, ((k9 : Nat) : Int)), (0, ((m2 : Nat) : Int)), (0, ((t : Nat) : Int)), (0, ((i : Nat) : Int)), (0, ((k : Nat) : Int))]) (st' := [(2, w6 95 45)]) (w' := w6) (n' := 142) rfl ?_
                          rw [show w6 95 45 = 118 from zref hI94.2.1.2 rfl rfl]
                          refine qG.blk 3 (pc' := 144) (ls' := [(2, 95), (0, ((c : Nat) : Int)), (0, ((k9 : Nat) : Int)), (0, ((m2 : Nat) : Int)), (0, ((t : Nat) : Int)), (0, ((i : Nat) : Int)), (0, ((k : Nat) : Int))]) (st' := [(2, w6 95 44), (0, ((i : Nat) : Int)), (2, 118)]) (w' := w6) (n' := 142) rfl ?_
                          rw [show w6 95 44 = 117 from zref hI94.2.1.2 rfl rfl]
                          refine qG.blk 2 (pc' := 148) (ls' := [(2, 95), (0, ((c : Nat) : Int)), (0, ((k9 : Nat) : Int)), (0, ((m2 : Nat) : Int)), (0, ((t : Nat) : Int)), (0, ((i : Nat) : Int)), (0, ((k : Nat) : Int))]) (st' := [(2, w6 95 7), (2, 117), (0, ((i : Nat) : Int)), (2, 118)]) (w' := w6) (n' := 142) rfl ?_
                          rw [show w6 95 7 = 103 from zref hI94.2.1.2 rfl rfl]
                          refine qG.blk 3 (pc' := 153) (ls' := [(2, 95), (0, ((c : Nat) : Int)), (0, ((k9 : Nat) : Int)), (0, ((m2 : Nat) : Int)), (0, ((t : Nat) : Int)), (0, ((i : Nat) : Int)), (0, ((k : Nat) : Int))]) (st' := [(0, wrp (50 * ((i : Nat) : Int))), (2, 103), (2, 117), (0, ((i : Nat) : Int)), (2, 118)]) (w' := w6) (n' := 142) rfl ?_
                          rw [show wrp (50 * ((i : Nat) : Int)) = ((50 * i : Nat) : Int) from by rw [wrp_id (by omega) (by omega)]; omega]
                          refine qG.blk 2 (pc' := 156) (ls' := [(2, 95), (0, ((c : Nat) : Int)), (0, ((k9 : Nat) : Int)), (0, ((m2 : Nat) : Int)), (0, ((t : Nat) : Int)), (0, ((i : Nat) : Int)), (0, ((k : Nat) : Int))]) (st' := [(0, wrp (((50 * i : Nat) : Int) + ((k : Nat) : Int))), (2, 103), (2, 117), (0, ((i : Nat) : Int)), (2, 118)]) (w' := w6) (n' := 142) rfl ?_
                          rw [show wrp (((50 * i : Nat) : Int) + ((k : Nat) : Int)) = ((50 * i + k : Nat) : Int) from by rw [wrp_id (by omega) (by omega)]; omega]
                          refine qG.ild (m := 91000) rfl rfl (by omega) (by decide) ?_
                          show qG none (d + 1) 257 157 [(2, 95), (0, ((c : Nat) : Int)), (0, ((k9 : Nat) : Int)), (0, ((m2 : Nat) : Int)), (0, ((t : Nat) : Int)), (0, ((i : Nat) : Int)), (0, ((k : Nat) : Int))] [(0, w6 103 (50 * i + k)), (2, 117), (0, ((i : Nat) : Int)), (2, 118)] w6 142 Q9
                          rw [show w6 103 (50 * i + k) = ((nxF w0 i k : Nat) : Int) from (hI94.2.1.1 103 (50 * i + k) (by decide) (by decide) (fun z => by cases z.1)).trans (nx_e hA0.1 i k)]
                          refine qG.bld (m := 1820) rfl rfl (by omega) (by decide) ?_
                          show qG none (d + 1) 257 158 [(2, 95), (0, ((c : Nat) : Int)), (0, ((k9 : Nat) : Int)), (0, ((m2 : Nat) : Int)), (0, ((t : Nat) : Int)), (0, ((i : Nat) : Int)), (0, ((k : Nat) : Int))] [(0, w6 117 (nxF w0 i k)), (0, ((i : Nat) : Int)), (2, 118)] w6 142 Q9
                          rw [show w6 117 (nxF w0 i k) = b01 (cF w0 t (nxF w0 i k)) from hI94.2.2.1 _ hnx]
                          refine qG.bst (m := 1820) rfl rfl (by exact ⟨⟨by omega, by omega⟩, b01_in _⟩) (by decide) ?_
                          show qG none (d + 1) 257 159 [(2, 95), (0, ((c : Nat) : Int)), (0, ((k9 : Nat) : Int)), (0, ((m2 : Nat) : Int)), (0, ((t : Nat) : Int)), (0, ((i : Nat) : Int)), (0, ((k : Nat) : Int))] [] (qup w6 118 i (b01 (cF w0 t (nxF w0 i k)))) 142 Q9
                          refine qG.blk 1 (pc' := 162) (ls' := [(2, 95), (0, ((c : Nat) : Int)), (0, ((k9 : Nat) : Int)), (0, ((m2 : Nat) : Int)), (0, ((t : Nat) : Int)), (0, ((i : Nat) : Int)), (0, wrp (((k : Nat) : Int) + 1))]) (st' := []) (w' := (qup w6 118 i (b01 (cF w0 t (nxF w0 i k))))) (n' := 142) rfl ?_
                          rw [show wrp (((k : Nat) : Int) + 1) = ((k + 1 : Nat) : Int) from wrp_id (by omega) (by omega)]
                          refine qG.blk 1 (pc' := 94) (ls' := [(2, 95), (0, ((c : Nat) : Int)), (0, ((k9 : Nat) : Int)), (0, ((m2 : Nat) : Int)), (0, ((t : Nat) : Int)), (0, ((i : Nat) : Int)), (0, ((k + 1 : Nat) : Int))]) (st' := []) (w' := (qup w6 118 i (b01 (cF w0 t (nxF w0 i k))))) (n' := 142) rfl ?_
                          exact ih94 _ (by omega) (k + 1) ((qup w6 118 i (b01 (cF w0 t (nxF w0 i k))))) rfl (⟨by omega, hdW.u118 hI94.2.1 (b01_in _), fun j hj => by rw [qup_ne (by decide)]; exact hI94.2.2.1 j hj, rows.ke (f := fun j => b01 (cF w0 (t + 1) j)) hI94.2.2.2.1 (Nat.le_refl _), by rw [qup_k]; exact hd_S hcl (b01_0 htn)⟩)
                        · skip
                          have hE := hd_E (t := t) hA0.1 hI94.1 (.inr (.inr (decide_eq_false hcl)))
                          refine qG.blk 3 (pc' := 170) (ls' := [(2, 95), (0, ((c : Nat) : Int)), (0, ((k9 : Nat) : Int)), (0, ((m2 : Nat) : Int)), (0, ((t : Nat) : Int)), (0, ((i : Nat) : Int)), (0, ((k : Nat) : Int))]) (st' := [(2, w6 95 45), (0, ((m2 : Nat) : Int))]) (w' := w6) (n' := 142) rfl ?_
                          rw [show w6 95 45 = 118 from zref hI94.2.1.2 rfl rfl]
                          refine qG.blk 1 (pc' := 172) (ls' := [(2, 95), (0, ((c : Nat) : Int)), (0, ((k9 : Nat) : Int)), (0, ((m2 : Nat) : Int)), (0, ((t : Nat) : Int)), (0, ((i : Nat) : Int)), (0, ((k : Nat) : Int))]) (st' := [(0, ((i : Nat) : Int)), (2, 118), (0, ((m2 : Nat) : Int))]) (w' := w6) (n' := 142) rfl ?_
                          refine qG.bld (m := 1820) rfl rfl (by omega) (by decide) ?_
                          show qG none (d + 1) 257 173 [(2, 95), (0, ((c : Nat) : Int)), (0, ((k9 : Nat) : Int)), (0, ((m2 : Nat) : Int)), (0, ((t : Nat) : Int)), (0, ((i : Nat) : Int)), (0, ((k : Nat) : Int))] [(0, w6 118 i), (0, ((m2 : Nat) : Int))] w6 142 Q9
                          rw [show w6 118 i = b01 (clF w0 t i && anyF (cF w0 t) (nxF w0 i) k) from hI94.2.2.2.2]
                          refine qG.br (P := b01 (clF w0 t i && anyF (cF w0 t) (nxF w0 i) k) = 0) (pc1 := 180) (pc2 := 176) (st1 := [(0, ((m2 : Nat) : Int))]) rfl (fun hth => ?_) (fun hth => ?_)
                          · skip
                            refine qG.blk 2 (pc' := 182) (ls' := [(2, 95), (0, ((c : Nat) : Int)), (0, ((k9 : Nat) : Int)), (0, ((m2 : Nat) : Int)), (0, ((t : Nat) : Int)), (0, ((i : Nat) : Int)), (0, ((k : Nat) : Int))]) (st' := [(0, wrp (((m2 : Nat) : Int) + 0))]) (w' := w6) (n' := 142) rfl ?_
                            rw [show wrp (((m2 : Nat) : Int) + 0) = ((m2 + 0 : Nat) : Int) from by rw [wrp_id (by omega) (by omega)]; omega]
                            refine qG.blk 2 (pc' := 186) (ls' := [(2, 95), (0, ((c : Nat) : Int)), (0, ((k9 : Nat) : Int)), (0, ((m2 + 0 : Nat) : Int)), (0, ((t : Nat) : Int)), (0, wrp (((i : Nat) : Int) + 1)), (0, ((k : Nat) : Int))]) (st' := []) (w' := w6) (n' := 142) rfl ?_
                            rw [show wrp (((i : Nat) : Int) + 1) = ((i + 1 : Nat) : Int) from wrp_id (by omega) (by omega)]
                            refine qG.blk 1 (pc' := 74) (ls' := [(2, 95), (0, ((c : Nat) : Int)), (0, ((k9 : Nat) : Int)), (0, ((m2 + 0 : Nat) : Int)), (0, ((t : Nat) : Int)), (0, ((i + 1 : Nat) : Int)), (0, ((k : Nat) : Int))]) (st' := []) (w' := w6) (n' := 142) rfl ?_
                            exact ih74 _ (by omega) (i + 1) (m2 + 0) (w6) ((0, ((k : Nat) : Int))) rfl (⟨by omega, hI94.2.1, hI94.2.2.1, rows.e1 (f := fun j => b01 (cF w0 (t + 1) j)) hI94.2.2.2.1 (by rw [hI94.2.2.2.2, hE]), by first | (rw [cntF_n (by rw [← hE]; exact b01_0 hth)]; omega) | (rw [cntF_y (by rw [← hE]; exact b01_1 hth)]; omega), by omega⟩)
                          · skip
                            refine qG.blk 3 (pc' := 182) (ls' := [(2, 95), (0, ((c : Nat) : Int)), (0, ((k9 : Nat) : Int)), (0, ((m2 : Nat) : Int)), (0, ((t : Nat) : Int)), (0, ((i : Nat) : Int)), (0, ((k : Nat) : Int))]) (st' := [(0, wrp (((m2 : Nat) : Int) + 1))]) (w' := w6) (n' := 142) rfl ?_
                            rw [show wrp (((m2 : Nat) : Int) + 1) = ((m2 + 1 : Nat) : Int) from by rw [wrp_id (by omega) (by omega)]; omega]
                            refine qG.blk 2 (pc' := 186) (ls' := [(2, 95), (0, ((c : Nat) : Int)), (0, ((k9 : Nat) : Int)), (0, ((m2 + 1 : Nat) : Int)), (0, ((t : Nat) : Int)), (0, wrp (((i : Nat) : Int) + 1)), (0, ((k : Nat) : Int))]) (st' := []) (w' := w6) (n' := 142) rfl ?_
                            rw [show wrp (((i : Nat) : Int) + 1) = ((i + 1 : Nat) : Int) from wrp_id (by omega) (by omega)]
                            refine qG.blk 1 (pc' := 74) (ls' := [(2, 95), (0, ((c : Nat) : Int)), (0, ((k9 : Nat) : Int)), (0, ((m2 + 1 : Nat) : Int)), (0, ((t : Nat) : Int)), (0, ((i + 1 : Nat) : Int)), (0, ((k : Nat) : Int))]) (st' := []) (w' := w6) (n' := 142) rfl ?_
                            exact ih74 _ (by omega) (i + 1) (m2 + 1) (w6) ((0, ((k : Nat) : Int))) rfl (⟨by omega, hI94.2.1, hI94.2.2.1, rows.e1 (f := fun j => b01 (cF w0 (t + 1) j)) hI94.2.2.2.1 (by rw [hI94.2.2.2.2, hE]), by first | (rw [cntF_n (by rw [← hE]; exact b01_0 hth)]; omega) | (rw [cntF_y (by rw [← hE]; exact b01_1 hth)]; omega), by omega⟩)
                      · skip
                        have hE := hd_E (t := t) hA0.1 hI94.1 (.inr (.inl (b01_1 htn)))
                        refine qG.blk 3 (pc' := 170) (ls' := [(2, 95), (0, ((c : Nat) : Int)), (0, ((k9 : Nat) : Int)), (0, ((m2 : Nat) : Int)), (0, ((t : Nat) : Int)), (0, ((i : Nat) : Int)), (0, ((k : Nat) : Int))]) (st' := [(2, w6 95 45), (0, ((m2 : Nat) : Int))]) (w' := w6) (n' := 142) rfl ?_
                        rw [show w6 95 45 = 118 from zref hI94.2.1.2 rfl rfl]
                        refine qG.blk 1 (pc' := 172) (ls' := [(2, 95), (0, ((c : Nat) : Int)), (0, ((k9 : Nat) : Int)), (0, ((m2 : Nat) : Int)), (0, ((t : Nat) : Int)), (0, ((i : Nat) : Int)), (0, ((k : Nat) : Int))]) (st' := [(0, ((i : Nat) : Int)), (2, 118), (0, ((m2 : Nat) : Int))]) (w' := w6) (n' := 142) rfl ?_
                        refine qG.bld (m := 1820) rfl rfl (by omega) (by decide) ?_
                        show qG none (d + 1) 257 173 [(2, 95), (0, ((c : Nat) : Int)), (0, ((k9 : Nat) : Int)), (0, ((m2 : Nat) : Int)), (0, ((t : Nat) : Int)), (0, ((i : Nat) : Int)), (0, ((k : Nat) : Int))] [(0, w6 118 i), (0, ((m2 : Nat) : Int))] w6 142 Q9
                        rw [show w6 118 i = b01 (clF w0 t i && anyF (cF w0 t) (nxF w0 i) k) from hI94.2.2.2.2]
                        refine qG.br (P := b01 (clF w0 t i && anyF (cF w0 t) (nxF w0 i) k) = 0) (pc1 := 180) (pc2 := 176) (st1 := [(0, ((m2 : Nat) : Int))]) rfl (fun hth => ?_) (fun hth => ?_)
                        · skip
                          refine qG.blk 2 (pc' := 182) (ls' := [(2, 95), (0, ((c : Nat) : Int)), (0, ((k9 : Nat) : Int)), (0, ((m2 : Nat) : Int)), (0, ((t : Nat) : Int)), (0, ((i : Nat) : Int)), (0, ((k : Nat) : Int))]) (st' := [(0, wrp (((m2 : Nat) : Int) + 0))]) (w' := w6) (n' := 142) rfl ?_
                          rw [show wrp (((m2 : Nat) : Int) + 0) = ((m2 + 0 : Nat) : Int) from by rw [wrp_id (by omega) (by omega)]; omega]
                          refine qG.blk 2 (pc' := 186) (ls' := [(2, 95), (0, ((c : Nat) : Int)), (0, ((k9 : Nat) : Int)), (0, ((m2 + 0 : Nat) : Int)), (0, ((t : Nat) : Int)), (0, wrp (((i : Nat) : Int) + 1)), (0, ((k : Nat) : Int))]) (st' := []) (w' := w6) (n' := 142) rfl ?_
                          rw [show wrp (((i : Nat) : Int) + 1) = ((i + 1 : Nat) : Int) from wrp_id (by omega) (by omega)]
                          refine qG.blk 1 (pc' := 74) (ls' := [(2, 95), (0, ((c : Nat) : Int)), (0, ((k9 : Nat) : Int)), (0, ((m2 + 0 : Nat) : Int)), (0, ((t : Nat) : Int)), (0, ((i + 1 : Nat) : Int)), (0, ((k : Nat) : Int))]) (st' := []) (w' := w6) (n' := 142) rfl ?_
                          exact ih74 _ (by omega) (i + 1) (m2 + 0) (w6) ((0, ((k : Nat) : Int))) rfl (⟨by omega, hI94.2.1, hI94.2.2.1, rows.e1 (f := fun j => b01 (cF w0 (t + 1) j)) hI94.2.2.2.1 (by rw [hI94.2.2.2.2, hE]), by first | (rw [cntF_n (by rw [← hE]; exact b01_0 hth)]; omega) | (rw [cntF_y (by rw [← hE]; exact b01_1 hth)]; omega), by omega⟩)
                        · skip
                          refine qG.blk 3 (pc' := 182) (ls' := [(2, 95), (0, ((c : Nat) : Int)), (0, ((k9 : Nat) : Int)), (0, ((m2 : Nat) : Int)), (0, ((t : Nat) : Int)), (0, ((i : Nat) : Int)), (0, ((k : Nat) : Int))]) (st' := [(0, wrp (((m2 : Nat) : Int) + 1))]) (w' := w6) (n' := 142) rfl ?_
                          rw [show wrp (((m2 : Nat) : Int) + 1) = ((m2 + 1 : Nat) : Int) from by rw [wrp_id (by omega) (by omega)]; omega]
                          refine qG.blk 2 (pc' := 186) (ls' := [(2, 95), (0, ((c : Nat) : Int)), (0, ((k9 : Nat) : Int)), (0, ((m2 + 1 : Nat) : Int)), (0, ((t : Nat) : Int)), (0, wrp (((i : Nat) : Int) + 1)), (0, ((k : Nat) : Int))]) (st' := []) (w' := w6) (n' := 142) rfl ?_
                          rw [show wrp (((i : Nat) : Int) + 1) = ((i + 1 : Nat) : Int) from wrp_id (by omega) (by omega)]
                          refine qG.blk 1 (pc' := 74) (ls' := [(2, 95), (0, ((c : Nat) : Int)), (0, ((k9 : Nat) : Int)), (0, ((m2 + 1 : Nat) : Int)), (0, ((t : Nat) : Int)), (0, ((i + 1 : Nat) : Int)), (0, ((k : Nat) : Int))]) (st' := []) (w' := w6) (n' := 142) rfl ?_
                          exact ih74 _ (by omega) (i + 1) (m2 + 1) (w6) ((0, ((k : Nat) : Int))) rfl (⟨by omega, hI94.2.1, hI94.2.2.1, rows.e1 (f := fun j => b01 (cF w0 (t + 1) j)) hI94.2.2.2.1 (by rw [hI94.2.2.2.2, hE]), by first | (rw [cntF_n (by rw [← hE]; exact b01_0 hth)]; omega) | (rw [cntF_y (by rw [← hE]; exact b01_1 hth)]; omega), by omega⟩)
                    · skip
                      have hE := hd_E (t := t) hA0.1 hI94.1 (.inl hkm)
                      refine qG.blk 3 (pc' := 170) (ls' := [(2, 95), (0, ((c : Nat) : Int)), (0, ((k9 : Nat) : Int)), (0, ((m2 : Nat) : Int)), (0, ((t : Nat) : Int)), (0, ((i : Nat) : Int)), (0, ((k : Nat) : Int))]) (st' := [(2, w6 95 45), (0, ((m2 : Nat) : Int))]) (w' := w6) (n' := 142) rfl ?_
                      rw [show w6 95 45 = 118 from zref hI94.2.1.2 rfl rfl]
                      refine qG.blk 1 (pc' := 172) (ls' := [(2, 95), (0, ((c : Nat) : Int)), (0, ((k9 : Nat) : Int)), (0, ((m2 : Nat) : Int)), (0, ((t : Nat) : Int)), (0, ((i : Nat) : Int)), (0, ((k : Nat) : Int))]) (st' := [(0, ((i : Nat) : Int)), (2, 118), (0, ((m2 : Nat) : Int))]) (w' := w6) (n' := 142) rfl ?_
                      refine qG.bld (m := 1820) rfl rfl (by omega) (by decide) ?_
                      show qG none (d + 1) 257 173 [(2, 95), (0, ((c : Nat) : Int)), (0, ((k9 : Nat) : Int)), (0, ((m2 : Nat) : Int)), (0, ((t : Nat) : Int)), (0, ((i : Nat) : Int)), (0, ((k : Nat) : Int))] [(0, w6 118 i), (0, ((m2 : Nat) : Int))] w6 142 Q9
                      rw [show w6 118 i = b01 (clF w0 t i && anyF (cF w0 t) (nxF w0 i) k) from hI94.2.2.2.2]
                      refine qG.br (P := b01 (clF w0 t i && anyF (cF w0 t) (nxF w0 i) k) = 0) (pc1 := 180) (pc2 := 176) (st1 := [(0, ((m2 : Nat) : Int))]) rfl (fun hth => ?_) (fun hth => ?_)
                      · skip
                        refine qG.blk 2 (pc' := 182) (ls' := [(2, 95), (0, ((c : Nat) : Int)), (0, ((k9 : Nat) : Int)), (0, ((m2 : Nat) : Int)), (0, ((t : Nat) : Int)), (0, ((i : Nat) : Int)), (0, ((k : Nat) : Int))]) (st' := [(0, wrp (((m2 : Nat) : Int) + 0))]) (w' := w6) (n' := 142) rfl ?_
                        rw [show wrp (((m2 : Nat) : Int) + 0) = ((m2 + 0 : Nat) : Int) from by rw [wrp_id (by omega) (by omega)]; omega]
                        refine qG.blk 2 (pc' := 186) (ls' := [(2, 95), (0, ((c : Nat) : Int)), (0, ((k9 : Nat) : Int)), (0, ((m2 + 0 : Nat) : Int)), (0, ((t : Nat) : Int)), (0, wrp (((i : Nat) : Int) + 1)), (0, ((k : Nat) : Int))]) (st' := []) (w' := w6) (n' := 142) rfl ?_
                        rw [show wrp (((i : Nat) : Int) + 1) = ((i + 1 : Nat) : Int) from wrp_id (by omega) (by omega)]
                        refine qG.blk 1 (pc' := 74) (ls' := [(2, 95), (0, ((c : Nat) : Int)), (0, ((k9 : Nat) : Int)), (0, ((m2 + 0 : Nat) : Int)), (0, ((t : Nat) : Int)), (0, ((i + 1 : Nat) : Int)), (0, ((k : Nat) : Int))]) (st' := []) (w' := w6) (n' := 142) rfl ?_
                        exact ih74 _ (by omega) (i + 1) (m2 + 0) (w6) ((0, ((k : Nat) : Int))) rfl (⟨by omega, hI94.2.1, hI94.2.2.1, rows.e1 (f := fun j => b01 (cF w0 (t + 1) j)) hI94.2.2.2.1 (by rw [hI94.2.2.2.2, hE]), by first | (rw [cntF_n (by rw [← hE]; exact b01_0 hth)]; omega) | (rw [cntF_y (by rw [← hE]; exact b01_1 hth)]; omega), by omega⟩)
                      · skip
                        refine qG.blk 3 (pc' := 182) (ls' := [(2, 95), (0, ((c : Nat) : Int)), (0, ((k9 : Nat) : Int)), (0, ((m2 : Nat) : Int)), (0, ((t : Nat) : Int)), (0, ((i : Nat) : Int)), (0, ((k : Nat) : Int))]) (st' := [(0, wrp (((m2 : Nat) : Int) + 1))]) (w' := w6) (n' := 142) rfl ?_
                        rw [show wrp (((m2 : Nat) : Int) + 1) = ((m2 + 1 : Nat) : Int) from by rw [wrp_id (by omega) (by omega)]; omega]
                        refine qG.blk 2 (pc' := 186) (ls' := [(2, 95), (0, ((c : Nat) : Int)), (0, ((k9 : Nat) : Int)), (0, ((m2 + 1 : Nat) : Int)), (0, ((t : Nat) : Int)), (0, wrp (((i : Nat) : Int) + 1)), (0, ((k : Nat) : Int))]) (st' := []) (w' := w6) (n' := 142) rfl ?_
                        rw [show wrp (((i : Nat) : Int) + 1) = ((i + 1 : Nat) : Int) from wrp_id (by omega) (by omega)]
                        refine qG.blk 1 (pc' := 74) (ls' := [(2, 95), (0, ((c : Nat) : Int)), (0, ((k9 : Nat) : Int)), (0, ((m2 + 1 : Nat) : Int)), (0, ((t : Nat) : Int)), (0, ((i + 1 : Nat) : Int)), (0, ((k : Nat) : Int))]) (st' := []) (w' := w6) (n' := 142) rfl ?_
                        exact ih74 _ (by omega) (i + 1) (m2 + 1) (w6) ((0, ((k : Nat) : Int))) rfl (⟨by omega, hI94.2.1, hI94.2.2.1, rows.e1 (f := fun j => b01 (cF w0 (t + 1) j)) hI94.2.2.2.1 (by rw [hI94.2.2.2.2, hE]), by first | (rw [cntF_n (by rw [← hE]; exact b01_0 hth)]; omega) | (rw [cntF_y (by rw [← hE]; exact b01_1 hth)]; omega), by omega⟩)
                  exact L94_1 _ (0) ((qup w7 118 i 0)) rfl (⟨by omega, hdW.u118 hI74.2.1 (by decide), fun j hj => by rw [qup_ne (by decide)]; exact hI74.2.2.1 j hj, rows.ke (f := fun j => b01 (cF w0 (t + 1) j)) hI74.2.2.2.1 (Nat.le_refl _), by rw [qup_k]; show (0 : Int) = b01 (_ && false); rw [Bool.and_false]; rfl⟩)
                · skip
                  refine qG.blk 1 (pc' := 190) (ls' := [(2, 95), (0, ((c : Nat) : Int)), (0, ((k9 : Nat) : Int)), (0, ((m2 : Nat) : Int)), (0, ((t : Nat) : Int)), (0, ((i : Nat) : Int)), x6]) (st' := [(0, ((m2 : Nat) : Int))]) (w' := w7) (n' := 142) rfl ?_
                  refine qG.br (P := ((m2 : Nat) : Int) = 0) (pc1 := 193) (pc2 := 199) (st1 := []) rfl (fun hz => ?_) (fun hz => ?_)
                  · skip
                    refine qG.blk 5 (pc' := 202) (ls' := [(2, 95), (0, ((c : Nat) : Int)), (0, ((k9 : Nat) : Int)), (0, ((m2 : Nat) : Int)), (0, ((t : Nat) : Int)), (0, 0), x6]) (st' := []) (w' := (qup w7 95 46 ((t : Nat) : Int))) (n' := 142) rfl ?_
                    have L202_2 : ∀ (m9 : Nat) (i2 : Nat) (w5 : qW), N - i2 = m9 → (i2 ≤ N ∧ hdW w0 w5 ∧ (∀ j, j < N → w5 118 j = b01 (cF w0 (t + 1) j)) ∧ (∀ j, j < i2 → w5 117 j = b01 (cF w0 (t + 1) j))) → qG none (d + 1) 257 202 [(2, 95), (0, ((c : Nat) : Int)), (0, ((k9 : Nat) : Int)), (0, ((m2 : Nat) : Int)), (0, ((t : Nat) : Int)), (0, ((i2 : Nat) : Int)), x6] [] w5 142 Q9 := by
                      intro m9
                      induction m9 using Nat.strongRecOn with
                      | ind m9 ih202 =>
                      intro i2 w5 hm202 hI202
                      refine qG.blk 3 (pc' := 208) (ls' := [(2, 95), (0, ((c : Nat) : Int)), (0, ((k9 : Nat) : Int)), (0, ((m2 : Nat) : Int)), (0, ((t : Nat) : Int)), (0, ((i2 : Nat) : Int)), x6]) (st' := [(0, w5 95 8), (0, ((i2 : Nat) : Int))]) (w' := w5) (n' := 142) rfl ?_
                      rw [show w5 95 8 = ((N : Nat) : Int) from (hI202.2.1.1 95 (8) (by decide) (by decide) (fun z => by cases z.2)).trans hN]
                      refine qG.br (P := ((i2 : Nat) : Int) < ((N : Nat) : Int)) (pc1 := 211) (pc2 := 231) (st1 := []) rfl (fun h6 => ?_) (fun h6 => ?_)
                      · skip
                        refine qG.blk 2 (pc' := 215) (ls' := [(2, 95), (0, ((c : Nat) : Int)), (0, ((k9 : Nat) : Int)), (0, ((m2 : Nat) : Int)), (0, ((t : Nat) : Int)), (0, ((i2 : Nat) : Int)), x6]) (st' := [(2, w5 95 44)]) (w' := w5) (n' := 142) rfl ?_
                        rw [show w5 95 44 = 117 from zref hI202.2.1.2 rfl rfl]
                        refine qG.blk 3 (pc' := 221) (ls' := [(2, 95), (0, ((c : Nat) : Int)), (0, ((k9 : Nat) : Int)), (0, ((m2 : Nat) : Int)), (0, ((t : Nat) : Int)), (0, ((i2 : Nat) : Int)), x6]) (st' := [(2, w5 95 45), (0, ((i2 : Nat) : Int)), (2, 117)]) (w' := w5) (n' := 142) rfl ?_
                        rw [show w5 95 45 = 118 from zref hI202.2.1.2 rfl rfl]
                        refine qG.blk 1 (pc' := 223) (ls' := [(2, 95), (0, ((c : Nat) : Int)), (0, ((k9 : Nat) : Int)), (0, ((m2 : Nat) : Int)), (0, ((t : Nat) : Int)), (0, ((i2 : Nat) : Int)), x6]) (st' := [(0, ((i2 : Nat) : Int)), (2, 118), (0, ((i2 : Nat) : Int)), (2, 117)]) (w' := w5) (n' := 142) rfl ?_
                        refine qG.bld (m := 1820) rfl rfl (by omega) (by decide) ?_
                        show qG none (d + 1) 257 224 [(2, 95), (0, ((c : Nat) : Int)), (0, ((k9 : Nat) : Int)), (0, ((m2 : Nat) : Int)), (0, ((t : Nat) : Int)), (0, ((i2 : Nat) : Int)), x6] [(0, w5 118 i2), (0, ((i2 : Nat) : Int)), (2, 117)] w5 142 Q9
                        rw [show w5 118 i2 = b01 (cF w0 (t + 1) i2) from hI202.2.2.1 _ (by omega)]
                        refine qG.bst (m := 1820) rfl rfl (by exact ⟨⟨by omega, by omega⟩, b01_in _⟩) (by decide) ?_
                        show qG none (d + 1) 257 225 [(2, 95), (0, ((c : Nat) : Int)), (0, ((k9 : Nat) : Int)), (0, ((m2 : Nat) : Int)), (0, ((t : Nat) : Int)), (0, ((i2 : Nat) : Int)), x6] [] (qup w5 117 i2 (b01 (cF w0 (t + 1) i2))) 142 Q9
                        refine qG.blk 1 (pc' := 228) (ls' := [(2, 95), (0, ((c : Nat) : Int)), (0, ((k9 : Nat) : Int)), (0, ((m2 : Nat) : Int)), (0, ((t : Nat) : Int)), (0, wrp (((i2 : Nat) : Int) + 1)), x6]) (st' := []) (w' := (qup w5 117 i2 (b01 (cF w0 (t + 1) i2)))) (n' := 142) rfl ?_
                        rw [show wrp (((i2 : Nat) : Int) + 1) = ((i2 + 1 : Nat) : Int) from wrp_id (by omega) (by omega)]
                        refine qG.blk 1 (pc' := 202) (ls' := [(2, 95), (0, ((c : Nat) : Int)), (0, ((k9 : Nat) : Int)), (0, ((m2 : Nat) : Int)), (0, ((t : Nat) : Int)), (0, ((i2 + 1 : Nat) : Int)), x6]) (st' := []) (w' := (qup w5 117 i2 (b01 (cF w0 (t + 1) i2)))) (n' := 142) rfl ?_
                        exact ih202 _ (by omega) (i2 + 1) ((qup w5 117 i2 (b01 (cF w0 (t + 1) i2)))) rfl (⟨by omega, hdW.u117 hI202.2.1 (b01_in _), fun j hj => by rw [qup_ne (by decide)]; exact hI202.2.2.1 j hj, rows.nx (f := fun j => b01 (cF w0 (t + 1) j)) hI202.2.2.2 rfl⟩)
                      · skip
                        refine qG.blk 1 (pc' := 234) (ls' := [(2, 95), (0, ((c : Nat) : Int)), (0, ((k9 : Nat) : Int)), (0, ((m2 : Nat) : Int)), (0, wrp (((t : Nat) : Int) + 1)), (0, ((i2 : Nat) : Int)), x6]) (st' := []) (w' := w5) (n' := 142) rfl ?_
                        rw [show wrp (((t : Nat) : Int) + 1) = ((t + 1 : Nat) : Int) from wrp_id (by omega) (by omega)]
                        refine qG.blk 1 (pc' := 56) (ls' := [(2, 95), (0, ((c : Nat) : Int)), (0, ((k9 : Nat) : Int)), (0, ((m2 : Nat) : Int)), (0, ((t + 1 : Nat) : Int)), (0, ((i2 : Nat) : Int)), x6]) (st' := []) (w' := w5) (n' := 142) rfl ?_
                        exact ih56 _ (by omega) (t + 1) (m2) (w5) ((0, ((i2 : Nat) : Int))) (x6) rfl (⟨by omega, hI202.2.1, fun j hj => hI202.2.2.2 j (by omega), by rw [hI74.2.2.2.2.1, show i = N by omega]⟩)
                    exact L202_2 _ (0) ((qup w7 95 46 ((t : Nat) : Int))) rfl (⟨by omega, by first | exact hI74.2.1 | exact hI74.2.1.u46 (by omega) (by omega), fun j hj => by first | exact hI74.2.2.2.1 j (by omega) | (rw [qup_ne (by decide)]; exact hI74.2.2.2.1 j (by omega)), fun j hj => absurd hj (Nat.not_lt_zero j)⟩)
                  · skip
                    refine qG.blk 2 (pc' := 202) (ls' := [(2, 95), (0, ((c : Nat) : Int)), (0, ((k9 : Nat) : Int)), (0, ((m2 : Nat) : Int)), (0, ((t : Nat) : Int)), (0, 0), x6]) (st' := []) (w' := w7) (n' := 142) rfl ?_
                    have L202_3 : ∀ (m9 : Nat) (i2 : Nat) (w5 : qW), N - i2 = m9 → (i2 ≤ N ∧ hdW w0 w5 ∧ (∀ j, j < N → w5 118 j = b01 (cF w0 (t + 1) j)) ∧ (∀ j, j < i2 → w5 117 j = b01 (cF w0 (t + 1) j))) → qG none (d + 1) 257 202 [(2, 95), (0, ((c : Nat) : Int)), (0, ((k9 : Nat) : Int)), (0, ((m2 : Nat) : Int)), (0, ((t : Nat) : Int)), (0, ((i2 : Nat) : Int)), x6] [] w5 142 Q9 := by
                      intro m9
                      induction m9 using Nat.strongRecOn with
                      | ind m9 ih202 =>
                      intro i2 w5 hm202 hI202
                      refine qG.blk 3 (pc' := 208) (ls' := [(2, 95), (0, ((c : Nat) : Int)), (0, ((k9 : Nat) : Int)), (0, ((m2 : Nat) : Int)), (0, ((t : Nat) : Int)), (0, ((i2 : Nat) : Int)), x6]) (st' := [(0, w5 95 8), (0, ((i2 : Nat) : Int))]) (w' := w5) (n' := 142) rfl ?_
                      rw [show w5 95 8 = ((N : Nat) : Int) from (hI202.2.1.1 95 (8) (by decide) (by decide) (fun z => by cases z.2)).trans hN]
                      refine qG.br (P := ((i2 : Nat) : Int) < ((N : Nat) : Int)) (pc1 := 211) (pc2 := 231) (st1 := []) rfl (fun h7 => ?_) (fun h7 => ?_)
                      · skip
                        refine qG.blk 2 (pc' := 215) (ls' := [(2, 95), (0, ((c : Nat) : Int)), (0, ((k9 : Nat) : Int)), (0, ((m2 : Nat) : Int)), (0, ((t : Nat) : Int)), (0, ((i2 : Nat) : Int)), x6]) (st' := [(2, w5 95 44)]) (w' := w5) (n' := 142) rfl ?_
                        rw [show w5 95 44 = 117 from zref hI202.2.1.2 rfl rfl]
                        refine qG.blk 3 (pc' := 221) (ls' := [(2, 95), (0, ((c : Nat) : Int)), (0, ((k9 : Nat) : Int)), (0, ((m2 : Nat) : Int)), (0, ((t : Nat) : Int)), (0, ((i2 : Nat) : Int)), x6]) (st' := [(2, w5 95 45), (0, ((i2 : Nat) : Int)), (2, 117)]) (w' := w5) (n' := 142) rfl ?_
                        rw [show w5 95 45 = 118 from zref hI202.2.1.2 rfl rfl]
                        refine qG.blk 1 (pc' := 223) (ls' := [(2, 95), (0, ((c : Nat) : Int)), (0, ((k9 : Nat) : Int)), (0, ((m2 : Nat) : Int)), (0, ((t : Nat) : Int)), (0, ((i2 : Nat) : Int)), x6]) (st' := [(0, ((i2 : Nat) : Int)), (2, 118), (0, ((i2 : Nat) : Int)), (2, 117)]) (w' := w5) (n' := 142) rfl ?_
                        refine qG.bld (m := 1820) rfl rfl (by omega) (by decide) ?_
                        show qG none (d + 1) 257 224 [(2, 95), (0, ((c : Nat) : Int)), (0, ((k9 : Nat) : Int)), (0, ((m2 : Nat) : Int)), (0, ((t : Nat) : Int)), (0, ((i2 : Nat) : Int)), x6] [(0, w5 118 i2), (0, ((i2 : Nat) : Int)), (2, 117)] w5 142 Q9
                        rw [show w5 118 i2 = b01 (cF w0 (t + 1) i2) from hI202.2.2.1 _ (by omega)]
                        refine qG.bst (m := 1820) rfl rfl (by exact ⟨⟨by omega, by omega⟩, b01_in _⟩) (by decide) ?_
                        show qG none (d + 1) 257 225 [(2, 95), (0, ((c : Nat) : Int)), (0, ((k9 : Nat) : Int)), (0, ((m2 : Nat) : Int)), (0, ((t : Nat) : Int)), (0, ((i2 : Nat) : Int)), x6] [] (qup w5 117 i2 (b01 (cF w0 (t + 1) i2))) 142 Q9
                        refine qG.blk 1 (pc' := 228) (ls' := [(2, 95), (0, ((c : Nat) : Int)), (0, ((k9 : Nat) : Int)), (0, ((m2 : Nat) : Int)), (0, ((t : Nat) : Int)), (0, wrp (((i2 : Nat) : Int) + 1)), x6]) (st' := []) (w' := (qup w5 117 i2 (b01 (cF w0 (t + 1) i2)))) (n' := 142) rfl ?_
                        rw [show wrp (((i2 : Nat) : Int) + 1) = ((i2 + 1 : Nat) : Int) from wrp_id (by omega) (by omega)]
                        refine qG.blk 1 (pc' := 202) (ls' := [(2, 95), (0, ((c : Nat) : Int)), (0, ((k9 : Nat) : Int)), (0, ((m2 : Nat) : Int)), (0, ((t : Nat) : Int)), (0, ((i2 + 1 : Nat) : Int)), x6]) (st' := []) (w' := (qup w5 117 i2 (b01 (cF w0 (t + 1) i2)))) (n' := 142) rfl ?_
                        exact ih202 _ (by omega) (i2 + 1) ((qup w5 117 i2 (b01 (cF w0 (t + 1) i2)))) rfl (⟨by omega, hdW.u117 hI202.2.1 (b01_in _), fun j hj => by rw [qup_ne (by decide)]; exact hI202.2.2.1 j hj, rows.nx (f := fun j => b01 (cF w0 (t + 1) j)) hI202.2.2.2 rfl⟩)
                      · skip
                        refine qG.blk 1 (pc' := 234) (ls' := [(2, 95), (0, ((c : Nat) : Int)), (0, ((k9 : Nat) : Int)), (0, ((m2 : Nat) : Int)), (0, wrp (((t : Nat) : Int) + 1)), (0, ((i2 : Nat) : Int)), x6]) (st' := []) (w' := w5) (n' := 142) rfl ?_
                        rw [show wrp (((t : Nat) : Int) + 1) = ((t + 1 : Nat) : Int) from wrp_id (by omega) (by omega)]
                        refine qG.blk 1 (pc' := 56) (ls' := [(2, 95), (0, ((c : Nat) : Int)), (0, ((k9 : Nat) : Int)), (0, ((m2 : Nat) : Int)), (0, ((t + 1 : Nat) : Int)), (0, ((i2 : Nat) : Int)), x6]) (st' := []) (w' := w5) (n' := 142) rfl ?_
                        exact ih56 _ (by omega) (t + 1) (m2) (w5) ((0, ((i2 : Nat) : Int))) (x6) rfl (⟨by omega, hI202.2.1, fun j hj => hI202.2.2.2 j (by omega), by rw [hI74.2.2.2.2.1, show i = N by omega]⟩)
                    exact L202_3 _ (0) (w7) rfl (⟨by omega, by first | exact hI74.2.1 | exact hI74.2.1.u46 (by omega) (by omega), fun j hj => by first | exact hI74.2.2.2.1 j (by omega) | (rw [qup_ne (by decide)]; exact hI74.2.2.2.1 j (by omega)), fun j hj => absurd hj (Nat.not_lt_zero j)⟩)
              exact L74_1 _ (0) (0) (w8) (x6) rfl (⟨by omega, hI56.2.1, hI56.2.2.1, fun j hj => absurd hj (Nat.not_lt_zero j), rfl, by omega⟩)
            · skip
              refine qG.blk 1 (pc' := 238) (ls' := [(2, 95), (0, ((c : Nat) : Int)), (0, ((k9 : Nat) : Int)), (0, ((m : Nat) : Int)), (0, ((t : Nat) : Int)), x5, x6]) (st' := [(0, ((m : Nat) : Int))]) (w' := w8) (n' := 142) rfl ?_
              refine qG.ret rfl rfl ?_
              subst hQ9
              exact ⟨rfl, w0, hfp, hA0, hS0, hI56.2.1, N, S, t, hN, hSS, hI56.1, by rw [hI56.2.2.2], by first | (left; omega) | (right; omega)⟩
          · skip
            refine qG.blk 1 (pc' := 238) (ls' := [(2, 95), (0, ((c : Nat) : Int)), (0, ((k9 : Nat) : Int)), (0, ((m : Nat) : Int)), (0, ((t : Nat) : Int)), x5, x6]) (st' := [(0, ((m : Nat) : Int))]) (w' := w8) (n' := 142) rfl ?_
            refine qG.ret rfl rfl ?_
            subst hQ9
            exact ⟨rfl, w0, hfp, hA0, hS0, hI56.2.1, N, S, t, hN, hSS, hI56.1, by rw [hI56.2.2.2], by first | (left; omega) | (right; omega)⟩
        exact L56_1 _ (0) (N) (w9) ((9, 0)) ((9, 0)) rfl (⟨by omega, hI30.2.1, fun j hj => by rw [hI30.2.2 j (by omega)]; rfl, (cntF_all (fun _ => rfl) N).symm⟩)
    exact L30_1 _ (0) ((qup w0 95 46 (-1))) rfl (⟨by omega, hdW.u46 ⟨fun _ _ _ _ _ => rfl, hA0.1⟩ (by omega) (by omega), fun j hj => absurd hj (Nat.not_lt_zero j)⟩)
