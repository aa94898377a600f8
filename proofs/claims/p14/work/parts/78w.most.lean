/-! so many poses at most: fewer passages reach less; the free chest's sets decided -/
noncomputable def nbT (s : Nat) : Nat := [274, 549, 1098, 2180, 4129, 8274, 16548, 32840, 4609, 9474, 18948, 33800, 8464, 21024, 42048, 18560].getD s 0
theorem nbT_ok : ∀ s : Nat, s < 16 → ∀ t : Nat, t < 16 → (nbT s).testBit t = nbB s t := by decide +kernel
theorem nbT_in : ∀ s : Nat, s < 16 → nbT s < 65536 := by decide +kernel
noncomputable def nuN (x : Nat) : Nat → Nat
  | 0 => 0
  | s + 1 => bif x.testBit s then nuN x s ||| nbT s else nuN x s
noncomputable def nstN (v x : Nat) : Nat := x ||| (nuN x 16 &&& v)
noncomputable def loF (v : Nat) : Nat → Nat
  | 0 => 16
  | s + 1 => bif Nat.blt (loF v s) 16 then loF v s else bif v.testBit s then s else 16
noncomputable def hangN (v : Nat) : Bool := Nat.beq (nstN v (nstN v (nstN v (2 ^ loF v 16)))) v
theorem nuN_in {x : Nat} : ∀ s, s ≤ 16 → nuN x s < 65536
  | 0, _ => (by show (0 : Nat) < 65536; decide)
  | s + 1, hs => by
    have ih := nuN_in (x := x) s (by omega)
    show (bif x.testBit s then nuN x s ||| nbT s else nuN x s) < 65536
    cases x.testBit s
    · exact ih
    · have h3 : nuN x s ||| nbT s < 2 ^ 16 := Nat.or_lt_two_pow ih (nbT_in s (by omega))
      exact h3
theorem nuN_c {x : Nat} (hx : x < 65536) : ∀ s, s ≤ 16 → ntF (fun s => ((nbT s : Nat) : Int)) (x : Int) s = ((nuN x s : Nat) : Int)
  | 0, _ => rfl
  | s + 1, hs => by
    have ih := nuN_c hx s (by omega)
    have h1 := nuN_in (x := x) s (by omega)
    have h2 := nbT_in s (by omega)
    show (if hbit (x : Int) s = true then qor (ntF (fun s => ((nbT s : Nat) : Int)) (x : Int) s) ((nbT s : Nat) : Int) else ntF (fun s => ((nbT s : Nat) : Int)) (x : Int) s) = (((bif x.testBit s then nuN x s ||| nbT s else nuN x s) : Nat) : Int)
    rw [hb_t hx (by omega), ih]
    cases x.testBit s
    · rfl
    · rw [if_pos rfl, qor_n (by omega) (by omega)]; rfl
theorem nst_c {v x : Nat} (hv : v < 65536) (hx : x < 65536) : stI (fun s => ((nbT s : Nat) : Int)) (v : Int) (x : Int) = ((nstN v x : Nat) : Int) ∧ nstN v x < 65536 := by
  have h1 := nuN_in (x := x) 16 (Nat.le_refl _)
  have h2 : nuN x 16 &&& v ≤ v := Nat.and_le_right
  have h3 : nstN v x < 2 ^ 16 := Nat.or_lt_two_pow hx (show nuN x 16 &&& v < 2 ^ 16 by omega)
  refine ⟨?_, h3⟩
  unfold stI nstN
  rw [nuN_c hx 16 (Nat.le_refl _), qand_n (by omega) (by omega), qor_n (by omega) (by omega)]
theorem loF_ok {v : Nat} : ∀ s, s ≤ 16 → (loF v s = 16 ∧ ∀ t, t < s → v.testBit t = false) ∨ (loF v s < s ∧ v.testBit (loF v s) = true ∧ ∀ t, t < loF v s → v.testBit t = false)
  | 0, _ => .inl ⟨rfl, fun t ht => absurd ht (Nat.not_lt_zero t)⟩
  | s + 1, hs => by
    have ih := loF_ok (v := v) s (by omega)
    have e : loF v (s + 1) = bif Nat.blt (loF v s) 16 then loF v s else bif v.testBit s then s else 16 := rfl
    rcases ih with ⟨a, b⟩ | ⟨a, b, c⟩
    · rw [a] at e
      cases hb : v.testBit s
      · rw [hb] at e
        refine .inl ⟨e, fun t ht => ?_⟩
        by_cases q : t = s
        · rw [q]; exact hb
        · exact b t (by omega)
      · rw [hb] at e
        have e : loF v (s + 1) = s := e
        rw [e]
        exact .inr ⟨by omega, hb, b⟩
    · rw [Nat.blt_eq.mpr (show loF v s < 16 by omega)] at e
      have e : loF v (s + 1) = loF v s := e
      rw [e]
      exact .inr ⟨by omega, b, c⟩
theorem cnt_pc {v : Nat} (hv : v < 65536) : cnt16 (v : Int) = pc v 16 := ctb_congr (fun i hi => hb_t hv hi)
theorem lo_h {v r : Nat} (hv : v < 65536) (hr : r < 16) (h1 : v.testBit r = true) (h2 : ∀ t, t < r → v.testBit t = false) : hgL (v : Int) 16 = qshl 1 (r : Int) := by
  rcases hgL_lo (v : Int) 16 (Nat.le_refl _) with ⟨-, b⟩ | ⟨q, a, b, c, e⟩
  · have := b r hr
    rw [hb_t hv hr, h1] at this
    cases this
  · rw [e]
    have : q = r := by
      rcases Nat.lt_trichotomy q r with z | z | z
      · rw [hb_t hv a, h2 q z] at b; cases b
      · exact z
      · have := c r z
        rw [hb_t hv hr, h1] at this; cases this
    rw [this]
theorem hang_free {v : Nat} (h0 : 0 < v) (hv : v < 65536) (h4 : pc v 16 ≤ 4) : hgR nbB (v : Int) = (v : Int) ↔ hangN v = true := by
  rcases loF_ok (v := v) 16 (Nat.le_refl _) with ⟨-, b⟩ | ⟨a, b, c⟩
  · exfalso
    have : v = 0 := by
      apply Nat.eq_of_testBit_eq
      intro i
      rw [Nat.zero_testBit]
      by_cases hi : i < 16
      · exact b i hi
      · exact tb_hi hv hi
    omega
  · have hp := q2p (loF v 16) a
    have hq : 2 ^ loF v 16 < 65536 := by omega
    have key := hang_eq (R := fun s => ((nbT s : Nat) : Int)) (P := nbB) (fun s t hs ht => by rw [hb_t (nbT_in s hs) ht]; exact nbT_ok s hs t ht) (v := (v : Int)) (by omega) (by rw [cnt_pc hv]; exact h4) a (by rw [hb_t hv a]; exact b) (lo_h hv a b c)
    have c1 := nst_c hv hq
    have c2 := nst_c hv c1.2
    have c3 := nst_c hv c2.2
    rw [hp.1, c1.1, c2.1, c3.1] at key
    rw [← key]
    unfold hangN
    constructor
    · intro z; rw [show nstN v (nstN v (nstN v (2 ^ loF v 16))) = v by omega]; exact Nat.beq_refl v
    · intro z; have := Nat.eq_of_beq_eq_true z; omega
/-- fewer passages reach less -/
theorem hg_mono {P Q : Nat → Nat → Bool} (hPQ : ∀ s t, s < 16 → t < 16 → P s t = true → Q s t = true) {v : Int} (hv : 0 ≤ v ∧ v ≤ 65535) (h : hgR P v = v) : hgR Q v = v := by
  by_cases hl : hgL v 16 = 0
  · unfold hgR at h ⊢
    rw [if_pos hl] at h ⊢
    exact h
  · have hr := hgL_in v 16 (Nat.le_refl _)
    have eP : hgR P v = hgF P v 65536 (hgL v 16) := by unfold hgR; rw [if_neg hl]
    have eQ : hgR Q v = hgF Q v 65536 (hgL v 16) := by unfold hgR; rw [if_neg hl]
    have fQ := hgF_f (P := Q) (v := v) 65536 (hgL v 16) hr.1 hr.2 (by omega)
    rw [← eQ] at fQ
    have cQ : clo Q v (hgR Q v) := fix_clo fQ.1
    have cP : clo P v (hgR Q v) := fun s t hs ht a b c => cQ s t hs ht a b (hPQ s t hs ht c)
    have lQ : sbs (hgL v 16) (hgR Q v) := by rw [eQ]; exact hgF_m _ _
    have up : sbs (hgR P v) (hgR Q v) := by rw [eP]; exact hgF_c cP _ _ lQ
    rw [h] at up
    have lv : sbs (hgL v 16) v := by
      rcases hgL_lo v 16 (Nat.le_refl _) with ⟨z, -⟩ | ⟨r, a, b, -, e⟩
      · exact absurd z hl
      · rw [e]
        intro s hs q
        rw [hbit_1 r (by omega) s (by omega), decide_eq_true_eq] at q
        rw [← q]; exact b
    have dn : sbs (hgR Q v) v := by rw [eQ]; exact hgF_c (fun s t _ _ _ z _ => z) _ _ lv
    exact sbs.eq fQ.2 hv dn up
noncomputable def budH : Nat → Nat → Nat → Bool
  | 0, _, _ => true
  | n + 1, m, b => match m with
    | 0 => false
    | q + 1 => bif hangN (q + 1) then (match b with
      | 0 => false
      | b + 1 => budH n (gosN (q + 1)) b) else budH n (gosN (q + 1)) b
theorem bud_1 : budH 16 1 180 = true := by decide +kernel
theorem bud_2 : budH 120 3 180 = true := by decide +kernel
theorem bud_3 : budH 560 7 180 = true := by decide +kernel
theorem bud_4 : budH 1820 15 180 = true := by decide +kernel
theorem bud_f : ∀ (n m b : Nat), budH n m b = true → (((List.range n).map (gN m)).filter hangN).length ≤ b
  | 0, _, _, _ => Nat.zero_le _
  | n + 1, 0, b, h => absurd (show false = true from h) Bool.false_ne_true
  | n + 1, q + 1, b, h => by
    have e : (List.range (n + 1)).map (gN (q + 1)) = (q + 1) :: (List.range n).map (gN (gosN (q + 1))) := by
      rw [List.range_succ_eq_map, List.map_cons, List.map_map]
      rfl
    rw [e]
    have h : (bif hangN (q + 1) then (match (generalizing := false) b with
      | 0 => false
      | b + 1 => budH n (gosN (q + 1)) b) else budH n (gosN (q + 1)) b) = true := h
    cases hh : hangN (q + 1)
    · rw [hh] at h
      rw [List.filter_cons_of_neg (by rw [hh]; exact Bool.false_ne_true)]
      exact bud_f n _ b h
    · rw [hh] at h
      rw [List.filter_cons_of_pos hh]
      cases b with
      | zero => exact absurd (show false = true from h) Bool.false_ne_true
      | succ b =>
        have := bud_f n _ b h
        show _ + 1 ≤ b + 1
        omega
theorem pas_nb {w : qW} {c : Nat} (s t : Nat) (_ : s < 16) (_ : t < 16) (h : pasB w c s t = true) : nbB s t = true := by
  unfold pasB at h
  rw [Bool.and_eq_true] at h
  exact h.1
theorem fp_180 {w : qW} {c k n m : Nat} (h : gosC k n m = true) (hn : binm 16 k = n) (hk : k ≤ 4) (hb : budH n m 180 = true) (i : Nat) (hi : i ≤ n) : (fpG w c k m i).length ≤ 180 := by
  have a : (fpG w c k m i).length ≤ (fpG w c k m n).length := by
    have : ∀ d, (fpG w c k m i).length ≤ (fpG w c k m (i + d)).length := by
      intro d
      induction d with
      | zero => exact Nat.le_refl _
      | succ d ih =>
        refine Nat.le_trans ih ?_
        show (fpG w c k m (i + d)).length ≤ (fpG w c k m ((i + d) + 1)).length
        cases e : fpd w c k (gN m (i + d))
        · rw [fpG_n e]; exact Nat.le_refl _
        · rw [fpG_y e, List.length_append]; exact Nat.le_add_right _ _
    have z := this (n - i)
    rwa [show i + (n - i) = n by omega] at z
  refine Nat.le_trans a (Nat.le_trans (filt_mono (fun x hx hp => ?_)) (bud_f n m 180 hb))
  obtain ⟨j, hj, rfl⟩ := List.mem_map.mp hx
  have q := (gos_f n m h).1 j (List.mem_range.mp hj)
  have hR : hgR (pasB w c) ((gN m j : Nat) : Int) = ((gN m j : Nat) : Int) := by
    unfold fpd at hp
    rw [Bool.and_eq_true, Bool.and_eq_true, decide_eq_true_eq, decide_eq_true_eq, decide_eq_true_eq] at hp
    exact hp.2.2
  exact (hang_free q.1.1 (by omega) (by rw [q.2.1]; exact hk)).mp (hg_mono pas_nb (by omega) hR)
