/-! weights of masters for nights -/
def adV (d : Int) : Int := if 0 ≤ d then d else -d
theorem adV_c (d : Int) : (0 ≤ d ∧ adV d = d) ∨ (d < 0 ∧ adV d = -d) := by
  unfold adV
  split <;> omega
def gwV (d e : Int) : Int := if e = 1 then (if 50 - adV d / 2 < 1 then 1 else 50 - adV d / 2) else if e = 2 then (if 50 + d < 1 then 1 else if 99 < 50 + d then 99 else 50 + d) else (if 50 - d < 1 then 1 else if 99 < 50 - d then 99 else 50 - d)
theorem gwV_in {d : Int} (h : -99 ≤ d ∧ d ≤ 99) (e : Int) : 1 ≤ gwV d e ∧ gwV d e ≤ 99 := by
  have := adV_c d
  unfold gwV
  (repeat' split) <;> omega
/-- he may have been there -/
def mbP (w : qW) (n m : Nat) : Prop := (w 126 m ≤ w 132 n ∧ w 132 n ≤ w 127 m) ∧ ((∀ k : Nat, (k : Int) < w 95 56 → w 129 k = (m : Int) → ¬ w 131 k = w 132 n) ∨ ∃ k : Nat, (k : Int) < w 95 56 ∧ w 129 k = (m : Int) ∧ w 131 k = w 132 n ∧ w 130 k = w 133 n)
def haV (w : qW) (n m : Nat) : Int := if w 136 n = -1 then 1 else w 128 (m * 3 + (w 136 n).toNat)
noncomputable def wgV (w : qW) (n m : Nat) : Int := @ite _ (mbP w n m) (Classical.propDecidable _) (gwV (w 125 m - w 134 n) (w 135 n) * haV w n m) 0
theorem wg_y {w : qW} {n m : Nat} (h : mbP w n m) : wgV w n m = gwV (w 125 m - w 134 n) (w 135 n) * haV w n m := @if_pos _ (Classical.propDecidable _) h _ _ _
theorem wg_n {w : qW} {n m : Nat} (h : ¬ mbP w n m) : wgV w n m = 0 := @if_neg _ (Classical.propDecidable _) h _ _ _
theorem mul_9 {x y : Int} (h0 : 1 ≤ x) (h1 : x ≤ 99) (k0 : 0 ≤ y) (k1 : y ≤ 9) : 0 ≤ x * y ∧ x * y ≤ 891 := by
  refine ⟨Int.mul_nonneg (by omega) k0, ?_⟩
  have := Int.mul_le_mul h1 k1 k0 (show (0 : Int) ≤ 99 by decide)
  exact this
def rgN (w : qW) : Prop := (∀ k, 0 ≤ w 125 k ∧ w 125 k ≤ 99) ∧ (∀ k, 0 ≤ w 126 k ∧ w 126 k ≤ 99) ∧ (∀ k, 0 ≤ w 127 k ∧ w 127 k ≤ 99) ∧ (∀ k, 0 ≤ w 128 k ∧ w 128 k ≤ 9) ∧ (∀ k, 0 ≤ w 132 k ∧ w 132 k ≤ 99) ∧ (∀ k, 0 ≤ w 133 k ∧ w 133 k ≤ 9) ∧ (∀ k, 0 ≤ w 134 k ∧ w 134 k ≤ 99) ∧ (∀ k, 0 ≤ w 135 k ∧ w 135 k ≤ 2) ∧ (∀ k, -1 ≤ w 136 k ∧ w 136 k ≤ 2) ∧ (∀ k, 0 ≤ w 129 k ∧ w 129 k ≤ 11) ∧ (∀ k, 0 ≤ w 130 k ∧ w 130 k ≤ 9) ∧ (∀ k, 0 ≤ w 131 k ∧ w 131 k ≤ 99) ∧ ∀ k, 0 ≤ w 50 k ∧ w 50 k ≤ 1023
theorem haV_in {w : qW} (h : rgN w) (n m : Nat) : 0 ≤ haV w n m ∧ haV w n m ≤ 9 := by
  unfold haV
  split
  · omega
  · exact h.2.2.2.1 _
theorem gw_in {w : qW} (h : rgN w) (n m : Nat) : 1 ≤ gwV (w 125 m - w 134 n) (w 135 n) ∧ gwV (w 125 m - w 134 n) (w 135 n) ≤ 99 := by
  have h1 := h.1 m
  have h2 := h.2.2.2.2.2.2.1 n
  exact gwV_in (by omega) _
theorem wgV_in {w : qW} (h : rgN w) (n m : Nat) : 0 ≤ wgV w n m ∧ wgV w n m ≤ 891 := by
  by_cases c : mbP w n m
  · rw [wg_y c]
    have h1 := gw_in h n m
    have h2 := haV_in h n m
    exact mul_9 h1.1 h1.2 h2.1 h2.2
  · rw [wg_n c]; omega
/-- the habits on both sides -/
def JH (w : qW) : Prop := (∀ k : Nat, (k : Int) < 3 * w 95 55 → w 49 k = w 128 k) ∧ ∀ k : Nat, 3 * w 95 55 ≤ (k : Int) → k < 36 → w 49 k = 1
def JQ (w : qW) : Prop := JS w ∧ JH w
def jhM (m : List Nat) : Bool := spo m 49 && (spo m 128 && !ymo 95 55 m)
theorem JH.aw {m : List Nat} {w w1 : qW} (h : JH w) (a : AW m w w1) (hm : jhM m = true) : JH w1 := by
  unfold jhM at hm
  simp only [Bool.and_eq_true, Bool.not_eq_true'] at hm
  obtain ⟨m1, m2, m3⟩ := hm
  refine ⟨fun k hk => ?_, fun k hk h36 => ?_⟩
  · rw [a.2 95 55 (fun _ => m3)] at hk
    rw [a.a (by decide) m1, a.a (by decide) m2]; exact h.1 k hk
  · rw [a.2 95 55 (fun _ => m3)] at hk
    rw [a.a (by decide) m1]; exact h.2 k hk h36
def jqM (m : List Nat) : Bool := jsM m && jhM m
theorem JQ.aw {m : List Nat} {w w1 : qW} (h : JQ w) (a : AW m w w1) (hm : jqM m = true) : JQ w1 := by
  unfold jqM at hm
  rw [Bool.and_eq_true] at hm
  exact ⟨h.1.aw a hm.1, h.2.aw a hm.2⟩
