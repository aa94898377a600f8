/-! the reference's findsPoses as contracts -/
def zfpm : List Nat := [101, 102, 103, 9095, 10095]
theorem zfpm_f {w wA w1 : qW} {c k : Nat} (hA : fpI w c k 65536 wA) (hJ : fpJ wA w1) {p j : Nat} (h : p < 1000 → ymo p j zfpm = false) : w1 p j = w p j := by
  have key : p < 1000 → p ≠ 101 ∧ p ≠ 102 ∧ p ≠ 103 ∧ ¬ (p = 95 ∧ (j = 8 ∨ j = 9)) := fun hp => by
    have h := h hp
    refine ⟨fun z => (by rw [z] at h; cases h), fun z => (by rw [z] at h; cases h), fun z => (by rw [z] at h; cases h), fun z => ?_⟩
    rcases z with ⟨rfl, rfl | rfl⟩ <;> cases h
  by_cases hp : p < 1000
  · obtain ⟨k1, k2, k3, k4⟩ := key hp
    rw [hJ.1 p j k2 k3, hA.2.2.2.1 p j k1 k4]
  · rw [hJ.1 p j (by omega) (by omega), hA.2.2.2.1 p j (by omega) (fun z => by omega)]
theorem args3 {as : List qV} {a b : Int} {l1 h1 l2 h2 : Int} (h : yamc [(2, a, a), (0, l1, h1), (0, l2, h2)] as) : ∃ c k : Int, as = [(2, a), (0, c), (0, k)] ∧ l1 ≤ c ∧ c ≤ h1 ∧ l2 ≤ k ∧ k ≤ h2 := by
  match as, h with
  | [(a1, a2), (b1, b2), (c1, c2)], h =>
    obtain ⟨⟨x1, x2, x3⟩, ⟨y1, y2, y3⟩, ⟨z1, z2, z3⟩, -⟩ := h
    have x1 : a1 = 2 := x1
    have y1 : b1 = 0 := y1
    have z1 : c1 = 0 := z1
    have x2 : a ≤ a2 := x2
    have x3 : a2 ≤ a := x3
    refine ⟨b2, c2, ?_, y2, y3, z2, z3⟩
    rw [x1, y1, z1, show a2 = a by omega]
def C_fpm : Nat × yC := (220, (5, [(2, 95, 95), (0, 0, 2), (0, 1, 4)], (9, 0, 0), zfpm, [], [], [], 0, []))
theorem T_fpm {w0 : qW} : yCOK w0 zgf zga zra zSp zgh C_fpm.1 C_fpm.2 := by
  intro d as w hd hm hI hn hp
  obtain ⟨c, k, rfl, c0, c1, k0, k1⟩ := args3 (b := 0) hm
  have h := K_findsPoses (d := d) hd c.toNat k.toNat (by omega) (by omega) (by omega) w hI
  rw [Int.toNat_of_nonneg c0, Int.toNat_of_nonneg (show 0 ≤ k by omega)] at h
  refine qG.mono h (fun v w1 n1 hh => ?_)
  obtain ⟨rfl, rfl, hh⟩ := hh
  refine ⟨⟨rfl, Int.le_refl 0, Int.le_refl 0⟩, ?_, rfl, fun p j hpj => ?_, fun e he => (by cases he), fun z => (by cases z)⟩
  · rcases hh with ⟨-, rfl⟩ | ⟨-, wA, hA, hJ, -⟩
    · exact hI
    · exact hJ.2
  · rcases hh with ⟨-, rfl⟩ | ⟨-, wA, hA, hJ, -⟩
    · rfl
    · exact zfpm_f hA hJ hpj
