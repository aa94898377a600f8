def qckM (o i : Nat) : Bool := match qmd o i with
  | none => true
  | some (t, na, sk) => if t = 900 then Nat.beq na 1 && qwd1 (qmp o i) (.methodLink (qcn o) i objectInit)
    else if t = 901 then Nat.beq na 5 && qwd1 (qmp o i) (.methodLink (qcn o) i arraycopyName)
    else if t = 902 then Nat.beq na 1 && qwd1 (qmp o i) (.methodLink (qcn o) i Lib.Math.abs.name)
    else if t = 903 then Nat.beq na 2 && qwd1 (qmp o i) (.methodLink (qcn o) i Lib.Math.max.name)
    else if t = 904 then Nat.beq na 2 && qwd1 (qmp o i) (.methodLink (qcn o) i Lib.Math.min.name)
    else if t = 905 then Nat.beq na 2 && qwd1 (qmp o i) (.methodLink (qcn o) i Lib.MathLoose.max_long.x)
    else if t = 906 then Nat.beq na 1 && qwd1 (qmp o i) (.methodLink (qcn o) i yJ0_length_8abf5)
    else if t = 907 then Nat.beq na 2 && qwd1 (qmp o i) (.methodLink (qcn o) i yJ0_charAt_5068e)
    else if t = 908 then Nat.beq na 2 && qwd1 (qmp o i) (.methodLink (qcn o) i yJ0_indexOf_0f7a4)
    else Nat.blt t 305 && Nat.beq na (qnp t + (if sk = 0 then 0 else 1)) && decide (qis t = Nat.beq sk 0) && (match sk with
      | 2 => decide (qwa (qmp o i) = some (.methodLinkNest (qcn o) i (qnm t) RX11))
      | _ => qwd1 (qmp o i) (.methodLink (qcn o) i (qnm t)))

theorem qckM_0_0 : (List.range 800).all (fun j => qckM 0 (0 + j)) = true := by decide +kernel
theorem qckM_0 {t : Nat} (h : t < 800) : qckM 0 t = true := by
  by_cases h0 : t < 800
  · have := List.all_eq_true.mp qckM_0_0 (t - 0) (List.mem_range.mpr (by omega))
    rwa [show 0 + (t - 0) = t by omega] at this
  omega
theorem qckM_1_0 : (List.range 800).all (fun j => qckM 1 (0 + j)) = true := by decide +kernel
theorem qckM_1 {t : Nat} (h : t < 800) : qckM 1 t = true := by
  by_cases h0 : t < 800
  · have := List.all_eq_true.mp qckM_1_0 (t - 0) (List.mem_range.mpr (by omega))
    rwa [show 0 + (t - 0) = t by omega] at this
  omega
theorem qckM_2_0 : (List.range 800).all (fun j => qckM 2 (0 + j)) = true := by decide +kernel
theorem qckM_2 {t : Nat} (h : t < 800) : qckM 2 t = true := by
  by_cases h0 : t < 800
  · have := List.all_eq_true.mp qckM_2_0 (t - 0) (List.mem_range.mpr (by omega))
    rwa [show 0 + (t - 0) = t by omega] at this
  omega
theorem qckM_3_0 : (List.range 800).all (fun j => qckM 3 (0 + j)) = true := by decide +kernel
theorem qckM_3 {t : Nat} (h : t < 800) : qckM 3 t = true := by
  by_cases h0 : t < 800
  · have := List.all_eq_true.mp qckM_3_0 (t - 0) (List.mem_range.mpr (by omega))
    rwa [show 0 + (t - 0) = t by omega] at this
  omega
theorem qckM_4_0 : (List.range 800).all (fun j => qckM 4 (0 + j)) = true := by decide +kernel
theorem qckM_4 {t : Nat} (h : t < 800) : qckM 4 t = true := by
  by_cases h0 : t < 800
  · have := List.all_eq_true.mp qckM_4_0 (t - 0) (List.mem_range.mpr (by omega))
    rwa [show 0 + (t - 0) = t by omega] at this
  omega
theorem qckM_5_0 : (List.range 800).all (fun j => qckM 5 (0 + j)) = true := by decide +kernel
theorem qckM_5 {t : Nat} (h : t < 800) : qckM 5 t = true := by
  by_cases h0 : t < 800
  · have := List.all_eq_true.mp qckM_5_0 (t - 0) (List.mem_range.mpr (by omega))
    rwa [show 0 + (t - 0) = t by omega] at this
  omega
theorem qckM_6_0 : (List.range 800).all (fun j => qckM 6 (0 + j)) = true := by decide +kernel
theorem qckM_6 {t : Nat} (h : t < 800) : qckM 6 t = true := by
  by_cases h0 : t < 800
  · have := List.all_eq_true.mp qckM_6_0 (t - 0) (List.mem_range.mpr (by omega))
    rwa [show 0 + (t - 0) = t by omega] at this
  omega
theorem qckM_7_0 : (List.range 800).all (fun j => qckM 7 (0 + j)) = true := by decide +kernel
theorem qckM_7 {t : Nat} (h : t < 800) : qckM 7 t = true := by
  by_cases h0 : t < 800
  · have := List.all_eq_true.mp qckM_7_0 (t - 0) (List.mem_range.mpr (by omega))
    rwa [show 0 + (t - 0) = t by omega] at this
  omega
theorem qckM_8_0 : (List.range 800).all (fun j => qckM 8 (0 + j)) = true := by decide +kernel
theorem qckM_8 {t : Nat} (h : t < 800) : qckM 8 t = true := by
  by_cases h0 : t < 800
  · have := List.all_eq_true.mp qckM_8_0 (t - 0) (List.mem_range.mpr (by omega))
    rwa [show 0 + (t - 0) = t by omega] at this
  omega
theorem qckM_9_0 : (List.range 800).all (fun j => qckM 9 (0 + j)) = true := by decide +kernel
theorem qckM_9 {t : Nat} (h : t < 800) : qckM 9 t = true := by
  by_cases h0 : t < 800
  · have := List.all_eq_true.mp qckM_9_0 (t - 0) (List.mem_range.mpr (by omega))
    rwa [show 0 + (t - 0) = t by omega] at this
  omega
theorem qckM_10_0 : (List.range 800).all (fun j => qckM 10 (0 + j)) = true := by decide +kernel
theorem qckM_10 {t : Nat} (h : t < 800) : qckM 10 t = true := by
  by_cases h0 : t < 800
  · have := List.all_eq_true.mp qckM_10_0 (t - 0) (List.mem_range.mpr (by omega))
    rwa [show 0 + (t - 0) = t by omega] at this
  omega
theorem qckM_11_0 : (List.range 200).all (fun j => qckM 11 (0 + j)) = true := by decide +kernel
theorem qckM_11_1 : (List.range 600).all (fun j => qckM 11 (200 + j)) = true := by decide +kernel
theorem qckM_11 {t : Nat} (h : t < 800) : qckM 11 t = true := by
  by_cases h0 : t < 200
  · have := List.all_eq_true.mp qckM_11_0 (t - 0) (List.mem_range.mpr (by omega))
    rwa [show 0 + (t - 0) = t by omega] at this
  by_cases h1 : t < 800
  · have := List.all_eq_true.mp qckM_11_1 (t - 200) (List.mem_range.mpr (by omega))
    rwa [show 200 + (t - 200) = t by omega] at this
  omega
theorem qckM_12_0 : (List.range 418).all (fun j => qckM 12 (0 + j)) = true := by decide +kernel
theorem qckM_12_1 : (List.range 382).all (fun j => qckM 12 (418 + j)) = true := by decide +kernel
theorem qckM_12 {t : Nat} (h : t < 800) : qckM 12 t = true := by
  by_cases h0 : t < 418
  · have := List.all_eq_true.mp qckM_12_0 (t - 0) (List.mem_range.mpr (by omega))
    rwa [show 0 + (t - 0) = t by omega] at this
  by_cases h1 : t < 800
  · have := List.all_eq_true.mp qckM_12_1 (t - 418) (List.mem_range.mpr (by omega))
    rwa [show 418 + (t - 418) = t by omega] at this
  omega
theorem qckM_13_0 : (List.range 800).all (fun j => qckM 13 (0 + j)) = true := by decide +kernel
theorem qckM_13 {t : Nat} (h : t < 800) : qckM 13 t = true := by
  by_cases h0 : t < 800
  · have := List.all_eq_true.mp qckM_13_0 (t - 0) (List.mem_range.mpr (by omega))
    rwa [show 0 + (t - 0) = t by omega] at this
  omega
theorem qckM_14_0 : (List.range 800).all (fun j => qckM 14 (0 + j)) = true := by decide +kernel
theorem qckM_14 {t : Nat} (h : t < 800) : qckM 14 t = true := by
  by_cases h0 : t < 800
  · have := List.all_eq_true.mp qckM_14_0 (t - 0) (List.mem_range.mpr (by omega))
    rwa [show 0 + (t - 0) = t by omega] at this
  omega
theorem qckM_15_0 : (List.range 112).all (fun j => qckM 15 (0 + j)) = true := by decide +kernel
theorem qckM_15_1 : (List.range 688).all (fun j => qckM 15 (112 + j)) = true := by decide +kernel
theorem qckM_15 {t : Nat} (h : t < 800) : qckM 15 t = true := by
  by_cases h0 : t < 112
  · have := List.all_eq_true.mp qckM_15_0 (t - 0) (List.mem_range.mpr (by omega))
    rwa [show 0 + (t - 0) = t by omega] at this
  by_cases h1 : t < 800
  · have := List.all_eq_true.mp qckM_15_1 (t - 112) (List.mem_range.mpr (by omega))
    rwa [show 112 + (t - 112) = t by omega] at this
  omega
theorem qckM_of {o i : Nat} (ho : o < 16) (hi : i < 800) : qckM o i = true := by
  rcases (show o = 0 ∨ o = 1 ∨ o = 2 ∨ o = 3 ∨ o = 4 ∨ o = 5 ∨ o = 6 ∨ o = 7 ∨ o = 8 ∨ o = 9 ∨ o = 10 ∨ o = 11 ∨ o = 12 ∨ o = 13 ∨ o = 14 ∨ o = 15 by omega) with rfl | rfl | rfl | rfl | rfl | rfl | rfl | rfl | rfl | rfl | rfl | rfl | rfl | rfl | rfl | rfl
  · exact qckM_0 hi
  · exact qckM_1 hi
  · exact qckM_2 hi
  · exact qckM_3 hi
  · exact qckM_4 hi
  · exact qckM_5 hi
  · exact qckM_6 hi
  · exact qckM_7 hi
  · exact qckM_8 hi
  · exact qckM_9 hi
  · exact qckM_10 hi
  · exact qckM_11 hi
  · exact qckM_12 hi
  · exact qckM_13 hi
  · exact qckM_14 hi
  · exact qckM_15 hi
