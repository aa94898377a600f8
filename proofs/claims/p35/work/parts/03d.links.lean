def qckT (t : Nat) : Bool := qwd1 (qpC t) (.code (qnm t) (qby t) (qml t) (qret t)) && qwd1 (qpS t) (bif qis t then .static (qnm t) else .instanceMethod (qnm t)) && qwd1 (qpI t) (.initialized (qnm t).cls) && decide ((qnm t).cls = qcn (qow t)) && decide ((qnm t).cls ≠ "java/lang/invoke/MethodHandle") && decide ((qnm t).cls ≠ "java/lang/invoke/VarHandle") && decide ((parseMethodDescriptor (qnm t).desc).map (fun d => d.parameters.length) = some (qnp t)) && plainName (qnm t).cls && decide (qin t = decide ((qnm t).name = "<init>")) && (bif qis t || qin t then true else qwd1 (qpV t) (.selects (qcn (qow t)) (qnm t) (qnm t)) && Nat.blt (qow t) 13) && (bif qin t then decide (qret t = none) && Nat.blt (qow t) 13 && !qis t else true) && Nat.ble (qml t) 30 && Nat.ble (qnp t) 6

theorem qckT_of_0 : (List.range 12).all (fun j => qckT (0 + j)) = true := by decide +kernel
theorem qckT_of_1 : (List.range 12).all (fun j => qckT (12 + j)) = true := by decide +kernel
theorem qckT_of_2 : (List.range 12).all (fun j => qckT (24 + j)) = true := by decide +kernel
theorem qckT_of_3 : (List.range 12).all (fun j => qckT (36 + j)) = true := by decide +kernel
theorem qckT_of_4 : (List.range 12).all (fun j => qckT (48 + j)) = true := by decide +kernel
theorem qckT_of_5 : (List.range 12).all (fun j => qckT (60 + j)) = true := by decide +kernel
theorem qckT_of_6 : (List.range 12).all (fun j => qckT (72 + j)) = true := by decide +kernel
theorem qckT_of_7 : (List.range 12).all (fun j => qckT (84 + j)) = true := by decide +kernel
theorem qckT_of_8 : (List.range 12).all (fun j => qckT (96 + j)) = true := by decide +kernel
theorem qckT_of_9 : (List.range 12).all (fun j => qckT (108 + j)) = true := by decide +kernel
theorem qckT_of_10 : (List.range 12).all (fun j => qckT (120 + j)) = true := by decide +kernel
theorem qckT_of_11 : (List.range 12).all (fun j => qckT (132 + j)) = true := by decide +kernel
theorem qckT_of_12 : (List.range 12).all (fun j => qckT (144 + j)) = true := by decide +kernel
theorem qckT_of_13 : (List.range 12).all (fun j => qckT (156 + j)) = true := by decide +kernel
theorem qckT_of_14 : (List.range 12).all (fun j => qckT (168 + j)) = true := by decide +kernel
theorem qckT_of_15 : (List.range 12).all (fun j => qckT (180 + j)) = true := by decide +kernel
theorem qckT_of_16 : (List.range 12).all (fun j => qckT (192 + j)) = true := by decide +kernel
theorem qckT_of_17 : (List.range 12).all (fun j => qckT (204 + j)) = true := by decide +kernel
theorem qckT_of_18 : (List.range 12).all (fun j => qckT (216 + j)) = true := by decide +kernel
theorem qckT_of_19 : (List.range 12).all (fun j => qckT (228 + j)) = true := by decide +kernel
theorem qckT_of_20 : (List.range 12).all (fun j => qckT (240 + j)) = true := by decide +kernel
theorem qckT_of_21 : (List.range 12).all (fun j => qckT (252 + j)) = true := by decide +kernel
theorem qckT_of_22 : (List.range 12).all (fun j => qckT (264 + j)) = true := by decide +kernel
theorem qckT_of_23 : (List.range 12).all (fun j => qckT (276 + j)) = true := by decide +kernel
theorem qckT_of_24 : (List.range 12).all (fun j => qckT (288 + j)) = true := by decide +kernel
theorem qckT_of_25 : (List.range 5).all (fun j => qckT (300 + j)) = true := by decide +kernel
theorem qckT_of {t : Nat} (h : t < 305) : qckT t = true := by
  by_cases h0 : t < 12
  · have := List.all_eq_true.mp qckT_of_0 (t - 0) (List.mem_range.mpr (by omega))
    rwa [show 0 + (t - 0) = t by omega] at this
  by_cases h1 : t < 24
  · have := List.all_eq_true.mp qckT_of_1 (t - 12) (List.mem_range.mpr (by omega))
    rwa [show 12 + (t - 12) = t by omega] at this
  by_cases h2 : t < 36
  · have := List.all_eq_true.mp qckT_of_2 (t - 24) (List.mem_range.mpr (by omega))
    rwa [show 24 + (t - 24) = t by omega] at this
  by_cases h3 : t < 48
  · have := List.all_eq_true.mp qckT_of_3 (t - 36) (List.mem_range.mpr (by omega))
    rwa [show 36 + (t - 36) = t by omega] at this
  by_cases h4 : t < 60
  · have := List.all_eq_true.mp qckT_of_4 (t - 48) (List.mem_range.mpr (by omega))
    rwa [show 48 + (t - 48) = t by omega] at this
  by_cases h5 : t < 72
  · have := List.all_eq_true.mp qckT_of_5 (t - 60) (List.mem_range.mpr (by omega))
    rwa [show 60 + (t - 60) = t by omega] at this
  by_cases h6 : t < 84
  · have := List.all_eq_true.mp qckT_of_6 (t - 72) (List.mem_range.mpr (by omega))
    rwa [show 72 + (t - 72) = t by omega] at this
  by_cases h7 : t < 96
  · have := List.all_eq_true.mp qckT_of_7 (t - 84) (List.mem_range.mpr (by omega))
    rwa [show 84 + (t - 84) = t by omega] at this
  by_cases h8 : t < 108
  · have := List.all_eq_true.mp qckT_of_8 (t - 96) (List.mem_range.mpr (by omega))
    rwa [show 96 + (t - 96) = t by omega] at this
  by_cases h9 : t < 120
  · have := List.all_eq_true.mp qckT_of_9 (t - 108) (List.mem_range.mpr (by omega))
    rwa [show 108 + (t - 108) = t by omega] at this
  by_cases h10 : t < 132
  · have := List.all_eq_true.mp qckT_of_10 (t - 120) (List.mem_range.mpr (by omega))
    rwa [show 120 + (t - 120) = t by omega] at this
  by_cases h11 : t < 144
  · have := List.all_eq_true.mp qckT_of_11 (t - 132) (List.mem_range.mpr (by omega))
    rwa [show 132 + (t - 132) = t by omega] at this
  by_cases h12 : t < 156
  · have := List.all_eq_true.mp qckT_of_12 (t - 144) (List.mem_range.mpr (by omega))
    rwa [show 144 + (t - 144) = t by omega] at this
  by_cases h13 : t < 168
  · have := List.all_eq_true.mp qckT_of_13 (t - 156) (List.mem_range.mpr (by omega))
    rwa [show 156 + (t - 156) = t by omega] at this
  by_cases h14 : t < 180
  · have := List.all_eq_true.mp qckT_of_14 (t - 168) (List.mem_range.mpr (by omega))
    rwa [show 168 + (t - 168) = t by omega] at this
  by_cases h15 : t < 192
  · have := List.all_eq_true.mp qckT_of_15 (t - 180) (List.mem_range.mpr (by omega))
    rwa [show 180 + (t - 180) = t by omega] at this
  by_cases h16 : t < 204
  · have := List.all_eq_true.mp qckT_of_16 (t - 192) (List.mem_range.mpr (by omega))
    rwa [show 192 + (t - 192) = t by omega] at this
  by_cases h17 : t < 216
  · have := List.all_eq_true.mp qckT_of_17 (t - 204) (List.mem_range.mpr (by omega))
    rwa [show 204 + (t - 204) = t by omega] at this
  by_cases h18 : t < 228
  · have := List.all_eq_true.mp qckT_of_18 (t - 216) (List.mem_range.mpr (by omega))
    rwa [show 216 + (t - 216) = t by omega] at this
  by_cases h19 : t < 240
  · have := List.all_eq_true.mp qckT_of_19 (t - 228) (List.mem_range.mpr (by omega))
    rwa [show 228 + (t - 228) = t by omega] at this
  by_cases h20 : t < 252
  · have := List.all_eq_true.mp qckT_of_20 (t - 240) (List.mem_range.mpr (by omega))
    rwa [show 240 + (t - 240) = t by omega] at this
  by_cases h21 : t < 264
  · have := List.all_eq_true.mp qckT_of_21 (t - 252) (List.mem_range.mpr (by omega))
    rwa [show 252 + (t - 252) = t by omega] at this
  by_cases h22 : t < 276
  · have := List.all_eq_true.mp qckT_of_22 (t - 264) (List.mem_range.mpr (by omega))
    rwa [show 264 + (t - 264) = t by omega] at this
  by_cases h23 : t < 288
  · have := List.all_eq_true.mp qckT_of_23 (t - 276) (List.mem_range.mpr (by omega))
    rwa [show 276 + (t - 276) = t by omega] at this
  by_cases h24 : t < 300
  · have := List.all_eq_true.mp qckT_of_24 (t - 288) (List.mem_range.mpr (by omega))
    rwa [show 288 + (t - 288) = t by omega] at this
  by_cases h25 : t < 305
  · have := List.all_eq_true.mp qckT_of_25 (t - 300) (List.mem_range.mpr (by omega))
    rwa [show 300 + (t - 300) = t by omega] at this
  omega
