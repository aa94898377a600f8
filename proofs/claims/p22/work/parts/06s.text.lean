/-! the JDK's own members of String over a literal: contracts of length, charAt, indexOf -/
theorem jw_c_coder : Cond.code yJ0_coder_7d493 cJ0_coder_7d493 1 (some .byte) ∈ qAL := qwd1_in (i := 3030) (by decide +kernel)
theorem jw_i_coder : Cond.instanceMethod yJ0_coder_7d493 ∈ qAL := qwd1_in (i := 3028) (by decide +kernel)
theorem jw_v_coder : Cond.selects RJ0 yJ0_coder_7d493 yJ0_coder_7d493 ∈ qAL := qwd1_in (i := 3029) (by decide +kernel)
theorem jw_c_isLatin1 : Cond.code yJ0_isLatin1_aae02 cJ0_isLatin1_aae02 1 (some .boolean) ∈ qAL := qwd1_in (i := 3040) (by decide +kernel)
theorem jw_i_isLatin1 : Cond.instanceMethod yJ0_isLatin1_aae02 ∈ qAL := qwd1_in (i := 3038) (by decide +kernel)
theorem jw_v_isLatin1 : Cond.selects RJ0 yJ0_isLatin1_aae02 yJ0_isLatin1_aae02 ∈ qAL := qwd1_in (i := 3039) (by decide +kernel)
theorem jw_c_length : Cond.code yJ0_length_8abf5 cJ0_length_8abf5 1 (some .int) ∈ qAL := qwd1_in (i := 3026) (by decide +kernel)
theorem jw_i_length : Cond.instanceMethod yJ0_length_8abf5 ∈ qAL := qwd1_in (i := 3024) (by decide +kernel)
theorem jw_v_length : Cond.selects RJ0 yJ0_length_8abf5 yJ0_length_8abf5 ∈ qAL := qwd1_in (i := 3025) (by decide +kernel)
theorem jw_c_pci : Cond.code yJ3_checkIndex_8e157 cJ3_checkIndex_8e157 3 (some .int) ∈ qAL := qwd1_in (i := 3051) (by decide +kernel)
theorem jw_s_pci : Cond.static yJ3_checkIndex_8e157 ∈ qAL := qwd1_in (i := 3050) (by decide +kernel)
theorem jw_c_pcn : Cond.code yJ3_checkIndex_8e157 cJ3_checkIndex_8e157 3 (some .int) ∈ qAL := qwd1_in (i := 3051) (by decide +kernel)
theorem jw_s_pcn : Cond.static yJ3_checkIndex_8e157 ∈ qAL := qwd1_in (i := 3050) (by decide +kernel)
theorem jw_c_ci : Cond.code yJ0_checkIndex_df160 cJ0_checkIndex_df160 2 none ∈ qAL := qwd1_in (i := 3046) (by decide +kernel)
theorem jw_s_ci : Cond.static yJ0_checkIndex_df160 ∈ qAL := qwd1_in (i := 3045) (by decide +kernel)
theorem jw_c_lcharAt : Cond.code yJ1_charAt_3b067 cJ1_charAt_3b067 2 (some .char) ∈ qAL := qwd1_in (i := 3043) (by decide +kernel)
theorem jw_s_lcharAt : Cond.static yJ1_charAt_3b067 ∈ qAL := qwd1_in (i := 3042) (by decide +kernel)
theorem jw_c_charAt : Cond.code yJ0_charAt_5068e cJ0_charAt_5068e 2 (some .char) ∈ qAL := qwd1_in (i := 3036) (by decide +kernel)
theorem jw_i_charAt : Cond.instanceMethod yJ0_charAt_5068e ∈ qAL := qwd1_in (i := 3034) (by decide +kernel)
theorem jw_v_charAt : Cond.selects RJ0 yJ0_charAt_5068e yJ0_charAt_5068e ∈ qAL := qwd1_in (i := 3035) (by decide +kernel)
theorem jw_c_canEncode : Cond.code yJ1_canEncode_9a6ad cJ1_canEncode_9a6ad 1 (some .boolean) ∈ qAL := qwd1_in (i := 3104) (by decide +kernel)
theorem jw_s_canEncode : Cond.static yJ1_canEncode_9a6ad ∈ qAL := qwd1_in (i := 3103) (by decide +kernel)
theorem jw_c_ioc : Cond.code yJ1_indexOfChar_4cfef cJ1_indexOfChar_4cfef 6 (some .int) ∈ qAL := qwd1_in (i := 3113) (by decide +kernel)
theorem jw_s_ioc : Cond.static yJ1_indexOfChar_4cfef ∈ qAL := qwd1_in (i := 3112) (by decide +kernel)
theorem jw_c_lio : Cond.code yJ1_indexOf_4cfef cJ1_indexOf_4cfef 4 (some .int) ∈ qAL := qwd1_in (i := 3101) (by decide +kernel)
theorem jw_s_lio : Cond.static yJ1_indexOf_4cfef ∈ qAL := qwd1_in (i := 3100) (by decide +kernel)
theorem jw_c_io2 : Cond.code yJ0_indexOf_7cf53 cJ0_indexOf_7cf53 3 (some .int) ∈ qAL := qwd1_in (i := 3097) (by decide +kernel)
theorem jw_i_io2 : Cond.instanceMethod yJ0_indexOf_7cf53 ∈ qAL := qwd1_in (i := 3095) (by decide +kernel)
theorem jw_v_io2 : Cond.selects RJ0 yJ0_indexOf_7cf53 yJ0_indexOf_7cf53 ∈ qAL := qwd1_in (i := 3096) (by decide +kernel)
theorem jw_c_io1 : Cond.code yJ0_indexOf_0f7a4 cJ0_indexOf_0f7a4 2 (some .int) ∈ qAL := qwd1_in (i := 3093) (by decide +kernel)
theorem jw_i_io1 : Cond.instanceMethod yJ0_indexOf_0f7a4 ∈ qAL := qwd1_in (i := 3091) (by decide +kernel)
theorem jw_v_io1 : Cond.selects RJ0 yJ0_indexOf_0f7a4 yJ0_indexOf_0f7a4 ∈ qAL := qwd1_in (i := 3092) (by decide +kernel)
theorem jw_n_RJ0 : Cond.initialized RJ0 ∈ qAL := qwd1_in (i := 1015) (by decide +kernel)
theorem jw_n_RJ1 : Cond.initialized RJ1 ∈ qAL := qwd1_in (i := 1016) (by decide +kernel)
theorem jw_n_RJ3 : Cond.initialized RJ3 ∈ qAL := qwd1_in (i := 1017) (by decide +kernel)
theorem jw_f_RJ0_38 : Cond.fieldLink RJ0 38 "java/lang/String" "COMPACT_STRINGS" "Z" ∈ qAL := qwd1_in (i := 3031) (by decide +kernel)
theorem jw_f_RJ0_15 : Cond.fieldLink RJ0 15 "java/lang/String" "coder" "B" ∈ qAL := qwd1_in (i := 9055) (by decide +kernel)
theorem jw_f_RJ0_9 : Cond.fieldLink RJ0 9 "java/lang/String" "value" "[B" ∈ qAL := qwd1_in (i := 9054) (by decide +kernel)
theorem jw_f_RJ0_1053 : Cond.fieldLink RJ0 1053 "jdk/internal/util/Preconditions" "SIOOBE_FORMATTER" "Ljava/util/function/BiFunction;" ∈ qAL := qwd1_in (i := 3047) (by decide +kernel)
theorem jw_m_RJ0_335 : Cond.methodLink RJ0 335 yJ0_coder_7d493 ∈ qAL := qwd1_in (i := 3027) (by decide +kernel)
theorem jw_m_RJ0_492 : Cond.methodLink RJ0 492 yJ0_isLatin1_aae02 ∈ qAL := qwd1_in (i := 3037) (by decide +kernel)
theorem jw_m_RJ0_495 : Cond.methodLink RJ0 495 yJ1_charAt_3b067 ∈ qAL := qwd1_in (i := 3041) (by decide +kernel)
theorem jw_m_RJ0_1059 : Cond.methodLink RJ0 1059 yJ3_checkIndex_8e157 ∈ qAL := qwd1_in (i := 3049) (by decide +kernel)
theorem jw_m_RJ1_9 : Cond.methodLink RJ1 9 yJ0_checkIndex_df160 ∈ qAL := qwd1_in (i := 3044) (by decide +kernel)
theorem jw_m_RJ0_633 : Cond.methodLink RJ0 633 yJ0_indexOf_7cf53 ∈ qAL := qwd1_in (i := 3094) (by decide +kernel)
theorem jw_m_RJ0_505 : Cond.methodLink RJ0 505 yJ0_length_8abf5 ∈ qAL := qwd1_in (i := 3098) (by decide +kernel)
theorem jw_m_RJ0_637 : Cond.methodLink RJ0 637 yJ1_indexOf_4cfef ∈ qAL := qwd1_in (i := 3099) (by decide +kernel)
theorem jw_m_RJ1_88 : Cond.methodLink RJ1 88 yJ1_canEncode_9a6ad ∈ qAL := qwd1_in (i := 3102) (by decide +kernel)
theorem jw_m_RJ1_95 : Cond.methodLink RJ1 95 yJ1_indexOfChar_4cfef ∈ qAL := qwd1_in (i := 3111) (by decide +kernel)
theorem jw_m_RJ1_92 : Cond.methodLink RJ1 92 Lib.Math.max.name ∈ qAL := qwd1_in (i := 3105) (by decide +kernel)
theorem jw_m_RJ1_38 : Cond.methodLink RJ1 38 Lib.Math.min.name ∈ qAL := qwd1_in (i := 3108) (by decide +kernel)
theorem jw_l_CS : Cond.laysStatic "java/lang/String" "COMPACT_STRINGS" "Z" ∈ lw_tbl := qwa_in (i := 3032) (by decide +kernel)
theorem jw_l_SF : Cond.laysStatic "jdk/internal/util/Preconditions" "SIOOBE_FORMATTER" "Ljava/util/function/BiFunction;" ∈ lw_tbl := qwa_in (i := 3048) (by decide +kernel)
theorem jd_coder_0 : decode cJ0_coder_7d493 0 = .ok (.getstatic 38, 3) := by decide +kernel
theorem jd_coder_3 : decode cJ0_coder_7d493 3 = .ok (.ifCond .eq 10, 3) := by decide +kernel
theorem jd_coder_6 : decode cJ0_coder_7d493 6 = .ok (.aload_n 0, 1) := by decide +kernel
theorem jd_coder_7 : decode cJ0_coder_7d493 7 = .ok (.getfield 15, 3) := by decide +kernel
theorem jd_coder_10 : decode cJ0_coder_7d493 10 = .ok (.goto 4, 3) := by decide +kernel
theorem jd_coder_14 : decode cJ0_coder_7d493 14 = .ok (.ireturn, 1) := by decide +kernel
noncomputable def jws_coder : List Cond := .code yJ0_coder_7d493 cJ0_coder_7d493 1 (some .byte) :: qAL
theorem jws_coder_in : ∀ w ∈ jws_coder, w ∈ qAL := fun w hw => by
  rcases List.mem_cons.mp hw with rfl | hw
  · exact jw_c_coder
  · exact hw
theorem jd_isLatin1_0 : decode cJ0_isLatin1_aae02 0 = .ok (.getstatic 38, 3) := by decide +kernel
theorem jd_isLatin1_3 : decode cJ0_isLatin1_aae02 3 = .ok (.ifCond .eq 14, 3) := by decide +kernel
theorem jd_isLatin1_6 : decode cJ0_isLatin1_aae02 6 = .ok (.aload_n 0, 1) := by decide +kernel
theorem jd_isLatin1_7 : decode cJ0_isLatin1_aae02 7 = .ok (.getfield 15, 3) := by decide +kernel
theorem jd_isLatin1_10 : decode cJ0_isLatin1_aae02 10 = .ok (.ifCond .ne 7, 3) := by decide +kernel
theorem jd_isLatin1_13 : decode cJ0_isLatin1_aae02 13 = .ok (.iconst 1, 1) := by decide +kernel
theorem jd_isLatin1_14 : decode cJ0_isLatin1_aae02 14 = .ok (.goto 4, 3) := by decide +kernel
theorem jd_isLatin1_18 : decode cJ0_isLatin1_aae02 18 = .ok (.ireturn, 1) := by decide +kernel
noncomputable def jws_isLatin1 : List Cond := .code yJ0_isLatin1_aae02 cJ0_isLatin1_aae02 1 (some .boolean) :: qAL
theorem jws_isLatin1_in : ∀ w ∈ jws_isLatin1, w ∈ qAL := fun w hw => by
  rcases List.mem_cons.mp hw with rfl | hw
  · exact jw_c_isLatin1
  · exact hw
theorem jd_length_0 : decode cJ0_length_8abf5 0 = .ok (.aload_n 0, 1) := by decide +kernel
theorem jd_length_1 : decode cJ0_length_8abf5 1 = .ok (.getfield 9, 3) := by decide +kernel
theorem jd_length_4 : decode cJ0_length_8abf5 4 = .ok (.arraylength, 1) := by decide +kernel
theorem jd_length_5 : decode cJ0_length_8abf5 5 = .ok (.aload_n 0, 1) := by decide +kernel
theorem jd_length_6 : decode cJ0_length_8abf5 6 = .ok (.invokevirtual 335, 3) := by decide +kernel
theorem jd_length_9 : decode cJ0_length_8abf5 9 = .ok (.ishr, 1) := by decide +kernel
theorem jd_length_10 : decode cJ0_length_8abf5 10 = .ok (.ireturn, 1) := by decide +kernel
noncomputable def jws_length : List Cond := .code yJ0_length_8abf5 cJ0_length_8abf5 1 (some .int) :: qAL
theorem jws_length_in : ∀ w ∈ jws_length, w ∈ qAL := fun w hw => by
  rcases List.mem_cons.mp hw with rfl | hw
  · exact jw_c_length
  · exact hw
theorem jd_pci_0 : decode cJ3_checkIndex_8e157 0 = .ok (.iload_n 0, 1) := by decide +kernel
theorem jd_pci_1 : decode cJ3_checkIndex_8e157 1 = .ok (.ifCond .lt 8, 3) := by decide +kernel
theorem jd_pci_4 : decode cJ3_checkIndex_8e157 4 = .ok (.iload_n 0, 1) := by decide +kernel
theorem jd_pci_5 : decode cJ3_checkIndex_8e157 5 = .ok (.iload_n 1, 1) := by decide +kernel
theorem jd_pci_6 : decode cJ3_checkIndex_8e157 6 = .ok (.if_icmp .lt 10, 3) := by decide +kernel
theorem jd_pci_16 : decode cJ3_checkIndex_8e157 16 = .ok (.iload_n 0, 1) := by decide +kernel
theorem jd_pci_17 : decode cJ3_checkIndex_8e157 17 = .ok (.ireturn, 1) := by decide +kernel
noncomputable def jws_pci : List Cond := .code yJ3_checkIndex_8e157 cJ3_checkIndex_8e157 3 (some .int) :: qAL
theorem jws_pci_in : ∀ w ∈ jws_pci, w ∈ qAL := fun w hw => by
  rcases List.mem_cons.mp hw with rfl | hw
  · exact jw_c_pci
  · exact hw
theorem jd_pcn_0 : decode cJ3_checkIndex_8e157 0 = .ok (.iload_n 0, 1) := by decide +kernel
theorem jd_pcn_1 : decode cJ3_checkIndex_8e157 1 = .ok (.ifCond .lt 8, 3) := by decide +kernel
theorem jd_pcn_4 : decode cJ3_checkIndex_8e157 4 = .ok (.iload_n 0, 1) := by decide +kernel
theorem jd_pcn_5 : decode cJ3_checkIndex_8e157 5 = .ok (.iload_n 1, 1) := by decide +kernel
theorem jd_pcn_6 : decode cJ3_checkIndex_8e157 6 = .ok (.if_icmp .lt 10, 3) := by decide +kernel
theorem jd_pcn_16 : decode cJ3_checkIndex_8e157 16 = .ok (.iload_n 0, 1) := by decide +kernel
theorem jd_pcn_17 : decode cJ3_checkIndex_8e157 17 = .ok (.ireturn, 1) := by decide +kernel
noncomputable def jws_pcn : List Cond := .code yJ3_checkIndex_8e157 cJ3_checkIndex_8e157 3 (some .int) :: qAL
theorem jws_pcn_in : ∀ w ∈ jws_pcn, w ∈ qAL := fun w hw => by
  rcases List.mem_cons.mp hw with rfl | hw
  · exact jw_c_pcn
  · exact hw
theorem jd_ci_0 : decode cJ0_checkIndex_df160 0 = .ok (.iload_n 0, 1) := by decide +kernel
theorem jd_ci_1 : decode cJ0_checkIndex_df160 1 = .ok (.iload_n 1, 1) := by decide +kernel
theorem jd_ci_2 : decode cJ0_checkIndex_df160 2 = .ok (.getstatic 1053, 3) := by decide +kernel
theorem jd_ci_5 : decode cJ0_checkIndex_df160 5 = .ok (.invokestatic 1059, 3) := by decide +kernel
theorem jd_ci_8 : decode cJ0_checkIndex_df160 8 = .ok (.pop, 1) := by decide +kernel
theorem jd_ci_9 : decode cJ0_checkIndex_df160 9 = .ok (.return_, 1) := by decide +kernel
noncomputable def jws_ci : List Cond := .code yJ0_checkIndex_df160 cJ0_checkIndex_df160 2 none :: qAL
theorem jws_ci_in : ∀ w ∈ jws_ci, w ∈ qAL := fun w hw => by
  rcases List.mem_cons.mp hw with rfl | hw
  · exact jw_c_ci
  · exact hw
theorem jd_lcharAt_0 : decode cJ1_charAt_3b067 0 = .ok (.iload_n 1, 1) := by decide +kernel
theorem jd_lcharAt_1 : decode cJ1_charAt_3b067 1 = .ok (.aload_n 0, 1) := by decide +kernel
theorem jd_lcharAt_2 : decode cJ1_charAt_3b067 2 = .ok (.arraylength, 1) := by decide +kernel
theorem jd_lcharAt_3 : decode cJ1_charAt_3b067 3 = .ok (.invokestatic 9, 3) := by decide +kernel
theorem jd_lcharAt_6 : decode cJ1_charAt_3b067 6 = .ok (.aload_n 0, 1) := by decide +kernel
theorem jd_lcharAt_7 : decode cJ1_charAt_3b067 7 = .ok (.iload_n 1, 1) := by decide +kernel
theorem jd_lcharAt_8 : decode cJ1_charAt_3b067 8 = .ok (.baload, 1) := by decide +kernel
theorem jd_lcharAt_9 : decode cJ1_charAt_3b067 9 = .ok (.sipush 255, 3) := by decide +kernel
theorem jd_lcharAt_12 : decode cJ1_charAt_3b067 12 = .ok (.iand, 1) := by decide +kernel
theorem jd_lcharAt_13 : decode cJ1_charAt_3b067 13 = .ok (.i2c, 1) := by decide +kernel
theorem jd_lcharAt_14 : decode cJ1_charAt_3b067 14 = .ok (.ireturn, 1) := by decide +kernel
noncomputable def jws_lcharAt : List Cond := .code yJ1_charAt_3b067 cJ1_charAt_3b067 2 (some .char) :: qAL
theorem jws_lcharAt_in : ∀ w ∈ jws_lcharAt, w ∈ qAL := fun w hw => by
  rcases List.mem_cons.mp hw with rfl | hw
  · exact jw_c_lcharAt
  · exact hw
theorem jd_charAt_0 : decode cJ0_charAt_5068e 0 = .ok (.aload_n 0, 1) := by decide +kernel
theorem jd_charAt_1 : decode cJ0_charAt_5068e 1 = .ok (.invokevirtual 492, 3) := by decide +kernel
theorem jd_charAt_4 : decode cJ0_charAt_5068e 4 = .ok (.ifCond .eq 12, 3) := by decide +kernel
theorem jd_charAt_7 : decode cJ0_charAt_5068e 7 = .ok (.aload_n 0, 1) := by decide +kernel
theorem jd_charAt_8 : decode cJ0_charAt_5068e 8 = .ok (.getfield 9, 3) := by decide +kernel
theorem jd_charAt_11 : decode cJ0_charAt_5068e 11 = .ok (.iload_n 1, 1) := by decide +kernel
theorem jd_charAt_12 : decode cJ0_charAt_5068e 12 = .ok (.invokestatic 495, 3) := by decide +kernel
theorem jd_charAt_15 : decode cJ0_charAt_5068e 15 = .ok (.ireturn, 1) := by decide +kernel
noncomputable def jws_charAt : List Cond := .code yJ0_charAt_5068e cJ0_charAt_5068e 2 (some .char) :: qAL
theorem jws_charAt_in : ∀ w ∈ jws_charAt, w ∈ qAL := fun w hw => by
  rcases List.mem_cons.mp hw with rfl | hw
  · exact jw_c_charAt
  · exact hw
theorem jd_canEncode_0 : decode cJ1_canEncode_9a6ad 0 = .ok (.iload_n 0, 1) := by decide +kernel
theorem jd_canEncode_1 : decode cJ1_canEncode_9a6ad 1 = .ok (.ifCond .lt 14, 3) := by decide +kernel
theorem jd_canEncode_4 : decode cJ1_canEncode_9a6ad 4 = .ok (.iload_n 0, 1) := by decide +kernel
theorem jd_canEncode_5 : decode cJ1_canEncode_9a6ad 5 = .ok (.sipush 255, 3) := by decide +kernel
theorem jd_canEncode_8 : decode cJ1_canEncode_9a6ad 8 = .ok (.if_icmp .gt 7, 3) := by decide +kernel
theorem jd_canEncode_11 : decode cJ1_canEncode_9a6ad 11 = .ok (.iconst 1, 1) := by decide +kernel
theorem jd_canEncode_12 : decode cJ1_canEncode_9a6ad 12 = .ok (.goto 4, 3) := by decide +kernel
theorem jd_canEncode_15 : decode cJ1_canEncode_9a6ad 15 = .ok (.iconst 0, 1) := by decide +kernel
theorem jd_canEncode_16 : decode cJ1_canEncode_9a6ad 16 = .ok (.ireturn, 1) := by decide +kernel
noncomputable def jws_canEncode : List Cond := .code yJ1_canEncode_9a6ad cJ1_canEncode_9a6ad 1 (some .boolean) :: qAL
theorem jws_canEncode_in : ∀ w ∈ jws_canEncode, w ∈ qAL := fun w hw => by
  rcases List.mem_cons.mp hw with rfl | hw
  · exact jw_c_canEncode
  · exact hw
theorem jd_ioc_0 : decode cJ1_indexOfChar_4cfef 0 = .ok (.iload_n 1, 1) := by decide +kernel
theorem jd_ioc_1 : decode cJ1_indexOfChar_4cfef 1 = .ok (.i2b, 1) := by decide +kernel
theorem jd_ioc_2 : decode cJ1_indexOfChar_4cfef 2 = .ok (.istore 4, 2) := by decide +kernel
theorem jd_ioc_4 : decode cJ1_indexOfChar_4cfef 4 = .ok (.iload_n 2, 1) := by decide +kernel
theorem jd_ioc_5 : decode cJ1_indexOfChar_4cfef 5 = .ok (.istore 5, 2) := by decide +kernel
theorem jd_ioc_7 : decode cJ1_indexOfChar_4cfef 7 = .ok (.iload 5, 2) := by decide +kernel
theorem jd_ioc_9 : decode cJ1_indexOfChar_4cfef 9 = .ok (.iload_n 3, 1) := by decide +kernel
theorem jd_ioc_10 : decode cJ1_indexOfChar_4cfef 10 = .ok (.if_icmp .ge 21, 3) := by decide +kernel
theorem jd_ioc_13 : decode cJ1_indexOfChar_4cfef 13 = .ok (.aload_n 0, 1) := by decide +kernel
theorem jd_ioc_14 : decode cJ1_indexOfChar_4cfef 14 = .ok (.iload 5, 2) := by decide +kernel
theorem jd_ioc_16 : decode cJ1_indexOfChar_4cfef 16 = .ok (.baload, 1) := by decide +kernel
theorem jd_ioc_17 : decode cJ1_indexOfChar_4cfef 17 = .ok (.iload 4, 2) := by decide +kernel
theorem jd_ioc_19 : decode cJ1_indexOfChar_4cfef 19 = .ok (.if_icmp .ne 6, 3) := by decide +kernel
theorem jd_ioc_22 : decode cJ1_indexOfChar_4cfef 22 = .ok (.iload 5, 2) := by decide +kernel
theorem jd_ioc_24 : decode cJ1_indexOfChar_4cfef 24 = .ok (.ireturn, 1) := by decide +kernel
theorem jd_ioc_25 : decode cJ1_indexOfChar_4cfef 25 = .ok (.iinc 5 1, 3) := by decide +kernel
theorem jd_ioc_28 : decode cJ1_indexOfChar_4cfef 28 = .ok (.goto (-21), 3) := by decide +kernel
theorem jd_ioc_31 : decode cJ1_indexOfChar_4cfef 31 = .ok (.iconst (-1), 1) := by decide +kernel
theorem jd_ioc_32 : decode cJ1_indexOfChar_4cfef 32 = .ok (.ireturn, 1) := by decide +kernel
noncomputable def jws_ioc : List Cond := .code yJ1_indexOfChar_4cfef cJ1_indexOfChar_4cfef 6 (some .int) :: qAL
theorem jws_ioc_in : ∀ w ∈ jws_ioc, w ∈ qAL := fun w hw => by
  rcases List.mem_cons.mp hw with rfl | hw
  · exact jw_c_ioc
  · exact hw
theorem jd_lio_0 : decode cJ1_indexOf_4cfef 0 = .ok (.iload_n 1, 1) := by decide +kernel
theorem jd_lio_1 : decode cJ1_indexOf_4cfef 1 = .ok (.invokestatic 88, 3) := by decide +kernel
theorem jd_lio_4 : decode cJ1_indexOf_4cfef 4 = .ok (.ifCond .ne 5, 3) := by decide +kernel
theorem jd_lio_7 : decode cJ1_indexOf_4cfef 7 = .ok (.iconst (-1), 1) := by decide +kernel
theorem jd_lio_8 : decode cJ1_indexOf_4cfef 8 = .ok (.ireturn, 1) := by decide +kernel
theorem jd_lio_9 : decode cJ1_indexOf_4cfef 9 = .ok (.iload_n 2, 1) := by decide +kernel
theorem jd_lio_10 : decode cJ1_indexOf_4cfef 10 = .ok (.iconst 0, 1) := by decide +kernel
theorem jd_lio_11 : decode cJ1_indexOf_4cfef 11 = .ok (.invokestatic 92, 3) := by decide +kernel
theorem jd_lio_14 : decode cJ1_indexOf_4cfef 14 = .ok (.istore_n 2, 1) := by decide +kernel
theorem jd_lio_15 : decode cJ1_indexOf_4cfef 15 = .ok (.iload_n 3, 1) := by decide +kernel
theorem jd_lio_16 : decode cJ1_indexOf_4cfef 16 = .ok (.aload_n 0, 1) := by decide +kernel
theorem jd_lio_17 : decode cJ1_indexOf_4cfef 17 = .ok (.arraylength, 1) := by decide +kernel
theorem jd_lio_18 : decode cJ1_indexOf_4cfef 18 = .ok (.invokestatic 38, 3) := by decide +kernel
theorem jd_lio_21 : decode cJ1_indexOf_4cfef 21 = .ok (.istore_n 3, 1) := by decide +kernel
theorem jd_lio_22 : decode cJ1_indexOf_4cfef 22 = .ok (.iload_n 2, 1) := by decide +kernel
theorem jd_lio_23 : decode cJ1_indexOf_4cfef 23 = .ok (.iload_n 3, 1) := by decide +kernel
theorem jd_lio_24 : decode cJ1_indexOf_4cfef 24 = .ok (.if_icmp .lt 5, 3) := by decide +kernel
theorem jd_lio_27 : decode cJ1_indexOf_4cfef 27 = .ok (.iconst (-1), 1) := by decide +kernel
theorem jd_lio_28 : decode cJ1_indexOf_4cfef 28 = .ok (.ireturn, 1) := by decide +kernel
theorem jd_lio_29 : decode cJ1_indexOf_4cfef 29 = .ok (.aload_n 0, 1) := by decide +kernel
theorem jd_lio_30 : decode cJ1_indexOf_4cfef 30 = .ok (.iload_n 1, 1) := by decide +kernel
theorem jd_lio_31 : decode cJ1_indexOf_4cfef 31 = .ok (.iload_n 2, 1) := by decide +kernel
theorem jd_lio_32 : decode cJ1_indexOf_4cfef 32 = .ok (.iload_n 3, 1) := by decide +kernel
theorem jd_lio_33 : decode cJ1_indexOf_4cfef 33 = .ok (.invokestatic 95, 3) := by decide +kernel
theorem jd_lio_36 : decode cJ1_indexOf_4cfef 36 = .ok (.ireturn, 1) := by decide +kernel
noncomputable def jws_lio : List Cond := .code yJ1_indexOf_4cfef cJ1_indexOf_4cfef 4 (some .int) :: qAL
theorem jws_lio_in : ∀ w ∈ jws_lio, w ∈ qAL := fun w hw => by
  rcases List.mem_cons.mp hw with rfl | hw
  · exact jw_c_lio
  · exact hw
theorem jd_io2_0 : decode cJ0_indexOf_7cf53 0 = .ok (.aload_n 0, 1) := by decide +kernel
theorem jd_io2_1 : decode cJ0_indexOf_7cf53 1 = .ok (.invokevirtual 492, 3) := by decide +kernel
theorem jd_io2_4 : decode cJ0_indexOf_7cf53 4 = .ok (.ifCond .eq 19, 3) := by decide +kernel
theorem jd_io2_7 : decode cJ0_indexOf_7cf53 7 = .ok (.aload_n 0, 1) := by decide +kernel
theorem jd_io2_8 : decode cJ0_indexOf_7cf53 8 = .ok (.getfield 9, 3) := by decide +kernel
theorem jd_io2_11 : decode cJ0_indexOf_7cf53 11 = .ok (.iload_n 1, 1) := by decide +kernel
theorem jd_io2_12 : decode cJ0_indexOf_7cf53 12 = .ok (.iload_n 2, 1) := by decide +kernel
theorem jd_io2_13 : decode cJ0_indexOf_7cf53 13 = .ok (.aload_n 0, 1) := by decide +kernel
theorem jd_io2_14 : decode cJ0_indexOf_7cf53 14 = .ok (.invokevirtual 505, 3) := by decide +kernel
theorem jd_io2_17 : decode cJ0_indexOf_7cf53 17 = .ok (.invokestatic 637, 3) := by decide +kernel
theorem jd_io2_20 : decode cJ0_indexOf_7cf53 20 = .ok (.goto 16, 3) := by decide +kernel
theorem jd_io2_36 : decode cJ0_indexOf_7cf53 36 = .ok (.ireturn, 1) := by decide +kernel
noncomputable def jws_io2 : List Cond := .code yJ0_indexOf_7cf53 cJ0_indexOf_7cf53 3 (some .int) :: qAL
theorem jws_io2_in : ∀ w ∈ jws_io2, w ∈ qAL := fun w hw => by
  rcases List.mem_cons.mp hw with rfl | hw
  · exact jw_c_io2
  · exact hw
theorem jd_io1_0 : decode cJ0_indexOf_0f7a4 0 = .ok (.aload_n 0, 1) := by decide +kernel
theorem jd_io1_1 : decode cJ0_indexOf_0f7a4 1 = .ok (.iload_n 1, 1) := by decide +kernel
theorem jd_io1_2 : decode cJ0_indexOf_0f7a4 2 = .ok (.iconst 0, 1) := by decide +kernel
theorem jd_io1_3 : decode cJ0_indexOf_0f7a4 3 = .ok (.invokevirtual 633, 3) := by decide +kernel
theorem jd_io1_6 : decode cJ0_indexOf_0f7a4 6 = .ok (.ireturn, 1) := by decide +kernel
noncomputable def jws_io1 : List Cond := .code yJ0_indexOf_0f7a4 cJ0_indexOf_0f7a4 2 (some .int) :: qAL
theorem jws_io1_in : ∀ w ∈ jws_io1, w ∈ qAL := fun w hw => by
  rcases List.mem_cons.mp hw with rfl | hw
  · exact jw_c_io1
  · exact hw
/-- a text and the statics that hold it -/
noncomputable def jq_B (a v L : Nat) (f : Nat → Int32) (sz : Nat) : State → Prop := fun U => U.heap.size = sz ∧ jq_T a v L f (fun q => sz ≤ q) U U.heap ∧ jq_Z (fun q => sz ≤ q) U U.heap
theorem jq_blind (a v L : Nat) (f : Nat → Int32) (sz : Nat) (av : List Value) : FrameBlind (va_Pc av (jq_B a v L f sz)) := fun a U g mk q => by
  obtain ⟨q0, q1, q2, q3⟩ := q
  exact ⟨q0, q1, q2.moved (u := U) (U := U.calling g mk a) (Vm.Alike.refl U.vm), q3.moved (u := U) (U := U.calling g mk a) (Vm.Alike.refl U.vm)⟩
noncomputable def jrm (d : Nat) : Room := { frames := d, cells := 0, slots := 0, locals := 60 * d }
theorem jpre {a v L : Nat} {f : Nat → Int32} {A : Nat → Prop} {s : State} {H0 H : Heap} {locs : List Loc} (hS : va_S A H0 H locs) (hA : ∀ q, H0.size ≤ q → A q) (hT : jq_T a v L f A s H0) (hZ : jq_Z A s H0) (av : List Value) : ∀ U : State, U.heap = H → s.WarmedH U.vm → va_Pc av (jq_B a v L f H.size) av.toArray U := fun U hU hW => by
  have hAB : ∀ q, H.size ≤ q → A q := fun q h => hA q (Nat.le_trans hS.1 h)
  exact ⟨rfl, by rw [hU], by rw [hU]; exact (hT.go hS hAB).moved hW.alike, by rw [hU]; exact (hZ.go hS hAB).moved hW.alike⟩
noncomputable def jQ (x : Int32) (sz : Nat) : Array Value → State → Outcome → State → Prop := va_Qi (fun r (_ : Unit) => r = x) (fun _ _ => True) (fun q => sz ≤ q)

set_option maxHeartbeats 4000000 in
theorem jc_coder (l : Launch) (a v L : Nat) (f : Nat → Int32) (sz : Nat)  : Met l yJ0_coder_7d493 jws_coder (jrm 0) (va_Pc [.ref a] (jq_B a v L f sz)) (jQ 0 sz) 0 0 (fun q => sz ≤ q) := by
  refine Met.ofW (cc := cJ0_coder_7d493) (maxL := 1) (ret := (some .byte)) (by decide) rfl ?_
  intro p e s m args below meth c s₁ B hml hv
  obtain ⟨rfl, rfl, hT, hZ⟩ := hv
  have hx := B.exec
  have hb := B.bytes
  have hr := B.returns
  have hts0 := atoms_spec (ws := jws_coder) B.pre
  have hts : ∀ w ∈ qAL, w.before _ s = true := fun w hw => hts0 w (List.mem_cons_of_mem _ hw)
  have hlocks := B.notSynchronized
  have hown : s.vm.findClass RJ0 = some m.cls := findClass_of_methodNamed B.named
  have hA : ∀ q : Nat, s.heap.size ≤ q → s.heap.size ≤ q := fun q h => h
  have hS : va_S (fun q => s.heap.size ≤ q) s.heap s.heap [] := va_S.rf
  have hl := lv_entry ([.ref a]) (n := 1) (Nat.le_of_ble_eq_true rfl)
  rw [lg_entry_eq]
  generalize (lg_sl ([.ref a]) ++ List.replicate (1 - (lg_sl ([.ref a])).length) Slot.unset).toArray = ls at hl ⊢
  have hl : lv_has ls 1 [(0, .ref a)] := hl
  refine va_gets (C := "java/lang/String") (n := "COMPACT_STRINGS") (d := "Z") (own := RJ0) (ref := "java/lang/String") hx hb hZ.1 hS hown (hts _ jw_f_RJ0_38) (fun _ h => h) jd_coder_0 ?_
  refine lv_if_eq (tgt := 13) hx hb jd_coder_3 rfl (fun h => absurd h (by decide)) (fun _ => ?_)
  refine lv_aload_n hx hb jd_coder_6 rfl (lv_at hl 0 rfl) ?_
  refine vk_getf (o := "java/lang/String") (n := "coder") (d := "B") (own := RJ0) (ref := "java/lang/String") hx hb hT.2.1 hS hown (hts _ jw_f_RJ0_15) (fun _ h => h) jd_coder_7 ?_
  refine lv_goto (tgt := 14) hx hb jd_coder_10 rfl ?_
  exact W.zret hx hb hr (ty := .byte) (by first | rfl | decide | assumption | exact pk_nc _) (fun t ht hW => ⟨⟨_, (), rfl, rfl, trivial⟩, hS.F ht⟩) hS.2.2 jd_coder_14
set_option maxHeartbeats 4000000 in
theorem jc_isLatin1 (l : Launch) (a v L : Nat) (f : Nat → Int32) (sz : Nat)  : Met l yJ0_isLatin1_aae02 jws_isLatin1 (jrm 0) (va_Pc [.ref a] (jq_B a v L f sz)) (jQ 1 sz) 0 0 (fun q => sz ≤ q) := by
  refine Met.ofW (cc := cJ0_isLatin1_aae02) (maxL := 1) (ret := (some .boolean)) (by decide) rfl ?_
  intro p e s m args below meth c s₁ B hml hv
  obtain ⟨rfl, rfl, hT, hZ⟩ := hv
  have hx := B.exec
  have hb := B.bytes
  have hr := B.returns
  have hts0 := atoms_spec (ws := jws_isLatin1) B.pre
  have hts : ∀ w ∈ qAL, w.before _ s = true := fun w hw => hts0 w (List.mem_cons_of_mem _ hw)
  have hlocks := B.notSynchronized
  have hown : s.vm.findClass RJ0 = some m.cls := findClass_of_methodNamed B.named
  have hA : ∀ q : Nat, s.heap.size ≤ q → s.heap.size ≤ q := fun q h => h
  have hS : va_S (fun q => s.heap.size ≤ q) s.heap s.heap [] := va_S.rf
  have hl := lv_entry ([.ref a]) (n := 1) (Nat.le_of_ble_eq_true rfl)
  rw [lg_entry_eq]
  generalize (lg_sl ([.ref a]) ++ List.replicate (1 - (lg_sl ([.ref a])).length) Slot.unset).toArray = ls at hl ⊢
  have hl : lv_has ls 1 [(0, .ref a)] := hl
  refine va_gets (C := "java/lang/String") (n := "COMPACT_STRINGS") (d := "Z") (own := RJ0) (ref := "java/lang/String") hx hb hZ.1 hS hown (hts _ jw_f_RJ0_38) (fun _ h => h) jd_isLatin1_0 ?_
  refine lv_if_eq (tgt := 17) hx hb jd_isLatin1_3 rfl (fun h => absurd h (by decide)) (fun _ => ?_)
  refine lv_aload_n hx hb jd_isLatin1_6 rfl (lv_at hl 0 rfl) ?_
  refine vk_getf (o := "java/lang/String") (n := "coder") (d := "B") (own := RJ0) (ref := "java/lang/String") hx hb hT.2.1 hS hown (hts _ jw_f_RJ0_15) (fun _ h => h) jd_isLatin1_7 ?_
  refine lv_if_ne (tgt := 17) hx hb jd_isLatin1_10 rfl (fun h => absurd rfl h) (fun _ => ?_)
  refine lv_iconst hx hb jd_isLatin1_13 rfl ?_
  refine lv_goto (tgt := 18) hx hb jd_isLatin1_14 rfl ?_
  exact W.zret hx hb hr (ty := .boolean) (by first | rfl | decide | assumption | exact pk_nc _) (fun t ht hW => ⟨⟨_, (), rfl, rfl, trivial⟩, hS.F ht⟩) hS.2.2 jd_isLatin1_18
theorem jgood {ws : List Cond} (h : ∀ w ∈ ws, w ∈ qAL) : GoodIn qAL ws := fun w hw => ⟨h w hw, good_of_word (List.mem_filter.mp (h w hw)).2⟩
theorem jgS {own : String} {i : Nat} {y : MethodName} {ws : List Cond} (h1 : Cond.methodLink own i y ∈ qAL) (h2 : Cond.static y ∈ qAL) (h3 : Cond.initialized y.cls ∈ qAL) (h4 : ∀ w ∈ ws, w ∈ qAL) : GoodIn qAL (va_wsS own i y ws) := jgood fun x hx => by
  have hx : x ∈ ([.methodLink own i y, .static y, .initialized y.cls] : List Cond) ++ ws := hx
  rcases List.mem_append.mp hx with h | h
  · simp only [List.mem_cons, List.not_mem_nil, or_false] at h
    rcases h with rfl | rfl | rfl <;> assumption
  · exact h4 x h
theorem jgV {own C : String} {i : Nat} {y : MethodName} {ws : List Cond} (h1 : Cond.methodLink own i y ∈ qAL) (h2 : Cond.instanceMethod y ∈ qAL) (h5 : Cond.selects C y y ∈ qAL) (h3 : Cond.initialized C ∈ qAL) (h4 : ∀ w ∈ ws, w ∈ qAL) : GoodIn qAL (wsV own i C y ws) := jgood fun x hx => by
  have hx : x ∈ ([.methodLink own i y, .instanceMethod y, .selects C y y, .initialized C] : List Cond) ++ ws := hx
  rcases List.mem_append.mp hx with h | h
  · simp only [List.mem_cons, List.not_mem_nil, or_false] at h
    rcases h with rfl | rfl | rfl | rfl <;> assumption
  · exact h4 x h
theorem jrecv {a v L : Nat} {f : Nat → Int32} {A : Nat → Prop} {s : State} {H0 H : Heap} {locs : List Loc} (hS : va_S A H0 H locs) (hT : jq_T a v L f A s H0) : ∃ cell : Cell, H[a]? = some cell ∧ cell.vm.isStatics = false ∧ s.vm.findClass "java/lang/String" = some cell.cls := by
  obtain ⟨cell, h1, h2, h3, -⟩ := hT.1.kept hS.2.1
  exact ⟨cell, h1, h2, h3⟩
theorem jshr0 {n : Nat} (h : n < 2147483648) : nI n >>> ((0 : Int32) &&& 31) = nI n := by
  have := pk_shrN (n := n) (by omega) ((0 : Int32) &&& 31) 0 (by decide)
  rw [this]; simp
set_option maxHeartbeats 4000000 in
theorem jc_length (l : Launch) (a v L : Nat) (f : Nat → Int32) (sz : Nat) (hL : L < 2147483648) : Met l yJ0_length_8abf5 jws_length (jrm 1) (va_Pc [.ref a] (jq_B a v L f sz)) (jQ (nI L) sz) 0 0 (fun q => sz ≤ q) := by
  refine Met.ofW (cc := cJ0_length_8abf5) (maxL := 1) (ret := (some .int)) (by decide) rfl ?_
  intro p e s m args below meth c s₁ B hml hv
  obtain ⟨rfl, rfl, hT, hZ⟩ := hv
  have hx := B.exec
  have hb := B.bytes
  have hr := B.returns
  have hts0 := atoms_spec (ws := jws_length) B.pre
  have hts : ∀ w ∈ qAL, w.before _ s = true := fun w hw => hts0 w (List.mem_cons_of_mem _ hw)
  have hlocks := B.notSynchronized
  have hown : s.vm.findClass RJ0 = some m.cls := findClass_of_methodNamed B.named
  have hA : ∀ q : Nat, s.heap.size ≤ q → s.heap.size ≤ q := fun q h => h
  have hS : va_S (fun q => s.heap.size ≤ q) s.heap s.heap [] := va_S.rf
  have hl := lv_entry ([.ref a]) (n := 1) (Nat.le_of_ble_eq_true rfl)
  rw [lg_entry_eq]
  generalize (lg_sl ([.ref a]) ++ List.replicate (1 - (lg_sl ([.ref a])).length) Slot.unset).toArray = ls at hl ⊢
  have hl : lv_has ls 1 [(0, .ref a)] := hl
  refine lv_aload_n hx hb jd_length_0 rfl (lv_at hl 0 rfl) ?_
  refine vk_getf (o := "java/lang/String") (n := "value") (d := "[B") (own := RJ0) (ref := "java/lang/String") hx hb hT.2.2.1 hS hown (hts _ jw_f_RJ0_9) (fun _ h => h) jd_length_1 ?_
  refine va_tlen hx hb hT.2.2.2 hS (v := nI L) rfl jd_length_4 ?_
  refine lv_aload_n hx hb jd_length_5 rfl (lv_at hl 0 rfl) ?_
  refine va_calli (post := fun r (_ : Unit) => r = 0) (B := fun _ _ => True) (A1 := fun q => _ ≤ q) (va_runV (As := []) (rest := [.int (nI L)]) (b := a) (C := RJ0) ⟨hx, hb, hml, hown, hts⟩ (jc_coder l a v L f _ ) (cwV 0 hts (jgV jw_m_RJ0_335 jw_i_coder jw_v_coder jw_n_RJ0 jws_coder_in) rfl rfl rfl ⟨rfl, by decide, by decide, by decide +kernel⟩ ⟨by decide, by decide⟩) ⟨jq_blind _ _ _ _ _ _, jrecv hS hT, jpre hS hA hT hZ _⟩ rfl rfl hl.1 rfl (lv_room (Nat.le_of_ble_eq_true rfl)) jd_length_6 ⟨Nat.zero_le _, Nat.zero_le _⟩) hS (fun q h9 h => absurd h (Nat.not_le.mpr h9)) (fun q h => hA q (Nat.le_trans hS.1 h)) (fun r _ t H locs ht hvm hr _ _ _ hS => ?_)
  subst hr
  refine lv_ishr hx hb jd_length_9 ?_
  rw [jshr0 hL]
  exact W.zret hx hb hr (ty := .int) (rfl) (fun t ht hW => ⟨⟨_, (), rfl, rfl, trivial⟩, hS.F ht⟩) hS.2.2 jd_length_10
set_option maxHeartbeats 4000000 in
theorem jc_pci (l : Launch) (a v L : Nat) (f : Nat → Int32) (sz : Nat) (i n g : Nat) (hi : i < n) (hn : n < 2147483648) : Met l yJ3_checkIndex_8e157 jws_pci (jrm 0) (va_Pc [.int (nI i), .int (nI n), .ref g] (jq_B a v L f sz)) (jQ (nI i) sz) 0 0 (fun q => sz ≤ q) := by
  refine Met.ofW (cc := cJ3_checkIndex_8e157) (maxL := 3) (ret := (some .int)) (by decide) rfl ?_
  intro p e s m args below meth c s₁ B hml hv
  obtain ⟨rfl, rfl, hT, hZ⟩ := hv
  have hx := B.exec
  have hb := B.bytes
  have hr := B.returns
  have hts0 := atoms_spec (ws := jws_pci) B.pre
  have hts : ∀ w ∈ qAL, w.before _ s = true := fun w hw => hts0 w (List.mem_cons_of_mem _ hw)
  have hlocks := B.notSynchronized
  have hown : s.vm.findClass RJ3 = some m.cls := findClass_of_methodNamed B.named
  have hA : ∀ q : Nat, s.heap.size ≤ q → s.heap.size ≤ q := fun q h => h
  have hS : va_S (fun q => s.heap.size ≤ q) s.heap s.heap [] := va_S.rf
  have hl := lv_entry ([.int (nI i), .int (nI n), .ref g]) (n := 3) (Nat.le_of_ble_eq_true rfl)
  rw [lg_entry_eq]
  generalize (lg_sl ([.int (nI i), .int (nI n), .ref g]) ++ List.replicate (3 - (lg_sl ([.int (nI i), .int (nI n), .ref g])).length) Slot.unset).toArray = ls at hl ⊢
  have hl : lv_has ls 3 [(0, .int (nI i)), (1, .int (nI n)), (2, .ref g)] := hl
  refine lv_iload_n hx hb jd_pci_0 rfl (lv_at hl 0 rfl) ?_
  refine lv_if_lt (tgt := 9) hx hb jd_pci_1 rfl (fun h => absurd h (nI_pos (by omega))) (fun _ => ?_)
  refine lv_iload_n hx hb jd_pci_4 rfl (lv_at hl 0 rfl) ?_
  refine lv_iload_n hx hb jd_pci_5 rfl (lv_at hl 1 rfl) ?_
  refine lv_icmp_lt (tgt := 16) hx hb jd_pci_6 rfl (fun _ => ?_) (fun h => absurd (nI_lt hi (by omega)) h)
  refine lv_iload_n hx hb jd_pci_16 rfl (lv_at hl 0 rfl) ?_
  exact W.zret hx hb hr (ty := .int) (rfl) (fun t ht hW => ⟨⟨_, (), rfl, rfl, trivial⟩, hS.F ht⟩) hS.2.2 jd_pci_17
set_option maxHeartbeats 4000000 in
theorem jc_pcn (l : Launch) (a v L : Nat) (f : Nat → Int32) (sz : Nat) (i n : Nat) (hi : i < n) (hn : n < 2147483648) : Met l yJ3_checkIndex_8e157 jws_pcn (jrm 0) (va_Pc [.int (nI i), .int (nI n), .null] (jq_B a v L f sz)) (jQ (nI i) sz) 0 0 (fun q => sz ≤ q) := by
  refine Met.ofW (cc := cJ3_checkIndex_8e157) (maxL := 3) (ret := (some .int)) (by decide) rfl ?_
  intro p e s m args below meth c s₁ B hml hv
  obtain ⟨rfl, rfl, hT, hZ⟩ := hv
  have hx := B.exec
  have hb := B.bytes
  have hr := B.returns
  have hts0 := atoms_spec (ws := jws_pcn) B.pre
  have hts : ∀ w ∈ qAL, w.before _ s = true := fun w hw => hts0 w (List.mem_cons_of_mem _ hw)
  have hlocks := B.notSynchronized
  have hown : s.vm.findClass RJ3 = some m.cls := findClass_of_methodNamed B.named
  have hA : ∀ q : Nat, s.heap.size ≤ q → s.heap.size ≤ q := fun q h => h
  have hS : va_S (fun q => s.heap.size ≤ q) s.heap s.heap [] := va_S.rf
  have hl := lv_entry ([.int (nI i), .int (nI n), .null]) (n := 3) (Nat.le_of_ble_eq_true rfl)
  rw [lg_entry_eq]
  generalize (lg_sl ([.int (nI i), .int (nI n), .null]) ++ List.replicate (3 - (lg_sl ([.int (nI i), .int (nI n), .null])).length) Slot.unset).toArray = ls at hl ⊢
  have hl : lv_has ls 3 [(0, .int (nI i)), (1, .int (nI n)), (2, .null)] := hl
  refine lv_iload_n hx hb jd_pci_0 rfl (lv_at hl 0 rfl) ?_
  refine lv_if_lt (tgt := 9) hx hb jd_pci_1 rfl (fun h => absurd h (nI_pos (by omega))) (fun _ => ?_)
  refine lv_iload_n hx hb jd_pci_4 rfl (lv_at hl 0 rfl) ?_
  refine lv_iload_n hx hb jd_pci_5 rfl (lv_at hl 1 rfl) ?_
  refine lv_icmp_lt (tgt := 16) hx hb jd_pci_6 rfl (fun _ => ?_) (fun h => absurd (nI_lt hi (by omega)) h)
  refine lv_iload_n hx hb jd_pci_16 rfl (lv_at hl 0 rfl) ?_
  exact W.zret hx hb hr (ty := .int) (rfl) (fun t ht hW => ⟨⟨_, (), rfl, rfl, trivial⟩, hS.F ht⟩) hS.2.2 jd_pci_17
set_option maxHeartbeats 4000000 in
theorem jc_ci (l : Launch) (a v L : Nat) (f : Nat → Int32) (sz : Nat) (i n : Nat) (hi : i < n) (hn : n < 2147483648) : Met l yJ0_checkIndex_df160 jws_ci (jrm 1) (va_Pc [.int (nI i), .int (nI n)] (jq_B a v L f sz)) (va_Qv (fun (_ : Unit) => True) (fun _ _ => True) (fun q => sz ≤ q)) 0 0 (fun q => sz ≤ q) := by
  refine Met.ofW (cc := cJ0_checkIndex_df160) (maxL := 2) (ret := none) (by decide) rfl ?_
  intro p e s m args below meth c s₁ B hml hv
  obtain ⟨rfl, rfl, hT, hZ⟩ := hv
  have hx := B.exec
  have hb := B.bytes
  have hr := B.returns
  have hts0 := atoms_spec (ws := jws_ci) B.pre
  have hts : ∀ w ∈ qAL, w.before _ s = true := fun w hw => hts0 w (List.mem_cons_of_mem _ hw)
  have hlocks := B.notSynchronized
  have hown : s.vm.findClass RJ0 = some m.cls := findClass_of_methodNamed B.named
  have hA : ∀ q : Nat, s.heap.size ≤ q → s.heap.size ≤ q := fun q h => h
  have hS : va_S (fun q => s.heap.size ≤ q) s.heap s.heap [] := va_S.rf
  have hl := lv_entry ([.int (nI i), .int (nI n)]) (n := 2) (Nat.le_of_ble_eq_true rfl)
  rw [lg_entry_eq]
  generalize (lg_sl ([.int (nI i), .int (nI n)]) ++ List.replicate (2 - (lg_sl ([.int (nI i), .int (nI n)])).length) Slot.unset).toArray = ls at hl ⊢
  have hl : lv_has ls 2 [(0, .int (nI i)), (1, .int (nI n))] := hl
  rcases hZ.2 with ⟨g, hg⟩ | hg
  · refine lv_iload_n hx hb jd_ci_0 rfl (lv_at hl 0 rfl) ?_
    refine lv_iload_n hx hb jd_ci_1 rfl (lv_at hl 1 rfl) ?_
    refine va_gets (C := "jdk/internal/util/Preconditions") (n := "SIOOBE_FORMATTER") (d := "Ljava/util/function/BiFunction;") (own := RJ0) (ref := "jdk/internal/util/Preconditions") hx hb hg hS hown (hts _ jw_f_RJ0_1053) (fun _ h => h) jd_ci_2 ?_
    refine va_calli (post := fun r (_ : Unit) => r = nI i) (B := fun _ _ => True) (A1 := fun q => _ ≤ q) (va_runS (As := [.int (nI i), .int (nI n), .ref g]) (rest := []) ⟨hx, hb, hml, hown, hts⟩ (jc_pci l a v L f _ i n g hi hn) (va_cwS 3 hts (jgS jw_m_RJ0_1059 jw_s_pci jw_n_RJ3 jws_pci_in) rfl rfl rfl ⟨by decide, by decide, by decide +kernel⟩ ⟨by decide, by decide⟩) ⟨jq_blind _ _ _ _ _ _, jpre hS hA hT hZ _⟩ rfl rfl hl.1 rfl (lv_room (Nat.le_of_ble_eq_true rfl)) jd_ci_5 ⟨Nat.zero_le _, Nat.zero_le _⟩) hS (fun q h9 h => absurd h (Nat.not_le.mpr h9)) (fun q h => hA q (Nat.le_trans hS.1 h)) (fun r _ t H locs ht hvm hr _ _ _ hS => ?_)
    subst hr
    refine lv_pop hx hb jd_ci_8 rfl ?_
    exact W.vret hx hb hr (fun t ht hW => ⟨⟨(), rfl, trivial, trivial⟩, hS.F ht⟩) hS.2.2 jd_ci_9
  · refine lv_iload_n hx hb jd_ci_0 rfl (lv_at hl 0 rfl) ?_
    refine lv_iload_n hx hb jd_ci_1 rfl (lv_at hl 1 rfl) ?_
    refine va_gets (C := "jdk/internal/util/Preconditions") (n := "SIOOBE_FORMATTER") (d := "Ljava/util/function/BiFunction;") (own := RJ0) (ref := "jdk/internal/util/Preconditions") hx hb hg hS hown (hts _ jw_f_RJ0_1053) (fun _ h => h) jd_ci_2 ?_
    refine va_calli (post := fun r (_ : Unit) => r = nI i) (B := fun _ _ => True) (A1 := fun q => _ ≤ q) (va_runS (As := [.int (nI i), .int (nI n), .null]) (rest := []) ⟨hx, hb, hml, hown, hts⟩ (jc_pcn l a v L f _ i n hi hn) (va_cwS 3 hts (jgS jw_m_RJ0_1059 jw_s_pcn jw_n_RJ3 jws_pcn_in) rfl rfl rfl ⟨by decide, by decide, by decide +kernel⟩ ⟨by decide, by decide⟩) ⟨jq_blind _ _ _ _ _ _, jpre hS hA hT hZ _⟩ rfl rfl hl.1 rfl (lv_room (Nat.le_of_ble_eq_true rfl)) jd_ci_5 ⟨Nat.zero_le _, Nat.zero_le _⟩) hS (fun q h9 h => absurd h (Nat.not_le.mpr h9)) (fun q h => hA q (Nat.le_trans hS.1 h)) (fun r _ t H locs ht hvm hr _ _ _ hS => ?_)
    subst hr
    refine lv_pop hx hb jd_ci_8 rfl ?_
    exact W.vret hx hb hr (fun t ht hW => ⟨⟨(), rfl, trivial, trivial⟩, hS.F ht⟩) hS.2.2 jd_ci_9
set_option maxHeartbeats 4000000 in
theorem jc_lcharAt (l : Launch) (a v L : Nat) (f : Nat → Int32) (sz : Nat) (i : Nat) (hi : i < L) (hL : L < 2147483648) : Met l yJ1_charAt_3b067 jws_lcharAt (jrm 2) (va_Pc [.ref v, .int (nI i)] (jq_B a v L f sz)) (jQ (((f i &&& 255).toUInt32 % 65536).toInt32) sz) 0 0 (fun q => sz ≤ q) := by
  refine Met.ofW (cc := cJ1_charAt_3b067) (maxL := 2) (ret := (some .char)) (by decide) rfl ?_
  intro p e s m args below meth c s₁ B hml hv
  obtain ⟨rfl, rfl, hT, hZ⟩ := hv
  have hx := B.exec
  have hb := B.bytes
  have hr := B.returns
  have hts0 := atoms_spec (ws := jws_lcharAt) B.pre
  have hts : ∀ w ∈ qAL, w.before _ s = true := fun w hw => hts0 w (List.mem_cons_of_mem _ hw)
  have hlocks := B.notSynchronized
  have hown : s.vm.findClass RJ1 = some m.cls := findClass_of_methodNamed B.named
  have hA : ∀ q : Nat, s.heap.size ≤ q → s.heap.size ≤ q := fun q h => h
  have hS : va_S (fun q => s.heap.size ≤ q) s.heap s.heap [] := va_S.rf
  have hl := lv_entry ([.ref v, .int (nI i)]) (n := 2) (Nat.le_of_ble_eq_true rfl)
  rw [lg_entry_eq]
  generalize (lg_sl ([.ref v, .int (nI i)]) ++ List.replicate (2 - (lg_sl ([.ref v, .int (nI i)])).length) Slot.unset).toArray = ls at hl ⊢
  have hl : lv_has ls 2 [(0, .ref v), (1, .int (nI i))] := hl
  refine lv_iload_n hx hb jd_lcharAt_0 rfl (lv_at hl 1 rfl) ?_
  refine lv_aload_n hx hb jd_lcharAt_1 rfl (lv_at hl 0 rfl) ?_
  refine va_tlen hx hb hT.2.2.2 hS (v := nI L) rfl jd_lcharAt_2 ?_
  refine va_callv (post := fun (_ : Unit) => True) (B := fun _ _ => True) (A1 := fun q => _ ≤ q) (va_runS (As := [.int (nI i), .int (nI L)]) (rest := []) ⟨hx, hb, hml, hown, hts⟩ (jc_ci l a v L f _ i L hi hL) (va_cwS 2 hts (jgS jw_m_RJ1_9 jw_s_ci jw_n_RJ0 jws_ci_in) rfl rfl rfl ⟨by decide, by decide, by decide +kernel⟩ ⟨by decide, by decide⟩) ⟨jq_blind _ _ _ _ _ _, jpre hS hA hT hZ _⟩ rfl rfl hl.1 rfl (lv_room (Nat.le_of_ble_eq_true rfl)) jd_lcharAt_3 ⟨Nat.zero_le _, Nat.zero_le _⟩) hS (fun q h9 h => absurd h (Nat.not_le.mpr h9)) (fun q h => hA q (Nat.le_trans hS.1 h)) (fun _ t H locs ht hvm _ _ _ _ hS => ?_)
  refine lv_aload_n hx hb jd_lcharAt_6 rfl (lv_at hl 0 rfl) ?_
  refine lv_iload_n hx hb jd_lcharAt_7 rfl (lv_at hl 1 rfl) ?_
  refine va_tb hx hb hT.2.2.2 hS (vp_in_nI hi (by omega)) (v := .int (f i)) (by rw [nI_clamp (by omega)]) jd_lcharAt_8 ?_
  refine lv_sipush hx hb jd_lcharAt_9 (v := 255) (by decide) ?_
  refine lv_iand hx hb jd_lcharAt_12 ?_
  refine lv_i2c hx hb jd_lcharAt_13 rfl ?_
  exact W.zret hx hb hr (ty := .char) (by first | rfl | decide | assumption | exact pk_nc _) (fun t ht hW => ⟨⟨_, (), rfl, rfl, trivial⟩, hS.F ht⟩) hS.2.2 jd_lcharAt_14
set_option maxHeartbeats 4000000 in
theorem jc_charAt (l : Launch) (a v L : Nat) (f : Nat → Int32) (sz : Nat) (i : Nat) (hi : i < L) (hL : L < 2147483648) : Met l yJ0_charAt_5068e jws_charAt (jrm 3) (va_Pc [.ref a, .int (nI i)] (jq_B a v L f sz)) (jQ (((f i &&& 255).toUInt32 % 65536).toInt32) sz) 0 0 (fun q => sz ≤ q) := by
  refine Met.ofW (cc := cJ0_charAt_5068e) (maxL := 2) (ret := (some .char)) (by decide) rfl ?_
  intro p e s m args below meth c s₁ B hml hv
  obtain ⟨rfl, rfl, hT, hZ⟩ := hv
  have hx := B.exec
  have hb := B.bytes
  have hr := B.returns
  have hts0 := atoms_spec (ws := jws_charAt) B.pre
  have hts : ∀ w ∈ qAL, w.before _ s = true := fun w hw => hts0 w (List.mem_cons_of_mem _ hw)
  have hlocks := B.notSynchronized
  have hown : s.vm.findClass RJ0 = some m.cls := findClass_of_methodNamed B.named
  have hA : ∀ q : Nat, s.heap.size ≤ q → s.heap.size ≤ q := fun q h => h
  have hS : va_S (fun q => s.heap.size ≤ q) s.heap s.heap [] := va_S.rf
  have hl := lv_entry ([.ref a, .int (nI i)]) (n := 2) (Nat.le_of_ble_eq_true rfl)
  rw [lg_entry_eq]
  generalize (lg_sl ([.ref a, .int (nI i)]) ++ List.replicate (2 - (lg_sl ([.ref a, .int (nI i)])).length) Slot.unset).toArray = ls at hl ⊢
  have hl : lv_has ls 2 [(0, .ref a), (1, .int (nI i))] := hl
  refine lv_aload_n hx hb jd_charAt_0 rfl (lv_at hl 0 rfl) ?_
  refine va_calli (post := fun r (_ : Unit) => r = 1) (B := fun _ _ => True) (A1 := fun q => _ ≤ q) (va_runV (As := []) (rest := []) (b := a) (C := RJ0) ⟨hx, hb, hml, hown, hts⟩ (jc_isLatin1 l a v L f _ ) (cwV 0 hts (jgV jw_m_RJ0_492 jw_i_isLatin1 jw_v_isLatin1 jw_n_RJ0 jws_isLatin1_in) rfl rfl rfl ⟨rfl, by decide, by decide, by decide +kernel⟩ ⟨by decide, by decide⟩) ⟨jq_blind _ _ _ _ _ _, jrecv hS hT, jpre hS hA hT hZ _⟩ rfl rfl hl.1 rfl (lv_room (Nat.le_of_ble_eq_true rfl)) jd_charAt_1 ⟨Nat.zero_le _, Nat.zero_le _⟩) hS (fun q h9 h => absurd h (Nat.not_le.mpr h9)) (fun q h => hA q (Nat.le_trans hS.1 h)) (fun r _ t H locs ht hvm hr _ _ _ hS => ?_)
  subst hr
  refine lv_if_eq (tgt := 16) hx hb jd_charAt_4 rfl (fun h => absurd h (by decide)) (fun _ => ?_)
  refine lv_aload_n hx hb jd_charAt_7 rfl (lv_at hl 0 rfl) ?_
  refine vk_getf (o := "java/lang/String") (n := "value") (d := "[B") (own := RJ0) (ref := "java/lang/String") hx hb hT.2.2.1 hS hown (hts _ jw_f_RJ0_9) (fun _ h => h) jd_charAt_8 ?_
  refine lv_iload_n hx hb jd_charAt_11 rfl (lv_at hl 1 rfl) ?_
  refine va_calli (post := fun r (_ : Unit) => r = ((f i &&& 255).toUInt32 % 65536).toInt32) (B := fun _ _ => True) (A1 := fun q => _ ≤ q) (va_runS (As := [.ref v, .int (nI i)]) (rest := []) ⟨hx, hb, hml, hown, hts⟩ (jc_lcharAt l a v L f _ i hi hL) (va_cwS 2 hts (jgS jw_m_RJ0_495 jw_s_lcharAt jw_n_RJ1 jws_lcharAt_in) rfl rfl rfl ⟨by decide, by decide, by decide +kernel⟩ ⟨by decide, by decide⟩) ⟨jq_blind _ _ _ _ _ _, jpre hS hA hT hZ _⟩ rfl rfl hl.1 rfl (lv_room (Nat.le_of_ble_eq_true rfl)) jd_charAt_12 ⟨Nat.zero_le _, Nat.zero_le _⟩) hS (fun q h9 h => absurd h (Nat.not_le.mpr h9)) (fun q h => hA q (Nat.le_trans hS.1 h)) (fun r _ t H locs ht hvm hr _ _ _ hS => ?_)
  subst hr
  exact W.zret hx hb hr (ty := .char) (by first | rfl | decide | assumption | exact pk_nc _) (fun t ht hW => ⟨⟨_, (), rfl, rfl, trivial⟩, hS.F ht⟩) hS.2.2 jd_charAt_15
set_option maxHeartbeats 4000000 in
theorem jc_canEncode (l : Launch) (a v L : Nat) (f : Nat → Int32) (sz : Nat) (x : Int32) : Met l yJ1_canEncode_9a6ad jws_canEncode (jrm 0) (va_Pc [.int x] (jq_B a v L f sz)) (jQ (if x < 0 then 0 else if 255 < x then 0 else 1) sz) 0 0 (fun q => sz ≤ q) := by
  refine Met.ofW (cc := cJ1_canEncode_9a6ad) (maxL := 1) (ret := (some .boolean)) (by decide) rfl ?_
  intro p e s m args below meth c s₁ B hml hv
  obtain ⟨rfl, rfl, hT, hZ⟩ := hv
  have hx := B.exec
  have hb := B.bytes
  have hr := B.returns
  have hts0 := atoms_spec (ws := jws_canEncode) B.pre
  have hts : ∀ w ∈ qAL, w.before _ s = true := fun w hw => hts0 w (List.mem_cons_of_mem _ hw)
  have hlocks := B.notSynchronized
  have hown : s.vm.findClass RJ1 = some m.cls := findClass_of_methodNamed B.named
  have hA : ∀ q : Nat, s.heap.size ≤ q → s.heap.size ≤ q := fun q h => h
  have hS : va_S (fun q => s.heap.size ≤ q) s.heap s.heap [] := va_S.rf
  have hl := lv_entry ([.int x]) (n := 1) (Nat.le_of_ble_eq_true rfl)
  rw [lg_entry_eq]
  generalize (lg_sl ([.int x]) ++ List.replicate (1 - (lg_sl ([.int x])).length) Slot.unset).toArray = ls at hl ⊢
  have hl : lv_has ls 1 [(0, .int x)] := hl
  refine lv_iload_n hx hb jd_canEncode_0 rfl (lv_at hl 0 rfl) ?_
  refine lv_if_lt (tgt := 15) hx hb jd_canEncode_1 rfl (fun h => ?_) (fun h => ?_)
  · rw [if_pos h]
    refine lv_iconst hx hb jd_canEncode_15 rfl ?_
    exact W.zret hx hb hr (ty := .boolean) (by first | rfl | decide | assumption | exact pk_nc _) (fun t ht hW => ⟨⟨_, (), rfl, rfl, trivial⟩, hS.F ht⟩) hS.2.2 jd_canEncode_16
  · rw [if_neg h]
    refine lv_iload_n hx hb jd_canEncode_4 rfl (lv_at hl 0 rfl) ?_
    refine lv_sipush hx hb jd_canEncode_5 (v := 255) (by decide) ?_
    refine lv_icmp_gt (tgt := 15) hx hb jd_canEncode_8 rfl (fun h2 => ?_) (fun h2 => ?_)
    · rw [if_pos h2]
      refine lv_iconst hx hb jd_canEncode_15 rfl ?_
      exact W.zret hx hb hr (ty := .boolean) (by first | rfl | decide | assumption | exact pk_nc _) (fun t ht hW => ⟨⟨_, (), rfl, rfl, trivial⟩, hS.F ht⟩) hS.2.2 jd_canEncode_16
    · rw [if_neg h2]
      refine lv_iconst hx hb jd_canEncode_11 rfl ?_
      refine lv_goto (tgt := 16) hx hb jd_canEncode_12 rfl ?_
      exact W.zret hx hb hr (ty := .boolean) (by first | rfl | decide | assumption | exact pk_nc _) (fun t ht hW => ⟨⟨_, (), rfl, rfl, trivial⟩, hS.F ht⟩) hS.2.2 jd_canEncode_16
/-- where a byte stands first, from k on, n places -/
noncomputable def jix (f : Nat → Int32) (b : Int32) : Nat → Nat → Int32
  | 0, _ => -1
  | n + 1, k => if f k = b then nI k else jix f b n (k + 1)
set_option maxHeartbeats 4000000 in
theorem jc_ioc (l : Launch) (a v L : Nat) (f : Nat → Int32) (sz : Nat) (x : Int32) (hL : L < 2147483648) : Met l yJ1_indexOfChar_4cfef jws_ioc (jrm 0) (va_Pc [.ref v, .int x, .int (nI 0), .int (nI L)] (jq_B a v L f sz)) (jQ (jix f x.toInt8.toInt32 L 0) sz) 0 0 (fun q => sz ≤ q) := by
  refine Met.ofW (cc := cJ1_indexOfChar_4cfef) (maxL := 6) (ret := (some .int)) (by decide) rfl ?_
  intro p e s m args below meth c s₁ B hml hv
  obtain ⟨rfl, rfl, hT, hZ⟩ := hv
  have hx := B.exec
  have hb := B.bytes
  have hr := B.returns
  have hts0 := atoms_spec (ws := jws_ioc) B.pre
  have hts : ∀ w ∈ qAL, w.before _ s = true := fun w hw => hts0 w (List.mem_cons_of_mem _ hw)
  have hlocks := B.notSynchronized
  have hown : s.vm.findClass RJ1 = some m.cls := findClass_of_methodNamed B.named
  have hA : ∀ q : Nat, s.heap.size ≤ q → s.heap.size ≤ q := fun q h => h
  have hS : va_S (fun q => s.heap.size ≤ q) s.heap s.heap [] := va_S.rf
  have hl := lv_entry ([.ref v, .int x, .int (nI 0), .int (nI L)]) (n := 6) (Nat.le_of_ble_eq_true rfl)
  rw [lg_entry_eq]
  generalize (lg_sl ([.ref v, .int x, .int (nI 0), .int (nI L)]) ++ List.replicate (6 - (lg_sl ([.ref v, .int x, .int (nI 0), .int (nI L)])).length) Slot.unset).toArray = ls at hl ⊢
  have hl : lv_has ls 6 [(0, .ref v), (1, .int x), (2, .int (nI 0)), (3, .int (nI L))] := hl
  refine lv_iload_n hx hb jd_ioc_0 rfl (lv_at hl 1 rfl) ?_
  refine lv_i2b hx hb jd_ioc_1 rfl ?_
  refine lv_istore hx hb jd_ioc_2 hl (by decide) rfl (fun ls hl => ?_)
  have hl : lv_has ls 6 [(4, .int x.toInt8.toInt32), (0, .ref v), (1, .int x), (2, .int (nI 0)), (3, .int (nI L))] := hl
  refine lv_iload_n hx hb jd_ioc_4 rfl (lv_at hl 3 rfl) ?_
  refine lv_istore hx hb jd_ioc_5 hl (by decide) rfl (fun ls hl => ?_)
  have hl : lv_has ls 6 [(5, .int (nI 0)), (4, .int x.toInt8.toInt32), (0, .ref v), (1, .int x), (2, .int (nI 0)), (3, .int (nI L))] := hl
  have key : ∀ (n k : Nat) (ls : Array Slot), k + n = L → jix f x.toInt8.toInt32 L 0 = jix f x.toInt8.toInt32 n k → lv_has ls 6 [(5, .int (nI k)), (4, .int x.toInt8.toInt32), (0, .ref v), (1, .int x), (2, .int (nI 0)), (3, .int (nI L))] → W p l e (jrm 0) s m #[Value.ref v, Value.int x, Value.int (nI 0), Value.int (nI L)] below meth c s.heap [] 0 0 (MQ below (jQ (jix f x.toInt8.toInt32 L 0) s.heap.size) #[Value.ref v, Value.int x, Value.int (nI 0), Value.int (nI L)] s 0 0 (fun q => s.heap.size ≤ q)) (F0 m 7 ls []) := by
    intro n
    induction n with
    | zero =>
      intro k ls hk he hl
      refine lv_iload hx hb jd_ioc_7 (lv_at hl 0 rfl) ?_
      refine lv_iload_n hx hb jd_ioc_9 rfl (lv_at hl 5 rfl) ?_
      refine lv_icmp_ge (tgt := 31) hx hb jd_ioc_10 rfl (fun _ => ?_) (fun h => absurd (nI_le (by omega) (by omega)) h)
      refine lv_iconst hx hb jd_ioc_31 rfl ?_
      rw [he]
      exact W.zret hx hb hr (ty := .int) rfl (fun t ht hW => ⟨⟨_, (), rfl, rfl, trivial⟩, hS.F ht⟩) hS.2.2 jd_ioc_32
    | succ n ih =>
      intro k ls hk he hl
      refine lv_iload hx hb jd_ioc_7 (lv_at hl 0 rfl) ?_
      refine lv_iload_n hx hb jd_ioc_9 rfl (lv_at hl 5 rfl) ?_
      refine lv_icmp_ge (tgt := 31) hx hb jd_ioc_10 rfl (fun h => absurd h (nI_ge (by omega) (by omega))) (fun _ => ?_)
      refine lv_aload_n hx hb jd_ioc_13 rfl (lv_at hl 2 rfl) ?_
      refine lv_iload hx hb jd_ioc_14 (lv_at hl 0 rfl) ?_
      refine va_tb hx hb hT.2.2.2 hS (vp_in_nI (show k < L by omega) (by omega)) (v := .int (f k)) (by rw [nI_clamp (by omega)]) jd_ioc_16 ?_
      refine lv_iload hx hb jd_ioc_17 (lv_at hl 1 rfl) ?_
      refine lv_icmp_ne (tgt := 25) hx hb jd_ioc_19 rfl (fun h => ?_) (fun h => ?_)
      · refine lv_iinc hx hb jd_ioc_25 hl (k := 0) (v := nI (k + 1)) rfl (nI_1 k) (by decide) rfl (fun ls hl => ?_)
        have hl : lv_has ls 6 [(5, .int (nI (k + 1))), (4, .int x.toInt8.toInt32), (0, .ref v), (1, .int x), (2, .int (nI 0)), (3, .int (nI L))] := hl
        refine lv_goto (tgt := 7) hx hb jd_ioc_28 rfl ?_
        exact ih (k + 1) ls (by omega) (by rw [he]; exact if_neg h) hl
      · refine lv_iload hx hb jd_ioc_22 (lv_at hl 0 rfl) ?_
        rw [he, show jix f x.toInt8.toInt32 (n + 1) k = nI k from if_pos h]
        exact W.zret hx hb hr (ty := .int) rfl (fun t ht hW => ⟨⟨_, (), rfl, rfl, trivial⟩, hS.F ht⟩) hS.2.2 jd_ioc_24
  exact key L 0 ls (by omega) rfl hl
set_option maxHeartbeats 4000000 in
theorem jc_lio (l : Launch) (a v L : Nat) (f : Nat → Int32) (sz : Nat) (x : Int32) (hL : L < 2147483648) : Met l yJ1_indexOf_4cfef jws_lio (jrm 1) (va_Pc [.ref v, .int x, .int (nI 0), .int (nI L)] (jq_B a v L f sz)) (jQ (if x < 0 then -1 else if 255 < x then -1 else jix f x.toInt8.toInt32 L 0) sz) 0 0 (fun q => sz ≤ q) := by
  refine Met.ofW (cc := cJ1_indexOf_4cfef) (maxL := 4) (ret := (some .int)) (by decide) rfl ?_
  intro p e s m args below meth c s₁ B hml hv
  obtain ⟨rfl, rfl, hT, hZ⟩ := hv
  have hx := B.exec
  have hb := B.bytes
  have hr := B.returns
  have hts0 := atoms_spec (ws := jws_lio) B.pre
  have hts : ∀ w ∈ qAL, w.before _ s = true := fun w hw => hts0 w (List.mem_cons_of_mem _ hw)
  have hlocks := B.notSynchronized
  have hown : s.vm.findClass RJ1 = some m.cls := findClass_of_methodNamed B.named
  have hA : ∀ q : Nat, s.heap.size ≤ q → s.heap.size ≤ q := fun q h => h
  have hS : va_S (fun q => s.heap.size ≤ q) s.heap s.heap [] := va_S.rf
  have hl := lv_entry ([.ref v, .int x, .int (nI 0), .int (nI L)]) (n := 4) (Nat.le_of_ble_eq_true rfl)
  rw [lg_entry_eq]
  generalize (lg_sl ([.ref v, .int x, .int (nI 0), .int (nI L)]) ++ List.replicate (4 - (lg_sl ([.ref v, .int x, .int (nI 0), .int (nI L)])).length) Slot.unset).toArray = ls at hl ⊢
  have hl : lv_has ls 4 [(0, .ref v), (1, .int x), (2, .int (nI 0)), (3, .int (nI L))] := hl
  refine lv_iload_n hx hb jd_lio_0 rfl (lv_at hl 1 rfl) ?_
  refine va_calli (post := fun r (_ : Unit) => r = (if x < 0 then 0 else if 255 < x then 0 else 1)) (B := fun _ _ => True) (A1 := fun q => _ ≤ q) (va_runS (As := [.int x]) (rest := []) ⟨hx, hb, hml, hown, hts⟩ (jc_canEncode l a v L f _ x) (va_cwS 1 hts (jgS jw_m_RJ1_88 jw_s_canEncode jw_n_RJ1 jws_canEncode_in) rfl rfl rfl ⟨by decide, by decide, by decide +kernel⟩ ⟨by decide, by decide⟩) ⟨jq_blind _ _ _ _ _ _, jpre hS hA hT hZ _⟩ rfl rfl hl.1 rfl (lv_room (Nat.le_of_ble_eq_true rfl)) jd_lio_1 ⟨Nat.zero_le _, Nat.zero_le _⟩) hS (fun q h9 h => absurd h (Nat.not_le.mpr h9)) (fun q h => hA q (Nat.le_trans hS.1 h)) (fun r _ t H locs ht hvm hr _ _ _ hS => ?_)
  subst hr
  have neg : (if x < 0 then -1 else if 255 < x then -1 else jix f x.toInt8.toInt32 L 0) = -1 → W p l e (jrm 1) s m #[Value.ref v, Value.int x, Value.int (nI 0), Value.int (nI L)] below meth c H locs (0 + 0) (0 + 0) (MQ below (jQ (if x < 0 then -1 else if 255 < x then -1 else jix f x.toInt8.toInt32 L 0) s.heap.size) #[Value.ref v, Value.int x, Value.int (nI 0), Value.int (nI L)] s 0 0 (fun q => s.heap.size ≤ q)) (F0 m 7 ls []) := fun he => by
    refine lv_iconst hx hb jd_lio_7 rfl ?_
    rw [he]
    exact W.zret hx hb hr (ty := .int) (rfl) (fun t ht hW => ⟨⟨_, (), rfl, rfl, trivial⟩, hS.F ht⟩) hS.2.2 jd_lio_8
  by_cases h0 : x < 0
  · refine lv_if_ne (tgt := 9) hx hb jd_lio_4 rfl (fun h => absurd (if_pos h0) h) (fun _ => neg (if_pos h0))
  by_cases h1 : 255 < x
  · refine lv_if_ne (tgt := 9) hx hb jd_lio_4 rfl (fun h => absurd (by rw [if_neg h0, if_pos h1]) h) (fun _ => neg (by rw [if_neg h0, if_pos h1]))
  refine lv_if_ne (tgt := 9) hx hb jd_lio_4 rfl (fun _ => ?_) (fun h => absurd h (by rw [if_neg h0, if_neg h1]; decide))
  rw [if_neg h0, if_neg h1]
  refine lv_iload_n hx hb jd_lio_9 rfl (lv_at hl 2 rfl) ?_
  refine lv_iconst hx hb jd_lio_10 (v := nI 0) rfl ?_
  refine va_mmax hx hb (by rw [hml]; exact hl.1.symm) hown (hts _ jw_m_RJ1_92) (hts _ qwMs_max) (hts _ qwMi) (hts _ qwMc_max) (by decide) (Nat.le_of_ble_eq_true rfl) (Nat.le_refl 0) (Nat.le_refl 0) jd_lio_11 ?_
  rw [show (if nI 0 < nI 0 then nI 0 else nI 0) = nI 0 from by split <;> rfl]
  refine lv_istore_n hx hb jd_lio_14 rfl hl (by decide) rfl (fun ls hl => ?_)
  have hl : lv_has ls 4 [(2, .int (nI 0)), (0, .ref v), (1, .int x), (3, .int (nI L))] := hl
  refine lv_iload_n hx hb jd_lio_15 rfl (lv_at hl 3 rfl) ?_
  refine lv_aload_n hx hb jd_lio_16 rfl (lv_at hl 1 rfl) ?_
  refine va_tlen hx hb hT.2.2.2 hS (v := nI L) rfl jd_lio_17 ?_
  refine va_mmin hx hb (by rw [hml]; exact hl.1.symm) hown (hts _ jw_m_RJ1_38) (hts _ qwMs_min) (hts _ qwMi) (hts _ qwMc_min) (by decide) (Nat.le_of_ble_eq_true rfl) (Nat.le_refl 0) (Nat.le_refl 0) jd_lio_18 ?_
  rw [show (if nI L < nI L then nI L else nI L) = nI L from by split <;> rfl]
  refine lv_istore_n hx hb jd_lio_21 rfl hl (by decide) rfl (fun ls hl => ?_)
  have hl : lv_has ls 4 [(3, .int (nI L)), (2, .int (nI 0)), (0, .ref v), (1, .int x)] := hl
  refine lv_iload_n hx hb jd_lio_22 rfl (lv_at hl 1 rfl) ?_
  refine lv_iload_n hx hb jd_lio_23 rfl (lv_at hl 0 rfl) ?_
  refine lv_icmp_lt (tgt := 29) hx hb jd_lio_24 rfl (fun _ => ?_) (fun h => ?_)
  · refine lv_aload_n hx hb jd_lio_29 rfl (lv_at hl 2 rfl) ?_
    refine lv_iload_n hx hb jd_lio_30 rfl (lv_at hl 3 rfl) ?_
    refine lv_iload_n hx hb jd_lio_31 rfl (lv_at hl 1 rfl) ?_
    refine lv_iload_n hx hb jd_lio_32 rfl (lv_at hl 0 rfl) ?_
    refine va_calli (post := fun r (_ : Unit) => r = jix f x.toInt8.toInt32 L 0) (B := fun _ _ => True) (A1 := fun q => _ ≤ q) (va_runS (As := [.ref v, .int x, .int (nI 0), .int (nI L)]) (rest := []) ⟨hx, hb, hml, hown, hts⟩ (jc_ioc l a v L f _ x hL) (va_cwS 4 hts (jgS jw_m_RJ1_95 jw_s_ioc jw_n_RJ1 jws_ioc_in) rfl rfl rfl ⟨by decide, by decide, by decide +kernel⟩ ⟨by decide, by decide⟩) ⟨jq_blind _ _ _ _ _ _, jpre hS hA hT hZ _⟩ rfl rfl hl.1 rfl (lv_room (Nat.le_of_ble_eq_true rfl)) jd_lio_33 ⟨Nat.zero_le _, Nat.zero_le _⟩) hS (fun q h9 h => absurd h (Nat.not_le.mpr h9)) (fun q h => hA q (Nat.le_trans hS.1 h)) (fun r2 _ t H locs ht hvm hr2 _ _ _ hS => ?_)
    subst hr2
    exact W.zret hx hb hr (ty := .int) (rfl) (fun t ht hW => ⟨⟨_, (), rfl, rfl, trivial⟩, hS.F ht⟩) hS.2.2 jd_lio_36
  · have hL0 : L = 0 := Nat.eq_zero_of_not_pos (fun z => h (nI_lt z (by omega)))
    subst hL0
    refine lv_iconst hx hb jd_lio_27 rfl ?_
    exact W.zret hx hb hr (ty := .int) (rfl) (fun t ht hW => ⟨⟨_, (), rfl, rfl, trivial⟩, hS.F ht⟩) hS.2.2 jd_lio_28
set_option maxHeartbeats 4000000 in
theorem jc_io2 (l : Launch) (a v L : Nat) (f : Nat → Int32) (sz : Nat) (x : Int32) (hL : L < 2147483648) : Met l yJ0_indexOf_7cf53 jws_io2 (jrm 2) (va_Pc [.ref a, .int x, .int (nI 0)] (jq_B a v L f sz)) (jQ (if x < 0 then -1 else if 255 < x then -1 else jix f x.toInt8.toInt32 L 0) sz) 0 0 (fun q => sz ≤ q) := by
  refine Met.ofW (cc := cJ0_indexOf_7cf53) (maxL := 3) (ret := (some .int)) (by decide) rfl ?_
  intro p e s m args below meth c s₁ B hml hv
  obtain ⟨rfl, rfl, hT, hZ⟩ := hv
  have hx := B.exec
  have hb := B.bytes
  have hr := B.returns
  have hts0 := atoms_spec (ws := jws_io2) B.pre
  have hts : ∀ w ∈ qAL, w.before _ s = true := fun w hw => hts0 w (List.mem_cons_of_mem _ hw)
  have hlocks := B.notSynchronized
  have hown : s.vm.findClass RJ0 = some m.cls := findClass_of_methodNamed B.named
  have hA : ∀ q : Nat, s.heap.size ≤ q → s.heap.size ≤ q := fun q h => h
  have hS : va_S (fun q => s.heap.size ≤ q) s.heap s.heap [] := va_S.rf
  have hl := lv_entry ([.ref a, .int x, .int (nI 0)]) (n := 3) (Nat.le_of_ble_eq_true rfl)
  rw [lg_entry_eq]
  generalize (lg_sl ([.ref a, .int x, .int (nI 0)]) ++ List.replicate (3 - (lg_sl ([.ref a, .int x, .int (nI 0)])).length) Slot.unset).toArray = ls at hl ⊢
  have hl : lv_has ls 3 [(0, .ref a), (1, .int x), (2, .int (nI 0))] := hl
  refine lv_aload_n hx hb jd_io2_0 rfl (lv_at hl 0 rfl) ?_
  refine va_calli (post := fun r (_ : Unit) => r = 1) (B := fun _ _ => True) (A1 := fun q => _ ≤ q) (va_runV (As := []) (rest := []) (b := a) (C := RJ0) ⟨hx, hb, hml, hown, hts⟩ (jc_isLatin1 l a v L f _ ) (cwV 0 hts (jgV jw_m_RJ0_492 jw_i_isLatin1 jw_v_isLatin1 jw_n_RJ0 jws_isLatin1_in) rfl rfl rfl ⟨rfl, by decide, by decide, by decide +kernel⟩ ⟨by decide, by decide⟩) ⟨jq_blind _ _ _ _ _ _, jrecv hS hT, jpre hS hA hT hZ _⟩ rfl rfl hl.1 rfl (lv_room (Nat.le_of_ble_eq_true rfl)) jd_io2_1 ⟨Nat.zero_le _, Nat.zero_le _⟩) hS (fun q h9 h => absurd h (Nat.not_le.mpr h9)) (fun q h => hA q (Nat.le_trans hS.1 h)) (fun r _ t H locs ht hvm hr _ _ _ hS => ?_)
  subst hr
  refine lv_if_eq (tgt := 23) hx hb jd_io2_4 rfl (fun h => absurd h (by decide)) (fun _ => ?_)
  refine lv_aload_n hx hb jd_io2_7 rfl (lv_at hl 0 rfl) ?_
  refine vk_getf (o := "java/lang/String") (n := "value") (d := "[B") (own := RJ0) (ref := "java/lang/String") hx hb hT.2.2.1 hS hown (hts _ jw_f_RJ0_9) (fun _ h => h) jd_io2_8 ?_
  refine lv_iload_n hx hb jd_io2_11 rfl (lv_at hl 1 rfl) ?_
  refine lv_iload_n hx hb jd_io2_12 rfl (lv_at hl 2 rfl) ?_
  refine lv_aload_n hx hb jd_io2_13 rfl (lv_at hl 0 rfl) ?_
  refine va_calli (post := fun r (_ : Unit) => r = nI L) (B := fun _ _ => True) (A1 := fun q => _ ≤ q) (va_runV (As := []) (rest := [.int (nI 0), .int x, .ref v]) (b := a) (C := RJ0) ⟨hx, hb, hml, hown, hts⟩ (jc_length l a v L f _ hL) (cwV 0 hts (jgV jw_m_RJ0_505 jw_i_length jw_v_length jw_n_RJ0 jws_length_in) rfl rfl rfl ⟨rfl, by decide, by decide, by decide +kernel⟩ ⟨by decide, by decide⟩) ⟨jq_blind _ _ _ _ _ _, jrecv hS hT, jpre hS hA hT hZ _⟩ rfl rfl hl.1 rfl (lv_room (Nat.le_of_ble_eq_true rfl)) jd_io2_14 ⟨Nat.zero_le _, Nat.zero_le _⟩) hS (fun q h9 h => absurd h (Nat.not_le.mpr h9)) (fun q h => hA q (Nat.le_trans hS.1 h)) (fun r2 _ t H locs ht hvm hr2 _ _ _ hS => ?_)
  subst hr2
  refine va_calli (post := fun r (_ : Unit) => r = (if x < 0 then -1 else if 255 < x then -1 else jix f x.toInt8.toInt32 L 0)) (B := fun _ _ => True) (A1 := fun q => _ ≤ q) (va_runS (As := [.ref v, .int x, .int (nI 0), .int (nI L)]) (rest := []) ⟨hx, hb, hml, hown, hts⟩ (jc_lio l a v L f _ x hL) (va_cwS 4 hts (jgS jw_m_RJ0_637 jw_s_lio jw_n_RJ1 jws_lio_in) rfl rfl rfl ⟨by decide, by decide, by decide +kernel⟩ ⟨by decide, by decide⟩) ⟨jq_blind _ _ _ _ _ _, jpre hS hA hT hZ _⟩ rfl rfl hl.1 rfl (lv_room (Nat.le_of_ble_eq_true rfl)) jd_io2_17 ⟨Nat.zero_le _, Nat.zero_le _⟩) hS (fun q h9 h => absurd h (Nat.not_le.mpr h9)) (fun q h => hA q (Nat.le_trans hS.1 h)) (fun r3 _ t H locs ht hvm hr3 _ _ _ hS => ?_)
  subst hr3
  refine lv_goto (tgt := 36) hx hb jd_io2_20 rfl ?_
  exact W.zret hx hb hr (ty := .int) (rfl) (fun t ht hW => ⟨⟨_, (), rfl, rfl, trivial⟩, hS.F ht⟩) hS.2.2 jd_io2_36
set_option maxHeartbeats 4000000 in
theorem jc_io1 (l : Launch) (a v L : Nat) (f : Nat → Int32) (sz : Nat) (x : Int32) (hL : L < 2147483648) : Met l yJ0_indexOf_0f7a4 jws_io1 (jrm 3) (va_Pc [.ref a, .int x] (jq_B a v L f sz)) (jQ (if x < 0 then -1 else if 255 < x then -1 else jix f x.toInt8.toInt32 L 0) sz) 0 0 (fun q => sz ≤ q) := by
  refine Met.ofW (cc := cJ0_indexOf_0f7a4) (maxL := 2) (ret := (some .int)) (by decide) rfl ?_
  intro p e s m args below meth c s₁ B hml hv
  obtain ⟨rfl, rfl, hT, hZ⟩ := hv
  have hx := B.exec
  have hb := B.bytes
  have hr := B.returns
  have hts0 := atoms_spec (ws := jws_io1) B.pre
  have hts : ∀ w ∈ qAL, w.before _ s = true := fun w hw => hts0 w (List.mem_cons_of_mem _ hw)
  have hlocks := B.notSynchronized
  have hown : s.vm.findClass RJ0 = some m.cls := findClass_of_methodNamed B.named
  have hA : ∀ q : Nat, s.heap.size ≤ q → s.heap.size ≤ q := fun q h => h
  have hS : va_S (fun q => s.heap.size ≤ q) s.heap s.heap [] := va_S.rf
  have hl := lv_entry ([.ref a, .int x]) (n := 2) (Nat.le_of_ble_eq_true rfl)
  rw [lg_entry_eq]
  generalize (lg_sl ([.ref a, .int x]) ++ List.replicate (2 - (lg_sl ([.ref a, .int x])).length) Slot.unset).toArray = ls at hl ⊢
  have hl : lv_has ls 2 [(0, .ref a), (1, .int x)] := hl
  refine lv_aload_n hx hb jd_io1_0 rfl (lv_at hl 0 rfl) ?_
  refine lv_iload_n hx hb jd_io1_1 rfl (lv_at hl 1 rfl) ?_
  refine lv_iconst hx hb jd_io1_2 (v := nI 0) rfl ?_
  refine va_calli (post := fun r (_ : Unit) => r = (if x < 0 then -1 else if 255 < x then -1 else jix f x.toInt8.toInt32 L 0)) (B := fun _ _ => True) (A1 := fun q => _ ≤ q) (va_runV (As := [.int x, .int (nI 0)]) (rest := []) (b := a) (C := RJ0) ⟨hx, hb, hml, hown, hts⟩ (jc_io2 l a v L f _ x hL) (cwV 2 hts (jgV jw_m_RJ0_633 jw_i_io2 jw_v_io2 jw_n_RJ0 jws_io2_in) rfl rfl rfl ⟨rfl, by decide, by decide, by decide +kernel⟩ ⟨by decide, by decide⟩) ⟨jq_blind _ _ _ _ _ _, jrecv hS hT, jpre hS hA hT hZ _⟩ rfl rfl hl.1 rfl (lv_room (Nat.le_of_ble_eq_true rfl)) jd_io1_3 ⟨Nat.zero_le _, Nat.zero_le _⟩) hS (fun q h9 h => absurd h (Nat.not_le.mpr h9)) (fun q h => hA q (Nat.le_trans hS.1 h)) (fun r _ t H locs ht hvm hr _ _ _ hS => ?_)
  subst hr
  exact W.zret hx hb hr (ty := .int) (rfl) (fun t ht hW => ⟨⟨_, (), rfl, rfl, trivial⟩, hS.F ht⟩) hS.2.2 jd_io1_6
theorem qtc_all : qtc.all (fun l => Nat.blt l.length 100 && l.all (fun b => decide (0 ≤ b ∧ b ≤ 127))) = true := by decide +kernel
theorem qtc_in {i : Nat} {l : List Int} (h : qtc[i]? = some l) : l.length < 100 ∧ ∀ j, 0 ≤ l.getD j 0 ∧ l.getD j 0 ≤ 127 := by
  have := List.all_eq_true.mp qtc_all l (List.mem_of_getElem? h)
  rw [Bool.and_eq_true, Nat.blt_eq] at this
  refine ⟨this.1, fun j => ?_⟩
  rw [List.getD_eq_getElem?_getD]
  cases hq : l[j]? with
  | none => exact ⟨by decide, by decide⟩
  | some b => exact of_decide_eq_true (List.all_eq_true.mp this.2 b (List.mem_of_getElem? hq))
theorem qtxb_in {x : Int} {l : List Int} (h : qtxb x = some l) : 0 < x ∧ qtc[(x - 1).toNat]? = some l := by
  unfold qtxb at h
  by_cases c : x ≤ 0
  · rw [decide_eq_true c] at h; cases h
  · rw [decide_eq_false c] at h
    exact ⟨by omega, h⟩
theorem qch7n : ∀ n : Nat, n < 128 → (((Int32.ofInt (n : Int) &&& 255).toUInt32 % 65536).toInt32) = Int32.ofInt (n : Int) := by decide +kernel
theorem qch7 {b : Int} (h0 : 0 ≤ b) (h1 : b ≤ 127) : (((Int32.ofInt b &&& 255).toUInt32 % 65536).toInt32) = Int32.ofInt b := by
  have := qch7n b.toNat (by omega)
  rwa [show ((b.toNat : Nat) : Int) = b by omega] at this
theorem qix_in : ∀ (l : List Int) (c k : Int), 0 ≤ k → (k ≤ qix l c k ∧ qix l c k < k + l.length) ∨ qix l c k = -1
  | [], _, _, _ => Or.inr rfl
  | b :: l, c, k, hk => by
    unfold qix
    by_cases h : b = c
    · rw [if_pos h]; left; simp only [List.length_cons]; omega
    · rw [if_neg h]
      have := qix_in l c (k + 1) (by omega)
      simp only [List.length_cons]
      omega
theorem jix_ok {f : Nat → Int32} {b : Int32} {c : Int} : ∀ (l : List Int) (k : Nat), k + l.length < 1000 → (∀ j, j < l.length → (f (k + j) = b ↔ l.getD j 0 = c)) → jix f b l.length k = Int32.ofInt (qix l c k)
  | [], _, _, _ => rfl
  | a :: l, k, hk, h => by
    have h0 := h 0 (by simp)
    simp only [Nat.add_zero, List.getD_cons_zero] at h0
    show (if f k = b then nI k else jix f b l.length (k + 1)) = Int32.ofInt (if a = c then (k : Int) else qix l c ((k : Int) + 1))
    by_cases e : a = c
    · rw [if_pos (h0.mpr e), if_pos e, e_nat (by omega)]; rfl
    · rw [if_neg (fun z => e (h0.mp z)), if_neg e]
      have := jix_ok (f := f) (b := b) (c := c) l (k + 1) (by simp only [List.length_cons] at hk; omega) (fun j hj => by
        have := h (j + 1) (by simp only [List.length_cons]; omega)
        rw [List.getD_cons_succ, show k + (j + 1) = k + 1 + j by omega] at this
        exact this)
      rw [this, show ((k + 1 : Nat) : Int) = (k : Int) + 1 by omega]
theorem qix_out {c : Int} : ∀ (l : List Int) (k : Int), (∀ b ∈ l, ¬ b = c) → qix l c k = -1
  | [], _, _ => rfl
  | a :: l, k, h => by
    show (if a = c then k else qix l c (k + 1)) = -1
    rw [if_neg (h a List.mem_cons_self)]
    exact qix_out l (k + 1) (fun b hb => h b (List.mem_cons_of_mem _ hb))
theorem qix_ok {l : List Int} {c : Int} (hc : qi32 c) (h1 : l.length < 100) (h2 : ∀ j, 0 ≤ l.getD j 0 ∧ l.getD j 0 ≤ 127) : Int32.ofInt (qix l c 0) = (if Int32.ofInt c < 0 then -1 else if 255 < Int32.ofInt c then -1 else jix (qtf l) (Int32.ofInt c).toInt8.toInt32 l.length 0) := by
  have hm : ∀ b ∈ l, 0 ≤ b ∧ b ≤ 127 := fun b hb => by
    obtain ⟨j, hj, rfl⟩ := List.mem_iff_getElem.mp hb
    have := h2 j
    rwa [List.getD_eq_getElem?_getD, List.getElem?_eq_getElem hj, Option.getD_some] at this
  by_cases c0 : c < 0
  · rw [if_pos ((e_neg1 hc).mpr c0), qix_out l 0 (fun b hb => by have := hm b hb; omega)]; rfl
  rw [if_neg (fun z => c0 ((e_neg1 hc).mp z))]
  have e255 : (255 : Int32) < Int32.ofInt c ↔ 255 < c := e_lt (x := 255) ⟨by decide, by decide⟩ hc
  by_cases c1 : 255 < c
  · rw [if_pos (e255.mpr c1), qix_out l 0 (fun b hb => by have := hm b hb; omega)]; rfl
  rw [if_neg (fun z => c1 (e255.mp z))]
  have := jix_ok (f := qtf l) (b := (Int32.ofInt c).toInt8.toInt32) (c := c) l 0 (by omega) (fun j hj => by
    rw [e_i2b, Nat.zero_add]
    have hj := h2 j
    unfold qtf
    rw [e_eq ⟨by omega, by omega⟩ (by unfold qi2b; exact ⟨by omega, by omega⟩)]
    unfold qi2b
    omega)
  rw [this]; rfl
