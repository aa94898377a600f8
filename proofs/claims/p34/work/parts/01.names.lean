-- ===== PART A: goes FIRST, ahead of the names: the tables' words, and 'selects' of the private methods out of them =====
/-- a private method of a class that the tables say can be made, by its rows of tables_1 -/
noncomputable def lw_okq (q : MethodName × Nat) : Prop := (q.1.cls ≠ "java/lang/invoke/MethodHandle" ∧ q.1.cls ≠ "java/lang/invoke/VarHandle") ∧ Cond.instantiable q.1.cls q.2 ∈ tables_1 ∧ Cond.privateMethod q.1 ∈ tables_1 ∧ Cond.instanceMethod q.1 ∈ tables_1
theorem lw_p0 : lw_okq (⟨"WoodenTurk", "learnShow", "(I)I"⟩, 10) := ⟨⟨by decide +kernel, by decide +kernel⟩, List.mem_of_getElem? (i := 24) (by decide +kernel), List.mem_of_getElem? (i := 471) (by decide +kernel), List.mem_of_getElem? (i := 472) (by decide +kernel)⟩
theorem lw_p1 : lw_okq (⟨"WoodenTurk$Tape", "readToken", "(ILjava/lang/String;Ljava/lang/String;)I"⟩, 8) := ⟨⟨by decide +kernel, by decide +kernel⟩, List.mem_of_getElem? (i := 73) (by decide +kernel), List.mem_of_getElem? (i := 485) (by decide +kernel), List.mem_of_getElem? (i := 486) (by decide +kernel)⟩
theorem lw_p2 : lw_okq (⟨"WoodenTurk$Tape", "signAt", "(I)I"⟩, 8) := ⟨⟨by decide +kernel, by decide +kernel⟩, List.mem_of_getElem? (i := 73) (by decide +kernel), List.mem_of_getElem? (i := 489) (by decide +kernel), List.mem_of_getElem? (i := 490) (by decide +kernel)⟩
theorem lw_p3 : lw_okq (⟨"WoodenTurk$Tape", "letterEnd", "(I)I"⟩, 8) := ⟨⟨by decide +kernel, by decide +kernel⟩, List.mem_of_getElem? (i := 73) (by decide +kernel), List.mem_of_getElem? (i := 496) (by decide +kernel), List.mem_of_getElem? (i := 497) (by decide +kernel)⟩
theorem lw_p4 : lw_okq (⟨"WoodenTurk$Tape", "wordCode", "(Ljava/lang/String;II)I"⟩, 8) := ⟨⟨by decide +kernel, by decide +kernel⟩, List.mem_of_getElem? (i := 73) (by decide +kernel), List.mem_of_getElem? (i := 500) (by decide +kernel), List.mem_of_getElem? (i := 501) (by decide +kernel)⟩
theorem lw_p5 : lw_okq (⟨"WoodenTurk$Tape", "isSame", "(Ljava/lang/String;III)Z"⟩, 8) := ⟨⟨by decide +kernel, by decide +kernel⟩, List.mem_of_getElem? (i := 73) (by decide +kernel), List.mem_of_getElem? (i := 552) (by decide +kernel), List.mem_of_getElem? (i := 553) (by decide +kernel)⟩
theorem lw_p6 : lw_okq (⟨"WoodenTurk$Tape", "addToken", "(II)V"⟩, 8) := ⟨⟨by decide +kernel, by decide +kernel⟩, List.mem_of_getElem? (i := 73) (by decide +kernel), List.mem_of_getElem? (i := 556) (by decide +kernel), List.mem_of_getElem? (i := 557) (by decide +kernel)⟩
theorem lw_p7 : lw_okq (⟨"WoodenTurk$Tape", "digitEnd", "(I)I"⟩, 8) := ⟨⟨by decide +kernel, by decide +kernel⟩, List.mem_of_getElem? (i := 73) (by decide +kernel), List.mem_of_getElem? (i := 563) (by decide +kernel), List.mem_of_getElem? (i := 564) (by decide +kernel)⟩
theorem lw_p8 : lw_okq (⟨"WoodenTurk$Tape", "numberCode", "(II)I"⟩, 8) := ⟨⟨by decide +kernel, by decide +kernel⟩, List.mem_of_getElem? (i := 73) (by decide +kernel), List.mem_of_getElem? (i := 567) (by decide +kernel), List.mem_of_getElem? (i := 568) (by decide +kernel)⟩
theorem lw_p9 : lw_okq (⟨"WoodenTurk$Show", "learnStep", "(LWoodenTurk$Tape;)Z"⟩, 10) := ⟨⟨by decide +kernel, by decide +kernel⟩, List.mem_of_getElem? (i := 35) (by decide +kernel), List.mem_of_getElem? (i := 634) (by decide +kernel), List.mem_of_getElem? (i := 635) (by decide +kernel)⟩
theorem lw_p10 : lw_okq (⟨"WoodenTurk$Pamphlet", "keep", "(LWoodenTurk$Tape;I)V"⟩, 11) := ⟨⟨by decide +kernel, by decide +kernel⟩, List.mem_of_getElem? (i := 105) (by decide +kernel), List.mem_of_getElem? (i := 680) (by decide +kernel), List.mem_of_getElem? (i := 681) (by decide +kernel)⟩
theorem lw_p11 : lw_okq (⟨"WoodenTurk$Pamphlet", "checkReason", "(LWoodenTurk$Tape;I)Z"⟩, 11) := ⟨⟨by decide +kernel, by decide +kernel⟩, List.mem_of_getElem? (i := 105) (by decide +kernel), List.mem_of_getElem? (i := 693) (by decide +kernel), List.mem_of_getElem? (i := 694) (by decide +kernel)⟩
theorem lw_p12 : lw_okq (⟨"WoodenTurk$Poses", "findSets", "(LWoodenTurk$Chest;)V"⟩, 6) := ⟨⟨by decide +kernel, by decide +kernel⟩, List.mem_of_getElem? (i := 164) (by decide +kernel), List.mem_of_getElem? (i := 749) (by decide +kernel), List.mem_of_getElem? (i := 750) (by decide +kernel)⟩
theorem lw_p13 : lw_okq (⟨"WoodenTurk$Poses", "findMoves", "(LWoodenTurk$Chest;)V"⟩, 6) := ⟨⟨by decide +kernel, by decide +kernel⟩, List.mem_of_getElem? (i := 164) (by decide +kernel), List.mem_of_getElem? (i := 778) (by decide +kernel), List.mem_of_getElem? (i := 779) (by decide +kernel)⟩
theorem lw_p14 : lw_okq (⟨"WoodenTurk$Show", "takeStep", "(II)V"⟩, 10) := ⟨⟨by decide +kernel, by decide +kernel⟩, List.mem_of_getElem? (i := 35) (by decide +kernel), List.mem_of_getElem? (i := 804) (by decide +kernel), List.mem_of_getElem? (i := 805) (by decide +kernel)⟩
theorem lw_p15 : lw_okq (⟨"WoodenTurk$Show", "viewNow", "(LWoodenTurk$Chest;)I"⟩, 10) := ⟨⟨by decide +kernel, by decide +kernel⟩, List.mem_of_getElem? (i := 35) (by decide +kernel), List.mem_of_getElem? (i := 810) (by decide +kernel), List.mem_of_getElem? (i := 811) (by decide +kernel)⟩
noncomputable def lw_privs_1 : List (MethodName × Nat) := [(⟨"WoodenTurk", "learnShow", "(I)I"⟩, 10), (⟨"WoodenTurk$Tape", "readToken", "(ILjava/lang/String;Ljava/lang/String;)I"⟩, 8), (⟨"WoodenTurk$Tape", "signAt", "(I)I"⟩, 8), (⟨"WoodenTurk$Tape", "letterEnd", "(I)I"⟩, 8), (⟨"WoodenTurk$Tape", "wordCode", "(Ljava/lang/String;II)I"⟩, 8), (⟨"WoodenTurk$Tape", "isSame", "(Ljava/lang/String;III)Z"⟩, 8), (⟨"WoodenTurk$Tape", "addToken", "(II)V"⟩, 8), (⟨"WoodenTurk$Tape", "digitEnd", "(I)I"⟩, 8), (⟨"WoodenTurk$Tape", "numberCode", "(II)I"⟩, 8), (⟨"WoodenTurk$Show", "learnStep", "(LWoodenTurk$Tape;)Z"⟩, 10), (⟨"WoodenTurk$Pamphlet", "keep", "(LWoodenTurk$Tape;I)V"⟩, 11), (⟨"WoodenTurk$Pamphlet", "checkReason", "(LWoodenTurk$Tape;I)Z"⟩, 11), (⟨"WoodenTurk$Poses", "findSets", "(LWoodenTurk$Chest;)V"⟩, 6), (⟨"WoodenTurk$Poses", "findMoves", "(LWoodenTurk$Chest;)V"⟩, 6), (⟨"WoodenTurk$Show", "takeStep", "(II)V"⟩, 10), (⟨"WoodenTurk$Show", "viewNow", "(LWoodenTurk$Chest;)I"⟩, 10)]
theorem lw_r1 : ∀ q ∈ lw_privs_1, lw_okq q := List.forall_mem_cons.mpr ⟨lw_p0, List.forall_mem_cons.mpr ⟨lw_p1, List.forall_mem_cons.mpr ⟨lw_p2, List.forall_mem_cons.mpr ⟨lw_p3, List.forall_mem_cons.mpr ⟨lw_p4, List.forall_mem_cons.mpr ⟨lw_p5, List.forall_mem_cons.mpr ⟨lw_p6, List.forall_mem_cons.mpr ⟨lw_p7, List.forall_mem_cons.mpr ⟨lw_p8, List.forall_mem_cons.mpr ⟨lw_p9, List.forall_mem_cons.mpr ⟨lw_p10, List.forall_mem_cons.mpr ⟨lw_p11, List.forall_mem_cons.mpr ⟨lw_p12, List.forall_mem_cons.mpr ⟨lw_p13, List.forall_mem_cons.mpr ⟨lw_p14, List.forall_mem_cons.mpr ⟨lw_p15, fun _ h => absurd h List.not_mem_nil⟩⟩⟩⟩⟩⟩⟩⟩⟩⟩⟩⟩⟩⟩⟩⟩
theorem lw_p16 : lw_okq (⟨"WoodenTurk$Hiding", "stayUnseen", "(I)I"⟩, 16) := ⟨⟨by decide +kernel, by decide +kernel⟩, List.mem_of_getElem? (i := 158) (by decide +kernel), List.mem_of_getElem? (i := 876) (by decide +kernel), List.mem_of_getElem? (i := 877) (by decide +kernel)⟩
theorem lw_p17 : lw_okq (⟨"WoodenTurk$Hiding", "findGood", "(LWoodenTurk$Show;)V"⟩, 16) := ⟨⟨by decide +kernel, by decide +kernel⟩, List.mem_of_getElem? (i := 158) (by decide +kernel), List.mem_of_getElem? (i := 907) (by decide +kernel), List.mem_of_getElem? (i := 908) (by decide +kernel)⟩
theorem lw_p18 : lw_okq (⟨"WoodenTurk$Hiding", "writeGood", "(I[J)V"⟩, 16) := ⟨⟨by decide +kernel, by decide +kernel⟩, List.mem_of_getElem? (i := 158) (by decide +kernel), List.mem_of_getElem? (i := 911) (by decide +kernel), List.mem_of_getElem? (i := 912) (by decide +kernel)⟩
theorem lw_p19 : lw_okq (⟨"WoodenTurk$Hiding", "readGood", "(I[J)V"⟩, 16) := ⟨⟨by decide +kernel, by decide +kernel⟩, List.mem_of_getElem? (i := 158) (by decide +kernel), List.mem_of_getElem? (i := 923) (by decide +kernel), List.mem_of_getElem? (i := 924) (by decide +kernel)⟩
theorem lw_p20 : lw_okq (⟨"WoodenTurk$Hiding", "tryRows", "(III)V"⟩, 16) := ⟨⟨by decide +kernel, by decide +kernel⟩, List.mem_of_getElem? (i := 158) (by decide +kernel), List.mem_of_getElem? (i := 945) (by decide +kernel), List.mem_of_getElem? (i := 946) (by decide +kernel)⟩
theorem lw_p21 : lw_okq (⟨"WoodenTurk$Hiding", "keepIfBetter", "(II)V"⟩, 16) := ⟨⟨by decide +kernel, by decide +kernel⟩, List.mem_of_getElem? (i := 158) (by decide +kernel), List.mem_of_getElem? (i := 949) (by decide +kernel), List.mem_of_getElem? (i := 950) (by decide +kernel)⟩
theorem lw_p22 : lw_okq (⟨"WoodenTurk$Hiding", "tryDoor", "(IIII)V"⟩, 16) := ⟨⟨by decide +kernel, by decide +kernel⟩, List.mem_of_getElem? (i := 158) (by decide +kernel), List.mem_of_getElem? (i := 955) (by decide +kernel), List.mem_of_getElem? (i := 956) (by decide +kernel)⟩
theorem lw_p23 : lw_okq (⟨"WoodenTurk$Hiding", "passesDoor", "(I[J[J)Z"⟩, 16) := ⟨⟨by decide +kernel, by decide +kernel⟩, List.mem_of_getElem? (i := 158) (by decide +kernel), List.mem_of_getElem? (i := 959) (by decide +kernel), List.mem_of_getElem? (i := 960) (by decide +kernel)⟩
theorem lw_p24 : lw_okq (⟨"WoodenTurk", "learnFacts", "()V"⟩, 10) := ⟨⟨by decide +kernel, by decide +kernel⟩, List.mem_of_getElem? (i := 24) (by decide +kernel), List.mem_of_getElem? (i := 984) (by decide +kernel), List.mem_of_getElem? (i := 985) (by decide +kernel)⟩
theorem lw_p25 : lw_okq (⟨"WoodenTurk", "isManTrue", "()Z"⟩, 10) := ⟨⟨by decide +kernel, by decide +kernel⟩, List.mem_of_getElem? (i := 24) (by decide +kernel), List.mem_of_getElem? (i := 1005) (by decide +kernel), List.mem_of_getElem? (i := 1006) (by decide +kernel)⟩
theorem lw_p26 : lw_okq (⟨"WoodenTurk$Pamphlet", "code", "()I"⟩, 11) := ⟨⟨by decide +kernel, by decide +kernel⟩, List.mem_of_getElem? (i := 105) (by decide +kernel), List.mem_of_getElem? (i := 1013) (by decide +kernel), List.mem_of_getElem? (i := 1014) (by decide +kernel)⟩
theorem lw_p27 : lw_okq (⟨"WoodenTurk$Pamphlet", "choiceHolds", "(I)Z"⟩, 11) := ⟨⟨by decide +kernel, by decide +kernel⟩, List.mem_of_getElem? (i := 105) (by decide +kernel), List.mem_of_getElem? (i := 1017) (by decide +kernel), List.mem_of_getElem? (i := 1018) (by decide +kernel)⟩
theorem lw_p28 : lw_okq (⟨"WoodenTurk$Pamphlet", "conditionHolds", "(I)Z"⟩, 11) := ⟨⟨by decide +kernel, by decide +kernel⟩, List.mem_of_getElem? (i := 105) (by decide +kernel), List.mem_of_getElem? (i := 1021) (by decide +kernel), List.mem_of_getElem? (i := 1022) (by decide +kernel)⟩
theorem lw_p29 : lw_okq (⟨"WoodenTurk$Pamphlet", "takes", "(I)Z"⟩, 11) := ⟨⟨by decide +kernel, by decide +kernel⟩, List.mem_of_getElem? (i := 105) (by decide +kernel), List.mem_of_getElem? (i := 1025) (by decide +kernel), List.mem_of_getElem? (i := 1026) (by decide +kernel)⟩
theorem lw_p30 : lw_okq (⟨"WoodenTurk$Pamphlet", "comparisonHolds", "()Z"⟩, 11) := ⟨⟨by decide +kernel, by decide +kernel⟩, List.mem_of_getElem? (i := 105) (by decide +kernel), List.mem_of_getElem? (i := 1029) (by decide +kernel), List.mem_of_getElem? (i := 1030) (by decide +kernel)⟩
theorem lw_p31 : lw_okq (⟨"WoodenTurk$Sum", "append", "(I)V"⟩, 2) := ⟨⟨by decide +kernel, by decide +kernel⟩, List.mem_of_getElem? (i := 111) (by decide +kernel), List.mem_of_getElem? (i := 1037) (by decide +kernel), List.mem_of_getElem? (i := 1038) (by decide +kernel)⟩
noncomputable def lw_privs_2 : List (MethodName × Nat) := [(⟨"WoodenTurk$Hiding", "stayUnseen", "(I)I"⟩, 16), (⟨"WoodenTurk$Hiding", "findGood", "(LWoodenTurk$Show;)V"⟩, 16), (⟨"WoodenTurk$Hiding", "writeGood", "(I[J)V"⟩, 16), (⟨"WoodenTurk$Hiding", "readGood", "(I[J)V"⟩, 16), (⟨"WoodenTurk$Hiding", "tryRows", "(III)V"⟩, 16), (⟨"WoodenTurk$Hiding", "keepIfBetter", "(II)V"⟩, 16), (⟨"WoodenTurk$Hiding", "tryDoor", "(IIII)V"⟩, 16), (⟨"WoodenTurk$Hiding", "passesDoor", "(I[J[J)Z"⟩, 16), (⟨"WoodenTurk", "learnFacts", "()V"⟩, 10), (⟨"WoodenTurk", "isManTrue", "()Z"⟩, 10), (⟨"WoodenTurk$Pamphlet", "code", "()I"⟩, 11), (⟨"WoodenTurk$Pamphlet", "choiceHolds", "(I)Z"⟩, 11), (⟨"WoodenTurk$Pamphlet", "conditionHolds", "(I)Z"⟩, 11), (⟨"WoodenTurk$Pamphlet", "takes", "(I)Z"⟩, 11), (⟨"WoodenTurk$Pamphlet", "comparisonHolds", "()Z"⟩, 11), (⟨"WoodenTurk$Sum", "append", "(I)V"⟩, 2)]
theorem lw_r2 : ∀ q ∈ lw_privs_2, lw_okq q := List.forall_mem_cons.mpr ⟨lw_p16, List.forall_mem_cons.mpr ⟨lw_p17, List.forall_mem_cons.mpr ⟨lw_p18, List.forall_mem_cons.mpr ⟨lw_p19, List.forall_mem_cons.mpr ⟨lw_p20, List.forall_mem_cons.mpr ⟨lw_p21, List.forall_mem_cons.mpr ⟨lw_p22, List.forall_mem_cons.mpr ⟨lw_p23, List.forall_mem_cons.mpr ⟨lw_p24, List.forall_mem_cons.mpr ⟨lw_p25, List.forall_mem_cons.mpr ⟨lw_p26, List.forall_mem_cons.mpr ⟨lw_p27, List.forall_mem_cons.mpr ⟨lw_p28, List.forall_mem_cons.mpr ⟨lw_p29, List.forall_mem_cons.mpr ⟨lw_p30, List.forall_mem_cons.mpr ⟨lw_p31, fun _ h => absurd h List.not_mem_nil⟩⟩⟩⟩⟩⟩⟩⟩⟩⟩⟩⟩⟩⟩⟩⟩
theorem lw_p32 : lw_okq (⟨"WoodenTurk$Pamphlet", "addUp", "(LWoodenTurk$Sum;LWoodenTurk$Sum;)V"⟩, 11) := ⟨⟨by decide +kernel, by decide +kernel⟩, List.mem_of_getElem? (i := 105) (by decide +kernel), List.mem_of_getElem? (i := 1041) (by decide +kernel), List.mem_of_getElem? (i := 1042) (by decide +kernel)⟩
theorem lw_p33 : lw_okq (⟨"WoodenTurk$Pamphlet", "takeUnit", "()I"⟩, 11) := ⟨⟨by decide +kernel, by decide +kernel⟩, List.mem_of_getElem? (i := 105) (by decide +kernel), List.mem_of_getElem? (i := 1045) (by decide +kernel), List.mem_of_getElem? (i := 1046) (by decide +kernel)⟩
theorem lw_p34 : lw_okq (⟨"WoodenTurk$Sum", "dropEmptyParts", "()V"⟩, 2) := ⟨⟨by decide +kernel, by decide +kernel⟩, List.mem_of_getElem? (i := 111) (by decide +kernel), List.mem_of_getElem? (i := 1053) (by decide +kernel), List.mem_of_getElem? (i := 1054) (by decide +kernel)⟩
theorem lw_p35 : lw_okq (⟨"WoodenTurk$Sum", "partAt", "(I)I"⟩, 2) := ⟨⟨by decide +kernel, by decide +kernel⟩, List.mem_of_getElem? (i := 111) (by decide +kernel), List.mem_of_getElem? (i := 1067) (by decide +kernel), List.mem_of_getElem? (i := 1068) (by decide +kernel)⟩
theorem lw_p36 : lw_okq (⟨"WoodenTurk$Chest", "airInAMinute", "()I"⟩, 6) := ⟨⟨by decide +kernel, by decide +kernel⟩, List.mem_of_getElem? (i := 347) (by decide +kernel), List.mem_of_getElem? (i := 1093) (by decide +kernel), List.mem_of_getElem? (i := 1094) (by decide +kernel)⟩
theorem lw_p37 : lw_okq (⟨"WoodenTurk$Board", "countWrong", "()I"⟩, 3) := ⟨⟨by decide +kernel, by decide +kernel⟩, List.mem_of_getElem? (i := 241) (by decide +kernel), List.mem_of_getElem? (i := 1136) (by decide +kernel), List.mem_of_getElem? (i := 1137) (by decide +kernel)⟩
theorem lw_p38 : lw_okq (⟨"WoodenTurk$Board", "countOpen", "()I"⟩, 3) := ⟨⟨by decide +kernel, by decide +kernel⟩, List.mem_of_getElem? (i := 241) (by decide +kernel), List.mem_of_getElem? (i := 1140) (by decide +kernel), List.mem_of_getElem? (i := 1141) (by decide +kernel)⟩
theorem lw_p39 : lw_okq (⟨"WoodenTurk$Nights", "isMaster", "(I)Z"⟩, 14) := ⟨⟨by decide +kernel, by decide +kernel⟩, List.mem_of_getElem? (i := 258) (by decide +kernel), List.mem_of_getElem? (i := 1166) (by decide +kernel), List.mem_of_getElem? (i := 1167) (by decide +kernel)⟩
theorem lw_p40 : lw_okq (⟨"WoodenTurk$Nights", "isNight", "(I)Z"⟩, 14) := ⟨⟨by decide +kernel, by decide +kernel⟩, List.mem_of_getElem? (i := 258) (by decide +kernel), List.mem_of_getElem? (i := 1200) (by decide +kernel), List.mem_of_getElem? (i := 1201) (by decide +kernel)⟩
theorem lw_p41 : lw_okq (⟨"WoodenTurk$Nights", "weightOf", "(II)I"⟩, 14) := ⟨⟨by decide +kernel, by decide +kernel⟩, List.mem_of_getElem? (i := 258) (by decide +kernel), List.mem_of_getElem? (i := 1204) (by decide +kernel), List.mem_of_getElem? (i := 1205) (by decide +kernel)⟩
theorem lw_p42 : lw_okq (⟨"WoodenTurk$Nights", "canHaveBeenThere", "(II)Z"⟩, 14) := ⟨⟨by decide +kernel, by decide +kernel⟩, List.mem_of_getElem? (i := 258) (by decide +kernel), List.mem_of_getElem? (i := 1208) (by decide +kernel), List.mem_of_getElem? (i := 1209) (by decide +kernel)⟩
theorem lw_p43 : lw_okq (⟨"WoodenTurk$Nights", "startWeights", "()V"⟩, 14) := ⟨⟨by decide +kernel, by decide +kernel⟩, List.mem_of_getElem? (i := 258) (by decide +kernel), List.mem_of_getElem? (i := 1218) (by decide +kernel), List.mem_of_getElem? (i := 1219) (by decide +kernel)⟩
theorem lw_p44 : lw_okq (⟨"WoodenTurk$Nights", "multiplyWeights", "(I)V"⟩, 14) := ⟨⟨by decide +kernel, by decide +kernel⟩, List.mem_of_getElem? (i := 258) (by decide +kernel), List.mem_of_getElem? (i := 1222) (by decide +kernel), List.mem_of_getElem? (i := 1223) (by decide +kernel)⟩
theorem lw_p45 : lw_okq (⟨"WoodenTurk$Nights", "oddsOf", "(I)I"⟩, 14) := ⟨⟨by decide +kernel, by decide +kernel⟩, List.mem_of_getElem? (i := 258) (by decide +kernel), List.mem_of_getElem? (i := 1226) (by decide +kernel), List.mem_of_getElem? (i := 1227) (by decide +kernel)⟩
theorem lw_p46 : lw_okq (⟨"WoodenTurk$Nights", "shrinkWeights", "()V"⟩, 14) := ⟨⟨by decide +kernel, by decide +kernel⟩, List.mem_of_getElem? (i := 258) (by decide +kernel), List.mem_of_getElem? (i := 1239) (by decide +kernel), List.mem_of_getElem? (i := 1240) (by decide +kernel)⟩
theorem lw_p47 : lw_okq (⟨"WoodenTurk$Answers", "playedAlone", "()I"⟩, 5) := ⟨⟨by decide +kernel, by decide +kernel⟩, List.mem_of_getElem? (i := 307) (by decide +kernel), List.mem_of_getElem? (i := 1275) (by decide +kernel), List.mem_of_getElem? (i := 1276) (by decide +kernel)⟩
noncomputable def lw_privs_3 : List (MethodName × Nat) := [(⟨"WoodenTurk$Pamphlet", "addUp", "(LWoodenTurk$Sum;LWoodenTurk$Sum;)V"⟩, 11), (⟨"WoodenTurk$Pamphlet", "takeUnit", "()I"⟩, 11), (⟨"WoodenTurk$Sum", "dropEmptyParts", "()V"⟩, 2), (⟨"WoodenTurk$Sum", "partAt", "(I)I"⟩, 2), (⟨"WoodenTurk$Chest", "airInAMinute", "()I"⟩, 6), (⟨"WoodenTurk$Board", "countWrong", "()I"⟩, 3), (⟨"WoodenTurk$Board", "countOpen", "()I"⟩, 3), (⟨"WoodenTurk$Nights", "isMaster", "(I)Z"⟩, 14), (⟨"WoodenTurk$Nights", "isNight", "(I)Z"⟩, 14), (⟨"WoodenTurk$Nights", "weightOf", "(II)I"⟩, 14), (⟨"WoodenTurk$Nights", "canHaveBeenThere", "(II)Z"⟩, 14), (⟨"WoodenTurk$Nights", "startWeights", "()V"⟩, 14), (⟨"WoodenTurk$Nights", "multiplyWeights", "(I)V"⟩, 14), (⟨"WoodenTurk$Nights", "oddsOf", "(I)I"⟩, 14), (⟨"WoodenTurk$Nights", "shrinkWeights", "()V"⟩, 14), (⟨"WoodenTurk$Answers", "playedAlone", "()I"⟩, 5)]
theorem lw_r3 : ∀ q ∈ lw_privs_3, lw_okq q := List.forall_mem_cons.mpr ⟨lw_p32, List.forall_mem_cons.mpr ⟨lw_p33, List.forall_mem_cons.mpr ⟨lw_p34, List.forall_mem_cons.mpr ⟨lw_p35, List.forall_mem_cons.mpr ⟨lw_p36, List.forall_mem_cons.mpr ⟨lw_p37, List.forall_mem_cons.mpr ⟨lw_p38, List.forall_mem_cons.mpr ⟨lw_p39, List.forall_mem_cons.mpr ⟨lw_p40, List.forall_mem_cons.mpr ⟨lw_p41, List.forall_mem_cons.mpr ⟨lw_p42, List.forall_mem_cons.mpr ⟨lw_p43, List.forall_mem_cons.mpr ⟨lw_p44, List.forall_mem_cons.mpr ⟨lw_p45, List.forall_mem_cons.mpr ⟨lw_p46, List.forall_mem_cons.mpr ⟨lw_p47, fun _ h => absurd h List.not_mem_nil⟩⟩⟩⟩⟩⟩⟩⟩⟩⟩⟩⟩⟩⟩⟩⟩
theorem lw_p48 : lw_okq (⟨"WoodenTurk$Answers", "answerTo", "(I)I"⟩, 5) := ⟨⟨by decide +kernel, by decide +kernel⟩, List.mem_of_getElem? (i := 307) (by decide +kernel), List.mem_of_getElem? (i := 1279) (by decide +kernel), List.mem_of_getElem? (i := 1280) (by decide +kernel)⟩
theorem lw_p49 : lw_okq (⟨"WoodenTurk$Answers", "emptyGame", "()I"⟩, 5) := ⟨⟨by decide +kernel, by decide +kernel⟩, List.mem_of_getElem? (i := 307) (by decide +kernel), List.mem_of_getElem? (i := 1284) (by decide +kernel), List.mem_of_getElem? (i := 1285) (by decide +kernel)⟩
theorem lw_p50 : lw_okq (⟨"WoodenTurk$Writers", "wroteBefore", "(II)Z"⟩, 4) := ⟨⟨by decide +kernel, by decide +kernel⟩, List.mem_of_getElem? (i := 329) (by decide +kernel), List.mem_of_getElem? (i := 1313) (by decide +kernel), List.mem_of_getElem? (i := 1314) (by decide +kernel)⟩
theorem lw_p51 : lw_okq (⟨"WoodenTurk$Writers", "isWriter", "(I)Z"⟩, 4) := ⟨⟨by decide +kernel, by decide +kernel⟩, List.mem_of_getElem? (i := 329) (by decide +kernel), List.mem_of_getElem? (i := 1317) (by decide +kernel), List.mem_of_getElem? (i := 1318) (by decide +kernel)⟩
theorem lw_p52 : lw_okq (⟨"WoodenTurk$Writers", "copiedFrom", "(I)I"⟩, 4) := ⟨⟨by decide +kernel, by decide +kernel⟩, List.mem_of_getElem? (i := 329) (by decide +kernel), List.mem_of_getElem? (i := 1330) (by decide +kernel), List.mem_of_getElem? (i := 1331) (by decide +kernel)⟩
theorem lw_p53 : lw_okq (⟨"WoodenTurk$Writers", "walkLine", "(IZ)I"⟩, 4) := ⟨⟨by decide +kernel, by decide +kernel⟩, List.mem_of_getElem? (i := 329) (by decide +kernel), List.mem_of_getElem? (i := 1334) (by decide +kernel), List.mem_of_getElem? (i := 1335) (by decide +kernel)⟩
theorem lw_p54 : lw_okq (⟨"WoodenTurkModel", "findsPoses", "(II)V"⟩, 80) := ⟨⟨by decide +kernel, by decide +kernel⟩, List.mem_of_getElem? (i := 1338) (by decide +kernel), List.mem_of_getElem? (i := 1626) (by decide +kernel), List.mem_of_getElem? (i := 1627) (by decide +kernel)⟩
theorem lw_p55 : lw_okq (⟨"WoodenTurkModel", "hangs", "(II)Z"⟩, 80) := ⟨⟨by decide +kernel, by decide +kernel⟩, List.mem_of_getElem? (i := 1338) (by decide +kernel), List.mem_of_getElem? (i := 1634) (by decide +kernel), List.mem_of_getElem? (i := 1635) (by decide +kernel)⟩
theorem lw_p56 : lw_okq (⟨"WoodenTurkModel", "isPassage", "(III)Z"⟩, 80) := ⟨⟨by decide +kernel, by decide +kernel⟩, List.mem_of_getElem? (i := 1338) (by decide +kernel), List.mem_of_getElem? (i := 1638) (by decide +kernel), List.mem_of_getElem? (i := 1639) (by decide +kernel)⟩
theorem lw_p57 : lw_okq (⟨"WoodenTurkModel", "isMove", "(IIII)Z"⟩, 80) := ⟨⟨by decide +kernel, by decide +kernel⟩, List.mem_of_getElem? (i := 1338) (by decide +kernel), List.mem_of_getElem? (i := 1642) (by decide +kernel), List.mem_of_getElem? (i := 1643) (by decide +kernel)⟩
theorem lw_p58 : lw_okq (⟨"WoodenTurkModel", "next0", "()V"⟩, 80) := ⟨⟨by decide +kernel, by decide +kernel⟩, List.mem_of_getElem? (i := 1338) (by decide +kernel), List.mem_of_getElem? (i := 1658) (by decide +kernel), List.mem_of_getElem? (i := 1659) (by decide +kernel)⟩
theorem lw_p59 : lw_okq (⟨"WoodenTurkModel", "see", "(I)I"⟩, 80) := ⟨⟨by decide +kernel, by decide +kernel⟩, List.mem_of_getElem? (i := 1338) (by decide +kernel), List.mem_of_getElem? (i := 1662) (by decide +kernel), List.mem_of_getElem? (i := 1663) (by decide +kernel)⟩
theorem lw_p60 : lw_okq (⟨"WoodenTurkModel", "word", "()I"⟩, 80) := ⟨⟨by decide +kernel, by decide +kernel⟩, List.mem_of_getElem? (i := 1338) (by decide +kernel), List.mem_of_getElem? (i := 1669) (by decide +kernel), List.mem_of_getElem? (i := 1670) (by decide +kernel)⟩
theorem lw_p61 : lw_okq (⟨"WoodenTurkModel", "showWord", "()I"⟩, 80) := ⟨⟨by decide +kernel, by decide +kernel⟩, List.mem_of_getElem? (i := 1338) (by decide +kernel), List.mem_of_getElem? (i := 1673) (by decide +kernel), List.mem_of_getElem? (i := 1674) (by decide +kernel)⟩
theorem lw_p62 : lw_okq (⟨"WoodenTurkModel", "is", "(Ljava/lang/String;)Z"⟩, 80) := ⟨⟨by decide +kernel, by decide +kernel⟩, List.mem_of_getElem? (i := 1338) (by decide +kernel), List.mem_of_getElem? (i := 1678) (by decide +kernel), List.mem_of_getElem? (i := 1679) (by decide +kernel)⟩
theorem lw_p63 : lw_okq (⟨"WoodenTurkModel", "isSign", "(I)Z"⟩, 80) := ⟨⟨by decide +kernel, by decide +kernel⟩, List.mem_of_getElem? (i := 1338) (by decide +kernel), List.mem_of_getElem? (i := 1705) (by decide +kernel), List.mem_of_getElem? (i := 1706) (by decide +kernel)⟩
noncomputable def lw_privs_4 : List (MethodName × Nat) := [(⟨"WoodenTurk$Answers", "answerTo", "(I)I"⟩, 5), (⟨"WoodenTurk$Answers", "emptyGame", "()I"⟩, 5), (⟨"WoodenTurk$Writers", "wroteBefore", "(II)Z"⟩, 4), (⟨"WoodenTurk$Writers", "isWriter", "(I)Z"⟩, 4), (⟨"WoodenTurk$Writers", "copiedFrom", "(I)I"⟩, 4), (⟨"WoodenTurk$Writers", "walkLine", "(IZ)I"⟩, 4), (⟨"WoodenTurkModel", "findsPoses", "(II)V"⟩, 80), (⟨"WoodenTurkModel", "hangs", "(II)Z"⟩, 80), (⟨"WoodenTurkModel", "isPassage", "(III)Z"⟩, 80), (⟨"WoodenTurkModel", "isMove", "(IIII)Z"⟩, 80), (⟨"WoodenTurkModel", "next0", "()V"⟩, 80), (⟨"WoodenTurkModel", "see", "(I)I"⟩, 80), (⟨"WoodenTurkModel", "word", "()I"⟩, 80), (⟨"WoodenTurkModel", "showWord", "()I"⟩, 80), (⟨"WoodenTurkModel", "is", "(Ljava/lang/String;)Z"⟩, 80), (⟨"WoodenTurkModel", "isSign", "(I)Z"⟩, 80)]
theorem lw_r4 : ∀ q ∈ lw_privs_4, lw_okq q := List.forall_mem_cons.mpr ⟨lw_p48, List.forall_mem_cons.mpr ⟨lw_p49, List.forall_mem_cons.mpr ⟨lw_p50, List.forall_mem_cons.mpr ⟨lw_p51, List.forall_mem_cons.mpr ⟨lw_p52, List.forall_mem_cons.mpr ⟨lw_p53, List.forall_mem_cons.mpr ⟨lw_p54, List.forall_mem_cons.mpr ⟨lw_p55, List.forall_mem_cons.mpr ⟨lw_p56, List.forall_mem_cons.mpr ⟨lw_p57, List.forall_mem_cons.mpr ⟨lw_p58, List.forall_mem_cons.mpr ⟨lw_p59, List.forall_mem_cons.mpr ⟨lw_p60, List.forall_mem_cons.mpr ⟨lw_p61, List.forall_mem_cons.mpr ⟨lw_p62, List.forall_mem_cons.mpr ⟨lw_p63, fun _ h => absurd h List.not_mem_nil⟩⟩⟩⟩⟩⟩⟩⟩⟩⟩⟩⟩⟩⟩⟩⟩
theorem lw_p64 : lw_okq (⟨"WoodenTurkModel", "aStep", "()Z"⟩, 80) := ⟨⟨by decide +kernel, by decide +kernel⟩, List.mem_of_getElem? (i := 1338) (by decide +kernel), List.mem_of_getElem? (i := 1709) (by decide +kernel), List.mem_of_getElem? (i := 1710) (by decide +kernel)⟩
theorem lw_p65 : lw_okq (⟨"WoodenTurkModel", "bad", "(I)Z"⟩, 80) := ⟨⟨by decide +kernel, by decide +kernel⟩, List.mem_of_getElem? (i := 1338) (by decide +kernel), List.mem_of_getElem? (i := 1713) (by decide +kernel), List.mem_of_getElem? (i := 1714) (by decide +kernel)⟩
theorem lw_p66 : lw_okq (⟨"WoodenTurkModel", "number", "(II)Z"⟩, 80) := ⟨⟨by decide +kernel, by decide +kernel⟩, List.mem_of_getElem? (i := 1338) (by decide +kernel), List.mem_of_getElem? (i := 1717) (by decide +kernel), List.mem_of_getElem? (i := 1718) (by decide +kernel)⟩
theorem lw_p67 : lw_okq (⟨"WoodenTurkModel", "need", "(I)Z"⟩, 80) := ⟨⟨by decide +kernel, by decide +kernel⟩, List.mem_of_getElem? (i := 1338) (by decide +kernel), List.mem_of_getElem? (i := 1721) (by decide +kernel), List.mem_of_getElem? (i := 1722) (by decide +kernel)⟩
theorem lw_p68 : lw_okq (⟨"WoodenTurkModel", "aReason", "()Z"⟩, 80) := ⟨⟨by decide +kernel, by decide +kernel⟩, List.mem_of_getElem? (i := 1338) (by decide +kernel), List.mem_of_getElem? (i := 1725) (by decide +kernel), List.mem_of_getElem? (i := 1726) (by decide +kernel)⟩
theorem lw_p69 : lw_okq (⟨"WoodenTurkModel", "any", "()Z"⟩, 80) := ⟨⟨by decide +kernel, by decide +kernel⟩, List.mem_of_getElem? (i := 1338) (by decide +kernel), List.mem_of_getElem? (i := 1729) (by decide +kernel), List.mem_of_getElem? (i := 1730) (by decide +kernel)⟩
theorem lw_p70 : lw_okq (⟨"WoodenTurkModel", "every", "()Z"⟩, 80) := ⟨⟨by decide +kernel, by decide +kernel⟩, List.mem_of_getElem? (i := 1338) (by decide +kernel), List.mem_of_getElem? (i := 1733) (by decide +kernel), List.mem_of_getElem? (i := 1734) (by decide +kernel)⟩
theorem lw_p71 : lw_okq (⟨"WoodenTurkModel", "one", "()Z"⟩, 80) := ⟨⟨by decide +kernel, by decide +kernel⟩, List.mem_of_getElem? (i := 1338) (by decide +kernel), List.mem_of_getElem? (i := 1737) (by decide +kernel), List.mem_of_getElem? (i := 1738) (by decide +kernel)⟩
theorem lw_p72 : lw_okq (⟨"WoodenTurkModel", "opens", "()Z"⟩, 80) := ⟨⟨by decide +kernel, by decide +kernel⟩, List.mem_of_getElem? (i := 1338) (by decide +kernel), List.mem_of_getElem? (i := 1741) (by decide +kernel), List.mem_of_getElem? (i := 1742) (by decide +kernel)⟩
theorem lw_p73 : lw_okq (⟨"WoodenTurkModel", "lay", "(II)V"⟩, 80) := ⟨⟨by decide +kernel, by decide +kernel⟩, List.mem_of_getElem? (i := 1338) (by decide +kernel), List.mem_of_getElem? (i := 1745) (by decide +kernel), List.mem_of_getElem? (i := 1746) (by decide +kernel)⟩
theorem lw_p74 : lw_okq (⟨"WoodenTurkModel", "sumUp", "()Z"⟩, 80) := ⟨⟨by decide +kernel, by decide +kernel⟩, List.mem_of_getElem? (i := 1338) (by decide +kernel), List.mem_of_getElem? (i := 1749) (by decide +kernel), List.mem_of_getElem? (i := 1750) (by decide +kernel)⟩
theorem lw_p75 : lw_okq (⟨"WoodenTurkModel", "product", "()Z"⟩, 80) := ⟨⟨by decide +kernel, by decide +kernel⟩, List.mem_of_getElem? (i := 1338) (by decide +kernel), List.mem_of_getElem? (i := 1753) (by decide +kernel), List.mem_of_getElem? (i := 1754) (by decide +kernel)⟩
theorem lw_p76 : lw_okq (⟨"WoodenTurkModel", "unit", "()Z"⟩, 80) := ⟨⟨by decide +kernel, by decide +kernel⟩, List.mem_of_getElem? (i := 1338) (by decide +kernel), List.mem_of_getElem? (i := 1757) (by decide +kernel), List.mem_of_getElem? (i := 1758) (by decide +kernel)⟩
theorem lw_p77 : lw_okq (⟨"WoodenTurkModel", "keepsShow", "(I)V"⟩, 80) := ⟨⟨by decide +kernel, by decide +kernel⟩, List.mem_of_getElem? (i := 1338) (by decide +kernel), List.mem_of_getElem? (i := 1761) (by decide +kernel), List.mem_of_getElem? (i := 1762) (by decide +kernel)⟩
theorem lw_p78 : lw_okq (⟨"WoodenTurkModel", "keepsReasons", "()V"⟩, 80) := ⟨⟨by decide +kernel, by decide +kernel⟩, List.mem_of_getElem? (i := 1338) (by decide +kernel), List.mem_of_getElem? (i := 1765) (by decide +kernel), List.mem_of_getElem? (i := 1766) (by decide +kernel)⟩
theorem lw_p79 : lw_okq (⟨"WoodenTurkModel", "shows", "(II)V"⟩, 80) := ⟨⟨by decide +kernel, by decide +kernel⟩, List.mem_of_getElem? (i := 1338) (by decide +kernel), List.mem_of_getElem? (i := 1780) (by decide +kernel), List.mem_of_getElem? (i := 1781) (by decide +kernel)⟩
noncomputable def lw_privs_5 : List (MethodName × Nat) := [(⟨"WoodenTurkModel", "aStep", "()Z"⟩, 80), (⟨"WoodenTurkModel", "bad", "(I)Z"⟩, 80), (⟨"WoodenTurkModel", "number", "(II)Z"⟩, 80), (⟨"WoodenTurkModel", "need", "(I)Z"⟩, 80), (⟨"WoodenTurkModel", "aReason", "()Z"⟩, 80), (⟨"WoodenTurkModel", "any", "()Z"⟩, 80), (⟨"WoodenTurkModel", "every", "()Z"⟩, 80), (⟨"WoodenTurkModel", "one", "()Z"⟩, 80), (⟨"WoodenTurkModel", "opens", "()Z"⟩, 80), (⟨"WoodenTurkModel", "lay", "(II)V"⟩, 80), (⟨"WoodenTurkModel", "sumUp", "()Z"⟩, 80), (⟨"WoodenTurkModel", "product", "()Z"⟩, 80), (⟨"WoodenTurkModel", "unit", "()Z"⟩, 80), (⟨"WoodenTurkModel", "keepsShow", "(I)V"⟩, 80), (⟨"WoodenTurkModel", "keepsReasons", "()V"⟩, 80), (⟨"WoodenTurkModel", "shows", "(II)V"⟩, 80)]
theorem lw_r5 : ∀ q ∈ lw_privs_5, lw_okq q := List.forall_mem_cons.mpr ⟨lw_p64, List.forall_mem_cons.mpr ⟨lw_p65, List.forall_mem_cons.mpr ⟨lw_p66, List.forall_mem_cons.mpr ⟨lw_p67, List.forall_mem_cons.mpr ⟨lw_p68, List.forall_mem_cons.mpr ⟨lw_p69, List.forall_mem_cons.mpr ⟨lw_p70, List.forall_mem_cons.mpr ⟨lw_p71, List.forall_mem_cons.mpr ⟨lw_p72, List.forall_mem_cons.mpr ⟨lw_p73, List.forall_mem_cons.mpr ⟨lw_p74, List.forall_mem_cons.mpr ⟨lw_p75, List.forall_mem_cons.mpr ⟨lw_p76, List.forall_mem_cons.mpr ⟨lw_p77, List.forall_mem_cons.mpr ⟨lw_p78, List.forall_mem_cons.mpr ⟨lw_p79, fun _ h => absurd h List.not_mem_nil⟩⟩⟩⟩⟩⟩⟩⟩⟩⟩⟩⟩⟩⟩⟩⟩
theorem lw_p80 : lw_okq (⟨"WoodenTurkModel", "begins", "()V"⟩, 80) := ⟨⟨by decide +kernel, by decide +kernel⟩, List.mem_of_getElem? (i := 1338) (by decide +kernel), List.mem_of_getElem? (i := 1784) (by decide +kernel), List.mem_of_getElem? (i := 1785) (by decide +kernel)⟩
theorem lw_p81 : lw_okq (⟨"WoodenTurkModel", "does", "(III)V"⟩, 80) := ⟨⟨by decide +kernel, by decide +kernel⟩, List.mem_of_getElem? (i := 1338) (by decide +kernel), List.mem_of_getElem? (i := 1788) (by decide +kernel), List.mem_of_getElem? (i := 1789) (by decide +kernel)⟩
theorem lw_p82 : lw_okq (⟨"WoodenTurkModel", "sees", "(I)I"⟩, 80) := ⟨⟨by decide +kernel, by decide +kernel⟩, List.mem_of_getElem? (i := 1338) (by decide +kernel), List.mem_of_getElem? (i := 1792) (by decide +kernel), List.mem_of_getElem? (i := 1793) (by decide +kernel)⟩
theorem lw_p83 : lw_okq (⟨"WoodenTurkModel", "through", "(IIZ)I"⟩, 80) := ⟨⟨by decide +kernel, by decide +kernel⟩, List.mem_of_getElem? (i := 1338) (by decide +kernel), List.mem_of_getElem? (i := 1796) (by decide +kernel), List.mem_of_getElem? (i := 1797) (by decide +kernel)⟩
theorem lw_p84 : lw_okq (⟨"WoodenTurkModel", "hides", "(II)I"⟩, 80) := ⟨⟨by decide +kernel, by decide +kernel⟩, List.mem_of_getElem? (i := 1338) (by decide +kernel), List.mem_of_getElem? (i := 1808) (by decide +kernel), List.mem_of_getElem? (i := 1809) (by decide +kernel)⟩
theorem lw_p85 : lw_okq (⟨"WoodenTurkModel", "leadsBack", "()V"⟩, 80) := ⟨⟨by decide +kernel, by decide +kernel⟩, List.mem_of_getElem? (i := 1338) (by decide +kernel), List.mem_of_getElem? (i := 1816) (by decide +kernel), List.mem_of_getElem? (i := 1817) (by decide +kernel)⟩
theorem lw_p86 : lw_okq (⟨"WoodenTurkModel", "isGoing", "(II)Z"⟩, 80) := ⟨⟨by decide +kernel, by decide +kernel⟩, List.mem_of_getElem? (i := 1338) (by decide +kernel), List.mem_of_getElem? (i := 1820) (by decide +kernel), List.mem_of_getElem? (i := 1821) (by decide +kernel)⟩
theorem lw_p87 : lw_okq (⟨"WoodenTurkModel", "tries", "(IIIIII)V"⟩, 80) := ⟨⟨by decide +kernel, by decide +kernel⟩, List.mem_of_getElem? (i := 1338) (by decide +kernel), List.mem_of_getElem? (i := 1828) (by decide +kernel), List.mem_of_getElem? (i := 1829) (by decide +kernel)⟩
theorem lw_p88 : lw_okq (⟨"WoodenTurkModel", "isMan", "()Z"⟩, 80) := ⟨⟨by decide +kernel, by decide +kernel⟩, List.mem_of_getElem? (i := 1338) (by decide +kernel), List.mem_of_getElem? (i := 1840) (by decide +kernel), List.mem_of_getElem? (i := 1841) (by decide +kernel)⟩
theorem lw_p89 : lw_okq (⟨"WoodenTurkModel", "weighs", "(IZ)I"⟩, 80) := ⟨⟨by decide +kernel, by decide +kernel⟩, List.mem_of_getElem? (i := 1338) (by decide +kernel), List.mem_of_getElem? (i := 1844) (by decide +kernel), List.mem_of_getElem? (i := 1845) (by decide +kernel)⟩
theorem lw_p90 : lw_okq (⟨"WoodenTurkModel", "comesTo", "(II)I"⟩, 80) := ⟨⟨by decide +kernel, by decide +kernel⟩, List.mem_of_getElem? (i := 1338) (by decide +kernel), List.mem_of_getElem? (i := 1848) (by decide +kernel), List.mem_of_getElem? (i := 1849) (by decide +kernel)⟩
theorem lw_p91 : lw_okq (⟨"WoodenTurkModel", "fact", "(II)I"⟩, 80) := ⟨⟨by decide +kernel, by decide +kernel⟩, List.mem_of_getElem? (i := 1338) (by decide +kernel), List.mem_of_getElem? (i := 1852) (by decide +kernel), List.mem_of_getElem? (i := 1853) (by decide +kernel)⟩
theorem lw_p92 : lw_okq (⟨"WoodenTurkModel", "airOf", "(I)I"⟩, 80) := ⟨⟨by decide +kernel, by decide +kernel⟩, List.mem_of_getElem? (i := 1338) (by decide +kernel), List.mem_of_getElem? (i := 1856) (by decide +kernel), List.mem_of_getElem? (i := 1857) (by decide +kernel)⟩
theorem lw_p93 : lw_okq (⟨"WoodenTurkModel", "isMaster", "(I)Z"⟩, 80) := ⟨⟨by decide +kernel, by decide +kernel⟩, List.mem_of_getElem? (i := 1338) (by decide +kernel), List.mem_of_getElem? (i := 1898) (by decide +kernel), List.mem_of_getElem? (i := 1899) (by decide +kernel)⟩
theorem lw_p94 : lw_okq (⟨"WoodenTurkModel", "weight", "(II)I"⟩, 80) := ⟨⟨by decide +kernel, by decide +kernel⟩, List.mem_of_getElem? (i := 1338) (by decide +kernel), List.mem_of_getElem? (i := 1914) (by decide +kernel), List.mem_of_getElem? (i := 1915) (by decide +kernel)⟩
theorem lw_p95 : lw_okq (⟨"WoodenTurkModel", "mayBe", "(II)Z"⟩, 80) := ⟨⟨by decide +kernel, by decide +kernel⟩, List.mem_of_getElem? (i := 1338) (by decide +kernel), List.mem_of_getElem? (i := 1918) (by decide +kernel), List.mem_of_getElem? (i := 1919) (by decide +kernel)⟩
noncomputable def lw_privs_6 : List (MethodName × Nat) := [(⟨"WoodenTurkModel", "begins", "()V"⟩, 80), (⟨"WoodenTurkModel", "does", "(III)V"⟩, 80), (⟨"WoodenTurkModel", "sees", "(I)I"⟩, 80), (⟨"WoodenTurkModel", "through", "(IIZ)I"⟩, 80), (⟨"WoodenTurkModel", "hides", "(II)I"⟩, 80), (⟨"WoodenTurkModel", "leadsBack", "()V"⟩, 80), (⟨"WoodenTurkModel", "isGoing", "(II)Z"⟩, 80), (⟨"WoodenTurkModel", "tries", "(IIIIII)V"⟩, 80), (⟨"WoodenTurkModel", "isMan", "()Z"⟩, 80), (⟨"WoodenTurkModel", "weighs", "(IZ)I"⟩, 80), (⟨"WoodenTurkModel", "comesTo", "(II)I"⟩, 80), (⟨"WoodenTurkModel", "fact", "(II)I"⟩, 80), (⟨"WoodenTurkModel", "airOf", "(I)I"⟩, 80), (⟨"WoodenTurkModel", "isMaster", "(I)Z"⟩, 80), (⟨"WoodenTurkModel", "weight", "(II)I"⟩, 80), (⟨"WoodenTurkModel", "mayBe", "(II)Z"⟩, 80)]
theorem lw_r6 : ∀ q ∈ lw_privs_6, lw_okq q := List.forall_mem_cons.mpr ⟨lw_p80, List.forall_mem_cons.mpr ⟨lw_p81, List.forall_mem_cons.mpr ⟨lw_p82, List.forall_mem_cons.mpr ⟨lw_p83, List.forall_mem_cons.mpr ⟨lw_p84, List.forall_mem_cons.mpr ⟨lw_p85, List.forall_mem_cons.mpr ⟨lw_p86, List.forall_mem_cons.mpr ⟨lw_p87, List.forall_mem_cons.mpr ⟨lw_p88, List.forall_mem_cons.mpr ⟨lw_p89, List.forall_mem_cons.mpr ⟨lw_p90, List.forall_mem_cons.mpr ⟨lw_p91, List.forall_mem_cons.mpr ⟨lw_p92, List.forall_mem_cons.mpr ⟨lw_p93, List.forall_mem_cons.mpr ⟨lw_p94, List.forall_mem_cons.mpr ⟨lw_p95, fun _ h => absurd h List.not_mem_nil⟩⟩⟩⟩⟩⟩⟩⟩⟩⟩⟩⟩⟩⟩⟩⟩
theorem lw_p96 : lw_okq (⟨"WoodenTurkModel", "answer", "(I)I"⟩, 80) := ⟨⟨by decide +kernel, by decide +kernel⟩, List.mem_of_getElem? (i := 1338) (by decide +kernel), List.mem_of_getElem? (i := 1940) (by decide +kernel), List.mem_of_getElem? (i := 1941) (by decide +kernel)⟩
theorem lw_p97 : lw_okq (⟨"WoodenTurkModel", "isAhead", "(II)Z"⟩, 80) := ⟨⟨by decide +kernel, by decide +kernel⟩, List.mem_of_getElem? (i := 1338) (by decide +kernel), List.mem_of_getElem? (i := 1960) (by decide +kernel), List.mem_of_getElem? (i := 1961) (by decide +kernel)⟩
theorem lw_p98 : lw_okq (⟨"WoodenTurkModel", "copied", "(I)I"⟩, 80) := ⟨⟨by decide +kernel, by decide +kernel⟩, List.mem_of_getElem? (i := 1338) (by decide +kernel), List.mem_of_getElem? (i := 1971) (by decide +kernel), List.mem_of_getElem? (i := 1972) (by decide +kernel)⟩
noncomputable def lw_privs_7 : List (MethodName × Nat) := [(⟨"WoodenTurkModel", "answer", "(I)I"⟩, 80), (⟨"WoodenTurkModel", "isAhead", "(II)Z"⟩, 80), (⟨"WoodenTurkModel", "copied", "(I)I"⟩, 80)]
theorem lw_r7 : ∀ q ∈ lw_privs_7, lw_okq q := List.forall_mem_cons.mpr ⟨lw_p96, List.forall_mem_cons.mpr ⟨lw_p97, List.forall_mem_cons.mpr ⟨lw_p98, fun _ h => absurd h List.not_mem_nil⟩⟩⟩
noncomputable def lw_privs : List (MethodName × Nat) := lw_privs_1 ++ (lw_privs_2 ++ (lw_privs_3 ++ (lw_privs_4 ++ (lw_privs_5 ++ (lw_privs_6 ++ (lw_privs_7))))))
noncomputable def lw_tbl : List Cond := k2_sels lw_privs ++ tables_1
theorem lw_privs_ok : ∀ q ∈ lw_privs, lw_okq q := by
  show ∀ q ∈ lw_privs_1 ++ (lw_privs_2 ++ (lw_privs_3 ++ (lw_privs_4 ++ (lw_privs_5 ++ (lw_privs_6 ++ (lw_privs_7)))))), lw_okq q
  exact List.forall_mem_append.mpr ⟨lw_r1, List.forall_mem_append.mpr ⟨lw_r2, List.forall_mem_append.mpr ⟨lw_r3, List.forall_mem_append.mpr ⟨lw_r4, List.forall_mem_append.mpr ⟨lw_r5, List.forall_mem_append.mpr ⟨lw_r6, lw_r7⟩⟩⟩⟩⟩⟩
noncomputable def va_AOA (ty : FieldType) (U : State) : Prop := (Cond.arrayOver (.array ty)).before #[] U = true
theorem va_AOA.use {ty : FieldType} {A : Array Value} {U : State} (h : va_AOA ty U) : (Cond.arrayOver (.array ty)).before A U = true := h
theorem va_AOA.of {ty : FieldType} {A : Array Value} {U : State} (h : (Cond.arrayOver (.array ty)).before A U = true) : va_AOA ty U := h
/-! ===== BEGIN words of one list among another's, by their places ===== -/
theorem goodIn_r {big : List Cond} (ws : List Cond) (ps : List Nat) (hp : ws = ps.filterMap (fun i => big[i]?)) (h : ws.all goodWord = true) : GoodIn big ws := by
  intro w hw
  have h1 := List.all_eq_true.mp h w hw
  rw [hp] at hw
  obtain ⟨i, -, hi⟩ := List.mem_filterMap.mp hw
  have hm : w ∈ big := by first | exact List.mem_of_getElem? hi | exact List.getElem?_mem hi
  exact ⟨hm, good_of_word h1⟩
theorem goodIn_app {big a b : List Cond} (ha : GoodIn big a) (hb : GoodIn big b) : GoodIn big (a ++ b) := fun w h => (List.mem_append.mp h).elim (ha w) (hb w)
theorem goodIn_ca {big a b : List Cond} {c : Cond} (ha : GoodIn big (c :: a)) (hb : GoodIn big b) : GoodIn big (c :: (a ++ b)) := fun w h => (List.mem_cons.mp h).elim (fun e => ha w (List.mem_cons.mpr (Or.inl e))) (fun h => (List.mem_append.mp h).elim (fun h => ha w (List.mem_cons.mpr (Or.inr h))) (hb w))
theorem goodIn_sub {big ws : List Cond} (hm : ∀ w ∈ ws, w ∈ big) (h : ws.all goodWord = true) : GoodIn big ws := fun w hw => ⟨hm w hw, good_of_word (List.all_eq_true.mp h w hw)⟩
/-! ===== END ===== -/

/-! ===== BEGIN new T[n][m]: the outer array a place, the inner ones among the pooled ===== -/
/-- f, but v at every address of l -/
noncomputable def vr_up {α : Type} (f : Nat → α) (l : List Nat) (v : α) : Nat → α := fun a => if a ∈ l then v else f a
theorem vr_up_in {α : Type} {f : Nat → α} {l : List Nat} {v : α} {a : Nat} (h : a ∈ l) : vr_up f l v a = v := if_pos h
theorem vr_up_ne {α : Type} {f : Nat → α} {l : List Nat} {v : α} {a : Nat} (h : a ∉ l) : vr_up f l v a = f a := if_neg h
theorem vr_rows {L l : List Nat} {f : Nat → va_E} {e : va_E} (h : ∀ a, a ∈ l → a ∉ L) : va_pl L f ++ l.map (fun a => (a, e)) = va_pl (L ++ l) (vr_up f l e) := by
  unfold va_pl
  rw [List.map_append]
  congr 1
  · apply List.map_congr_left
    intro a ha
    rw [vr_up_ne (fun q => h a q ha)]
  · apply List.map_congr_left
    intro a ha
    rw [vr_up_in ha]
theorem vr_lay {X rows : va_W} {x : Nat × va_E} {pl : va_W} {D : va_G} {cl : List vw_C} {H : Heap} (hP : va_P D cl (((X ++ pl) ++ [x]) ++ rows) H) : va_P D cl ((X ++ [x]) ++ (pl ++ rows)) H := by
  rw [List.append_assoc (X ++ pl)] at hP
  have h := va_P.swap hP
  rw [← List.append_assoc X] at h
  have h2 := va_P.swap h
  rw [List.append_assoc (X ++ [x])] at h2
  exact h2
theorem vr_layD {X rows : va_W} {x : Nat × va_E} {pl : va_W} {A : Nat → Prop} (hD : va_D A (((X ++ pl) ++ [x]) ++ rows)) : va_D A ((X ++ [x]) ++ (pl ++ rows)) := by
  rw [List.append_assoc (X ++ pl)] at hD
  have h := va_D.swap hD
  rw [← List.append_assoc X] at h
  have h2 := va_D.swap h
  rw [List.append_assoc (X ++ [x])] at h2
  exact h2
theorem vr_outer (c : ClassId) (N h0 : Nat) : ∀ i : Nat, Jvm.Free.Multi.outerC c N h0 i = arrV c N (fun j => va_rf (if j < i then some (h0 + 1 + j) else none))
  | 0 => by
    show ({ cls := c, slots := Array.replicate N .null, vm := .none } : Cell) = _
    rw [arrV_new]
    refine congrArg (arrV c N) (funext fun j => ?_)
    simp [va_rf]
  | i + 1 => by
    show (Jvm.Free.Multi.outerC c N h0 i).setSlot i (.ref (h0 + 1 + i)) = _
    rw [vr_outer c N h0 i, arrV_store]
    refine congrArg (arrV c N) (funext fun j => ?_)
    by_cases e : j = i
    · subst e
      simp [updV, va_rf]
    · by_cases h : j < i
      · simp [updV, e, h, Nat.lt_succ_of_lt h]
      · simp [updV, e, h, show ¬ j < i + 1 by omega]
section VGM
variable {p : Program} {l : Launch} {e : Env} {R : Room} {s : State} {m : MethodId} {args : Array Value} {below : List Frame} {meth : Method} {c : Code} {H : Heap} {locs : List Loc} {cells slots : Nat} {Q : State → Prop}
variable {cc : ByteArray} {pc : Nat} {ls : Array Slot} {rest : List Value} {D : va_G} {cl : List vw_C} {A : Nat → Prop} {a : Nat} {tys : List (ClassId × FieldType)} {ws : va_W} {H0 : Heap}
theorem va_mna {X : va_W} {L : List Nat} {f : Nat → va_E} {cc : ByteArray} (hexec : p.tables.exec = Jvm.exec) (hb : c.code = cc) {own : String} {index : Nat} {ty : FieldType} {cy : ClassId} (hown : s.vm.findClass own = some m.cls) (hclink : (Cond.classLink own index ("[" ++ (FieldType.array ty).toString)).before args s = true) (hover : va_AOA ty s) (harr : (Cond.arrayClass ty).before args s = true) (hcy : s.vm.findClass (FieldType.array ty).toString = some cy)
    (hK : va_K D cl tys s) (hP : va_P D cl (X ++ va_pl L f) H) (hD : va_D A (X ++ va_pl L f)) (hS : va_S A H0 H locs) (hA : ∀ q, H0.size ≤ q → A q) {n k : Int32} {N' K' : Nat} {z : vp_A} (hn : ¬ n < 0) (hk : ¬ k < 0) (hN : n.toNatClampNeg = N') (hM : k.toNatClampNeg = K')
    (hb1 : N' * 4 ≤ 536870912) (hb2 : K' * componentBytes ty ≤ 536870912) (hb3 : K' ≤ 536870912) (hdf : fits ty (defaultValue ty) = true) (hdd : (defaultValue ty).isDefault = true) (hcells : cells + (1 + N') ≤ R.cells) (hslots : slots + (N' + N' * K') ≤ R.slots) (hz : ∀ c : ClassId, Jvm.Free.Multi.innerC c K' (defaultValue ty) = vp_cell c z) (hdg : decode cc pc = .ok (.multianewarray index 2, 4))
    (kk : ∀ (q : Nat) (r : Nat → Nat) (cA : ClassId) (H1 : Heap), (∀ i j : Nat, i < N' → j < N' → r i = r j → i = j) → (∀ i : Nat, i < N' → r i ∉ L) → va_K D cl (tys ++ [(cA, .array ty)]) s →
      va_P D cl ((X ++ [(q, .inl (cA, N', .inr (.inr (.inr (.inr (fun i => if i < N' then some (r i) else none))))))]) ++ va_pl (L ++ (List.range N').map r) (vr_up f ((List.range N').map r) (.inl (cy, z)))) H1 → va_D A ((X ++ [(q, .inl (cA, N', .inr (.inr (.inr (.inr (fun i => if i < N' then some (r i) else none))))))]) ++ va_pl (L ++ (List.range N').map r) (vr_up f ((List.range N').map r) (.inl (cy, z)))) → va_S A H0 H1 locs →
      W p l e R s m args below meth c H1 locs (cells + 1 + N') (slots + N' + N' * K') Q (F0 m (pc + 4) ls (.ref q :: rest))) : W p l e R s m args below meth c H locs cells slots Q (F0 m pc ls (.int k :: .int n :: rest)) := by
  subst hN
  subst hM
  intro T hT Xs
  obtain ⟨vm₁, cA, comp, -, fA, fC, hO, -, X', step⟩ := Xs.multianewarray2F hexec hown hclink (va_AOA.use hover) harr (g := F0 m pc ls (.int k :: .int n :: rest)) rfl (by rw [hb]; exact hdg) rfl hn hk hb1 hb2 hb3 hdf hdd hcells hslots
  have ec : some cy = some comp := hcy.symm.trans fC
  cases ec
  generalize hF : Jvm.Free.Multi.fill (T.setVm vm₁) cA cy n.toNatClampNeg k.toNatClampNeg (defaultValue ty) n.toNatClampNeg = F at X' step
  have hTh : (T.setVm vm₁).heap = H := hT
  obtain ⟨f1, f2, -, -⟩ := Jvm.Free.Multi.fill_facts (T.setVm vm₁) cA cy n.toNatClampNeg k.toNatClampNeg (defaultValue ty) n.toNatClampNeg
  rw [hF, hTh] at f1 f2
  have hold : ∀ x : Nat, x < H.size → F.heap[x]? = H[x]? := fun x hx => by
    have := Jvm.Free.Multi.fill_old (T.setVm vm₁) cA cy n.toNatClampNeg k.toNatClampNeg (defaultValue ty) (a := x) (by rw [hTh]; exact hx) n.toNatClampNeg
    rw [hF, hTh] at this
    exact this
  have hrow : ∀ j : Nat, j < n.toNatClampNeg → F.heap[H.size + 1 + j]? = some (vp_cell cy z) := fun j hj => by
    have := Jvm.Free.Multi.fill_inner (T.setVm vm₁) cA cy n.toNatClampNeg k.toNatClampNeg (defaultValue ty) n.toNatClampNeg j hj
    rw [hF, hTh, hz] at this
    exact this
  have hout : Jvm.Free.Multi.outerC cA n.toNatClampNeg H.size n.toNatClampNeg = vp_cell cA (n.toNatClampNeg, .inr (.inr (.inr (.inr (fun i => if i < n.toNatClampNeg then some (H.size + 1 + i) else none))))) := by
    rw [vp_cell_q]
    exact vr_outer cA n.toNatClampNeg H.size n.toNatClampNeg
  rw [hout] at f2
  have hlt : ∀ a, a ∈ L → a < H.size := fun a ha => by
    obtain ⟨k9, hk9⟩ := va_pl_get (X := X) (f := f) ha
    exact (hP k9 _ hk9).lt
  have hnl : ∀ i : Nat, i < n.toNatClampNeg → H.size + 1 + i ∉ L := fun i _ h => by
    have := hlt _ h
    omega
  have hnm : ∀ a, a ∈ (List.range n.toNatClampNeg).map (fun i => H.size + 1 + i) → a ∉ L := fun a ha h => by
    obtain ⟨i, -, rfl⟩ := List.mem_map.mp ha
    have := hlt _ h
    omega
  have hP0 : va_P D cl (X ++ va_pl L f) F.heap := hP.kept (fun k9 x hx => hold x.1 ((hP k9 x hx).lt))
  have hP1 : va_P D cl ((X ++ va_pl L f) ++ [(H.size, .inl (cA, n.toNatClampNeg, .inr (.inr (.inr (.inr (fun i => if i < n.toNatClampNeg then some (H.size + 1 + i) else none))))))]) F.heap := hP0.app (fun k9 x hx => by
    have h0 : k9 < 1 := (List.getElem?_eq_some_iff.mp hx).1
    rw [show k9 = 0 by omega] at hx
    cases hx
    exact f2)
  have hP2 : va_P D cl (((X ++ va_pl L f) ++ [(H.size, .inl (cA, n.toNatClampNeg, .inr (.inr (.inr (.inr (fun i => if i < n.toNatClampNeg then some (H.size + 1 + i) else none))))))]) ++ ((List.range n.toNatClampNeg).map (fun i => H.size + 1 + i)).map (fun a => (a, .inl (cy, z)))) F.heap := hP1.app (fun k9 x hx => by
    obtain ⟨a, ha, rfl⟩ := List.mem_map.mp (List.mem_of_getElem? hx)
    obtain ⟨i, hi, rfl⟩ := List.mem_map.mp ha
    exact hrow i (List.mem_range.mp hi))
  have hD2 : va_D A (((X ++ va_pl L f) ++ [(H.size, .inl (cA, n.toNatClampNeg, .inr (.inr (.inr (.inr (fun i => if i < n.toNatClampNeg then some (H.size + 1 + i) else none))))))]) ++ ((List.range n.toNatClampNeg).map (fun i => H.size + 1 + i)).map (fun a => (a, .inl (cy, z)))) := by
    have hD1 := hD.push (e := .inl (cA, n.toNatClampNeg, .inr (.inr (.inr (.inr (fun i => if i < n.toNatClampNeg then some (H.size + 1 + i) else none)))))) hP rfl (hA _ hS.1)
    generalize hW1 : (X ++ va_pl L f) ++ [(H.size, .inl (cA, n.toNatClampNeg, .inr (.inr (.inr (.inr (fun i => if i < n.toNatClampNeg then some (H.size + 1 + i) else none))))))] = W1 at hD1 hP1 ⊢
    have hle : ∀ (k9 : Nat) (x : Nat × va_E), W1[k9]? = some x → x.1 ≤ H.size := fun k9 x hx => by
      rw [← hW1] at hx
      by_cases hl : k9 < (X ++ va_pl L f).length
      · rw [List.getElem?_append_left hl] at hx
        exact Nat.le_of_lt ((hP k9 x hx).lt)
      · rw [List.getElem?_append_right (by omega)] at hx
        have h0 : k9 - (X ++ va_pl L f).length < 1 := (List.getElem?_eq_some_iff.mp hx).1
        rw [show k9 - (X ++ va_pl L f).length = 0 by omega] at hx
        cases hx
        exact Nat.le_refl _
    have hr : ∀ (k9 : Nat) (x : Nat × va_E), (((List.range n.toNatClampNeg).map (fun i => H.size + 1 + i)).map (fun a => ((a, .inl (cy, z)) : Nat × va_E)))[k9]? = some x → x.1 = H.size + 1 + k9 := fun k9 x hx => by
      rw [List.getElem?_map, List.getElem?_map] at hx
      by_cases h9 : k9 < n.toNatClampNeg
      · rw [List.getElem?_range h9] at hx
        cases hx
        rfl
      · have hn0 : (List.range n.toNatClampNeg)[k9]? = none := List.getElem?_eq_none (by rw [List.length_range]; omega)
        rw [hn0] at hx
        cases hx
    refine ⟨fun i j x y hi hj hxy => ?_, fun k9 x hx => ?_⟩
    · by_cases h1 : i < W1.length <;> by_cases h2 : j < W1.length
      · rw [List.getElem?_append_left h1] at hi
        rw [List.getElem?_append_left h2] at hj
        exact hD1.1 i j x y hi hj hxy
      · rw [List.getElem?_append_left h1] at hi
        rw [List.getElem?_append_right (by omega)] at hj
        have := hle _ _ hi
        have := hr _ _ hj
        omega
      · rw [List.getElem?_append_right (by omega)] at hi
        rw [List.getElem?_append_left h2] at hj
        have := hle _ _ hj
        have := hr _ _ hi
        omega
      · rw [List.getElem?_append_right (by omega)] at hi hj
        have := hr _ _ hi
        have := hr _ _ hj
        omega
    · by_cases h1 : k9 < W1.length
      · rw [List.getElem?_append_left h1] at hx
        exact hD1.2 k9 x hx
      · rw [List.getElem?_append_right (by omega)] at hx
        have := hr _ _ hx
        exact hA _ (by have := hS.1; omega)
  have hAr : ArrOfT s cA (.array ty) := fun N9 z9 => by
    obtain ⟨-, k9, hk9, cm9, hkk9⟩ := (hO 0 0 0).1
    exact ⟨(fun q hq => by cases hq), k9, hk9, cm9, hkk9⟩
  have hK2 : va_K D cl (tys ++ [(cA, .array ty)]) s := ⟨hK.1, fun k9 x hx => by
    by_cases hl : k9 < tys.length
    · rw [List.getElem?_append_left hl] at hx
      exact hK.2 k9 x hx
    · rw [List.getElem?_append_right (by omega)] at hx
      have h0 : k9 - tys.length < 1 := (List.getElem?_eq_some_iff.mp hx).1
      rw [show k9 - tys.length = 0 by omega] at hx
      cases hx
      exact ⟨hAr, fA⟩⟩
  obtain ⟨t, a1, b1⟩ := kk H.size (fun i => H.size + 1 + i) cA F.heap (fun i j _ _ h => by have h9 : H.size + 1 + i = H.size + 1 + j := h; omega) hnl hK2 (by rw [← vr_rows hnm]; exact vr_lay hP2) (by rw [← vr_rows hnm]; exact vr_layD hD2) ⟨by rw [f1]; have := hS.1; omega, fun x h1 h2 => (hold x (Nat.lt_of_lt_of_le h1 hS.1)).trans (hS.2.1 x h1 h2), hS.2.2⟩ F rfl X'
  refine ⟨t, step t ?_, b1⟩
  have e : T.heap.size = H.size := by rw [hT]
  rw [e]
  exact a1
end VGM
/-! ===== END ===== -/

/-! ===== BEGIN printed: names, fields, word lists, decode rows ===== -/
noncomputable def RX0 : String := "WoodenTurk$Answers"
noncomputable def TX0 : u_T := fun k => match k with
  | 0 => ("WoodenTurk$Answers", "asked", "[I", true)
  | 1 => ("WoodenTurk$Answers", "played", "[I", true)
  | 2 => ("WoodenTurk$Answers", "couples", "I", false)
  | 3 => ("WoodenTurk$Answers", "moves", "[I", true)
  | _ => ("WoodenTurk$Answers", "moveCount", "I", false)
noncomputable def tyX0 : Nat → FieldType := fun k => match k with
  | 0 => .array .int
  | 1 => .array .int
  | 2 => .int
  | 3 => .array .int
  | _ => .int
noncomputable abbrev wsX00 : List Cond := u_ws RX0 TX0 5
theorem nmX0 : ∀ a, a < 5 → ∀ b, b < 5 → a ≠ b → (TX0 a).2.1 ≠ (TX0 b).2.1 := by decide +kernel
theorem tyX0_ok : ∀ k, k < 5 → parseFieldDescriptor (TX0 k).2.2.1 = some (tyX0 k) := by decide +kernel
noncomputable abbrev cX0_init : ByteArray := prog_2_method_1_code
noncomputable def yX0_init : MethodName := ⟨RX0, "<init>", "()V"⟩
noncomputable abbrev cX0_moveCode : ByteArray := prog_2_method_2_code
noncomputable def yX0_moveCode : MethodName := ⟨RX0, "moveCode", "(II)I"⟩
noncomputable abbrev cX0_tell : ByteArray := prog_2_method_3_code
noncomputable def yX0_tell : MethodName := ⟨RX0, "tell", "(IIII)I"⟩
noncomputable abbrev cX0_play : ByteArray := prog_2_method_4_code
noncomputable def yX0_play : MethodName := ⟨RX0, "play", "(II)I"⟩
noncomputable abbrev cX0_factOf : ByteArray := prog_2_method_5_code
noncomputable def yX0_factOf : MethodName := ⟨RX0, "factOf", "(I)I"⟩
noncomputable abbrev cX0_emptyGame : ByteArray := prog_2_method_6_code
noncomputable def yX0_emptyGame : MethodName := ⟨RX0, "emptyGame", "()I"⟩
noncomputable abbrev cX0_playedAlone : ByteArray := prog_2_method_7_code
noncomputable def yX0_playedAlone : MethodName := ⟨RX0, "playedAlone", "()I"⟩
noncomputable abbrev cX0_answerTo : ByteArray := prog_2_method_8_code
noncomputable def yX0_answerTo : MethodName := ⟨RX0, "answerTo", "(I)I"⟩
noncomputable def RX1 : String := "WoodenTurk$Board"
noncomputable def TX1 : u_T := fun k => match k with
  | 0 => ("WoodenTurk$Board", "pieces", "[I", true)
  | 1 => ("WoodenTurk$Board", "known", "[I", true)
  | _ => ("WoodenTurk$Board", "sticks", "[Z", true)
noncomputable def tyX1 : Nat → FieldType := fun k => match k with
  | 0 => .array .int
  | 1 => .array .int
  | _ => .array .boolean
noncomputable abbrev wsX10 : List Cond := u_ws RX1 TX1 3
theorem nmX1 : ∀ a, a < 3 → ∀ b, b < 3 → a ≠ b → (TX1 a).2.1 ≠ (TX1 b).2.1 := by decide +kernel
theorem tyX1_ok : ∀ k, k < 3 → parseFieldDescriptor (TX1 k).2.2.1 = some (tyX1 k) := by decide +kernel
noncomputable abbrev cX1_init : ByteArray := prog_3_method_1_code
noncomputable def yX1_init : MethodName := ⟨RX1, "<init>", "()V"⟩
noncomputable abbrev cX1_isSquare : ByteArray := prog_3_method_2_code
noncomputable def yX1_isSquare : MethodName := ⟨RX1, "isSquare", "(I)Z"⟩
noncomputable abbrev cX1_isMove : ByteArray := prog_3_method_3_code
noncomputable def yX1_isMove : MethodName := ⟨RX1, "isMove", "(II)Z"⟩
noncomputable abbrev cX1_putPiece : ByteArray := prog_3_method_4_code
noncomputable def yX1_putPiece : MethodName := ⟨RX1, "putPiece", "(II)Z"⟩
noncomputable abbrev cX1_putStick : ByteArray := prog_3_method_5_code
noncomputable def yX1_putStick : MethodName := ⟨RX1, "putStick", "(IZ)Z"⟩
noncomputable abbrev cX1_play : ByteArray := prog_3_method_6_code
noncomputable def yX1_play : MethodName := ⟨RX1, "play", "(III)Z"⟩
noncomputable abbrev cX1_factOf : ByteArray := prog_3_method_7_code
noncomputable def yX1_factOf : MethodName := ⟨RX1, "factOf", "(II)I"⟩
noncomputable abbrev cX1_countWrong : ByteArray := prog_3_method_8_code
noncomputable def yX1_countWrong : MethodName := ⟨RX1, "countWrong", "()I"⟩
noncomputable abbrev cX1_countOpen : ByteArray := prog_3_method_9_code
noncomputable def yX1_countOpen : MethodName := ⟨RX1, "countOpen", "()I"⟩
noncomputable def RX2 : String := "WoodenTurk$Chest"
noncomputable def TX2 : u_T := fun k => match k with
  | 0 => ("WoodenTurk$Chest", "worksSet", "I", false)
  | 1 => ("WoodenTurk$Chest", "shape", "I", false)
  | 2 => ("WoodenTurk$Chest", "passages", "[I", true)
  | 3 => ("WoodenTurk$Chest", "doorSides", "[I", true)
  | 4 => ("WoodenTurk$Chest", "doorSpaces", "[I", true)
  | _ => ("WoodenTurk$Chest", "doorFalse", "[Z", true)
noncomputable def tyX2 : Nat → FieldType := fun k => match k with
  | 0 => .int
  | 1 => .int
  | 2 => .array .int
  | 3 => .array .int
  | 4 => .array .int
  | _ => .array .boolean
noncomputable abbrev wsX20 : List Cond := u_ws RX2 TX2 6
theorem nmX2 : ∀ a, a < 6 → ∀ b, b < 6 → a ≠ b → (TX2 a).2.1 ≠ (TX2 b).2.1 := by decide +kernel
theorem tyX2_ok : ∀ k, k < 6 → parseFieldDescriptor (TX2 k).2.2.1 = some (tyX2 k) := by decide +kernel
noncomputable abbrev cX2_init : ByteArray := prog_4_method_1_code
noncomputable def yX2_init : MethodName := ⟨RX2, "<init>", "()V"⟩
noncomputable abbrev cX2_areNeighbours : ByteArray := prog_4_method_2_code
noncomputable def yX2_areNeighbours : MethodName := ⟨RX2, "areNeighbours", "(II)Z"⟩
noncomputable abbrev cX2_isSpace : ByteArray := prog_4_method_3_code
noncomputable def yX2_isSpace : MethodName := ⟨RX2, "isSpace", "(I)Z"⟩
noncomputable abbrev cX2_putWorks : ByteArray := prog_4_method_4_code
noncomputable def yX2_putWorks : MethodName := ⟨RX2, "putWorks", "(IZ)Z"⟩
noncomputable abbrev cX2_putWall : ByteArray := prog_4_method_5_code
noncomputable def yX2_putWall : MethodName := ⟨RX2, "putWall", "(IIZ)Z"⟩
noncomputable abbrev cX2_putDoor : ByteArray := prog_4_method_6_code
noncomputable def yX2_putDoor : MethodName := ⟨RX2, "putDoor", "(IIIZ)Z"⟩
noncomputable abbrev cX2_shapeNumber : ByteArray := prog_4_method_7_code
noncomputable def yX2_shapeNumber : MethodName := ⟨RX2, "shapeNumber", "()I"⟩
noncomputable abbrev cX2_worksNow : ByteArray := prog_4_method_8_code
noncomputable def yX2_worksNow : MethodName := ⟨RX2, "worksNow", "()I"⟩
noncomputable abbrev cX2_freeSpaces : ByteArray := prog_4_method_9_code
noncomputable def yX2_freeSpaces : MethodName := ⟨RX2, "freeSpaces", "()I"⟩
noncomputable abbrev cX2_sideOf : ByteArray := prog_4_method_10_code
noncomputable def yX2_sideOf : MethodName := ⟨RX2, "sideOf", "(I)I"⟩
noncomputable abbrev cX2_shownBy : ByteArray := prog_4_method_11_code
noncomputable def yX2_shownBy : MethodName := ⟨RX2, "shownBy", "(IZ)I"⟩
noncomputable abbrev cX2_nextTo : ByteArray := prog_4_method_12_code
noncomputable def yX2_nextTo : MethodName := ⟨RX2, "nextTo", "(I)I"⟩
noncomputable abbrev cX2_hangsTogether : ByteArray := prog_4_method_13_code
noncomputable def yX2_hangsTogether : MethodName := ⟨RX2, "hangsTogether", "(I)Z"⟩
noncomputable abbrev cX2_airAtFirst : ByteArray := prog_4_method_14_code
noncomputable def yX2_airAtFirst : MethodName := ⟨RX2, "airAtFirst", "()I"⟩
noncomputable abbrev cX2_airLasts : ByteArray := prog_4_method_15_code
noncomputable def yX2_airLasts : MethodName := ⟨RX2, "airLasts", "(II)I"⟩
noncomputable abbrev cX2_airInAMinute : ByteArray := prog_4_method_16_code
noncomputable def yX2_airInAMinute : MethodName := ⟨RX2, "airInAMinute", "()I"⟩
noncomputable def RX3 : String := "WoodenTurk$Hiding"
noncomputable def TX3 : u_T := fun k => match k with
  | 0 => ("WoodenTurk$Hiding", "poses", "LWoodenTurk$Poses;", true)
  | 1 => ("WoodenTurk$Hiding", "now", "[J", true)
  | 2 => ("WoodenTurk$Hiding", "later", "[J", true)
  | 3 => ("WoodenTurk$Hiding", "unseen", "[J", true)
  | 4 => ("WoodenTurk$Hiding", "failSecond", "I", false)
  | 5 => ("WoodenTurk$Hiding", "endPoses", "I", false)
  | 6 => ("WoodenTurk$Hiding", "good", "[J", true)
  | 7 => ("WoodenTurk$Hiding", "doorSet", "I", false)
  | 8 => ("WoodenTurk$Hiding", "waitSeconds", "I", false)
  | 9 => ("WoodenTurk$Hiding", "frontViews", "[I", true)
  | 10 => ("WoodenTurk$Hiding", "row", "[I", true)
  | 11 => ("WoodenTurk$Hiding", "behind", "[[J", true)
  | 12 => ("WoodenTurk$Hiding", "bestRow", "[I", true)
  | 13 => ("WoodenTurk$Hiding", "bestCount", "I", false)
  | 14 => ("WoodenTurk$Hiding", "bestSeen", "I", false)
  | _ => ("WoodenTurk$Hiding", "doorViews", "[I", true)
noncomputable def tyX3 : Nat → FieldType := fun k => match k with
  | 0 => .object "WoodenTurk$Poses"
  | 1 => .array .long
  | 2 => .array .long
  | 3 => .array .long
  | 4 => .int
  | 5 => .int
  | 6 => .array .long
  | 7 => .int
  | 8 => .int
  | 9 => .array .int
  | 10 => .array .int
  | 11 => .array (.array .long)
  | 12 => .array .int
  | 13 => .int
  | 14 => .int
  | _ => .array .int
noncomputable abbrev wsX30 : List Cond := u_ws RX3 TX3 16
theorem nmX3 : ∀ a, a < 16 → ∀ b, b < 16 → a ≠ b → (TX3 a).2.1 ≠ (TX3 b).2.1 := by decide +kernel
theorem tyX3_ok : ∀ k, k < 16 → parseFieldDescriptor (TX3 k).2.2.1 = some (tyX3 k) := by decide +kernel
noncomputable abbrev cX3_init : ByteArray := prog_5_method_1_code
noncomputable def yX3_init : MethodName := ⟨RX3, "<init>", "()V"⟩
noncomputable abbrev cX3_poseCount : ByteArray := prog_5_method_2_code
noncomputable def yX3_poseCount : MethodName := ⟨RX3, "poseCount", "(LWoodenTurk$Chest;I)I"⟩
noncomputable abbrev cX3_follow : ByteArray := prog_5_method_3_code
noncomputable def yX3_follow : MethodName := ⟨RX3, "follow", "(LWoodenTurk$Chest;LWoodenTurk$Show;I)V"⟩
noncomputable abbrev cX3_stayUnseen : ByteArray := prog_5_method_4_code
noncomputable def yX3_stayUnseen : MethodName := ⟨RX3, "stayUnseen", "(I)I"⟩
noncomputable abbrev cX3_outcome : ByteArray := prog_5_method_5_code
noncomputable def yX3_outcome : MethodName := ⟨RX3, "outcome", "(I)I"⟩
noncomputable abbrev cX3_wayPose : ByteArray := prog_5_method_6_code
noncomputable def yX3_wayPose : MethodName := ⟨RX3, "wayPose", "(LWoodenTurk$Chest;LWoodenTurk$Show;II)I"⟩
noncomputable abbrev cX3_findGood : ByteArray := prog_5_method_7_code
noncomputable def yX3_findGood : MethodName := ⟨RX3, "findGood", "(LWoodenTurk$Show;)V"⟩
noncomputable abbrev cX3_writeGood : ByteArray := prog_5_method_8_code
noncomputable def yX3_writeGood : MethodName := ⟨RX3, "writeGood", "(I[J)V"⟩
noncomputable abbrev cX3_readGood : ByteArray := prog_5_method_9_code
noncomputable def yX3_readGood : MethodName := ⟨RX3, "readGood", "(I[J)V"⟩
noncomputable abbrev cX3_findRow : ByteArray := prog_5_method_10_code
noncomputable def yX3_findRow : MethodName := ⟨RX3, "findRow", "(LWoodenTurk$Chest;III)V"⟩
noncomputable abbrev cX3_rowFact : ByteArray := prog_5_method_11_code
noncomputable def yX3_rowFact : MethodName := ⟨RX3, "rowFact", "(I)I"⟩
noncomputable abbrev cX3_tryRows : ByteArray := prog_5_method_12_code
noncomputable def yX3_tryRows : MethodName := ⟨RX3, "tryRows", "(III)V"⟩
noncomputable abbrev cX3_tryDoor : ByteArray := prog_5_method_13_code
noncomputable def yX3_tryDoor : MethodName := ⟨RX3, "tryDoor", "(IIII)V"⟩
noncomputable abbrev cX3_keepIfBetter : ByteArray := prog_5_method_14_code
noncomputable def yX3_keepIfBetter : MethodName := ⟨RX3, "keepIfBetter", "(II)V"⟩
noncomputable abbrev cX3_passesDoor : ByteArray := prog_5_method_15_code
noncomputable def yX3_passesDoor : MethodName := ⟨RX3, "passesDoor", "(I[J[J)Z"⟩
noncomputable abbrev cX3_findProof : ByteArray := prog_5_method_16_code
noncomputable def yX3_findProof : MethodName := ⟨RX3, "findProof", "(LWoodenTurk$Chest;II)I"⟩
noncomputable abbrev cX3_keepCommon : ByteArray := prog_5_method_17_code
noncomputable def yX3_keepCommon : MethodName := ⟨RX3, "keepCommon", "([J[J[J)V"⟩
noncomputable abbrev cX3_isSame : ByteArray := prog_5_method_18_code
noncomputable def yX3_isSame : MethodName := ⟨RX3, "isSame", "([J[J)Z"⟩
noncomputable abbrev cX3_isEmpty : ByteArray := prog_5_method_19_code
noncomputable def yX3_isEmpty : MethodName := ⟨RX3, "isEmpty", "([J)Z"⟩
noncomputable abbrev cX3_howMany : ByteArray := prog_5_method_20_code
noncomputable def yX3_howMany : MethodName := ⟨RX3, "howMany", "([J)I"⟩
noncomputable abbrev cX3_least : ByteArray := prog_5_method_21_code
noncomputable def yX3_least : MethodName := ⟨RX3, "least", "([J)I"⟩
noncomputable def RX4 : String := "WoodenTurk$Nights"
noncomputable def TX4 : u_T := fun k => match k with
  | 0 => ("WoodenTurk$Nights", "masters", "I", false)
  | 1 => ("WoodenTurk$Nights", "strengths", "[I", true)
  | 2 => ("WoodenTurk$Nights", "from", "[I", true)
  | 3 => ("WoodenTurk$Nights", "to", "[I", true)
  | 4 => ("WoodenTurk$Nights", "habits", "[I", true)
  | 5 => ("WoodenTurk$Nights", "stays", "[I", true)
  | 6 => ("WoodenTurk$Nights", "stayCount", "I", false)
  | 7 => ("WoodenTurk$Nights", "nights", "I", false)
  | 8 => ("WoodenTurk$Nights", "nightYears", "[I", true)
  | 9 => ("WoodenTurk$Nights", "nightTowns", "[I", true)
  | 10 => ("WoodenTurk$Nights", "opponents", "[I", true)
  | 11 => ("WoodenTurk$Nights", "results", "[I", true)
  | 12 => ("WoodenTurk$Nights", "cheatAnswers", "[I", true)
  | _ => ("WoodenTurk$Nights", "weights", "[J", true)
noncomputable def tyX4 : Nat → FieldType := fun k => match k with
  | 0 => .int
  | 1 => .array .int
  | 2 => .array .int
  | 3 => .array .int
  | 4 => .array .int
  | 5 => .array .int
  | 6 => .int
  | 7 => .int
  | 8 => .array .int
  | 9 => .array .int
  | 10 => .array .int
  | 11 => .array .int
  | 12 => .array .int
  | _ => .array .long
noncomputable abbrev wsX40 : List Cond := u_ws RX4 TX4 14
theorem nmX4 : ∀ a, a < 14 → ∀ b, b < 14 → a ≠ b → (TX4 a).2.1 ≠ (TX4 b).2.1 := by decide +kernel
theorem tyX4_ok : ∀ k, k < 14 → parseFieldDescriptor (TX4 k).2.2.1 = some (tyX4 k) := by decide +kernel
noncomputable abbrev cX4_init : ByteArray := prog_6_method_1_code
noncomputable def yX4_init : MethodName := ⟨RX4, "<init>", "()V"⟩
noncomputable abbrev cX4_isYear : ByteArray := prog_6_method_2_code
noncomputable def yX4_isYear : MethodName := ⟨RX4, "isYear", "(I)Z"⟩
noncomputable abbrev cX4_isTown : ByteArray := prog_6_method_3_code
noncomputable def yX4_isTown : MethodName := ⟨RX4, "isTown", "(I)Z"⟩
noncomputable abbrev cX4_isStrength : ByteArray := prog_6_method_4_code
noncomputable def yX4_isStrength : MethodName := ⟨RX4, "isStrength", "(I)Z"⟩
noncomputable abbrev cX4_isAnswer : ByteArray := prog_6_method_5_code
noncomputable def yX4_isAnswer : MethodName := ⟨RX4, "isAnswer", "(I)Z"⟩
noncomputable abbrev cX4_isMaster : ByteArray := prog_6_method_6_code
noncomputable def yX4_isMaster : MethodName := ⟨RX4, "isMaster", "(I)Z"⟩
noncomputable abbrev cX4_isNight : ByteArray := prog_6_method_7_code
noncomputable def yX4_isNight : MethodName := ⟨RX4, "isNight", "(I)Z"⟩
noncomputable abbrev cX4_addMaster : ByteArray := prog_6_method_8_code
noncomputable def yX4_addMaster : MethodName := ⟨RX4, "addMaster", "(III)I"⟩
noncomputable abbrev cX4_tellStay : ByteArray := prog_6_method_9_code
noncomputable def yX4_tellStay : MethodName := ⟨RX4, "tellStay", "(III)Z"⟩
noncomputable abbrev cX4_putHabit : ByteArray := prog_6_method_10_code
noncomputable def yX4_putHabit : MethodName := ⟨RX4, "putHabit", "(III)Z"⟩
noncomputable abbrev cX4_addNight : ByteArray := prog_6_method_11_code
noncomputable def yX4_addNight : MethodName := ⟨RX4, "addNight", "(IIIII)I"⟩
noncomputable abbrev cX4_guessOne : ByteArray := prog_6_method_12_code
noncomputable def yX4_guessOne : MethodName := ⟨RX4, "guessOne", "(III)I"⟩
noncomputable abbrev cX4_guessRun : ByteArray := prog_6_method_13_code
noncomputable def yX4_guessRun : MethodName := ⟨RX4, "guessRun", "(III)I"⟩
noncomputable abbrev cX4_startWeights : ByteArray := prog_6_method_14_code
noncomputable def yX4_startWeights : MethodName := ⟨RX4, "startWeights", "()V"⟩
noncomputable abbrev cX4_multiplyWeights : ByteArray := prog_6_method_15_code
noncomputable def yX4_multiplyWeights : MethodName := ⟨RX4, "multiplyWeights", "(I)V"⟩
noncomputable abbrev cX4_shrinkWeights : ByteArray := prog_6_method_16_code
noncomputable def yX4_shrinkWeights : MethodName := ⟨RX4, "shrinkWeights", "()V"⟩
noncomputable abbrev cX4_oddsOf : ByteArray := prog_6_method_17_code
noncomputable def yX4_oddsOf : MethodName := ⟨RX4, "oddsOf", "(I)I"⟩
noncomputable abbrev cX4_weightOf : ByteArray := prog_6_method_18_code
noncomputable def yX4_weightOf : MethodName := ⟨RX4, "weightOf", "(II)I"⟩
noncomputable abbrev cX4_canHaveBeenThere : ByteArray := prog_6_method_19_code
noncomputable def yX4_canHaveBeenThere : MethodName := ⟨RX4, "canHaveBeenThere", "(II)Z"⟩
noncomputable abbrev cX4_gameWeight : ByteArray := prog_6_method_20_code
noncomputable def yX4_gameWeight : MethodName := ⟨RX4, "gameWeight", "(II)I"⟩
noncomputable def RX5 : String := "WoodenTurk$Pamphlet"
noncomputable def TX5 : u_T := fun k => match k with
  | 0 => ("WoodenTurk$Pamphlet", "codes", "[I", true)
  | 1 => ("WoodenTurk$Pamphlet", "starts", "[I", true)
  | 2 => ("WoodenTurk$Pamphlet", "newStarts", "[I", true)
  | 3 => ("WoodenTurk$Pamphlet", "reasons", "I", false)
  | 4 => ("WoodenTurk$Pamphlet", "at", "I", false)
  | 5 => ("WoodenTurk$Pamphlet", "seenSet", "I", false)
  | 6 => ("WoodenTurk$Pamphlet", "worksSet", "I", false)
  | 7 => ("WoodenTurk$Pamphlet", "facts", "[I", true)
  | 8 => ("WoodenTurk$Pamphlet", "term", "LWoodenTurk$Sum;", true)
  | 9 => ("WoodenTurk$Pamphlet", "left", "LWoodenTurk$Sum;", true)
  | _ => ("WoodenTurk$Pamphlet", "right", "LWoodenTurk$Sum;", true)
noncomputable def tyX5 : Nat → FieldType := fun k => match k with
  | 0 => .array .int
  | 1 => .array .int
  | 2 => .array .int
  | 3 => .int
  | 4 => .int
  | 5 => .int
  | 6 => .int
  | 7 => .array .int
  | 8 => .object "WoodenTurk$Sum"
  | 9 => .object "WoodenTurk$Sum"
  | _ => .object "WoodenTurk$Sum"
noncomputable abbrev wsX50 : List Cond := u_ws RX5 TX5 11
theorem nmX5 : ∀ a, a < 11 → ∀ b, b < 11 → a ≠ b → (TX5 a).2.1 ≠ (TX5 b).2.1 := by decide +kernel
theorem tyX5_ok : ∀ k, k < 11 → parseFieldDescriptor (TX5 k).2.2.1 = some (tyX5 k) := by decide +kernel
noncomputable abbrev cX5_init : ByteArray := prog_7_method_1_code
noncomputable def yX5_init : MethodName := ⟨RX5, "<init>", "()V"⟩
noncomputable abbrev cX5_learn : ByteArray := prog_7_method_2_code
noncomputable def yX5_learn : MethodName := ⟨RX5, "learn", "(LWoodenTurk$Tape;)I"⟩
noncomputable abbrev cX5_keep : ByteArray := prog_7_method_3_code
noncomputable def yX5_keep : MethodName := ⟨RX5, "keep", "(LWoodenTurk$Tape;I)V"⟩
noncomputable abbrev cX5_checkReason : ByteArray := prog_7_method_4_code
noncomputable def yX5_checkReason : MethodName := ⟨RX5, "checkReason", "(LWoodenTurk$Tape;I)Z"⟩
noncomputable abbrev cX5_checkChoice : ByteArray := prog_7_method_5_code
noncomputable def yX5_checkChoice : MethodName := ⟨RX5, "checkChoice", "(LWoodenTurk$Tape;I)Z"⟩
noncomputable abbrev cX5_checkCondition : ByteArray := prog_7_method_6_code
noncomputable def yX5_checkCondition : MethodName := ⟨RX5, "checkCondition", "(LWoodenTurk$Tape;I)Z"⟩
noncomputable abbrev cX5_checkComparison : ByteArray := prog_7_method_7_code
noncomputable def yX5_checkComparison : MethodName := ⟨RX5, "checkComparison", "(LWoodenTurk$Tape;)Z"⟩
noncomputable abbrev cX5_checkSum : ByteArray := prog_7_method_8_code
noncomputable def yX5_checkSum : MethodName := ⟨RX5, "checkSum", "(LWoodenTurk$Tape;)Z"⟩
noncomputable abbrev cX5_checkUnit : ByteArray := prog_7_method_9_code
noncomputable def yX5_checkUnit : MethodName := ⟨RX5, "checkUnit", "(LWoodenTurk$Tape;)Z"⟩
noncomputable abbrev cX5_putFacts : ByteArray := prog_7_method_10_code
noncomputable def yX5_putFacts : MethodName := ⟨RX5, "putFacts", "(LWoodenTurk$Chest;LWoodenTurk$Show;)V"⟩
noncomputable abbrev cX5_reasonCount : ByteArray := prog_7_method_11_code
noncomputable def yX5_reasonCount : MethodName := ⟨RX5, "reasonCount", "()I"⟩
noncomputable abbrev cX5_weigh : ByteArray := prog_7_method_12_code
noncomputable def yX5_weigh : MethodName := ⟨RX5, "weigh", "(IZ)I"⟩
noncomputable abbrev cX5_code : ByteArray := prog_7_method_13_code
noncomputable def yX5_code : MethodName := ⟨RX5, "code", "()I"⟩
noncomputable abbrev cX5_takes : ByteArray := prog_7_method_14_code
noncomputable def yX5_takes : MethodName := ⟨RX5, "takes", "(I)Z"⟩
noncomputable abbrev cX5_choiceHolds : ByteArray := prog_7_method_15_code
noncomputable def yX5_choiceHolds : MethodName := ⟨RX5, "choiceHolds", "(I)Z"⟩
noncomputable abbrev cX5_conditionHolds : ByteArray := prog_7_method_16_code
noncomputable def yX5_conditionHolds : MethodName := ⟨RX5, "conditionHolds", "(I)Z"⟩
noncomputable abbrev cX5_comparisonHolds : ByteArray := prog_7_method_17_code
noncomputable def yX5_comparisonHolds : MethodName := ⟨RX5, "comparisonHolds", "()Z"⟩
noncomputable abbrev cX5_addUp : ByteArray := prog_7_method_18_code
noncomputable def yX5_addUp : MethodName := ⟨RX5, "addUp", "(LWoodenTurk$Sum;LWoodenTurk$Sum;)V"⟩
noncomputable abbrev cX5_takeUnit : ByteArray := prog_7_method_19_code
noncomputable def yX5_takeUnit : MethodName := ⟨RX5, "takeUnit", "()I"⟩
noncomputable def RX6 : String := "WoodenTurk$Poses"
noncomputable def TX6 : u_T := fun k => match k with
  | 0 => ("WoodenTurk$Poses", "chest", "LWoodenTurk$Chest;", false)
  | 1 => ("WoodenTurk$Poses", "size", "I", false)
  | 2 => ("WoodenTurk$Poses", "shape", "I", false)
  | 3 => ("WoodenTurk$Poses", "count", "I", false)
  | 4 => ("WoodenTurk$Poses", "sets", "[I", true)
  | _ => ("WoodenTurk$Poses", "moves", "[J", true)
noncomputable def tyX6 : Nat → FieldType := fun k => match k with
  | 0 => .object "WoodenTurk$Chest"
  | 1 => .int
  | 2 => .int
  | 3 => .int
  | 4 => .array .int
  | _ => .array .long
noncomputable abbrev wsX60 : List Cond := u_ws RX6 TX6 6
theorem nmX6 : ∀ a, a < 6 → ∀ b, b < 6 → a ≠ b → (TX6 a).2.1 ≠ (TX6 b).2.1 := by decide +kernel
theorem tyX6_ok : ∀ k, k < 6 → parseFieldDescriptor (TX6 k).2.2.1 = some (tyX6 k) := by decide +kernel
noncomputable abbrev cX6_init : ByteArray := prog_8_method_1_code
noncomputable def yX6_init : MethodName := ⟨RX6, "<init>", "()V"⟩
noncomputable abbrev cX6_findFor : ByteArray := prog_8_method_2_code
noncomputable def yX6_findFor : MethodName := ⟨RX6, "findFor", "(LWoodenTurk$Chest;I)V"⟩
noncomputable abbrev cX6_findSets : ByteArray := prog_8_method_3_code
noncomputable def yX6_findSets : MethodName := ⟨RX6, "findSets", "(LWoodenTurk$Chest;)V"⟩
noncomputable abbrev cX6_nextOfAsMany : ByteArray := prog_8_method_4_code
noncomputable def yX6_nextOfAsMany : MethodName := ⟨RX6, "nextOfAsMany", "(I)I"⟩
noncomputable abbrev cX6_findMoves : ByteArray := prog_8_method_5_code
noncomputable def yX6_findMoves : MethodName := ⟨RX6, "findMoves", "(LWoodenTurk$Chest;)V"⟩
noncomputable abbrev cX6_isMove : ByteArray := prog_8_method_6_code
noncomputable def yX6_isMove : MethodName := ⟨RX6, "isMove", "(III)Z"⟩
noncomputable abbrev cX6_howMany : ByteArray := prog_8_method_7_code
noncomputable def yX6_howMany : MethodName := ⟨RX6, "howMany", "()I"⟩
noncomputable abbrev cX6_setOf : ByteArray := prog_8_method_8_code
noncomputable def yX6_setOf : MethodName := ⟨RX6, "setOf", "(I)I"⟩
noncomputable abbrev cX6_spread : ByteArray := prog_8_method_9_code
noncomputable def yX6_spread : MethodName := ⟨RX6, "spread", "([J[J)V"⟩
noncomputable abbrev cX6_spreadOne : ByteArray := prog_8_method_10_code
noncomputable def yX6_spreadOne : MethodName := ⟨RX6, "spreadOne", "(I[J)V"⟩
noncomputable abbrev cX6_findUnseen : ByteArray := prog_8_method_11_code
noncomputable def yX6_findUnseen : MethodName := ⟨RX6, "findUnseen", "(I[J)V"⟩
noncomputable abbrev cX6_areAllSeen : ByteArray := prog_8_method_12_code
noncomputable def yX6_areAllSeen : MethodName := ⟨RX6, "areAllSeen", "(I)Z"⟩
noncomputable abbrev cX6_putRow : ByteArray := prog_8_method_13_code
noncomputable def yX6_putRow : MethodName := ⟨RX6, "putRow", "([JJJJ)V"⟩
noncomputable def RX7 : String := "WoodenTurk$Show"
noncomputable def TX7 : u_T := fun k => match k with
  | 0 => ("WoodenTurk$Show", "kinds", "[I", true)
  | 1 => ("WoodenTurk$Show", "numbers", "[I", true)
  | 2 => ("WoodenTurk$Show", "steps", "I", false)
  | 3 => ("WoodenTurk$Show", "views", "[I", true)
  | 4 => ("WoodenTurk$Show", "openDoors", "I", false)
  | 5 => ("WoodenTurk$Show", "candleDoor", "I", false)
  | 6 => ("WoodenTurk$Show", "side", "I", false)
  | 7 => ("WoodenTurk$Show", "allSeen", "I", false)
  | 8 => ("WoodenTurk$Show", "mostOpen", "I", false)
  | _ => ("WoodenTurk$Show", "turns", "I", false)
noncomputable def tyX7 : Nat → FieldType := fun k => match k with
  | 0 => .array .int
  | 1 => .array .int
  | 2 => .int
  | 3 => .array .int
  | 4 => .int
  | 5 => .int
  | 6 => .int
  | 7 => .int
  | 8 => .int
  | _ => .int
noncomputable abbrev wsX70 : List Cond := u_ws RX7 TX7 10
theorem nmX7 : ∀ a, a < 10 → ∀ b, b < 10 → a ≠ b → (TX7 a).2.1 ≠ (TX7 b).2.1 := by decide +kernel
theorem tyX7_ok : ∀ k, k < 10 → parseFieldDescriptor (TX7 k).2.2.1 = some (tyX7 k) := by decide +kernel
noncomputable abbrev cX7_init : ByteArray := prog_9_method_1_code
noncomputable def yX7_init : MethodName := ⟨RX7, "<init>", "()V"⟩
noncomputable abbrev cX7_learn : ByteArray := prog_9_method_2_code
noncomputable def yX7_learn : MethodName := ⟨RX7, "learn", "(LWoodenTurk$Tape;)Z"⟩
noncomputable abbrev cX7_learnStep : ByteArray := prog_9_method_3_code
noncomputable def yX7_learnStep : MethodName := ⟨RX7, "learnStep", "(LWoodenTurk$Tape;)Z"⟩
noncomputable abbrev cX7_isOfADoor : ByteArray := prog_9_method_4_code
noncomputable def yX7_isOfADoor : MethodName := ⟨RX7, "isOfADoor", "(I)Z"⟩
noncomputable abbrev cX7_stepCount : ByteArray := prog_9_method_5_code
noncomputable def yX7_stepCount : MethodName := ⟨RX7, "stepCount", "()I"⟩
noncomputable abbrev cX7_perform : ByteArray := prog_9_method_6_code
noncomputable def yX7_perform : MethodName := ⟨RX7, "perform", "(LWoodenTurk$Chest;)V"⟩
noncomputable abbrev cX7_takeStep : ByteArray := prog_9_method_7_code
noncomputable def yX7_takeStep : MethodName := ⟨RX7, "takeStep", "(II)V"⟩
noncomputable abbrev cX7_viewNow : ByteArray := prog_9_method_8_code
noncomputable def yX7_viewNow : MethodName := ⟨RX7, "viewNow", "(LWoodenTurk$Chest;)I"⟩
noncomputable abbrev cX7_secondsOf : ByteArray := prog_9_method_9_code
noncomputable def yX7_secondsOf : MethodName := ⟨RX7, "secondsOf", "(I)I"⟩
noncomputable abbrev cX7_viewOf : ByteArray := prog_9_method_10_code
noncomputable def yX7_viewOf : MethodName := ⟨RX7, "viewOf", "(I)I"⟩
noncomputable abbrev cX7_allSeconds : ByteArray := prog_9_method_11_code
noncomputable def yX7_allSeconds : MethodName := ⟨RX7, "allSeconds", "()I"⟩
noncomputable abbrev cX7_viewIn : ByteArray := prog_9_method_12_code
noncomputable def yX7_viewIn : MethodName := ⟨RX7, "viewIn", "(I)I"⟩
noncomputable abbrev cX7_factOf : ByteArray := prog_9_method_13_code
noncomputable def yX7_factOf : MethodName := ⟨RX7, "factOf", "(I)I"⟩
noncomputable def RX8 : String := "WoodenTurk$Sum"
noncomputable def TX8 : u_T := fun k => match k with
  | 0 => ("WoodenTurk$Sum", "parts", "[I", true)
  | _ => ("WoodenTurk$Sum", "used", "I", false)
noncomputable def tyX8 : Nat → FieldType := fun k => match k with
  | 0 => .array .int
  | _ => .int
noncomputable abbrev wsX80 : List Cond := u_ws RX8 TX8 2
theorem nmX8 : ∀ a, a < 2 → ∀ b, b < 2 → a ≠ b → (TX8 a).2.1 ≠ (TX8 b).2.1 := by decide +kernel
theorem tyX8_ok : ∀ k, k < 2 → parseFieldDescriptor (TX8 k).2.2.1 = some (tyX8 k) := by decide +kernel
noncomputable abbrev cX8_init : ByteArray := prog_10_method_1_code
noncomputable def yX8_init : MethodName := ⟨RX8, "<init>", "()V"⟩
noncomputable abbrev cX8_put : ByteArray := prog_10_method_2_code
noncomputable def yX8_put : MethodName := ⟨RX8, "put", "(I)V"⟩
noncomputable abbrev cX8_append : ByteArray := prog_10_method_3_code
noncomputable def yX8_append : MethodName := ⟨RX8, "append", "(I)V"⟩
noncomputable abbrev cX8_multiplyBy : ByteArray := prog_10_method_4_code
noncomputable def yX8_multiplyBy : MethodName := ⟨RX8, "multiplyBy", "(I)V"⟩
noncomputable abbrev cX8_divideBy : ByteArray := prog_10_method_5_code
noncomputable def yX8_divideBy : MethodName := ⟨RX8, "divideBy", "(I)V"⟩
noncomputable abbrev cX8_dropEmptyParts : ByteArray := prog_10_method_6_code
noncomputable def yX8_dropEmptyParts : MethodName := ⟨RX8, "dropEmptyParts", "()V"⟩
noncomputable abbrev cX8_add : ByteArray := prog_10_method_7_code
noncomputable def yX8_add : MethodName := ⟨RX8, "add", "(LWoodenTurk$Sum;)V"⟩
noncomputable abbrev cX8_partAt : ByteArray := prog_10_method_8_code
noncomputable def yX8_partAt : MethodName := ⟨RX8, "partAt", "(I)I"⟩
noncomputable abbrev cX8_against : ByteArray := prog_10_method_9_code
noncomputable def yX8_against : MethodName := ⟨RX8, "against", "(LWoodenTurk$Sum;)I"⟩
noncomputable def RX9 : String := "WoodenTurk$Tape"
noncomputable def TX9 : u_T := fun k => match k with
  | 0 => ("WoodenTurk$Tape", "bytes", "[B", true)
  | 1 => ("WoodenTurk$Tape", "length", "I", false)
  | 2 => ("WoodenTurk$Tape", "codes", "[I", true)
  | 3 => ("WoodenTurk$Tape", "places", "[I", true)
  | 4 => ("WoodenTurk$Tape", "tokens", "I", false)
  | 5 => ("WoodenTurk$Tape", "at", "I", false)
  | 6 => ("WoodenTurk$Tape", "fault", "I", false)
  | _ => ("WoodenTurk$Tape", "faultPlace", "I", false)
noncomputable def tyX9 : Nat → FieldType := fun k => match k with
  | 0 => .array .byte
  | 1 => .int
  | 2 => .array .int
  | 3 => .array .int
  | 4 => .int
  | 5 => .int
  | 6 => .int
  | _ => .int
noncomputable abbrev wsX90 : List Cond := u_ws RX9 TX9 8
theorem nmX9 : ∀ a, a < 8 → ∀ b, b < 8 → a ≠ b → (TX9 a).2.1 ≠ (TX9 b).2.1 := by decide +kernel
theorem tyX9_ok : ∀ k, k < 8 → parseFieldDescriptor (TX9 k).2.2.1 = some (tyX9 k) := by decide +kernel
noncomputable abbrev cX9_init : ByteArray := prog_11_method_1_code
noncomputable def yX9_init : MethodName := ⟨RX9, "<init>", "()V"⟩
noncomputable abbrev cX9_hasRoomFor : ByteArray := prog_11_method_2_code
noncomputable def yX9_hasRoomFor : MethodName := ⟨RX9, "hasRoomFor", "(I)Z"⟩
noncomputable abbrev cX9_append : ByteArray := prog_11_method_3_code
noncomputable def yX9_append : MethodName := ⟨RX9, "append", "(I)I"⟩
noncomputable abbrev cX9_cutTo : ByteArray := prog_11_method_4_code
noncomputable def yX9_cutTo : MethodName := ⟨RX9, "cutTo", "(I)Z"⟩
noncomputable abbrev cX9_forgetFault : ByteArray := prog_11_method_5_code
noncomputable def yX9_forgetFault : MethodName := ⟨RX9, "forgetFault", "()V"⟩
noncomputable abbrev cX9_faultOf : ByteArray := prog_11_method_6_code
noncomputable def yX9_faultOf : MethodName := ⟨RX9, "faultOf", "(I)I"⟩
noncomputable abbrev cX9_readTokens : ByteArray := prog_11_method_7_code
noncomputable def yX9_readTokens : MethodName := ⟨RX9, "readTokens", "(Ljava/lang/String;Ljava/lang/String;)V"⟩
noncomputable abbrev cX9_readToken : ByteArray := prog_11_method_8_code
noncomputable def yX9_readToken : MethodName := ⟨RX9, "readToken", "(ILjava/lang/String;Ljava/lang/String;)I"⟩
noncomputable abbrev cX9_signAt : ByteArray := prog_11_method_9_code
noncomputable def yX9_signAt : MethodName := ⟨RX9, "signAt", "(I)I"⟩
noncomputable abbrev cX9_isLetter : ByteArray := prog_11_method_10_code
noncomputable def yX9_isLetter : MethodName := ⟨RX9, "isLetter", "(I)Z"⟩
noncomputable abbrev cX9_isDigit : ByteArray := prog_11_method_11_code
noncomputable def yX9_isDigit : MethodName := ⟨RX9, "isDigit", "(I)Z"⟩
noncomputable abbrev cX9_letterEnd : ByteArray := prog_11_method_12_code
noncomputable def yX9_letterEnd : MethodName := ⟨RX9, "letterEnd", "(I)I"⟩
noncomputable abbrev cX9_digitEnd : ByteArray := prog_11_method_13_code
noncomputable def yX9_digitEnd : MethodName := ⟨RX9, "digitEnd", "(I)I"⟩
noncomputable abbrev cX9_numberCode : ByteArray := prog_11_method_14_code
noncomputable def yX9_numberCode : MethodName := ⟨RX9, "numberCode", "(II)I"⟩
noncomputable abbrev cX9_wordCode : ByteArray := prog_11_method_15_code
noncomputable def yX9_wordCode : MethodName := ⟨RX9, "wordCode", "(Ljava/lang/String;II)I"⟩
noncomputable abbrev cX9_isSame : ByteArray := prog_11_method_16_code
noncomputable def yX9_isSame : MethodName := ⟨RX9, "isSame", "(Ljava/lang/String;III)Z"⟩
noncomputable abbrev cX9_addToken : ByteArray := prog_11_method_17_code
noncomputable def yX9_addToken : MethodName := ⟨RX9, "addToken", "(II)V"⟩
noncomputable abbrev cX9_code : ByteArray := prog_11_method_18_code
noncomputable def yX9_code : MethodName := ⟨RX9, "code", "()I"⟩
noncomputable abbrev cX9_tokenNumber : ByteArray := prog_11_method_19_code
noncomputable def yX9_tokenNumber : MethodName := ⟨RX9, "tokenNumber", "()I"⟩
noncomputable abbrev cX9_copyCodes : ByteArray := prog_11_method_20_code
noncomputable def yX9_copyCodes : MethodName := ⟨RX9, "copyCodes", "([I)V"⟩
noncomputable abbrev cX9_word : ByteArray := prog_11_method_21_code
noncomputable def yX9_word : MethodName := ⟨RX9, "word", "()I"⟩
noncomputable abbrev cX9_next : ByteArray := prog_11_method_22_code
noncomputable def yX9_next : MethodName := ⟨RX9, "next", "()V"⟩
noncomputable abbrev cX9_takes : ByteArray := prog_11_method_23_code
noncomputable def yX9_takes : MethodName := ⟨RX9, "takes", "(I)Z"⟩
noncomputable abbrev cX9_needs : ByteArray := prog_11_method_24_code
noncomputable def yX9_needs : MethodName := ⟨RX9, "needs", "(I)Z"⟩
noncomputable abbrev cX9_needsNumber : ByteArray := prog_11_method_25_code
noncomputable def yX9_needsNumber : MethodName := ⟨RX9, "needsNumber", "(II)Z"⟩
noncomputable abbrev cX9_fail : ByteArray := prog_11_method_26_code
noncomputable def yX9_fail : MethodName := ⟨RX9, "fail", "(I)Z"⟩
noncomputable def RX10 : String := "WoodenTurk$Writers"
noncomputable def TX10 : u_T := fun k => match k with
  | 0 => ("WoodenTurk$Writers", "years", "[I", true)
  | 1 => ("WoodenTurk$Writers", "claimSets", "[I", true)
  | 2 => ("WoodenTurk$Writers", "count", "I", false)
  | _ => ("WoodenTurk$Writers", "truthSet", "I", false)
noncomputable def tyX10 : Nat → FieldType := fun k => match k with
  | 0 => .array .int
  | 1 => .array .int
  | 2 => .int
  | _ => .int
noncomputable abbrev wsX100 : List Cond := u_ws RX10 TX10 4
theorem nmX10 : ∀ a, a < 4 → ∀ b, b < 4 → a ≠ b → (TX10 a).2.1 ≠ (TX10 b).2.1 := by decide +kernel
theorem tyX10_ok : ∀ k, k < 4 → parseFieldDescriptor (TX10 k).2.2.1 = some (tyX10 k) := by decide +kernel
noncomputable abbrev cX10_init : ByteArray := prog_12_method_1_code
noncomputable def yX10_init : MethodName := ⟨RX10, "<init>", "()V"⟩
noncomputable abbrev cX10_add : ByteArray := prog_12_method_2_code
noncomputable def yX10_add : MethodName := ⟨RX10, "add", "(II)I"⟩
noncomputable abbrev cX10_putTruth : ByteArray := prog_12_method_3_code
noncomputable def yX10_putTruth : MethodName := ⟨RX10, "putTruth", "(I)Z"⟩
noncomputable abbrev cX10_firstWith : ByteArray := prog_12_method_4_code
noncomputable def yX10_firstWith : MethodName := ⟨RX10, "firstWith", "(I)I"⟩
noncomputable abbrev cX10_factOf : ByteArray := prog_12_method_5_code
noncomputable def yX10_factOf : MethodName := ⟨RX10, "factOf", "(II)I"⟩
noncomputable abbrev cX10_isWriter : ByteArray := prog_12_method_6_code
noncomputable def yX10_isWriter : MethodName := ⟨RX10, "isWriter", "(I)Z"⟩
noncomputable abbrev cX10_wroteBefore : ByteArray := prog_12_method_7_code
noncomputable def yX10_wroteBefore : MethodName := ⟨RX10, "wroteBefore", "(II)Z"⟩
noncomputable abbrev cX10_copiedFrom : ByteArray := prog_12_method_8_code
noncomputable def yX10_copiedFrom : MethodName := ⟨RX10, "copiedFrom", "(I)I"⟩
noncomputable abbrev cX10_walkLine : ByteArray := prog_12_method_9_code
noncomputable def yX10_walkLine : MethodName := ⟨RX10, "walkLine", "(IZ)I"⟩
noncomputable def RX11 : String := "WoodenTurk"
noncomputable def TX11 : u_T := fun k => match k with
  | 0 => ("WoodenTurk", "chests", "[LWoodenTurk$Chest;", true)
  | 1 => ("WoodenTurk", "shows", "[LWoodenTurk$Show;", true)
  | 2 => ("WoodenTurk", "spareShow", "LWoodenTurk$Show;", false)
  | 3 => ("WoodenTurk", "tape", "LWoodenTurk$Tape;", true)
  | 4 => ("WoodenTurk", "paper", "LWoodenTurk$Pamphlet;", true)
  | 5 => ("WoodenTurk", "hiding", "LWoodenTurk$Hiding;", true)
  | 6 => ("WoodenTurk", "squares", "LWoodenTurk$Board;", true)
  | 7 => ("WoodenTurk", "nights", "LWoodenTurk$Nights;", true)
  | 8 => ("WoodenTurk", "answers", "LWoodenTurk$Answers;", true)
  | _ => ("WoodenTurk", "writers", "LWoodenTurk$Writers;", true)
noncomputable def tyX11 : Nat → FieldType := fun k => match k with
  | 0 => .array (.object "WoodenTurk$Chest")
  | 1 => .array (.object "WoodenTurk$Show")
  | 2 => .object "WoodenTurk$Show"
  | 3 => .object "WoodenTurk$Tape"
  | 4 => .object "WoodenTurk$Pamphlet"
  | 5 => .object "WoodenTurk$Hiding"
  | 6 => .object "WoodenTurk$Board"
  | 7 => .object "WoodenTurk$Nights"
  | 8 => .object "WoodenTurk$Answers"
  | _ => .object "WoodenTurk$Writers"
noncomputable abbrev wsX110 : List Cond := u_ws RX11 TX11 10
theorem nmX11 : ∀ a, a < 10 → ∀ b, b < 10 → a ≠ b → (TX11 a).2.1 ≠ (TX11 b).2.1 := by decide +kernel
theorem tyX11_ok : ∀ k, k < 10 → parseFieldDescriptor (TX11 k).2.2.1 = some (tyX11 k) := by decide +kernel
noncomputable abbrev cX11_init : ByteArray := prog_1_method_1_code
noncomputable def yX11_init : MethodName := ⟨RX11, "<init>", "()V"⟩
noncomputable abbrev cX11_works : ByteArray := prog_1_method_2_code
noncomputable def yX11_works : MethodName := ⟨RX11, "works", "(IIZ)Z"⟩
noncomputable abbrev cX11_wall : ByteArray := prog_1_method_3_code
noncomputable def yX11_wall : MethodName := ⟨RX11, "wall", "(IIIZ)Z"⟩
noncomputable abbrev cX11_door : ByteArray := prog_1_method_4_code
noncomputable def yX11_door : MethodName := ⟨RX11, "door", "(IIIIZ)Z"⟩
noncomputable abbrev cX11_feed : ByteArray := prog_1_method_5_code
noncomputable def yX11_feed : MethodName := ⟨RX11, "feed", "(IIIII)I"⟩
noncomputable abbrev cX11_end : ByteArray := prog_1_method_6_code
noncomputable def yX11_end : MethodName := ⟨RX11, "end", "(I)Z"⟩
noncomputable abbrev cX11_text : ByteArray := prog_1_method_7_code
noncomputable def yX11_text : MethodName := ⟨RX11, "text", "(I)I"⟩
noncomputable abbrev cX11_fault : ByteArray := prog_1_method_8_code
noncomputable def yX11_fault : MethodName := ⟨RX11, "fault", "(I)I"⟩
noncomputable abbrev cX11_poses : ByteArray := prog_1_method_9_code
noncomputable def yX11_poses : MethodName := ⟨RX11, "poses", "(II)I"⟩
noncomputable abbrev cX11_seen : ByteArray := prog_1_method_10_code
noncomputable def yX11_seen : MethodName := ⟨RX11, "seen", "(III)I"⟩
noncomputable abbrev cX11_run : ByteArray := prog_1_method_11_code
noncomputable def yX11_run : MethodName := ⟨RX11, "run", "(III)I"⟩
noncomputable abbrev cX11_hide : ByteArray := prog_1_method_12_code
noncomputable def yX11_hide : MethodName := ⟨RX11, "hide", "(IIII)I"⟩
noncomputable abbrev cX11_way : ByteArray := prog_1_method_13_code
noncomputable def yX11_way : MethodName := ⟨RX11, "way", "(IIII)I"⟩
noncomputable abbrev cX11_order : ByteArray := prog_1_method_14_code
noncomputable def yX11_order : MethodName := ⟨RX11, "order", "(IIIII)I"⟩
noncomputable abbrev cX11_proof : ByteArray := prog_1_method_15_code
noncomputable def yX11_proof : MethodName := ⟨RX11, "proof", "(III)I"⟩
noncomputable abbrev cX11_reason : ByteArray := prog_1_method_16_code
noncomputable def yX11_reason : MethodName := ⟨RX11, "reason", "(I)I"⟩
noncomputable abbrev cX11_pamphlet : ByteArray := prog_1_method_17_code
noncomputable def yX11_pamphlet : MethodName := ⟨RX11, "pamphlet", "(I)I"⟩
noncomputable abbrev cX11_air : ByteArray := prog_1_method_18_code
noncomputable def yX11_air : MethodName := ⟨RX11, "air", "(III)I"⟩
noncomputable abbrev cX11_piece : ByteArray := prog_1_method_19_code
noncomputable def yX11_piece : MethodName := ⟨RX11, "piece", "(II)Z"⟩
noncomputable abbrev cX11_stick : ByteArray := prog_1_method_20_code
noncomputable def yX11_stick : MethodName := ⟨RX11, "stick", "(IZ)Z"⟩
noncomputable abbrev cX11_move : ByteArray := prog_1_method_21_code
noncomputable def yX11_move : MethodName := ⟨RX11, "move", "(III)Z"⟩
noncomputable abbrev cX11_board : ByteArray := prog_1_method_22_code
noncomputable def yX11_board : MethodName := ⟨RX11, "board", "(II)I"⟩
noncomputable abbrev cX11_master : ByteArray := prog_1_method_23_code
noncomputable def yX11_master : MethodName := ⟨RX11, "master", "(IIII)I"⟩
noncomputable abbrev cX11_was : ByteArray := prog_1_method_24_code
noncomputable def yX11_was : MethodName := ⟨RX11, "was", "(III)Z"⟩
noncomputable abbrev cX11_habit : ByteArray := prog_1_method_25_code
noncomputable def yX11_habit : MethodName := ⟨RX11, "habit", "(III)Z"⟩
noncomputable abbrev cX11_night : ByteArray := prog_1_method_26_code
noncomputable def yX11_night : MethodName := ⟨RX11, "night", "(IIIII)I"⟩
noncomputable abbrev cX11_who : ByteArray := prog_1_method_27_code
noncomputable def yX11_who : MethodName := ⟨RX11, "who", "(III)I"⟩
noncomputable abbrev cX11_all : ByteArray := prog_1_method_28_code
noncomputable def yX11_all : MethodName := ⟨RX11, "all", "(III)I"⟩
noncomputable abbrev cX11_cam : ByteArray := prog_1_method_29_code
noncomputable def yX11_cam : MethodName := ⟨RX11, "cam", "(IIII)I"⟩
noncomputable abbrev cX11_game : ByteArray := prog_1_method_30_code
noncomputable def yX11_game : MethodName := ⟨RX11, "game", "(II)I"⟩
noncomputable abbrev cX11_alone : ByteArray := prog_1_method_31_code
noncomputable def yX11_alone : MethodName := ⟨RX11, "alone", "(I)I"⟩
noncomputable abbrev cX11_writer : ByteArray := prog_1_method_32_code
noncomputable def yX11_writer : MethodName := ⟨RX11, "writer", "(II)I"⟩
noncomputable abbrev cX11_truth : ByteArray := prog_1_method_33_code
noncomputable def yX11_truth : MethodName := ⟨RX11, "truth", "(I)Z"⟩
noncomputable abbrev cX11_first : ByteArray := prog_1_method_34_code
noncomputable def yX11_first : MethodName := ⟨RX11, "first", "(I)I"⟩
noncomputable abbrev cX11_story : ByteArray := prog_1_method_35_code
noncomputable def yX11_story : MethodName := ⟨RX11, "story", "(II)I"⟩
noncomputable abbrev cX11_isChest : ByteArray := prog_1_method_36_code
noncomputable def yX11_isChest : MethodName := ⟨RX11, "isChest", "(I)Z"⟩
noncomputable abbrev cX11_isShow : ByteArray := prog_1_method_37_code
noncomputable def yX11_isShow : MethodName := ⟨RX11, "isShow", "(I)Z"⟩
noncomputable abbrev cX11_isSize : ByteArray := prog_1_method_38_code
noncomputable def yX11_isSize : MethodName := ⟨RX11, "isSize", "(I)Z"⟩
noncomputable abbrev cX11_isDoorSet : ByteArray := prog_1_method_39_code
noncomputable def yX11_isDoorSet : MethodName := ⟨RX11, "isDoorSet", "(I)Z"⟩
noncomputable abbrev cX11_learnShow : ByteArray := prog_1_method_40_code
noncomputable def yX11_learnShow : MethodName := ⟨RX11, "learnShow", "(I)I"⟩
noncomputable abbrev cX11_isManTrue : ByteArray := prog_1_method_41_code
noncomputable def yX11_isManTrue : MethodName := ⟨RX11, "isManTrue", "()Z"⟩
noncomputable abbrev cX11_learnFacts : ByteArray := prog_1_method_42_code
noncomputable def yX11_learnFacts : MethodName := ⟨RX11, "learnFacts", "()V"⟩
noncomputable def RX12 : String := "WoodenTurkModel"
noncomputable def TX12 : u_T := fun k => match k with
  | 0 => ("WoodenTurkModel", "worksIn", "[I", true)
  | 1 => ("WoodenTurkModel", "side", "[I", true)
  | 2 => ("WoodenTurkModel", "spacesOf", "[I", true)
  | 3 => ("WoodenTurkModel", "walls", "[I", true)
  | 4 => ("WoodenTurkModel", "isFalse", "[Z", true)
  | 5 => ("WoodenTurkModel", "pose", "[I", true)
  | 6 => ("WoodenTurkModel", "nextMany", "[I", true)
  | 7 => ("WoodenTurkModel", "next", "[I", true)
  | 8 => ("WoodenTurkModel", "poseMany", "I", false)
  | 9 => ("WoodenTurkModel", "posesFor", "I", false)
  | 10 => ("WoodenTurkModel", "showKind", "[I", true)
  | 11 => ("WoodenTurkModel", "showWhat", "[I", true)
  | 12 => ("WoodenTurkModel", "showLong", "[I", true)
  | 13 => ("WoodenTurkModel", "freshKind", "[I", true)
  | 14 => ("WoodenTurkModel", "freshWhat", "[I", true)
  | 15 => ("WoodenTurkModel", "freshFrom", "[I", true)
  | 16 => ("WoodenTurkModel", "says", "[I", true)
  | 17 => ("WoodenTurkModel", "from", "[I", true)
  | 18 => ("WoodenTurkModel", "step", "[I", true)
  | 19 => ("WoodenTurkModel", "fresh", "[I", true)
  | 20 => ("WoodenTurkModel", "tape", "[I", true)
  | 21 => ("WoodenTurkModel", "pile", "[I", true)
  | 22 => ("WoodenTurkModel", "reasons", "I", false)
  | 23 => ("WoodenTurkModel", "freshLong", "I", false)
  | 24 => ("WoodenTurkModel", "freshSteps", "I", false)
  | 25 => ("WoodenTurkModel", "taped", "I", false)
  | 26 => ("WoodenTurkModel", "at", "I", false)
  | 27 => ("WoodenTurkModel", "token", "I", false)
  | 28 => ("WoodenTurkModel", "tokenAt", "I", false)
  | 29 => ("WoodenTurkModel", "value", "I", false)
  | 30 => ("WoodenTurkModel", "wrong", "I", false)
  | 31 => ("WoodenTurkModel", "wrongAt", "I", false)
  | 32 => ("WoodenTurkModel", "faultKind", "I", false)
  | 33 => ("WoodenTurkModel", "depth", "I", false)
  | 34 => ("WoodenTurkModel", "faultPlace", "I", false)
  | 35 => ("WoodenTurkModel", "isShowText", "Z", false)
  | 36 => ("WoodenTurkModel", "sight", "[I", true)
  | 37 => ("WoodenTurkModel", "seconds", "I", false)
  | 38 => ("WoodenTurkModel", "allSeen", "I", false)
  | 39 => ("WoodenTurkModel", "mostOpen", "I", false)
  | 40 => ("WoodenTurkModel", "turnings", "I", false)
  | 41 => ("WoodenTurkModel", "openDoors", "I", false)
  | 42 => ("WoodenTurkModel", "candleAt", "I", false)
  | 43 => ("WoodenTurkModel", "frontSide", "I", false)
  | 44 => ("WoodenTurkModel", "can", "[Z", true)
  | 45 => ("WoodenTurkModel", "then", "[Z", true)
  | 46 => ("WoodenTurkModel", "failsAt", "I", false)
  | 47 => ("WoodenTurkModel", "goesOn", "[I", true)
  | 48 => ("WoodenTurkModel", "chosen", "[I", true)
  | 49 => ("WoodenTurkModel", "best", "[I", true)
  | 50 => ("WoodenTurkModel", "bestLong", "I", false)
  | 51 => ("WoodenTurkModel", "bestSeen", "I", false)
  | 52 => ("WoodenTurkModel", "board", "[I", true)
  | 53 => ("WoodenTurkModel", "known", "[I", true)
  | 54 => ("WoodenTurkModel", "sticks", "[Z", true)
  | 55 => ("WoodenTurkModel", "masters", "I", false)
  | 56 => ("WoodenTurkModel", "told", "I", false)
  | 57 => ("WoodenTurkModel", "nights", "I", false)
  | 58 => ("WoodenTurkModel", "strengthOf", "[I", true)
  | 59 => ("WoodenTurkModel", "fromYear", "[I", true)
  | 60 => ("WoodenTurkModel", "toYear", "[I", true)
  | 61 => ("WoodenTurkModel", "habits", "[I", true)
  | 62 => ("WoodenTurkModel", "wasWho", "[I", true)
  | 63 => ("WoodenTurkModel", "wasTown", "[I", true)
  | 64 => ("WoodenTurkModel", "wasYear", "[I", true)
  | 65 => ("WoodenTurkModel", "nightYear", "[I", true)
  | 66 => ("WoodenTurkModel", "nightTown", "[I", true)
  | 67 => ("WoodenTurkModel", "nightStrength", "[I", true)
  | 68 => ("WoodenTurkModel", "nightResult", "[I", true)
  | 69 => ("WoodenTurkModel", "nightAnswer", "[I", true)
  | 70 => ("WoodenTurkModel", "products", "[J", true)
  | 71 => ("WoodenTurkModel", "couples", "I", false)
  | 72 => ("WoodenTurkModel", "moves", "I", false)
  | 73 => ("WoodenTurkModel", "hisMove", "[I", true)
  | 74 => ("WoodenTurkModel", "ownMove", "[I", true)
  | 75 => ("WoodenTurkModel", "game", "[I", true)
  | 76 => ("WoodenTurkModel", "writers", "I", false)
  | 77 => ("WoodenTurkModel", "truth", "I", false)
  | 78 => ("WoodenTurkModel", "writerYear", "[I", true)
  | _ => ("WoodenTurkModel", "claimsOf", "[I", true)
noncomputable def tyX12 : Nat → FieldType := fun k => match k with
  | 0 => .array .int
  | 1 => .array .int
  | 2 => .array .int
  | 3 => .array .int
  | 4 => .array .boolean
  | 5 => .array .int
  | 6 => .array .int
  | 7 => .array .int
  | 8 => .int
  | 9 => .int
  | 10 => .array .int
  | 11 => .array .int
  | 12 => .array .int
  | 13 => .array .int
  | 14 => .array .int
  | 15 => .array .int
  | 16 => .array .int
  | 17 => .array .int
  | 18 => .array .int
  | 19 => .array .int
  | 20 => .array .int
  | 21 => .array .int
  | 22 => .int
  | 23 => .int
  | 24 => .int
  | 25 => .int
  | 26 => .int
  | 27 => .int
  | 28 => .int
  | 29 => .int
  | 30 => .int
  | 31 => .int
  | 32 => .int
  | 33 => .int
  | 34 => .int
  | 35 => .boolean
  | 36 => .array .int
  | 37 => .int
  | 38 => .int
  | 39 => .int
  | 40 => .int
  | 41 => .int
  | 42 => .int
  | 43 => .int
  | 44 => .array .boolean
  | 45 => .array .boolean
  | 46 => .int
  | 47 => .array .int
  | 48 => .array .int
  | 49 => .array .int
  | 50 => .int
  | 51 => .int
  | 52 => .array .int
  | 53 => .array .int
  | 54 => .array .boolean
  | 55 => .int
  | 56 => .int
  | 57 => .int
  | 58 => .array .int
  | 59 => .array .int
  | 60 => .array .int
  | 61 => .array .int
  | 62 => .array .int
  | 63 => .array .int
  | 64 => .array .int
  | 65 => .array .int
  | 66 => .array .int
  | 67 => .array .int
  | 68 => .array .int
  | 69 => .array .int
  | 70 => .array .long
  | 71 => .int
  | 72 => .int
  | 73 => .array .int
  | 74 => .array .int
  | 75 => .array .int
  | 76 => .int
  | 77 => .int
  | 78 => .array .int
  | _ => .array .int
noncomputable abbrev wsX120 : List Cond := u_ws RX12 TX12 80
theorem nmX12 : ∀ a, a < 80 → ∀ b, b < 80 → a ≠ b → (TX12 a).2.1 ≠ (TX12 b).2.1 := by decide +kernel
theorem tyX12_ok : ∀ k, k < 80 → parseFieldDescriptor (TX12 k).2.2.1 = some (tyX12 k) := by decide +kernel
noncomputable abbrev cX12_init : ByteArray := prog_14_method_1_code
noncomputable def yX12_init : MethodName := ⟨RX12, "<init>", "()V"⟩
noncomputable abbrev cX12_isIn : ByteArray := prog_14_method_2_code
noncomputable def yX12_isIn : MethodName := ⟨RX12, "isIn", "(III)Z"⟩
noncomputable abbrev cX12_isChest : ByteArray := prog_14_method_3_code
noncomputable def yX12_isChest : MethodName := ⟨RX12, "isChest", "(I)Z"⟩
noncomputable abbrev cX12_isSpace : ByteArray := prog_14_method_4_code
noncomputable def yX12_isSpace : MethodName := ⟨RX12, "isSpace", "(I)Z"⟩
noncomputable abbrev cX12_isShow : ByteArray := prog_14_method_5_code
noncomputable def yX12_isShow : MethodName := ⟨RX12, "isShow", "(I)Z"⟩
noncomputable abbrev cX12_isSize : ByteArray := prog_14_method_6_code
noncomputable def yX12_isSize : MethodName := ⟨RX12, "isSize", "(I)Z"⟩
noncomputable abbrev cX12_bits : ByteArray := prog_14_method_7_code
noncomputable def yX12_bits : MethodName := ⟨RX12, "bits", "(I)I"⟩
noncomputable abbrev cX12_apart : ByteArray := prog_14_method_8_code
noncomputable def yX12_apart : MethodName := ⟨RX12, "apart", "(II)I"⟩
noncomputable abbrev cX12_areNeighbours : ByteArray := prog_14_method_9_code
noncomputable def yX12_areNeighbours : MethodName := ⟨RX12, "areNeighbours", "(II)Z"⟩
noncomputable abbrev cX12_works : ByteArray := prog_14_method_10_code
noncomputable def yX12_works : MethodName := ⟨RX12, "works", "(IIZ)Z"⟩
noncomputable abbrev cX12_wall : ByteArray := prog_14_method_11_code
noncomputable def yX12_wall : MethodName := ⟨RX12, "wall", "(IIIZ)Z"⟩
noncomputable abbrev cX12_isSet : ByteArray := prog_14_method_12_code
noncomputable def yX12_isSet : MethodName := ⟨RX12, "isSet", "(I)Z"⟩
noncomputable abbrev cX12_door : ByteArray := prog_14_method_13_code
noncomputable def yX12_door : MethodName := ⟨RX12, "door", "(IIIIZ)Z"⟩
noncomputable abbrev cX12_isPassage : ByteArray := prog_14_method_14_code
noncomputable def yX12_isPassage : MethodName := ⟨RX12, "isPassage", "(III)Z"⟩
noncomputable abbrev cX12_hangs : ByteArray := prog_14_method_15_code
noncomputable def yX12_hangs : MethodName := ⟨RX12, "hangs", "(II)Z"⟩
noncomputable abbrev cX12_findsPoses : ByteArray := prog_14_method_16_code
noncomputable def yX12_findsPoses : MethodName := ⟨RX12, "findsPoses", "(II)V"⟩
noncomputable abbrev cX12_poses : ByteArray := prog_14_method_17_code
noncomputable def yX12_poses : MethodName := ⟨RX12, "poses", "(II)I"⟩
noncomputable abbrev cX12_feed : ByteArray := prog_14_method_18_code
noncomputable def yX12_feed : MethodName := ⟨RX12, "feed", "(IIIII)I"⟩
noncomputable abbrev cX12_end : ByteArray := prog_14_method_19_code
noncomputable def yX12_end : MethodName := ⟨RX12, "end", "(I)Z"⟩
noncomputable abbrev cX12_see : ByteArray := prog_14_method_20_code
noncomputable def yX12_see : MethodName := ⟨RX12, "see", "(I)I"⟩
noncomputable abbrev cX12_isLetter : ByteArray := prog_14_method_21_code
noncomputable def yX12_isLetter : MethodName := ⟨RX12, "isLetter", "(I)Z"⟩
noncomputable abbrev cX12_isDigit : ByteArray := prog_14_method_22_code
noncomputable def yX12_isDigit : MethodName := ⟨RX12, "isDigit", "(I)Z"⟩
noncomputable abbrev cX12_is : ByteArray := prog_14_method_23_code
noncomputable def yX12_is : MethodName := ⟨RX12, "is", "(Ljava/lang/String;)Z"⟩
noncomputable abbrev cX12_showWord : ByteArray := prog_14_method_24_code
noncomputable def yX12_showWord : MethodName := ⟨RX12, "showWord", "()I"⟩
noncomputable abbrev cX12_word : ByteArray := prog_14_method_25_code
noncomputable def yX12_word : MethodName := ⟨RX12, "word", "()I"⟩
noncomputable abbrev cX12_isSign : ByteArray := prog_14_method_26_code
noncomputable def yX12_isSign : MethodName := ⟨RX12, "isSign", "(I)Z"⟩
noncomputable abbrev cX12_next0 : ByteArray := prog_14_method_27_code
noncomputable def yX12_next0 : MethodName := ⟨RX12, "next0", "()V"⟩
noncomputable abbrev cX12_bad : ByteArray := prog_14_method_28_code
noncomputable def yX12_bad : MethodName := ⟨RX12, "bad", "(I)Z"⟩
noncomputable abbrev cX12_need : ByteArray := prog_14_method_29_code
noncomputable def yX12_need : MethodName := ⟨RX12, "need", "(I)Z"⟩
noncomputable abbrev cX12_number : ByteArray := prog_14_method_30_code
noncomputable def yX12_number : MethodName := ⟨RX12, "number", "(II)Z"⟩
noncomputable abbrev cX12_lay : ByteArray := prog_14_method_31_code
noncomputable def yX12_lay : MethodName := ⟨RX12, "lay", "(II)V"⟩
noncomputable abbrev cX12_opens : ByteArray := prog_14_method_32_code
noncomputable def yX12_opens : MethodName := ⟨RX12, "opens", "()Z"⟩
noncomputable abbrev cX12_sumUp : ByteArray := prog_14_method_33_code
noncomputable def yX12_sumUp : MethodName := ⟨RX12, "sumUp", "()Z"⟩
noncomputable abbrev cX12_product : ByteArray := prog_14_method_34_code
noncomputable def yX12_product : MethodName := ⟨RX12, "product", "()Z"⟩
noncomputable abbrev cX12_unit : ByteArray := prog_14_method_35_code
noncomputable def yX12_unit : MethodName := ⟨RX12, "unit", "()Z"⟩
noncomputable abbrev cX12_any : ByteArray := prog_14_method_36_code
noncomputable def yX12_any : MethodName := ⟨RX12, "any", "()Z"⟩
noncomputable abbrev cX12_every : ByteArray := prog_14_method_37_code
noncomputable def yX12_every : MethodName := ⟨RX12, "every", "()Z"⟩
noncomputable abbrev cX12_one : ByteArray := prog_14_method_38_code
noncomputable def yX12_one : MethodName := ⟨RX12, "one", "()Z"⟩
noncomputable abbrev cX12_aStep : ByteArray := prog_14_method_39_code
noncomputable def yX12_aStep : MethodName := ⟨RX12, "aStep", "()Z"⟩
noncomputable abbrev cX12_aReason : ByteArray := prog_14_method_40_code
noncomputable def yX12_aReason : MethodName := ⟨RX12, "aReason", "()Z"⟩
noncomputable abbrev cX12_text : ByteArray := prog_14_method_41_code
noncomputable def yX12_text : MethodName := ⟨RX12, "text", "(I)I"⟩
noncomputable abbrev cX12_keepsShow : ByteArray := prog_14_method_42_code
noncomputable def yX12_keepsShow : MethodName := ⟨RX12, "keepsShow", "(I)V"⟩
noncomputable abbrev cX12_keepsReasons : ByteArray := prog_14_method_43_code
noncomputable def yX12_keepsReasons : MethodName := ⟨RX12, "keepsReasons", "()V"⟩
noncomputable abbrev cX12_fault : ByteArray := prog_14_method_44_code
noncomputable def yX12_fault : MethodName := ⟨RX12, "fault", "(I)I"⟩
noncomputable abbrev cX12_sees : ByteArray := prog_14_method_45_code
noncomputable def yX12_sees : MethodName := ⟨RX12, "sees", "(I)I"⟩
noncomputable abbrev cX12_through : ByteArray := prog_14_method_46_code
noncomputable def yX12_through : MethodName := ⟨RX12, "through", "(IIZ)I"⟩
noncomputable abbrev cX12_begins : ByteArray := prog_14_method_47_code
noncomputable def yX12_begins : MethodName := ⟨RX12, "begins", "()V"⟩
noncomputable abbrev cX12_does : ByteArray := prog_14_method_48_code
noncomputable def yX12_does : MethodName := ⟨RX12, "does", "(III)V"⟩
noncomputable abbrev cX12_shows : ByteArray := prog_14_method_49_code
noncomputable def yX12_shows : MethodName := ⟨RX12, "shows", "(II)V"⟩
noncomputable abbrev cX12_seen : ByteArray := prog_14_method_50_code
noncomputable def yX12_seen : MethodName := ⟨RX12, "seen", "(III)I"⟩
noncomputable abbrev cX12_run : ByteArray := prog_14_method_51_code
noncomputable def yX12_run : MethodName := ⟨RX12, "run", "(III)I"⟩
noncomputable abbrev cX12_isMove : ByteArray := prog_14_method_52_code
noncomputable def yX12_isMove : MethodName := ⟨RX12, "isMove", "(IIII)Z"⟩
noncomputable abbrev cX12_hides : ByteArray := prog_14_method_53_code
noncomputable def yX12_hides : MethodName := ⟨RX12, "hides", "(II)I"⟩
noncomputable abbrev cX12_hide : ByteArray := prog_14_method_54_code
noncomputable def yX12_hide : MethodName := ⟨RX12, "hide", "(IIII)I"⟩
noncomputable abbrev cX12_isGoing : ByteArray := prog_14_method_55_code
noncomputable def yX12_isGoing : MethodName := ⟨RX12, "isGoing", "(II)Z"⟩
noncomputable abbrev cX12_leadsBack : ByteArray := prog_14_method_56_code
noncomputable def yX12_leadsBack : MethodName := ⟨RX12, "leadsBack", "()V"⟩
noncomputable abbrev cX12_way : ByteArray := prog_14_method_57_code
noncomputable def yX12_way : MethodName := ⟨RX12, "way", "(IIII)I"⟩
noncomputable abbrev cX12_tries : ByteArray := prog_14_method_58_code
noncomputable def yX12_tries : MethodName := ⟨RX12, "tries", "(IIIIII)V"⟩
noncomputable abbrev cX12_order : ByteArray := prog_14_method_59_code
noncomputable def yX12_order : MethodName := ⟨RX12, "order", "(IIIII)I"⟩
noncomputable abbrev cX12_proof : ByteArray := prog_14_method_60_code
noncomputable def yX12_proof : MethodName := ⟨RX12, "proof", "(III)I"⟩
noncomputable abbrev cX12_fact : ByteArray := prog_14_method_61_code
noncomputable def yX12_fact : MethodName := ⟨RX12, "fact", "(II)I"⟩
noncomputable abbrev cX12_both : ByteArray := prog_14_method_62_code
noncomputable def yX12_both : MethodName := ⟨RX12, "both", "(III)I"⟩
noncomputable abbrev cX12_comesTo : ByteArray := prog_14_method_63_code
noncomputable def yX12_comesTo : MethodName := ⟨RX12, "comesTo", "(II)I"⟩
noncomputable abbrev cX12_isMan : ByteArray := prog_14_method_64_code
noncomputable def yX12_isMan : MethodName := ⟨RX12, "isMan", "()Z"⟩
noncomputable abbrev cX12_weighs : ByteArray := prog_14_method_65_code
noncomputable def yX12_weighs : MethodName := ⟨RX12, "weighs", "(IZ)I"⟩
noncomputable abbrev cX12_reason : ByteArray := prog_14_method_66_code
noncomputable def yX12_reason : MethodName := ⟨RX12, "reason", "(I)I"⟩
noncomputable abbrev cX12_pamphlet : ByteArray := prog_14_method_67_code
noncomputable def yX12_pamphlet : MethodName := ⟨RX12, "pamphlet", "(I)I"⟩
noncomputable abbrev cX12_airOf : ByteArray := prog_14_method_68_code
noncomputable def yX12_airOf : MethodName := ⟨RX12, "airOf", "(I)I"⟩
noncomputable abbrev cX12_air : ByteArray := prog_14_method_69_code
noncomputable def yX12_air : MethodName := ⟨RX12, "air", "(III)I"⟩
noncomputable abbrev cX12_isSquare : ByteArray := prog_14_method_70_code
noncomputable def yX12_isSquare : MethodName := ⟨RX12, "isSquare", "(I)Z"⟩
noncomputable abbrev cX12_piece : ByteArray := prog_14_method_71_code
noncomputable def yX12_piece : MethodName := ⟨RX12, "piece", "(II)Z"⟩
noncomputable abbrev cX12_stick : ByteArray := prog_14_method_72_code
noncomputable def yX12_stick : MethodName := ⟨RX12, "stick", "(IZ)Z"⟩
noncomputable abbrev cX12_move : ByteArray := prog_14_method_73_code
noncomputable def yX12_move : MethodName := ⟨RX12, "move", "(III)Z"⟩
noncomputable abbrev cX12_board : ByteArray := prog_14_method_74_code
noncomputable def yX12_board : MethodName := ⟨RX12, "board", "(II)I"⟩
noncomputable abbrev cX12_isMaster : ByteArray := prog_14_method_75_code
noncomputable def yX12_isMaster : MethodName := ⟨RX12, "isMaster", "(I)Z"⟩
noncomputable abbrev cX12_master : ByteArray := prog_14_method_76_code
noncomputable def yX12_master : MethodName := ⟨RX12, "master", "(IIII)I"⟩
noncomputable abbrev cX12_was : ByteArray := prog_14_method_77_code
noncomputable def yX12_was : MethodName := ⟨RX12, "was", "(III)Z"⟩
noncomputable abbrev cX12_habit : ByteArray := prog_14_method_78_code
noncomputable def yX12_habit : MethodName := ⟨RX12, "habit", "(III)Z"⟩
noncomputable abbrev cX12_night : ByteArray := prog_14_method_79_code
noncomputable def yX12_night : MethodName := ⟨RX12, "night", "(IIIII)I"⟩
noncomputable abbrev cX12_mayBe : ByteArray := prog_14_method_80_code
noncomputable def yX12_mayBe : MethodName := ⟨RX12, "mayBe", "(II)Z"⟩
noncomputable abbrev cX12_weight : ByteArray := prog_14_method_81_code
noncomputable def yX12_weight : MethodName := ⟨RX12, "weight", "(II)I"⟩
noncomputable abbrev cX12_who : ByteArray := prog_14_method_82_code
noncomputable def yX12_who : MethodName := ⟨RX12, "who", "(III)I"⟩
noncomputable abbrev cX12_all : ByteArray := prog_14_method_83_code
noncomputable def yX12_all : MethodName := ⟨RX12, "all", "(III)I"⟩
noncomputable abbrev cX12_cam : ByteArray := prog_14_method_84_code
noncomputable def yX12_cam : MethodName := ⟨RX12, "cam", "(IIII)I"⟩
noncomputable abbrev cX12_game : ByteArray := prog_14_method_85_code
noncomputable def yX12_game : MethodName := ⟨RX12, "game", "(II)I"⟩
noncomputable abbrev cX12_answer : ByteArray := prog_14_method_86_code
noncomputable def yX12_answer : MethodName := ⟨RX12, "answer", "(I)I"⟩
noncomputable abbrev cX12_alone : ByteArray := prog_14_method_87_code
noncomputable def yX12_alone : MethodName := ⟨RX12, "alone", "(I)I"⟩
noncomputable abbrev cX12_areClaims : ByteArray := prog_14_method_88_code
noncomputable def yX12_areClaims : MethodName := ⟨RX12, "areClaims", "(I)Z"⟩
noncomputable abbrev cX12_many : ByteArray := prog_14_method_89_code
noncomputable def yX12_many : MethodName := ⟨RX12, "many", "(I)I"⟩
noncomputable abbrev cX12_writer : ByteArray := prog_14_method_90_code
noncomputable def yX12_writer : MethodName := ⟨RX12, "writer", "(II)I"⟩
noncomputable abbrev cX12_truth : ByteArray := prog_14_method_91_code
noncomputable def yX12_truth : MethodName := ⟨RX12, "truth", "(I)Z"⟩
noncomputable abbrev cX12_isAhead : ByteArray := prog_14_method_92_code
noncomputable def yX12_isAhead : MethodName := ⟨RX12, "isAhead", "(II)Z"⟩
noncomputable abbrev cX12_first : ByteArray := prog_14_method_93_code
noncomputable def yX12_first : MethodName := ⟨RX12, "first", "(I)I"⟩
noncomputable abbrev cX12_copied : ByteArray := prog_14_method_94_code
noncomputable def yX12_copied : MethodName := ⟨RX12, "copied", "(I)I"⟩
noncomputable abbrev cX12_story : ByteArray := prog_14_method_95_code
noncomputable def yX12_story : MethodName := ⟨RX12, "story", "(II)I"⟩
noncomputable def RJ11 : String := "java/lang/Character"
noncomputable def TJ11 : u_T := fun k => match k with
  | _ => ("", "", "", false)
noncomputable def tyJ11 : Nat → FieldType := fun k => match k with
  | _ => .int
noncomputable abbrev wsJ110 : List Cond := u_ws RJ11 TJ11 0
theorem nmJ11 : ∀ a, a < 0 → ∀ b, b < 0 → a ≠ b → (TJ11 a).2.1 ≠ (TJ11 b).2.1 := by decide +kernel
theorem tyJ11_ok : ∀ k, k < 0 → parseFieldDescriptor (TJ11 k).2.2.1 = some (tyJ11 k) := by decide +kernel
noncomputable abbrev cJ11_isValidCodePoint_9a6ad : ByteArray := prog_15_method_11_code
noncomputable def yJ11_isValidCodePoint_9a6ad : MethodName := ⟨RJ11, "isValidCodePoint", "(I)Z"⟩
noncomputable abbrev cJ11_highSurrogate_5068e : ByteArray := prog_15_method_28_code
noncomputable def yJ11_highSurrogate_5068e : MethodName := ⟨RJ11, "highSurrogate", "(I)C"⟩
noncomputable abbrev cJ11_lowSurrogate_5068e : ByteArray := prog_15_method_29_code
noncomputable def yJ11_lowSurrogate_5068e : MethodName := ⟨RJ11, "lowSurrogate", "(I)C"⟩
noncomputable def RJ6 : String := "java/lang/Integer"
noncomputable def TJ6 : u_T := fun k => match k with
  | _ => ("", "", "", false)
noncomputable def tyJ6 : Nat → FieldType := fun k => match k with
  | _ => .int
noncomputable abbrev wsJ60 : List Cond := u_ws RJ6 TJ6 0
theorem nmJ6 : ∀ a, a < 0 → ∀ b, b < 0 → a ≠ b → (TJ6 a).2.1 ≠ (TJ6 b).2.1 := by decide +kernel
theorem tyJ6_ok : ∀ k, k < 0 → parseFieldDescriptor (TJ6 k).2.2.1 = some (tyJ6 k) := by decide +kernel
noncomputable abbrev cJ6_lowestOneBit_0f7a4 : ByteArray := prog_16_method_46_code
noncomputable def yJ6_lowestOneBit_0f7a4 : MethodName := ⟨RJ6, "lowestOneBit", "(I)I"⟩
noncomputable abbrev cJ6_numberOfTrailingZeros_0f7a4 : ByteArray := prog_16_method_48_code
noncomputable def yJ6_numberOfTrailingZeros_0f7a4 : MethodName := ⟨RJ6, "numberOfTrailingZeros", "(I)I"⟩
noncomputable abbrev cJ6_bitCount_0f7a4 : ByteArray := prog_16_method_49_code
noncomputable def yJ6_bitCount_0f7a4 : MethodName := ⟨RJ6, "bitCount", "(I)I"⟩
noncomputable def RJ13 : String := "java/lang/Long"
noncomputable def TJ13 : u_T := fun k => match k with
  | _ => ("", "", "", false)
noncomputable def tyJ13 : Nat → FieldType := fun k => match k with
  | _ => .int
noncomputable abbrev wsJ130 : List Cond := u_ws RJ13 TJ13 0
theorem nmJ13 : ∀ a, a < 0 → ∀ b, b < 0 → a ≠ b → (TJ13 a).2.1 ≠ (TJ13 b).2.1 := by decide +kernel
theorem tyJ13_ok : ∀ k, k < 0 → parseFieldDescriptor (TJ13 k).2.2.1 = some (tyJ13 k) := by decide +kernel
noncomputable abbrev cJ13_numberOfTrailingZeros_95d88 : ByteArray := prog_17_method_49_code
noncomputable def yJ13_numberOfTrailingZeros_95d88 : MethodName := ⟨RJ13, "numberOfTrailingZeros", "(J)I"⟩
noncomputable abbrev cJ13_bitCount_95d88 : ByteArray := prog_17_method_50_code
noncomputable def yJ13_bitCount_95d88 : MethodName := ⟨RJ13, "bitCount", "(J)I"⟩
noncomputable def RJ9 : String := "java/lang/Math"
noncomputable def TJ9 : u_T := fun k => match k with
  | _ => ("", "", "", false)
noncomputable def tyJ9 : Nat → FieldType := fun k => match k with
  | _ => .int
noncomputable abbrev wsJ90 : List Cond := u_ws RJ9 TJ9 0
theorem nmJ9 : ∀ a, a < 0 → ∀ b, b < 0 → a ≠ b → (TJ9 a).2.1 ≠ (TJ9 b).2.1 := by decide +kernel
theorem tyJ9_ok : ∀ k, k < 0 → parseFieldDescriptor (TJ9 k).2.2.1 = some (tyJ9 k) := by decide +kernel
noncomputable abbrev cJ9_abs_0f7a4 : ByteArray := prog_18_method_59_code
noncomputable def yJ9_abs_0f7a4 : MethodName := ⟨RJ9, "abs", "(I)I"⟩
noncomputable abbrev cJ9_max_7cf53 : ByteArray := prog_18_method_65_code
noncomputable def yJ9_max_7cf53 : MethodName := ⟨RJ9, "max", "(II)I"⟩
noncomputable abbrev cJ9_max_f86c9 : ByteArray := prog_18_method_66_code
noncomputable def yJ9_max_f86c9 : MethodName := ⟨RJ9, "max", "(JJ)J"⟩
noncomputable abbrev cJ9_min_7cf53 : ByteArray := prog_18_method_69_code
noncomputable def yJ9_min_7cf53 : MethodName := ⟨RJ9, "min", "(II)I"⟩
noncomputable def RJ0 : String := "java/lang/String"
noncomputable def TJ0 : u_T := fun k => match k with
  | _ => ("", "", "", false)
noncomputable def tyJ0 : Nat → FieldType := fun k => match k with
  | _ => .int
noncomputable abbrev wsJ00 : List Cond := u_ws RJ0 TJ0 0
theorem nmJ0 : ∀ a, a < 0 → ∀ b, b < 0 → a ≠ b → (TJ0 a).2.1 ≠ (TJ0 b).2.1 := by decide +kernel
theorem tyJ0_ok : ∀ k, k < 0 → parseFieldDescriptor (TJ0 k).2.2.1 = some (tyJ0 k) := by decide +kernel
noncomputable abbrev cJ0_length_8abf5 : ByteArray := prog_19_method_54_code
noncomputable def yJ0_length_8abf5 : MethodName := ⟨RJ0, "length", "()I"⟩
noncomputable abbrev cJ0_charAt_5068e : ByteArray := prog_19_method_56_code
noncomputable def yJ0_charAt_5068e : MethodName := ⟨RJ0, "charAt", "(I)C"⟩
noncomputable abbrev cJ0_indexOf_0f7a4 : ByteArray := prog_19_method_79_code
noncomputable def yJ0_indexOf_0f7a4 : MethodName := ⟨RJ0, "indexOf", "(I)I"⟩
noncomputable abbrev cJ0_indexOf_7cf53 : ByteArray := prog_19_method_80_code
noncomputable def yJ0_indexOf_7cf53 : MethodName := ⟨RJ0, "indexOf", "(II)I"⟩
noncomputable abbrev cJ0_coder_7d493 : ByteArray := prog_19_method_152_code
noncomputable def yJ0_coder_7d493 : MethodName := ⟨RJ0, "coder", "()B"⟩
noncomputable abbrev cJ0_isLatin1_aae02 : ByteArray := prog_19_method_154_code
noncomputable def yJ0_isLatin1_aae02 : MethodName := ⟨RJ0, "isLatin1", "()Z"⟩
noncomputable abbrev cJ0_checkIndex_df160 : ByteArray := prog_19_method_155_code
noncomputable def yJ0_checkIndex_df160 : MethodName := ⟨RJ0, "checkIndex", "(II)V"⟩
noncomputable abbrev cJ0_checkBoundsBeginEnd_23922 : ByteArray := prog_19_method_158_code
noncomputable def yJ0_checkBoundsBeginEnd_23922 : MethodName := ⟨RJ0, "checkBoundsBeginEnd", "(III)V"⟩
noncomputable def RJ1 : String := "java/lang/StringLatin1"
noncomputable def TJ1 : u_T := fun k => match k with
  | _ => ("", "", "", false)
noncomputable def tyJ1 : Nat → FieldType := fun k => match k with
  | _ => .int
noncomputable abbrev wsJ10 : List Cond := u_ws RJ1 TJ1 0
theorem nmJ1 : ∀ a, a < 0 → ∀ b, b < 0 → a ≠ b → (TJ1 a).2.1 ≠ (TJ1 b).2.1 := by decide +kernel
theorem tyJ1_ok : ∀ k, k < 0 → parseFieldDescriptor (TJ1 k).2.2.1 = some (tyJ1 k) := by decide +kernel
noncomputable abbrev cJ1_charAt_3b067 : ByteArray := prog_20_method_2_code
noncomputable def yJ1_charAt_3b067 : MethodName := ⟨RJ1, "charAt", "([BI)C"⟩
noncomputable abbrev cJ1_canEncode_9a6ad : ByteArray := prog_20_method_4_code
noncomputable def yJ1_canEncode_9a6ad : MethodName := ⟨RJ1, "canEncode", "(I)Z"⟩
noncomputable abbrev cJ1_indexOf_4cfef : ByteArray := prog_20_method_22_code
noncomputable def yJ1_indexOf_4cfef : MethodName := ⟨RJ1, "indexOf", "([BIII)I"⟩
noncomputable abbrev cJ1_indexOfChar_4cfef : ByteArray := prog_20_method_23_code
noncomputable def yJ1_indexOfChar_4cfef : MethodName := ⟨RJ1, "indexOfChar", "([BIII)I"⟩
noncomputable def RJ2 : String := "java/lang/StringUTF16"
noncomputable def TJ2 : u_T := fun k => match k with
  | _ => ("", "", "", false)
noncomputable def tyJ2 : Nat → FieldType := fun k => match k with
  | _ => .int
noncomputable abbrev wsJ20 : List Cond := u_ws RJ2 TJ2 0
theorem nmJ2 : ∀ a, a < 0 → ∀ b, b < 0 → a ≠ b → (TJ2 a).2.1 ≠ (TJ2 b).2.1 := by decide +kernel
theorem tyJ2_ok : ∀ k, k < 0 → parseFieldDescriptor (TJ2 k).2.2.1 = some (tyJ2 k) := by decide +kernel
noncomputable abbrev cJ2_getChar_3b067 : ByteArray := prog_21_method_5_code
noncomputable def yJ2_getChar_3b067 : MethodName := ⟨RJ2, "getChar", "([BI)C"⟩
noncomputable abbrev cJ2_length_9d52b : ByteArray := prog_21_method_6_code
noncomputable def yJ2_length_9d52b : MethodName := ⟨RJ2, "length", "([B)I"⟩
noncomputable abbrev cJ2_indexOf_4cfef : ByteArray := prog_21_method_40_code
noncomputable def yJ2_indexOf_4cfef : MethodName := ⟨RJ2, "indexOf", "([BIII)I"⟩
noncomputable abbrev cJ2_indexOfChar_4cfef : ByteArray := prog_21_method_47_code
noncomputable def yJ2_indexOfChar_4cfef : MethodName := ⟨RJ2, "indexOfChar", "([BIII)I"⟩
noncomputable abbrev cJ2_indexOfCharUnsafe_4cfef : ByteArray := prog_21_method_48_code
noncomputable def yJ2_indexOfCharUnsafe_4cfef : MethodName := ⟨RJ2, "indexOfCharUnsafe", "([BIII)I"⟩
noncomputable abbrev cJ2_indexOfSupplementary_4cfef : ByteArray := prog_21_method_49_code
noncomputable def yJ2_indexOfSupplementary_4cfef : MethodName := ⟨RJ2, "indexOfSupplementary", "([BIII)I"⟩
noncomputable abbrev cJ2_charAt_3b067 : ByteArray := prog_21_method_83_code
noncomputable def yJ2_charAt_3b067 : MethodName := ⟨RJ2, "charAt", "([BI)C"⟩
noncomputable abbrev cJ2_checkIndex_2214a : ByteArray := prog_21_method_91_code
noncomputable def yJ2_checkIndex_2214a : MethodName := ⟨RJ2, "checkIndex", "(I[B)V"⟩
noncomputable abbrev cJ2_checkBoundsBeginEnd_d044e : ByteArray := prog_21_method_93_code
noncomputable def yJ2_checkBoundsBeginEnd_d044e : MethodName := ⟨RJ2, "checkBoundsBeginEnd", "(II[B)V"⟩
noncomputable def RJ10 : String := "java/lang/System"
noncomputable def TJ10 : u_T := fun k => match k with
  | _ => ("", "", "", false)
noncomputable def tyJ10 : Nat → FieldType := fun k => match k with
  | _ => .int
noncomputable abbrev wsJ100 : List Cond := u_ws RJ10 TJ10 0
theorem nmJ10 : ∀ a, a < 0 → ∀ b, b < 0 → a ≠ b → (TJ10 a).2.1 ≠ (TJ10 b).2.1 := by decide +kernel
theorem tyJ10_ok : ∀ k, k < 0 → parseFieldDescriptor (TJ10 k).2.2.1 = some (tyJ10 k) := by decide +kernel
noncomputable def RJ3 : String := "jdk/internal/util/Preconditions"
noncomputable def TJ3 : u_T := fun k => match k with
  | _ => ("", "", "", false)
noncomputable def tyJ3 : Nat → FieldType := fun k => match k with
  | _ => .int
noncomputable abbrev wsJ30 : List Cond := u_ws RJ3 TJ3 0
theorem nmJ3 : ∀ a, a < 0 → ∀ b, b < 0 → a ≠ b → (TJ3 a).2.1 ≠ (TJ3 b).2.1 := by decide +kernel
theorem tyJ3_ok : ∀ k, k < 0 → parseFieldDescriptor (TJ3 k).2.2.1 = some (tyJ3 k) := by decide +kernel
noncomputable abbrev cJ3_checkIndex_8e157 : ByteArray := prog_23_method_11_code
noncomputable def yJ3_checkIndex_8e157 : MethodName := ⟨RJ3, "checkIndex", "(IILjava/util/function/BiFunction;)I"⟩
noncomputable abbrev cJ3_checkFromToIndex_8c36e : ByteArray := prog_23_method_12_code
noncomputable def yJ3_checkFromToIndex_8c36e : MethodName := ⟨RJ3, "checkFromToIndex", "(IIILjava/util/function/BiFunction;)I"⟩
noncomputable def RL : String := "WoodenTurkLaw"
noncomputable abbrev cL_law : ByteArray := code
noncomputable def yL_law : MethodName := ⟨RL, "law", "([I)Z"⟩
noncomputable abbrev vwCl : List vw_C := [(RX0, TX0, 5), (RX1, TX1, 3), (RX2, TX2, 6), (RX3, TX3, 16), (RX4, TX4, 14), (RX5, TX5, 11), (RX6, TX6, 6), (RX7, TX7, 10), (RX8, TX8, 2), (RX9, TX9, 8), (RX10, TX10, 4), (RX11, TX11, 10), (RX12, TX12, 80)]
