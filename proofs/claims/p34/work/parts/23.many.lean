section
/-! shows and hiding -/
noncomputable def C_sideOfV_64 : Nat × yC := (26, (1, [(2, 64, 64), (0, (-2147483648), 2147483647)], (0, (-1), 1), [], [], [], [], 0, []))
theorem T_sideOfV_64 {w0 : qW} : yCOK w0 zgf zga zra zSp zgh C_sideOfV_64.1 C_sideOfV_64.2 := yctr (bv := fun _ _ => none) (bb := fun _ => none) (ct := yctl []) (an := fun k pc => none) (fk := fun k pc => none) (f := 100000) zgh0 (fun _ _ _ h => by cases h) (fun _ _ h => by cases h) zSp_ok (fun w hw => yctl_ok (P := fun t c => yCOK w zgf zga zra zSp zgh t c) ylnil) (by decide +kernel)
noncomputable def C_sideOfV_69 : Nat × yC := (26, (1, [(2, 69, 69), (0, (-2147483648), 2147483647)], (0, (-1), 1), [], [], [], [], 0, []))
theorem T_sideOfV_69 {w0 : qW} : yCOK w0 zgf zga zra zSp zgh C_sideOfV_69.1 C_sideOfV_69.2 := yctr (bv := fun _ _ => none) (bb := fun _ => none) (ct := yctl []) (an := fun k pc => none) (fk := fun k pc => none) (f := 100000) zgh0 (fun _ _ _ h => by cases h) (fun _ _ h => by cases h) zSp_ok (fun w hw => yctl_ok (P := fun t c => yCOK w zgf zga zra zSp zgh t c) ylnil) (by decide +kernel)
noncomputable def C_sideOfV_74 : Nat × yC := (26, (1, [(2, 74, 74), (0, (-2147483648), 2147483647)], (0, (-1), 1), [], [], [], [], 0, []))
theorem T_sideOfV_74 {w0 : qW} : yCOK w0 zgf zga zra zSp zgh C_sideOfV_74.1 C_sideOfV_74.2 := yctr (bv := fun _ _ => none) (bb := fun _ => none) (ct := yctl []) (an := fun k pc => none) (fk := fun k pc => none) (f := 100000) zgh0 (fun _ _ _ h => by cases h) (fun _ _ h => by cases h) zSp_ok (fun w hw => yctl_ok (P := fun t c => yCOK w zgf zga zra zSp zgh t c) ylnil) (by decide +kernel)
noncomputable def C_takeStepV_4 : Nat × yC := (112, (3, [(2, 4, 4), (0, (-2147483648), 2147483647), (0, (-2147483648), 2147483647)], (9, 0, 0), [5004, 6004, 7004, 10004], [], [], [], 0, []))
theorem T_takeStepV_4 {w0 : qW} : yCOK w0 zgf zga zra zSp zgh C_takeStepV_4.1 C_takeStepV_4.2 := yctr (bv := fun _ _ => none) (bb := fun _ => none) (ct := yctl []) (an := fun k pc => none) (fk := fun k pc => none) (f := 100000) zgh0 (fun _ _ _ h => by cases h) (fun _ _ h => by cases h) zSp_ok (fun w hw => yctl_ok (P := fun t c => yCOK w zgf zga zra zSp zgh t c) ylnil) (by decide +kernel)
noncomputable def C_takeStepV_79 : Nat × yC := (112, (3, [(2, 79, 79), (0, (-2147483648), 2147483647), (0, (-2147483648), 2147483647)], (9, 0, 0), [5079, 6079, 7079, 10079], [], [], [], 0, []))
theorem T_takeStepV_79 {w0 : qW} : yCOK w0 zgf zga zra zSp zgh C_takeStepV_79.1 C_takeStepV_79.2 := yctr (bv := fun _ _ => none) (bb := fun _ => none) (ct := yctl []) (an := fun k pc => none) (fk := fun k pc => none) (f := 100000) zgh0 (fun _ _ _ h => by cases h) (fun _ _ h => by cases h) zSp_ok (fun w hw => yctl_ok (P := fun t c => yCOK w zgf zga zra zSp zgh t c) ylnil) (by decide +kernel)
noncomputable def C_takeStepV_83 : Nat × yC := (112, (3, [(2, 83, 83), (0, (-2147483648), 2147483647), (0, (-2147483648), 2147483647)], (9, 0, 0), [5083, 6083, 7083, 10083], [], [], [], 0, []))
theorem T_takeStepV_83 {w0 : qW} : yCOK w0 zgf zga zra zSp zgh C_takeStepV_83.1 C_takeStepV_83.2 := yctr (bv := fun _ _ => none) (bb := fun _ => none) (ct := yctl []) (an := fun k pc => none) (fk := fun k pc => none) (f := 100000) zgh0 (fun _ _ _ h => by cases h) (fun _ _ h => by cases h) zSp_ok (fun w hw => yctl_ok (P := fun t c => yCOK w zgf zga zra zSp zgh t c) ylnil) (by decide +kernel)
noncomputable def C_takeStepV_87 : Nat × yC := (112, (3, [(2, 87, 87), (0, (-2147483648), 2147483647), (0, (-2147483648), 2147483647)], (9, 0, 0), [5087, 6087, 7087, 10087], [], [], [], 0, []))
theorem T_takeStepV_87 {w0 : qW} : yCOK w0 zgf zga zra zSp zgh C_takeStepV_87.1 C_takeStepV_87.2 := yctr (bv := fun _ _ => none) (bb := fun _ => none) (ct := yctl []) (an := fun k pc => none) (fk := fun k pc => none) (f := 100000) zgh0 (fun _ _ _ h => by cases h) (fun _ _ h => by cases h) zSp_ok (fun w hw => yctl_ok (P := fun t c => yCOK w zgf zga zra zSp zgh t c) ylnil) (by decide +kernel)
noncomputable def C_takeStepV_91 : Nat × yC := (112, (3, [(2, 91, 91), (0, (-2147483648), 2147483647), (0, (-2147483648), 2147483647)], (9, 0, 0), [5091, 6091, 7091, 10091], [], [], [], 0, []))
theorem T_takeStepV_91 {w0 : qW} : yCOK w0 zgf zga zra zSp zgh C_takeStepV_91.1 C_takeStepV_91.2 := yctr (bv := fun _ _ => none) (bb := fun _ => none) (ct := yctl []) (an := fun k pc => none) (fk := fun k pc => none) (f := 100000) zgh0 (fun _ _ _ h => by cases h) (fun _ _ h => by cases h) zSp_ok (fun w hw => yctl_ok (P := fun t c => yCOK w zgf zga zra zSp zgh t c) ylnil) (by decide +kernel)
noncomputable def C_viewNowV_4_64 : Nat × yC := (113, (3, [(2, 4, 4), (2, 64, 64)], (0, 0, 65535), [], [], [], [], 0, []))
theorem T_viewNowV_4_64 {w0 : qW} : yCOK w0 zgf zga zra zSp zgh C_viewNowV_4_64.1 C_viewNowV_4_64.2 := yctr (bv := fun _ _ => none) (bb := fun _ => none) (ct := yctl [C_sideOfV_64, C_shownBy_64]) (an := fun k pc => bif Nat.beq k 113 then (bif Nat.beq pc 4 then some ([none, none, some (0, 0, 65535), some (0, 0, 2147483647)], [], [(3, (-1))]) else none) else none) (fk := fun k pc => none) (f := 100000) zgh0 (fun _ _ _ h => by cases h) (fun _ _ h => by cases h) zSp_ok (fun w hw => yctl_ok (P := fun t c => yCOK w zgf zga zra zSp zgh t c) (ylcons (T_sideOfV_64 : yCOK w zgf zga zra zSp zgh C_sideOfV_64.1 C_sideOfV_64.2) (ylcons (T_shownBy_64 : yCOK w zgf zga zra zSp zgh C_shownBy_64.1 C_shownBy_64.2) ylnil))) (by decide +kernel)
noncomputable def C_viewNowV_79_64 : Nat × yC := (113, (3, [(2, 79, 79), (2, 64, 64)], (0, 0, 65535), [], [], [], [], 0, []))
theorem T_viewNowV_79_64 {w0 : qW} : yCOK w0 zgf zga zra zSp zgh C_viewNowV_79_64.1 C_viewNowV_79_64.2 := yctr (bv := fun _ _ => none) (bb := fun _ => none) (ct := yctl [C_sideOfV_64, C_shownBy_64]) (an := fun k pc => bif Nat.beq k 113 then (bif Nat.beq pc 4 then some ([none, none, some (0, 0, 65535), some (0, 0, 2147483647)], [], [(3, (-1))]) else none) else none) (fk := fun k pc => none) (f := 100000) zgh0 (fun _ _ _ h => by cases h) (fun _ _ h => by cases h) zSp_ok (fun w hw => yctl_ok (P := fun t c => yCOK w zgf zga zra zSp zgh t c) (ylcons (T_sideOfV_64 : yCOK w zgf zga zra zSp zgh C_sideOfV_64.1 C_sideOfV_64.2) (ylcons (T_shownBy_64 : yCOK w zgf zga zra zSp zgh C_shownBy_64.1 C_shownBy_64.2) ylnil))) (by decide +kernel)
noncomputable def C_viewNowV_83_64 : Nat × yC := (113, (3, [(2, 83, 83), (2, 64, 64)], (0, 0, 65535), [], [], [], [], 0, []))
theorem T_viewNowV_83_64 {w0 : qW} : yCOK w0 zgf zga zra zSp zgh C_viewNowV_83_64.1 C_viewNowV_83_64.2 := yctr (bv := fun _ _ => none) (bb := fun _ => none) (ct := yctl [C_sideOfV_64, C_shownBy_64]) (an := fun k pc => bif Nat.beq k 113 then (bif Nat.beq pc 4 then some ([none, none, some (0, 0, 65535), some (0, 0, 2147483647)], [], [(3, (-1))]) else none) else none) (fk := fun k pc => none) (f := 100000) zgh0 (fun _ _ _ h => by cases h) (fun _ _ h => by cases h) zSp_ok (fun w hw => yctl_ok (P := fun t c => yCOK w zgf zga zra zSp zgh t c) (ylcons (T_sideOfV_64 : yCOK w zgf zga zra zSp zgh C_sideOfV_64.1 C_sideOfV_64.2) (ylcons (T_shownBy_64 : yCOK w zgf zga zra zSp zgh C_shownBy_64.1 C_shownBy_64.2) ylnil))) (by decide +kernel)
noncomputable def C_viewNowV_87_64 : Nat × yC := (113, (3, [(2, 87, 87), (2, 64, 64)], (0, 0, 65535), [], [], [], [], 0, []))
theorem T_viewNowV_87_64 {w0 : qW} : yCOK w0 zgf zga zra zSp zgh C_viewNowV_87_64.1 C_viewNowV_87_64.2 := yctr (bv := fun _ _ => none) (bb := fun _ => none) (ct := yctl [C_sideOfV_64, C_shownBy_64]) (an := fun k pc => bif Nat.beq k 113 then (bif Nat.beq pc 4 then some ([none, none, some (0, 0, 65535), some (0, 0, 2147483647)], [], [(3, (-1))]) else none) else none) (fk := fun k pc => none) (f := 100000) zgh0 (fun _ _ _ h => by cases h) (fun _ _ h => by cases h) zSp_ok (fun w hw => yctl_ok (P := fun t c => yCOK w zgf zga zra zSp zgh t c) (ylcons (T_sideOfV_64 : yCOK w zgf zga zra zSp zgh C_sideOfV_64.1 C_sideOfV_64.2) (ylcons (T_shownBy_64 : yCOK w zgf zga zra zSp zgh C_shownBy_64.1 C_shownBy_64.2) ylnil))) (by decide +kernel)
noncomputable def C_viewNowV_91_64 : Nat × yC := (113, (3, [(2, 91, 91), (2, 64, 64)], (0, 0, 65535), [], [], [], [], 0, []))
theorem T_viewNowV_91_64 {w0 : qW} : yCOK w0 zgf zga zra zSp zgh C_viewNowV_91_64.1 C_viewNowV_91_64.2 := yctr (bv := fun _ _ => none) (bb := fun _ => none) (ct := yctl [C_sideOfV_64, C_shownBy_64]) (an := fun k pc => bif Nat.beq k 113 then (bif Nat.beq pc 4 then some ([none, none, some (0, 0, 65535), some (0, 0, 2147483647)], [], [(3, (-1))]) else none) else none) (fk := fun k pc => none) (f := 100000) zgh0 (fun _ _ _ h => by cases h) (fun _ _ h => by cases h) zSp_ok (fun w hw => yctl_ok (P := fun t c => yCOK w zgf zga zra zSp zgh t c) (ylcons (T_sideOfV_64 : yCOK w zgf zga zra zSp zgh C_sideOfV_64.1 C_sideOfV_64.2) (ylcons (T_shownBy_64 : yCOK w zgf zga zra zSp zgh C_shownBy_64.1 C_shownBy_64.2) ylnil))) (by decide +kernel)
noncomputable def C_viewNowV_4_69 : Nat × yC := (113, (3, [(2, 4, 4), (2, 69, 69)], (0, 0, 65535), [], [], [], [], 0, []))
theorem T_viewNowV_4_69 {w0 : qW} : yCOK w0 zgf zga zra zSp zgh C_viewNowV_4_69.1 C_viewNowV_4_69.2 := yctr (bv := fun _ _ => none) (bb := fun _ => none) (ct := yctl [C_sideOfV_69, C_shownBy_69]) (an := fun k pc => bif Nat.beq k 113 then (bif Nat.beq pc 4 then some ([none, none, some (0, 0, 65535), some (0, 0, 2147483647)], [], [(3, (-1))]) else none) else none) (fk := fun k pc => none) (f := 100000) zgh0 (fun _ _ _ h => by cases h) (fun _ _ h => by cases h) zSp_ok (fun w hw => yctl_ok (P := fun t c => yCOK w zgf zga zra zSp zgh t c) (ylcons (T_sideOfV_69 : yCOK w zgf zga zra zSp zgh C_sideOfV_69.1 C_sideOfV_69.2) (ylcons (T_shownBy_69 : yCOK w zgf zga zra zSp zgh C_shownBy_69.1 C_shownBy_69.2) ylnil))) (by decide +kernel)
noncomputable def C_viewNowV_79_69 : Nat × yC := (113, (3, [(2, 79, 79), (2, 69, 69)], (0, 0, 65535), [], [], [], [], 0, []))
theorem T_viewNowV_79_69 {w0 : qW} : yCOK w0 zgf zga zra zSp zgh C_viewNowV_79_69.1 C_viewNowV_79_69.2 := yctr (bv := fun _ _ => none) (bb := fun _ => none) (ct := yctl [C_sideOfV_69, C_shownBy_69]) (an := fun k pc => bif Nat.beq k 113 then (bif Nat.beq pc 4 then some ([none, none, some (0, 0, 65535), some (0, 0, 2147483647)], [], [(3, (-1))]) else none) else none) (fk := fun k pc => none) (f := 100000) zgh0 (fun _ _ _ h => by cases h) (fun _ _ h => by cases h) zSp_ok (fun w hw => yctl_ok (P := fun t c => yCOK w zgf zga zra zSp zgh t c) (ylcons (T_sideOfV_69 : yCOK w zgf zga zra zSp zgh C_sideOfV_69.1 C_sideOfV_69.2) (ylcons (T_shownBy_69 : yCOK w zgf zga zra zSp zgh C_shownBy_69.1 C_shownBy_69.2) ylnil))) (by decide +kernel)
noncomputable def C_viewNowV_83_69 : Nat × yC := (113, (3, [(2, 83, 83), (2, 69, 69)], (0, 0, 65535), [], [], [], [], 0, []))
theorem T_viewNowV_83_69 {w0 : qW} : yCOK w0 zgf zga zra zSp zgh C_viewNowV_83_69.1 C_viewNowV_83_69.2 := yctr (bv := fun _ _ => none) (bb := fun _ => none) (ct := yctl [C_sideOfV_69, C_shownBy_69]) (an := fun k pc => bif Nat.beq k 113 then (bif Nat.beq pc 4 then some ([none, none, some (0, 0, 65535), some (0, 0, 2147483647)], [], [(3, (-1))]) else none) else none) (fk := fun k pc => none) (f := 100000) zgh0 (fun _ _ _ h => by cases h) (fun _ _ h => by cases h) zSp_ok (fun w hw => yctl_ok (P := fun t c => yCOK w zgf zga zra zSp zgh t c) (ylcons (T_sideOfV_69 : yCOK w zgf zga zra zSp zgh C_sideOfV_69.1 C_sideOfV_69.2) (ylcons (T_shownBy_69 : yCOK w zgf zga zra zSp zgh C_shownBy_69.1 C_shownBy_69.2) ylnil))) (by decide +kernel)
noncomputable def C_viewNowV_87_69 : Nat × yC := (113, (3, [(2, 87, 87), (2, 69, 69)], (0, 0, 65535), [], [], [], [], 0, []))
theorem T_viewNowV_87_69 {w0 : qW} : yCOK w0 zgf zga zra zSp zgh C_viewNowV_87_69.1 C_viewNowV_87_69.2 := yctr (bv := fun _ _ => none) (bb := fun _ => none) (ct := yctl [C_sideOfV_69, C_shownBy_69]) (an := fun k pc => bif Nat.beq k 113 then (bif Nat.beq pc 4 then some ([none, none, some (0, 0, 65535), some (0, 0, 2147483647)], [], [(3, (-1))]) else none) else none) (fk := fun k pc => none) (f := 100000) zgh0 (fun _ _ _ h => by cases h) (fun _ _ h => by cases h) zSp_ok (fun w hw => yctl_ok (P := fun t c => yCOK w zgf zga zra zSp zgh t c) (ylcons (T_sideOfV_69 : yCOK w zgf zga zra zSp zgh C_sideOfV_69.1 C_sideOfV_69.2) (ylcons (T_shownBy_69 : yCOK w zgf zga zra zSp zgh C_shownBy_69.1 C_shownBy_69.2) ylnil))) (by decide +kernel)
noncomputable def C_viewNowV_91_69 : Nat × yC := (113, (3, [(2, 91, 91), (2, 69, 69)], (0, 0, 65535), [], [], [], [], 0, []))
theorem T_viewNowV_91_69 {w0 : qW} : yCOK w0 zgf zga zra zSp zgh C_viewNowV_91_69.1 C_viewNowV_91_69.2 := yctr (bv := fun _ _ => none) (bb := fun _ => none) (ct := yctl [C_sideOfV_69, C_shownBy_69]) (an := fun k pc => bif Nat.beq k 113 then (bif Nat.beq pc 4 then some ([none, none, some (0, 0, 65535), some (0, 0, 2147483647)], [], [(3, (-1))]) else none) else none) (fk := fun k pc => none) (f := 100000) zgh0 (fun _ _ _ h => by cases h) (fun _ _ h => by cases h) zSp_ok (fun w hw => yctl_ok (P := fun t c => yCOK w zgf zga zra zSp zgh t c) (ylcons (T_sideOfV_69 : yCOK w zgf zga zra zSp zgh C_sideOfV_69.1 C_sideOfV_69.2) (ylcons (T_shownBy_69 : yCOK w zgf zga zra zSp zgh C_shownBy_69.1 C_shownBy_69.2) ylnil))) (by decide +kernel)
noncomputable def C_viewNowV_4_74 : Nat × yC := (113, (3, [(2, 4, 4), (2, 74, 74)], (0, 0, 65535), [], [], [], [], 0, []))
theorem T_viewNowV_4_74 {w0 : qW} : yCOK w0 zgf zga zra zSp zgh C_viewNowV_4_74.1 C_viewNowV_4_74.2 := yctr (bv := fun _ _ => none) (bb := fun _ => none) (ct := yctl [C_sideOfV_74, C_shownBy_74]) (an := fun k pc => bif Nat.beq k 113 then (bif Nat.beq pc 4 then some ([none, none, some (0, 0, 65535), some (0, 0, 2147483647)], [], [(3, (-1))]) else none) else none) (fk := fun k pc => none) (f := 100000) zgh0 (fun _ _ _ h => by cases h) (fun _ _ h => by cases h) zSp_ok (fun w hw => yctl_ok (P := fun t c => yCOK w zgf zga zra zSp zgh t c) (ylcons (T_sideOfV_74 : yCOK w zgf zga zra zSp zgh C_sideOfV_74.1 C_sideOfV_74.2) (ylcons (T_shownBy_74 : yCOK w zgf zga zra zSp zgh C_shownBy_74.1 C_shownBy_74.2) ylnil))) (by decide +kernel)
noncomputable def C_viewNowV_79_74 : Nat × yC := (113, (3, [(2, 79, 79), (2, 74, 74)], (0, 0, 65535), [], [], [], [], 0, []))
theorem T_viewNowV_79_74 {w0 : qW} : yCOK w0 zgf zga zra zSp zgh C_viewNowV_79_74.1 C_viewNowV_79_74.2 := yctr (bv := fun _ _ => none) (bb := fun _ => none) (ct := yctl [C_sideOfV_74, C_shownBy_74]) (an := fun k pc => bif Nat.beq k 113 then (bif Nat.beq pc 4 then some ([none, none, some (0, 0, 65535), some (0, 0, 2147483647)], [], [(3, (-1))]) else none) else none) (fk := fun k pc => none) (f := 100000) zgh0 (fun _ _ _ h => by cases h) (fun _ _ h => by cases h) zSp_ok (fun w hw => yctl_ok (P := fun t c => yCOK w zgf zga zra zSp zgh t c) (ylcons (T_sideOfV_74 : yCOK w zgf zga zra zSp zgh C_sideOfV_74.1 C_sideOfV_74.2) (ylcons (T_shownBy_74 : yCOK w zgf zga zra zSp zgh C_shownBy_74.1 C_shownBy_74.2) ylnil))) (by decide +kernel)
noncomputable def C_viewNowV_83_74 : Nat × yC := (113, (3, [(2, 83, 83), (2, 74, 74)], (0, 0, 65535), [], [], [], [], 0, []))
theorem T_viewNowV_83_74 {w0 : qW} : yCOK w0 zgf zga zra zSp zgh C_viewNowV_83_74.1 C_viewNowV_83_74.2 := yctr (bv := fun _ _ => none) (bb := fun _ => none) (ct := yctl [C_sideOfV_74, C_shownBy_74]) (an := fun k pc => bif Nat.beq k 113 then (bif Nat.beq pc 4 then some ([none, none, some (0, 0, 65535), some (0, 0, 2147483647)], [], [(3, (-1))]) else none) else none) (fk := fun k pc => none) (f := 100000) zgh0 (fun _ _ _ h => by cases h) (fun _ _ h => by cases h) zSp_ok (fun w hw => yctl_ok (P := fun t c => yCOK w zgf zga zra zSp zgh t c) (ylcons (T_sideOfV_74 : yCOK w zgf zga zra zSp zgh C_sideOfV_74.1 C_sideOfV_74.2) (ylcons (T_shownBy_74 : yCOK w zgf zga zra zSp zgh C_shownBy_74.1 C_shownBy_74.2) ylnil))) (by decide +kernel)
noncomputable def C_viewNowV_87_74 : Nat × yC := (113, (3, [(2, 87, 87), (2, 74, 74)], (0, 0, 65535), [], [], [], [], 0, []))
theorem T_viewNowV_87_74 {w0 : qW} : yCOK w0 zgf zga zra zSp zgh C_viewNowV_87_74.1 C_viewNowV_87_74.2 := yctr (bv := fun _ _ => none) (bb := fun _ => none) (ct := yctl [C_sideOfV_74, C_shownBy_74]) (an := fun k pc => bif Nat.beq k 113 then (bif Nat.beq pc 4 then some ([none, none, some (0, 0, 65535), some (0, 0, 2147483647)], [], [(3, (-1))]) else none) else none) (fk := fun k pc => none) (f := 100000) zgh0 (fun _ _ _ h => by cases h) (fun _ _ h => by cases h) zSp_ok (fun w hw => yctl_ok (P := fun t c => yCOK w zgf zga zra zSp zgh t c) (ylcons (T_sideOfV_74 : yCOK w zgf zga zra zSp zgh C_sideOfV_74.1 C_sideOfV_74.2) (ylcons (T_shownBy_74 : yCOK w zgf zga zra zSp zgh C_shownBy_74.1 C_shownBy_74.2) ylnil))) (by decide +kernel)
noncomputable def C_viewNowV_91_74 : Nat × yC := (113, (3, [(2, 91, 91), (2, 74, 74)], (0, 0, 65535), [], [], [], [], 0, []))
theorem T_viewNowV_91_74 {w0 : qW} : yCOK w0 zgf zga zra zSp zgh C_viewNowV_91_74.1 C_viewNowV_91_74.2 := yctr (bv := fun _ _ => none) (bb := fun _ => none) (ct := yctl [C_sideOfV_74, C_shownBy_74]) (an := fun k pc => bif Nat.beq k 113 then (bif Nat.beq pc 4 then some ([none, none, some (0, 0, 65535), some (0, 0, 2147483647)], [], [(3, (-1))]) else none) else none) (fk := fun k pc => none) (f := 100000) zgh0 (fun _ _ _ h => by cases h) (fun _ _ h => by cases h) zSp_ok (fun w hw => yctl_ok (P := fun t c => yCOK w zgf zga zra zSp zgh t c) (ylcons (T_sideOfV_74 : yCOK w zgf zga zra zSp zgh C_sideOfV_74.1 C_sideOfV_74.2) (ylcons (T_shownBy_74 : yCOK w zgf zga zra zSp zgh C_shownBy_74.1 C_shownBy_74.2) ylnil))) (by decide +kernel)
noncomputable def C_perform_4_64 : Nat × yC := (111, (4, [(2, 4, 4), (2, 64, 64)], (9, 0, 0), [7, 5004, 6004, 7004, 8004, 9004, 10004], [], [], [], 0, []))
theorem T_perform_4_64 {w0 : qW} : yCOK w0 zgf zga zra zSp zgh C_perform_4_64.1 C_perform_4_64.2 := yctr (bv := fun _ _ => none) (bb := fun _ => none) (ct := yctl [C_takeStepV_4, C_bitCountI, C_viewNowV_4_64]) (an := fun k pc => bif Nat.beq k 111 then (bif Nat.beq pc 32 then some ([none, none, some (0, 0, 2147483647)], [7, 5004, 6004, 7004, 8004, 9004, 10004], [(2, (-1))]) else none) else none) (fk := fun k pc => none) (f := 100000) zgh0 (fun _ _ _ h => by cases h) (fun _ _ h => by cases h) zSp_ok (fun w hw => yctl_ok (P := fun t c => yCOK w zgf zga zra zSp zgh t c) (ylcons (T_takeStepV_4 : yCOK w zgf zga zra zSp zgh C_takeStepV_4.1 C_takeStepV_4.2) (ylcons (T_bitCountI : yCOK w zgf zga zra zSp zgh C_bitCountI.1 C_bitCountI.2) (ylcons (T_viewNowV_4_64 : yCOK w zgf zga zra zSp zgh C_viewNowV_4_64.1 C_viewNowV_4_64.2) ylnil)))) (by decide +kernel)
noncomputable def C_perform_79_64 : Nat × yC := (111, (4, [(2, 79, 79), (2, 64, 64)], (9, 0, 0), [82, 5079, 6079, 7079, 8079, 9079, 10079], [], [], [], 0, []))
theorem T_perform_79_64 {w0 : qW} : yCOK w0 zgf zga zra zSp zgh C_perform_79_64.1 C_perform_79_64.2 := yctr (bv := fun _ _ => none) (bb := fun _ => none) (ct := yctl [C_takeStepV_79, C_bitCountI, C_viewNowV_79_64]) (an := fun k pc => bif Nat.beq k 111 then (bif Nat.beq pc 32 then some ([none, none, some (0, 0, 2147483647)], [82, 5079, 6079, 7079, 8079, 9079, 10079], [(2, (-1))]) else none) else none) (fk := fun k pc => none) (f := 100000) zgh0 (fun _ _ _ h => by cases h) (fun _ _ h => by cases h) zSp_ok (fun w hw => yctl_ok (P := fun t c => yCOK w zgf zga zra zSp zgh t c) (ylcons (T_takeStepV_79 : yCOK w zgf zga zra zSp zgh C_takeStepV_79.1 C_takeStepV_79.2) (ylcons (T_bitCountI : yCOK w zgf zga zra zSp zgh C_bitCountI.1 C_bitCountI.2) (ylcons (T_viewNowV_79_64 : yCOK w zgf zga zra zSp zgh C_viewNowV_79_64.1 C_viewNowV_79_64.2) ylnil)))) (by decide +kernel)
noncomputable def C_perform_83_64 : Nat × yC := (111, (4, [(2, 83, 83), (2, 64, 64)], (9, 0, 0), [86, 5083, 6083, 7083, 8083, 9083, 10083], [], [], [], 0, []))
theorem T_perform_83_64 {w0 : qW} : yCOK w0 zgf zga zra zSp zgh C_perform_83_64.1 C_perform_83_64.2 := yctr (bv := fun _ _ => none) (bb := fun _ => none) (ct := yctl [C_takeStepV_83, C_bitCountI, C_viewNowV_83_64]) (an := fun k pc => bif Nat.beq k 111 then (bif Nat.beq pc 32 then some ([none, none, some (0, 0, 2147483647)], [86, 5083, 6083, 7083, 8083, 9083, 10083], [(2, (-1))]) else none) else none) (fk := fun k pc => none) (f := 100000) zgh0 (fun _ _ _ h => by cases h) (fun _ _ h => by cases h) zSp_ok (fun w hw => yctl_ok (P := fun t c => yCOK w zgf zga zra zSp zgh t c) (ylcons (T_takeStepV_83 : yCOK w zgf zga zra zSp zgh C_takeStepV_83.1 C_takeStepV_83.2) (ylcons (T_bitCountI : yCOK w zgf zga zra zSp zgh C_bitCountI.1 C_bitCountI.2) (ylcons (T_viewNowV_83_64 : yCOK w zgf zga zra zSp zgh C_viewNowV_83_64.1 C_viewNowV_83_64.2) ylnil)))) (by decide +kernel)
noncomputable def C_perform_87_64 : Nat × yC := (111, (4, [(2, 87, 87), (2, 64, 64)], (9, 0, 0), [90, 5087, 6087, 7087, 8087, 9087, 10087], [], [], [], 0, []))
theorem T_perform_87_64 {w0 : qW} : yCOK w0 zgf zga zra zSp zgh C_perform_87_64.1 C_perform_87_64.2 := yctr (bv := fun _ _ => none) (bb := fun _ => none) (ct := yctl [C_takeStepV_87, C_bitCountI, C_viewNowV_87_64]) (an := fun k pc => bif Nat.beq k 111 then (bif Nat.beq pc 32 then some ([none, none, some (0, 0, 2147483647)], [90, 5087, 6087, 7087, 8087, 9087, 10087], [(2, (-1))]) else none) else none) (fk := fun k pc => none) (f := 100000) zgh0 (fun _ _ _ h => by cases h) (fun _ _ h => by cases h) zSp_ok (fun w hw => yctl_ok (P := fun t c => yCOK w zgf zga zra zSp zgh t c) (ylcons (T_takeStepV_87 : yCOK w zgf zga zra zSp zgh C_takeStepV_87.1 C_takeStepV_87.2) (ylcons (T_bitCountI : yCOK w zgf zga zra zSp zgh C_bitCountI.1 C_bitCountI.2) (ylcons (T_viewNowV_87_64 : yCOK w zgf zga zra zSp zgh C_viewNowV_87_64.1 C_viewNowV_87_64.2) ylnil)))) (by decide +kernel)
noncomputable def C_perform_91_64 : Nat × yC := (111, (4, [(2, 91, 91), (2, 64, 64)], (9, 0, 0), [94, 5091, 6091, 7091, 8091, 9091, 10091], [], [], [], 0, []))
theorem T_perform_91_64 {w0 : qW} : yCOK w0 zgf zga zra zSp zgh C_perform_91_64.1 C_perform_91_64.2 := yctr (bv := fun _ _ => none) (bb := fun _ => none) (ct := yctl [C_takeStepV_91, C_bitCountI, C_viewNowV_91_64]) (an := fun k pc => bif Nat.beq k 111 then (bif Nat.beq pc 32 then some ([none, none, some (0, 0, 2147483647)], [94, 5091, 6091, 7091, 8091, 9091, 10091], [(2, (-1))]) else none) else none) (fk := fun k pc => none) (f := 100000) zgh0 (fun _ _ _ h => by cases h) (fun _ _ h => by cases h) zSp_ok (fun w hw => yctl_ok (P := fun t c => yCOK w zgf zga zra zSp zgh t c) (ylcons (T_takeStepV_91 : yCOK w zgf zga zra zSp zgh C_takeStepV_91.1 C_takeStepV_91.2) (ylcons (T_bitCountI : yCOK w zgf zga zra zSp zgh C_bitCountI.1 C_bitCountI.2) (ylcons (T_viewNowV_91_64 : yCOK w zgf zga zra zSp zgh C_viewNowV_91_64.1 C_viewNowV_91_64.2) ylnil)))) (by decide +kernel)
noncomputable def C_perform_4_69 : Nat × yC := (111, (4, [(2, 4, 4), (2, 69, 69)], (9, 0, 0), [7, 5004, 6004, 7004, 8004, 9004, 10004], [], [], [], 0, []))
theorem T_perform_4_69 {w0 : qW} : yCOK w0 zgf zga zra zSp zgh C_perform_4_69.1 C_perform_4_69.2 := yctr (bv := fun _ _ => none) (bb := fun _ => none) (ct := yctl [C_takeStepV_4, C_bitCountI, C_viewNowV_4_69]) (an := fun k pc => bif Nat.beq k 111 then (bif Nat.beq pc 32 then some ([none, none, some (0, 0, 2147483647)], [7, 5004, 6004, 7004, 8004, 9004, 10004], [(2, (-1))]) else none) else none) (fk := fun k pc => none) (f := 100000) zgh0 (fun _ _ _ h => by cases h) (fun _ _ h => by cases h) zSp_ok (fun w hw => yctl_ok (P := fun t c => yCOK w zgf zga zra zSp zgh t c) (ylcons (T_takeStepV_4 : yCOK w zgf zga zra zSp zgh C_takeStepV_4.1 C_takeStepV_4.2) (ylcons (T_bitCountI : yCOK w zgf zga zra zSp zgh C_bitCountI.1 C_bitCountI.2) (ylcons (T_viewNowV_4_69 : yCOK w zgf zga zra zSp zgh C_viewNowV_4_69.1 C_viewNowV_4_69.2) ylnil)))) (by decide +kernel)
noncomputable def C_perform_79_69 : Nat × yC := (111, (4, [(2, 79, 79), (2, 69, 69)], (9, 0, 0), [82, 5079, 6079, 7079, 8079, 9079, 10079], [], [], [], 0, []))
theorem T_perform_79_69 {w0 : qW} : yCOK w0 zgf zga zra zSp zgh C_perform_79_69.1 C_perform_79_69.2 := yctr (bv := fun _ _ => none) (bb := fun _ => none) (ct := yctl [C_takeStepV_79, C_bitCountI, C_viewNowV_79_69]) (an := fun k pc => bif Nat.beq k 111 then (bif Nat.beq pc 32 then some ([none, none, some (0, 0, 2147483647)], [82, 5079, 6079, 7079, 8079, 9079, 10079], [(2, (-1))]) else none) else none) (fk := fun k pc => none) (f := 100000) zgh0 (fun _ _ _ h => by cases h) (fun _ _ h => by cases h) zSp_ok (fun w hw => yctl_ok (P := fun t c => yCOK w zgf zga zra zSp zgh t c) (ylcons (T_takeStepV_79 : yCOK w zgf zga zra zSp zgh C_takeStepV_79.1 C_takeStepV_79.2) (ylcons (T_bitCountI : yCOK w zgf zga zra zSp zgh C_bitCountI.1 C_bitCountI.2) (ylcons (T_viewNowV_79_69 : yCOK w zgf zga zra zSp zgh C_viewNowV_79_69.1 C_viewNowV_79_69.2) ylnil)))) (by decide +kernel)
noncomputable def C_perform_83_69 : Nat × yC := (111, (4, [(2, 83, 83), (2, 69, 69)], (9, 0, 0), [86, 5083, 6083, 7083, 8083, 9083, 10083], [], [], [], 0, []))
theorem T_perform_83_69 {w0 : qW} : yCOK w0 zgf zga zra zSp zgh C_perform_83_69.1 C_perform_83_69.2 := yctr (bv := fun _ _ => none) (bb := fun _ => none) (ct := yctl [C_takeStepV_83, C_bitCountI, C_viewNowV_83_69]) (an := fun k pc => bif Nat.beq k 111 then (bif Nat.beq pc 32 then some ([none, none, some (0, 0, 2147483647)], [86, 5083, 6083, 7083, 8083, 9083, 10083], [(2, (-1))]) else none) else none) (fk := fun k pc => none) (f := 100000) zgh0 (fun _ _ _ h => by cases h) (fun _ _ h => by cases h) zSp_ok (fun w hw => yctl_ok (P := fun t c => yCOK w zgf zga zra zSp zgh t c) (ylcons (T_takeStepV_83 : yCOK w zgf zga zra zSp zgh C_takeStepV_83.1 C_takeStepV_83.2) (ylcons (T_bitCountI : yCOK w zgf zga zra zSp zgh C_bitCountI.1 C_bitCountI.2) (ylcons (T_viewNowV_83_69 : yCOK w zgf zga zra zSp zgh C_viewNowV_83_69.1 C_viewNowV_83_69.2) ylnil)))) (by decide +kernel)
noncomputable def C_perform_87_69 : Nat × yC := (111, (4, [(2, 87, 87), (2, 69, 69)], (9, 0, 0), [90, 5087, 6087, 7087, 8087, 9087, 10087], [], [], [], 0, []))
theorem T_perform_87_69 {w0 : qW} : yCOK w0 zgf zga zra zSp zgh C_perform_87_69.1 C_perform_87_69.2 := yctr (bv := fun _ _ => none) (bb := fun _ => none) (ct := yctl [C_takeStepV_87, C_bitCountI, C_viewNowV_87_69]) (an := fun k pc => bif Nat.beq k 111 then (bif Nat.beq pc 32 then some ([none, none, some (0, 0, 2147483647)], [90, 5087, 6087, 7087, 8087, 9087, 10087], [(2, (-1))]) else none) else none) (fk := fun k pc => none) (f := 100000) zgh0 (fun _ _ _ h => by cases h) (fun _ _ h => by cases h) zSp_ok (fun w hw => yctl_ok (P := fun t c => yCOK w zgf zga zra zSp zgh t c) (ylcons (T_takeStepV_87 : yCOK w zgf zga zra zSp zgh C_takeStepV_87.1 C_takeStepV_87.2) (ylcons (T_bitCountI : yCOK w zgf zga zra zSp zgh C_bitCountI.1 C_bitCountI.2) (ylcons (T_viewNowV_87_69 : yCOK w zgf zga zra zSp zgh C_viewNowV_87_69.1 C_viewNowV_87_69.2) ylnil)))) (by decide +kernel)
noncomputable def C_perform_91_69 : Nat × yC := (111, (4, [(2, 91, 91), (2, 69, 69)], (9, 0, 0), [94, 5091, 6091, 7091, 8091, 9091, 10091], [], [], [], 0, []))
theorem T_perform_91_69 {w0 : qW} : yCOK w0 zgf zga zra zSp zgh C_perform_91_69.1 C_perform_91_69.2 := yctr (bv := fun _ _ => none) (bb := fun _ => none) (ct := yctl [C_takeStepV_91, C_bitCountI, C_viewNowV_91_69]) (an := fun k pc => bif Nat.beq k 111 then (bif Nat.beq pc 32 then some ([none, none, some (0, 0, 2147483647)], [94, 5091, 6091, 7091, 8091, 9091, 10091], [(2, (-1))]) else none) else none) (fk := fun k pc => none) (f := 100000) zgh0 (fun _ _ _ h => by cases h) (fun _ _ h => by cases h) zSp_ok (fun w hw => yctl_ok (P := fun t c => yCOK w zgf zga zra zSp zgh t c) (ylcons (T_takeStepV_91 : yCOK w zgf zga zra zSp zgh C_takeStepV_91.1 C_takeStepV_91.2) (ylcons (T_bitCountI : yCOK w zgf zga zra zSp zgh C_bitCountI.1 C_bitCountI.2) (ylcons (T_viewNowV_91_69 : yCOK w zgf zga zra zSp zgh C_viewNowV_91_69.1 C_viewNowV_91_69.2) ylnil)))) (by decide +kernel)
noncomputable def C_perform_4_74 : Nat × yC := (111, (4, [(2, 4, 4), (2, 74, 74)], (9, 0, 0), [7, 5004, 6004, 7004, 8004, 9004, 10004], [], [], [], 0, []))
theorem T_perform_4_74 {w0 : qW} : yCOK w0 zgf zga zra zSp zgh C_perform_4_74.1 C_perform_4_74.2 := yctr (bv := fun _ _ => none) (bb := fun _ => none) (ct := yctl [C_takeStepV_4, C_bitCountI, C_viewNowV_4_74]) (an := fun k pc => bif Nat.beq k 111 then (bif Nat.beq pc 32 then some ([none, none, some (0, 0, 2147483647)], [7, 5004, 6004, 7004, 8004, 9004, 10004], [(2, (-1))]) else none) else none) (fk := fun k pc => none) (f := 100000) zgh0 (fun _ _ _ h => by cases h) (fun _ _ h => by cases h) zSp_ok (fun w hw => yctl_ok (P := fun t c => yCOK w zgf zga zra zSp zgh t c) (ylcons (T_takeStepV_4 : yCOK w zgf zga zra zSp zgh C_takeStepV_4.1 C_takeStepV_4.2) (ylcons (T_bitCountI : yCOK w zgf zga zra zSp zgh C_bitCountI.1 C_bitCountI.2) (ylcons (T_viewNowV_4_74 : yCOK w zgf zga zra zSp zgh C_viewNowV_4_74.1 C_viewNowV_4_74.2) ylnil)))) (by decide +kernel)
noncomputable def C_perform_79_74 : Nat × yC := (111, (4, [(2, 79, 79), (2, 74, 74)], (9, 0, 0), [82, 5079, 6079, 7079, 8079, 9079, 10079], [], [], [], 0, []))
theorem T_perform_79_74 {w0 : qW} : yCOK w0 zgf zga zra zSp zgh C_perform_79_74.1 C_perform_79_74.2 := yctr (bv := fun _ _ => none) (bb := fun _ => none) (ct := yctl [C_takeStepV_79, C_bitCountI, C_viewNowV_79_74]) (an := fun k pc => bif Nat.beq k 111 then (bif Nat.beq pc 32 then some ([none, none, some (0, 0, 2147483647)], [82, 5079, 6079, 7079, 8079, 9079, 10079], [(2, (-1))]) else none) else none) (fk := fun k pc => none) (f := 100000) zgh0 (fun _ _ _ h => by cases h) (fun _ _ h => by cases h) zSp_ok (fun w hw => yctl_ok (P := fun t c => yCOK w zgf zga zra zSp zgh t c) (ylcons (T_takeStepV_79 : yCOK w zgf zga zra zSp zgh C_takeStepV_79.1 C_takeStepV_79.2) (ylcons (T_bitCountI : yCOK w zgf zga zra zSp zgh C_bitCountI.1 C_bitCountI.2) (ylcons (T_viewNowV_79_74 : yCOK w zgf zga zra zSp zgh C_viewNowV_79_74.1 C_viewNowV_79_74.2) ylnil)))) (by decide +kernel)
noncomputable def C_perform_83_74 : Nat × yC := (111, (4, [(2, 83, 83), (2, 74, 74)], (9, 0, 0), [86, 5083, 6083, 7083, 8083, 9083, 10083], [], [], [], 0, []))
theorem T_perform_83_74 {w0 : qW} : yCOK w0 zgf zga zra zSp zgh C_perform_83_74.1 C_perform_83_74.2 := yctr (bv := fun _ _ => none) (bb := fun _ => none) (ct := yctl [C_takeStepV_83, C_bitCountI, C_viewNowV_83_74]) (an := fun k pc => bif Nat.beq k 111 then (bif Nat.beq pc 32 then some ([none, none, some (0, 0, 2147483647)], [86, 5083, 6083, 7083, 8083, 9083, 10083], [(2, (-1))]) else none) else none) (fk := fun k pc => none) (f := 100000) zgh0 (fun _ _ _ h => by cases h) (fun _ _ h => by cases h) zSp_ok (fun w hw => yctl_ok (P := fun t c => yCOK w zgf zga zra zSp zgh t c) (ylcons (T_takeStepV_83 : yCOK w zgf zga zra zSp zgh C_takeStepV_83.1 C_takeStepV_83.2) (ylcons (T_bitCountI : yCOK w zgf zga zra zSp zgh C_bitCountI.1 C_bitCountI.2) (ylcons (T_viewNowV_83_74 : yCOK w zgf zga zra zSp zgh C_viewNowV_83_74.1 C_viewNowV_83_74.2) ylnil)))) (by decide +kernel)
noncomputable def C_perform_87_74 : Nat × yC := (111, (4, [(2, 87, 87), (2, 74, 74)], (9, 0, 0), [90, 5087, 6087, 7087, 8087, 9087, 10087], [], [], [], 0, []))
theorem T_perform_87_74 {w0 : qW} : yCOK w0 zgf zga zra zSp zgh C_perform_87_74.1 C_perform_87_74.2 := yctr (bv := fun _ _ => none) (bb := fun _ => none) (ct := yctl [C_takeStepV_87, C_bitCountI, C_viewNowV_87_74]) (an := fun k pc => bif Nat.beq k 111 then (bif Nat.beq pc 32 then some ([none, none, some (0, 0, 2147483647)], [90, 5087, 6087, 7087, 8087, 9087, 10087], [(2, (-1))]) else none) else none) (fk := fun k pc => none) (f := 100000) zgh0 (fun _ _ _ h => by cases h) (fun _ _ h => by cases h) zSp_ok (fun w hw => yctl_ok (P := fun t c => yCOK w zgf zga zra zSp zgh t c) (ylcons (T_takeStepV_87 : yCOK w zgf zga zra zSp zgh C_takeStepV_87.1 C_takeStepV_87.2) (ylcons (T_bitCountI : yCOK w zgf zga zra zSp zgh C_bitCountI.1 C_bitCountI.2) (ylcons (T_viewNowV_87_74 : yCOK w zgf zga zra zSp zgh C_viewNowV_87_74.1 C_viewNowV_87_74.2) ylnil)))) (by decide +kernel)
noncomputable def C_perform_91_74 : Nat × yC := (111, (4, [(2, 91, 91), (2, 74, 74)], (9, 0, 0), [94, 5091, 6091, 7091, 8091, 9091, 10091], [], [], [], 0, []))
theorem T_perform_91_74 {w0 : qW} : yCOK w0 zgf zga zra zSp zgh C_perform_91_74.1 C_perform_91_74.2 := yctr (bv := fun _ _ => none) (bb := fun _ => none) (ct := yctl [C_takeStepV_91, C_bitCountI, C_viewNowV_91_74]) (an := fun k pc => bif Nat.beq k 111 then (bif Nat.beq pc 32 then some ([none, none, some (0, 0, 2147483647)], [94, 5091, 6091, 7091, 8091, 9091, 10091], [(2, (-1))]) else none) else none) (fk := fun k pc => none) (f := 100000) zgh0 (fun _ _ _ h => by cases h) (fun _ _ h => by cases h) zSp_ok (fun w hw => yctl_ok (P := fun t c => yCOK w zgf zga zra zSp zgh t c) (ylcons (T_takeStepV_91 : yCOK w zgf zga zra zSp zgh C_takeStepV_91.1 C_takeStepV_91.2) (ylcons (T_bitCountI : yCOK w zgf zga zra zSp zgh C_bitCountI.1 C_bitCountI.2) (ylcons (T_viewNowV_91_74 : yCOK w zgf zga zra zSp zgh C_viewNowV_91_74.1 C_viewNowV_91_74.2) ylnil)))) (by decide +kernel)
noncomputable def C_secondsOf_4 : Nat × yC := (114, (1, [(2, 4, 4), (0, (-2147483648), 2147483647)], (0, (-2147483648), 2147483647), [], [], [], [], 0, []))
theorem T_secondsOf_4 {w0 : qW} : yCOK w0 zgf zga zra zSp zgh C_secondsOf_4.1 C_secondsOf_4.2 := yctr (bv := fun _ _ => none) (bb := fun _ => none) (ct := yctl []) (an := fun k pc => none) (fk := fun k pc => none) (f := 100000) zgh0 (fun _ _ _ h => by cases h) (fun _ _ h => by cases h) zSp_ok (fun w hw => yctl_ok (P := fun t c => yCOK w zgf zga zra zSp zgh t c) ylnil) (by decide +kernel)
noncomputable def C_viewOf_4 : Nat × yC := (115, (1, [(2, 4, 4), (0, (-2147483648), 2147483647)], (0, 0, 65535), [], [], [], [], 0, []))
theorem T_viewOf_4 {w0 : qW} : yCOK w0 zgf zga zra zSp zgh C_viewOf_4.1 C_viewOf_4.2 := yctr (bv := fun _ _ => none) (bb := fun _ => none) (ct := yctl []) (an := fun k pc => none) (fk := fun k pc => none) (f := 100000) zgh0 (fun _ _ _ h => by cases h) (fun _ _ h => by cases h) zSp_ok (fun w hw => yctl_ok (P := fun t c => yCOK w zgf zga zra zSp zgh t c) ylnil) (by decide +kernel)
noncomputable def C_allSeconds_4 : Nat × yC := (116, (3, [(2, 4, 4)], (0, (-2147483648), 2147483647), [], [], [], [], 0, []))
theorem T_allSeconds_4 {w0 : qW} : yCOK w0 zgf zga zra zSp zgh C_allSeconds_4.1 C_allSeconds_4.2 := yctr (bv := fun _ _ => none) (bb := fun _ => none) (ct := yctl [C_secondsOf_4]) (an := fun k pc => bif Nat.beq k 116 then (bif Nat.beq pc 4 then some ([none, some (0, (-2147483648), 2147483647), some (0, 0, 2147483647)], [], [(2, (-1))]) else none) else none) (fk := fun k pc => none) (f := 100000) zgh0 (fun _ _ _ h => by cases h) (fun _ _ h => by cases h) zSp_ok (fun w hw => yctl_ok (P := fun t c => yCOK w zgf zga zra zSp zgh t c) (ylcons (T_secondsOf_4 : yCOK w zgf zga zra zSp zgh C_secondsOf_4.1 C_secondsOf_4.2) ylnil)) (by decide +kernel)
noncomputable def C_viewIn_4 : Nat × yC := (117, (3, [(2, 4, 4), (0, (-2147483648), 2147483647)], (0, (-1), 65535), [], [], [], [], 0, []))
theorem T_viewIn_4 {w0 : qW} : yCOK w0 zgf zga zra zSp zgh C_viewIn_4.1 C_viewIn_4.2 := yctr (bv := fun _ _ => none) (bb := fun _ => none) (ct := yctl [C_secondsOf_4, C_viewOf_4]) (an := fun k pc => bif Nat.beq k 117 then (bif Nat.beq pc 10 then some ([none, none, some (0, (-2147483648), 2147483647), some (0, 0, 2147483647)], [], [(3, (-1))]) else none) else none) (fk := fun k pc => none) (f := 100000) zgh0 (fun _ _ _ h => by cases h) (fun _ _ h => by cases h) zSp_ok (fun w hw => yctl_ok (P := fun t c => yCOK w zgf zga zra zSp zgh t c) (ylcons (T_secondsOf_4 : yCOK w zgf zga zra zSp zgh C_secondsOf_4.1 C_secondsOf_4.2) (ylcons (T_viewOf_4 : yCOK w zgf zga zra zSp zgh C_viewOf_4.1 C_viewOf_4.2) ylnil))) (by decide +kernel)
noncomputable def C_secondsOf_79 : Nat × yC := (114, (1, [(2, 79, 79), (0, (-2147483648), 2147483647)], (0, (-2147483648), 2147483647), [], [], [], [], 0, []))
theorem T_secondsOf_79 {w0 : qW} : yCOK w0 zgf zga zra zSp zgh C_secondsOf_79.1 C_secondsOf_79.2 := yctr (bv := fun _ _ => none) (bb := fun _ => none) (ct := yctl []) (an := fun k pc => none) (fk := fun k pc => none) (f := 100000) zgh0 (fun _ _ _ h => by cases h) (fun _ _ h => by cases h) zSp_ok (fun w hw => yctl_ok (P := fun t c => yCOK w zgf zga zra zSp zgh t c) ylnil) (by decide +kernel)
noncomputable def C_viewOf_79 : Nat × yC := (115, (1, [(2, 79, 79), (0, (-2147483648), 2147483647)], (0, 0, 65535), [], [], [], [], 0, []))
theorem T_viewOf_79 {w0 : qW} : yCOK w0 zgf zga zra zSp zgh C_viewOf_79.1 C_viewOf_79.2 := yctr (bv := fun _ _ => none) (bb := fun _ => none) (ct := yctl []) (an := fun k pc => none) (fk := fun k pc => none) (f := 100000) zgh0 (fun _ _ _ h => by cases h) (fun _ _ h => by cases h) zSp_ok (fun w hw => yctl_ok (P := fun t c => yCOK w zgf zga zra zSp zgh t c) ylnil) (by decide +kernel)
noncomputable def C_allSeconds_79 : Nat × yC := (116, (3, [(2, 79, 79)], (0, (-2147483648), 2147483647), [], [], [], [], 0, []))
theorem T_allSeconds_79 {w0 : qW} : yCOK w0 zgf zga zra zSp zgh C_allSeconds_79.1 C_allSeconds_79.2 := yctr (bv := fun _ _ => none) (bb := fun _ => none) (ct := yctl [C_secondsOf_79]) (an := fun k pc => bif Nat.beq k 116 then (bif Nat.beq pc 4 then some ([none, some (0, (-2147483648), 2147483647), some (0, 0, 2147483647)], [], [(2, (-1))]) else none) else none) (fk := fun k pc => none) (f := 100000) zgh0 (fun _ _ _ h => by cases h) (fun _ _ h => by cases h) zSp_ok (fun w hw => yctl_ok (P := fun t c => yCOK w zgf zga zra zSp zgh t c) (ylcons (T_secondsOf_79 : yCOK w zgf zga zra zSp zgh C_secondsOf_79.1 C_secondsOf_79.2) ylnil)) (by decide +kernel)
noncomputable def C_viewIn_79 : Nat × yC := (117, (3, [(2, 79, 79), (0, (-2147483648), 2147483647)], (0, (-1), 65535), [], [], [], [], 0, []))
theorem T_viewIn_79 {w0 : qW} : yCOK w0 zgf zga zra zSp zgh C_viewIn_79.1 C_viewIn_79.2 := yctr (bv := fun _ _ => none) (bb := fun _ => none) (ct := yctl [C_secondsOf_79, C_viewOf_79]) (an := fun k pc => bif Nat.beq k 117 then (bif Nat.beq pc 10 then some ([none, none, some (0, (-2147483648), 2147483647), some (0, 0, 2147483647)], [], [(3, (-1))]) else none) else none) (fk := fun k pc => none) (f := 100000) zgh0 (fun _ _ _ h => by cases h) (fun _ _ h => by cases h) zSp_ok (fun w hw => yctl_ok (P := fun t c => yCOK w zgf zga zra zSp zgh t c) (ylcons (T_secondsOf_79 : yCOK w zgf zga zra zSp zgh C_secondsOf_79.1 C_secondsOf_79.2) (ylcons (T_viewOf_79 : yCOK w zgf zga zra zSp zgh C_viewOf_79.1 C_viewOf_79.2) ylnil))) (by decide +kernel)
noncomputable def C_secondsOf_83 : Nat × yC := (114, (1, [(2, 83, 83), (0, (-2147483648), 2147483647)], (0, (-2147483648), 2147483647), [], [], [], [], 0, []))
theorem T_secondsOf_83 {w0 : qW} : yCOK w0 zgf zga zra zSp zgh C_secondsOf_83.1 C_secondsOf_83.2 := yctr (bv := fun _ _ => none) (bb := fun _ => none) (ct := yctl []) (an := fun k pc => none) (fk := fun k pc => none) (f := 100000) zgh0 (fun _ _ _ h => by cases h) (fun _ _ h => by cases h) zSp_ok (fun w hw => yctl_ok (P := fun t c => yCOK w zgf zga zra zSp zgh t c) ylnil) (by decide +kernel)
noncomputable def C_viewOf_83 : Nat × yC := (115, (1, [(2, 83, 83), (0, (-2147483648), 2147483647)], (0, 0, 65535), [], [], [], [], 0, []))
theorem T_viewOf_83 {w0 : qW} : yCOK w0 zgf zga zra zSp zgh C_viewOf_83.1 C_viewOf_83.2 := yctr (bv := fun _ _ => none) (bb := fun _ => none) (ct := yctl []) (an := fun k pc => none) (fk := fun k pc => none) (f := 100000) zgh0 (fun _ _ _ h => by cases h) (fun _ _ h => by cases h) zSp_ok (fun w hw => yctl_ok (P := fun t c => yCOK w zgf zga zra zSp zgh t c) ylnil) (by decide +kernel)
noncomputable def C_allSeconds_83 : Nat × yC := (116, (3, [(2, 83, 83)], (0, (-2147483648), 2147483647), [], [], [], [], 0, []))
theorem T_allSeconds_83 {w0 : qW} : yCOK w0 zgf zga zra zSp zgh C_allSeconds_83.1 C_allSeconds_83.2 := yctr (bv := fun _ _ => none) (bb := fun _ => none) (ct := yctl [C_secondsOf_83]) (an := fun k pc => bif Nat.beq k 116 then (bif Nat.beq pc 4 then some ([none, some (0, (-2147483648), 2147483647), some (0, 0, 2147483647)], [], [(2, (-1))]) else none) else none) (fk := fun k pc => none) (f := 100000) zgh0 (fun _ _ _ h => by cases h) (fun _ _ h => by cases h) zSp_ok (fun w hw => yctl_ok (P := fun t c => yCOK w zgf zga zra zSp zgh t c) (ylcons (T_secondsOf_83 : yCOK w zgf zga zra zSp zgh C_secondsOf_83.1 C_secondsOf_83.2) ylnil)) (by decide +kernel)
noncomputable def C_viewIn_83 : Nat × yC := (117, (3, [(2, 83, 83), (0, (-2147483648), 2147483647)], (0, (-1), 65535), [], [], [], [], 0, []))
theorem T_viewIn_83 {w0 : qW} : yCOK w0 zgf zga zra zSp zgh C_viewIn_83.1 C_viewIn_83.2 := yctr (bv := fun _ _ => none) (bb := fun _ => none) (ct := yctl [C_secondsOf_83, C_viewOf_83]) (an := fun k pc => bif Nat.beq k 117 then (bif Nat.beq pc 10 then some ([none, none, some (0, (-2147483648), 2147483647), some (0, 0, 2147483647)], [], [(3, (-1))]) else none) else none) (fk := fun k pc => none) (f := 100000) zgh0 (fun _ _ _ h => by cases h) (fun _ _ h => by cases h) zSp_ok (fun w hw => yctl_ok (P := fun t c => yCOK w zgf zga zra zSp zgh t c) (ylcons (T_secondsOf_83 : yCOK w zgf zga zra zSp zgh C_secondsOf_83.1 C_secondsOf_83.2) (ylcons (T_viewOf_83 : yCOK w zgf zga zra zSp zgh C_viewOf_83.1 C_viewOf_83.2) ylnil))) (by decide +kernel)
noncomputable def C_secondsOf_87 : Nat × yC := (114, (1, [(2, 87, 87), (0, (-2147483648), 2147483647)], (0, (-2147483648), 2147483647), [], [], [], [], 0, []))
theorem T_secondsOf_87 {w0 : qW} : yCOK w0 zgf zga zra zSp zgh C_secondsOf_87.1 C_secondsOf_87.2 := yctr (bv := fun _ _ => none) (bb := fun _ => none) (ct := yctl []) (an := fun k pc => none) (fk := fun k pc => none) (f := 100000) zgh0 (fun _ _ _ h => by cases h) (fun _ _ h => by cases h) zSp_ok (fun w hw => yctl_ok (P := fun t c => yCOK w zgf zga zra zSp zgh t c) ylnil) (by decide +kernel)
noncomputable def C_viewOf_87 : Nat × yC := (115, (1, [(2, 87, 87), (0, (-2147483648), 2147483647)], (0, 0, 65535), [], [], [], [], 0, []))
theorem T_viewOf_87 {w0 : qW} : yCOK w0 zgf zga zra zSp zgh C_viewOf_87.1 C_viewOf_87.2 := yctr (bv := fun _ _ => none) (bb := fun _ => none) (ct := yctl []) (an := fun k pc => none) (fk := fun k pc => none) (f := 100000) zgh0 (fun _ _ _ h => by cases h) (fun _ _ h => by cases h) zSp_ok (fun w hw => yctl_ok (P := fun t c => yCOK w zgf zga zra zSp zgh t c) ylnil) (by decide +kernel)
noncomputable def C_allSeconds_87 : Nat × yC := (116, (3, [(2, 87, 87)], (0, (-2147483648), 2147483647), [], [], [], [], 0, []))
theorem T_allSeconds_87 {w0 : qW} : yCOK w0 zgf zga zra zSp zgh C_allSeconds_87.1 C_allSeconds_87.2 := yctr (bv := fun _ _ => none) (bb := fun _ => none) (ct := yctl [C_secondsOf_87]) (an := fun k pc => bif Nat.beq k 116 then (bif Nat.beq pc 4 then some ([none, some (0, (-2147483648), 2147483647), some (0, 0, 2147483647)], [], [(2, (-1))]) else none) else none) (fk := fun k pc => none) (f := 100000) zgh0 (fun _ _ _ h => by cases h) (fun _ _ h => by cases h) zSp_ok (fun w hw => yctl_ok (P := fun t c => yCOK w zgf zga zra zSp zgh t c) (ylcons (T_secondsOf_87 : yCOK w zgf zga zra zSp zgh C_secondsOf_87.1 C_secondsOf_87.2) ylnil)) (by decide +kernel)
noncomputable def C_viewIn_87 : Nat × yC := (117, (3, [(2, 87, 87), (0, (-2147483648), 2147483647)], (0, (-1), 65535), [], [], [], [], 0, []))
theorem T_viewIn_87 {w0 : qW} : yCOK w0 zgf zga zra zSp zgh C_viewIn_87.1 C_viewIn_87.2 := yctr (bv := fun _ _ => none) (bb := fun _ => none) (ct := yctl [C_secondsOf_87, C_viewOf_87]) (an := fun k pc => bif Nat.beq k 117 then (bif Nat.beq pc 10 then some ([none, none, some (0, (-2147483648), 2147483647), some (0, 0, 2147483647)], [], [(3, (-1))]) else none) else none) (fk := fun k pc => none) (f := 100000) zgh0 (fun _ _ _ h => by cases h) (fun _ _ h => by cases h) zSp_ok (fun w hw => yctl_ok (P := fun t c => yCOK w zgf zga zra zSp zgh t c) (ylcons (T_secondsOf_87 : yCOK w zgf zga zra zSp zgh C_secondsOf_87.1 C_secondsOf_87.2) (ylcons (T_viewOf_87 : yCOK w zgf zga zra zSp zgh C_viewOf_87.1 C_viewOf_87.2) ylnil))) (by decide +kernel)
noncomputable def C_secondsOf_91 : Nat × yC := (114, (1, [(2, 91, 91), (0, (-2147483648), 2147483647)], (0, (-2147483648), 2147483647), [], [], [], [], 0, []))
theorem T_secondsOf_91 {w0 : qW} : yCOK w0 zgf zga zra zSp zgh C_secondsOf_91.1 C_secondsOf_91.2 := yctr (bv := fun _ _ => none) (bb := fun _ => none) (ct := yctl []) (an := fun k pc => none) (fk := fun k pc => none) (f := 100000) zgh0 (fun _ _ _ h => by cases h) (fun _ _ h => by cases h) zSp_ok (fun w hw => yctl_ok (P := fun t c => yCOK w zgf zga zra zSp zgh t c) ylnil) (by decide +kernel)
noncomputable def C_viewOf_91 : Nat × yC := (115, (1, [(2, 91, 91), (0, (-2147483648), 2147483647)], (0, 0, 65535), [], [], [], [], 0, []))
theorem T_viewOf_91 {w0 : qW} : yCOK w0 zgf zga zra zSp zgh C_viewOf_91.1 C_viewOf_91.2 := yctr (bv := fun _ _ => none) (bb := fun _ => none) (ct := yctl []) (an := fun k pc => none) (fk := fun k pc => none) (f := 100000) zgh0 (fun _ _ _ h => by cases h) (fun _ _ h => by cases h) zSp_ok (fun w hw => yctl_ok (P := fun t c => yCOK w zgf zga zra zSp zgh t c) ylnil) (by decide +kernel)
noncomputable def C_allSeconds_91 : Nat × yC := (116, (3, [(2, 91, 91)], (0, (-2147483648), 2147483647), [], [], [], [], 0, []))
theorem T_allSeconds_91 {w0 : qW} : yCOK w0 zgf zga zra zSp zgh C_allSeconds_91.1 C_allSeconds_91.2 := yctr (bv := fun _ _ => none) (bb := fun _ => none) (ct := yctl [C_secondsOf_91]) (an := fun k pc => bif Nat.beq k 116 then (bif Nat.beq pc 4 then some ([none, some (0, (-2147483648), 2147483647), some (0, 0, 2147483647)], [], [(2, (-1))]) else none) else none) (fk := fun k pc => none) (f := 100000) zgh0 (fun _ _ _ h => by cases h) (fun _ _ h => by cases h) zSp_ok (fun w hw => yctl_ok (P := fun t c => yCOK w zgf zga zra zSp zgh t c) (ylcons (T_secondsOf_91 : yCOK w zgf zga zra zSp zgh C_secondsOf_91.1 C_secondsOf_91.2) ylnil)) (by decide +kernel)
noncomputable def C_viewIn_91 : Nat × yC := (117, (3, [(2, 91, 91), (0, (-2147483648), 2147483647)], (0, (-1), 65535), [], [], [], [], 0, []))
theorem T_viewIn_91 {w0 : qW} : yCOK w0 zgf zga zra zSp zgh C_viewIn_91.1 C_viewIn_91.2 := yctr (bv := fun _ _ => none) (bb := fun _ => none) (ct := yctl [C_secondsOf_91, C_viewOf_91]) (an := fun k pc => bif Nat.beq k 117 then (bif Nat.beq pc 10 then some ([none, none, some (0, (-2147483648), 2147483647), some (0, 0, 2147483647)], [], [(3, (-1))]) else none) else none) (fk := fun k pc => none) (f := 100000) zgh0 (fun _ _ _ h => by cases h) (fun _ _ h => by cases h) zSp_ok (fun w hw => yctl_ok (P := fun t c => yCOK w zgf zga zra zSp zgh t c) (ylcons (T_secondsOf_91 : yCOK w zgf zga zra zSp zgh C_secondsOf_91.1 C_secondsOf_91.2) (ylcons (T_viewOf_91 : yCOK w zgf zga zra zSp zgh C_viewOf_91.1 C_viewOf_91.2) ylnil))) (by decide +kernel)
noncomputable def C_follow_64_4 : Nat × yC := (35, (10, [(2, 23, 23), (2, 64, 64), (2, 4, 4), (0, 1, 4)], (9, 0, 0), [25, 26, 27, 28, 29, 1024, 2024, 3024, 4024, 5023, 6023], [], [], [], 0, []))
theorem T_follow_64_4 {w0 : qW} : yCOK w0 zgf zga zra zSp zgh C_follow_64_4.1 C_follow_64_4.2 := yctr (bv := fun _ _ => none) (bb := fun _ => none) (ct := yctl [C_findFor_64, C_findUnseen_27, C_howMany_27, C_viewOf_4, C_findUnseen_29, C_secondsOf_4, C_stayUnseen]) (an := fun k pc => bif Nat.beq k 35 then (bif Nat.beq pc 46 then some ([none, none, none, none, some (0, (-2147483648), 2147483647), some (0, 0, 2147483647), some (0, (-2147483648), 2147483647)], [5023], [(5, (-1))]) else none) else none) (fk := fun k pc => none) (f := 100000) zgh0 (fun _ _ _ h => by cases h) (fun _ _ h => by cases h) zSp_ok (fun w hw => yctl_ok (P := fun t c => yCOK w zgf zga zra zSp zgh t c) (ylcons (T_findFor_64 : yCOK w zgf zga zra zSp zgh C_findFor_64.1 C_findFor_64.2) (ylcons (T_findUnseen_27 : yCOK w zgf zga zra zSp zgh C_findUnseen_27.1 C_findUnseen_27.2) (ylcons (T_howMany_27 : yCOK w zgf zga zra zSp zgh C_howMany_27.1 C_howMany_27.2) (ylcons (T_viewOf_4 : yCOK w zgf zga zra zSp zgh C_viewOf_4.1 C_viewOf_4.2) (ylcons (T_findUnseen_29 : yCOK w zgf zga zra zSp zgh C_findUnseen_29.1 C_findUnseen_29.2) (ylcons (T_secondsOf_4 : yCOK w zgf zga zra zSp zgh C_secondsOf_4.1 C_secondsOf_4.2) (ylcons (T_stayUnseen : yCOK w zgf zga zra zSp zgh C_stayUnseen.1 C_stayUnseen.2) ylnil)))))))) (by decide +kernel)
noncomputable def C_follow_64_79 : Nat × yC := (35, (10, [(2, 23, 23), (2, 64, 64), (2, 79, 79), (0, 1, 4)], (9, 0, 0), [25, 26, 27, 28, 29, 1024, 2024, 3024, 4024, 5023, 6023], [], [], [], 0, []))
theorem T_follow_64_79 {w0 : qW} : yCOK w0 zgf zga zra zSp zgh C_follow_64_79.1 C_follow_64_79.2 := yctr (bv := fun _ _ => none) (bb := fun _ => none) (ct := yctl [C_findFor_64, C_findUnseen_27, C_howMany_27, C_viewOf_79, C_findUnseen_29, C_secondsOf_79, C_stayUnseen]) (an := fun k pc => bif Nat.beq k 35 then (bif Nat.beq pc 46 then some ([none, none, none, none, some (0, (-2147483648), 2147483647), some (0, 0, 2147483647), some (0, (-2147483648), 2147483647)], [5023], [(5, (-1))]) else none) else none) (fk := fun k pc => none) (f := 100000) zgh0 (fun _ _ _ h => by cases h) (fun _ _ h => by cases h) zSp_ok (fun w hw => yctl_ok (P := fun t c => yCOK w zgf zga zra zSp zgh t c) (ylcons (T_findFor_64 : yCOK w zgf zga zra zSp zgh C_findFor_64.1 C_findFor_64.2) (ylcons (T_findUnseen_27 : yCOK w zgf zga zra zSp zgh C_findUnseen_27.1 C_findUnseen_27.2) (ylcons (T_howMany_27 : yCOK w zgf zga zra zSp zgh C_howMany_27.1 C_howMany_27.2) (ylcons (T_viewOf_79 : yCOK w zgf zga zra zSp zgh C_viewOf_79.1 C_viewOf_79.2) (ylcons (T_findUnseen_29 : yCOK w zgf zga zra zSp zgh C_findUnseen_29.1 C_findUnseen_29.2) (ylcons (T_secondsOf_79 : yCOK w zgf zga zra zSp zgh C_secondsOf_79.1 C_secondsOf_79.2) (ylcons (T_stayUnseen : yCOK w zgf zga zra zSp zgh C_stayUnseen.1 C_stayUnseen.2) ylnil)))))))) (by decide +kernel)
noncomputable def C_follow_64_83 : Nat × yC := (35, (10, [(2, 23, 23), (2, 64, 64), (2, 83, 83), (0, 1, 4)], (9, 0, 0), [25, 26, 27, 28, 29, 1024, 2024, 3024, 4024, 5023, 6023], [], [], [], 0, []))
theorem T_follow_64_83 {w0 : qW} : yCOK w0 zgf zga zra zSp zgh C_follow_64_83.1 C_follow_64_83.2 := yctr (bv := fun _ _ => none) (bb := fun _ => none) (ct := yctl [C_findFor_64, C_findUnseen_27, C_howMany_27, C_viewOf_83, C_findUnseen_29, C_secondsOf_83, C_stayUnseen]) (an := fun k pc => bif Nat.beq k 35 then (bif Nat.beq pc 46 then some ([none, none, none, none, some (0, (-2147483648), 2147483647), some (0, 0, 2147483647), some (0, (-2147483648), 2147483647)], [5023], [(5, (-1))]) else none) else none) (fk := fun k pc => none) (f := 100000) zgh0 (fun _ _ _ h => by cases h) (fun _ _ h => by cases h) zSp_ok (fun w hw => yctl_ok (P := fun t c => yCOK w zgf zga zra zSp zgh t c) (ylcons (T_findFor_64 : yCOK w zgf zga zra zSp zgh C_findFor_64.1 C_findFor_64.2) (ylcons (T_findUnseen_27 : yCOK w zgf zga zra zSp zgh C_findUnseen_27.1 C_findUnseen_27.2) (ylcons (T_howMany_27 : yCOK w zgf zga zra zSp zgh C_howMany_27.1 C_howMany_27.2) (ylcons (T_viewOf_83 : yCOK w zgf zga zra zSp zgh C_viewOf_83.1 C_viewOf_83.2) (ylcons (T_findUnseen_29 : yCOK w zgf zga zra zSp zgh C_findUnseen_29.1 C_findUnseen_29.2) (ylcons (T_secondsOf_83 : yCOK w zgf zga zra zSp zgh C_secondsOf_83.1 C_secondsOf_83.2) (ylcons (T_stayUnseen : yCOK w zgf zga zra zSp zgh C_stayUnseen.1 C_stayUnseen.2) ylnil)))))))) (by decide +kernel)
noncomputable def C_follow_64_87 : Nat × yC := (35, (10, [(2, 23, 23), (2, 64, 64), (2, 87, 87), (0, 1, 4)], (9, 0, 0), [25, 26, 27, 28, 29, 1024, 2024, 3024, 4024, 5023, 6023], [], [], [], 0, []))
theorem T_follow_64_87 {w0 : qW} : yCOK w0 zgf zga zra zSp zgh C_follow_64_87.1 C_follow_64_87.2 := yctr (bv := fun _ _ => none) (bb := fun _ => none) (ct := yctl [C_findFor_64, C_findUnseen_27, C_howMany_27, C_viewOf_87, C_findUnseen_29, C_secondsOf_87, C_stayUnseen]) (an := fun k pc => bif Nat.beq k 35 then (bif Nat.beq pc 46 then some ([none, none, none, none, some (0, (-2147483648), 2147483647), some (0, 0, 2147483647), some (0, (-2147483648), 2147483647)], [5023], [(5, (-1))]) else none) else none) (fk := fun k pc => none) (f := 100000) zgh0 (fun _ _ _ h => by cases h) (fun _ _ h => by cases h) zSp_ok (fun w hw => yctl_ok (P := fun t c => yCOK w zgf zga zra zSp zgh t c) (ylcons (T_findFor_64 : yCOK w zgf zga zra zSp zgh C_findFor_64.1 C_findFor_64.2) (ylcons (T_findUnseen_27 : yCOK w zgf zga zra zSp zgh C_findUnseen_27.1 C_findUnseen_27.2) (ylcons (T_howMany_27 : yCOK w zgf zga zra zSp zgh C_howMany_27.1 C_howMany_27.2) (ylcons (T_viewOf_87 : yCOK w zgf zga zra zSp zgh C_viewOf_87.1 C_viewOf_87.2) (ylcons (T_findUnseen_29 : yCOK w zgf zga zra zSp zgh C_findUnseen_29.1 C_findUnseen_29.2) (ylcons (T_secondsOf_87 : yCOK w zgf zga zra zSp zgh C_secondsOf_87.1 C_secondsOf_87.2) (ylcons (T_stayUnseen : yCOK w zgf zga zra zSp zgh C_stayUnseen.1 C_stayUnseen.2) ylnil)))))))) (by decide +kernel)
noncomputable def C_follow_64_91 : Nat × yC := (35, (10, [(2, 23, 23), (2, 64, 64), (2, 91, 91), (0, 1, 4)], (9, 0, 0), [25, 26, 27, 28, 29, 1024, 2024, 3024, 4024, 5023, 6023], [], [], [], 0, []))
theorem T_follow_64_91 {w0 : qW} : yCOK w0 zgf zga zra zSp zgh C_follow_64_91.1 C_follow_64_91.2 := yctr (bv := fun _ _ => none) (bb := fun _ => none) (ct := yctl [C_findFor_64, C_findUnseen_27, C_howMany_27, C_viewOf_91, C_findUnseen_29, C_secondsOf_91, C_stayUnseen]) (an := fun k pc => bif Nat.beq k 35 then (bif Nat.beq pc 46 then some ([none, none, none, none, some (0, (-2147483648), 2147483647), some (0, 0, 2147483647), some (0, (-2147483648), 2147483647)], [5023], [(5, (-1))]) else none) else none) (fk := fun k pc => none) (f := 100000) zgh0 (fun _ _ _ h => by cases h) (fun _ _ h => by cases h) zSp_ok (fun w hw => yctl_ok (P := fun t c => yCOK w zgf zga zra zSp zgh t c) (ylcons (T_findFor_64 : yCOK w zgf zga zra zSp zgh C_findFor_64.1 C_findFor_64.2) (ylcons (T_findUnseen_27 : yCOK w zgf zga zra zSp zgh C_findUnseen_27.1 C_findUnseen_27.2) (ylcons (T_howMany_27 : yCOK w zgf zga zra zSp zgh C_howMany_27.1 C_howMany_27.2) (ylcons (T_viewOf_91 : yCOK w zgf zga zra zSp zgh C_viewOf_91.1 C_viewOf_91.2) (ylcons (T_findUnseen_29 : yCOK w zgf zga zra zSp zgh C_findUnseen_29.1 C_findUnseen_29.2) (ylcons (T_secondsOf_91 : yCOK w zgf zga zra zSp zgh C_secondsOf_91.1 C_secondsOf_91.2) (ylcons (T_stayUnseen : yCOK w zgf zga zra zSp zgh C_stayUnseen.1 C_stayUnseen.2) ylnil)))))))) (by decide +kernel)
noncomputable def C_follow_69_4 : Nat × yC := (35, (10, [(2, 23, 23), (2, 69, 69), (2, 4, 4), (0, 1, 4)], (9, 0, 0), [25, 26, 27, 28, 29, 1024, 2024, 3024, 4024, 5023, 6023], [], [], [], 0, []))
theorem T_follow_69_4 {w0 : qW} : yCOK w0 zgf zga zra zSp zgh C_follow_69_4.1 C_follow_69_4.2 := yctr (bv := fun _ _ => none) (bb := fun _ => none) (ct := yctl [C_findFor_69, C_findUnseen_27, C_howMany_27, C_viewOf_4, C_findUnseen_29, C_secondsOf_4, C_stayUnseen]) (an := fun k pc => bif Nat.beq k 35 then (bif Nat.beq pc 46 then some ([none, none, none, none, some (0, (-2147483648), 2147483647), some (0, 0, 2147483647), some (0, (-2147483648), 2147483647)], [5023], [(5, (-1))]) else none) else none) (fk := fun k pc => none) (f := 100000) zgh0 (fun _ _ _ h => by cases h) (fun _ _ h => by cases h) zSp_ok (fun w hw => yctl_ok (P := fun t c => yCOK w zgf zga zra zSp zgh t c) (ylcons (T_findFor_69 : yCOK w zgf zga zra zSp zgh C_findFor_69.1 C_findFor_69.2) (ylcons (T_findUnseen_27 : yCOK w zgf zga zra zSp zgh C_findUnseen_27.1 C_findUnseen_27.2) (ylcons (T_howMany_27 : yCOK w zgf zga zra zSp zgh C_howMany_27.1 C_howMany_27.2) (ylcons (T_viewOf_4 : yCOK w zgf zga zra zSp zgh C_viewOf_4.1 C_viewOf_4.2) (ylcons (T_findUnseen_29 : yCOK w zgf zga zra zSp zgh C_findUnseen_29.1 C_findUnseen_29.2) (ylcons (T_secondsOf_4 : yCOK w zgf zga zra zSp zgh C_secondsOf_4.1 C_secondsOf_4.2) (ylcons (T_stayUnseen : yCOK w zgf zga zra zSp zgh C_stayUnseen.1 C_stayUnseen.2) ylnil)))))))) (by decide +kernel)
noncomputable def C_follow_69_79 : Nat × yC := (35, (10, [(2, 23, 23), (2, 69, 69), (2, 79, 79), (0, 1, 4)], (9, 0, 0), [25, 26, 27, 28, 29, 1024, 2024, 3024, 4024, 5023, 6023], [], [], [], 0, []))
theorem T_follow_69_79 {w0 : qW} : yCOK w0 zgf zga zra zSp zgh C_follow_69_79.1 C_follow_69_79.2 := yctr (bv := fun _ _ => none) (bb := fun _ => none) (ct := yctl [C_findFor_69, C_findUnseen_27, C_howMany_27, C_viewOf_79, C_findUnseen_29, C_secondsOf_79, C_stayUnseen]) (an := fun k pc => bif Nat.beq k 35 then (bif Nat.beq pc 46 then some ([none, none, none, none, some (0, (-2147483648), 2147483647), some (0, 0, 2147483647), some (0, (-2147483648), 2147483647)], [5023], [(5, (-1))]) else none) else none) (fk := fun k pc => none) (f := 100000) zgh0 (fun _ _ _ h => by cases h) (fun _ _ h => by cases h) zSp_ok (fun w hw => yctl_ok (P := fun t c => yCOK w zgf zga zra zSp zgh t c) (ylcons (T_findFor_69 : yCOK w zgf zga zra zSp zgh C_findFor_69.1 C_findFor_69.2) (ylcons (T_findUnseen_27 : yCOK w zgf zga zra zSp zgh C_findUnseen_27.1 C_findUnseen_27.2) (ylcons (T_howMany_27 : yCOK w zgf zga zra zSp zgh C_howMany_27.1 C_howMany_27.2) (ylcons (T_viewOf_79 : yCOK w zgf zga zra zSp zgh C_viewOf_79.1 C_viewOf_79.2) (ylcons (T_findUnseen_29 : yCOK w zgf zga zra zSp zgh C_findUnseen_29.1 C_findUnseen_29.2) (ylcons (T_secondsOf_79 : yCOK w zgf zga zra zSp zgh C_secondsOf_79.1 C_secondsOf_79.2) (ylcons (T_stayUnseen : yCOK w zgf zga zra zSp zgh C_stayUnseen.1 C_stayUnseen.2) ylnil)))))))) (by decide +kernel)
noncomputable def C_follow_69_83 : Nat × yC := (35, (10, [(2, 23, 23), (2, 69, 69), (2, 83, 83), (0, 1, 4)], (9, 0, 0), [25, 26, 27, 28, 29, 1024, 2024, 3024, 4024, 5023, 6023], [], [], [], 0, []))
theorem T_follow_69_83 {w0 : qW} : yCOK w0 zgf zga zra zSp zgh C_follow_69_83.1 C_follow_69_83.2 := yctr (bv := fun _ _ => none) (bb := fun _ => none) (ct := yctl [C_findFor_69, C_findUnseen_27, C_howMany_27, C_viewOf_83, C_findUnseen_29, C_secondsOf_83, C_stayUnseen]) (an := fun k pc => bif Nat.beq k 35 then (bif Nat.beq pc 46 then some ([none, none, none, none, some (0, (-2147483648), 2147483647), some (0, 0, 2147483647), some (0, (-2147483648), 2147483647)], [5023], [(5, (-1))]) else none) else none) (fk := fun k pc => none) (f := 100000) zgh0 (fun _ _ _ h => by cases h) (fun _ _ h => by cases h) zSp_ok (fun w hw => yctl_ok (P := fun t c => yCOK w zgf zga zra zSp zgh t c) (ylcons (T_findFor_69 : yCOK w zgf zga zra zSp zgh C_findFor_69.1 C_findFor_69.2) (ylcons (T_findUnseen_27 : yCOK w zgf zga zra zSp zgh C_findUnseen_27.1 C_findUnseen_27.2) (ylcons (T_howMany_27 : yCOK w zgf zga zra zSp zgh C_howMany_27.1 C_howMany_27.2) (ylcons (T_viewOf_83 : yCOK w zgf zga zra zSp zgh C_viewOf_83.1 C_viewOf_83.2) (ylcons (T_findUnseen_29 : yCOK w zgf zga zra zSp zgh C_findUnseen_29.1 C_findUnseen_29.2) (ylcons (T_secondsOf_83 : yCOK w zgf zga zra zSp zgh C_secondsOf_83.1 C_secondsOf_83.2) (ylcons (T_stayUnseen : yCOK w zgf zga zra zSp zgh C_stayUnseen.1 C_stayUnseen.2) ylnil)))))))) (by decide +kernel)
noncomputable def C_follow_69_87 : Nat × yC := (35, (10, [(2, 23, 23), (2, 69, 69), (2, 87, 87), (0, 1, 4)], (9, 0, 0), [25, 26, 27, 28, 29, 1024, 2024, 3024, 4024, 5023, 6023], [], [], [], 0, []))
theorem T_follow_69_87 {w0 : qW} : yCOK w0 zgf zga zra zSp zgh C_follow_69_87.1 C_follow_69_87.2 := yctr (bv := fun _ _ => none) (bb := fun _ => none) (ct := yctl [C_findFor_69, C_findUnseen_27, C_howMany_27, C_viewOf_87, C_findUnseen_29, C_secondsOf_87, C_stayUnseen]) (an := fun k pc => bif Nat.beq k 35 then (bif Nat.beq pc 46 then some ([none, none, none, none, some (0, (-2147483648), 2147483647), some (0, 0, 2147483647), some (0, (-2147483648), 2147483647)], [5023], [(5, (-1))]) else none) else none) (fk := fun k pc => none) (f := 100000) zgh0 (fun _ _ _ h => by cases h) (fun _ _ h => by cases h) zSp_ok (fun w hw => yctl_ok (P := fun t c => yCOK w zgf zga zra zSp zgh t c) (ylcons (T_findFor_69 : yCOK w zgf zga zra zSp zgh C_findFor_69.1 C_findFor_69.2) (ylcons (T_findUnseen_27 : yCOK w zgf zga zra zSp zgh C_findUnseen_27.1 C_findUnseen_27.2) (ylcons (T_howMany_27 : yCOK w zgf zga zra zSp zgh C_howMany_27.1 C_howMany_27.2) (ylcons (T_viewOf_87 : yCOK w zgf zga zra zSp zgh C_viewOf_87.1 C_viewOf_87.2) (ylcons (T_findUnseen_29 : yCOK w zgf zga zra zSp zgh C_findUnseen_29.1 C_findUnseen_29.2) (ylcons (T_secondsOf_87 : yCOK w zgf zga zra zSp zgh C_secondsOf_87.1 C_secondsOf_87.2) (ylcons (T_stayUnseen : yCOK w zgf zga zra zSp zgh C_stayUnseen.1 C_stayUnseen.2) ylnil)))))))) (by decide +kernel)
noncomputable def C_follow_69_91 : Nat × yC := (35, (10, [(2, 23, 23), (2, 69, 69), (2, 91, 91), (0, 1, 4)], (9, 0, 0), [25, 26, 27, 28, 29, 1024, 2024, 3024, 4024, 5023, 6023], [], [], [], 0, []))
theorem T_follow_69_91 {w0 : qW} : yCOK w0 zgf zga zra zSp zgh C_follow_69_91.1 C_follow_69_91.2 := yctr (bv := fun _ _ => none) (bb := fun _ => none) (ct := yctl [C_findFor_69, C_findUnseen_27, C_howMany_27, C_viewOf_91, C_findUnseen_29, C_secondsOf_91, C_stayUnseen]) (an := fun k pc => bif Nat.beq k 35 then (bif Nat.beq pc 46 then some ([none, none, none, none, some (0, (-2147483648), 2147483647), some (0, 0, 2147483647), some (0, (-2147483648), 2147483647)], [5023], [(5, (-1))]) else none) else none) (fk := fun k pc => none) (f := 100000) zgh0 (fun _ _ _ h => by cases h) (fun _ _ h => by cases h) zSp_ok (fun w hw => yctl_ok (P := fun t c => yCOK w zgf zga zra zSp zgh t c) (ylcons (T_findFor_69 : yCOK w zgf zga zra zSp zgh C_findFor_69.1 C_findFor_69.2) (ylcons (T_findUnseen_27 : yCOK w zgf zga zra zSp zgh C_findUnseen_27.1 C_findUnseen_27.2) (ylcons (T_howMany_27 : yCOK w zgf zga zra zSp zgh C_howMany_27.1 C_howMany_27.2) (ylcons (T_viewOf_91 : yCOK w zgf zga zra zSp zgh C_viewOf_91.1 C_viewOf_91.2) (ylcons (T_findUnseen_29 : yCOK w zgf zga zra zSp zgh C_findUnseen_29.1 C_findUnseen_29.2) (ylcons (T_secondsOf_91 : yCOK w zgf zga zra zSp zgh C_secondsOf_91.1 C_secondsOf_91.2) (ylcons (T_stayUnseen : yCOK w zgf zga zra zSp zgh C_stayUnseen.1 C_stayUnseen.2) ylnil)))))))) (by decide +kernel)
noncomputable def C_follow_74_4 : Nat × yC := (35, (10, [(2, 23, 23), (2, 74, 74), (2, 4, 4), (0, 1, 4)], (9, 0, 0), [25, 26, 27, 28, 29, 1024, 2024, 3024, 4024, 5023, 6023], [], [], [], 0, []))
theorem T_follow_74_4 {w0 : qW} : yCOK w0 zgf zga zra zSp zgh C_follow_74_4.1 C_follow_74_4.2 := yctr (bv := fun _ _ => none) (bb := fun _ => none) (ct := yctl [C_findFor_74, C_findUnseen_27, C_howMany_27, C_viewOf_4, C_findUnseen_29, C_secondsOf_4, C_stayUnseen]) (an := fun k pc => bif Nat.beq k 35 then (bif Nat.beq pc 46 then some ([none, none, none, none, some (0, (-2147483648), 2147483647), some (0, 0, 2147483647), some (0, (-2147483648), 2147483647)], [5023], [(5, (-1))]) else none) else none) (fk := fun k pc => none) (f := 100000) zgh0 (fun _ _ _ h => by cases h) (fun _ _ h => by cases h) zSp_ok (fun w hw => yctl_ok (P := fun t c => yCOK w zgf zga zra zSp zgh t c) (ylcons (T_findFor_74 : yCOK w zgf zga zra zSp zgh C_findFor_74.1 C_findFor_74.2) (ylcons (T_findUnseen_27 : yCOK w zgf zga zra zSp zgh C_findUnseen_27.1 C_findUnseen_27.2) (ylcons (T_howMany_27 : yCOK w zgf zga zra zSp zgh C_howMany_27.1 C_howMany_27.2) (ylcons (T_viewOf_4 : yCOK w zgf zga zra zSp zgh C_viewOf_4.1 C_viewOf_4.2) (ylcons (T_findUnseen_29 : yCOK w zgf zga zra zSp zgh C_findUnseen_29.1 C_findUnseen_29.2) (ylcons (T_secondsOf_4 : yCOK w zgf zga zra zSp zgh C_secondsOf_4.1 C_secondsOf_4.2) (ylcons (T_stayUnseen : yCOK w zgf zga zra zSp zgh C_stayUnseen.1 C_stayUnseen.2) ylnil)))))))) (by decide +kernel)
noncomputable def C_follow_74_79 : Nat × yC := (35, (10, [(2, 23, 23), (2, 74, 74), (2, 79, 79), (0, 1, 4)], (9, 0, 0), [25, 26, 27, 28, 29, 1024, 2024, 3024, 4024, 5023, 6023], [], [], [], 0, []))
theorem T_follow_74_79 {w0 : qW} : yCOK w0 zgf zga zra zSp zgh C_follow_74_79.1 C_follow_74_79.2 := yctr (bv := fun _ _ => none) (bb := fun _ => none) (ct := yctl [C_findFor_74, C_findUnseen_27, C_howMany_27, C_viewOf_79, C_findUnseen_29, C_secondsOf_79, C_stayUnseen]) (an := fun k pc => bif Nat.beq k 35 then (bif Nat.beq pc 46 then some ([none, none, none, none, some (0, (-2147483648), 2147483647), some (0, 0, 2147483647), some (0, (-2147483648), 2147483647)], [5023], [(5, (-1))]) else none) else none) (fk := fun k pc => none) (f := 100000) zgh0 (fun _ _ _ h => by cases h) (fun _ _ h => by cases h) zSp_ok (fun w hw => yctl_ok (P := fun t c => yCOK w zgf zga zra zSp zgh t c) (ylcons (T_findFor_74 : yCOK w zgf zga zra zSp zgh C_findFor_74.1 C_findFor_74.2) (ylcons (T_findUnseen_27 : yCOK w zgf zga zra zSp zgh C_findUnseen_27.1 C_findUnseen_27.2) (ylcons (T_howMany_27 : yCOK w zgf zga zra zSp zgh C_howMany_27.1 C_howMany_27.2) (ylcons (T_viewOf_79 : yCOK w zgf zga zra zSp zgh C_viewOf_79.1 C_viewOf_79.2) (ylcons (T_findUnseen_29 : yCOK w zgf zga zra zSp zgh C_findUnseen_29.1 C_findUnseen_29.2) (ylcons (T_secondsOf_79 : yCOK w zgf zga zra zSp zgh C_secondsOf_79.1 C_secondsOf_79.2) (ylcons (T_stayUnseen : yCOK w zgf zga zra zSp zgh C_stayUnseen.1 C_stayUnseen.2) ylnil)))))))) (by decide +kernel)
noncomputable def C_follow_74_83 : Nat × yC := (35, (10, [(2, 23, 23), (2, 74, 74), (2, 83, 83), (0, 1, 4)], (9, 0, 0), [25, 26, 27, 28, 29, 1024, 2024, 3024, 4024, 5023, 6023], [], [], [], 0, []))
theorem T_follow_74_83 {w0 : qW} : yCOK w0 zgf zga zra zSp zgh C_follow_74_83.1 C_follow_74_83.2 := yctr (bv := fun _ _ => none) (bb := fun _ => none) (ct := yctl [C_findFor_74, C_findUnseen_27, C_howMany_27, C_viewOf_83, C_findUnseen_29, C_secondsOf_83, C_stayUnseen]) (an := fun k pc => bif Nat.beq k 35 then (bif Nat.beq pc 46 then some ([none, none, none, none, some (0, (-2147483648), 2147483647), some (0, 0, 2147483647), some (0, (-2147483648), 2147483647)], [5023], [(5, (-1))]) else none) else none) (fk := fun k pc => none) (f := 100000) zgh0 (fun _ _ _ h => by cases h) (fun _ _ h => by cases h) zSp_ok (fun w hw => yctl_ok (P := fun t c => yCOK w zgf zga zra zSp zgh t c) (ylcons (T_findFor_74 : yCOK w zgf zga zra zSp zgh C_findFor_74.1 C_findFor_74.2) (ylcons (T_findUnseen_27 : yCOK w zgf zga zra zSp zgh C_findUnseen_27.1 C_findUnseen_27.2) (ylcons (T_howMany_27 : yCOK w zgf zga zra zSp zgh C_howMany_27.1 C_howMany_27.2) (ylcons (T_viewOf_83 : yCOK w zgf zga zra zSp zgh C_viewOf_83.1 C_viewOf_83.2) (ylcons (T_findUnseen_29 : yCOK w zgf zga zra zSp zgh C_findUnseen_29.1 C_findUnseen_29.2) (ylcons (T_secondsOf_83 : yCOK w zgf zga zra zSp zgh C_secondsOf_83.1 C_secondsOf_83.2) (ylcons (T_stayUnseen : yCOK w zgf zga zra zSp zgh C_stayUnseen.1 C_stayUnseen.2) ylnil)))))))) (by decide +kernel)
noncomputable def C_follow_74_87 : Nat × yC := (35, (10, [(2, 23, 23), (2, 74, 74), (2, 87, 87), (0, 1, 4)], (9, 0, 0), [25, 26, 27, 28, 29, 1024, 2024, 3024, 4024, 5023, 6023], [], [], [], 0, []))
theorem T_follow_74_87 {w0 : qW} : yCOK w0 zgf zga zra zSp zgh C_follow_74_87.1 C_follow_74_87.2 := yctr (bv := fun _ _ => none) (bb := fun _ => none) (ct := yctl [C_findFor_74, C_findUnseen_27, C_howMany_27, C_viewOf_87, C_findUnseen_29, C_secondsOf_87, C_stayUnseen]) (an := fun k pc => bif Nat.beq k 35 then (bif Nat.beq pc 46 then some ([none, none, none, none, some (0, (-2147483648), 2147483647), some (0, 0, 2147483647), some (0, (-2147483648), 2147483647)], [5023], [(5, (-1))]) else none) else none) (fk := fun k pc => none) (f := 100000) zgh0 (fun _ _ _ h => by cases h) (fun _ _ h => by cases h) zSp_ok (fun w hw => yctl_ok (P := fun t c => yCOK w zgf zga zra zSp zgh t c) (ylcons (T_findFor_74 : yCOK w zgf zga zra zSp zgh C_findFor_74.1 C_findFor_74.2) (ylcons (T_findUnseen_27 : yCOK w zgf zga zra zSp zgh C_findUnseen_27.1 C_findUnseen_27.2) (ylcons (T_howMany_27 : yCOK w zgf zga zra zSp zgh C_howMany_27.1 C_howMany_27.2) (ylcons (T_viewOf_87 : yCOK w zgf zga zra zSp zgh C_viewOf_87.1 C_viewOf_87.2) (ylcons (T_findUnseen_29 : yCOK w zgf zga zra zSp zgh C_findUnseen_29.1 C_findUnseen_29.2) (ylcons (T_secondsOf_87 : yCOK w zgf zga zra zSp zgh C_secondsOf_87.1 C_secondsOf_87.2) (ylcons (T_stayUnseen : yCOK w zgf zga zra zSp zgh C_stayUnseen.1 C_stayUnseen.2) ylnil)))))))) (by decide +kernel)
noncomputable def C_follow_74_91 : Nat × yC := (35, (10, [(2, 23, 23), (2, 74, 74), (2, 91, 91), (0, 1, 4)], (9, 0, 0), [25, 26, 27, 28, 29, 1024, 2024, 3024, 4024, 5023, 6023], [], [], [], 0, []))
theorem T_follow_74_91 {w0 : qW} : yCOK w0 zgf zga zra zSp zgh C_follow_74_91.1 C_follow_74_91.2 := yctr (bv := fun _ _ => none) (bb := fun _ => none) (ct := yctl [C_findFor_74, C_findUnseen_27, C_howMany_27, C_viewOf_91, C_findUnseen_29, C_secondsOf_91, C_stayUnseen]) (an := fun k pc => bif Nat.beq k 35 then (bif Nat.beq pc 46 then some ([none, none, none, none, some (0, (-2147483648), 2147483647), some (0, 0, 2147483647), some (0, (-2147483648), 2147483647)], [5023], [(5, (-1))]) else none) else none) (fk := fun k pc => none) (f := 100000) zgh0 (fun _ _ _ h => by cases h) (fun _ _ h => by cases h) zSp_ok (fun w hw => yctl_ok (P := fun t c => yCOK w zgf zga zra zSp zgh t c) (ylcons (T_findFor_74 : yCOK w zgf zga zra zSp zgh C_findFor_74.1 C_findFor_74.2) (ylcons (T_findUnseen_27 : yCOK w zgf zga zra zSp zgh C_findUnseen_27.1 C_findUnseen_27.2) (ylcons (T_howMany_27 : yCOK w zgf zga zra zSp zgh C_howMany_27.1 C_howMany_27.2) (ylcons (T_viewOf_91 : yCOK w zgf zga zra zSp zgh C_viewOf_91.1 C_viewOf_91.2) (ylcons (T_findUnseen_29 : yCOK w zgf zga zra zSp zgh C_findUnseen_29.1 C_findUnseen_29.2) (ylcons (T_secondsOf_91 : yCOK w zgf zga zra zSp zgh C_secondsOf_91.1 C_secondsOf_91.2) (ylcons (T_stayUnseen : yCOK w zgf zga zra zSp zgh C_stayUnseen.1 C_stayUnseen.2) ylnil)))))))) (by decide +kernel)
end
section
/-! the reference's bits, passages and whether a set hangs together -/
theorem qand_1 (x : Int) : 0 ≤ qand x 1 ∧ qand x 1 ≤ 1 := qand_hi (x := x) (y := 1) (d := 1) (by decide) (by decide) (by decide)
noncomputable def bitsF (v : Int) : Nat → Int
  | 0 => 0
  | j + 1 => bitsF v j + qand (qshr v (j : Int)) 1
theorem bitsF_in (v : Int) : ∀ j, 0 ≤ bitsF v j ∧ bitsF v j ≤ j
  | 0 => ⟨Int.le_refl 0, Int.le_refl 0⟩
  | j + 1 => by
    have h := bitsF_in v j
    have h2 := qand_1 (qshr v (j : Int))
    show 0 ≤ bitsF v j + qand (qshr v (j : Int)) 1 ∧ bitsF v j + qand (qshr v (j : Int)) 1 ≤ ((j + 1 : Nat) : Int)
    omega
theorem K_bits {d : Nat} (hd : 0 ≤ d) (v : Int) (w : qW) : qG none d 211 0 [(0, v), (9, 0), (9, 0)] [] w 142 (fun (r : qV) (w1 : qW) (n1 : Nat) => r = (0, bitsF v 16) ∧ w1 = w ∧ n1 = 142) := by
  generalize hQ9 : (fun (r : qV) (w1 : qW) (n1 : Nat) => r = (0, bitsF v 16) ∧ w1 = w ∧ n1 = 142) = Q9
  refine qG.blk 4 (pc' := 4) (ls' := [(0, v), (0, 0), (0, 0)]) (st' := []) (w' := w) (n' := 142) rfl ?_
  have L4 : ∀ (m9 : Nat) (j : Nat), 16 - j = m9 → (j ≤ 16) → qG none d 211 4 [(0, v), (0, bitsF v j), (0, ((j : Nat) : Int))] [] w 142 Q9 := by
    intro m9
    induction m9 using Nat.strongRecOn with
    | ind m9 ih4 =>
    intro j hm4 hI4
    have hb := bitsF_in v j
    have hq := qand_1 (qshr v (j : Int))
    refine qG.blk 2 (pc' := 7) (ls' := [(0, v), (0, bitsF v j), (0, ((j : Nat) : Int))]) (st' := [(0, 16), (0, ((j : Nat) : Int))]) (w' := w) (n' := 142) rfl ?_
    refine qG.br (P := ((j : Nat) : Int) < 16) (pc1 := 10) (pc2 := 24) (st1 := []) rfl (fun h1 => ?_) (fun h1 => ?_)
    · skip
      refine qG.blk 7 (pc' := 17) (ls' := [(0, v), (0, bitsF v j), (0, ((j : Nat) : Int))]) (st' := [(0, wrp ((bitsF v j) + (qand (qshr v ((j : Nat) : Int)) 1)))]) (w' := w) (n' := 142) rfl ?_
      rw [show wrp ((bitsF v j) + (qand (qshr v ((j : Nat) : Int)) 1)) = (bitsF v j) + (qand (qshr v ((j : Nat) : Int)) 1) from wrp_id (by omega) (by omega)]
      refine qG.blk 2 (pc' := 21) (ls' := [(0, v), (0, (bitsF v j) + (qand (qshr v ((j : Nat) : Int)) 1)), (0, wrp (((j : Nat) : Int) + 1))]) (st' := []) (w' := w) (n' := 142) rfl ?_
      rw [show wrp (((j : Nat) : Int) + 1) = ((j + 1 : Nat) : Int) from wrp_id (by omega) (by omega)]
      refine qG.blk 1 (pc' := 4) (ls' := [(0, v), (0, (bitsF v j) + (qand (qshr v ((j : Nat) : Int)) 1)), (0, ((j + 1 : Nat) : Int))]) (st' := []) (w' := w) (n' := 142) rfl ?_
      exact ih4 _ (by omega) (j + 1) rfl (by omega)
    · skip
      refine qG.blk 1 (pc' := 25) (ls' := [(0, v), (0, bitsF v j), (0, ((j : Nat) : Int))]) (st' := [(0, bitsF v j)]) (w' := w) (n' := 142) rfl ?_
      refine qG.ret rfl rfl ?_
      subst hQ9
      exact ⟨by rw [show j = 16 by omega], rfl, rfl⟩
  exact L4 _ (0) rfl (by omega)
theorem K_areNm {d : Nat} (hd : 1 ≤ d) (s t : Nat) (hs : s < 16) (ht : t < 16) (w : qW) (hI : yInv zgf zga zra zSp w) : qG none d 213 0 [(0, ((s : Nat) : Int)), (0, ((t : Nat) : Int))] [] w 142 (fun r w1 n1 => r = (0, if nbB s t = true then 1 else 0) ∧ w1 = w ∧ n1 = 142) := by
  have h := (T_areNm (w0 := w)) d [(0, (s : Int)), (0, (t : Int))] w hd ⟨⟨rfl, by show (0 : Int) ≤ s; omega, by show (s : Int) ≤ 15; omega⟩, ⟨rfl, by show (0 : Int) ≤ t; omega, by show (t : Int) ≤ 15; omega⟩, trivial⟩ hI (fun p hp => by cases hp) (fun e he => by cases he)
  refine qG.mono h (fun v w' n' hh => ?_)
  obtain ⟨⟨h1, h2⟩, h3, h4, h5, h6, h7⟩ := hh
  refine ⟨?_, funext fun p => funext fun j => h5 p j (fun _ => rfl), h4⟩
  have h8 := h7 rfl
  obtain ⟨v1, v2⟩ := v
  have h1 : v1 = 0 := h1
  have h8 : v2 = (bif nbB ((s : Int)).toNat ((t : Int)).toNat then 1 else 0) := h8
  rw [Int.toNat_natCast, Int.toNat_natCast] at h8
  rw [h1, h8]
  cases nbB s t <;> rfl
noncomputable def pasB (w : qW) (c s t : Nat) : Bool := nbB s t && decide (qand (qshr (w 99 (16 * c + s)) (t : Int)) 1 = 0)
theorem pasB_y {w : qW} {c s t : Nat} (h : nbB s t = true) (h2 : qand (qshr (w 99 (16 * c + s)) (t : Int)) 1 = 0) : pasB w c s t = true := by unfold pasB; rw [h, decide_eq_true h2]; rfl
theorem pasB_n {w : qW} {c s t : Nat} (h2 : ¬ qand (qshr (w 99 (16 * c + s)) (t : Int)) 1 = 0) : pasB w c s t = false := by unfold pasB; rw [decide_eq_false h2, Bool.and_false]
theorem pasB_f {w : qW} {c s t : Nat} (h : ¬ nbB s t = true) : pasB w c s t = false := by unfold pasB; rw [ybf h]; rfl
theorem K_isPassage {d : Nat} (hd : 2 ≤ d) (c s t : Nat) (hc : c < 3) (hs : s < 16) (ht : t < 16) (w : qW) (hI : yInv zgf zga zra zSp w) : qG none d 218 0 [(2, 95), (0, ((c : Nat) : Int)), (0, ((s : Nat) : Int)), (0, ((t : Nat) : Int))] [] w 142 (fun (r : qV) (w1 : qW) (n1 : Nat) => r = (0, if pasB w c s t = true then 1 else 0) ∧ w1 = w ∧ n1 = 142) := by
  generalize hQ9 : (fun (r : qV) (w1 : qW) (n1 : Nat) => r = (0, if pasB w c s t = true then 1 else 0) ∧ w1 = w ∧ n1 = 142) = Q9
  have h99 : w 95 3 = 99 := List.mem_singleton.mp (hI.2.2.1 95 3 (by decide) (by decide))
  obtain ⟨d, rfl⟩ : ∃ d9, d = d9 + 1 := ⟨d - 1, by omega⟩
  refine qG.blk 2 (pc' := 2) (ls' := [(2, 95), (0, ((c : Nat) : Int)), (0, ((s : Nat) : Int)), (0, ((t : Nat) : Int))]) (st' := [(0, ((t : Nat) : Int)), (0, ((s : Nat) : Int))]) (w' := w) (n' := 142) rfl ?_
  refine qG.call (t := 213) (na := 2) (sk := 0) (md := 0) (ls1 := [(0, ((s : Nat) : Int)), (0, ((t : Nat) : Int))]) (r1 := []) rfl rfl rfl rfl rfl (K_areNm (by omega) s t hs ht w hI) ?_
  rintro _ w7 _ ⟨rfl, hw7, rfl⟩
  rw [hw7]
  show qG none (d + 1) 218 5 [(2, 95), (0, ((c : Nat) : Int)), (0, ((s : Nat) : Int)), (0, ((t : Nat) : Int))] [(0, (if nbB s t = true then 1 else 0))] w 142 Q9
  refine qG.br (P := (if nbB s t = true then 1 else 0) = 0) (pc1 := 30) (pc2 := 8) (st1 := []) rfl (fun hnb => ?_) (fun hnb => ?_)
  · skip
    refine qG.blk 1 (pc' := 31) (ls' := [(2, 95), (0, ((c : Nat) : Int)), (0, ((s : Nat) : Int)), (0, ((t : Nat) : Int))]) (st' := [(0, 0)]) (w' := w) (n' := 142) rfl ?_
    refine qG.ret rfl (by first | rfl | exact decide_eq_true (by omega)) ?_
    subst hQ9
    exact ⟨by first | (rw [pasB_y (Decidable.of_not_not (fun z => hnb (ite01.mpr z))) hp]; rfl) | (rw [pasB_n hp]; rfl) | (rw [pasB_f (ite01.mp hnb)]; rfl), rfl, rfl⟩
  · skip
    refine qG.blk 2 (pc' := 12) (ls' := [(2, 95), (0, ((c : Nat) : Int)), (0, ((s : Nat) : Int)), (0, ((t : Nat) : Int))]) (st' := [(2, w 95 3)]) (w' := w) (n' := 142) rfl ?_
    rw [show w 95 3 = 99 from h99]
    refine qG.blk 3 (pc' := 16) (ls' := [(2, 95), (0, ((c : Nat) : Int)), (0, ((s : Nat) : Int)), (0, ((t : Nat) : Int))]) (st' := [(0, wrp (16 * ((c : Nat) : Int))), (2, 99)]) (w' := w) (n' := 142) rfl ?_
    rw [show wrp (16 * ((c : Nat) : Int)) = ((16 * c : Nat) : Int) from by rw [wrp_id (by omega) (by omega)]; omega]
    refine qG.blk 2 (pc' := 18) (ls' := [(2, 95), (0, ((c : Nat) : Int)), (0, ((s : Nat) : Int)), (0, ((t : Nat) : Int))]) (st' := [(0, wrp (((16 * c : Nat) : Int) + ((s : Nat) : Int))), (2, 99)]) (w' := w) (n' := 142) rfl ?_
    rw [show wrp (((16 * c : Nat) : Int) + ((s : Nat) : Int)) = ((16 * c + s : Nat) : Int) from by rw [wrp_id (by omega) (by omega)]; omega]
    refine qG.ar (P := 0 ≤ ((16 * c + s : Nat) : Int) ∧ ((16 * c + s : Nat) : Int) < ((48 : Nat) : Int)) (P2 := 0 < (99 : Int) ∧ (99 : Int) ≤ ((142 : Nat) : Int)) (pc' := 19) (ls' := [(2, 95), (0, ((c : Nat) : Int)), (0, ((s : Nat) : Int)), (0, ((t : Nat) : Int))]) (st' := [(0, w 99 (16 * c + s))]) (w' := w) (n' := 142) rfl (by omega) (by decide) ?_
    refine qG.blk 4 (pc' := 23) (ls' := [(2, 95), (0, ((c : Nat) : Int)), (0, ((s : Nat) : Int)), (0, ((t : Nat) : Int))]) (st' := [(0, qand (qshr (w 99 (16 * c + s)) ((t : Nat) : Int)) 1)]) (w' := w) (n' := 142) rfl ?_
    refine qG.br (P := qand (qshr (w 99 (16 * c + s)) ((t : Nat) : Int)) 1 = 0) (pc1 := 26) (pc2 := 30) (st1 := []) rfl (fun hp => ?_) (fun hp => ?_)
    · skip
      refine qG.blk 2 (pc' := 31) (ls' := [(2, 95), (0, ((c : Nat) : Int)), (0, ((s : Nat) : Int)), (0, ((t : Nat) : Int))]) (st' := [(0, 1)]) (w' := w) (n' := 142) rfl ?_
      refine qG.ret rfl (by first | rfl | exact decide_eq_true (by omega)) ?_
      subst hQ9
      exact ⟨by first | (rw [pasB_y (Decidable.of_not_not (fun z => hnb (ite01.mpr z))) hp]; rfl) | (rw [pasB_n hp]; rfl) | (rw [pasB_f (ite01.mp hnb)]; rfl), rfl, rfl⟩
    · skip
      refine qG.blk 1 (pc' := 31) (ls' := [(2, 95), (0, ((c : Nat) : Int)), (0, ((s : Nat) : Int)), (0, ((t : Nat) : Int))]) (st' := [(0, 0)]) (w' := w) (n' := 142) rfl ?_
      refine qG.ret rfl (by first | rfl | exact decide_eq_true (by omega)) ?_
      subst hQ9
      exact ⟨by first | (rw [pasB_y (Decidable.of_not_not (fun z => hnb (ite01.mpr z))) hp]; rfl) | (rw [pasB_n hp]; rfl) | (rw [pasB_f (ite01.mp hnb)]; rfl), rfl, rfl⟩
theorem q2p : ∀ t : Nat, t < 16 → qshl 1 (t : Int) = ((2 ^ t : Nat) : Int) ∧ 2 ^ t ≤ 32768 := by decide +kernel
theorem qor_n {a b : Nat} (ha : a ≤ 2147483647) (hb : b ≤ 2147483647) : qor (a : Int) (b : Int) = ((a ||| b : Nat) : Int) := by
  unfold qor
  rw [yofn (x := (a : Int)) (by omega) (by omega), yofn (x := (b : Int)) (by omega) (by omega), yb_or, Int.toNat_natCast, Int.toNat_natCast]
  have h : a ||| b < 2 ^ 31 := Nat.or_lt_two_pow (by omega) (by omega)
  rw [nI_toInt h]
theorem qor_ge {m : Int} {t : Nat} (h0 : 0 ≤ m) (h1 : m ≤ 65535) (ht : t < 16) : m ≤ qor m (qshl 1 (t : Int)) ∧ qor m (qshl 1 (t : Int)) ≤ 65535 := by
  obtain ⟨e1, e2⟩ := q2p t ht
  obtain ⟨a, rfl⟩ : ∃ a : Nat, m = a := ⟨m.toNat, (Int.toNat_of_nonneg h0).symm⟩
  rw [e1, qor_n (by omega) (by omega)]
  have h2 : a ≤ a ||| 2 ^ t := Nat.left_le_or
  have h3 : a ||| 2 ^ t < 2 ^ 16 := Nat.or_lt_two_pow (by omega) (by omega)
  omega
noncomputable def hbit (m : Int) (s : Nat) : Bool := decide (qand (qshr m (s : Int)) 1 = 1)
noncomputable def hgT (P : Nat → Nat → Bool) (v : Int) (s : Nat) : Nat → Int → Int
  | 0, m => m
  | t + 1, m => bif hbit (hgT P v s t m) s && (hbit v t && P s t) then qor (hgT P v s t m) (qshl 1 (t : Int)) else hgT P v s t m
noncomputable def hgS (P : Nat → Nat → Bool) (v : Int) : Nat → Int → Int
  | 0, m => m
  | s + 1, m => hgT P v s 16 (hgS P v s m)
noncomputable def hgL (v : Int) : Nat → Int
  | 0 => 0
  | s + 1 => if hgL v s = 0 then (bif hbit v s then qshl 1 (s : Int) else 0) else hgL v s
noncomputable def hgF (P : Nat → Nat → Bool) (v : Int) : Nat → Int → Int
  | 0, m => m
  | n + 1, m => if hgS P v 16 m = m then m else hgF P v n (hgS P v 16 m)
/-- what the reference's hangs reaches -/
noncomputable def hgR (P : Nat → Nat → Bool) (v : Int) : Int := if hgL v 16 = 0 then 0 else hgF P v 65536 (hgL v 16)
theorem hgT_in {P : Nat → Nat → Bool} {v m : Int} {s : Nat} (h0 : 0 ≤ m) (h1 : m ≤ 65535) : ∀ t, t ≤ 16 → m ≤ hgT P v s t m ∧ hgT P v s t m ≤ 65535
  | 0, _ => ⟨Int.le_refl _, h1⟩
  | t + 1, ht => by
    have ih := hgT_in (P := P) (v := v) (s := s) h0 h1 t (by omega)
    have k := qor_ge (m := hgT P v s t m) (t := t) (by omega) ih.2 (by omega)
    show m ≤ (bif hbit (hgT P v s t m) s && (hbit v t && P s t) then qor (hgT P v s t m) (qshl 1 (t : Int)) else hgT P v s t m) ∧ (bif hbit (hgT P v s t m) s && (hbit v t && P s t) then qor (hgT P v s t m) (qshl 1 (t : Int)) else hgT P v s t m) ≤ 65535
    cases hbit (hgT P v s t m) s && (hbit v t && P s t)
    · exact ih
    · exact ⟨by show m ≤ qor _ _; omega, k.2⟩
theorem hgS_in {P : Nat → Nat → Bool} {v m : Int} (h0 : 0 ≤ m) (h1 : m ≤ 65535) : ∀ s, m ≤ hgS P v s m ∧ hgS P v s m ≤ 65535
  | 0 => ⟨Int.le_refl _, h1⟩
  | s + 1 => by
    have ih := hgS_in (P := P) (v := v) h0 h1 s
    have k := hgT_in (P := P) (v := v) (s := s) (m := hgS P v s m) (by omega) ih.2 16 (by decide)
    exact ⟨Int.le_trans ih.1 k.1, k.2⟩
theorem hgL_in (v : Int) : ∀ s, s ≤ 16 → 0 ≤ hgL v s ∧ hgL v s ≤ 65535
  | 0, _ => by show (0 : Int) ≤ 0 ∧ (0 : Int) ≤ 65535; decide
  | s + 1, hs => by
    have ih := hgL_in v s (by omega)
    obtain ⟨e1, e2⟩ := q2p s (by omega)
    show 0 ≤ (if hgL v s = 0 then (bif hbit v s then qshl 1 (s : Int) else 0) else hgL v s) ∧ (if hgL v s = 0 then (bif hbit v s then qshl 1 (s : Int) else 0) else hgL v s) ≤ 65535
    split
    · cases hbit v s
      · show (0 : Int) ≤ 0 ∧ (0 : Int) ≤ 65535
        decide
      · show 0 ≤ qshl 1 (s : Int) ∧ qshl 1 (s : Int) ≤ 65535
        rw [e1]
        generalize 2 ^ s = q at e2 ⊢
        omega
    · exact ih
theorem hgL_y {v : Int} {s : Nat} (h : hgL v s = 0) (hb : qand (qshr v (s : Int)) 1 = 1) : hgL v (s + 1) = qshl 1 (s : Int) := by
  show (if hgL v s = 0 then (bif hbit v s then qshl 1 (s : Int) else 0) else hgL v s) = _
  rw [if_pos h, show hbit v s = true from decide_eq_true hb]; rfl
theorem hgL_n {v : Int} {s : Nat} (h : hgL v s = 0) (hb : ¬ qand (qshr v (s : Int)) 1 = 1) : hgL v (s + 1) = hgL v s := by
  show (if hgL v s = 0 then (bif hbit v s then qshl 1 (s : Int) else 0) else hgL v s) = _
  rw [if_pos h, show hbit v s = false from decide_eq_false hb, h]; rfl
theorem hgL_st {v : Int} {s : Nat} (h : ¬ hgL v s = 0) : ∀ j, hgL v (s + j) = hgL v s
  | 0 => rfl
  | j + 1 => by
    have ih := hgL_st h j
    show (if hgL v (s + j) = 0 then (bif hbit v (s + j) then qshl 1 ((s + j : Nat) : Int) else 0) else hgL v (s + j)) = _
    rw [ih, if_neg h]
theorem hgT_y {P : Nat → Nat → Bool} {v m : Int} {s t : Nat} (h1 : qand (qshr (hgT P v s t m) (s : Int)) 1 = 1) (h2 : qand (qshr v (t : Int)) 1 = 1) (h3 : P s t = true) : hgT P v s (t + 1) m = qor (hgT P v s t m) (qshl 1 (t : Int)) := by
  show (bif hbit (hgT P v s t m) s && (hbit v t && P s t) then qor (hgT P v s t m) (qshl 1 (t : Int)) else hgT P v s t m) = _
  rw [show hbit (hgT P v s t m) s = true from decide_eq_true h1, show hbit v t = true from decide_eq_true h2, h3]; rfl
theorem hgT_n {P : Nat → Nat → Bool} {v m : Int} {s t : Nat} (h : ¬ qand (qshr (hgT P v s t m) (s : Int)) 1 = 1 ∨ ¬ qand (qshr v (t : Int)) 1 = 1 ∨ P s t = false) : hgT P v s (t + 1) m = hgT P v s t m := by
  show (bif hbit (hgT P v s t m) s && (hbit v t && P s t) then qor (hgT P v s t m) (qshl 1 (t : Int)) else hgT P v s t m) = _
  rcases h with h | h | h
  · rw [show hbit (hgT P v s t m) s = false from decide_eq_false h]; rfl
  · rw [show hbit v t = false from decide_eq_false h, Bool.false_and, Bool.and_false]; rfl
  · rw [h, Bool.and_false, Bool.and_false]; rfl
/-- the outer loop's state: met, before -/
noncomputable def hgI (P : Nat → Nat → Bool) (v m b : Int) : Prop := 0 ≤ b ∧ b ≤ m ∧ m ≤ 65535 ∧ (b = m → m = hgR P v) ∧ (¬ b = m → ∃ n : Nat, 65536 - m ≤ n ∧ hgF P v n m = hgR P v)
theorem hgI.init {P : Nat → Nat → Bool} {v : Int} : hgI P v (hgL v 16) 0 := by
  have h := hgL_in v 16 (by decide)
  refine ⟨Int.le_refl 0, h.1, h.2, fun z => ?_, fun z => ⟨65536, by omega, ?_⟩⟩
  · unfold hgR; rw [if_pos z.symm]; exact z.symm
  · unfold hgR; rw [if_neg (fun y => z y.symm)]
theorem hgI.next {P : Nat → Nat → Bool} {v m b : Int} (h : hgI P v m b) (hne : ¬ m = b) : hgI P v (hgS P v 16 m) m := by
  obtain ⟨h1, h2, h3, -, h5⟩ := h
  have k := hgS_in (P := P) (v := v) (m := m) (by omega) h3 16
  obtain ⟨n, hn1, hn2⟩ := h5 (fun z => hne z.symm)
  obtain ⟨n, rfl⟩ : ∃ n', n = n' + 1 := ⟨n - 1, by omega⟩
  have e : hgF P v (n + 1) m = if hgS P v 16 m = m then m else hgF P v n (hgS P v 16 m) := rfl
  rw [e] at hn2
  refine ⟨by omega, k.1, k.2, fun z => ?_, fun z => ⟨n, by omega, ?_⟩⟩
  · rw [if_pos z.symm] at hn2; rw [← z]; exact hn2
  · rw [if_neg (fun y => z y.symm)] at hn2; exact hn2
noncomputable def hgM (m b : Int) : Nat := (65536 - m).toNat * 2 + (if b = m then 0 else 1)
theorem hgM_lt {P : Nat → Nat → Bool} {v m b : Int} (h : hgI P v m b) (hne : ¬ m = b) : hgM (hgS P v 16 m) m < hgM m b := by
  obtain ⟨h1, h2, h3, -, -⟩ := h
  have k := hgS_in (P := P) (v := v) (m := m) (by omega) h3 16
  have e : hgM m b = (65536 - m).toNat * 2 + 1 := by unfold hgM; rw [if_neg (fun z => hne z.symm)]
  rw [e]
  unfold hgM
  split <;> omega
theorem hgL_16 {v : Int} {s : Nat} (hs : s ≤ 16) (h : 16 ≤ s ∨ ¬ hgL v s = 0) : hgL v s = hgL v 16 := by
  rcases h with h | h
  · rw [show s = 16 by omega]
  · have hst := hgL_st h (16 - s)
    rw [show s + (16 - s) = 16 by omega] at hst
    exact hst.symm
theorem K_hangs {d : Nat} (hd : 3 ≤ d) (c : Nat) (v : Int) (hc : c < 3) (w : qW) (hI : yInv zgf zga zra zSp w) : qG none d 219 0 [(2, 95), (0, ((c : Nat) : Int)), (0, v), (9, 0), (9, 0), (9, 0), (9, 0)] [] w 142 (fun (r : qV) (w1 : qW) (n1 : Nat) => r = (0, if hgR (pasB w c) v = v then 1 else 0) ∧ w1 = w ∧ n1 = 142) := by
  generalize hQ9 : (fun (r : qV) (w1 : qW) (n1 : Nat) => r = (0, if hgR (pasB w c) v = v then 1 else 0) ∧ w1 = w ∧ n1 = 142) = Q9
  obtain ⟨d, rfl⟩ : ∃ d9, d = d9 + 1 := ⟨d - 1, by omega⟩
  refine qG.blk 4 (pc' := 5) (ls' := [(2, 95), (0, ((c : Nat) : Int)), (0, v), (0, 0), (0, 0), (9, 0), (9, 0)]) (st' := []) (w' := w) (n' := 142) rfl ?_
  have L5 : ∀ (m9 : Nat) (s : Nat) (m : Int), 16 - s = m9 → (s ≤ 16 ∧ m = hgL v s) → qG none (d + 1) 219 5 [(2, 95), (0, ((c : Nat) : Int)), (0, v), (0, m), (0, ((s : Nat) : Int)), (9, 0), (9, 0)] [] w 142 Q9 := by
    intro m9
    induction m9 using Nat.strongRecOn with
    | ind m9 ih5 =>
    intro s m hm5 hI5
    refine qG.blk 2 (pc' := 9) (ls' := [(2, 95), (0, ((c : Nat) : Int)), (0, v), (0, m), (0, ((s : Nat) : Int)), (9, 0), (9, 0)]) (st' := [(0, 16), (0, ((s : Nat) : Int))]) (w' := w) (n' := 142) rfl ?_
    refine qG.br (P := ((s : Nat) : Int) < 16) (pc1 := 12) (pc2 := 37) (st1 := []) rfl (fun h1 => ?_) (fun h1 => ?_)
    · skip
      refine qG.blk 1 (pc' := 13) (ls' := [(2, 95), (0, ((c : Nat) : Int)), (0, v), (0, m), (0, ((s : Nat) : Int)), (9, 0), (9, 0)]) (st' := [(0, m)]) (w' := w) (n' := 142) rfl ?_
      refine qG.br (P := m = 0) (pc1 := 16) (pc2 := 37) (st1 := []) rfl (fun hm0 => ?_) (fun hm0 => ?_)
      · skip
        refine qG.blk 6 (pc' := 23) (ls' := [(2, 95), (0, ((c : Nat) : Int)), (0, v), (0, m), (0, ((s : Nat) : Int)), (9, 0), (9, 0)]) (st' := [(0, 1), (0, qand (qshr v ((s : Nat) : Int)) 1)]) (w' := w) (n' := 142) rfl ?_
        refine qG.br (P := qand (qshr v ((s : Nat) : Int)) 1 = 1) (pc1 := 26) (pc2 := 31) (st1 := []) rfl (fun hbit5 => ?_) (fun hbit5 => ?_)
        · skip
          refine qG.blk 5 (pc' := 34) (ls' := [(2, 95), (0, ((c : Nat) : Int)), (0, v), (0, qshl 1 ((s : Nat) : Int)), (0, wrp (((s : Nat) : Int) + 1)), (9, 0), (9, 0)]) (st' := []) (w' := w) (n' := 142) rfl ?_
          rw [show wrp (((s : Nat) : Int) + 1) = ((s + 1 : Nat) : Int) from wrp_id (by omega) (by omega)]
          refine qG.blk 1 (pc' := 5) (ls' := [(2, 95), (0, ((c : Nat) : Int)), (0, v), (0, qshl 1 ((s : Nat) : Int)), (0, ((s + 1 : Nat) : Int)), (9, 0), (9, 0)]) (st' := []) (w' := w) (n' := 142) rfl ?_
          exact ih5 _ (by omega) (s + 1) (qshl 1 ((s : Nat) : Int)) rfl (⟨by omega, by rw [hI5.2] at hm0; first | exact (hgL_y hm0 hbit5).symm | (rw [hgL_n hm0 hbit5]; exact hI5.2)⟩)
        · skip
          refine qG.blk 1 (pc' := 34) (ls' := [(2, 95), (0, ((c : Nat) : Int)), (0, v), (0, m), (0, wrp (((s : Nat) : Int) + 1)), (9, 0), (9, 0)]) (st' := []) (w' := w) (n' := 142) rfl ?_
          rw [show wrp (((s : Nat) : Int) + 1) = ((s + 1 : Nat) : Int) from wrp_id (by omega) (by omega)]
          refine qG.blk 1 (pc' := 5) (ls' := [(2, 95), (0, ((c : Nat) : Int)), (0, v), (0, m), (0, ((s + 1 : Nat) : Int)), (9, 0), (9, 0)]) (st' := []) (w' := w) (n' := 142) rfl ?_
          exact ih5 _ (by omega) (s + 1) (m) rfl (⟨by omega, by rw [hI5.2] at hm0; first | exact (hgL_y hm0 hbit5).symm | (rw [hgL_n hm0 hbit5]; exact hI5.2)⟩)
      · skip
        refine qG.blk 2 (pc' := 40) (ls' := [(2, 95), (0, ((c : Nat) : Int)), (0, v), (0, m), (0, 0), (9, 0), (9, 0)]) (st' := []) (w' := w) (n' := 142) rfl ?_
        have L40 : ∀ (m9 : Nat) (m1 b1 : Int) (x5 x6 : qV), hgM m1 b1 = m9 → (hgI (pasB w c) v m1 b1) → qG none (d + 1) 219 40 [(2, 95), (0, ((c : Nat) : Int)), (0, v), (0, m1), (0, b1), x5, x6] [] w 142 Q9 := by
          intro m9
          induction m9 using Nat.strongRecOn with
          | ind m9 ih40 =>
          intro m1 b1 x5 x6 hm40 hI40
          refine qG.blk 2 (pc' := 43) (ls' := [(2, 95), (0, ((c : Nat) : Int)), (0, v), (0, m1), (0, b1), x5, x6]) (st' := [(0, m1), (0, b1)]) (w' := w) (n' := 142) rfl ?_
          refine qG.br (P := b1 = m1) (pc1 := 123) (pc2 := 46) (st1 := []) rfl (fun hne => ?_) (fun hne => ?_)
          · skip
            refine qG.blk 2 (pc' := 125) (ls' := [(2, 95), (0, ((c : Nat) : Int)), (0, v), (0, m1), (0, b1), x5, x6]) (st' := [(0, v), (0, m1)]) (w' := w) (n' := 142) rfl ?_
            refine qG.br (P := m1 = v) (pc1 := 128) (pc2 := 132) (st1 := []) rfl (fun h2 => ?_) (fun h2 => ?_)
            · skip
              refine qG.blk 2 (pc' := 133) (ls' := [(2, 95), (0, ((c : Nat) : Int)), (0, v), (0, m1), (0, b1), x5, x6]) (st' := [(0, 1)]) (w' := w) (n' := 142) rfl ?_
              refine qG.ret rfl (by first | rfl | exact decide_eq_true (by omega)) ?_
              subst hQ9
              exact ⟨by rw [← hI40.2.2.2.1 hne]; first | (rw [if_pos (by assumption)]; done) | (rw [if_neg (by assumption)]; done), rfl, rfl⟩
            · skip
              refine qG.blk 1 (pc' := 133) (ls' := [(2, 95), (0, ((c : Nat) : Int)), (0, v), (0, m1), (0, b1), x5, x6]) (st' := [(0, 0)]) (w' := w) (n' := 142) rfl ?_
              refine qG.ret rfl (by first | rfl | exact decide_eq_true (by omega)) ?_
              subst hQ9
              exact ⟨by rw [← hI40.2.2.2.1 hne]; first | (rw [if_pos (by assumption)]; done) | (rw [if_neg (by assumption)]; done), rfl, rfl⟩
          · skip
            refine qG.blk 4 (pc' := 52) (ls' := [(2, 95), (0, ((c : Nat) : Int)), (0, v), (0, m1), (0, m1), (0, 0), x6]) (st' := []) (w' := w) (n' := 142) rfl ?_
            have L52 : ∀ (m9 : Nat) (s : Nat) (m2 : Int) (x6 : qV), 16 - s = m9 → (s ≤ 16 ∧ m2 = hgS (pasB w c) v s m1) → qG none (d + 1) 219 52 [(2, 95), (0, ((c : Nat) : Int)), (0, v), (0, m2), (0, m1), (0, ((s : Nat) : Int)), x6] [] w 142 Q9 := by
              intro m9
              induction m9 using Nat.strongRecOn with
              | ind m9 ih52 =>
              intro s m2 x6 hm52 hI52
              refine qG.blk 2 (pc' := 56) (ls' := [(2, 95), (0, ((c : Nat) : Int)), (0, v), (0, m2), (0, m1), (0, ((s : Nat) : Int)), x6]) (st' := [(0, 16), (0, ((s : Nat) : Int))]) (w' := w) (n' := 142) rfl ?_
              refine qG.br (P := ((s : Nat) : Int) < 16) (pc1 := 59) (pc2 := 120) (st1 := []) rfl (fun hs16 => ?_) (fun hs16 => ?_)
              · skip
                refine qG.blk 2 (pc' := 62) (ls' := [(2, 95), (0, ((c : Nat) : Int)), (0, v), (0, m2), (0, m1), (0, ((s : Nat) : Int)), (0, 0)]) (st' := []) (w' := w) (n' := 142) rfl ?_
                have L62 : ∀ (m9 : Nat) (t : Nat) (m3 : Int), 16 - t = m9 → (t ≤ 16 ∧ m3 = hgT (pasB w c) v s t m2) → qG none (d + 1) 219 62 [(2, 95), (0, ((c : Nat) : Int)), (0, v), (0, m3), (0, m1), (0, ((s : Nat) : Int)), (0, ((t : Nat) : Int))] [] w 142 Q9 := by
                  intro m9
                  induction m9 using Nat.strongRecOn with
                  | ind m9 ih62 =>
                  intro t m3 hm62 hI62
                  refine qG.blk 2 (pc' := 66) (ls' := [(2, 95), (0, ((c : Nat) : Int)), (0, v), (0, m3), (0, m1), (0, ((s : Nat) : Int)), (0, ((t : Nat) : Int))]) (st' := [(0, 16), (0, ((t : Nat) : Int))]) (w' := w) (n' := 142) rfl ?_
                  refine qG.br (P := ((t : Nat) : Int) < 16) (pc1 := 69) (pc2 := 114) (st1 := []) rfl (fun h3 => ?_) (fun h3 => ?_)
                  · skip
                    refine qG.blk 6 (pc' := 76) (ls' := [(2, 95), (0, ((c : Nat) : Int)), (0, v), (0, m3), (0, m1), (0, ((s : Nat) : Int)), (0, ((t : Nat) : Int))]) (st' := [(0, 1), (0, qand (qshr m3 ((s : Nat) : Int)) 1)]) (w' := w) (n' := 142) rfl ?_
                    refine qG.br (P := qand (qshr m3 ((s : Nat) : Int)) 1 = 1) (pc1 := 79) (pc2 := 108) (st1 := []) rfl (fun hb1 => ?_) (fun hb1 => ?_)
                    · skip
                      refine qG.blk 6 (pc' := 86) (ls' := [(2, 95), (0, ((c : Nat) : Int)), (0, v), (0, m3), (0, m1), (0, ((s : Nat) : Int)), (0, ((t : Nat) : Int))]) (st' := [(0, 1), (0, qand (qshr v ((t : Nat) : Int)) 1)]) (w' := w) (n' := 142) rfl ?_
                      refine qG.br (P := qand (qshr v ((t : Nat) : Int)) 1 = 1) (pc1 := 89) (pc2 := 108) (st1 := []) rfl (fun hb2 => ?_) (fun hb2 => ?_)
                      · skip
                        refine qG.blk 4 (pc' := 95) (ls' := [(2, 95), (0, ((c : Nat) : Int)), (0, v), (0, m3), (0, m1), (0, ((s : Nat) : Int)), (0, ((t : Nat) : Int))]) (st' := [(0, ((t : Nat) : Int)), (0, ((s : Nat) : Int)), (0, ((c : Nat) : Int)), (2, 95)]) (w' := w) (n' := 142) rfl ?_
                        refine qG.call (t := 218) (na := 4) (sk := 1) (md := 1) (ls1 := [(2, 95), (0, ((c : Nat) : Int)), (0, ((s : Nat) : Int)), (0, ((t : Nat) : Int))]) (r1 := []) rfl rfl rfl rfl rfl (K_isPassage (by omega) c s t hc (by omega) (by omega) w hI) ?_
                        rintro _ w7 _ ⟨rfl, hw7, rfl⟩
                        rw [hw7]
                        show qG none (d + 1) 219 98 [(2, 95), (0, ((c : Nat) : Int)), (0, v), (0, m3), (0, m1), (0, ((s : Nat) : Int)), (0, ((t : Nat) : Int))] [(0, (if pasB w c s t = true then 1 else 0))] w 142 Q9
                        refine qG.br (P := (if pasB w c s t = true then 1 else 0) = 0) (pc1 := 108) (pc2 := 101) (st1 := []) rfl (fun hb3 => ?_) (fun hb3 => ?_)
                        · skip
                          refine qG.blk 1 (pc' := 111) (ls' := [(2, 95), (0, ((c : Nat) : Int)), (0, v), (0, m3), (0, m1), (0, ((s : Nat) : Int)), (0, wrp (((t : Nat) : Int) + 1))]) (st' := []) (w' := w) (n' := 142) rfl ?_
                          rw [show wrp (((t : Nat) : Int) + 1) = ((t + 1 : Nat) : Int) from wrp_id (by omega) (by omega)]
                          refine qG.blk 1 (pc' := 62) (ls' := [(2, 95), (0, ((c : Nat) : Int)), (0, v), (0, m3), (0, m1), (0, ((s : Nat) : Int)), (0, ((t + 1 : Nat) : Int))]) (st' := []) (w' := w) (n' := 142) rfl ?_
                          exact ih62 _ (by omega) (t + 1) (m3) rfl (⟨by omega, by rw [hI62.2] at hb1 ⊢; first | exact (hgT_y hb1 hb2 (Decidable.of_not_not (fun z => hb3 (ite01.mpr z)))).symm | exact (hgT_n (.inl hb1)).symm | exact (hgT_n (.inr (.inl hb2))).symm | exact (hgT_n (.inr (.inr (ybf (ite01.mp hb3))))).symm⟩)
                        · skip
                          refine qG.blk 7 (pc' := 111) (ls' := [(2, 95), (0, ((c : Nat) : Int)), (0, v), (0, qor m3 (qshl 1 ((t : Nat) : Int))), (0, m1), (0, ((s : Nat) : Int)), (0, wrp (((t : Nat) : Int) + 1))]) (st' := []) (w' := w) (n' := 142) rfl ?_
                          rw [show wrp (((t : Nat) : Int) + 1) = ((t + 1 : Nat) : Int) from wrp_id (by omega) (by omega)]
                          refine qG.blk 1 (pc' := 62) (ls' := [(2, 95), (0, ((c : Nat) : Int)), (0, v), (0, qor m3 (qshl 1 ((t : Nat) : Int))), (0, m1), (0, ((s : Nat) : Int)), (0, ((t + 1 : Nat) : Int))]) (st' := []) (w' := w) (n' := 142) rfl ?_
                          exact ih62 _ (by omega) (t + 1) (qor m3 (qshl 1 ((t : Nat) : Int))) rfl (⟨by omega, by rw [hI62.2] at hb1 ⊢; first | exact (hgT_y hb1 hb2 (Decidable.of_not_not (fun z => hb3 (ite01.mpr z)))).symm | exact (hgT_n (.inl hb1)).symm | exact (hgT_n (.inr (.inl hb2))).symm | exact (hgT_n (.inr (.inr (ybf (ite01.mp hb3))))).symm⟩)
                      · skip
                        refine qG.blk 1 (pc' := 111) (ls' := [(2, 95), (0, ((c : Nat) : Int)), (0, v), (0, m3), (0, m1), (0, ((s : Nat) : Int)), (0, wrp (((t : Nat) : Int) + 1))]) (st' := []) (w' := w) (n' := 142) rfl ?_
                        rw [show wrp (((t : Nat) : Int) + 1) = ((t + 1 : Nat) : Int) from wrp_id (by omega) (by omega)]
                        refine qG.blk 1 (pc' := 62) (ls' := [(2, 95), (0, ((c : Nat) : Int)), (0, v), (0, m3), (0, m1), (0, ((s : Nat) : Int)), (0, ((t + 1 : Nat) : Int))]) (st' := []) (w' := w) (n' := 142) rfl ?_
                        exact ih62 _ (by omega) (t + 1) (m3) rfl (⟨by omega, by rw [hI62.2] at hb1 ⊢; first | exact (hgT_y hb1 hb2 (Decidable.of_not_not (fun z => hb3 (ite01.mpr z)))).symm | exact (hgT_n (.inl hb1)).symm | exact (hgT_n (.inr (.inl hb2))).symm | exact (hgT_n (.inr (.inr (ybf (ite01.mp hb3))))).symm⟩)
                    · skip
                      refine qG.blk 1 (pc' := 111) (ls' := [(2, 95), (0, ((c : Nat) : Int)), (0, v), (0, m3), (0, m1), (0, ((s : Nat) : Int)), (0, wrp (((t : Nat) : Int) + 1))]) (st' := []) (w' := w) (n' := 142) rfl ?_
                      rw [show wrp (((t : Nat) : Int) + 1) = ((t + 1 : Nat) : Int) from wrp_id (by omega) (by omega)]
                      refine qG.blk 1 (pc' := 62) (ls' := [(2, 95), (0, ((c : Nat) : Int)), (0, v), (0, m3), (0, m1), (0, ((s : Nat) : Int)), (0, ((t + 1 : Nat) : Int))]) (st' := []) (w' := w) (n' := 142) rfl ?_
                      exact ih62 _ (by omega) (t + 1) (m3) rfl (⟨by omega, by rw [hI62.2] at hb1 ⊢; first | exact (hgT_y hb1 hb2 (Decidable.of_not_not (fun z => hb3 (ite01.mpr z)))).symm | exact (hgT_n (.inl hb1)).symm | exact (hgT_n (.inr (.inl hb2))).symm | exact (hgT_n (.inr (.inr (ybf (ite01.mp hb3))))).symm⟩)
                  · skip
                    refine qG.blk 1 (pc' := 117) (ls' := [(2, 95), (0, ((c : Nat) : Int)), (0, v), (0, m3), (0, m1), (0, wrp (((s : Nat) : Int) + 1)), (0, ((t : Nat) : Int))]) (st' := []) (w' := w) (n' := 142) rfl ?_
                    rw [show wrp (((s : Nat) : Int) + 1) = ((s + 1 : Nat) : Int) from wrp_id (by omega) (by omega)]
                    refine qG.blk 1 (pc' := 52) (ls' := [(2, 95), (0, ((c : Nat) : Int)), (0, v), (0, m3), (0, m1), (0, ((s + 1 : Nat) : Int)), (0, ((t : Nat) : Int))]) (st' := []) (w' := w) (n' := 142) rfl ?_
                    exact ih52 _ (by omega) (s + 1) (m3) ((0, ((t : Nat) : Int))) rfl (⟨by omega, by rw [hI62.2, show t = 16 by omega, hI52.2]; rfl⟩)
                exact L62 _ (0) (m2) rfl (⟨by omega, rfl⟩)
              · skip
                have hm1 : m2 = hgS (pasB w c) v 16 m1 := by rw [hI52.2, show s = 16 by omega]
                refine qG.blk 1 (pc' := 40) (ls' := [(2, 95), (0, ((c : Nat) : Int)), (0, v), (0, m2), (0, m1), (0, ((s : Nat) : Int)), x6]) (st' := []) (w' := w) (n' := 142) rfl ?_
                exact ih40 _ (by rw [hm1, ← hm40]; exact hgM_lt hI40 (fun z => hne z.symm)) (m2) (m1) ((0, ((s : Nat) : Int))) (x6) rfl (by rw [hm1]; exact hI40.next (fun z => hne z.symm))
            exact L52 _ (0) (m1) (x6) rfl (⟨by omega, rfl⟩)
        exact L40 _ (m) (0) ((9, 0)) ((9, 0)) rfl (by rw [hI5.2, hgL_16 hI5.1 (by first | exact .inl (by omega) | exact .inr (fun z => hm0 (hI5.2.trans z)))]; exact hgI.init)
    · skip
      refine qG.blk 2 (pc' := 40) (ls' := [(2, 95), (0, ((c : Nat) : Int)), (0, v), (0, m), (0, 0), (9, 0), (9, 0)]) (st' := []) (w' := w) (n' := 142) rfl ?_
      have L40_1 : ∀ (m9 : Nat) (m1 b1 : Int) (x5 x6 : qV), hgM m1 b1 = m9 → (hgI (pasB w c) v m1 b1) → qG none (d + 1) 219 40 [(2, 95), (0, ((c : Nat) : Int)), (0, v), (0, m1), (0, b1), x5, x6] [] w 142 Q9 := by
        intro m9
        induction m9 using Nat.strongRecOn with
        | ind m9 ih40 =>
        intro m1 b1 x5 x6 hm40 hI40
        refine qG.blk 2 (pc' := 43) (ls' := [(2, 95), (0, ((c : Nat) : Int)), (0, v), (0, m1), (0, b1), x5, x6]) (st' := [(0, m1), (0, b1)]) (w' := w) (n' := 142) rfl ?_
        refine qG.br (P := b1 = m1) (pc1 := 123) (pc2 := 46) (st1 := []) rfl (fun hne => ?_) (fun hne => ?_)
        · skip
          refine qG.blk 2 (pc' := 125) (ls' := [(2, 95), (0, ((c : Nat) : Int)), (0, v), (0, m1), (0, b1), x5, x6]) (st' := [(0, v), (0, m1)]) (w' := w) (n' := 142) rfl ?_
          refine qG.br (P := m1 = v) (pc1 := 128) (pc2 := 132) (st1 := []) rfl (fun h4 => ?_) (fun h4 => ?_)
          · skip
            refine qG.blk 2 (pc' := 133) (ls' := [(2, 95), (0, ((c : Nat) : Int)), (0, v), (0, m1), (0, b1), x5, x6]) (st' := [(0, 1)]) (w' := w) (n' := 142) rfl ?_
            refine qG.ret rfl (by first | rfl | exact decide_eq_true (by omega)) ?_
            subst hQ9
            exact ⟨by rw [← hI40.2.2.2.1 hne]; first | (rw [if_pos (by assumption)]; done) | (rw [if_neg (by assumption)]; done), rfl, rfl⟩
          · skip
            refine qG.blk 1 (pc' := 133) (ls' := [(2, 95), (0, ((c : Nat) : Int)), (0, v), (0, m1), (0, b1), x5, x6]) (st' := [(0, 0)]) (w' := w) (n' := 142) rfl ?_
            refine qG.ret rfl (by first | rfl | exact decide_eq_true (by omega)) ?_
            subst hQ9
            exact ⟨by rw [← hI40.2.2.2.1 hne]; first | (rw [if_pos (by assumption)]; done) | (rw [if_neg (by assumption)]; done), rfl, rfl⟩
        · skip
          refine qG.blk 4 (pc' := 52) (ls' := [(2, 95), (0, ((c : Nat) : Int)), (0, v), (0, m1), (0, m1), (0, 0), x6]) (st' := []) (w' := w) (n' := 142) rfl ?_
          have L52_1 : ∀ (m9 : Nat) (s : Nat) (m2 : Int) (x6 : qV), 16 - s = m9 → (s ≤ 16 ∧ m2 = hgS (pasB w c) v s m1) → qG none (d + 1) 219 52 [(2, 95), (0, ((c : Nat) : Int)), (0, v), (0, m2), (0, m1), (0, ((s : Nat) : Int)), x6] [] w 142 Q9 := by
            intro m9
            induction m9 using Nat.strongRecOn with
            | ind m9 ih52 =>
            intro s m2 x6 hm52 hI52
            refine qG.blk 2 (pc' := 56) (ls' := [(2, 95), (0, ((c : Nat) : Int)), (0, v), (0, m2), (0, m1), (0, ((s : Nat) : Int)), x6]) (st' := [(0, 16), (0, ((s : Nat) : Int))]) (w' := w) (n' := 142) rfl ?_
            refine qG.br (P := ((s : Nat) : Int) < 16) (pc1 := 59) (pc2 := 120) (st1 := []) rfl (fun hs16 => ?_) (fun hs16 => ?_)
            · skip
              refine qG.blk 2 (pc' := 62) (ls' := [(2, 95), (0, ((c : Nat) : Int)), (0, v), (0, m2), (0, m1), (0, ((s : Nat) : Int)), (0, 0)]) (st' := []) (w' := w) (n' := 142) rfl ?_
              have L62_1 : ∀ (m9 : Nat) (t : Nat) (m3 : Int), 16 - t = m9 → (t ≤ 16 ∧ m3 = hgT (pasB w c) v s t m2) → qG none (d + 1) 219 62 [(2, 95), (0, ((c : Nat) : Int)), (0, v), (0, m3), (0, m1), (0, ((s : Nat) : Int)), (0, ((t : Nat) : Int))] [] w 142 Q9 := by
                intro m9
                induction m9 using Nat.strongRecOn with
                | ind m9 ih62 =>
                intro t m3 hm62 hI62
                refine qG.blk 2 (pc' := 66) (ls' := [(2, 95), (0, ((c : Nat) : Int)), (0, v), (0, m3), (0, m1), (0, ((s : Nat) : Int)), (0, ((t : Nat) : Int))]) (st' := [(0, 16), (0, ((t : Nat) : Int))]) (w' := w) (n' := 142) rfl ?_
                refine qG.br (P := ((t : Nat) : Int) < 16) (pc1 := 69) (pc2 := 114) (st1 := []) rfl (fun h5 => ?_) (fun h5 => ?_)
                · skip
                  refine qG.blk 6 (pc' := 76) (ls' := [(2, 95), (0, ((c : Nat) : Int)), (0, v), (0, m3), (0, m1), (0, ((s : Nat) : Int)), (0, ((t : Nat) : Int))]) (st' := [(0, 1), (0, qand (qshr m3 ((s : Nat) : Int)) 1)]) (w' := w) (n' := 142) rfl ?_
                  refine qG.br (P := qand (qshr m3 ((s : Nat) : Int)) 1 = 1) (pc1 := 79) (pc2 := 108) (st1 := []) rfl (fun hb1 => ?_) (fun hb1 => ?_)
                  · skip
                    refine qG.blk 6 (pc' := 86) (ls' := [(2, 95), (0, ((c : Nat) : Int)), (0, v), (0, m3), (0, m1), (0, ((s : Nat) : Int)), (0, ((t : Nat) : Int))]) (st' := [(0, 1), (0, qand (qshr v ((t : Nat) : Int)) 1)]) (w' := w) (n' := 142) rfl ?_
                    refine qG.br (P := qand (qshr v ((t : Nat) : Int)) 1 = 1) (pc1 := 89) (pc2 := 108) (st1 := []) rfl (fun hb2 => ?_) (fun hb2 => ?_)
                    · skip
                      refine qG.blk 4 (pc' := 95) (ls' := [(2, 95), (0, ((c : Nat) : Int)), (0, v), (0, m3), (0, m1), (0, ((s : Nat) : Int)), (0, ((t : Nat) : Int))]) (st' := [(0, ((t : Nat) : Int)), (0, ((s : Nat) : Int)), (0, ((c : Nat) : Int)), (2, 95)]) (w' := w) (n' := 142) rfl ?_
                      refine qG.call (t := 218) (na := 4) (sk := 1) (md := 1) (ls1 := [(2, 95), (0, ((c : Nat) : Int)), (0, ((s : Nat) : Int)), (0, ((t : Nat) : Int))]) (r1 := []) rfl rfl rfl rfl rfl (K_isPassage (by omega) c s t hc (by omega) (by omega) w hI) ?_
                      rintro _ w7 _ ⟨rfl, hw7, rfl⟩
                      rw [hw7]
                      show qG none (d + 1) 219 98 [(2, 95), (0, ((c : Nat) : Int)), (0, v), (0, m3), (0, m1), (0, ((s : Nat) : Int)), (0, ((t : Nat) : Int))] [(0, (if pasB w c s t = true then 1 else 0))] w 142 Q9
                      refine qG.br (P := (if pasB w c s t = true then 1 else 0) = 0) (pc1 := 108) (pc2 := 101) (st1 := []) rfl (fun hb3 => ?_) (fun hb3 => ?_)
                      · skip
                        refine qG.blk 1 (pc' := 111) (ls' := [(2, 95), (0, ((c : Nat) : Int)), (0, v), (0, m3), (0, m1), (0, ((s : Nat) : Int)), (0, wrp (((t : Nat) : Int) + 1))]) (st' := []) (w' := w) (n' := 142) rfl ?_
                        rw [show wrp (((t : Nat) : Int) + 1) = ((t + 1 : Nat) : Int) from wrp_id (by omega) (by omega)]
                        refine qG.blk 1 (pc' := 62) (ls' := [(2, 95), (0, ((c : Nat) : Int)), (0, v), (0, m3), (0, m1), (0, ((s : Nat) : Int)), (0, ((t + 1 : Nat) : Int))]) (st' := []) (w' := w) (n' := 142) rfl ?_
                        exact ih62 _ (by omega) (t + 1) (m3) rfl (⟨by omega, by rw [hI62.2] at hb1 ⊢; first | exact (hgT_y hb1 hb2 (Decidable.of_not_not (fun z => hb3 (ite01.mpr z)))).symm | exact (hgT_n (.inl hb1)).symm | exact (hgT_n (.inr (.inl hb2))).symm | exact (hgT_n (.inr (.inr (ybf (ite01.mp hb3))))).symm⟩)
                      · skip
                        refine qG.blk 7 (pc' := 111) (ls' := [(2, 95), (0, ((c : Nat) : Int)), (0, v), (0, qor m3 (qshl 1 ((t : Nat) : Int))), (0, m1), (0, ((s : Nat) : Int)), (0, wrp (((t : Nat) : Int) + 1))]) (st' := []) (w' := w) (n' := 142) rfl ?_
                        rw [show wrp (((t : Nat) : Int) + 1) = ((t + 1 : Nat) : Int) from wrp_id (by omega) (by omega)]
                        refine qG.blk 1 (pc' := 62) (ls' := [(2, 95), (0, ((c : Nat) : Int)), (0, v), (0, qor m3 (qshl 1 ((t : Nat) : Int))), (0, m1), (0, ((s : Nat) : Int)), (0, ((t + 1 : Nat) : Int))]) (st' := []) (w' := w) (n' := 142) rfl ?_
                        exact ih62 _ (by omega) (t + 1) (qor m3 (qshl 1 ((t : Nat) : Int))) rfl (⟨by omega, by rw [hI62.2] at hb1 ⊢; first | exact (hgT_y hb1 hb2 (Decidable.of_not_not (fun z => hb3 (ite01.mpr z)))).symm | exact (hgT_n (.inl hb1)).symm | exact (hgT_n (.inr (.inl hb2))).symm | exact (hgT_n (.inr (.inr (ybf (ite01.mp hb3))))).symm⟩)
                    · skip
                      refine qG.blk 1 (pc' := 111) (ls' := [(2, 95), (0, ((c : Nat) : Int)), (0, v), (0, m3), (0, m1), (0, ((s : Nat) : Int)), (0, wrp (((t : Nat) : Int) + 1))]) (st' := []) (w' := w) (n' := 142) rfl ?_
                      rw [show wrp (((t : Nat) : Int) + 1) = ((t + 1 : Nat) : Int) from wrp_id (by omega) (by omega)]
                      refine qG.blk 1 (pc' := 62) (ls' := [(2, 95), (0, ((c : Nat) : Int)), (0, v), (0, m3), (0, m1), (0, ((s : Nat) : Int)), (0, ((t + 1 : Nat) : Int))]) (st' := []) (w' := w) (n' := 142) rfl ?_
                      exact ih62 _ (by omega) (t + 1) (m3) rfl (⟨by omega, by rw [hI62.2] at hb1 ⊢; first | exact (hgT_y hb1 hb2 (Decidable.of_not_not (fun z => hb3 (ite01.mpr z)))).symm | exact (hgT_n (.inl hb1)).symm | exact (hgT_n (.inr (.inl hb2))).symm | exact (hgT_n (.inr (.inr (ybf (ite01.mp hb3))))).symm⟩)
                  · skip
                    refine qG.blk 1 (pc' := 111) (ls' := [(2, 95), (0, ((c : Nat) : Int)), (0, v), (0, m3), (0, m1), (0, ((s : Nat) : Int)), (0, wrp (((t : Nat) : Int) + 1))]) (st' := []) (w' := w) (n' := 142) rfl ?_
                    rw [show wrp (((t : Nat) : Int) + 1) = ((t + 1 : Nat) : Int) from wrp_id (by omega) (by omega)]
                    refine qG.blk 1 (pc' := 62) (ls' := [(2, 95), (0, ((c : Nat) : Int)), (0, v), (0, m3), (0, m1), (0, ((s : Nat) : Int)), (0, ((t + 1 : Nat) : Int))]) (st' := []) (w' := w) (n' := 142) rfl ?_
                    exact ih62 _ (by omega) (t + 1) (m3) rfl (⟨by omega, by rw [hI62.2] at hb1 ⊢; first | exact (hgT_y hb1 hb2 (Decidable.of_not_not (fun z => hb3 (ite01.mpr z)))).symm | exact (hgT_n (.inl hb1)).symm | exact (hgT_n (.inr (.inl hb2))).symm | exact (hgT_n (.inr (.inr (ybf (ite01.mp hb3))))).symm⟩)
                · skip
                  refine qG.blk 1 (pc' := 117) (ls' := [(2, 95), (0, ((c : Nat) : Int)), (0, v), (0, m3), (0, m1), (0, wrp (((s : Nat) : Int) + 1)), (0, ((t : Nat) : Int))]) (st' := []) (w' := w) (n' := 142) rfl ?_
                  rw [show wrp (((s : Nat) : Int) + 1) = ((s + 1 : Nat) : Int) from wrp_id (by omega) (by omega)]
                  refine qG.blk 1 (pc' := 52) (ls' := [(2, 95), (0, ((c : Nat) : Int)), (0, v), (0, m3), (0, m1), (0, ((s + 1 : Nat) : Int)), (0, ((t : Nat) : Int))]) (st' := []) (w' := w) (n' := 142) rfl ?_
                  exact ih52 _ (by omega) (s + 1) (m3) ((0, ((t : Nat) : Int))) rfl (⟨by omega, by rw [hI62.2, show t = 16 by omega, hI52.2]; rfl⟩)
              exact L62_1 _ (0) (m2) rfl (⟨by omega, rfl⟩)
            · skip
              have hm1 : m2 = hgS (pasB w c) v 16 m1 := by rw [hI52.2, show s = 16 by omega]
              refine qG.blk 1 (pc' := 40) (ls' := [(2, 95), (0, ((c : Nat) : Int)), (0, v), (0, m2), (0, m1), (0, ((s : Nat) : Int)), x6]) (st' := []) (w' := w) (n' := 142) rfl ?_
              exact ih40 _ (by rw [hm1, ← hm40]; exact hgM_lt hI40 (fun z => hne z.symm)) (m2) (m1) ((0, ((s : Nat) : Int))) (x6) rfl (by rw [hm1]; exact hI40.next (fun z => hne z.symm))
          exact L52_1 _ (0) (m1) (x6) rfl (⟨by omega, rfl⟩)
      exact L40_1 _ (m) (0) ((9, 0)) ((9, 0)) rfl (by rw [hI5.2, hgL_16 hI5.1 (by first | exact .inl (by omega) | exact .inr (fun z => hm0 (hI5.2.trans z)))]; exact hgI.init)
  exact L5 _ (0) (0) rfl (⟨by omega, rfl⟩)
end
section
/-! counting sets of so many of sixteen -/
noncomputable def ctb (f : Nat → Bool) : Nat → Nat
  | 0 => 0
  | m + 1 => ctb f m + (bif f m then 1 else 0)
noncomputable def pc (n m : Nat) : Nat := ctb (fun i => n.testBit i) m
theorem ctb_congr {f g : Nat → Bool} : ∀ {m : Nat}, (∀ i, i < m → f i = g i) → ctb f m = ctb g m
  | 0, _ => rfl
  | m + 1, h => by
    show ctb f m + (bif f m then 1 else 0) = ctb g m + (bif g m then 1 else 0)
    rw [ctb_congr (fun i hi => h i (by omega)), h m (by omega)]
theorem ctb_filter (f : Nat → Bool) : ∀ m, ((List.range m).filter f).length = ctb f m
  | 0 => rfl
  | m + 1 => by
    rw [List.range_succ, List.filter_append, List.length_append, ctb_filter f m]
    show ctb f m + ([m].filter f).length = ctb f m + (bif f m then 1 else 0)
    congr 1
    rw [List.filter_cons, List.filter_nil]
    cases f m <;> rfl
theorem ctb_not (f : Nat → Bool) : ∀ m, ctb f m + ctb (fun i => !f i) m = m
  | 0 => rfl
  | m + 1 => by
    have := ctb_not f m
    show ctb f m + (bif f m then 1 else 0) + (ctb (fun i => !f i) m + (bif !f m then 1 else 0)) = m + 1
    cases f m
    · show ctb f m + 0 + (ctb (fun i => !f i) m + 1) = m + 1; omega
    · show ctb f m + 1 + (ctb (fun i => !f i) m + 0) = m + 1; omega
theorem ctb_mono {f g : Nat → Bool} : ∀ {m : Nat}, (∀ i, i < m → f i = true → g i = true) → ctb f m ≤ ctb g m
  | 0, _ => Nat.le_refl 0
  | m + 1, h => by
    have ih := ctb_mono (m := m) (fun i hi => h i (by omega))
    have h1 := h m (by omega)
    show ctb f m + (bif f m then 1 else 0) ≤ ctb g m + (bif g m then 1 else 0)
    cases hf : f m
    · show ctb f m + 0 ≤ _; omega
    · rw [h1 hf]; show ctb f m + 1 ≤ ctb g m + 1; omega
/-- one bit less in common: one place where they differ -/
theorem ctb_one {f g : Nat → Bool} : ∀ {m : Nat}, ctb (fun i => f i && g i) m + 1 = ctb f m → ∃ x, x < m ∧ f x = true ∧ g x = false ∧ ∀ z, z < m → z ≠ x → f z = true → g z = true
  | 0, h => by
    have h : 0 + 1 = 0 := h
    omega
  | m + 1, h => by
    have h : ctb (fun i => f i && g i) m + (bif f m && g m then 1 else 0) + 1 = ctb f m + (bif f m then 1 else 0) := h
    have hle : ctb (fun i => f i && g i) m ≤ ctb f m := ctb_mono (fun i _ hi => by rw [Bool.and_eq_true] at hi; exact hi.1)
    by_cases hf : f m = true
    · by_cases hg : g m = true
      · rw [hf, hg] at h
        have h : ctb (fun i => f i && g i) m + 1 + 1 = ctb f m + 1 := h
        obtain ⟨x, h1, h2, h3, h4⟩ := ctb_one (f := f) (g := g) (m := m) (by omega)
        refine ⟨x, by omega, h2, h3, fun z hz hzx hfz => ?_⟩
        by_cases e : z = m
        · rw [e]; exact hg
        · exact h4 z (by omega) hzx hfz
      · rw [hf, ybf hg] at h
        have h : ctb (fun i => f i && g i) m + 0 + 1 = ctb f m + 1 := h
        refine ⟨m, by omega, hf, ybf hg, fun z hz hzx hfz => ?_⟩
        have key : ∀ j, ctb (fun i => f i && g i) j = ctb f j → ∀ z, z < j → f z = true → g z = true := by
          intro j
          induction j with
          | zero => intro _ z hz; omega
          | succ j ih =>
            intro he z hz hfz
            have he : ctb (fun i => f i && g i) j + (bif f j && g j then 1 else 0) = ctb f j + (bif f j then 1 else 0) := he
            have hl : ctb (fun i => f i && g i) j ≤ ctb f j := ctb_mono (fun i _ hi => by rw [Bool.and_eq_true] at hi; exact hi.1)
            cases hfj : f j
            · rw [hfj] at he
              have he : ctb (fun i => f i && g i) j + 0 = ctb f j + 0 := he
              by_cases e : z = j
              · rw [e, hfj] at hfz; cases hfz
              · exact ih (by omega) z (by omega) hfz
            · rw [hfj] at he
              cases hgj : g j
              · rw [hgj] at he
                have he : ctb (fun i => f i && g i) j + 0 = ctb f j + 1 := he
                omega
              · rw [hgj] at he
                have he : ctb (fun i => f i && g i) j + 1 = ctb f j + 1 := he
                by_cases e : z = j
                · rw [e]; exact hgj
                · exact ih (by omega) z (by omega) hfz
        exact key m (by omega) z (by omega) hfz
    · rw [ybf hf] at h
      have h : ctb (fun i => f i && g i) m + 0 + 1 = ctb f m + 0 := h
      obtain ⟨x, h1, h2, h3, h4⟩ := ctb_one (f := f) (g := g) (m := m) (by omega)
      refine ⟨x, by omega, h2, h3, fun z hz hzx hfz => ?_⟩
      by_cases e : z = m
      · rw [e] at hfz; exact absurd hfz hf
      · exact h4 z (by omega) hzx hfz
/-- a without a bit, with another -/
noncomputable def swaps (a : Nat) : List Nat := ((List.range 16).filter (fun x => a.testBit x)).flatMap (fun x => ((List.range 16).filter (fun y => !a.testBit y)).map (fun y => a ^^^ 2 ^ x ^^^ 2 ^ y))
theorem flat_len {α β : Type} {f : α → List β} {c : Nat} : ∀ {l : List α}, (∀ x ∈ l, (f x).length = c) → (l.flatMap f).length = l.length * c
  | [], _ => by rw [List.flatMap_nil]; show 0 = 0 * c; omega
  | a :: l, h => by
    rw [List.flatMap_cons, List.length_append, h a List.mem_cons_self, flat_len (fun x hx => h x (List.mem_cons_of_mem _ hx)), List.length_cons, Nat.add_mul]
    omega
theorem swaps_len (a : Nat) : (swaps a).length = pc a 16 * (16 - pc a 16) := by
  unfold swaps
  rw [flat_len (c := 16 - pc a 16), ctb_filter]
  · rfl
  · intro x _
    rw [List.length_map, ctb_filter]
    have := ctb_not (fun i => a.testBit i) 16
    unfold pc
    omega
theorem swaps_in {a b : Nat} (ha : a < 65536) (hb : b < 65536) {k : Nat} (h1 : pc a 16 = k) (h2 : pc b 16 = k) (h3 : pc (a &&& b) 16 + 1 = k) : b ∈ swaps a := by
  have e1 : ctb (fun i => a.testBit i && b.testBit i) 16 + 1 = ctb (fun i => a.testBit i) 16 := by
    have : pc (a &&& b) 16 = ctb (fun i => a.testBit i && b.testBit i) 16 := ctb_congr (fun i _ => by show (a &&& b).testBit i = _; rw [Nat.testBit_and])
    unfold pc at h1 this
    unfold pc at h3
    omega
  have e2 : ctb (fun i => b.testBit i && a.testBit i) 16 + 1 = ctb (fun i => b.testBit i) 16 := by
    have : pc (a &&& b) 16 = ctb (fun i => b.testBit i && a.testBit i) 16 := ctb_congr (fun i _ => by show (a &&& b).testBit i = _; rw [Nat.testBit_and, Bool.and_comm])
    unfold pc at h2 this
    unfold pc at h3
    omega
  obtain ⟨x, x1, x2, x3, x4⟩ := ctb_one e1
  obtain ⟨y, y1, y2, y3, y4⟩ := ctb_one e2
  unfold swaps
  rw [List.mem_flatMap]
  refine ⟨x, List.mem_filter.mpr ⟨List.mem_range.mpr x1, x2⟩, List.mem_map.mpr ⟨y, List.mem_filter.mpr ⟨List.mem_range.mpr y1, by rw [y3]; rfl⟩, ?_⟩⟩
  apply Nat.eq_of_testBit_eq
  intro i
  rw [Nat.testBit_xor, Nat.testBit_xor, Nat.testBit_two_pow, Nat.testBit_two_pow]
  by_cases hi : i < 16
  · by_cases c1 : x = i
    · subst c1
      have c2 : ¬ y = x := fun z => by rw [z, x2] at y3; cases y3
      rw [x2, decide_eq_true rfl, decide_eq_false c2, x3]; rfl
    · by_cases c2 : y = i
      · subst c2
        rw [y3, decide_eq_false c1, decide_eq_true rfl, y2]; rfl
      · rw [decide_eq_false c1, decide_eq_false c2, Bool.xor_false, Bool.xor_false]
        cases q1 : a.testBit i
        · cases q2 : b.testBit i
          · rfl
          · have := y4 i hi (fun z => c2 z.symm) q2
            rw [q1] at this; cases this
        · exact (x4 i hi (fun z => c1 z.symm) q1).symm
  · have z1 : a.testBit i = false := Nat.testBit_lt_two_pow (Nat.lt_of_lt_of_le ha (Nat.pow_le_pow_right (n := 2) (i := 16) (by decide) (by omega)))
    have z2 : b.testBit i = false := Nat.testBit_lt_two_pow (Nat.lt_of_lt_of_le hb (Nat.pow_le_pow_right (n := 2) (i := 16) (by decide) (by omega)))
    rw [z1, z2, decide_eq_false (by omega), decide_eq_false (by omega)]; rfl
theorem pigeon : ∀ {l L : List Nat}, l.Nodup → (∀ b ∈ l, b ∈ L) → l.length ≤ L.length
  | [], _, _, _ => Nat.zero_le _
  | a :: l, L, hn, h => by
    have ha := h a List.mem_cons_self
    have h1 := List.nodup_cons.mp hn
    have ih := pigeon (l := l) (L := L.erase a) h1.2 (fun b hb => (List.mem_erase_of_ne (fun z => h1.1 (by rw [← z]; exact hb))).mpr (h b (List.mem_cons_of_mem _ hb)))
    rw [List.length_erase_of_mem ha] at ih
    have : 0 < L.length := List.length_pos_of_mem ha
    show l.length + 1 ≤ L.length
    omega
/-- how many numbers below 2 to the m have k ones -/
noncomputable def binm : Nat → Nat → Nat
  | 0, 0 => 1
  | 0, _ + 1 => 0
  | m + 1, 0 => binm m 0
  | m + 1, k + 1 => binm m (k + 1) + binm m k
theorem pc_lo {m n : Nat} (h : n < 2 ^ m) : pc n (m + 1) = pc n m := by
  show ctb _ m + (bif n.testBit m then 1 else 0) = ctb _ m
  rw [Nat.testBit_lt_two_pow h]; rfl
theorem pc_hi {m n : Nat} (h : n < 2 ^ m) : pc (2 ^ m + n) (m + 1) = pc n m + 1 := by
  show ctb _ m + (bif (2 ^ m + n).testBit m then 1 else 0) = ctb _ m + 1
  rw [Nat.testBit_two_pow_add_eq, Nat.testBit_lt_two_pow h]
  show ctb _ m + 1 = ctb _ m + 1
  congr 1
  exact ctb_congr (fun i hi => Nat.testBit_two_pow_add_gt hi n)
theorem bin_count : ∀ (m k : Nat), ((List.range (2 ^ m)).filter (fun n => Nat.beq (pc n m) k)).length = binm m k
  | 0, 0 => rfl
  | 0, k + 1 => rfl
  | m + 1, k => by
    have e : (List.range (2 ^ (m + 1))).filter (fun n => Nat.beq (pc n (m + 1)) k) = (List.range (2 ^ m)).filter (fun n => Nat.beq (pc n m) k) ++ ((List.range (2 ^ m)).map (fun x => 2 ^ m + x)).filter (fun n => Nat.beq (pc n (m + 1)) k) := by
      rw [show 2 ^ (m + 1) = 2 ^ m + 2 ^ m by rw [Nat.pow_succ]; omega, List.range_add, List.filter_append]
      congr 1
      exact List.filter_congr (fun n hn => by rw [pc_lo (List.mem_range.mp hn)])
    rw [e, List.length_append, List.filter_map, List.length_map, bin_count m k]
    cases k with
    | zero =>
      show binm m 0 + _ = binm m 0
      have : (List.range (2 ^ m)).filter ((fun n => Nat.beq (pc n (m + 1)) 0) ∘ (fun x => 2 ^ m + x)) = [] := by
        rw [List.filter_eq_nil_iff]
        intro n hn h
        have h : Nat.beq (pc (2 ^ m + n) (m + 1)) 0 = true := h
        rw [pc_hi (List.mem_range.mp hn)] at h; cases h
      rw [this]; rfl
    | succ k =>
      show binm m (k + 1) + _ = binm m (k + 1) + binm m k
      rw [← bin_count m k]
      congr 2
      exact List.filter_congr (fun n hn => by show Nat.beq (pc (2 ^ m + n) (m + 1)) (k + 1) = _; rw [pc_hi (List.mem_range.mp hn)]; rfl)
theorem bin_16 : ∀ k, k < 5 → binm 16 k ≤ 1820 := by decide +kernel
theorem swap_49 : ∀ k, k < 5 → k * (16 - k) ≤ 48 := by decide
/-- the plain run's bits are these -/
theorem hb_bit {n j : Nat} (hn : n < 65536) (hj : j < 16) : qand (qshr (n : Int) (j : Int)) 1 = if n.testBit j = true then 1 else 0 := by
  have h1 : qshr (n : Int) (j : Int) = ((n / 2 ^ j : Nat) : Int) := by
    unfold qshr
    rw [yofn (x := (n : Int)) (by omega) (by omega), yofn (x := (j : Int)) (by omega) (by omega), Int.toNat_natCast, Int.toNat_natCast, yb_shr (by omega) (by omega)]
    have : n / 2 ^ j ≤ n := Nat.div_le_self _ _
    rw [nI_toInt (by omega)]
  have h2 : n / 2 ^ j ≤ n := Nat.div_le_self _ _
  rw [h1]
  have h3 := qand_n (a := n / 2 ^ j) (b := 1) (by omega) (by omega)
  have h3 : qand ((n / 2 ^ j : Nat) : Int) 1 = ((n / 2 ^ j &&& 1 : Nat) : Int) := h3
  rw [h3, Nat.and_one_is_mod, Nat.testBit_eq_decide_div_mod_eq]
  generalize n / 2 ^ j = q
  by_cases c : q % 2 = 1
  · rw [c]; rfl
  · rw [if_neg (by rw [decide_eq_true_eq]; exact c), show q % 2 = 0 by omega]; rfl
theorem bitsF_pc {n : Nat} (hn : n < 65536) : ∀ m, m ≤ 16 → bitsF (n : Int) m = ((pc n m : Nat) : Int)
  | 0, _ => rfl
  | m + 1, hm => by
    show bitsF (n : Int) m + qand (qshr (n : Int) (m : Int)) 1 = ((ctb (fun i => n.testBit i) m + (bif n.testBit m then 1 else 0) : Nat) : Int)
    rw [bitsF_pc hn m (by omega), hb_bit hn (by omega)]
    unfold pc
    generalize ctb (fun i => n.testBit i) m = z
    cases n.testBit m
    · show (z : Int) + 0 = ((z + 0 : Nat) : Int); omega
    · show (z : Int) + 1 = ((z + 1 : Nat) : Int); omega
end
section
/-! the reference's isMove, findsPoses -/
theorem qG.ild {sc : Option (Nat × (Nat → Int))} {d k pc n m x len : Nat} {ls r : List qV} {w : qW} {Q : qV → qW → Nat → Prop} {i p : Int} (hq : qcd k pc = some (.iaload, len)) (hp : qpl p.toNat = (1, 0, m, x)) (hi : 0 ≤ i ∧ i < (m : Int)) (h0 : 0 < p ∧ p ≤ (n : Int)) (g : qG sc d k (pc + 1) ls ((0, w p.toNat i.toNat) :: r) w n Q) : qG sc d k pc ls ((0, i) :: (2, p) :: r) w n Q := by
  refine qG.one (pc' := pc + 1) (ls' := ls) (st' := (0, w p.toNat i.toNat) :: r) (w' := w) (n' := n) ?_ g
  unfold qone
  rw [hq]
  show qs1 sc k .iaload len pc ls ((0, i) :: (2, p) :: r) w n = _
  rw [qs1_iaload]
  show (match qpl p.toNat with
    | (1, 0, m, _) => if 0 ≤ i ∧ i < (m : Int) then (if 0 < p ∧ p ≤ (n : Int) then some (pc + 1, ls, (0, w p.toNat i.toNat) :: r, w, n) else none) else none
    | _ => none) = _
  rw [hp]
  show (if 0 ≤ i ∧ i < (m : Int) then (if 0 < p ∧ p ≤ (n : Int) then some (pc + 1, ls, (0, w p.toNat i.toNat) :: r, w, n) else none) else none) = _
  rw [if_pos hi, if_pos h0]
theorem qG.ist {sc : Option (Nat × (Nat → Int))} {d k pc n m x len : Nat} {ls r : List qV} {w : qW} {Q : qV → qW → Nat → Prop} {i p v : Int} (hq : qcd k pc = some (.iastore, len)) (hp : qpl p.toNat = (1, 0, m, x)) (hi : 0 ≤ i ∧ i < (m : Int)) (h0 : 0 < p ∧ p ≤ (n : Int)) (g : qG sc d k (pc + 1) ls r (qup w p.toNat i.toNat v) n Q) : qG sc d k pc ls ((0, v) :: (0, i) :: (2, p) :: r) w n Q := by
  refine qG.one (pc' := pc + 1) (ls' := ls) (st' := r) (w' := qup w p.toNat i.toNat v) (n' := n) ?_ g
  unfold qone
  rw [hq]
  show qs1 sc k .iastore len pc ls ((0, v) :: (0, i) :: (2, p) :: r) w n = _
  rw [qs1_iastore]
  show (match qpl p.toNat with
    | (1, 0, m, _) => if 0 ≤ i ∧ i < (m : Int) then (if 0 < p ∧ p ≤ (n : Int) then some (pc + 1, ls, r, qup w p.toNat i.toNat v, n) else none) else none
    | _ => none) = _
  rw [hp]
  show (if 0 ≤ i ∧ i < (m : Int) then (if 0 < p ∧ p ≤ (n : Int) then some (pc + 1, ls, r, qup w p.toNat i.toNat v, n) else none) else none) = _
  rw [if_pos hi, if_pos h0]
noncomputable def mvB (w : qW) (c k : Nat) (a b : Int) : Bool := decide (a = b) || (decide (bitsF (qand a b) 16 = (k : Int) - 1) && (decide ((1 : Int) < (k : Int)) || decide (hgR (pasB w c) (qor a b) = qor a b)))
theorem mv_1 {w : qW} {c k : Nat} {a b : Int} (h : a = b) : mvB w c k a b = true := by unfold mvB; rw [decide_eq_true h]; rfl
theorem mv_2 {w : qW} {c k : Nat} {a b : Int} (h : bitsF (qand a b) 16 = (k : Int) - 1) (h2 : (1 : Int) < (k : Int)) : mvB w c k a b = true := by unfold mvB; rw [decide_eq_true h, decide_eq_true h2, Bool.true_or, Bool.and_true, Bool.or_true]
theorem mv_3 {w : qW} {c k : Nat} {a b : Int} (h : bitsF (qand a b) 16 = (k : Int) - 1) (h2 : hgR (pasB w c) (qor a b) = qor a b) : mvB w c k a b = true := by unfold mvB; rw [decide_eq_true h, decide_eq_true h2, Bool.or_true, Bool.and_true, Bool.or_true]
theorem mv_4 {w : qW} {c k : Nat} {a b : Int} (h : ¬ a = b) (h2 : ¬ bitsF (qand a b) 16 = (k : Int) - 1) : mvB w c k a b = false := by unfold mvB; rw [decide_eq_false h, decide_eq_false h2]; rfl
theorem mv_5 {w : qW} {c k : Nat} {a b : Int} (h : ¬ a = b) (h2 : ¬ (1 : Int) < (k : Int)) (h3 : ¬ hgR (pasB w c) (qor a b) = qor a b) : mvB w c k a b = false := by unfold mvB; rw [decide_eq_false h, decide_eq_false h2, decide_eq_false h3, Bool.or_false, Bool.and_false]; rfl
theorem mv_in {w : qW} {c k : Nat} {a b : Int} (h : mvB w c k a b = true) : a = b ∨ bitsF (qand a b) 16 = (k : Int) - 1 := by
  unfold mvB at h
  rw [Bool.or_eq_true, Bool.and_eq_true, decide_eq_true_eq, decide_eq_true_eq] at h
  exact h.imp id (fun z => z.1)
theorem K_hangs2 {P : Nat → Nat → Bool} {d : Nat} (hd : 3 ≤ d) (c : Nat) (v : Int) (hc : c < 3) (w : qW) (hI : yInv zgf zga zra zSp w) (hP : pasB w c = P) : qG none d 219 0 [(2, 95), (0, ((c : Nat) : Int)), (0, v), (9, 0), (9, 0), (9, 0), (9, 0)] [] w 142 (fun r w1 n1 => r = (0, if hgR P v = v then 1 else 0) ∧ w1 = w ∧ n1 = 142) := by
  subst hP; exact K_hangs hd c v hc w hI
theorem zref {w : qW} (hI : yInv zgf zga zra zSp w) {p j : Nat} {v : Int} (h : zra p j = [v]) (hy : yarr p = false) : w p j = v := List.mem_singleton.mp (h ▸ hI.2.2.1 p j (by rw [h]; exact List.cons_ne_nil _ _) hy)
theorem K_isMove {d : Nat} (hd : 4 ≤ d) (c k : Nat) (a b : Int) (hc : c < 3) (hk1 : 1 ≤ k) (hk2 : k ≤ 4) (w : qW) (P : qW) (hI : yInv zgf zga zra zSp w) (hP : pasB w c = pasB P c) : qG none d 256 0 [(2, 95), (0, ((c : Nat) : Int)), (0, a), (0, b), (0, ((k : Nat) : Int))] [] w 142 (fun (r : qV) (w1 : qW) (n1 : Nat) => r = (0, if mvB P c k a b = true then 1 else 0) ∧ w1 = w ∧ n1 = 142) := by
  generalize hQ9 : (fun (r : qV) (w1 : qW) (n1 : Nat) => r = (0, if mvB P c k a b = true then 1 else 0) ∧ w1 = w ∧ n1 = 142) = Q9
  obtain ⟨d, rfl⟩ : ∃ d9, d = d9 + 1 := ⟨d - 1, by omega⟩
  refine qG.blk 2 (pc' := 2) (ls' := [(2, 95), (0, ((c : Nat) : Int)), (0, a), (0, b), (0, ((k : Nat) : Int))]) (st' := [(0, b), (0, a)]) (w' := w) (n' := 142) rfl ?_
  refine qG.br (P := a = b) (pc1 := 35) (pc2 := 5) (st1 := []) rfl (fun hab => ?_) (fun hab => ?_)
  · skip
    refine qG.blk 2 (pc' := 40) (ls' := [(2, 95), (0, ((c : Nat) : Int)), (0, a), (0, b), (0, ((k : Nat) : Int))]) (st' := [(0, 1)]) (w' := w) (n' := 142) rfl ?_
    refine qG.ret rfl (by first | rfl | exact decide_eq_true (by omega)) ?_
    subst hQ9
    exact ⟨by first | (rw [mv_1 hab]; rfl) | (rw [mv_2 hbt hk]; rfl) | (rw [mv_3 hbt (Decidable.of_not_not (fun z => hh (ite01.mpr z)))]; rfl) | (rw [mv_4 hab hbt]; rfl) | (rw [mv_5 hab hk (ite01.mp hh)]; rfl), rfl, rfl⟩
  · skip
    refine qG.blk 3 (pc' := 8) (ls' := [(2, 95), (0, ((c : Nat) : Int)), (0, a), (0, b), (0, ((k : Nat) : Int))]) (st' := [(0, qand a b)]) (w' := w) (n' := 142) rfl ?_
    refine qG.call (t := 211) (na := 1) (sk := 0) (md := 0) (ls1 := [(0, qand a b), (9, 0), (9, 0)]) (r1 := []) rfl rfl rfl rfl rfl (K_bits (by omega) _ w) ?_
    rintro _ w7 _ ⟨rfl, hw7, rfl⟩
    rw [hw7]
    show qG none (d + 1) 256 11 [(2, 95), (0, ((c : Nat) : Int)), (0, a), (0, b), (0, ((k : Nat) : Int))] [(0, bitsF (qand a b) 16)] w 142 Q9
    refine qG.blk 3 (pc' := 15) (ls' := [(2, 95), (0, ((c : Nat) : Int)), (0, a), (0, b), (0, ((k : Nat) : Int))]) (st' := [(0, wrp (((k : Nat) : Int) - 1)), (0, bitsF (qand a b) 16)]) (w' := w) (n' := 142) rfl ?_
    rw [show wrp (((k : Nat) : Int) - 1) = ((k : Nat) : Int) - 1 from wrp_id (by omega) (by omega)]
    refine qG.br (P := bitsF (qand a b) 16 = ((k : Nat) : Int) - 1) (pc1 := 18) (pc2 := 39) (st1 := []) rfl (fun hbt => ?_) (fun hbt => ?_)
    · skip
      refine qG.blk 2 (pc' := 21) (ls' := [(2, 95), (0, ((c : Nat) : Int)), (0, a), (0, b), (0, ((k : Nat) : Int))]) (st' := [(0, 1), (0, ((k : Nat) : Int))]) (w' := w) (n' := 142) rfl ?_
      refine qG.br (P := 1 < ((k : Nat) : Int)) (pc1 := 35) (pc2 := 24) (st1 := []) rfl (fun hk => ?_) (fun hk => ?_)
      · skip
        refine qG.blk 2 (pc' := 40) (ls' := [(2, 95), (0, ((c : Nat) : Int)), (0, a), (0, b), (0, ((k : Nat) : Int))]) (st' := [(0, 1)]) (w' := w) (n' := 142) rfl ?_
        refine qG.ret rfl (by first | rfl | exact decide_eq_true (by omega)) ?_
        subst hQ9
        exact ⟨by first | (rw [mv_1 hab]; rfl) | (rw [mv_2 hbt hk]; rfl) | (rw [mv_3 hbt (Decidable.of_not_not (fun z => hh (ite01.mpr z)))]; rfl) | (rw [mv_4 hab hbt]; rfl) | (rw [mv_5 hab hk (ite01.mp hh)]; rfl), rfl, rfl⟩
      · skip
        refine qG.blk 5 (pc' := 29) (ls' := [(2, 95), (0, ((c : Nat) : Int)), (0, a), (0, b), (0, ((k : Nat) : Int))]) (st' := [(0, qor a b), (0, ((c : Nat) : Int)), (2, 95)]) (w' := w) (n' := 142) rfl ?_
        refine qG.call (t := 219) (na := 3) (sk := 1) (md := 1) (ls1 := [(2, 95), (0, ((c : Nat) : Int)), (0, qor a b), (9, 0), (9, 0), (9, 0), (9, 0)]) (r1 := []) rfl rfl rfl rfl rfl (K_hangs2 (by omega) c (qor a b) hc w hI hP) ?_
        rintro _ w7 _ ⟨rfl, hw7, rfl⟩
        rw [hw7]
        show qG none (d + 1) 256 32 [(2, 95), (0, ((c : Nat) : Int)), (0, a), (0, b), (0, ((k : Nat) : Int))] [(0, (if hgR (pasB P c) (qor a b) = qor a b then 1 else 0))] w 142 Q9
        refine qG.br (P := (if hgR (pasB P c) (qor a b) = qor a b then 1 else 0) = 0) (pc1 := 39) (pc2 := 35) (st1 := []) rfl (fun hh => ?_) (fun hh => ?_)
        · skip
          refine qG.blk 1 (pc' := 40) (ls' := [(2, 95), (0, ((c : Nat) : Int)), (0, a), (0, b), (0, ((k : Nat) : Int))]) (st' := [(0, 0)]) (w' := w) (n' := 142) rfl ?_
          refine qG.ret rfl (by first | rfl | exact decide_eq_true (by omega)) ?_
          subst hQ9
          exact ⟨by first | (rw [mv_1 hab]; rfl) | (rw [mv_2 hbt hk]; rfl) | (rw [mv_3 hbt (Decidable.of_not_not (fun z => hh (ite01.mpr z)))]; rfl) | (rw [mv_4 hab hbt]; rfl) | (rw [mv_5 hab hk (ite01.mp hh)]; rfl), rfl, rfl⟩
        · skip
          refine qG.blk 2 (pc' := 40) (ls' := [(2, 95), (0, ((c : Nat) : Int)), (0, a), (0, b), (0, ((k : Nat) : Int))]) (st' := [(0, 1)]) (w' := w) (n' := 142) rfl ?_
          refine qG.ret rfl (by first | rfl | exact decide_eq_true (by omega)) ?_
          subst hQ9
          exact ⟨by first | (rw [mv_1 hab]; rfl) | (rw [mv_2 hbt hk]; rfl) | (rw [mv_3 hbt (Decidable.of_not_not (fun z => hh (ite01.mpr z)))]; rfl) | (rw [mv_4 hab hbt]; rfl) | (rw [mv_5 hab hk (ite01.mp hh)]; rfl), rfl, rfl⟩
    · skip
      refine qG.blk 1 (pc' := 40) (ls' := [(2, 95), (0, ((c : Nat) : Int)), (0, a), (0, b), (0, ((k : Nat) : Int))]) (st' := [(0, 0)]) (w' := w) (n' := 142) rfl ?_
      refine qG.ret rfl (by first | rfl | exact decide_eq_true (by omega)) ?_
      subst hQ9
      exact ⟨by first | (rw [mv_1 hab]; rfl) | (rw [mv_2 hbt hk]; rfl) | (rw [mv_3 hbt (Decidable.of_not_not (fun z => hh (ite01.mpr z)))]; rfl) | (rw [mv_4 hab hbt]; rfl) | (rw [mv_5 hab hk (ite01.mp hh)]; rfl), rfl, rfl⟩
/-- which sets are poses -/
noncomputable def fpd (w : qW) (c k s : Nat) : Bool := decide (qand (s : Int) (w 96 c) = 0) && (decide (bitsF (s : Int) 16 = (k : Int)) && decide (hgR (pasB w c) (s : Int) = (s : Int)))
noncomputable def fpL (w : qW) (c k s : Nat) : List Nat := (List.range s).filter (fpd w c k)
theorem fpd_y {w : qW} {c k s : Nat} (h1 : qand (s : Int) (w 96 c) = 0) (h2 : bitsF (s : Int) 16 = (k : Int)) (h3 : hgR (pasB w c) (s : Int) = (s : Int)) : fpd w c k s = true := by unfold fpd; rw [decide_eq_true h1, decide_eq_true h2, decide_eq_true h3]; rfl
theorem fpd_n {w : qW} {c k s : Nat} (h : ¬ qand (s : Int) (w 96 c) = 0 ∨ ¬ bitsF (s : Int) 16 = (k : Int) ∨ ¬ hgR (pasB w c) (s : Int) = (s : Int)) : fpd w c k s = false := by
  unfold fpd
  rcases h with h | h | h
  · rw [decide_eq_false h]; rfl
  · rw [decide_eq_false h, Bool.false_and, Bool.and_false]
  · rw [decide_eq_false h, Bool.and_false, Bool.and_false]
theorem fpd_b {w : qW} {c k s : Nat} (h : fpd w c k s = true) : bitsF (s : Int) 16 = (k : Int) := by
  unfold fpd at h
  rw [Bool.and_eq_true, Bool.and_eq_true, decide_eq_true_eq, decide_eq_true_eq] at h
  exact h.2.1
theorem fpL_s {w : qW} {c k s : Nat} : fpL w c k (s + 1) = if fpd w c k s = true then fpL w c k s ++ [s] else fpL w c k s := by
  unfold fpL
  rw [List.range_succ, List.filter_append, List.filter_cons, List.filter_nil]
  split
  · rfl
  · rw [List.append_nil]
theorem fpL_y {w : qW} {c k s : Nat} (h : fpd w c k s = true) : fpL w c k (s + 1) = fpL w c k s ++ [s] := by rw [fpL_s, if_pos h]
theorem fpL_n {w : qW} {c k s : Nat} (h : fpd w c k s = false) : fpL w c k (s + 1) = fpL w c k s := by rw [fpL_s, if_neg (by rw [h]; exact fun z => by cases z)]
theorem fpL_1 {w : qW} {c k : Nat} (hk : 1 ≤ k) : fpL w c k 1 = [] := by
  rw [fpL_n (s := 0) (fpd_n (.inr (.inl (fun z => by
    have := bitsF_pc (n := 0) (by decide) 16 (by decide)
    rw [this, show pc 0 16 = 0 from by decide] at z
    omega))))]
  rfl
theorem filt_mono {p q : Nat → Bool} : ∀ {l : List Nat}, (∀ x ∈ l, p x = true → q x = true) → (l.filter p).length ≤ (l.filter q).length
  | [], _ => Nat.le_refl 0
  | a :: l, h => by
    have ih := filt_mono (l := l) (fun x hx => h x (List.mem_cons_of_mem _ hx))
    have ha := h a List.mem_cons_self
    rw [List.filter_cons, List.filter_cons]
    cases hp : p a
    · rw [if_neg (by exact fun z => by cases z)]
      split
      · rw [List.length_cons]; omega
      · exact ih
    · rw [if_pos rfl, if_pos (ha hp), List.length_cons, List.length_cons]; omega
theorem fpL_len {w : qW} {c k s : Nat} (hk : k ≤ 4) (hs : s ≤ 65536) : (fpL w c k s).length ≤ 1820 := by
  have h1 : (fpL w c k s).length ≤ ((List.range s).filter (fun n => Nat.beq (pc n 16) k)).length := filt_mono (fun x hx hd => by
    have hx := List.mem_range.mp hx
    have h2 := fpd_b hd
    rw [bitsF_pc (by omega) 16 (by decide)] at h2
    have h3 : pc x 16 = k := by omega
    rw [h3]; exact Nat.beq_refl k)
  have h2 : ((List.range s).filter (fun n => Nat.beq (pc n 16) k)).length ≤ ((List.range (2 ^ 16)).filter (fun n => Nat.beq (pc n 16) k)).length := by
    rw [show 2 ^ 16 = s + (65536 - s) by omega, List.range_add, List.filter_append, List.length_append]
    omega
  rw [bin_count] at h2
  have := bin_16 k (by omega)
  omega
theorem fpL_in {w : qW} {c k s b : Nat} (hs : s ≤ 65536) (h : b ∈ fpL w c k s) : b < 65536 ∧ pc b 16 = k := by
  have h := List.mem_filter.mp h
  have h1 := List.mem_range.mp h.1
  have h2 := fpd_b h.2
  rw [bitsF_pc (by omega) 16 (by decide)] at h2
  exact ⟨by omega, by omega⟩
noncomputable def cM (w : qW) (c k : Nat) (l : List Nat) (a j : Nat) : Nat := ((l.take j).filter (fun b : Nat => mvB w c k (a : Int) (b : Int))).length
theorem cM_s {w : qW} {c k a j : Nat} {l : List Nat} (hj : j < l.length) : cM w c k l a (j + 1) = cM w c k l a j + (if mvB w c k (a : Int) ((l.getD j 0 : Nat) : Int) = true then 1 else 0) := by
  unfold cM
  rw [List.take_add_one, List.filter_append, List.length_append, List.getElem?_eq_getElem hj, List.getD_eq_getElem?_getD, List.getElem?_eq_getElem hj]
  congr 1
  show ([l[j]].filter _).length = _
  rw [List.filter_cons, List.filter_nil]
  show _ = if mvB w c k (a : Int) ((l[j] : Nat) : Int) = true then 1 else 0
  split <;> rfl
theorem cM_49 {w : qW} {c k a j s : Nat} (hs : s ≤ 65536) (hk1 : 1 ≤ k) (hk2 : k ≤ 4) (ha : a < 65536) (ha2 : pc a 16 = k) : cM w c k (fpL w c k s) a j ≤ 49 := by
  unfold cM
  have hn : ((fpL w c k s).take j).Nodup := List.Sublist.nodup (List.take_sublist _ _) (List.Sublist.nodup List.filter_sublist List.nodup_range)
  have h1 := pigeon (l := ((fpL w c k s).take j).filter (fun b : Nat => mvB w c k (a : Int) (b : Int))) (L := a :: swaps a) (List.Sublist.nodup List.filter_sublist hn) (fun b hb => by
    have hb := List.mem_filter.mp hb
    obtain ⟨b1, b2⟩ := fpL_in hs (List.mem_of_mem_take hb.1)
    rcases mv_in hb.2 with z | z
    · have : a = b := by omega
      rw [this]; exact List.mem_cons_self
    · refine List.mem_cons_of_mem _ (swaps_in ha b1 ha2 b2 ?_)
      rw [qand_n (by omega) (by omega), bitsF_pc (Nat.lt_of_le_of_lt Nat.and_le_left ha) 16 (by decide)] at z
      omega)
  rw [List.length_cons, swaps_len, ha2] at h1
  have := swap_49 k (by omega)
  omega
/-- the first loop's state -/
noncomputable def fpI (w : qW) (c k s : Nat) (w9 : qW) : Prop := w9 95 8 = (((fpL w c k s).length : Nat) : Int) ∧ (∀ j, j < (fpL w c k s).length → w9 101 j = (((fpL w c k s).getD j 0 : Nat) : Int)) ∧ w9 95 9 = ((8 * c + k : Nat) : Int) ∧ (∀ p j, p ≠ 101 → ¬ (p = 95 ∧ (j = 8 ∨ j = 9)) → w9 p j = w p j) ∧ yInv zgf zga zra zSp w9
theorem zSpt {gf : Nat → Nat → Option yI} {ga : Nat → Option yI} {ra : Nat → Nat → List Int} : ∀ w p j v, (yarr p = false → gf p j ≠ none ∨ ra p j ≠ []) → (yarr p = true → ga p ≠ none) → zSp w → zSp (qup w p j v) := fun _ _ _ _ _ _ _ => trivial
theorem zup_f {w : qW} (hI : yInv zgf zga zra zSp w) {p j : Nat} {v : Int} {b : yI} (hg : zgf p j = some b) (hr : zra p j = []) (hy : yarr p = false) (h : yin b v) : yInv zgf zga zra zSp (qup w p j v) := yInv_up zSpt hI (fun _ => ⟨fun b9 hb9 => by rw [hg] at hb9; cases hb9; exact h, fun z => absurd hr z, .inl (by rw [hg]; exact fun z => by cases z)⟩) (fun z => by rw [hy] at z; cases z)
theorem zup_a {w : qW} (hI : yInv zgf zga zra zSp w) {p j : Nat} {v : Int} {b : yI} (hg : zga p = some b) (hy : yarr p = true) (h : yin b v) : yInv zgf zga zra zSp (qup w p j v) := yInv_up zSpt hI (fun z => by rw [hy] at z; cases z) (fun _ => ⟨b, hg, h⟩)
theorem fpI.init {w : qW} {c k : Nat} (hc : c < 3) (hk1 : 1 ≤ k) (hk2 : k ≤ 4) (hI : yInv zgf zga zra zSp w) : fpI w c k 1 (qup (qup w 95 9 ((8 * c + k : Nat) : Int)) 95 8 0) := by
  unfold fpI
  rw [fpL_1 hk1]
  refine ⟨rfl, fun j hj => absurd hj (Nat.not_lt_zero j), rfl, fun p j h1 h2 => ?_, ?_⟩
  · by_cases hp : p = 95
    · subst hp
      rw [qup_j (fun z => h2 ⟨rfl, .inl z⟩), qup_j (fun z => h2 ⟨rfl, .inr z⟩)]
    · rw [qup_ne hp, qup_ne hp]
  · exact zup_f (zup_f hI (b := (-1, 20)) rfl rfl rfl ⟨by show (-1 : Int) ≤ _; omega, by show _ ≤ (20 : Int); omega⟩) (b := (0, 1820)) rfl rfl rfl ⟨by decide, by decide⟩
theorem fpI.pas {w w9 : qW} {c k s : Nat} (h : fpI w c k s w9) : pasB w9 c = pasB w c := funext fun s => funext fun t => by
  unfold pasB
  rw [h.2.2.2.1 99 _ (by decide) (fun z => by omega)]
theorem fpI.no {w w9 : qW} {c k s : Nat} (h : fpI w c k s w9) (hd : fpd w c k s = false) : fpI w c k (s + 1) w9 := by
  unfold fpI; rw [fpL_n hd]; exact h
theorem fpI.yes {w w9 : qW} {c k s : Nat} (hk2 : k ≤ 4) (hs : s < 65536) (h : fpI w c k s w9) (hd : fpd w c k s = true) : fpI w c k (s + 1) (qup (qup w9 101 (fpL w c k s).length (s : Int)) 95 8 (((fpL w c k s).length + 1 : Nat) : Int)) := by
  have hl := fpL_len (w := w) (c := c) (s := s + 1) hk2 (by omega)
  obtain ⟨h1, h2, h3, h4, h5⟩ := h
  unfold fpI
  rw [fpL_y hd] at hl ⊢
  rw [List.length_append] at hl ⊢
  have hl : (fpL w c k s).length + 1 ≤ 1820 := hl
  refine ⟨rfl, fun j hj => ?_, ?_, fun p j q1 q2 => ?_, ?_⟩
  · have hj : j < (fpL w c k s).length + 1 := hj
    rw [qup_ne (by decide), List.getD_eq_getElem?_getD]
    by_cases e : j = (fpL w c k s).length
    · subst e
      rw [qup_k, List.getElem?_append_right (Nat.le_refl _), Nat.sub_self]; rfl
    · rw [qup_j e, h2 j (by omega), List.getElem?_append_left (by omega), List.getD_eq_getElem?_getD]
  · rw [qup_j (by decide), qup_ne (by decide)]; exact h3
  · by_cases hp : p = 95
    · subst hp
      rw [qup_j (fun z => q2 ⟨rfl, .inl z⟩), qup_ne (by decide)]
      exact h4 95 j (by decide) q2
    · rw [qup_ne hp, qup_ne q1]; exact h4 p j q1 q2
  · exact zup_f (zup_a h5 (b := (0, 65535)) rfl rfl ⟨by show (0 : Int) ≤ _; omega, by show _ ≤ (65535 : Int); omega⟩) (b := (0, 1820)) rfl rfl rfl ⟨by show (0 : Int) ≤ _; omega, by show _ ≤ (1820 : Int); omega⟩
/-- the second loop's: only nextMany and next change -/
noncomputable def fpJ (wA w8 : qW) : Prop := (∀ p j, p ≠ 102 → p ≠ 103 → w8 p j = wA p j) ∧ yInv zgf zga zra zSp w8
noncomputable def fpK (w : qW) (c k s : Nat) (wA : qW) (i j : Nat) (w7 : qW) : Prop := fpJ wA w7 ∧ w7 102 i = ((cM w c k (fpL w c k s) ((fpL w c k s).getD i 0) j : Nat) : Int)
theorem fpK.init {w wA w8 : qW} {c k s i : Nat} (h : fpJ wA w8) : fpK w c k s wA i 0 (qup w8 102 i 0) := by
  refine ⟨⟨fun p j h1 h2 => by rw [qup_ne h1]; exact h.1 p j h1 h2, zup_a h.2 (b := (0, 50)) rfl rfl ⟨by decide, by decide⟩⟩, ?_⟩
  rw [qup_k]; unfold cM; rw [List.take_zero]; rfl
theorem fpK.no {w wA w7 : qW} {c k s i j : Nat} (h : fpK w c k s wA i j w7) (hj : j < (fpL w c k s).length) (hm : mvB w c k (((fpL w c k s).getD i 0 : Nat) : Int) (((fpL w c k s).getD j 0 : Nat) : Int) = false) : fpK w c k s wA i (j + 1) w7 := by
  refine ⟨h.1, ?_⟩
  rw [h.2, cM_s hj, hm]; rfl
theorem fpK.yes {w wA w7 : qW} {c k s i j : Nat} (hI9 : (fpL w c k s).length ≤ 1820) (hc49 : cM w c k (fpL w c k s) ((fpL w c k s).getD i 0) j ≤ 49) (h : fpK w c k s wA i j w7) (hj : j < (fpL w c k s).length) (hm : mvB w c k (((fpL w c k s).getD i 0 : Nat) : Int) (((fpL w c k s).getD j 0 : Nat) : Int) = true) : fpK w c k s wA i (j + 1) (qup (qup w7 103 (50 * i + cM w c k (fpL w c k s) ((fpL w c k s).getD i 0) j) (j : Int)) 102 i ((cM w c k (fpL w c k s) ((fpL w c k s).getD i 0) j + 1 : Nat) : Int)) := by
  refine ⟨⟨fun p q h1 h2 => by rw [qup_ne h1, qup_ne h2]; exact h.1.1 p q h1 h2, ?_⟩, ?_⟩
  · exact zup_a (zup_a h.1.2 (b := (0, 1819)) rfl rfl ⟨by show (0 : Int) ≤ _; omega, by show _ ≤ (1819 : Int); omega⟩) (b := (0, 50)) rfl rfl ⟨by show (0 : Int) ≤ _; omega, by show _ ≤ (50 : Int); omega⟩
  · rw [qup_k, cM_s hj, hm]; rfl
/-- the row i of next is filled up to m -/
noncomputable def fpR (w : qW) (c k s : Nat) (w8 : qW) (i m : Nat) : Prop := ∀ j, j < m → mvB w c k (((fpL w c k s).getD i 0 : Nat) : Int) (((fpL w c k s).getD j 0 : Nat) : Int) = true → w8 103 (50 * i + cM w c k (fpL w c k s) ((fpL w c k s).getD i 0) j) = (j : Int)
noncomputable def fpN (w : qW) (c k s : Nat) (w8 : qW) (i : Nat) : Prop := ∀ r, r < i → w8 102 r = ((cM w c k (fpL w c k s) ((fpL w c k s).getD r 0) (fpL w c k s).length : Nat) : Int) ∧ fpR w c k s w8 r (fpL w c k s).length
theorem fpN.zero {w w8 : qW} {c k s : Nat} : fpN w c k s w8 0 := fun r hr => absurd hr (Nat.not_lt_zero r)
theorem fpR.zero {w w8 : qW} {c k s i : Nat} : fpR w c k s w8 i 0 := fun r hr => absurd hr (Nat.not_lt_zero r)
theorem fpN.q0 {w w8 : qW} {c k s i : Nat} (h : fpN w c k s w8 i) : fpN w c k s (qup w8 102 i 0) i := fun r hr => by
  obtain ⟨h1, h2⟩ := h r hr
  refine ⟨by rw [qup_j (by omega)]; exact h1, fun j hj hm => ?_⟩
  rw [qup_ne (by decide)]; exact h2 j hj hm
theorem fpR.no {w w7 : qW} {c k s i j : Nat} (h : fpR w c k s w7 i j) (hm : mvB w c k (((fpL w c k s).getD i 0 : Nat) : Int) (((fpL w c k s).getD j 0 : Nat) : Int) = false) : fpR w c k s w7 i (j + 1) := fun r hr hm2 => by
  by_cases e : r = j
  · subst e; rw [hm] at hm2; cases hm2
  · exact h r (by omega) hm2
theorem cM_le {w : qW} {c k a j r : Nat} {l : List Nat} (hr : j ≤ r) (hl : r ≤ l.length) : cM w c k l a j ≤ cM w c k l a r := by
  induction r with
  | zero => rw [show j = 0 by omega]; exact Nat.le_refl _
  | succ r ih =>
    by_cases e : j = r + 1
    · rw [e]; exact Nat.le_refl _
    · have := ih (by omega) (by omega)
      rw [cM_s (by omega)]
      omega
theorem cM_lt {w : qW} {c k a j r : Nat} {l : List Nat} (hr : j < r) (hl : r ≤ l.length) (hm : mvB w c k (a : Int) ((l.getD j 0 : Nat) : Int) = true) : cM w c k l a j < cM w c k l a r := by
  have := cM_le (w := w) (c := c) (k := k) (a := a) (j := j + 1) (r := r) hr hl
  rw [cM_s (by omega), if_pos hm] at this
  omega
theorem fpR.yes {w w7 : qW} {c k s i j : Nat} {v : Int} (h : fpR w c k s w7 i j) (hj : j < (fpL w c k s).length) : fpR w c k s (qup (qup w7 103 (50 * i + cM w c k (fpL w c k s) ((fpL w c k s).getD i 0) j) (j : Int)) 102 i v) i (j + 1) := fun r hr hm2 => by
  rw [qup_ne (by decide)]
  by_cases e : r = j
  · subst e; rw [qup_k]
  · have := cM_lt (show r < j by omega) (Nat.le_of_lt hj) hm2
    rw [qup_j (by omega)]
    exact h r (by omega) hm2
theorem fpN.yes {w w7 : qW} {c k s i j : Nat} {v : Int} (h : fpN w c k s w7 i) (hc : ∀ r, r < i → ∀ j, cM w c k (fpL w c k s) ((fpL w c k s).getD r 0) j ≤ 49) : fpN w c k s (qup (qup w7 103 (50 * i + cM w c k (fpL w c k s) ((fpL w c k s).getD i 0) j) (j : Int)) 102 i v) i := fun r hr => by
  obtain ⟨h1, h2⟩ := h r hr
  refine ⟨by rw [qup_j (by omega), qup_ne (by decide)]; exact h1, fun j2 hj2 hm => ?_⟩
  have := hc r hr j2
  rw [qup_ne (by decide), qup_j (by omega)]; exact h2 j2 hj2 hm
theorem fpN.s {w wA w7 : qW} {c k s i j : Nat} (h : fpN w c k s w7 i) (h2 : fpK w c k s wA i j w7) (h3 : fpR w c k s w7 i j) (hj : j = (fpL w c k s).length) : fpN w c k s w7 (i + 1) := fun r hr => by
  by_cases e : r = i
  · subst e; subst hj; exact ⟨h2.2, h3⟩
  · exact h r (by omega)
theorem pasJ {wA w7 : qW} {c : Nat} (h : fpJ wA w7) : pasB w7 c = pasB wA c := funext fun s => funext fun t => by
  unfold pasB
  rw [h.1 99 _ (by decide) (by decide)]
theorem K_findsPoses {d : Nat} (hd : 5 ≤ d) (c k : Nat) (hc : c < 3) (hk1 : 1 ≤ k) (hk2 : k ≤ 4) (w : qW) (hI : yInv zgf zga zra zSp w) : qG none d 220 0 [(2, 95), (0, ((c : Nat) : Int)), (0, ((k : Nat) : Int)), (9, 0), (9, 0)] [] w 142 (fun (r : qV) (w1 : qW) (n1 : Nat) => r = (9, 0) ∧ n1 = 142 ∧ ((w 95 9 = ((8 * c + k : Nat) : Int) ∧ w1 = w) ∨ (¬ w 95 9 = ((8 * c + k : Nat) : Int) ∧ ∃ wA, fpI w c k 65536 wA ∧ fpJ wA w1 ∧ fpN w c k 65536 w1 (fpL w c k 65536).length))) := by
  generalize hQ9 : (fun (r : qV) (w1 : qW) (n1 : Nat) => r = (9, 0) ∧ n1 = 142 ∧ ((w 95 9 = ((8 * c + k : Nat) : Int) ∧ w1 = w) ∨ (¬ w 95 9 = ((8 * c + k : Nat) : Int) ∧ ∃ wA, fpI w c k 65536 wA ∧ fpJ wA w1 ∧ fpN w c k 65536 w1 (fpL w c k 65536).length))) = Q9
  obtain ⟨N6, hN6⟩ : ∃ N : Int, N = 65536 := ⟨_, rfl⟩
  obtain ⟨d, rfl⟩ : ∃ d9, d = d9 + 1 := ⟨d - 1, by omega⟩
  refine qG.blk 5 (pc' := 8) (ls' := [(2, 95), (0, ((c : Nat) : Int)), (0, ((k : Nat) : Int)), (9, 0), (9, 0)]) (st' := [(0, wrp (8 * ((c : Nat) : Int))), (0, w 95 9)]) (w' := w) (n' := 142) rfl ?_
  rw [show wrp (8 * ((c : Nat) : Int)) = ((8 * c : Nat) : Int) from by rw [wrp_id (by omega) (by omega)]; omega]
  refine qG.blk 2 (pc' := 10) (ls' := [(2, 95), (0, ((c : Nat) : Int)), (0, ((k : Nat) : Int)), (9, 0), (9, 0)]) (st' := [(0, wrp (((8 * c : Nat) : Int) + ((k : Nat) : Int))), (0, w 95 9)]) (w' := w) (n' := 142) rfl ?_
  rw [show wrp (((8 * c : Nat) : Int) + ((k : Nat) : Int)) = ((8 * c + k : Nat) : Int) from by rw [wrp_id (by omega) (by omega)]; omega]
  refine qG.br (P := w 95 9 = ((8 * c + k : Nat) : Int)) (pc1 := 13) (pc2 := 14) (st1 := []) rfl (fun hpf => ?_) (fun hpf => ?_)
  · skip
    refine qG.retv rfl rfl ?_
    subst hQ9
    first | exact ⟨rfl, rfl, .inl ⟨hpf, rfl⟩⟩ | (refine ⟨rfl, rfl, .inr ⟨hpf, w9, hs ▸ hA, hI96.2.1, ?_⟩⟩; rw [← hs, show (fpL w c k s).length = i by omega]; exact hI96.2.2)
  · skip
    refine qG.blk 4 (pc' := 19) (ls' := [(2, 95), (0, ((c : Nat) : Int)), (0, ((k : Nat) : Int)), (9, 0), (9, 0)]) (st' := [(0, wrp (8 * ((c : Nat) : Int))), (2, 95)]) (w' := w) (n' := 142) rfl ?_
    rw [show wrp (8 * ((c : Nat) : Int)) = ((8 * c : Nat) : Int) from by rw [wrp_id (by omega) (by omega)]; omega]
    refine qG.blk 2 (pc' := 21) (ls' := [(2, 95), (0, ((c : Nat) : Int)), (0, ((k : Nat) : Int)), (9, 0), (9, 0)]) (st' := [(0, wrp (((8 * c : Nat) : Int) + ((k : Nat) : Int))), (2, 95)]) (w' := w) (n' := 142) rfl ?_
    rw [show wrp (((8 * c : Nat) : Int) + ((k : Nat) : Int)) = ((8 * c + k : Nat) : Int) from by rw [wrp_id (by omega) (by omega)]; omega]
    refine qG.blk 6 (pc' := 31) (ls' := [(2, 95), (0, ((c : Nat) : Int)), (0, ((k : Nat) : Int)), (0, 1), (9, 0)]) (st' := []) (w' := (qup (qup w 95 9 ((8 * c + k : Nat) : Int)) 95 8 0)) (n' := 142) rfl ?_
    have L31 : ∀ (m9 : Nat) (s : Nat) (w9 : qW), 65536 - s = m9 → (1 ≤ s ∧ s ≤ 65536 ∧ fpI w c k s w9) → qG none (d + 1) 220 31 [(2, 95), (0, ((c : Nat) : Int)), (0, ((k : Nat) : Int)), (0, ((s : Nat) : Int)), (9, 0)] [] w9 142 Q9 := by
      intro m9
      induction m9 using Nat.strongRecOn with
      | ind m9 ih31 =>
      intro s w9 hm31 hI31
      refine qG.blk 2 (pc' := 34) (ls' := [(2, 95), (0, ((c : Nat) : Int)), (0, ((k : Nat) : Int)), (0, ((s : Nat) : Int)), (9, 0)]) (st' := [(0, 65536), (0, ((s : Nat) : Int))]) (w' := w9) (n' := 142) rfl ?_
      rw [show (65536 : Int) = N6 from hN6.symm]
      refine qG.br (P := ((s : Nat) : Int) < N6) (pc1 := 37) (pc2 := 94) (st1 := []) rfl (fun hs6 => ?_) (fun hs6 => ?_)
      · skip
        refine qG.blk 3 (pc' := 42) (ls' := [(2, 95), (0, ((c : Nat) : Int)), (0, ((k : Nat) : Int)), (0, ((s : Nat) : Int)), (9, 0)]) (st' := [(2, w9 95 0), (0, ((s : Nat) : Int))]) (w' := w9) (n' := 142) rfl ?_
        rw [show w9 95 0 = 96 from zref hI31.2.2.2.2.2.2 rfl rfl]
        refine qG.blk 1 (pc' := 43) (ls' := [(2, 95), (0, ((c : Nat) : Int)), (0, ((k : Nat) : Int)), (0, ((s : Nat) : Int)), (9, 0)]) (st' := [(0, ((c : Nat) : Int)), (2, 96), (0, ((s : Nat) : Int))]) (w' := w9) (n' := 142) rfl ?_
        refine qG.ar (P := 0 ≤ ((c : Nat) : Int) ∧ ((c : Nat) : Int) < ((3 : Nat) : Int)) (P2 := 0 < (96 : Int) ∧ (96 : Int) ≤ ((142 : Nat) : Int)) (pc' := 44) (ls' := [(2, 95), (0, ((c : Nat) : Int)), (0, ((k : Nat) : Int)), (0, ((s : Nat) : Int)), (9, 0)]) (st' := [(0, w9 96 c), (0, ((s : Nat) : Int))]) (w' := w9) (n' := 142) rfl (by omega) (by decide) ?_
        rw [show w9 96 c = w 96 c from hI31.2.2.2.2.2.1 96 c (by decide) (fun z => by omega)]
        refine qG.blk 1 (pc' := 45) (ls' := [(2, 95), (0, ((c : Nat) : Int)), (0, ((k : Nat) : Int)), (0, ((s : Nat) : Int)), (9, 0)]) (st' := [(0, qand ((s : Nat) : Int) (w 96 c))]) (w' := w9) (n' := 142) rfl ?_
        refine qG.br (P := qand ((s : Nat) : Int) (w 96 c) = 0) (pc1 := 48) (pc2 := 88) (st1 := []) rfl (fun hw0 => ?_) (fun hw0 => ?_)
        · skip
          refine qG.blk 1 (pc' := 49) (ls' := [(2, 95), (0, ((c : Nat) : Int)), (0, ((k : Nat) : Int)), (0, ((s : Nat) : Int)), (9, 0)]) (st' := [(0, ((s : Nat) : Int))]) (w' := w9) (n' := 142) rfl ?_
          refine qG.call (t := 211) (na := 1) (sk := 0) (md := 0) (ls1 := [(0, ((s : Nat) : Int)), (9, 0), (9, 0)]) (r1 := []) rfl rfl rfl rfl rfl (K_bits (by omega) _ w9) ?_
          rintro _ w7 _ ⟨rfl, hw7, rfl⟩
          rw [hw7]
          show qG none (d + 1) 220 52 [(2, 95), (0, ((c : Nat) : Int)), (0, ((k : Nat) : Int)), (0, ((s : Nat) : Int)), (9, 0)] [(0, bitsF ((s : Nat) : Int) 16)] w9 142 Q9
          refine qG.blk 1 (pc' := 53) (ls' := [(2, 95), (0, ((c : Nat) : Int)), (0, ((k : Nat) : Int)), (0, ((s : Nat) : Int)), (9, 0)]) (st' := [(0, ((k : Nat) : Int)), (0, bitsF ((s : Nat) : Int) 16)]) (w' := w9) (n' := 142) rfl ?_
          refine qG.br (P := bitsF ((s : Nat) : Int) 16 = ((k : Nat) : Int)) (pc1 := 56) (pc2 := 88) (st1 := []) rfl (fun hbk => ?_) (fun hbk => ?_)
          · skip
            refine qG.blk 3 (pc' := 59) (ls' := [(2, 95), (0, ((c : Nat) : Int)), (0, ((k : Nat) : Int)), (0, ((s : Nat) : Int)), (9, 0)]) (st' := [(0, ((s : Nat) : Int)), (0, ((c : Nat) : Int)), (2, 95)]) (w' := w9) (n' := 142) rfl ?_
            refine qG.call (t := 219) (na := 3) (sk := 1) (md := 1) (ls1 := [(2, 95), (0, ((c : Nat) : Int)), (0, ((s : Nat) : Int)), (9, 0), (9, 0), (9, 0), (9, 0)]) (r1 := []) rfl rfl rfl rfl rfl (K_hangs2 (by omega) c (s : Int) hc w9 hI31.2.2.2.2.2.2 (fpI.pas hI31.2.2)) ?_
            rintro _ w7 _ ⟨rfl, hw7, rfl⟩
            rw [hw7]
            show qG none (d + 1) 220 62 [(2, 95), (0, ((c : Nat) : Int)), (0, ((k : Nat) : Int)), (0, ((s : Nat) : Int)), (9, 0)] [(0, (if hgR (pasB w c) ((s : Nat) : Int) = ((s : Nat) : Int) then 1 else 0))] w9 142 Q9
            refine qG.br (P := (if hgR (pasB w c) ((s : Nat) : Int) = ((s : Nat) : Int) then 1 else 0) = 0) (pc1 := 65) (pc2 := 68) (st1 := []) rfl (fun hhg => ?_) (fun hhg => ?_)
            · skip
              refine qG.blk 2 (pc' := 91) (ls' := [(2, 95), (0, ((c : Nat) : Int)), (0, ((k : Nat) : Int)), (0, wrp (((s : Nat) : Int) + 1)), (9, 0)]) (st' := []) (w' := w9) (n' := 142) rfl ?_
              rw [show wrp (((s : Nat) : Int) + 1) = ((s + 1 : Nat) : Int) from wrp_id (by omega) (by omega)]
              refine qG.blk 1 (pc' := 31) (ls' := [(2, 95), (0, ((c : Nat) : Int)), (0, ((k : Nat) : Int)), (0, ((s + 1 : Nat) : Int)), (9, 0)]) (st' := []) (w' := w9) (n' := 142) rfl ?_
              exact ih31 _ (by omega) (s + 1) (w9) rfl (⟨by omega, by omega, fpI.no hI31.2.2 (by first | exact fpd_n (.inl hw0) | exact fpd_n (.inr (.inl hbk)) | exact fpd_n (.inr (.inr (ite01.mp hhg))))⟩)
            · skip
              have hD : fpd w c k s = true := fpd_y hw0 hbk (Decidable.of_not_not (fun z => hhg (ite01.mpr z)))
              have hlen := fpL_len (w := w) (c := c) (s := s + 1) hk2 (by omega)
              rw [fpL_y hD, List.length_append] at hlen
              have hlen : (fpL w c k s).length + 1 ≤ 1820 := hlen
              refine qG.blk 2 (pc' := 72) (ls' := [(2, 95), (0, ((c : Nat) : Int)), (0, ((k : Nat) : Int)), (0, ((s : Nat) : Int)), (9, 0)]) (st' := [(2, w9 95 5)]) (w' := w9) (n' := 142) rfl ?_
              rw [show w9 95 5 = 101 from zref hI31.2.2.2.2.2.2 rfl rfl]
              refine qG.blk 2 (pc' := 76) (ls' := [(2, 95), (0, ((c : Nat) : Int)), (0, ((k : Nat) : Int)), (0, ((s : Nat) : Int)), (9, 0)]) (st' := [(0, w9 95 8), (2, 101)]) (w' := w9) (n' := 142) rfl ?_
              rw [show w9 95 8 = (((fpL w c k s).length : Nat) : Int) from hI31.2.2.1]
              refine qG.blk 1 (pc' := 77) (ls' := [(2, 95), (0, ((c : Nat) : Int)), (0, ((k : Nat) : Int)), (0, ((s : Nat) : Int)), (9, 0)]) (st' := [(0, ((s : Nat) : Int)), (0, (((fpL w c k s).length : Nat) : Int)), (2, 101)]) (w' := w9) (n' := 142) rfl ?_
              refine qG.ist (m := 1820) rfl rfl (by omega) (by decide) ?_
              show qG none (d + 1) 220 78 [(2, 95), (0, ((c : Nat) : Int)), (0, ((k : Nat) : Int)), (0, ((s : Nat) : Int)), (9, 0)] [] (qup w9 101 ((fpL w c k s).length) ((s : Nat) : Int)) 142 Q9
              refine qG.blk 3 (pc' := 83) (ls' := [(2, 95), (0, ((c : Nat) : Int)), (0, ((k : Nat) : Int)), (0, ((s : Nat) : Int)), (9, 0)]) (st' := [(0, w9 95 8), (2, 95)]) (w' := (qup w9 101 ((fpL w c k s).length) ((s : Nat) : Int))) (n' := 142) rfl ?_
              rw [show w9 95 8 = (((fpL w c k s).length : Nat) : Int) from hI31.2.2.1]
              refine qG.blk 2 (pc' := 85) (ls' := [(2, 95), (0, ((c : Nat) : Int)), (0, ((k : Nat) : Int)), (0, ((s : Nat) : Int)), (9, 0)]) (st' := [(0, wrp ((((fpL w c k s).length : Nat) : Int) + 1)), (2, 95)]) (w' := (qup w9 101 ((fpL w c k s).length) ((s : Nat) : Int))) (n' := 142) rfl ?_
              rw [show wrp ((((fpL w c k s).length : Nat) : Int) + 1) = (((fpL w c k s).length + 1 : Nat) : Int) from wrp_id (by omega) (by omega)]
              refine qG.blk 2 (pc' := 91) (ls' := [(2, 95), (0, ((c : Nat) : Int)), (0, ((k : Nat) : Int)), (0, wrp (((s : Nat) : Int) + 1)), (9, 0)]) (st' := []) (w' := (qup (qup w9 101 ((fpL w c k s).length) ((s : Nat) : Int)) 95 8 (((fpL w c k s).length + 1 : Nat) : Int))) (n' := 142) rfl ?_
              rw [show wrp (((s : Nat) : Int) + 1) = ((s + 1 : Nat) : Int) from wrp_id (by omega) (by omega)]
              refine qG.blk 1 (pc' := 31) (ls' := [(2, 95), (0, ((c : Nat) : Int)), (0, ((k : Nat) : Int)), (0, ((s + 1 : Nat) : Int)), (9, 0)]) (st' := []) (w' := (qup (qup w9 101 ((fpL w c k s).length) ((s : Nat) : Int)) 95 8 (((fpL w c k s).length + 1 : Nat) : Int))) (n' := 142) rfl ?_
              exact ih31 _ (by omega) (s + 1) ((qup (qup w9 101 ((fpL w c k s).length) ((s : Nat) : Int)) 95 8 (((fpL w c k s).length + 1 : Nat) : Int))) rfl (⟨by omega, by omega, fpI.yes hk2 (by omega) hI31.2.2 hD⟩)
          · skip
            refine qG.blk 1 (pc' := 91) (ls' := [(2, 95), (0, ((c : Nat) : Int)), (0, ((k : Nat) : Int)), (0, wrp (((s : Nat) : Int) + 1)), (9, 0)]) (st' := []) (w' := w9) (n' := 142) rfl ?_
            rw [show wrp (((s : Nat) : Int) + 1) = ((s + 1 : Nat) : Int) from wrp_id (by omega) (by omega)]
            refine qG.blk 1 (pc' := 31) (ls' := [(2, 95), (0, ((c : Nat) : Int)), (0, ((k : Nat) : Int)), (0, ((s + 1 : Nat) : Int)), (9, 0)]) (st' := []) (w' := w9) (n' := 142) rfl ?_
            exact ih31 _ (by omega) (s + 1) (w9) rfl (⟨by omega, by omega, fpI.no hI31.2.2 (by first | exact fpd_n (.inl hw0) | exact fpd_n (.inr (.inl hbk)) | exact fpd_n (.inr (.inr (ite01.mp hhg))))⟩)
        · skip
          refine qG.blk 1 (pc' := 91) (ls' := [(2, 95), (0, ((c : Nat) : Int)), (0, ((k : Nat) : Int)), (0, wrp (((s : Nat) : Int) + 1)), (9, 0)]) (st' := []) (w' := w9) (n' := 142) rfl ?_
          rw [show wrp (((s : Nat) : Int) + 1) = ((s + 1 : Nat) : Int) from wrp_id (by omega) (by omega)]
          refine qG.blk 1 (pc' := 31) (ls' := [(2, 95), (0, ((c : Nat) : Int)), (0, ((k : Nat) : Int)), (0, ((s + 1 : Nat) : Int)), (9, 0)]) (st' := []) (w' := w9) (n' := 142) rfl ?_
          exact ih31 _ (by omega) (s + 1) (w9) rfl (⟨by omega, by omega, fpI.no hI31.2.2 (by first | exact fpd_n (.inl hw0) | exact fpd_n (.inr (.inl hbk)) | exact fpd_n (.inr (.inr (ite01.mp hhg))))⟩)
      · skip
        refine qG.blk 2 (pc' := 96) (ls' := [(2, 95), (0, ((c : Nat) : Int)), (0, ((k : Nat) : Int)), (0, 0), (9, 0)]) (st' := []) (w' := w9) (n' := 142) rfl ?_
        have hs : s = 65536 := by omega
        have hA : fpI w c k s w9 := hI31.2.2
        have hs9 : s ≤ 65536 := hI31.2.1
        have hN : (fpL w c k s).length ≤ 1820 := fpL_len hk2 hs9
        have hin : ∀ i, i < (fpL w c k s).length → (fpL w c k s).getD i 0 < 65536 ∧ pc ((fpL w c k s).getD i 0) 16 = k := fun i hi => by
          rw [List.getD_eq_getElem?_getD, List.getElem?_eq_getElem hi]
          exact fpL_in hs9 (List.getElem_mem hi)
        have L96 : ∀ (m9 : Nat) (i : Nat) (w8 : qW) (x4 : qV), (fpL w c k s).length - i = m9 → (i ≤ (fpL w c k s).length ∧ fpJ w9 w8 ∧ fpN w c k s w8 i) → qG none (d + 1) 220 96 [(2, 95), (0, ((c : Nat) : Int)), (0, ((k : Nat) : Int)), (0, ((i : Nat) : Int)), x4] [] w8 142 Q9 := by
          intro m9
          induction m9 using Nat.strongRecOn with
          | ind m9 ih96 =>
          intro i w8 x4 hm96 hI96
          refine qG.blk 3 (pc' := 101) (ls' := [(2, 95), (0, ((c : Nat) : Int)), (0, ((k : Nat) : Int)), (0, ((i : Nat) : Int)), x4]) (st' := [(0, w8 95 8), (0, ((i : Nat) : Int))]) (w' := w8) (n' := 142) rfl ?_
          rw [show w8 95 8 = (((fpL w c k s).length : Nat) : Int) from (hI96.2.1.1 95 8 (by decide) (by decide)).trans hA.1]
          refine qG.br (P := ((i : Nat) : Int) < (((fpL w c k s).length : Nat) : Int)) (pc1 := 104) (pc2 := 188) (st1 := []) rfl (fun hi6 => ?_) (fun hi6 => ?_)
          · skip
            refine qG.blk 2 (pc' := 108) (ls' := [(2, 95), (0, ((c : Nat) : Int)), (0, ((k : Nat) : Int)), (0, ((i : Nat) : Int)), x4]) (st' := [(2, w8 95 6)]) (w' := w8) (n' := 142) rfl ?_
            rw [show w8 95 6 = 102 from zref hI96.2.1.2 rfl rfl]
            refine qG.blk 2 (pc' := 110) (ls' := [(2, 95), (0, ((c : Nat) : Int)), (0, ((k : Nat) : Int)), (0, ((i : Nat) : Int)), x4]) (st' := [(0, 0), (0, ((i : Nat) : Int)), (2, 102)]) (w' := w8) (n' := 142) rfl ?_
            refine qG.ist (m := 1820) rfl rfl (by omega) (by decide) ?_
            show qG none (d + 1) 220 111 [(2, 95), (0, ((c : Nat) : Int)), (0, ((k : Nat) : Int)), (0, ((i : Nat) : Int)), x4] [] (qup w8 102 i 0) 142 Q9
            refine qG.blk 2 (pc' := 114) (ls' := [(2, 95), (0, ((c : Nat) : Int)), (0, ((k : Nat) : Int)), (0, ((i : Nat) : Int)), (0, 0)]) (st' := []) (w' := (qup w8 102 i 0)) (n' := 142) rfl ?_
            have L114 : ∀ (m9 : Nat) (j : Nat) (w7 : qW), (fpL w c k s).length - j = m9 → (j ≤ (fpL w c k s).length ∧ fpK w c k s w9 i j w7 ∧ fpN w c k s w7 i ∧ fpR w c k s w7 i j) → qG none (d + 1) 220 114 [(2, 95), (0, ((c : Nat) : Int)), (0, ((k : Nat) : Int)), (0, ((i : Nat) : Int)), (0, ((j : Nat) : Int))] [] w7 142 Q9 := by
              intro m9
              induction m9 using Nat.strongRecOn with
              | ind m9 ih114 =>
              intro j w7 hm114 hI114
              refine qG.blk 3 (pc' := 120) (ls' := [(2, 95), (0, ((c : Nat) : Int)), (0, ((k : Nat) : Int)), (0, ((i : Nat) : Int)), (0, ((j : Nat) : Int))]) (st' := [(0, w7 95 8), (0, ((j : Nat) : Int))]) (w' := w7) (n' := 142) rfl ?_
              rw [show w7 95 8 = (((fpL w c k s).length : Nat) : Int) from (hI114.2.1.1.1 95 8 (by decide) (by decide)).trans hA.1]
              refine qG.br (P := ((j : Nat) : Int) < (((fpL w c k s).length : Nat) : Int)) (pc1 := 123) (pc2 := 182) (st1 := []) rfl (fun hj6 => ?_) (fun hj6 => ?_)
              · skip
                have hcm : cM w c k (fpL w c k s) ((fpL w c k s).getD i 0) j ≤ 49 := cM_49 hs9 hk1 hk2 (hin i (by omega)).1 (hin i (by omega)).2
                have hcr : ∀ r, r < i → ∀ j, cM w c k (fpL w c k s) ((fpL w c k s).getD r 0) j ≤ 49 := fun r hr j => cM_49 hs9 hk1 hk2 (hin r (by omega)).1 (hin r (by omega)).2
                refine qG.blk 4 (pc' := 129) (ls' := [(2, 95), (0, ((c : Nat) : Int)), (0, ((k : Nat) : Int)), (0, ((i : Nat) : Int)), (0, ((j : Nat) : Int))]) (st' := [(2, w7 95 5), (0, ((c : Nat) : Int)), (2, 95)]) (w' := w7) (n' := 142) rfl ?_
                rw [show w7 95 5 = 101 from zref hI114.2.1.1.2 rfl rfl]
                refine qG.blk 1 (pc' := 130) (ls' := [(2, 95), (0, ((c : Nat) : Int)), (0, ((k : Nat) : Int)), (0, ((i : Nat) : Int)), (0, ((j : Nat) : Int))]) (st' := [(0, ((i : Nat) : Int)), (2, 101), (0, ((c : Nat) : Int)), (2, 95)]) (w' := w7) (n' := 142) rfl ?_
                refine qG.ild (m := 1820) rfl rfl (by omega) (by decide) ?_
                show qG none (d + 1) 220 131 [(2, 95), (0, ((c : Nat) : Int)), (0, ((k : Nat) : Int)), (0, ((i : Nat) : Int)), (0, ((j : Nat) : Int))] [(0, w7 101 i), (0, ((c : Nat) : Int)), (2, 95)] w7 142 Q9
                rw [show w7 101 i = (((fpL w c k s).getD i 0 : Nat) : Int) from (hI114.2.1.1.1 101 i (by decide) (by decide)).trans (hA.2.1 i (by omega))]
                refine qG.blk 2 (pc' := 135) (ls' := [(2, 95), (0, ((c : Nat) : Int)), (0, ((k : Nat) : Int)), (0, ((i : Nat) : Int)), (0, ((j : Nat) : Int))]) (st' := [(2, w7 95 5), (0, (((fpL w c k s).getD i 0 : Nat) : Int)), (0, ((c : Nat) : Int)), (2, 95)]) (w' := w7) (n' := 142) rfl ?_
                rw [show w7 95 5 = 101 from zref hI114.2.1.1.2 rfl rfl]
                refine qG.blk 1 (pc' := 137) (ls' := [(2, 95), (0, ((c : Nat) : Int)), (0, ((k : Nat) : Int)), (0, ((i : Nat) : Int)), (0, ((j : Nat) : Int))]) (st' := [(0, ((j : Nat) : Int)), (2, 101), (0, (((fpL w c k s).getD i 0 : Nat) : Int)), (0, ((c : Nat) : Int)), (2, 95)]) (w' := w7) (n' := 142) rfl ?_
                refine qG.ild (m := 1820) rfl rfl (by omega) (by decide) ?_
                show qG none (d + 1) 220 138 [(2, 95), (0, ((c : Nat) : Int)), (0, ((k : Nat) : Int)), (0, ((i : Nat) : Int)), (0, ((j : Nat) : Int))] [(0, w7 101 j), (0, (((fpL w c k s).getD i 0 : Nat) : Int)), (0, ((c : Nat) : Int)), (2, 95)] w7 142 Q9
                rw [show w7 101 j = (((fpL w c k s).getD j 0 : Nat) : Int) from (hI114.2.1.1.1 101 j (by decide) (by decide)).trans (hA.2.1 j (by omega))]
                refine qG.blk 1 (pc' := 139) (ls' := [(2, 95), (0, ((c : Nat) : Int)), (0, ((k : Nat) : Int)), (0, ((i : Nat) : Int)), (0, ((j : Nat) : Int))]) (st' := [(0, ((k : Nat) : Int)), (0, (((fpL w c k s).getD j 0 : Nat) : Int)), (0, (((fpL w c k s).getD i 0 : Nat) : Int)), (0, ((c : Nat) : Int)), (2, 95)]) (w' := w7) (n' := 142) rfl ?_
                refine qG.call (t := 256) (na := 5) (sk := 1) (md := 1) (ls1 := [(2, 95), (0, ((c : Nat) : Int)), (0, (((fpL w c k s).getD i 0 : Nat) : Int)), (0, (((fpL w c k s).getD j 0 : Nat) : Int)), (0, ((k : Nat) : Int))]) (r1 := []) rfl rfl rfl rfl rfl (K_isMove (by omega) c k (((fpL w c k s).getD i 0 : Nat) : Int) (((fpL w c k s).getD j 0 : Nat) : Int) hc hk1 hk2 w7 w hI114.2.1.1.2 ((pasJ hI114.2.1.1).trans (fpI.pas hA))) ?_
                rintro _ w6 _ ⟨rfl, hw6, rfl⟩
                rw [hw6]
                show qG none (d + 1) 220 142 [(2, 95), (0, ((c : Nat) : Int)), (0, ((k : Nat) : Int)), (0, ((i : Nat) : Int)), (0, ((j : Nat) : Int))] [(0, (if mvB w c k (((fpL w c k s).getD i 0 : Nat) : Int) (((fpL w c k s).getD j 0 : Nat) : Int) = true then 1 else 0))] w7 142 Q9
                refine qG.br (P := (if mvB w c k (((fpL w c k s).getD i 0 : Nat) : Int) (((fpL w c k s).getD j 0 : Nat) : Int) = true then 1 else 0) = 0) (pc1 := 145) (pc2 := 148) (st1 := []) rfl (fun hmv => ?_) (fun hmv => ?_)
                · skip
                  refine qG.blk 2 (pc' := 179) (ls' := [(2, 95), (0, ((c : Nat) : Int)), (0, ((k : Nat) : Int)), (0, ((i : Nat) : Int)), (0, wrp (((j : Nat) : Int) + 1))]) (st' := []) (w' := w7) (n' := 142) rfl ?_
                  rw [show wrp (((j : Nat) : Int) + 1) = ((j + 1 : Nat) : Int) from wrp_id (by omega) (by omega)]
                  refine qG.blk 1 (pc' := 114) (ls' := [(2, 95), (0, ((c : Nat) : Int)), (0, ((k : Nat) : Int)), (0, ((i : Nat) : Int)), (0, ((j + 1 : Nat) : Int))]) (st' := []) (w' := w7) (n' := 142) rfl ?_
                  exact ih114 _ (by omega) (j + 1) (w7) rfl (⟨by omega, fpK.no hI114.2.1 (by omega) (ybf (ite01.mp hmv)), hI114.2.2.1, fpR.no hI114.2.2.2 (ybf (ite01.mp hmv))⟩)
                · skip
                  refine qG.blk 2 (pc' := 152) (ls' := [(2, 95), (0, ((c : Nat) : Int)), (0, ((k : Nat) : Int)), (0, ((i : Nat) : Int)), (0, ((j : Nat) : Int))]) (st' := [(2, w7 95 7)]) (w' := w7) (n' := 142) rfl ?_
                  rw [show w7 95 7 = 103 from zref hI114.2.1.1.2 rfl rfl]
                  refine qG.blk 3 (pc' := 156) (ls' := [(2, 95), (0, ((c : Nat) : Int)), (0, ((k : Nat) : Int)), (0, ((i : Nat) : Int)), (0, ((j : Nat) : Int))]) (st' := [(0, wrp (50 * ((i : Nat) : Int))), (2, 103)]) (w' := w7) (n' := 142) rfl ?_
                  rw [show wrp (50 * ((i : Nat) : Int)) = ((50 * i : Nat) : Int) from by rw [wrp_id (by omega) (by omega)]; omega]
                  refine qG.blk 2 (pc' := 160) (ls' := [(2, 95), (0, ((c : Nat) : Int)), (0, ((k : Nat) : Int)), (0, ((i : Nat) : Int)), (0, ((j : Nat) : Int))]) (st' := [(2, w7 95 6), (0, ((50 * i : Nat) : Int)), (2, 103)]) (w' := w7) (n' := 142) rfl ?_
                  rw [show w7 95 6 = 102 from zref hI114.2.1.1.2 rfl rfl]
                  refine qG.blk 1 (pc' := 161) (ls' := [(2, 95), (0, ((c : Nat) : Int)), (0, ((k : Nat) : Int)), (0, ((i : Nat) : Int)), (0, ((j : Nat) : Int))]) (st' := [(0, ((i : Nat) : Int)), (2, 102), (0, ((50 * i : Nat) : Int)), (2, 103)]) (w' := w7) (n' := 142) rfl ?_
                  refine qG.ild (m := 1820) rfl rfl (by omega) (by decide) ?_
                  show qG none (d + 1) 220 162 [(2, 95), (0, ((c : Nat) : Int)), (0, ((k : Nat) : Int)), (0, ((i : Nat) : Int)), (0, ((j : Nat) : Int))] [(0, w7 102 i), (0, ((50 * i : Nat) : Int)), (2, 103)] w7 142 Q9
                  rw [show w7 102 i = ((cM w c k (fpL w c k s) ((fpL w c k s).getD i 0) j : Nat) : Int) from hI114.2.1.2]
                  refine qG.blk 1 (pc' := 163) (ls' := [(2, 95), (0, ((c : Nat) : Int)), (0, ((k : Nat) : Int)), (0, ((i : Nat) : Int)), (0, ((j : Nat) : Int))]) (st' := [(0, wrp (((50 * i : Nat) : Int) + ((cM w c k (fpL w c k s) ((fpL w c k s).getD i 0) j : Nat) : Int))), (2, 103)]) (w' := w7) (n' := 142) rfl ?_
                  rw [show wrp (((50 * i : Nat) : Int) + ((cM w c k (fpL w c k s) ((fpL w c k s).getD i 0) j : Nat) : Int)) = ((50 * i + cM w c k (fpL w c k s) ((fpL w c k s).getD i 0) j : Nat) : Int) from by rw [wrp_id (by omega) (by omega)]; omega]
                  refine qG.blk 1 (pc' := 165) (ls' := [(2, 95), (0, ((c : Nat) : Int)), (0, ((k : Nat) : Int)), (0, ((i : Nat) : Int)), (0, ((j : Nat) : Int))]) (st' := [(0, ((j : Nat) : Int)), (0, ((50 * i + cM w c k (fpL w c k s) ((fpL w c k s).getD i 0) j : Nat) : Int)), (2, 103)]) (w' := w7) (n' := 142) rfl ?_
                  refine qG.ist (m := 91000) rfl rfl (by omega) (by decide) ?_
                  show qG none (d + 1) 220 166 [(2, 95), (0, ((c : Nat) : Int)), (0, ((k : Nat) : Int)), (0, ((i : Nat) : Int)), (0, ((j : Nat) : Int))] [] (qup w7 103 (50 * i + cM w c k (fpL w c k s) ((fpL w c k s).getD i 0) j) ((j : Nat) : Int)) 142 Q9
                  refine qG.blk 2 (pc' := 170) (ls' := [(2, 95), (0, ((c : Nat) : Int)), (0, ((k : Nat) : Int)), (0, ((i : Nat) : Int)), (0, ((j : Nat) : Int))]) (st' := [(2, w7 95 6)]) (w' := (qup w7 103 (50 * i + cM w c k (fpL w c k s) ((fpL w c k s).getD i 0) j) ((j : Nat) : Int))) (n' := 142) rfl ?_
                  rw [show w7 95 6 = 102 from zref hI114.2.1.1.2 rfl rfl]
                  refine qG.blk 2 (pc' := 172) (ls' := [(2, 95), (0, ((c : Nat) : Int)), (0, ((k : Nat) : Int)), (0, ((i : Nat) : Int)), (0, ((j : Nat) : Int))]) (st' := [(0, ((i : Nat) : Int)), (2, 102), (0, ((i : Nat) : Int)), (2, 102)]) (w' := (qup w7 103 (50 * i + cM w c k (fpL w c k s) ((fpL w c k s).getD i 0) j) ((j : Nat) : Int))) (n' := 142) rfl ?_
                  refine qG.ild (m := 1820) rfl rfl (by omega) (by decide) ?_
                  show qG none (d + 1) 220 173 [(2, 95), (0, ((c : Nat) : Int)), (0, ((k : Nat) : Int)), (0, ((i : Nat) : Int)), (0, ((j : Nat) : Int))] [(0, w7 102 i), (0, ((i : Nat) : Int)), (2, 102)] (qup w7 103 (50 * i + cM w c k (fpL w c k s) ((fpL w c k s).getD i 0) j) ((j : Nat) : Int)) 142 Q9
                  rw [show w7 102 i = ((cM w c k (fpL w c k s) ((fpL w c k s).getD i 0) j : Nat) : Int) from hI114.2.1.2]
                  refine qG.blk 2 (pc' := 175) (ls' := [(2, 95), (0, ((c : Nat) : Int)), (0, ((k : Nat) : Int)), (0, ((i : Nat) : Int)), (0, ((j : Nat) : Int))]) (st' := [(0, wrp (((cM w c k (fpL w c k s) ((fpL w c k s).getD i 0) j : Nat) : Int) + 1)), (0, ((i : Nat) : Int)), (2, 102)]) (w' := (qup w7 103 (50 * i + cM w c k (fpL w c k s) ((fpL w c k s).getD i 0) j) ((j : Nat) : Int))) (n' := 142) rfl ?_
                  rw [show wrp (((cM w c k (fpL w c k s) ((fpL w c k s).getD i 0) j : Nat) : Int) + 1) = ((cM w c k (fpL w c k s) ((fpL w c k s).getD i 0) j + 1 : Nat) : Int) from wrp_id (by omega) (by omega)]
                  refine qG.ist (m := 1820) rfl rfl (by omega) (by decide) ?_
                  show qG none (d + 1) 220 176 [(2, 95), (0, ((c : Nat) : Int)), (0, ((k : Nat) : Int)), (0, ((i : Nat) : Int)), (0, ((j : Nat) : Int))] [] (qup (qup w7 103 (50 * i + cM w c k (fpL w c k s) ((fpL w c k s).getD i 0) j) ((j : Nat) : Int)) 102 i ((cM w c k (fpL w c k s) ((fpL w c k s).getD i 0) j + 1 : Nat) : Int)) 142 Q9
                  refine qG.blk 1 (pc' := 179) (ls' := [(2, 95), (0, ((c : Nat) : Int)), (0, ((k : Nat) : Int)), (0, ((i : Nat) : Int)), (0, wrp (((j : Nat) : Int) + 1))]) (st' := []) (w' := (qup (qup w7 103 (50 * i + cM w c k (fpL w c k s) ((fpL w c k s).getD i 0) j) ((j : Nat) : Int)) 102 i ((cM w c k (fpL w c k s) ((fpL w c k s).getD i 0) j + 1 : Nat) : Int))) (n' := 142) rfl ?_
                  rw [show wrp (((j : Nat) : Int) + 1) = ((j + 1 : Nat) : Int) from wrp_id (by omega) (by omega)]
                  refine qG.blk 1 (pc' := 114) (ls' := [(2, 95), (0, ((c : Nat) : Int)), (0, ((k : Nat) : Int)), (0, ((i : Nat) : Int)), (0, ((j + 1 : Nat) : Int))]) (st' := []) (w' := (qup (qup w7 103 (50 * i + cM w c k (fpL w c k s) ((fpL w c k s).getD i 0) j) ((j : Nat) : Int)) 102 i ((cM w c k (fpL w c k s) ((fpL w c k s).getD i 0) j + 1 : Nat) : Int))) (n' := 142) rfl ?_
                  exact ih114 _ (by omega) (j + 1) ((qup (qup w7 103 (50 * i + cM w c k (fpL w c k s) ((fpL w c k s).getD i 0) j) ((j : Nat) : Int)) 102 i ((cM w c k (fpL w c k s) ((fpL w c k s).getD i 0) j + 1 : Nat) : Int))) rfl (⟨by omega, fpK.yes hN hcm hI114.2.1 (by omega) (Decidable.of_not_not (fun z => hmv (ite01.mpr z))), fpN.yes hI114.2.2.1 hcr, fpR.yes hI114.2.2.2 (by omega)⟩)
              · skip
                refine qG.blk 1 (pc' := 185) (ls' := [(2, 95), (0, ((c : Nat) : Int)), (0, ((k : Nat) : Int)), (0, wrp (((i : Nat) : Int) + 1)), (0, ((j : Nat) : Int))]) (st' := []) (w' := w7) (n' := 142) rfl ?_
                rw [show wrp (((i : Nat) : Int) + 1) = ((i + 1 : Nat) : Int) from wrp_id (by omega) (by omega)]
                refine qG.blk 1 (pc' := 96) (ls' := [(2, 95), (0, ((c : Nat) : Int)), (0, ((k : Nat) : Int)), (0, ((i + 1 : Nat) : Int)), (0, ((j : Nat) : Int))]) (st' := []) (w' := w7) (n' := 142) rfl ?_
                exact ih96 _ (by omega) (i + 1) (w7) ((0, ((j : Nat) : Int))) rfl (⟨by omega, hI114.2.1.1, fpN.s hI114.2.2.1 hI114.2.1 hI114.2.2.2 (by omega)⟩)
            exact L114 _ (0) ((qup w8 102 i 0)) rfl (⟨by omega, fpK.init hI96.2.1, fpN.q0 hI96.2.2, fpR.zero⟩)
          · skip
            refine qG.retv rfl rfl ?_
            subst hQ9
            first | exact ⟨rfl, rfl, .inl ⟨hpf, rfl⟩⟩ | (refine ⟨rfl, rfl, .inr ⟨hpf, w9, hs ▸ hA, hI96.2.1, ?_⟩⟩; rw [← hs, show (fpL w c k s).length = i by omega]; exact hI96.2.2)
        exact L96 _ (0) (w9) ((9, 0)) rfl (⟨by omega, ⟨fun p j _ _ => rfl, hA.2.2.2.2⟩, fpN.zero⟩)
    exact L31 _ (1) ((qup (qup w 95 9 ((8 * c + k : Nat) : Int)) 95 8 0)) rfl (⟨by omega, by omega, fpI.init hc hk1 hk2 hI⟩)
end
section
/-! the reference's findsPoses as contracts -/
noncomputable def zfpm : List Nat := [101, 102, 103, 9095, 10095]
theorem zfpm_f {w wA w1 : qW} {c k : Nat} (hA : fpI w c k 65536 wA) (hJ : fpJ wA w1) {p j : Nat} (h : p < 1000 → ymo p j zfpm = false) : w1 p j = w p j := by
  have key : p < 1000 → p ≠ 101 ∧ p ≠ 102 ∧ p ≠ 103 ∧ ¬ (p = 95 ∧ (j = 8 ∨ j = 9)) := fun hp => by
    have h := h hp
    refine ⟨fun z => (by rw [z] at h; cases h), fun z => (by rw [z] at h; cases h), fun z => (by rw [z] at h; cases h), fun z => ?_⟩
    rcases z with ⟨rfl, rfl | rfl⟩ <;> cases h
  by_cases hp : p < 1000
  · obtain ⟨k1, k2, k3, k4⟩ := key hp
    rw [hJ.1 p j k2 k3, hA.2.2.2.1 p j k1 k4]
  · rw [hJ.1 p j (by omega) (by omega), hA.2.2.2.1 p j (by omega) (fun z => by omega)]
end
