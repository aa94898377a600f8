section
/-! the class: tape: its methods end, whatever stands in the pair -/
noncomputable def C_signAt : Nat × yC := (136, (0, [(2, 8, 8), (0, (-2147483648), 2147483647)], (0, 0, 255), [], [], [], [], 0, []))
theorem T_signAt {w0 : qW} : yCOK w0 zgf zga zra zSp zgh C_signAt.1 C_signAt.2 := yctr (bv := fun _ _ => none) (bb := fun _ => none) (ct := yctl []) (an := fun k pc => none) (fk := fun k pc => none) (f := 100000) zgh0 (fun _ _ _ h => by cases h) (fun _ _ h => by cases h) zSp_ok (fun w hw => yctl_ok (P := fun t c => yCOK w zgf zga zra zSp zgh t c) ylnil) (by decide +kernel)
noncomputable def C_letterEnd : Nat × yC := (139, (1, [(2, 8, 8), (0, (-2147483648), 2147483647)], (0, (-2147483648), 600), [], [], [], [], 0, []))
theorem T_letterEnd {w0 : qW} : yCOK w0 zgf zga zra zSp zgh C_letterEnd.1 C_letterEnd.2 := yctr (bv := fun _ _ => none) (bb := fun _ => none) (ct := yctl [C_signAt]) (an := fun k pc => bif Nat.beq k 139 then (bif Nat.beq pc 2 then some ([none, none, some (0, (-2147483648), 2147483647)], [], [(2, (-1))]) else none) else none) (fk := fun k pc => none) (f := 100000) zgh0 (fun _ _ _ h => by cases h) (fun _ _ h => by cases h) zSp_ok (fun w hw => yctl_ok (P := fun t c => yCOK w zgf zga zra zSp zgh t c) (ylcons (T_signAt : yCOK w zgf zga zra zSp zgh C_signAt.1 C_signAt.2) ylnil)) (by decide +kernel)
noncomputable def C_digitEnd : Nat × yC := (140, (1, [(2, 8, 8), (0, (-2147483648), 2147483647)], (0, (-2147483648), 600), [], [], [], [], 0, []))
theorem T_digitEnd {w0 : qW} : yCOK w0 zgf zga zra zSp zgh C_digitEnd.1 C_digitEnd.2 := yctr (bv := fun _ _ => none) (bb := fun _ => none) (ct := yctl [C_signAt]) (an := fun k pc => bif Nat.beq k 140 then (bif Nat.beq pc 2 then some ([none, none, some (0, (-2147483648), 2147483647)], [], [(2, (-1))]) else none) else none) (fk := fun k pc => none) (f := 100000) zgh0 (fun _ _ _ h => by cases h) (fun _ _ h => by cases h) zSp_ok (fun w hw => yctl_ok (P := fun t c => yCOK w zgf zga zra zSp zgh t c) (ylcons (T_signAt : yCOK w zgf zga zra zSp zgh C_signAt.1 C_signAt.2) ylnil)) (by decide +kernel)
noncomputable def C_addToken : Nat × yC := (144, (0, [(2, 8, 8), (0, (-2147483648), 2147483647), (0, (-2147483648), 2147483647)], (9, 0, 0), [10, 11, 5008], [], [], [], 0, []))
theorem T_addToken {w0 : qW} : yCOK w0 zgf zga zra zSp zgh C_addToken.1 C_addToken.2 := yctr (bv := fun _ _ => none) (bb := fun _ => none) (ct := yctl []) (an := fun k pc => none) (fk := fun k pc => none) (f := 100000) zgh0 (fun _ _ _ h => by cases h) (fun _ _ h => by cases h) zSp_ok (fun w hw => yctl_ok (P := fun t c => yCOK w zgf zga zra zSp zgh t c) ylnil) (by decide +kernel)
noncomputable def C_readToken3 : Nat × yC := (135, (6, [(2, 8, 8), (0, 0, 599), (3, 3, 3), (3, 4, 4)], (0, (-2147483648), 600), [10, 11, 5008], [], [], [], 0, []))
theorem T_readToken3 {w0 : qW} : yCOK w0 zgf zga zra zSp zgh C_readToken3.1 C_readToken3.2 := yctr (bv := fun _ _ => none) (bb := fun _ => none) (ct := yctl [C_signAt, C_addToken, C_digitEnd, C_letterEnd]) (an := fun k pc => bif Nat.beq k 141 then (bif Nat.beq pc 14 then some ([none, none, none, some (0, (-2147483648), 2147483647), some (0, 0, 600)], [], [(4, (-1))]) else none) else bif Nat.beq k 142 then (bif Nat.beq pc 9 then some ([none, none, none, none, some (0, (-2147483648), 2147483647), some (0, 0, 2147483647), some (0, 0, 2147483647)], [], [(6, (-1))]) else none) else bif Nat.beq k 143 then (bif Nat.beq pc 3 then some ([none, none, none, none, none, some (0, 0, 2147483647), some (0, 0, 599)], [], [(5, (-1))]) else none) else none) (fk := fun k pc => none) (f := 100000) zgh0 (fun _ _ _ h => by cases h) (fun _ _ h => by cases h) zSp_ok (fun w hw => yctl_ok (P := fun t c => yCOK w zgf zga zra zSp zgh t c) (ylcons (T_signAt : yCOK w zgf zga zra zSp zgh C_signAt.1 C_signAt.2) (ylcons (T_addToken : yCOK w zgf zga zra zSp zgh C_addToken.1 C_addToken.2) (ylcons (T_digitEnd : yCOK w zgf zga zra zSp zgh C_digitEnd.1 C_digitEnd.2) (ylcons (T_letterEnd : yCOK w zgf zga zra zSp zgh C_letterEnd.1 C_letterEnd.2) ylnil))))) (by decide +kernel)
noncomputable def C_readTokens3 : Nat × yC := (134, (7, [(2, 8, 8), (3, 3, 3), (3, 4, 4)], (9, 0, 0), [10, 11, 5008, 6008], [], [], [], 0, []))
theorem T_readTokens3 {w0 : qW} : yCOK w0 zgf zga zra zSp zgh C_readTokens3.1 C_readTokens3.2 := yctr (bv := fun _ _ => none) (bb := fun _ => none) (ct := yctl [C_readToken3, C_addToken]) (an := fun k pc => bif Nat.beq k 134 then (bif Nat.beq pc 15 then some ([none, none, none, some (0, (-2147483648), 600), some (0, 0, 2147483647)], [10, 11, 5008], [(4, (-1))]) else none) else none) (fk := fun k pc => none) (f := 100000) zgh0 (fun _ _ _ h => by cases h) (fun _ _ h => by cases h) zSp_ok (fun w hw => yctl_ok (P := fun t c => yCOK w zgf zga zra zSp zgh t c) (ylcons (T_readToken3 : yCOK w zgf zga zra zSp zgh C_readToken3.1 C_readToken3.2) (ylcons (T_addToken : yCOK w zgf zga zra zSp zgh C_addToken.1 C_addToken.2) ylnil))) (by decide +kernel)
noncomputable def C_readToken1 : Nat × yC := (135, (6, [(2, 8, 8), (0, 0, 599), (3, 1, 1), (3, 2, 2)], (0, (-2147483648), 600), [10, 11, 5008], [], [], [], 0, []))
theorem T_readToken1 {w0 : qW} : yCOK w0 zgf zga zra zSp zgh C_readToken1.1 C_readToken1.2 := yctr (bv := fun _ _ => none) (bb := fun _ => none) (ct := yctl [C_signAt, C_addToken, C_digitEnd, C_letterEnd]) (an := fun k pc => bif Nat.beq k 141 then (bif Nat.beq pc 14 then some ([none, none, none, some (0, (-2147483648), 2147483647), some (0, 0, 600)], [], [(4, (-1))]) else none) else bif Nat.beq k 142 then (bif Nat.beq pc 9 then some ([none, none, none, none, some (0, (-2147483648), 2147483647), some (0, 0, 2147483647), some (0, 0, 2147483647)], [], [(6, (-1))]) else none) else bif Nat.beq k 143 then (bif Nat.beq pc 3 then some ([none, none, none, none, none, some (0, 0, 2147483647), some (0, 0, 599)], [], [(5, (-1))]) else none) else none) (fk := fun k pc => none) (f := 100000) zgh0 (fun _ _ _ h => by cases h) (fun _ _ h => by cases h) zSp_ok (fun w hw => yctl_ok (P := fun t c => yCOK w zgf zga zra zSp zgh t c) (ylcons (T_signAt : yCOK w zgf zga zra zSp zgh C_signAt.1 C_signAt.2) (ylcons (T_addToken : yCOK w zgf zga zra zSp zgh C_addToken.1 C_addToken.2) (ylcons (T_digitEnd : yCOK w zgf zga zra zSp zgh C_digitEnd.1 C_digitEnd.2) (ylcons (T_letterEnd : yCOK w zgf zga zra zSp zgh C_letterEnd.1 C_letterEnd.2) ylnil))))) (by decide +kernel)
noncomputable def C_readTokens1 : Nat × yC := (134, (7, [(2, 8, 8), (3, 1, 1), (3, 2, 2)], (9, 0, 0), [10, 11, 5008, 6008], [], [], [], 0, []))
theorem T_readTokens1 {w0 : qW} : yCOK w0 zgf zga zra zSp zgh C_readTokens1.1 C_readTokens1.2 := yctr (bv := fun _ _ => none) (bb := fun _ => none) (ct := yctl [C_readToken1, C_addToken]) (an := fun k pc => bif Nat.beq k 134 then (bif Nat.beq pc 15 then some ([none, none, none, some (0, (-2147483648), 600), some (0, 0, 2147483647)], [10, 11, 5008], [(4, (-1))]) else none) else none) (fk := fun k pc => none) (f := 100000) zgh0 (fun _ _ _ h => by cases h) (fun _ _ h => by cases h) zSp_ok (fun w hw => yctl_ok (P := fun t c => yCOK w zgf zga zra zSp zgh t c) (ylcons (T_readToken1 : yCOK w zgf zga zra zSp zgh C_readToken1.1 C_readToken1.2) (ylcons (T_addToken : yCOK w zgf zga zra zSp zgh C_addToken.1 C_addToken.2) ylnil))) (by decide +kernel)
noncomputable def C_codeT : Nat × yC := (145, (0, [(2, 8, 8)], (0, (-2147483648), 2147483647), [], [], [], [], 0, []))
theorem T_codeT {w0 : qW} : yCOK w0 zgf zga zra zSp zgh C_codeT.1 C_codeT.2 := yctr (bv := fun _ _ => none) (bb := fun _ => none) (ct := yctl []) (an := fun k pc => none) (fk := fun k pc => none) (f := 100000) zgh0 (fun _ _ _ h => by cases h) (fun _ _ h => by cases h) zSp_ok (fun w hw => yctl_ok (P := fun t c => yCOK w zgf zga zra zSp zgh t c) ylnil) (by decide +kernel)
noncomputable def C_nextT : Nat × yC := (149, (0, [(2, 8, 8)], (9, 0, 0), [6008], [], [], [], 0, []))
theorem T_nextT {w0 : qW} : yCOK w0 zgf zga zra zSp zgh C_nextT.1 C_nextT.2 := yctr (bv := fun _ _ => none) (bb := fun _ => none) (ct := yctl []) (an := fun k pc => none) (fk := fun k pc => none) (f := 100000) zgh0 (fun _ _ _ h => by cases h) (fun _ _ h => by cases h) zSp_ok (fun w hw => yctl_ok (P := fun t c => yCOK w zgf zga zra zSp zgh t c) ylnil) (by decide +kernel)
noncomputable def C_wordT : Nat × yC := (148, (1, [(2, 8, 8)], (0, (-1), 9999), [], [], [], [], 0, []))
theorem T_wordT {w0 : qW} : yCOK w0 zgf zga zra zSp zgh C_wordT.1 C_wordT.2 := yctr (bv := fun _ _ => none) (bb := fun _ => none) (ct := yctl [C_codeT]) (an := fun k pc => none) (fk := fun k pc => none) (f := 100000) zgh0 (fun _ _ _ h => by cases h) (fun _ _ h => by cases h) zSp_ok (fun w hw => yctl_ok (P := fun t c => yCOK w zgf zga zra zSp zgh t c) (ylcons (T_codeT : yCOK w zgf zga zra zSp zgh C_codeT.1 C_codeT.2) ylnil)) (by decide +kernel)
noncomputable def C_takesT : Nat × yC := (150, (1, [(2, 8, 8), (0, (-2147483648), 2147483647)], (0, 0, 1), [6008], [], [], [], 0, []))
theorem T_takesT {w0 : qW} : yCOK w0 zgf zga zra zSp zgh C_takesT.1 C_takesT.2 := yctr (bv := fun _ _ => none) (bb := fun _ => none) (ct := yctl [C_codeT, C_nextT]) (an := fun k pc => none) (fk := fun k pc => none) (f := 100000) zgh0 (fun _ _ _ h => by cases h) (fun _ _ h => by cases h) zSp_ok (fun w hw => yctl_ok (P := fun t c => yCOK w zgf zga zra zSp zgh t c) (ylcons (T_codeT : yCOK w zgf zga zra zSp zgh C_codeT.1 C_codeT.2) (ylcons (T_nextT : yCOK w zgf zga zra zSp zgh C_nextT.1 C_nextT.2) ylnil))) (by decide +kernel)
noncomputable def C_failT : Nat × yC := (153, (0, [(2, 8, 8), (0, 0, 3)], (0, 0, 0), [7008, 8008], [], [], [], 0, []))
theorem T_failT {w0 : qW} : yCOK w0 zgf zga zra zSp zgh C_failT.1 C_failT.2 := yctr (bv := fun _ _ => none) (bb := fun _ => none) (ct := yctl []) (an := fun k pc => none) (fk := fun k pc => none) (f := 100000) zgh0 (fun _ _ _ h => by cases h) (fun _ _ h => by cases h) zSp_ok (fun w hw => yctl_ok (P := fun t c => yCOK w zgf zga zra zSp zgh t c) ylnil) (by decide +kernel)
noncomputable def C_needsT : Nat × yC := (151, (2, [(2, 8, 8), (0, (-2147483648), 2147483647)], (0, 0, 1), [6008, 7008, 8008], [], [], [], 0, []))
theorem T_needsT {w0 : qW} : yCOK w0 zgf zga zra zSp zgh C_needsT.1 C_needsT.2 := yctr (bv := fun _ _ => none) (bb := fun _ => none) (ct := yctl [C_takesT, C_failT]) (an := fun k pc => none) (fk := fun k pc => none) (f := 100000) zgh0 (fun _ _ _ h => by cases h) (fun _ _ h => by cases h) zSp_ok (fun w hw => yctl_ok (P := fun t c => yCOK w zgf zga zra zSp zgh t c) (ylcons (T_takesT : yCOK w zgf zga zra zSp zgh C_takesT.1 C_takesT.2) (ylcons (T_failT : yCOK w zgf zga zra zSp zgh C_failT.1 C_failT.2) ylnil))) (by decide +kernel)
noncomputable def C_needsNumberT : Nat × yC := (152, (1, [(2, 8, 8), (0, (-2147483648), 2147483647), (0, (-2147483648), 2147483647)], (0, 0, 1), [6008, 7008, 8008], [], [], [], 0, []))
theorem T_needsNumberT {w0 : qW} : yCOK w0 zgf zga zra zSp zgh C_needsNumberT.1 C_needsNumberT.2 := yctr (bv := fun _ _ => none) (bb := fun _ => none) (ct := yctl [C_codeT, C_failT, C_nextT]) (an := fun k pc => none) (fk := fun k pc => none) (f := 100000) zgh0 (fun _ _ _ h => by cases h) (fun _ _ h => by cases h) zSp_ok (fun w hw => yctl_ok (P := fun t c => yCOK w zgf zga zra zSp zgh t c) (ylcons (T_codeT : yCOK w zgf zga zra zSp zgh C_codeT.1 C_codeT.2) (ylcons (T_failT : yCOK w zgf zga zra zSp zgh C_failT.1 C_failT.2) (ylcons (T_nextT : yCOK w zgf zga zra zSp zgh C_nextT.1 C_nextT.2) ylnil)))) (by decide +kernel)
noncomputable def C_learnStep4 : Nat × yC := (108, (3, [(2, 4, 4), (2, 8, 8)], (0, 0, 1), [5, 6, 3004, 6008, 7008, 8008], [], [], [], 0, []))
theorem T_learnStep4 {w0 : qW} : yCOK w0 zgf zga zra zSp zgh C_learnStep4.1 C_learnStep4.2 := yctr (bv := fun _ _ => none) (bb := fun _ => none) (ct := yctl [C_wordT, C_failT, C_nextT, C_codeT, C_needsNumberT, C_needsT]) (an := fun k pc => none) (fk := fun k pc => none) (f := 100000) zgh0 (fun _ _ _ h => by cases h) (fun _ _ h => by cases h) zSp_ok (fun w hw => yctl_ok (P := fun t c => yCOK w zgf zga zra zSp zgh t c) (ylcons (T_wordT : yCOK w zgf zga zra zSp zgh C_wordT.1 C_wordT.2) (ylcons (T_failT : yCOK w zgf zga zra zSp zgh C_failT.1 C_failT.2) (ylcons (T_nextT : yCOK w zgf zga zra zSp zgh C_nextT.1 C_nextT.2) (ylcons (T_codeT : yCOK w zgf zga zra zSp zgh C_codeT.1 C_codeT.2) (ylcons (T_needsNumberT : yCOK w zgf zga zra zSp zgh C_needsNumberT.1 C_needsNumberT.2) (ylcons (T_needsT : yCOK w zgf zga zra zSp zgh C_needsT.1 C_needsT.2) ylnil))))))) (by decide +kernel)
noncomputable def C_learn4 : Nat × yC := (107, (8, [(2, 4, 4), (2, 8, 8)], (0, 0, 1), [5, 6, 10, 11, 3004, 5008, 6008, 7008, 8008], [], [], [], 0, []))
theorem T_learn4 {w0 : qW} : yCOK w0 zgf zga zra zSp zgh C_learn4.1 C_learn4.2 := yctr (bv := fun _ _ => none) (bb := fun _ => none) (ct := yctl [C_readTokens3, C_codeT, C_learnStep4]) (an := fun k pc => bif Nat.beq k 107 then (bif Nat.beq pc 15 then some ([none, none, some (0, 0, 2147483647)], [5, 6, 3004, 7008, 8008], [(2, (-1))]) else none) else none) (fk := fun k pc => none) (f := 100000) zgh0 (fun _ _ _ h => by cases h) (fun _ _ h => by cases h) zSp_ok (fun w hw => yctl_ok (P := fun t c => yCOK w zgf zga zra zSp zgh t c) (ylcons (T_readTokens3 : yCOK w zgf zga zra zSp zgh C_readTokens3.1 C_readTokens3.2) (ylcons (T_codeT : yCOK w zgf zga zra zSp zgh C_codeT.1 C_codeT.2) (ylcons (T_learnStep4 : yCOK w zgf zga zra zSp zgh C_learnStep4.1 C_learnStep4.2) ylnil)))) (by decide +kernel)
noncomputable def C_learnStep79 : Nat × yC := (108, (3, [(2, 79, 79), (2, 8, 8)], (0, 0, 1), [80, 81, 3079, 6008, 7008, 8008], [], [], [], 0, []))
theorem T_learnStep79 {w0 : qW} : yCOK w0 zgf zga zra zSp zgh C_learnStep79.1 C_learnStep79.2 := yctr (bv := fun _ _ => none) (bb := fun _ => none) (ct := yctl [C_wordT, C_failT, C_nextT, C_codeT, C_needsNumberT, C_needsT]) (an := fun k pc => none) (fk := fun k pc => none) (f := 100000) zgh0 (fun _ _ _ h => by cases h) (fun _ _ h => by cases h) zSp_ok (fun w hw => yctl_ok (P := fun t c => yCOK w zgf zga zra zSp zgh t c) (ylcons (T_wordT : yCOK w zgf zga zra zSp zgh C_wordT.1 C_wordT.2) (ylcons (T_failT : yCOK w zgf zga zra zSp zgh C_failT.1 C_failT.2) (ylcons (T_nextT : yCOK w zgf zga zra zSp zgh C_nextT.1 C_nextT.2) (ylcons (T_codeT : yCOK w zgf zga zra zSp zgh C_codeT.1 C_codeT.2) (ylcons (T_needsNumberT : yCOK w zgf zga zra zSp zgh C_needsNumberT.1 C_needsNumberT.2) (ylcons (T_needsT : yCOK w zgf zga zra zSp zgh C_needsT.1 C_needsT.2) ylnil))))))) (by decide +kernel)
noncomputable def C_learn79 : Nat × yC := (107, (8, [(2, 79, 79), (2, 8, 8)], (0, 0, 1), [10, 11, 80, 81, 3079, 5008, 6008, 7008, 8008], [], [], [], 0, []))
theorem T_learn79 {w0 : qW} : yCOK w0 zgf zga zra zSp zgh C_learn79.1 C_learn79.2 := yctr (bv := fun _ _ => none) (bb := fun _ => none) (ct := yctl [C_readTokens3, C_codeT, C_learnStep79]) (an := fun k pc => bif Nat.beq k 107 then (bif Nat.beq pc 15 then some ([none, none, some (0, 0, 2147483647)], [80, 81, 3079, 7008, 8008], [(2, (-1))]) else none) else none) (fk := fun k pc => none) (f := 100000) zgh0 (fun _ _ _ h => by cases h) (fun _ _ h => by cases h) zSp_ok (fun w hw => yctl_ok (P := fun t c => yCOK w zgf zga zra zSp zgh t c) (ylcons (T_readTokens3 : yCOK w zgf zga zra zSp zgh C_readTokens3.1 C_readTokens3.2) (ylcons (T_codeT : yCOK w zgf zga zra zSp zgh C_codeT.1 C_codeT.2) (ylcons (T_learnStep79 : yCOK w zgf zga zra zSp zgh C_learnStep79.1 C_learnStep79.2) ylnil)))) (by decide +kernel)
noncomputable def C_learnStep83 : Nat × yC := (108, (3, [(2, 83, 83), (2, 8, 8)], (0, 0, 1), [84, 85, 3083, 6008, 7008, 8008], [], [], [], 0, []))
theorem T_learnStep83 {w0 : qW} : yCOK w0 zgf zga zra zSp zgh C_learnStep83.1 C_learnStep83.2 := yctr (bv := fun _ _ => none) (bb := fun _ => none) (ct := yctl [C_wordT, C_failT, C_nextT, C_codeT, C_needsNumberT, C_needsT]) (an := fun k pc => none) (fk := fun k pc => none) (f := 100000) zgh0 (fun _ _ _ h => by cases h) (fun _ _ h => by cases h) zSp_ok (fun w hw => yctl_ok (P := fun t c => yCOK w zgf zga zra zSp zgh t c) (ylcons (T_wordT : yCOK w zgf zga zra zSp zgh C_wordT.1 C_wordT.2) (ylcons (T_failT : yCOK w zgf zga zra zSp zgh C_failT.1 C_failT.2) (ylcons (T_nextT : yCOK w zgf zga zra zSp zgh C_nextT.1 C_nextT.2) (ylcons (T_codeT : yCOK w zgf zga zra zSp zgh C_codeT.1 C_codeT.2) (ylcons (T_needsNumberT : yCOK w zgf zga zra zSp zgh C_needsNumberT.1 C_needsNumberT.2) (ylcons (T_needsT : yCOK w zgf zga zra zSp zgh C_needsT.1 C_needsT.2) ylnil))))))) (by decide +kernel)
noncomputable def C_learn83 : Nat × yC := (107, (8, [(2, 83, 83), (2, 8, 8)], (0, 0, 1), [10, 11, 84, 85, 3083, 5008, 6008, 7008, 8008], [], [], [], 0, []))
theorem T_learn83 {w0 : qW} : yCOK w0 zgf zga zra zSp zgh C_learn83.1 C_learn83.2 := yctr (bv := fun _ _ => none) (bb := fun _ => none) (ct := yctl [C_readTokens3, C_codeT, C_learnStep83]) (an := fun k pc => bif Nat.beq k 107 then (bif Nat.beq pc 15 then some ([none, none, some (0, 0, 2147483647)], [84, 85, 3083, 7008, 8008], [(2, (-1))]) else none) else none) (fk := fun k pc => none) (f := 100000) zgh0 (fun _ _ _ h => by cases h) (fun _ _ h => by cases h) zSp_ok (fun w hw => yctl_ok (P := fun t c => yCOK w zgf zga zra zSp zgh t c) (ylcons (T_readTokens3 : yCOK w zgf zga zra zSp zgh C_readTokens3.1 C_readTokens3.2) (ylcons (T_codeT : yCOK w zgf zga zra zSp zgh C_codeT.1 C_codeT.2) (ylcons (T_learnStep83 : yCOK w zgf zga zra zSp zgh C_learnStep83.1 C_learnStep83.2) ylnil)))) (by decide +kernel)
noncomputable def C_learnStep87 : Nat × yC := (108, (3, [(2, 87, 87), (2, 8, 8)], (0, 0, 1), [88, 89, 3087, 6008, 7008, 8008], [], [], [], 0, []))
theorem T_learnStep87 {w0 : qW} : yCOK w0 zgf zga zra zSp zgh C_learnStep87.1 C_learnStep87.2 := yctr (bv := fun _ _ => none) (bb := fun _ => none) (ct := yctl [C_wordT, C_failT, C_nextT, C_codeT, C_needsNumberT, C_needsT]) (an := fun k pc => none) (fk := fun k pc => none) (f := 100000) zgh0 (fun _ _ _ h => by cases h) (fun _ _ h => by cases h) zSp_ok (fun w hw => yctl_ok (P := fun t c => yCOK w zgf zga zra zSp zgh t c) (ylcons (T_wordT : yCOK w zgf zga zra zSp zgh C_wordT.1 C_wordT.2) (ylcons (T_failT : yCOK w zgf zga zra zSp zgh C_failT.1 C_failT.2) (ylcons (T_nextT : yCOK w zgf zga zra zSp zgh C_nextT.1 C_nextT.2) (ylcons (T_codeT : yCOK w zgf zga zra zSp zgh C_codeT.1 C_codeT.2) (ylcons (T_needsNumberT : yCOK w zgf zga zra zSp zgh C_needsNumberT.1 C_needsNumberT.2) (ylcons (T_needsT : yCOK w zgf zga zra zSp zgh C_needsT.1 C_needsT.2) ylnil))))))) (by decide +kernel)
noncomputable def C_learn87 : Nat × yC := (107, (8, [(2, 87, 87), (2, 8, 8)], (0, 0, 1), [10, 11, 88, 89, 3087, 5008, 6008, 7008, 8008], [], [], [], 0, []))
theorem T_learn87 {w0 : qW} : yCOK w0 zgf zga zra zSp zgh C_learn87.1 C_learn87.2 := yctr (bv := fun _ _ => none) (bb := fun _ => none) (ct := yctl [C_readTokens3, C_codeT, C_learnStep87]) (an := fun k pc => bif Nat.beq k 107 then (bif Nat.beq pc 15 then some ([none, none, some (0, 0, 2147483647)], [88, 89, 3087, 7008, 8008], [(2, (-1))]) else none) else none) (fk := fun k pc => none) (f := 100000) zgh0 (fun _ _ _ h => by cases h) (fun _ _ h => by cases h) zSp_ok (fun w hw => yctl_ok (P := fun t c => yCOK w zgf zga zra zSp zgh t c) (ylcons (T_readTokens3 : yCOK w zgf zga zra zSp zgh C_readTokens3.1 C_readTokens3.2) (ylcons (T_codeT : yCOK w zgf zga zra zSp zgh C_codeT.1 C_codeT.2) (ylcons (T_learnStep87 : yCOK w zgf zga zra zSp zgh C_learnStep87.1 C_learnStep87.2) ylnil)))) (by decide +kernel)
noncomputable def C_learnStep91 : Nat × yC := (108, (3, [(2, 91, 91), (2, 8, 8)], (0, 0, 1), [92, 93, 3091, 6008, 7008, 8008], [], [], [], 0, []))
theorem T_learnStep91 {w0 : qW} : yCOK w0 zgf zga zra zSp zgh C_learnStep91.1 C_learnStep91.2 := yctr (bv := fun _ _ => none) (bb := fun _ => none) (ct := yctl [C_wordT, C_failT, C_nextT, C_codeT, C_needsNumberT, C_needsT]) (an := fun k pc => none) (fk := fun k pc => none) (f := 100000) zgh0 (fun _ _ _ h => by cases h) (fun _ _ h => by cases h) zSp_ok (fun w hw => yctl_ok (P := fun t c => yCOK w zgf zga zra zSp zgh t c) (ylcons (T_wordT : yCOK w zgf zga zra zSp zgh C_wordT.1 C_wordT.2) (ylcons (T_failT : yCOK w zgf zga zra zSp zgh C_failT.1 C_failT.2) (ylcons (T_nextT : yCOK w zgf zga zra zSp zgh C_nextT.1 C_nextT.2) (ylcons (T_codeT : yCOK w zgf zga zra zSp zgh C_codeT.1 C_codeT.2) (ylcons (T_needsNumberT : yCOK w zgf zga zra zSp zgh C_needsNumberT.1 C_needsNumberT.2) (ylcons (T_needsT : yCOK w zgf zga zra zSp zgh C_needsT.1 C_needsT.2) ylnil))))))) (by decide +kernel)
noncomputable def C_learn91 : Nat × yC := (107, (8, [(2, 91, 91), (2, 8, 8)], (0, 0, 1), [10, 11, 92, 93, 3091, 5008, 6008, 7008, 8008], [], [], [], 0, []))
theorem T_learn91 {w0 : qW} : yCOK w0 zgf zga zra zSp zgh C_learn91.1 C_learn91.2 := yctr (bv := fun _ _ => none) (bb := fun _ => none) (ct := yctl [C_readTokens3, C_codeT, C_learnStep91]) (an := fun k pc => bif Nat.beq k 107 then (bif Nat.beq pc 15 then some ([none, none, some (0, 0, 2147483647)], [92, 93, 3091, 7008, 8008], [(2, (-1))]) else none) else none) (fk := fun k pc => none) (f := 100000) zgh0 (fun _ _ _ h => by cases h) (fun _ _ h => by cases h) zSp_ok (fun w hw => yctl_ok (P := fun t c => yCOK w zgf zga zra zSp zgh t c) (ylcons (T_readTokens3 : yCOK w zgf zga zra zSp zgh C_readTokens3.1 C_readTokens3.2) (ylcons (T_codeT : yCOK w zgf zga zra zSp zgh C_codeT.1 C_codeT.2) (ylcons (T_learnStep91 : yCOK w zgf zga zra zSp zgh C_learnStep91.1 C_learnStep91.2) ylnil)))) (by decide +kernel)
noncomputable def C_checkUnit : Nat × yC := (82, (2, [(2, 8, 8)], (0, 0, 1), [6008, 7008, 8008], [], [], [], 0, []))
theorem T_checkUnit {w0 : qW} : yCOK w0 zgf zga zra zSp zgh C_checkUnit.1 C_checkUnit.2 := yctr (bv := fun _ _ => none) (bb := fun _ => none) (ct := yctl [C_takesT, C_wordT, C_needsNumberT, C_nextT]) (an := fun k pc => none) (fk := fun k pc => none) (f := 100000) zgh0 (fun _ _ _ h => by cases h) (fun _ _ h => by cases h) zSp_ok (fun w hw => yctl_ok (P := fun t c => yCOK w zgf zga zra zSp zgh t c) (ylcons (T_takesT : yCOK w zgf zga zra zSp zgh C_takesT.1 C_takesT.2) (ylcons (T_wordT : yCOK w zgf zga zra zSp zgh C_wordT.1 C_wordT.2) (ylcons (T_needsNumberT : yCOK w zgf zga zra zSp zgh C_needsNumberT.1 C_needsNumberT.2) (ylcons (T_nextT : yCOK w zgf zga zra zSp zgh C_nextT.1 C_nextT.2) ylnil))))) (by decide +kernel)
noncomputable def C_checkSum : Nat × yC := (81, (3, [(2, 8, 8)], (0, 0, 1), [6008, 7008, 8008], [], [], [], 0, []))
theorem T_checkSum {w0 : qW} : yCOK w0 zgf zga zra zSp zgh C_checkSum.1 C_checkSum.2 := yctr (bv := fun _ _ => none) (bb := fun _ => none) (ct := yctl [C_checkUnit, C_takesT, C_needsNumberT]) (an := fun k pc => bif Nat.beq k 81 then (bif Nat.beq pc 9 then some ([none, some (0, 0, 1), some (0, 0, 1), some (0, 0, 2147483647)], [], [(3, (-1))]) else none) else none) (fk := fun k pc => none) (f := 100000) zgh0 (fun _ _ _ h => by cases h) (fun _ _ h => by cases h) zSp_ok (fun w hw => yctl_ok (P := fun t c => yCOK w zgf zga zra zSp zgh t c) (ylcons (T_checkUnit : yCOK w zgf zga zra zSp zgh C_checkUnit.1 C_checkUnit.2) (ylcons (T_takesT : yCOK w zgf zga zra zSp zgh C_takesT.1 C_takesT.2) (ylcons (T_needsNumberT : yCOK w zgf zga zra zSp zgh C_needsNumberT.1 C_needsNumberT.2) ylnil)))) (by decide +kernel)
noncomputable def C_checkComparison : Nat × yC := (80, (3, [(2, 8, 8)], (0, 0, 1), [6008, 7008, 8008], [], [], [], 0, []))
theorem T_checkComparison {w0 : qW} : yCOK w0 zgf zga zra zSp zgh C_checkComparison.1 C_checkComparison.2 := yctr (bv := fun _ _ => none) (bb := fun _ => none) (ct := yctl [C_takesT, C_needsT]) (an := fun k pc => none) (fk := fun k pc => none) (f := 100000) zgh0 (fun _ _ _ h => by cases h) (fun _ _ h => by cases h) zSp_ok (fun w hw => yctl_ok (P := fun t c => yCOK w zgf zga zra zSp zgh t c) (ylcons (T_takesT : yCOK w zgf zga zra zSp zgh C_takesT.1 C_takesT.2) (ylcons (T_needsT : yCOK w zgf zga zra zSp zgh C_needsT.1 C_needsT.2) ylnil))) (by decide +kernel)
noncomputable def C_checkCond8 : Nat × yC := (79, (4, [(2, 8, 8), (0, 8, 8)], (0, 0, 1), [6008, 7008, 8008], [], [], [], 0, []))
theorem T_checkCond8 {w0 : qW} : yCOK w0 zgf zga zra zSp zgh C_checkCond8.1 C_checkCond8.2 := yctr (bv := fun _ _ => none) (bb := fun _ => none) (ct := yctl [C_codeT, C_failT, C_checkSum, C_checkComparison]) (an := fun k pc => none) (fk := fun k pc => none) (f := 100000) zgh0 (fun _ _ _ h => by cases h) (fun _ _ h => by cases h) zSp_ok (fun w hw => yctl_ok (P := fun t c => yCOK w zgf zga zra zSp zgh t c) (ylcons (T_codeT : yCOK w zgf zga zra zSp zgh C_codeT.1 C_codeT.2) (ylcons (T_failT : yCOK w zgf zga zra zSp zgh C_failT.1 C_failT.2) (ylcons (T_checkSum : yCOK w zgf zga zra zSp zgh C_checkSum.1 C_checkSum.2) (ylcons (T_checkComparison : yCOK w zgf zga zra zSp zgh C_checkComparison.1 C_checkComparison.2) ylnil))))) (by decide +kernel)
noncomputable def C_checkChoice8 : Nat × yC := (78, (5, [(2, 8, 8), (0, 8, 8)], (0, 0, 1), [6008, 7008, 8008], [], [], [], 0, []))
theorem T_checkChoice8 {w0 : qW} : yCOK w0 zgf zga zra zSp zgh C_checkChoice8.1 C_checkChoice8.2 := yctr (bv := fun _ _ => none) (bb := fun _ => none) (ct := yctl [C_checkCond8, C_takesT]) (an := fun k pc => bif Nat.beq k 78 then (bif Nat.beq pc 8 then some ([none, none, some (0, 0, 1), some (0, 0, 2147483647)], [], [(3, (-1))]) else none) else none) (fk := fun k pc => none) (f := 100000) zgh0 (fun _ _ _ h => by cases h) (fun _ _ h => by cases h) zSp_ok (fun w hw => yctl_ok (P := fun t c => yCOK w zgf zga zra zSp zgh t c) (ylcons (T_checkCond8 : yCOK w zgf zga zra zSp zgh C_checkCond8.1 C_checkCond8.2) (ylcons (T_takesT : yCOK w zgf zga zra zSp zgh C_takesT.1 C_takesT.2) ylnil))) (by decide +kernel)
noncomputable def C_checkCond7 : Nat × yC := (79, (6, [(2, 8, 8), (0, 7, 7)], (0, 0, 1), [6008, 7008, 8008], [], [], [], 0, []))
theorem T_checkCond7 {w0 : qW} : yCOK w0 zgf zga zra zSp zgh C_checkCond7.1 C_checkCond7.2 := yctr (bv := fun _ _ => none) (bb := fun _ => none) (ct := yctl [C_codeT, C_nextT, C_checkCond8, C_checkSum, C_checkComparison, C_checkChoice8, C_needsT]) (an := fun k pc => none) (fk := fun k pc => none) (f := 100000) zgh0 (fun _ _ _ h => by cases h) (fun _ _ h => by cases h) zSp_ok (fun w hw => yctl_ok (P := fun t c => yCOK w zgf zga zra zSp zgh t c) (ylcons (T_codeT : yCOK w zgf zga zra zSp zgh C_codeT.1 C_codeT.2) (ylcons (T_nextT : yCOK w zgf zga zra zSp zgh C_nextT.1 C_nextT.2) (ylcons (T_checkCond8 : yCOK w zgf zga zra zSp zgh C_checkCond8.1 C_checkCond8.2) (ylcons (T_checkSum : yCOK w zgf zga zra zSp zgh C_checkSum.1 C_checkSum.2) (ylcons (T_checkComparison : yCOK w zgf zga zra zSp zgh C_checkComparison.1 C_checkComparison.2) (ylcons (T_checkChoice8 : yCOK w zgf zga zra zSp zgh C_checkChoice8.1 C_checkChoice8.2) (ylcons (T_needsT : yCOK w zgf zga zra zSp zgh C_needsT.1 C_needsT.2) ylnil)))))))) (by decide +kernel)
noncomputable def C_checkChoice7 : Nat × yC := (78, (7, [(2, 8, 8), (0, 7, 7)], (0, 0, 1), [6008, 7008, 8008], [], [], [], 0, []))
theorem T_checkChoice7 {w0 : qW} : yCOK w0 zgf zga zra zSp zgh C_checkChoice7.1 C_checkChoice7.2 := yctr (bv := fun _ _ => none) (bb := fun _ => none) (ct := yctl [C_checkCond7, C_takesT]) (an := fun k pc => bif Nat.beq k 78 then (bif Nat.beq pc 8 then some ([none, none, some (0, 0, 1), some (0, 0, 2147483647)], [], [(3, (-1))]) else none) else none) (fk := fun k pc => none) (f := 100000) zgh0 (fun _ _ _ h => by cases h) (fun _ _ h => by cases h) zSp_ok (fun w hw => yctl_ok (P := fun t c => yCOK w zgf zga zra zSp zgh t c) (ylcons (T_checkCond7 : yCOK w zgf zga zra zSp zgh C_checkCond7.1 C_checkCond7.2) (ylcons (T_takesT : yCOK w zgf zga zra zSp zgh C_takesT.1 C_takesT.2) ylnil))) (by decide +kernel)
noncomputable def C_checkCond6 : Nat × yC := (79, (8, [(2, 8, 8), (0, 6, 6)], (0, 0, 1), [6008, 7008, 8008], [], [], [], 0, []))
theorem T_checkCond6 {w0 : qW} : yCOK w0 zgf zga zra zSp zgh C_checkCond6.1 C_checkCond6.2 := yctr (bv := fun _ _ => none) (bb := fun _ => none) (ct := yctl [C_codeT, C_nextT, C_checkCond7, C_checkSum, C_checkComparison, C_checkChoice7, C_needsT]) (an := fun k pc => none) (fk := fun k pc => none) (f := 100000) zgh0 (fun _ _ _ h => by cases h) (fun _ _ h => by cases h) zSp_ok (fun w hw => yctl_ok (P := fun t c => yCOK w zgf zga zra zSp zgh t c) (ylcons (T_codeT : yCOK w zgf zga zra zSp zgh C_codeT.1 C_codeT.2) (ylcons (T_nextT : yCOK w zgf zga zra zSp zgh C_nextT.1 C_nextT.2) (ylcons (T_checkCond7 : yCOK w zgf zga zra zSp zgh C_checkCond7.1 C_checkCond7.2) (ylcons (T_checkSum : yCOK w zgf zga zra zSp zgh C_checkSum.1 C_checkSum.2) (ylcons (T_checkComparison : yCOK w zgf zga zra zSp zgh C_checkComparison.1 C_checkComparison.2) (ylcons (T_checkChoice7 : yCOK w zgf zga zra zSp zgh C_checkChoice7.1 C_checkChoice7.2) (ylcons (T_needsT : yCOK w zgf zga zra zSp zgh C_needsT.1 C_needsT.2) ylnil)))))))) (by decide +kernel)
noncomputable def C_checkChoice6 : Nat × yC := (78, (9, [(2, 8, 8), (0, 6, 6)], (0, 0, 1), [6008, 7008, 8008], [], [], [], 0, []))
theorem T_checkChoice6 {w0 : qW} : yCOK w0 zgf zga zra zSp zgh C_checkChoice6.1 C_checkChoice6.2 := yctr (bv := fun _ _ => none) (bb := fun _ => none) (ct := yctl [C_checkCond6, C_takesT]) (an := fun k pc => bif Nat.beq k 78 then (bif Nat.beq pc 8 then some ([none, none, some (0, 0, 1), some (0, 0, 2147483647)], [], [(3, (-1))]) else none) else none) (fk := fun k pc => none) (f := 100000) zgh0 (fun _ _ _ h => by cases h) (fun _ _ h => by cases h) zSp_ok (fun w hw => yctl_ok (P := fun t c => yCOK w zgf zga zra zSp zgh t c) (ylcons (T_checkCond6 : yCOK w zgf zga zra zSp zgh C_checkCond6.1 C_checkCond6.2) (ylcons (T_takesT : yCOK w zgf zga zra zSp zgh C_takesT.1 C_takesT.2) ylnil))) (by decide +kernel)
noncomputable def C_checkCond5 : Nat × yC := (79, (10, [(2, 8, 8), (0, 5, 5)], (0, 0, 1), [6008, 7008, 8008], [], [], [], 0, []))
theorem T_checkCond5 {w0 : qW} : yCOK w0 zgf zga zra zSp zgh C_checkCond5.1 C_checkCond5.2 := yctr (bv := fun _ _ => none) (bb := fun _ => none) (ct := yctl [C_codeT, C_nextT, C_checkCond6, C_checkSum, C_checkComparison, C_checkChoice6, C_needsT]) (an := fun k pc => none) (fk := fun k pc => none) (f := 100000) zgh0 (fun _ _ _ h => by cases h) (fun _ _ h => by cases h) zSp_ok (fun w hw => yctl_ok (P := fun t c => yCOK w zgf zga zra zSp zgh t c) (ylcons (T_codeT : yCOK w zgf zga zra zSp zgh C_codeT.1 C_codeT.2) (ylcons (T_nextT : yCOK w zgf zga zra zSp zgh C_nextT.1 C_nextT.2) (ylcons (T_checkCond6 : yCOK w zgf zga zra zSp zgh C_checkCond6.1 C_checkCond6.2) (ylcons (T_checkSum : yCOK w zgf zga zra zSp zgh C_checkSum.1 C_checkSum.2) (ylcons (T_checkComparison : yCOK w zgf zga zra zSp zgh C_checkComparison.1 C_checkComparison.2) (ylcons (T_checkChoice6 : yCOK w zgf zga zra zSp zgh C_checkChoice6.1 C_checkChoice6.2) (ylcons (T_needsT : yCOK w zgf zga zra zSp zgh C_needsT.1 C_needsT.2) ylnil)))))))) (by decide +kernel)
noncomputable def C_checkChoice5 : Nat × yC := (78, (11, [(2, 8, 8), (0, 5, 5)], (0, 0, 1), [6008, 7008, 8008], [], [], [], 0, []))
theorem T_checkChoice5 {w0 : qW} : yCOK w0 zgf zga zra zSp zgh C_checkChoice5.1 C_checkChoice5.2 := yctr (bv := fun _ _ => none) (bb := fun _ => none) (ct := yctl [C_checkCond5, C_takesT]) (an := fun k pc => bif Nat.beq k 78 then (bif Nat.beq pc 8 then some ([none, none, some (0, 0, 1), some (0, 0, 2147483647)], [], [(3, (-1))]) else none) else none) (fk := fun k pc => none) (f := 100000) zgh0 (fun _ _ _ h => by cases h) (fun _ _ h => by cases h) zSp_ok (fun w hw => yctl_ok (P := fun t c => yCOK w zgf zga zra zSp zgh t c) (ylcons (T_checkCond5 : yCOK w zgf zga zra zSp zgh C_checkCond5.1 C_checkCond5.2) (ylcons (T_takesT : yCOK w zgf zga zra zSp zgh C_takesT.1 C_takesT.2) ylnil))) (by decide +kernel)
noncomputable def C_checkCond4 : Nat × yC := (79, (12, [(2, 8, 8), (0, 4, 4)], (0, 0, 1), [6008, 7008, 8008], [], [], [], 0, []))
theorem T_checkCond4 {w0 : qW} : yCOK w0 zgf zga zra zSp zgh C_checkCond4.1 C_checkCond4.2 := yctr (bv := fun _ _ => none) (bb := fun _ => none) (ct := yctl [C_codeT, C_nextT, C_checkCond5, C_checkSum, C_checkComparison, C_checkChoice5, C_needsT]) (an := fun k pc => none) (fk := fun k pc => none) (f := 100000) zgh0 (fun _ _ _ h => by cases h) (fun _ _ h => by cases h) zSp_ok (fun w hw => yctl_ok (P := fun t c => yCOK w zgf zga zra zSp zgh t c) (ylcons (T_codeT : yCOK w zgf zga zra zSp zgh C_codeT.1 C_codeT.2) (ylcons (T_nextT : yCOK w zgf zga zra zSp zgh C_nextT.1 C_nextT.2) (ylcons (T_checkCond5 : yCOK w zgf zga zra zSp zgh C_checkCond5.1 C_checkCond5.2) (ylcons (T_checkSum : yCOK w zgf zga zra zSp zgh C_checkSum.1 C_checkSum.2) (ylcons (T_checkComparison : yCOK w zgf zga zra zSp zgh C_checkComparison.1 C_checkComparison.2) (ylcons (T_checkChoice5 : yCOK w zgf zga zra zSp zgh C_checkChoice5.1 C_checkChoice5.2) (ylcons (T_needsT : yCOK w zgf zga zra zSp zgh C_needsT.1 C_needsT.2) ylnil)))))))) (by decide +kernel)
noncomputable def C_checkChoice4 : Nat × yC := (78, (13, [(2, 8, 8), (0, 4, 4)], (0, 0, 1), [6008, 7008, 8008], [], [], [], 0, []))
theorem T_checkChoice4 {w0 : qW} : yCOK w0 zgf zga zra zSp zgh C_checkChoice4.1 C_checkChoice4.2 := yctr (bv := fun _ _ => none) (bb := fun _ => none) (ct := yctl [C_checkCond4, C_takesT]) (an := fun k pc => bif Nat.beq k 78 then (bif Nat.beq pc 8 then some ([none, none, some (0, 0, 1), some (0, 0, 2147483647)], [], [(3, (-1))]) else none) else none) (fk := fun k pc => none) (f := 100000) zgh0 (fun _ _ _ h => by cases h) (fun _ _ h => by cases h) zSp_ok (fun w hw => yctl_ok (P := fun t c => yCOK w zgf zga zra zSp zgh t c) (ylcons (T_checkCond4 : yCOK w zgf zga zra zSp zgh C_checkCond4.1 C_checkCond4.2) (ylcons (T_takesT : yCOK w zgf zga zra zSp zgh C_takesT.1 C_takesT.2) ylnil))) (by decide +kernel)
noncomputable def C_checkCond3 : Nat × yC := (79, (14, [(2, 8, 8), (0, 3, 3)], (0, 0, 1), [6008, 7008, 8008], [], [], [], 0, []))
theorem T_checkCond3 {w0 : qW} : yCOK w0 zgf zga zra zSp zgh C_checkCond3.1 C_checkCond3.2 := yctr (bv := fun _ _ => none) (bb := fun _ => none) (ct := yctl [C_codeT, C_nextT, C_checkCond4, C_checkSum, C_checkComparison, C_checkChoice4, C_needsT]) (an := fun k pc => none) (fk := fun k pc => none) (f := 100000) zgh0 (fun _ _ _ h => by cases h) (fun _ _ h => by cases h) zSp_ok (fun w hw => yctl_ok (P := fun t c => yCOK w zgf zga zra zSp zgh t c) (ylcons (T_codeT : yCOK w zgf zga zra zSp zgh C_codeT.1 C_codeT.2) (ylcons (T_nextT : yCOK w zgf zga zra zSp zgh C_nextT.1 C_nextT.2) (ylcons (T_checkCond4 : yCOK w zgf zga zra zSp zgh C_checkCond4.1 C_checkCond4.2) (ylcons (T_checkSum : yCOK w zgf zga zra zSp zgh C_checkSum.1 C_checkSum.2) (ylcons (T_checkComparison : yCOK w zgf zga zra zSp zgh C_checkComparison.1 C_checkComparison.2) (ylcons (T_checkChoice4 : yCOK w zgf zga zra zSp zgh C_checkChoice4.1 C_checkChoice4.2) (ylcons (T_needsT : yCOK w zgf zga zra zSp zgh C_needsT.1 C_needsT.2) ylnil)))))))) (by decide +kernel)
noncomputable def C_checkChoice3 : Nat × yC := (78, (15, [(2, 8, 8), (0, 3, 3)], (0, 0, 1), [6008, 7008, 8008], [], [], [], 0, []))
theorem T_checkChoice3 {w0 : qW} : yCOK w0 zgf zga zra zSp zgh C_checkChoice3.1 C_checkChoice3.2 := yctr (bv := fun _ _ => none) (bb := fun _ => none) (ct := yctl [C_checkCond3, C_takesT]) (an := fun k pc => bif Nat.beq k 78 then (bif Nat.beq pc 8 then some ([none, none, some (0, 0, 1), some (0, 0, 2147483647)], [], [(3, (-1))]) else none) else none) (fk := fun k pc => none) (f := 100000) zgh0 (fun _ _ _ h => by cases h) (fun _ _ h => by cases h) zSp_ok (fun w hw => yctl_ok (P := fun t c => yCOK w zgf zga zra zSp zgh t c) (ylcons (T_checkCond3 : yCOK w zgf zga zra zSp zgh C_checkCond3.1 C_checkCond3.2) (ylcons (T_takesT : yCOK w zgf zga zra zSp zgh C_takesT.1 C_takesT.2) ylnil))) (by decide +kernel)
noncomputable def C_checkCond2 : Nat × yC := (79, (16, [(2, 8, 8), (0, 2, 2)], (0, 0, 1), [6008, 7008, 8008], [], [], [], 0, []))
theorem T_checkCond2 {w0 : qW} : yCOK w0 zgf zga zra zSp zgh C_checkCond2.1 C_checkCond2.2 := yctr (bv := fun _ _ => none) (bb := fun _ => none) (ct := yctl [C_codeT, C_nextT, C_checkCond3, C_checkSum, C_checkComparison, C_checkChoice3, C_needsT]) (an := fun k pc => none) (fk := fun k pc => none) (f := 100000) zgh0 (fun _ _ _ h => by cases h) (fun _ _ h => by cases h) zSp_ok (fun w hw => yctl_ok (P := fun t c => yCOK w zgf zga zra zSp zgh t c) (ylcons (T_codeT : yCOK w zgf zga zra zSp zgh C_codeT.1 C_codeT.2) (ylcons (T_nextT : yCOK w zgf zga zra zSp zgh C_nextT.1 C_nextT.2) (ylcons (T_checkCond3 : yCOK w zgf zga zra zSp zgh C_checkCond3.1 C_checkCond3.2) (ylcons (T_checkSum : yCOK w zgf zga zra zSp zgh C_checkSum.1 C_checkSum.2) (ylcons (T_checkComparison : yCOK w zgf zga zra zSp zgh C_checkComparison.1 C_checkComparison.2) (ylcons (T_checkChoice3 : yCOK w zgf zga zra zSp zgh C_checkChoice3.1 C_checkChoice3.2) (ylcons (T_needsT : yCOK w zgf zga zra zSp zgh C_needsT.1 C_needsT.2) ylnil)))))))) (by decide +kernel)
noncomputable def C_checkChoice2 : Nat × yC := (78, (17, [(2, 8, 8), (0, 2, 2)], (0, 0, 1), [6008, 7008, 8008], [], [], [], 0, []))
theorem T_checkChoice2 {w0 : qW} : yCOK w0 zgf zga zra zSp zgh C_checkChoice2.1 C_checkChoice2.2 := yctr (bv := fun _ _ => none) (bb := fun _ => none) (ct := yctl [C_checkCond2, C_takesT]) (an := fun k pc => bif Nat.beq k 78 then (bif Nat.beq pc 8 then some ([none, none, some (0, 0, 1), some (0, 0, 2147483647)], [], [(3, (-1))]) else none) else none) (fk := fun k pc => none) (f := 100000) zgh0 (fun _ _ _ h => by cases h) (fun _ _ h => by cases h) zSp_ok (fun w hw => yctl_ok (P := fun t c => yCOK w zgf zga zra zSp zgh t c) (ylcons (T_checkCond2 : yCOK w zgf zga zra zSp zgh C_checkCond2.1 C_checkCond2.2) (ylcons (T_takesT : yCOK w zgf zga zra zSp zgh C_takesT.1 C_takesT.2) ylnil))) (by decide +kernel)
noncomputable def C_checkCond1 : Nat × yC := (79, (18, [(2, 8, 8), (0, 1, 1)], (0, 0, 1), [6008, 7008, 8008], [], [], [], 0, []))
theorem T_checkCond1 {w0 : qW} : yCOK w0 zgf zga zra zSp zgh C_checkCond1.1 C_checkCond1.2 := yctr (bv := fun _ _ => none) (bb := fun _ => none) (ct := yctl [C_codeT, C_nextT, C_checkCond2, C_checkSum, C_checkComparison, C_checkChoice2, C_needsT]) (an := fun k pc => none) (fk := fun k pc => none) (f := 100000) zgh0 (fun _ _ _ h => by cases h) (fun _ _ h => by cases h) zSp_ok (fun w hw => yctl_ok (P := fun t c => yCOK w zgf zga zra zSp zgh t c) (ylcons (T_codeT : yCOK w zgf zga zra zSp zgh C_codeT.1 C_codeT.2) (ylcons (T_nextT : yCOK w zgf zga zra zSp zgh C_nextT.1 C_nextT.2) (ylcons (T_checkCond2 : yCOK w zgf zga zra zSp zgh C_checkCond2.1 C_checkCond2.2) (ylcons (T_checkSum : yCOK w zgf zga zra zSp zgh C_checkSum.1 C_checkSum.2) (ylcons (T_checkComparison : yCOK w zgf zga zra zSp zgh C_checkComparison.1 C_checkComparison.2) (ylcons (T_checkChoice2 : yCOK w zgf zga zra zSp zgh C_checkChoice2.1 C_checkChoice2.2) (ylcons (T_needsT : yCOK w zgf zga zra zSp zgh C_needsT.1 C_needsT.2) ylnil)))))))) (by decide +kernel)
noncomputable def C_checkChoice1 : Nat × yC := (78, (19, [(2, 8, 8), (0, 1, 1)], (0, 0, 1), [6008, 7008, 8008], [], [], [], 0, []))
theorem T_checkChoice1 {w0 : qW} : yCOK w0 zgf zga zra zSp zgh C_checkChoice1.1 C_checkChoice1.2 := yctr (bv := fun _ _ => none) (bb := fun _ => none) (ct := yctl [C_checkCond1, C_takesT]) (an := fun k pc => bif Nat.beq k 78 then (bif Nat.beq pc 8 then some ([none, none, some (0, 0, 1), some (0, 0, 2147483647)], [], [(3, (-1))]) else none) else none) (fk := fun k pc => none) (f := 100000) zgh0 (fun _ _ _ h => by cases h) (fun _ _ h => by cases h) zSp_ok (fun w hw => yctl_ok (P := fun t c => yCOK w zgf zga zra zSp zgh t c) (ylcons (T_checkCond1 : yCOK w zgf zga zra zSp zgh C_checkCond1.1 C_checkCond1.2) (ylcons (T_takesT : yCOK w zgf zga zra zSp zgh C_takesT.1 C_takesT.2) ylnil))) (by decide +kernel)
noncomputable def C_checkCond0 : Nat × yC := (79, (20, [(2, 8, 8), (0, 0, 0)], (0, 0, 1), [6008, 7008, 8008], [], [], [], 0, []))
theorem T_checkCond0 {w0 : qW} : yCOK w0 zgf zga zra zSp zgh C_checkCond0.1 C_checkCond0.2 := yctr (bv := fun _ _ => none) (bb := fun _ => none) (ct := yctl [C_codeT, C_nextT, C_checkCond1, C_checkSum, C_checkComparison, C_checkChoice1, C_needsT]) (an := fun k pc => none) (fk := fun k pc => none) (f := 100000) zgh0 (fun _ _ _ h => by cases h) (fun _ _ h => by cases h) zSp_ok (fun w hw => yctl_ok (P := fun t c => yCOK w zgf zga zra zSp zgh t c) (ylcons (T_codeT : yCOK w zgf zga zra zSp zgh C_codeT.1 C_codeT.2) (ylcons (T_nextT : yCOK w zgf zga zra zSp zgh C_nextT.1 C_nextT.2) (ylcons (T_checkCond1 : yCOK w zgf zga zra zSp zgh C_checkCond1.1 C_checkCond1.2) (ylcons (T_checkSum : yCOK w zgf zga zra zSp zgh C_checkSum.1 C_checkSum.2) (ylcons (T_checkComparison : yCOK w zgf zga zra zSp zgh C_checkComparison.1 C_checkComparison.2) (ylcons (T_checkChoice1 : yCOK w zgf zga zra zSp zgh C_checkChoice1.1 C_checkChoice1.2) (ylcons (T_needsT : yCOK w zgf zga zra zSp zgh C_needsT.1 C_needsT.2) ylnil)))))))) (by decide +kernel)
noncomputable def C_checkChoice0 : Nat × yC := (78, (21, [(2, 8, 8), (0, 0, 0)], (0, 0, 1), [6008, 7008, 8008], [], [], [], 0, []))
theorem T_checkChoice0 {w0 : qW} : yCOK w0 zgf zga zra zSp zgh C_checkChoice0.1 C_checkChoice0.2 := yctr (bv := fun _ _ => none) (bb := fun _ => none) (ct := yctl [C_checkCond0, C_takesT]) (an := fun k pc => bif Nat.beq k 78 then (bif Nat.beq pc 8 then some ([none, none, some (0, 0, 1), some (0, 0, 2147483647)], [], [(3, (-1))]) else none) else none) (fk := fun k pc => none) (f := 100000) zgh0 (fun _ _ _ h => by cases h) (fun _ _ h => by cases h) zSp_ok (fun w hw => yctl_ok (P := fun t c => yCOK w zgf zga zra zSp zgh t c) (ylcons (T_checkCond0 : yCOK w zgf zga zra zSp zgh C_checkCond0.1 C_checkCond0.2) (ylcons (T_takesT : yCOK w zgf zga zra zSp zgh C_takesT.1 C_takesT.2) ylnil))) (by decide +kernel)
noncomputable def C_checkReason : Nat × yC := (77, (22, [(2, 12, 12), (2, 8, 8), (0, (-2147483648), 2147483647)], (0, 0, 1), [15, 6008, 7008, 8008], [], [], [], 0, []))
theorem T_checkReason {w0 : qW} : yCOK w0 zgf zga zra zSp zgh C_checkReason.1 C_checkReason.2 := yctr (bv := fun _ _ => none) (bb := fun _ => none) (ct := yctl [C_codeT, C_failT, C_nextT, C_needsT, C_checkChoice0]) (an := fun k pc => none) (fk := fun k pc => none) (f := 100000) zgh0 (fun _ _ _ h => by cases h) (fun _ _ h => by cases h) zSp_ok (fun w hw => yctl_ok (P := fun t c => yCOK w zgf zga zra zSp zgh t c) (ylcons (T_codeT : yCOK w zgf zga zra zSp zgh C_codeT.1 C_codeT.2) (ylcons (T_failT : yCOK w zgf zga zra zSp zgh C_failT.1 C_failT.2) (ylcons (T_nextT : yCOK w zgf zga zra zSp zgh C_nextT.1 C_nextT.2) (ylcons (T_needsT : yCOK w zgf zga zra zSp zgh C_needsT.1 C_needsT.2) (ylcons (T_checkChoice0 : yCOK w zgf zga zra zSp zgh C_checkChoice0.1 C_checkChoice0.2) ylnil)))))) (by decide +kernel)
noncomputable def C_learnP : Nat × yC := (75, (23, [(2, 12, 12), (2, 8, 8)], (0, (-1), 20), [10, 11, 13, 14, 15, 4012, 5008, 6008, 7008, 8008], [], [], [], 0, []))
theorem T_learnP {w0 : qW} : yCOK w0 zgf zga zra zSp zgh C_learnP.1 C_learnP.2 := yctr (bv := fun _ _ => none) (bb := fun _ => none) (ct := yctl [C_readTokens1, C_codeT, C_checkReason]) (an := fun k pc => bif Nat.beq k 75 then (bif Nat.beq pc 10 then some ([none, none, some (0, 0, 2147483647)], [15, 7008, 8008], [(2, (-1))]) else none) else none) (fk := fun k pc => none) (f := 100000) zgh0 (fun _ _ _ h => by cases h) (fun _ _ h => by cases h) zSp_ok (fun w hw => yctl_ok (P := fun t c => yCOK w zgf zga zra zSp zgh t c) (ylcons (T_readTokens1 : yCOK w zgf zga zra zSp zgh C_readTokens1.1 C_readTokens1.2) (ylcons (T_codeT : yCOK w zgf zga zra zSp zgh C_codeT.1 C_codeT.2) (ylcons (T_checkReason : yCOK w zgf zga zra zSp zgh C_checkReason.1 C_checkReason.2) ylnil)))) (by decide +kernel)
noncomputable def C_X_learnShow : Nat × yC := (202, (9, [(2, 1, 1), (0, 0, 3)], (0, (-1), 40), [5, 6, 10, 11, 80, 81, 84, 85, 88, 89, 92, 93, 1003, 2003, 3001, 3003, 3004, 3079, 3083, 3087, 3091, 4003, 5008, 6008, 7008, 8008], [], [], [], 0, []))
theorem T_X_learnShow {w0 : qW} : yCOK w0 zgf zga zra zSp zgh C_X_learnShow.1 C_X_learnShow.2 := yctr (bv := fun _ _ => none) (bb := fun _ => none) (ct := yctl [C_learn4, C_learn79, C_learn83, C_learn87, C_learn91]) (an := fun k pc => none) (fk := fun k pc => none) (f := 100000) zgh0 (fun _ _ _ h => by cases h) (fun _ _ h => by cases h) zSp_ok (fun w hw => yctl_ok (P := fun t c => yCOK w zgf zga zra zSp zgh t c) (ylcons (T_learn4 : yCOK w zgf zga zra zSp zgh C_learn4.1 C_learn4.2) (ylcons (T_learn79 : yCOK w zgf zga zra zSp zgh C_learn79.1 C_learn79.2) (ylcons (T_learn83 : yCOK w zgf zga zra zSp zgh C_learn83.1 C_learn83.2) (ylcons (T_learn87 : yCOK w zgf zga zra zSp zgh C_learn87.1 C_learn87.2) (ylcons (T_learn91 : yCOK w zgf zga zra zSp zgh C_learn91.1 C_learn91.2) ylnil)))))) (by decide +kernel)
end
section
/-! the class: sums: its methods end, whatever stands in the pair -/
noncomputable def C_put17 : Nat × yC := (120, (1, [(2, 17, 17), (0, (-2147483648), 2147483647)], (9, 0, 0), [18, 2017], [], [], [], 0, []))
theorem T_put17 {w0 : qW} : yCOK w0 zgf zga zra zSp zgh C_put17.1 C_put17.2 := yctr (bv := fun _ _ => none) (bb := fun _ => none) (ct := yctl []) (an := fun k pc => none) (fk := fun k pc => none) (f := 100000) zgh0 (fun _ _ _ h => by cases h) (fun _ _ h => by cases h) zSp_ok (fun w hw => yctl_ok (P := fun t c => yCOK w zgf zga zra zSp zgh t c) ylnil) (by decide +kernel)
noncomputable def C_put19 : Nat × yC := (120, (1, [(2, 19, 19), (0, (-2147483648), 2147483647)], (9, 0, 0), [20, 2019], [], [], [], 0, []))
theorem T_put19 {w0 : qW} : yCOK w0 zgf zga zra zSp zgh C_put19.1 C_put19.2 := yctr (bv := fun _ _ => none) (bb := fun _ => none) (ct := yctl []) (an := fun k pc => none) (fk := fun k pc => none) (f := 100000) zgh0 (fun _ _ _ h => by cases h) (fun _ _ h => by cases h) zSp_ok (fun w hw => yctl_ok (P := fun t c => yCOK w zgf zga zra zSp zgh t c) ylnil) (by decide +kernel)
noncomputable def C_put21 : Nat × yC := (120, (1, [(2, 21, 21), (0, (-2147483648), 2147483647)], (9, 0, 0), [22, 2021], [], [], [], 0, []))
theorem T_put21 {w0 : qW} : yCOK w0 zgf zga zra zSp zgh C_put21.1 C_put21.2 := yctr (bv := fun _ _ => none) (bb := fun _ => none) (ct := yctl []) (an := fun k pc => none) (fk := fun k pc => none) (f := 100000) zgh0 (fun _ _ _ h => by cases h) (fun _ _ h => by cases h) zSp_ok (fun w hw => yctl_ok (P := fun t c => yCOK w zgf zga zra zSp zgh t c) ylnil) (by decide +kernel)
noncomputable def C_append17 : Nat × yC := (121, (0, [(2, 17, 17), (0, (-2147483648), 2147483647)], (9, 0, 0), [18, 2017], [], [], [], 0, []))
theorem T_append17 {w0 : qW} : yCOK w0 zgf zga zra zSp zgh C_append17.1 C_append17.2 := yctr (bv := fun _ _ => none) (bb := fun _ => none) (ct := yctl []) (an := fun k pc => none) (fk := fun k pc => none) (f := 100000) zgh0 (fun _ _ _ h => by cases h) (fun _ _ h => by cases h) zSp_ok (fun w hw => yctl_ok (P := fun t c => yCOK w zgf zga zra zSp zgh t c) ylnil) (by decide +kernel)
noncomputable def C_drop17 : Nat × yC := (124, (1, [(2, 17, 17)], (9, 0, 0), [2017], [], [], [], 0, []))
theorem T_drop17 {w0 : qW} : yCOK w0 zgf zga zra zSp zgh C_drop17.1 C_drop17.2 := yctr (bv := fun _ _ => none) (bb := fun _ => none) (ct := yctl []) (an := fun k pc => bif Nat.beq k 124 then (bif Nat.beq pc 13 then some ([none, some (0, (-1), 159)], [2017], [(1, 1)]) else none) else none) (fk := fun k pc => none) (f := 100000) zgh0 (fun _ _ _ h => by cases h) (fun _ _ h => by cases h) zSp_ok (fun w hw => yctl_ok (P := fun t c => yCOK w zgf zga zra zSp zgh t c) ylnil) (by decide +kernel)
noncomputable def C_partAt17 : Nat × yC := (126, (0, [(2, 17, 17), (0, (-2147483648), 2147483647)], (0, (-2147483648), 2147483647), [], [], [], [], 0, []))
theorem T_partAt17 {w0 : qW} : yCOK w0 zgf zga zra zSp zgh C_partAt17.1 C_partAt17.2 := yctr (bv := fun _ _ => none) (bb := fun _ => none) (ct := yctl []) (an := fun k pc => none) (fk := fun k pc => none) (f := 100000) zgh0 (fun _ _ _ h => by cases h) (fun _ _ h => by cases h) zSp_ok (fun w hw => yctl_ok (P := fun t c => yCOK w zgf zga zra zSp zgh t c) ylnil) (by decide +kernel)
noncomputable def C_append19 : Nat × yC := (121, (0, [(2, 19, 19), (0, (-2147483648), 2147483647)], (9, 0, 0), [20, 2019], [], [], [], 0, []))
theorem T_append19 {w0 : qW} : yCOK w0 zgf zga zra zSp zgh C_append19.1 C_append19.2 := yctr (bv := fun _ _ => none) (bb := fun _ => none) (ct := yctl []) (an := fun k pc => none) (fk := fun k pc => none) (f := 100000) zgh0 (fun _ _ _ h => by cases h) (fun _ _ h => by cases h) zSp_ok (fun w hw => yctl_ok (P := fun t c => yCOK w zgf zga zra zSp zgh t c) ylnil) (by decide +kernel)
noncomputable def C_partAt19 : Nat × yC := (126, (0, [(2, 19, 19), (0, (-2147483648), 2147483647)], (0, (-2147483648), 2147483647), [], [], [], [], 0, []))
theorem T_partAt19 {w0 : qW} : yCOK w0 zgf zga zra zSp zgh C_partAt19.1 C_partAt19.2 := yctr (bv := fun _ _ => none) (bb := fun _ => none) (ct := yctl []) (an := fun k pc => none) (fk := fun k pc => none) (f := 100000) zgh0 (fun _ _ _ h => by cases h) (fun _ _ h => by cases h) zSp_ok (fun w hw => yctl_ok (P := fun t c => yCOK w zgf zga zra zSp zgh t c) ylnil) (by decide +kernel)
noncomputable def C_append21 : Nat × yC := (121, (0, [(2, 21, 21), (0, (-2147483648), 2147483647)], (9, 0, 0), [22, 2021], [], [], [], 0, []))
theorem T_append21 {w0 : qW} : yCOK w0 zgf zga zra zSp zgh C_append21.1 C_append21.2 := yctr (bv := fun _ _ => none) (bb := fun _ => none) (ct := yctl []) (an := fun k pc => none) (fk := fun k pc => none) (f := 100000) zgh0 (fun _ _ _ h => by cases h) (fun _ _ h => by cases h) zSp_ok (fun w hw => yctl_ok (P := fun t c => yCOK w zgf zga zra zSp zgh t c) ylnil) (by decide +kernel)
noncomputable def C_partAt21 : Nat × yC := (126, (0, [(2, 21, 21), (0, (-2147483648), 2147483647)], (0, (-2147483648), 2147483647), [], [], [], [], 0, []))
theorem T_partAt21 {w0 : qW} : yCOK w0 zgf zga zra zSp zgh C_partAt21.1 C_partAt21.2 := yctr (bv := fun _ _ => none) (bb := fun _ => none) (ct := yctl []) (an := fun k pc => none) (fk := fun k pc => none) (f := 100000) zgh0 (fun _ _ _ h => by cases h) (fun _ _ h => by cases h) zSp_ok (fun w hw => yctl_ok (P := fun t c => yCOK w zgf zga zra zSp zgh t c) ylnil) (by decide +kernel)
noncomputable def C_multiplyBy : Nat × yC := (122, (2, [(2, 17, 17), (0, (-2147483648), 2147483647)], (9, 0, 0), [18, 2017], [], [], [], 0, []))
theorem T_multiplyBy {w0 : qW} : yCOK w0 zgf zga zra zSp zgh C_multiplyBy.1 C_multiplyBy.2 := yctr (bv := fun _ _ => none) (bb := fun _ => none) (ct := yctl [C_append17, C_drop17]) (an := fun k pc => bif Nat.beq k 122 then (bif Nat.beq pc 4 then some ([none, none, some (0, (-2147483648), 2147483647), some (0, 0, 2147483647), some (0, (-2147483648), 2147483647)], [18], [(3, (-1))]) else none) else none) (fk := fun k pc => none) (f := 100000) zgh0 (fun _ _ _ h => by cases h) (fun _ _ h => by cases h) zSp_ok (fun w hw => yctl_ok (P := fun t c => yCOK w zgf zga zra zSp zgh t c) (ylcons (T_append17 : yCOK w zgf zga zra zSp zgh C_append17.1 C_append17.2) (ylcons (T_drop17 : yCOK w zgf zga zra zSp zgh C_drop17.1 C_drop17.2) ylnil))) (by decide +kernel)
noncomputable def C_divideBy : Nat × yC := (123, (2, [(2, 17, 17), (0, (-2147483648), 2147483647)], (9, 0, 0), [18, 2017], [], [], [], 0, []))
theorem T_divideBy {w0 : qW} : yCOK w0 zgf zga zra zSp zgh C_divideBy.1 C_divideBy.2 := yctr (bv := fun _ _ => none) (bb := fun _ => none) (ct := yctl [C_drop17]) (an := fun k pc => bif Nat.beq k 123 then (bif Nat.beq pc 20 then some ([none, none, some (0, (-2147483648), 2147483647), some (0, (-1), 159), some (0, (-2147483648), 2147483647)], [18], [(3, 1)]) else none) else none) (fk := fun k pc => none) (f := 100000) zgh0 (fun _ _ _ h => by cases h) (fun _ _ h => by cases h) zSp_ok (fun w hw => yctl_ok (P := fun t c => yCOK w zgf zga zra zSp zgh t c) (ylcons (T_drop17 : yCOK w zgf zga zra zSp zgh C_drop17.1 C_drop17.2) ylnil)) (by decide +kernel)
noncomputable def C_add19 : Nat × yC := (125, (1, [(2, 19, 19), (2, 17, 17)], (9, 0, 0), [20, 2019], [], [], [], 0, []))
theorem T_add19 {w0 : qW} : yCOK w0 zgf zga zra zSp zgh C_add19.1 C_add19.2 := yctr (bv := fun _ _ => none) (bb := fun _ => none) (ct := yctl [C_partAt19, C_partAt17, C_append19]) (an := fun k pc => bif Nat.beq k 125 then (bif Nat.beq pc 17 then some ([none, none, none, some (0, (-2147483648), 2147483647), some (0, 0, 2147483647), some (0, (-2147483648), 2147483647)], [20], [(4, (-1))]) else none) else none) (fk := fun k pc => none) (f := 100000) zgh0 (fun _ _ _ h => by cases h) (fun _ _ h => by cases h) zSp_ok (fun w hw => yctl_ok (P := fun t c => yCOK w zgf zga zra zSp zgh t c) (ylcons (T_partAt19 : yCOK w zgf zga zra zSp zgh C_partAt19.1 C_partAt19.2) (ylcons (T_partAt17 : yCOK w zgf zga zra zSp zgh C_partAt17.1 C_partAt17.2) (ylcons (T_append19 : yCOK w zgf zga zra zSp zgh C_append19.1 C_append19.2) ylnil)))) (by decide +kernel)
noncomputable def C_add21 : Nat × yC := (125, (1, [(2, 21, 21), (2, 17, 17)], (9, 0, 0), [22, 2021], [], [], [], 0, []))
theorem T_add21 {w0 : qW} : yCOK w0 zgf zga zra zSp zgh C_add21.1 C_add21.2 := yctr (bv := fun _ _ => none) (bb := fun _ => none) (ct := yctl [C_partAt21, C_partAt17, C_append21]) (an := fun k pc => bif Nat.beq k 125 then (bif Nat.beq pc 17 then some ([none, none, none, some (0, (-2147483648), 2147483647), some (0, 0, 2147483647), some (0, (-2147483648), 2147483647)], [22], [(4, (-1))]) else none) else none) (fk := fun k pc => none) (f := 100000) zgh0 (fun _ _ _ h => by cases h) (fun _ _ h => by cases h) zSp_ok (fun w hw => yctl_ok (P := fun t c => yCOK w zgf zga zra zSp zgh t c) (ylcons (T_partAt21 : yCOK w zgf zga zra zSp zgh C_partAt21.1 C_partAt21.2) (ylcons (T_partAt17 : yCOK w zgf zga zra zSp zgh C_partAt17.1 C_partAt17.2) (ylcons (T_append21 : yCOK w zgf zga zra zSp zgh C_append21.1 C_append21.2) ylnil)))) (by decide +kernel)
noncomputable def C_against : Nat × yC := (127, (1, [(2, 19, 19), (2, 21, 21)], (0, (-2147483648), 2147483647), [], [], [], [], 0, []))
theorem T_against {w0 : qW} : yCOK w0 zgf zga zra zSp zgh C_against.1 C_against.2 := yctr (bv := fun _ _ => none) (bb := fun _ => none) (ct := yctl [C_partAt19, C_partAt21]) (an := fun k pc => bif Nat.beq k 127 then (bif Nat.beq pc 4 then some ([none, none, some (0, (-1), 2147483647)], [], [(2, 1)]) else none) else none) (fk := fun k pc => none) (f := 100000) zgh0 (fun _ _ _ h => by cases h) (fun _ _ h => by cases h) zSp_ok (fun w hw => yctl_ok (P := fun t c => yCOK w zgf zga zra zSp zgh t c) (ylcons (T_partAt19 : yCOK w zgf zga zra zSp zgh C_partAt19.1 C_partAt19.2) (ylcons (T_partAt21 : yCOK w zgf zga zra zSp zgh C_partAt21.1 C_partAt21.2) ylnil))) (by decide +kernel)
noncomputable def C_codeP : Nat × yC := (86, (0, [(2, 12, 12)], (0, (-2147483648), 2147483647), [], [], [], [], 0, []))
theorem T_codeP {w0 : qW} : yCOK w0 zgf zga zra zSp zgh C_codeP.1 C_codeP.2 := yctr (bv := fun _ _ => none) (bb := fun _ => none) (ct := yctl []) (an := fun k pc => none) (fk := fun k pc => none) (f := 100000) zgh0 (fun _ _ _ h => by cases h) (fun _ _ h => by cases h) zSp_ok (fun w hw => yctl_ok (P := fun t c => yCOK w zgf zga zra zSp zgh t c) ylnil) (by decide +kernel)
noncomputable def C_takesP : Nat × yC := (87, (1, [(2, 12, 12), (0, (-2147483648), 2147483647)], (0, 0, 1), [5012], [], [], [], 0, []))
theorem T_takesP {w0 : qW} : yCOK w0 zgf zga zra zSp zgh C_takesP.1 C_takesP.2 := yctr (bv := fun _ _ => none) (bb := fun _ => none) (ct := yctl [C_codeP]) (an := fun k pc => none) (fk := fun k pc => none) (f := 100000) zgh0 (fun _ _ _ h => by cases h) (fun _ _ h => by cases h) zSp_ok (fun w hw => yctl_ok (P := fun t c => yCOK w zgf zga zra zSp zgh t c) (ylcons (T_codeP : yCOK w zgf zga zra zSp zgh C_codeP.1 C_codeP.2) ylnil)) (by decide +kernel)
noncomputable def C_takeUnit : Nat × yC := (92, (1, [(2, 12, 12)], (0, (-2147483648), 2147483647), [5012], [], [], [], 0, []))
theorem T_takeUnit {w0 : qW} : yCOK w0 zgf zga zra zSp zgh C_takeUnit.1 C_takeUnit.2 := yctr (bv := fun _ _ => none) (bb := fun _ => none) (ct := yctl [C_codeP]) (an := fun k pc => none) (fk := fun k pc => none) (f := 100000) zgh0 (fun _ _ _ h => by cases h) (fun _ _ h => by cases h) zSp_ok (fun w hw => yctl_ok (P := fun t c => yCOK w zgf zga zra zSp zgh t c) (ylcons (T_codeP : yCOK w zgf zga zra zSp zgh C_codeP.1 C_codeP.2) ylnil)) (by decide +kernel)
end
section
/-! addUp -/

noncomputable def M9 : List Nat := [18, 20, 22, 2017, 2019, 2021, 5012]
theorem addTo {w w1 : qW} {d : Nat} (hd : 1 ≤ d) {to : Int} (hto : to = 19 ∨ to = 21) (h : AW M9 w w1) : qG none d 125 0 (qini 125 [(2, to), (2, 17)]) [] w1 142 (fun v w' n' => v.1 = 9 ∧ AW M9 w w' ∧ n' = 142) := by
  rcases hto with rfl | rfl
  · refine qG.mono (AW.use (c := C_add19.2) (as := [(2, 19), (2, 17)]) T_add19 h hd ⟨⟨rfl, by decide, by decide⟩, ⟨rfl, by decide, by decide⟩, trivial⟩ rfl rfl (by decide +kernel)) ?_
    rintro _ w' _ ⟨x, rfl, -, -, hA, rfl, -⟩
    exact ⟨rfl, hA, rfl⟩
  · refine qG.mono (AW.use (c := C_add21.2) (as := [(2, 21), (2, 17)]) T_add21 h hd ⟨⟨rfl, by decide, by decide⟩, ⟨rfl, by decide, by decide⟩, trivial⟩ rfl rfl (by decide +kernel)) ?_
    rintro _ w' _ ⟨x, rfl, -, -, hA, rfl, -⟩
    exact ⟨rfl, hA, rfl⟩
theorem K_addUp19 {d : Nat} (hd : 6 ≤ d) (w : qW) (hI : yInv zgf zga zra zSp w) : qG none d 91 0 [(2, 12), (2, 19), (2, 21), (9, 0), (9, 0)] [] w 142 (fun (v : qV) (w1 : qW) (n1 : Nat) => v = (9, 0) ∧ n1 = 142 ∧ AW M9 w w1) := by
  generalize hQ9 : (fun (v : qV) (w1 : qW) (n1 : Nat) => v = (9, 0) ∧ n1 = 142 ∧ AW M9 w w1) = Q9
  have hA0 : AW M9 w w := AW.rf hI
  obtain ⟨N6, hN6⟩ : ∃ N : Int, N = 601 := ⟨_, rfl⟩
  obtain ⟨d, rfl⟩ : ∃ d9, d = d9 + 1 := ⟨d - 1, by omega⟩
  refine qG.blk 4 (pc' := 6) (ls' := [(2, 12), (2, 19), (2, 21), (2, 19), (9, 0)]) (st' := [(2, w 12 8)]) (w' := w) (n' := 142) rfl ?_
  rw [show w 12 8 = 17 from zref hI rfl rfl]
  refine qG.blk 1 (pc' := 7) (ls' := [(2, 12), (2, 19), (2, 21), (2, 19), (9, 0)]) (st' := [(2, 12), (2, 17)]) (w' := w) (n' := 142) rfl ?_
  refine qG.call (t := 92) (na := 1) (sk := 1) (md := 1) (ls1 := [(2, 12), (9, 0), (9, 0), (9, 0)]) (r1 := [(2, 17)]) rfl rfl rfl rfl rfl (AW.use (c := C_takeUnit.2) (as := [(2, 12)]) T_takeUnit hA0 (show 1 ≤ d by omega) ⟨⟨rfl, by decide, by decide⟩, trivial⟩ rfl rfl (by decide +kernel)) ?_
  rintro _ w1 _ ⟨x1, rfl, hl1, hu1, hA1, rfl, hB1⟩
  have hl1 : ((-2147483648) : Int) ≤ x1 := hl1
  have hu1 : x1 ≤ (2147483647 : Int) := hu1
  show qG none (d + 1) 91 10 [(2, 12), (2, 19), (2, 21), (2, 19), (9, 0)] [(0, x1), (2, 17)] w1 142 Q9
  refine qG.call (t := 120) (na := 2) (sk := 1) (md := 1) (ls1 := [(2, 17), (0, x1)]) (r1 := []) rfl rfl rfl rfl rfl (AW.use (c := C_put17.2) (as := [(2, 17), (0, x1)]) T_put17 hA1 (show 1 ≤ d by omega) ⟨⟨rfl, by decide, by decide⟩, ⟨rfl, by omega, by omega⟩, trivial⟩ rfl rfl (by decide +kernel)) ?_
  rintro _ w2 _ ⟨x2, rfl, hl2, hu2, hA2, rfl, hB2⟩
  show qG none (d + 1) 91 13 [(2, 12), (2, 19), (2, 21), (2, 19), (9, 0)] [] w2 142 Q9
  refine qG.blk 2 (pc' := 16) (ls' := [(2, 12), (2, 19), (2, 21), (2, 19), (0, 0)]) (st' := []) (w' := w2) (n' := 142) rfl ?_
  have L16 : ∀ (m9 : Nat) (i : Nat) (to : Int) (wL : qW), 601 - i = m9 → (i ≤ 601 ∧ (to = 19 ∨ to = 21) ∧ AW M9 w wL) → qG none (d + 1) 91 16 [(2, 12), (2, 19), (2, 21), (2, to), (0, ((i : Nat) : Int))] [] wL 142 Q9 := by
    intro m9
    induction m9 using Nat.strongRecOn with
    | ind m9 ih16 =>
    intro i to wL hm16 hI16
    have hto := hI16.2.1
    refine qG.blk 2 (pc' := 21) (ls' := [(2, 12), (2, 19), (2, 21), (2, to), (0, ((i : Nat) : Int))]) (st' := [(0, 601), (0, ((i : Nat) : Int))]) (w' := wL) (n' := 142) rfl ?_
    rw [show (601 : Int) = N6 from hN6.symm]
    refine qG.br (P := ((i : Nat) : Int) < N6) (pc1 := 24) (pc2 := 134) (st1 := []) rfl (fun h3 => ?_) (fun h3 => ?_)
    · skip
      refine qG.blk 2 (pc' := 28) (ls' := [(2, 12), (2, 19), (2, 21), (2, to), (0, ((i : Nat) : Int))]) (st' := [(0, 20042), (2, 12)]) (w' := wL) (n' := 142) rfl ?_
      refine qG.call (t := 87) (na := 2) (sk := 1) (md := 1) (ls1 := [(2, 12), (0, 20042)]) (r1 := []) rfl rfl rfl rfl rfl (AW.use (c := C_takesP.2) (as := [(2, 12), (0, 20042)]) T_takesP hI16.2.2 (show 1 ≤ d by omega) ⟨⟨rfl, by decide, by decide⟩, ⟨rfl, by decide, by decide⟩, trivial⟩ rfl rfl (by decide +kernel)) ?_
      rintro _ w4 _ ⟨x4, rfl, hl4, hu4, hA4, rfl, hB4⟩
      have hl4 : (0 : Int) ≤ x4 := hl4
      have hu4 : x4 ≤ (1 : Int) := hu4
      show qG none (d + 1) 91 31 [(2, 12), (2, 19), (2, 21), (2, to), (0, ((i : Nat) : Int))] [(0, x4)] w4 142 Q9
      refine qG.br (P := x4 = 0) (pc1 := 48) (pc2 := 34) (st1 := []) rfl (fun h5 => ?_) (fun h5 => ?_)
      · skip
        refine qG.blk 2 (pc' := 52) (ls' := [(2, 12), (2, 19), (2, 21), (2, to), (0, ((i : Nat) : Int))]) (st' := [(0, 20047), (2, 12)]) (w' := w4) (n' := 142) rfl ?_
        refine qG.call (t := 87) (na := 2) (sk := 1) (md := 1) (ls1 := [(2, 12), (0, 20047)]) (r1 := []) rfl rfl rfl rfl rfl (AW.use (c := C_takesP.2) (as := [(2, 12), (0, 20047)]) T_takesP hA4 (show 1 ≤ d by omega) ⟨⟨rfl, by decide, by decide⟩, ⟨rfl, by decide, by decide⟩, trivial⟩ rfl rfl (by decide +kernel)) ?_
        rintro _ w6 _ ⟨x6, rfl, hl6, hu6, hA6, rfl, hB6⟩
        have hl6 : (0 : Int) ≤ x6 := hl6
        have hu6 : x6 ≤ (1 : Int) := hu6
        show qG none (d + 1) 91 55 [(2, 12), (2, 19), (2, 21), (2, to), (0, ((i : Nat) : Int))] [(0, x6)] w6 142 Q9
        refine qG.br (P := x6 = 0) (pc1 := 72) (pc2 := 58) (st1 := []) rfl (fun h7 => ?_) (fun h7 => ?_)
        · skip
          refine qG.blk 3 (pc' := 77) (ls' := [(2, 12), (2, 19), (2, 21), (2, to), (0, ((i : Nat) : Int))]) (st' := [(2, w6 12 8), (2, to)]) (w' := w6) (n' := 142) rfl ?_
          rw [show w6 12 8 = 17 from zref hA6.1 rfl rfl]
          refine qG.call (t := 125) (na := 2) (sk := 1) (md := 1) (ls1 := [(2, to), (2, 17), (9, 0), (9, 0), (9, 0), (9, 0)]) (r1 := []) rfl rfl (by rcases hto with rfl | rfl <;> rfl) rfl rfl (addTo (by omega) hto hA6) ?_
          rintro ⟨q8, x8⟩ w8 _ ⟨rfl, hA8, rfl⟩
          show qG none (d + 1) 91 80 [(2, 12), (2, 19), (2, 21), (2, to), (0, ((i : Nat) : Int))] [] w8 142 Q9
          refine qG.blk 1 (pc' := 81) (ls' := [(2, 12), (2, 19), (2, 21), (2, to), (0, ((i : Nat) : Int))]) (st' := [(2, 12)]) (w' := w8) (n' := 142) rfl ?_
          refine qG.call (t := 86) (na := 1) (sk := 1) (md := 1) (ls1 := [(2, 12)]) (r1 := []) rfl rfl rfl rfl rfl (AW.use (c := C_codeP.2) (as := [(2, 12)]) T_codeP hA8 (show 0 ≤ d by omega) ⟨⟨rfl, by decide, by decide⟩, trivial⟩ rfl rfl (by decide +kernel)) ?_
          rintro _ w9 _ ⟨x9, rfl, hl9, hu9, hA9, rfl, hB9⟩
          have hl9 : ((-2147483648) : Int) ≤ x9 := hl9
          have hu9 : x9 ≤ (2147483647 : Int) := hu9
          show qG none (d + 1) 91 84 [(2, 12), (2, 19), (2, 21), (2, to), (0, ((i : Nat) : Int))] [(0, x9)] w9 142 Q9
          refine qG.blk 1 (pc' := 87) (ls' := [(2, 12), (2, 19), (2, 21), (2, to), (0, ((i : Nat) : Int))]) (st' := [(0, 20043), (0, x9)]) (w' := w9) (n' := 142) rfl ?_
          refine qG.br (P := x9 = 20043) (pc1 := 90) (pc2 := 94) (st1 := []) rfl (fun h10 => ?_) (fun h10 => ?_)
          · skip
            refine qG.blk 5 (pc' := 100) (ls' := [(2, 12), (2, 19), (2, 21), (2, 19), (0, ((i : Nat) : Int))]) (st' := [(0, 20043), (2, 12)]) (w' := w9) (n' := 142) rfl ?_
            refine qG.call (t := 87) (na := 2) (sk := 1) (md := 1) (ls1 := [(2, 12), (0, 20043)]) (r1 := []) rfl rfl rfl rfl rfl (AW.use (c := C_takesP.2) (as := [(2, 12), (0, 20043)]) T_takesP hA9 (show 1 ≤ d by omega) ⟨⟨rfl, by decide, by decide⟩, ⟨rfl, by decide, by decide⟩, trivial⟩ rfl rfl (by decide +kernel)) ?_
            rintro _ w11 _ ⟨x11, rfl, hl11, hu11, hA11, rfl, hB11⟩
            have hl11 : (0 : Int) ≤ x11 := hl11
            have hu11 : x11 ≤ (1 : Int) := hu11
            show qG none (d + 1) 91 103 [(2, 12), (2, 19), (2, 21), (2, 19), (0, ((i : Nat) : Int))] [(0, x11)] w11 142 Q9
            refine qG.br (P := x11 = 0) (pc1 := 106) (pc2 := 117) (st1 := []) rfl (fun h12 => ?_) (fun h12 => ?_)
            · skip
              refine qG.blk 2 (pc' := 110) (ls' := [(2, 12), (2, 19), (2, 21), (2, 19), (0, ((i : Nat) : Int))]) (st' := [(0, 20045), (2, 12)]) (w' := w11) (n' := 142) rfl ?_
              refine qG.call (t := 87) (na := 2) (sk := 1) (md := 1) (ls1 := [(2, 12), (0, 20045)]) (r1 := []) rfl rfl rfl rfl rfl (AW.use (c := C_takesP.2) (as := [(2, 12), (0, 20045)]) T_takesP hA11 (show 1 ≤ d by omega) ⟨⟨rfl, by decide, by decide⟩, ⟨rfl, by decide, by decide⟩, trivial⟩ rfl rfl (by decide +kernel)) ?_
              rintro _ w13 _ ⟨x13, rfl, hl13, hu13, hA13, rfl, hB13⟩
              have hl13 : (0 : Int) ≤ x13 := hl13
              have hu13 : x13 ≤ (1 : Int) := hu13
              show qG none (d + 1) 91 113 [(2, 12), (2, 19), (2, 21), (2, 19), (0, ((i : Nat) : Int))] [(0, x13)] w13 142 Q9
              refine qG.br (P := x13 = 0) (pc1 := 116) (pc2 := 117) (st1 := []) rfl (fun h14 => ?_) (fun h14 => ?_)
              · skip
                refine qG.retv rfl rfl ?_
                subst hQ9
                exact ⟨rfl, rfl, hA13⟩
              · skip
                refine qG.blk 2 (pc' := 121) (ls' := [(2, 12), (2, 19), (2, 21), (2, 19), (0, ((i : Nat) : Int))]) (st' := [(2, w13 12 8)]) (w' := w13) (n' := 142) rfl ?_
                rw [show w13 12 8 = 17 from zref hA13.1 rfl rfl]
                refine qG.blk 1 (pc' := 122) (ls' := [(2, 12), (2, 19), (2, 21), (2, 19), (0, ((i : Nat) : Int))]) (st' := [(2, 12), (2, 17)]) (w' := w13) (n' := 142) rfl ?_
                refine qG.call (t := 92) (na := 1) (sk := 1) (md := 1) (ls1 := [(2, 12), (9, 0), (9, 0), (9, 0)]) (r1 := [(2, 17)]) rfl rfl rfl rfl rfl (AW.use (c := C_takeUnit.2) (as := [(2, 12)]) T_takeUnit hA13 (show 1 ≤ d by omega) ⟨⟨rfl, by decide, by decide⟩, trivial⟩ rfl rfl (by decide +kernel)) ?_
                rintro _ w15 _ ⟨x15, rfl, hl15, hu15, hA15, rfl, hB15⟩
                have hl15 : ((-2147483648) : Int) ≤ x15 := hl15
                have hu15 : x15 ≤ (2147483647 : Int) := hu15
                show qG none (d + 1) 91 125 [(2, 12), (2, 19), (2, 21), (2, 19), (0, ((i : Nat) : Int))] [(0, x15), (2, 17)] w15 142 Q9
                refine qG.call (t := 120) (na := 2) (sk := 1) (md := 1) (ls1 := [(2, 17), (0, x15)]) (r1 := []) rfl rfl rfl rfl rfl (AW.use (c := C_put17.2) (as := [(2, 17), (0, x15)]) T_put17 hA15 (show 1 ≤ d by omega) ⟨⟨rfl, by decide, by decide⟩, ⟨rfl, by omega, by omega⟩, trivial⟩ rfl rfl (by decide +kernel)) ?_
                rintro _ w16 _ ⟨x16, rfl, hl16, hu16, hA16, rfl, hB16⟩
                show qG none (d + 1) 91 128 [(2, 12), (2, 19), (2, 21), (2, 19), (0, ((i : Nat) : Int))] [] w16 142 Q9
                refine qG.blk 1 (pc' := 131) (ls' := [(2, 12), (2, 19), (2, 21), (2, 19), (0, wrp (((i : Nat) : Int) + 1))]) (st' := []) (w' := w16) (n' := 142) rfl ?_
                rw [show wrp (((i : Nat) : Int) + 1) = ((i + 1 : Nat) : Int) from wrp_id (by omega) (by omega)]
                refine qG.blk 1 (pc' := 16) (ls' := [(2, 12), (2, 19), (2, 21), (2, 19), (0, ((i + 1 : Nat) : Int))]) (st' := []) (w' := w16) (n' := 142) rfl ?_
                exact ih16 _ (by omega) (i + 1) (19) (w16) rfl (⟨by omega, by first | exact .inl rfl | exact .inr rfl | exact hto, hA16⟩)
            · skip
              refine qG.blk 2 (pc' := 121) (ls' := [(2, 12), (2, 19), (2, 21), (2, 19), (0, ((i : Nat) : Int))]) (st' := [(2, w11 12 8)]) (w' := w11) (n' := 142) rfl ?_
              rw [show w11 12 8 = 17 from zref hA11.1 rfl rfl]
              refine qG.blk 1 (pc' := 122) (ls' := [(2, 12), (2, 19), (2, 21), (2, 19), (0, ((i : Nat) : Int))]) (st' := [(2, 12), (2, 17)]) (w' := w11) (n' := 142) rfl ?_
              refine qG.call (t := 92) (na := 1) (sk := 1) (md := 1) (ls1 := [(2, 12), (9, 0), (9, 0), (9, 0)]) (r1 := [(2, 17)]) rfl rfl rfl rfl rfl (AW.use (c := C_takeUnit.2) (as := [(2, 12)]) T_takeUnit hA11 (show 1 ≤ d by omega) ⟨⟨rfl, by decide, by decide⟩, trivial⟩ rfl rfl (by decide +kernel)) ?_
              rintro _ w17 _ ⟨x17, rfl, hl17, hu17, hA17, rfl, hB17⟩
              have hl17 : ((-2147483648) : Int) ≤ x17 := hl17
              have hu17 : x17 ≤ (2147483647 : Int) := hu17
              show qG none (d + 1) 91 125 [(2, 12), (2, 19), (2, 21), (2, 19), (0, ((i : Nat) : Int))] [(0, x17), (2, 17)] w17 142 Q9
              refine qG.call (t := 120) (na := 2) (sk := 1) (md := 1) (ls1 := [(2, 17), (0, x17)]) (r1 := []) rfl rfl rfl rfl rfl (AW.use (c := C_put17.2) (as := [(2, 17), (0, x17)]) T_put17 hA17 (show 1 ≤ d by omega) ⟨⟨rfl, by decide, by decide⟩, ⟨rfl, by omega, by omega⟩, trivial⟩ rfl rfl (by decide +kernel)) ?_
              rintro _ w18 _ ⟨x18, rfl, hl18, hu18, hA18, rfl, hB18⟩
              show qG none (d + 1) 91 128 [(2, 12), (2, 19), (2, 21), (2, 19), (0, ((i : Nat) : Int))] [] w18 142 Q9
              refine qG.blk 1 (pc' := 131) (ls' := [(2, 12), (2, 19), (2, 21), (2, 19), (0, wrp (((i : Nat) : Int) + 1))]) (st' := []) (w' := w18) (n' := 142) rfl ?_
              rw [show wrp (((i : Nat) : Int) + 1) = ((i + 1 : Nat) : Int) from wrp_id (by omega) (by omega)]
              refine qG.blk 1 (pc' := 16) (ls' := [(2, 12), (2, 19), (2, 21), (2, 19), (0, ((i + 1 : Nat) : Int))]) (st' := []) (w' := w18) (n' := 142) rfl ?_
              exact ih16 _ (by omega) (i + 1) (19) (w18) rfl (⟨by omega, by first | exact .inl rfl | exact .inr rfl | exact hto, hA18⟩)
          · skip
            refine qG.blk 4 (pc' := 100) (ls' := [(2, 12), (2, 19), (2, 21), (2, 21), (0, ((i : Nat) : Int))]) (st' := [(0, 20043), (2, 12)]) (w' := w9) (n' := 142) rfl ?_
            refine qG.call (t := 87) (na := 2) (sk := 1) (md := 1) (ls1 := [(2, 12), (0, 20043)]) (r1 := []) rfl rfl rfl rfl rfl (AW.use (c := C_takesP.2) (as := [(2, 12), (0, 20043)]) T_takesP hA9 (show 1 ≤ d by omega) ⟨⟨rfl, by decide, by decide⟩, ⟨rfl, by decide, by decide⟩, trivial⟩ rfl rfl (by decide +kernel)) ?_
            rintro _ w19 _ ⟨x19, rfl, hl19, hu19, hA19, rfl, hB19⟩
            have hl19 : (0 : Int) ≤ x19 := hl19
            have hu19 : x19 ≤ (1 : Int) := hu19
            show qG none (d + 1) 91 103 [(2, 12), (2, 19), (2, 21), (2, 21), (0, ((i : Nat) : Int))] [(0, x19)] w19 142 Q9
            refine qG.br (P := x19 = 0) (pc1 := 106) (pc2 := 117) (st1 := []) rfl (fun h20 => ?_) (fun h20 => ?_)
            · skip
              refine qG.blk 2 (pc' := 110) (ls' := [(2, 12), (2, 19), (2, 21), (2, 21), (0, ((i : Nat) : Int))]) (st' := [(0, 20045), (2, 12)]) (w' := w19) (n' := 142) rfl ?_
              refine qG.call (t := 87) (na := 2) (sk := 1) (md := 1) (ls1 := [(2, 12), (0, 20045)]) (r1 := []) rfl rfl rfl rfl rfl (AW.use (c := C_takesP.2) (as := [(2, 12), (0, 20045)]) T_takesP hA19 (show 1 ≤ d by omega) ⟨⟨rfl, by decide, by decide⟩, ⟨rfl, by decide, by decide⟩, trivial⟩ rfl rfl (by decide +kernel)) ?_
              rintro _ w21 _ ⟨x21, rfl, hl21, hu21, hA21, rfl, hB21⟩
              have hl21 : (0 : Int) ≤ x21 := hl21
              have hu21 : x21 ≤ (1 : Int) := hu21
              show qG none (d + 1) 91 113 [(2, 12), (2, 19), (2, 21), (2, 21), (0, ((i : Nat) : Int))] [(0, x21)] w21 142 Q9
              refine qG.br (P := x21 = 0) (pc1 := 116) (pc2 := 117) (st1 := []) rfl (fun h22 => ?_) (fun h22 => ?_)
              · skip
                refine qG.retv rfl rfl ?_
                subst hQ9
                exact ⟨rfl, rfl, hA21⟩
              · skip
                refine qG.blk 2 (pc' := 121) (ls' := [(2, 12), (2, 19), (2, 21), (2, 21), (0, ((i : Nat) : Int))]) (st' := [(2, w21 12 8)]) (w' := w21) (n' := 142) rfl ?_
                rw [show w21 12 8 = 17 from zref hA21.1 rfl rfl]
                refine qG.blk 1 (pc' := 122) (ls' := [(2, 12), (2, 19), (2, 21), (2, 21), (0, ((i : Nat) : Int))]) (st' := [(2, 12), (2, 17)]) (w' := w21) (n' := 142) rfl ?_
                refine qG.call (t := 92) (na := 1) (sk := 1) (md := 1) (ls1 := [(2, 12), (9, 0), (9, 0), (9, 0)]) (r1 := [(2, 17)]) rfl rfl rfl rfl rfl (AW.use (c := C_takeUnit.2) (as := [(2, 12)]) T_takeUnit hA21 (show 1 ≤ d by omega) ⟨⟨rfl, by decide, by decide⟩, trivial⟩ rfl rfl (by decide +kernel)) ?_
                rintro _ w23 _ ⟨x23, rfl, hl23, hu23, hA23, rfl, hB23⟩
                have hl23 : ((-2147483648) : Int) ≤ x23 := hl23
                have hu23 : x23 ≤ (2147483647 : Int) := hu23
                show qG none (d + 1) 91 125 [(2, 12), (2, 19), (2, 21), (2, 21), (0, ((i : Nat) : Int))] [(0, x23), (2, 17)] w23 142 Q9
                refine qG.call (t := 120) (na := 2) (sk := 1) (md := 1) (ls1 := [(2, 17), (0, x23)]) (r1 := []) rfl rfl rfl rfl rfl (AW.use (c := C_put17.2) (as := [(2, 17), (0, x23)]) T_put17 hA23 (show 1 ≤ d by omega) ⟨⟨rfl, by decide, by decide⟩, ⟨rfl, by omega, by omega⟩, trivial⟩ rfl rfl (by decide +kernel)) ?_
                rintro _ w24 _ ⟨x24, rfl, hl24, hu24, hA24, rfl, hB24⟩
                show qG none (d + 1) 91 128 [(2, 12), (2, 19), (2, 21), (2, 21), (0, ((i : Nat) : Int))] [] w24 142 Q9
                refine qG.blk 1 (pc' := 131) (ls' := [(2, 12), (2, 19), (2, 21), (2, 21), (0, wrp (((i : Nat) : Int) + 1))]) (st' := []) (w' := w24) (n' := 142) rfl ?_
                rw [show wrp (((i : Nat) : Int) + 1) = ((i + 1 : Nat) : Int) from wrp_id (by omega) (by omega)]
                refine qG.blk 1 (pc' := 16) (ls' := [(2, 12), (2, 19), (2, 21), (2, 21), (0, ((i + 1 : Nat) : Int))]) (st' := []) (w' := w24) (n' := 142) rfl ?_
                exact ih16 _ (by omega) (i + 1) (21) (w24) rfl (⟨by omega, by first | exact .inl rfl | exact .inr rfl | exact hto, hA24⟩)
            · skip
              refine qG.blk 2 (pc' := 121) (ls' := [(2, 12), (2, 19), (2, 21), (2, 21), (0, ((i : Nat) : Int))]) (st' := [(2, w19 12 8)]) (w' := w19) (n' := 142) rfl ?_
              rw [show w19 12 8 = 17 from zref hA19.1 rfl rfl]
              refine qG.blk 1 (pc' := 122) (ls' := [(2, 12), (2, 19), (2, 21), (2, 21), (0, ((i : Nat) : Int))]) (st' := [(2, 12), (2, 17)]) (w' := w19) (n' := 142) rfl ?_
              refine qG.call (t := 92) (na := 1) (sk := 1) (md := 1) (ls1 := [(2, 12), (9, 0), (9, 0), (9, 0)]) (r1 := [(2, 17)]) rfl rfl rfl rfl rfl (AW.use (c := C_takeUnit.2) (as := [(2, 12)]) T_takeUnit hA19 (show 1 ≤ d by omega) ⟨⟨rfl, by decide, by decide⟩, trivial⟩ rfl rfl (by decide +kernel)) ?_
              rintro _ w25 _ ⟨x25, rfl, hl25, hu25, hA25, rfl, hB25⟩
              have hl25 : ((-2147483648) : Int) ≤ x25 := hl25
              have hu25 : x25 ≤ (2147483647 : Int) := hu25
              show qG none (d + 1) 91 125 [(2, 12), (2, 19), (2, 21), (2, 21), (0, ((i : Nat) : Int))] [(0, x25), (2, 17)] w25 142 Q9
              refine qG.call (t := 120) (na := 2) (sk := 1) (md := 1) (ls1 := [(2, 17), (0, x25)]) (r1 := []) rfl rfl rfl rfl rfl (AW.use (c := C_put17.2) (as := [(2, 17), (0, x25)]) T_put17 hA25 (show 1 ≤ d by omega) ⟨⟨rfl, by decide, by decide⟩, ⟨rfl, by omega, by omega⟩, trivial⟩ rfl rfl (by decide +kernel)) ?_
              rintro _ w26 _ ⟨x26, rfl, hl26, hu26, hA26, rfl, hB26⟩
              show qG none (d + 1) 91 128 [(2, 12), (2, 19), (2, 21), (2, 21), (0, ((i : Nat) : Int))] [] w26 142 Q9
              refine qG.blk 1 (pc' := 131) (ls' := [(2, 12), (2, 19), (2, 21), (2, 21), (0, wrp (((i : Nat) : Int) + 1))]) (st' := []) (w' := w26) (n' := 142) rfl ?_
              rw [show wrp (((i : Nat) : Int) + 1) = ((i + 1 : Nat) : Int) from wrp_id (by omega) (by omega)]
              refine qG.blk 1 (pc' := 16) (ls' := [(2, 12), (2, 19), (2, 21), (2, 21), (0, ((i + 1 : Nat) : Int))]) (st' := []) (w' := w26) (n' := 142) rfl ?_
              exact ih16 _ (by omega) (i + 1) (21) (w26) rfl (⟨by omega, by first | exact .inl rfl | exact .inr rfl | exact hto, hA26⟩)
        · skip
          refine qG.blk 2 (pc' := 62) (ls' := [(2, 12), (2, 19), (2, 21), (2, to), (0, ((i : Nat) : Int))]) (st' := [(2, w6 12 8)]) (w' := w6) (n' := 142) rfl ?_
          rw [show w6 12 8 = 17 from zref hA6.1 rfl rfl]
          refine qG.blk 1 (pc' := 63) (ls' := [(2, 12), (2, 19), (2, 21), (2, to), (0, ((i : Nat) : Int))]) (st' := [(2, 12), (2, 17)]) (w' := w6) (n' := 142) rfl ?_
          refine qG.call (t := 92) (na := 1) (sk := 1) (md := 1) (ls1 := [(2, 12), (9, 0), (9, 0), (9, 0)]) (r1 := [(2, 17)]) rfl rfl rfl rfl rfl (AW.use (c := C_takeUnit.2) (as := [(2, 12)]) T_takeUnit hA6 (show 1 ≤ d by omega) ⟨⟨rfl, by decide, by decide⟩, trivial⟩ rfl rfl (by decide +kernel)) ?_
          rintro _ w27 _ ⟨x27, rfl, hl27, hu27, hA27, rfl, hB27⟩
          have hl27 : ((-2147483648) : Int) ≤ x27 := hl27
          have hu27 : x27 ≤ (2147483647 : Int) := hu27
          show qG none (d + 1) 91 66 [(2, 12), (2, 19), (2, 21), (2, to), (0, ((i : Nat) : Int))] [(0, x27), (2, 17)] w27 142 Q9
          refine qG.call (t := 123) (na := 2) (sk := 1) (md := 1) (ls1 := [(2, 17), (0, x27), (9, 0), (9, 0), (9, 0)]) (r1 := []) rfl rfl rfl rfl rfl (AW.use (c := C_divideBy.2) (as := [(2, 17), (0, x27)]) T_divideBy hA27 (show 2 ≤ d by omega) ⟨⟨rfl, by decide, by decide⟩, ⟨rfl, by omega, by omega⟩, trivial⟩ rfl rfl (by decide +kernel)) ?_
          rintro _ w28 _ ⟨x28, rfl, hl28, hu28, hA28, rfl, hB28⟩
          show qG none (d + 1) 91 69 [(2, 12), (2, 19), (2, 21), (2, to), (0, ((i : Nat) : Int))] [] w28 142 Q9
          refine qG.blk 2 (pc' := 131) (ls' := [(2, 12), (2, 19), (2, 21), (2, to), (0, wrp (((i : Nat) : Int) + 1))]) (st' := []) (w' := w28) (n' := 142) rfl ?_
          rw [show wrp (((i : Nat) : Int) + 1) = ((i + 1 : Nat) : Int) from wrp_id (by omega) (by omega)]
          refine qG.blk 1 (pc' := 16) (ls' := [(2, 12), (2, 19), (2, 21), (2, to), (0, ((i + 1 : Nat) : Int))]) (st' := []) (w' := w28) (n' := 142) rfl ?_
          exact ih16 _ (by omega) (i + 1) (to) (w28) rfl (⟨by omega, by first | exact .inl rfl | exact .inr rfl | exact hto, hA28⟩)
      · skip
        refine qG.blk 2 (pc' := 38) (ls' := [(2, 12), (2, 19), (2, 21), (2, to), (0, ((i : Nat) : Int))]) (st' := [(2, w4 12 8)]) (w' := w4) (n' := 142) rfl ?_
        rw [show w4 12 8 = 17 from zref hA4.1 rfl rfl]
        refine qG.blk 1 (pc' := 39) (ls' := [(2, 12), (2, 19), (2, 21), (2, to), (0, ((i : Nat) : Int))]) (st' := [(2, 12), (2, 17)]) (w' := w4) (n' := 142) rfl ?_
        refine qG.call (t := 92) (na := 1) (sk := 1) (md := 1) (ls1 := [(2, 12), (9, 0), (9, 0), (9, 0)]) (r1 := [(2, 17)]) rfl rfl rfl rfl rfl (AW.use (c := C_takeUnit.2) (as := [(2, 12)]) T_takeUnit hA4 (show 1 ≤ d by omega) ⟨⟨rfl, by decide, by decide⟩, trivial⟩ rfl rfl (by decide +kernel)) ?_
        rintro _ w29 _ ⟨x29, rfl, hl29, hu29, hA29, rfl, hB29⟩
        have hl29 : ((-2147483648) : Int) ≤ x29 := hl29
        have hu29 : x29 ≤ (2147483647 : Int) := hu29
        show qG none (d + 1) 91 42 [(2, 12), (2, 19), (2, 21), (2, to), (0, ((i : Nat) : Int))] [(0, x29), (2, 17)] w29 142 Q9
        refine qG.call (t := 122) (na := 2) (sk := 1) (md := 1) (ls1 := [(2, 17), (0, x29), (9, 0), (9, 0), (9, 0)]) (r1 := []) rfl rfl rfl rfl rfl (AW.use (c := C_multiplyBy.2) (as := [(2, 17), (0, x29)]) T_multiplyBy hA29 (show 2 ≤ d by omega) ⟨⟨rfl, by decide, by decide⟩, ⟨rfl, by omega, by omega⟩, trivial⟩ rfl rfl (by decide +kernel)) ?_
        rintro _ w30 _ ⟨x30, rfl, hl30, hu30, hA30, rfl, hB30⟩
        show qG none (d + 1) 91 45 [(2, 12), (2, 19), (2, 21), (2, to), (0, ((i : Nat) : Int))] [] w30 142 Q9
        refine qG.blk 2 (pc' := 131) (ls' := [(2, 12), (2, 19), (2, 21), (2, to), (0, wrp (((i : Nat) : Int) + 1))]) (st' := []) (w' := w30) (n' := 142) rfl ?_
        rw [show wrp (((i : Nat) : Int) + 1) = ((i + 1 : Nat) : Int) from wrp_id (by omega) (by omega)]
        refine qG.blk 1 (pc' := 16) (ls' := [(2, 12), (2, 19), (2, 21), (2, to), (0, ((i + 1 : Nat) : Int))]) (st' := []) (w' := w30) (n' := 142) rfl ?_
        exact ih16 _ (by omega) (i + 1) (to) (w30) rfl (⟨by omega, by first | exact .inl rfl | exact .inr rfl | exact hto, hA30⟩)
    · skip
      refine qG.retv rfl rfl ?_
      subst hQ9
      exact ⟨rfl, rfl, hI16.2.2⟩
  exact L16 _ (0) (19) (w2) rfl (⟨by omega, by decide, hA2⟩)
noncomputable def C_addUp19 : Nat × yC := (91, (6, [(2, 12, 12), (2, 19, 19), (2, 21, 21)], (9, 0, 0), M9, [], [], [], 0, []))
theorem T_addUp19 {w0 : qW} : yCOK w0 zgf zga zra zSp zgh C_addUp19.1 C_addUp19.2 := by
  intro d as w hd hm hI hn hp
  have e : as = [(2, 12), (2, 19), (2, 21)] := args3r hm
  subst e
  refine qG.mono (K_addUp19 hd w hI) ?_
  rintro _ w' _ ⟨rfl, rfl, hA⟩
  exact ⟨⟨rfl, Int.le_refl 0, Int.le_refl 0⟩, hA.1, rfl, hA.2, fun e he => (by cases he), fun z => (by cases z)⟩
theorem K_addUp21 {d : Nat} (hd : 6 ≤ d) (w : qW) (hI : yInv zgf zga zra zSp w) : qG none d 91 0 [(2, 12), (2, 21), (2, 19), (9, 0), (9, 0)] [] w 142 (fun (v : qV) (w1 : qW) (n1 : Nat) => v = (9, 0) ∧ n1 = 142 ∧ AW M9 w w1) := by
  generalize hQ9 : (fun (v : qV) (w1 : qW) (n1 : Nat) => v = (9, 0) ∧ n1 = 142 ∧ AW M9 w w1) = Q9
  have hA0 : AW M9 w w := AW.rf hI
  obtain ⟨N6, hN6⟩ : ∃ N : Int, N = 601 := ⟨_, rfl⟩
  obtain ⟨d, rfl⟩ : ∃ d9, d = d9 + 1 := ⟨d - 1, by omega⟩
  refine qG.blk 4 (pc' := 6) (ls' := [(2, 12), (2, 21), (2, 19), (2, 21), (9, 0)]) (st' := [(2, w 12 8)]) (w' := w) (n' := 142) rfl ?_
  rw [show w 12 8 = 17 from zref hI rfl rfl]
  refine qG.blk 1 (pc' := 7) (ls' := [(2, 12), (2, 21), (2, 19), (2, 21), (9, 0)]) (st' := [(2, 12), (2, 17)]) (w' := w) (n' := 142) rfl ?_
  refine qG.call (t := 92) (na := 1) (sk := 1) (md := 1) (ls1 := [(2, 12), (9, 0), (9, 0), (9, 0)]) (r1 := [(2, 17)]) rfl rfl rfl rfl rfl (AW.use (c := C_takeUnit.2) (as := [(2, 12)]) T_takeUnit hA0 (show 1 ≤ d by omega) ⟨⟨rfl, by decide, by decide⟩, trivial⟩ rfl rfl (by decide +kernel)) ?_
  rintro _ w1 _ ⟨x1, rfl, hl1, hu1, hA1, rfl, hB1⟩
  have hl1 : ((-2147483648) : Int) ≤ x1 := hl1
  have hu1 : x1 ≤ (2147483647 : Int) := hu1
  show qG none (d + 1) 91 10 [(2, 12), (2, 21), (2, 19), (2, 21), (9, 0)] [(0, x1), (2, 17)] w1 142 Q9
  refine qG.call (t := 120) (na := 2) (sk := 1) (md := 1) (ls1 := [(2, 17), (0, x1)]) (r1 := []) rfl rfl rfl rfl rfl (AW.use (c := C_put17.2) (as := [(2, 17), (0, x1)]) T_put17 hA1 (show 1 ≤ d by omega) ⟨⟨rfl, by decide, by decide⟩, ⟨rfl, by omega, by omega⟩, trivial⟩ rfl rfl (by decide +kernel)) ?_
  rintro _ w2 _ ⟨x2, rfl, hl2, hu2, hA2, rfl, hB2⟩
  show qG none (d + 1) 91 13 [(2, 12), (2, 21), (2, 19), (2, 21), (9, 0)] [] w2 142 Q9
  refine qG.blk 2 (pc' := 16) (ls' := [(2, 12), (2, 21), (2, 19), (2, 21), (0, 0)]) (st' := []) (w' := w2) (n' := 142) rfl ?_
  have L16 : ∀ (m9 : Nat) (i : Nat) (to : Int) (wL : qW), 601 - i = m9 → (i ≤ 601 ∧ (to = 19 ∨ to = 21) ∧ AW M9 w wL) → qG none (d + 1) 91 16 [(2, 12), (2, 21), (2, 19), (2, to), (0, ((i : Nat) : Int))] [] wL 142 Q9 := by
    intro m9
    induction m9 using Nat.strongRecOn with
    | ind m9 ih16 =>
    intro i to wL hm16 hI16
    have hto := hI16.2.1
    refine qG.blk 2 (pc' := 21) (ls' := [(2, 12), (2, 21), (2, 19), (2, to), (0, ((i : Nat) : Int))]) (st' := [(0, 601), (0, ((i : Nat) : Int))]) (w' := wL) (n' := 142) rfl ?_
    rw [show (601 : Int) = N6 from hN6.symm]
    refine qG.br (P := ((i : Nat) : Int) < N6) (pc1 := 24) (pc2 := 134) (st1 := []) rfl (fun h3 => ?_) (fun h3 => ?_)
    · skip
      refine qG.blk 2 (pc' := 28) (ls' := [(2, 12), (2, 21), (2, 19), (2, to), (0, ((i : Nat) : Int))]) (st' := [(0, 20042), (2, 12)]) (w' := wL) (n' := 142) rfl ?_
      refine qG.call (t := 87) (na := 2) (sk := 1) (md := 1) (ls1 := [(2, 12), (0, 20042)]) (r1 := []) rfl rfl rfl rfl rfl (AW.use (c := C_takesP.2) (as := [(2, 12), (0, 20042)]) T_takesP hI16.2.2 (show 1 ≤ d by omega) ⟨⟨rfl, by decide, by decide⟩, ⟨rfl, by decide, by decide⟩, trivial⟩ rfl rfl (by decide +kernel)) ?_
      rintro _ w4 _ ⟨x4, rfl, hl4, hu4, hA4, rfl, hB4⟩
      have hl4 : (0 : Int) ≤ x4 := hl4
      have hu4 : x4 ≤ (1 : Int) := hu4
      show qG none (d + 1) 91 31 [(2, 12), (2, 21), (2, 19), (2, to), (0, ((i : Nat) : Int))] [(0, x4)] w4 142 Q9
      refine qG.br (P := x4 = 0) (pc1 := 48) (pc2 := 34) (st1 := []) rfl (fun h5 => ?_) (fun h5 => ?_)
      · skip
        refine qG.blk 2 (pc' := 52) (ls' := [(2, 12), (2, 21), (2, 19), (2, to), (0, ((i : Nat) : Int))]) (st' := [(0, 20047), (2, 12)]) (w' := w4) (n' := 142) rfl ?_
        refine qG.call (t := 87) (na := 2) (sk := 1) (md := 1) (ls1 := [(2, 12), (0, 20047)]) (r1 := []) rfl rfl rfl rfl rfl (AW.use (c := C_takesP.2) (as := [(2, 12), (0, 20047)]) T_takesP hA4 (show 1 ≤ d by omega) ⟨⟨rfl, by decide, by decide⟩, ⟨rfl, by decide, by decide⟩, trivial⟩ rfl rfl (by decide +kernel)) ?_
        rintro _ w6 _ ⟨x6, rfl, hl6, hu6, hA6, rfl, hB6⟩
        have hl6 : (0 : Int) ≤ x6 := hl6
        have hu6 : x6 ≤ (1 : Int) := hu6
        show qG none (d + 1) 91 55 [(2, 12), (2, 21), (2, 19), (2, to), (0, ((i : Nat) : Int))] [(0, x6)] w6 142 Q9
        refine qG.br (P := x6 = 0) (pc1 := 72) (pc2 := 58) (st1 := []) rfl (fun h7 => ?_) (fun h7 => ?_)
        · skip
          refine qG.blk 3 (pc' := 77) (ls' := [(2, 12), (2, 21), (2, 19), (2, to), (0, ((i : Nat) : Int))]) (st' := [(2, w6 12 8), (2, to)]) (w' := w6) (n' := 142) rfl ?_
          rw [show w6 12 8 = 17 from zref hA6.1 rfl rfl]
          refine qG.call (t := 125) (na := 2) (sk := 1) (md := 1) (ls1 := [(2, to), (2, 17), (9, 0), (9, 0), (9, 0), (9, 0)]) (r1 := []) rfl rfl (by rcases hto with rfl | rfl <;> rfl) rfl rfl (addTo (by omega) hto hA6) ?_
          rintro ⟨q8, x8⟩ w8 _ ⟨rfl, hA8, rfl⟩
          show qG none (d + 1) 91 80 [(2, 12), (2, 21), (2, 19), (2, to), (0, ((i : Nat) : Int))] [] w8 142 Q9
          refine qG.blk 1 (pc' := 81) (ls' := [(2, 12), (2, 21), (2, 19), (2, to), (0, ((i : Nat) : Int))]) (st' := [(2, 12)]) (w' := w8) (n' := 142) rfl ?_
          refine qG.call (t := 86) (na := 1) (sk := 1) (md := 1) (ls1 := [(2, 12)]) (r1 := []) rfl rfl rfl rfl rfl (AW.use (c := C_codeP.2) (as := [(2, 12)]) T_codeP hA8 (show 0 ≤ d by omega) ⟨⟨rfl, by decide, by decide⟩, trivial⟩ rfl rfl (by decide +kernel)) ?_
          rintro _ w9 _ ⟨x9, rfl, hl9, hu9, hA9, rfl, hB9⟩
          have hl9 : ((-2147483648) : Int) ≤ x9 := hl9
          have hu9 : x9 ≤ (2147483647 : Int) := hu9
          show qG none (d + 1) 91 84 [(2, 12), (2, 21), (2, 19), (2, to), (0, ((i : Nat) : Int))] [(0, x9)] w9 142 Q9
          refine qG.blk 1 (pc' := 87) (ls' := [(2, 12), (2, 21), (2, 19), (2, to), (0, ((i : Nat) : Int))]) (st' := [(0, 20043), (0, x9)]) (w' := w9) (n' := 142) rfl ?_
          refine qG.br (P := x9 = 20043) (pc1 := 90) (pc2 := 94) (st1 := []) rfl (fun h10 => ?_) (fun h10 => ?_)
          · skip
            refine qG.blk 5 (pc' := 100) (ls' := [(2, 12), (2, 21), (2, 19), (2, 21), (0, ((i : Nat) : Int))]) (st' := [(0, 20043), (2, 12)]) (w' := w9) (n' := 142) rfl ?_
            refine qG.call (t := 87) (na := 2) (sk := 1) (md := 1) (ls1 := [(2, 12), (0, 20043)]) (r1 := []) rfl rfl rfl rfl rfl (AW.use (c := C_takesP.2) (as := [(2, 12), (0, 20043)]) T_takesP hA9 (show 1 ≤ d by omega) ⟨⟨rfl, by decide, by decide⟩, ⟨rfl, by decide, by decide⟩, trivial⟩ rfl rfl (by decide +kernel)) ?_
            rintro _ w11 _ ⟨x11, rfl, hl11, hu11, hA11, rfl, hB11⟩
            have hl11 : (0 : Int) ≤ x11 := hl11
            have hu11 : x11 ≤ (1 : Int) := hu11
            show qG none (d + 1) 91 103 [(2, 12), (2, 21), (2, 19), (2, 21), (0, ((i : Nat) : Int))] [(0, x11)] w11 142 Q9
            refine qG.br (P := x11 = 0) (pc1 := 106) (pc2 := 117) (st1 := []) rfl (fun h12 => ?_) (fun h12 => ?_)
            · skip
              refine qG.blk 2 (pc' := 110) (ls' := [(2, 12), (2, 21), (2, 19), (2, 21), (0, ((i : Nat) : Int))]) (st' := [(0, 20045), (2, 12)]) (w' := w11) (n' := 142) rfl ?_
              refine qG.call (t := 87) (na := 2) (sk := 1) (md := 1) (ls1 := [(2, 12), (0, 20045)]) (r1 := []) rfl rfl rfl rfl rfl (AW.use (c := C_takesP.2) (as := [(2, 12), (0, 20045)]) T_takesP hA11 (show 1 ≤ d by omega) ⟨⟨rfl, by decide, by decide⟩, ⟨rfl, by decide, by decide⟩, trivial⟩ rfl rfl (by decide +kernel)) ?_
              rintro _ w13 _ ⟨x13, rfl, hl13, hu13, hA13, rfl, hB13⟩
              have hl13 : (0 : Int) ≤ x13 := hl13
              have hu13 : x13 ≤ (1 : Int) := hu13
              show qG none (d + 1) 91 113 [(2, 12), (2, 21), (2, 19), (2, 21), (0, ((i : Nat) : Int))] [(0, x13)] w13 142 Q9
              refine qG.br (P := x13 = 0) (pc1 := 116) (pc2 := 117) (st1 := []) rfl (fun h14 => ?_) (fun h14 => ?_)
              · skip
                refine qG.retv rfl rfl ?_
                subst hQ9
                exact ⟨rfl, rfl, hA13⟩
              · skip
                refine qG.blk 2 (pc' := 121) (ls' := [(2, 12), (2, 21), (2, 19), (2, 21), (0, ((i : Nat) : Int))]) (st' := [(2, w13 12 8)]) (w' := w13) (n' := 142) rfl ?_
                rw [show w13 12 8 = 17 from zref hA13.1 rfl rfl]
                refine qG.blk 1 (pc' := 122) (ls' := [(2, 12), (2, 21), (2, 19), (2, 21), (0, ((i : Nat) : Int))]) (st' := [(2, 12), (2, 17)]) (w' := w13) (n' := 142) rfl ?_
                refine qG.call (t := 92) (na := 1) (sk := 1) (md := 1) (ls1 := [(2, 12), (9, 0), (9, 0), (9, 0)]) (r1 := [(2, 17)]) rfl rfl rfl rfl rfl (AW.use (c := C_takeUnit.2) (as := [(2, 12)]) T_takeUnit hA13 (show 1 ≤ d by omega) ⟨⟨rfl, by decide, by decide⟩, trivial⟩ rfl rfl (by decide +kernel)) ?_
                rintro _ w15 _ ⟨x15, rfl, hl15, hu15, hA15, rfl, hB15⟩
                have hl15 : ((-2147483648) : Int) ≤ x15 := hl15
                have hu15 : x15 ≤ (2147483647 : Int) := hu15
                show qG none (d + 1) 91 125 [(2, 12), (2, 21), (2, 19), (2, 21), (0, ((i : Nat) : Int))] [(0, x15), (2, 17)] w15 142 Q9
                refine qG.call (t := 120) (na := 2) (sk := 1) (md := 1) (ls1 := [(2, 17), (0, x15)]) (r1 := []) rfl rfl rfl rfl rfl (AW.use (c := C_put17.2) (as := [(2, 17), (0, x15)]) T_put17 hA15 (show 1 ≤ d by omega) ⟨⟨rfl, by decide, by decide⟩, ⟨rfl, by omega, by omega⟩, trivial⟩ rfl rfl (by decide +kernel)) ?_
                rintro _ w16 _ ⟨x16, rfl, hl16, hu16, hA16, rfl, hB16⟩
                show qG none (d + 1) 91 128 [(2, 12), (2, 21), (2, 19), (2, 21), (0, ((i : Nat) : Int))] [] w16 142 Q9
                refine qG.blk 1 (pc' := 131) (ls' := [(2, 12), (2, 21), (2, 19), (2, 21), (0, wrp (((i : Nat) : Int) + 1))]) (st' := []) (w' := w16) (n' := 142) rfl ?_
                rw [show wrp (((i : Nat) : Int) + 1) = ((i + 1 : Nat) : Int) from wrp_id (by omega) (by omega)]
                refine qG.blk 1 (pc' := 16) (ls' := [(2, 12), (2, 21), (2, 19), (2, 21), (0, ((i + 1 : Nat) : Int))]) (st' := []) (w' := w16) (n' := 142) rfl ?_
                exact ih16 _ (by omega) (i + 1) (21) (w16) rfl (⟨by omega, by first | exact .inl rfl | exact .inr rfl | exact hto, hA16⟩)
            · skip
              refine qG.blk 2 (pc' := 121) (ls' := [(2, 12), (2, 21), (2, 19), (2, 21), (0, ((i : Nat) : Int))]) (st' := [(2, w11 12 8)]) (w' := w11) (n' := 142) rfl ?_
              rw [show w11 12 8 = 17 from zref hA11.1 rfl rfl]
              refine qG.blk 1 (pc' := 122) (ls' := [(2, 12), (2, 21), (2, 19), (2, 21), (0, ((i : Nat) : Int))]) (st' := [(2, 12), (2, 17)]) (w' := w11) (n' := 142) rfl ?_
              refine qG.call (t := 92) (na := 1) (sk := 1) (md := 1) (ls1 := [(2, 12), (9, 0), (9, 0), (9, 0)]) (r1 := [(2, 17)]) rfl rfl rfl rfl rfl (AW.use (c := C_takeUnit.2) (as := [(2, 12)]) T_takeUnit hA11 (show 1 ≤ d by omega) ⟨⟨rfl, by decide, by decide⟩, trivial⟩ rfl rfl (by decide +kernel)) ?_
              rintro _ w17 _ ⟨x17, rfl, hl17, hu17, hA17, rfl, hB17⟩
              have hl17 : ((-2147483648) : Int) ≤ x17 := hl17
              have hu17 : x17 ≤ (2147483647 : Int) := hu17
              show qG none (d + 1) 91 125 [(2, 12), (2, 21), (2, 19), (2, 21), (0, ((i : Nat) : Int))] [(0, x17), (2, 17)] w17 142 Q9
              refine qG.call (t := 120) (na := 2) (sk := 1) (md := 1) (ls1 := [(2, 17), (0, x17)]) (r1 := []) rfl rfl rfl rfl rfl (AW.use (c := C_put17.2) (as := [(2, 17), (0, x17)]) T_put17 hA17 (show 1 ≤ d by omega) ⟨⟨rfl, by decide, by decide⟩, ⟨rfl, by omega, by omega⟩, trivial⟩ rfl rfl (by decide +kernel)) ?_
              rintro _ w18 _ ⟨x18, rfl, hl18, hu18, hA18, rfl, hB18⟩
              show qG none (d + 1) 91 128 [(2, 12), (2, 21), (2, 19), (2, 21), (0, ((i : Nat) : Int))] [] w18 142 Q9
              refine qG.blk 1 (pc' := 131) (ls' := [(2, 12), (2, 21), (2, 19), (2, 21), (0, wrp (((i : Nat) : Int) + 1))]) (st' := []) (w' := w18) (n' := 142) rfl ?_
              rw [show wrp (((i : Nat) : Int) + 1) = ((i + 1 : Nat) : Int) from wrp_id (by omega) (by omega)]
              refine qG.blk 1 (pc' := 16) (ls' := [(2, 12), (2, 21), (2, 19), (2, 21), (0, ((i + 1 : Nat) : Int))]) (st' := []) (w' := w18) (n' := 142) rfl ?_
              exact ih16 _ (by omega) (i + 1) (21) (w18) rfl (⟨by omega, by first | exact .inl rfl | exact .inr rfl | exact hto, hA18⟩)
          · skip
            refine qG.blk 4 (pc' := 100) (ls' := [(2, 12), (2, 21), (2, 19), (2, 19), (0, ((i : Nat) : Int))]) (st' := [(0, 20043), (2, 12)]) (w' := w9) (n' := 142) rfl ?_
            refine qG.call (t := 87) (na := 2) (sk := 1) (md := 1) (ls1 := [(2, 12), (0, 20043)]) (r1 := []) rfl rfl rfl rfl rfl (AW.use (c := C_takesP.2) (as := [(2, 12), (0, 20043)]) T_takesP hA9 (show 1 ≤ d by omega) ⟨⟨rfl, by decide, by decide⟩, ⟨rfl, by decide, by decide⟩, trivial⟩ rfl rfl (by decide +kernel)) ?_
            rintro _ w19 _ ⟨x19, rfl, hl19, hu19, hA19, rfl, hB19⟩
            have hl19 : (0 : Int) ≤ x19 := hl19
            have hu19 : x19 ≤ (1 : Int) := hu19
            show qG none (d + 1) 91 103 [(2, 12), (2, 21), (2, 19), (2, 19), (0, ((i : Nat) : Int))] [(0, x19)] w19 142 Q9
            refine qG.br (P := x19 = 0) (pc1 := 106) (pc2 := 117) (st1 := []) rfl (fun h20 => ?_) (fun h20 => ?_)
            · skip
              refine qG.blk 2 (pc' := 110) (ls' := [(2, 12), (2, 21), (2, 19), (2, 19), (0, ((i : Nat) : Int))]) (st' := [(0, 20045), (2, 12)]) (w' := w19) (n' := 142) rfl ?_
              refine qG.call (t := 87) (na := 2) (sk := 1) (md := 1) (ls1 := [(2, 12), (0, 20045)]) (r1 := []) rfl rfl rfl rfl rfl (AW.use (c := C_takesP.2) (as := [(2, 12), (0, 20045)]) T_takesP hA19 (show 1 ≤ d by omega) ⟨⟨rfl, by decide, by decide⟩, ⟨rfl, by decide, by decide⟩, trivial⟩ rfl rfl (by decide +kernel)) ?_
              rintro _ w21 _ ⟨x21, rfl, hl21, hu21, hA21, rfl, hB21⟩
              have hl21 : (0 : Int) ≤ x21 := hl21
              have hu21 : x21 ≤ (1 : Int) := hu21
              show qG none (d + 1) 91 113 [(2, 12), (2, 21), (2, 19), (2, 19), (0, ((i : Nat) : Int))] [(0, x21)] w21 142 Q9
              refine qG.br (P := x21 = 0) (pc1 := 116) (pc2 := 117) (st1 := []) rfl (fun h22 => ?_) (fun h22 => ?_)
              · skip
                refine qG.retv rfl rfl ?_
                subst hQ9
                exact ⟨rfl, rfl, hA21⟩
              · skip
                refine qG.blk 2 (pc' := 121) (ls' := [(2, 12), (2, 21), (2, 19), (2, 19), (0, ((i : Nat) : Int))]) (st' := [(2, w21 12 8)]) (w' := w21) (n' := 142) rfl ?_
                rw [show w21 12 8 = 17 from zref hA21.1 rfl rfl]
                refine qG.blk 1 (pc' := 122) (ls' := [(2, 12), (2, 21), (2, 19), (2, 19), (0, ((i : Nat) : Int))]) (st' := [(2, 12), (2, 17)]) (w' := w21) (n' := 142) rfl ?_
                refine qG.call (t := 92) (na := 1) (sk := 1) (md := 1) (ls1 := [(2, 12), (9, 0), (9, 0), (9, 0)]) (r1 := [(2, 17)]) rfl rfl rfl rfl rfl (AW.use (c := C_takeUnit.2) (as := [(2, 12)]) T_takeUnit hA21 (show 1 ≤ d by omega) ⟨⟨rfl, by decide, by decide⟩, trivial⟩ rfl rfl (by decide +kernel)) ?_
                rintro _ w23 _ ⟨x23, rfl, hl23, hu23, hA23, rfl, hB23⟩
                have hl23 : ((-2147483648) : Int) ≤ x23 := hl23
                have hu23 : x23 ≤ (2147483647 : Int) := hu23
                show qG none (d + 1) 91 125 [(2, 12), (2, 21), (2, 19), (2, 19), (0, ((i : Nat) : Int))] [(0, x23), (2, 17)] w23 142 Q9
                refine qG.call (t := 120) (na := 2) (sk := 1) (md := 1) (ls1 := [(2, 17), (0, x23)]) (r1 := []) rfl rfl rfl rfl rfl (AW.use (c := C_put17.2) (as := [(2, 17), (0, x23)]) T_put17 hA23 (show 1 ≤ d by omega) ⟨⟨rfl, by decide, by decide⟩, ⟨rfl, by omega, by omega⟩, trivial⟩ rfl rfl (by decide +kernel)) ?_
                rintro _ w24 _ ⟨x24, rfl, hl24, hu24, hA24, rfl, hB24⟩
                show qG none (d + 1) 91 128 [(2, 12), (2, 21), (2, 19), (2, 19), (0, ((i : Nat) : Int))] [] w24 142 Q9
                refine qG.blk 1 (pc' := 131) (ls' := [(2, 12), (2, 21), (2, 19), (2, 19), (0, wrp (((i : Nat) : Int) + 1))]) (st' := []) (w' := w24) (n' := 142) rfl ?_
                rw [show wrp (((i : Nat) : Int) + 1) = ((i + 1 : Nat) : Int) from wrp_id (by omega) (by omega)]
                refine qG.blk 1 (pc' := 16) (ls' := [(2, 12), (2, 21), (2, 19), (2, 19), (0, ((i + 1 : Nat) : Int))]) (st' := []) (w' := w24) (n' := 142) rfl ?_
                exact ih16 _ (by omega) (i + 1) (19) (w24) rfl (⟨by omega, by first | exact .inl rfl | exact .inr rfl | exact hto, hA24⟩)
            · skip
              refine qG.blk 2 (pc' := 121) (ls' := [(2, 12), (2, 21), (2, 19), (2, 19), (0, ((i : Nat) : Int))]) (st' := [(2, w19 12 8)]) (w' := w19) (n' := 142) rfl ?_
              rw [show w19 12 8 = 17 from zref hA19.1 rfl rfl]
              refine qG.blk 1 (pc' := 122) (ls' := [(2, 12), (2, 21), (2, 19), (2, 19), (0, ((i : Nat) : Int))]) (st' := [(2, 12), (2, 17)]) (w' := w19) (n' := 142) rfl ?_
              refine qG.call (t := 92) (na := 1) (sk := 1) (md := 1) (ls1 := [(2, 12), (9, 0), (9, 0), (9, 0)]) (r1 := [(2, 17)]) rfl rfl rfl rfl rfl (AW.use (c := C_takeUnit.2) (as := [(2, 12)]) T_takeUnit hA19 (show 1 ≤ d by omega) ⟨⟨rfl, by decide, by decide⟩, trivial⟩ rfl rfl (by decide +kernel)) ?_
              rintro _ w25 _ ⟨x25, rfl, hl25, hu25, hA25, rfl, hB25⟩
              have hl25 : ((-2147483648) : Int) ≤ x25 := hl25
              have hu25 : x25 ≤ (2147483647 : Int) := hu25
              show qG none (d + 1) 91 125 [(2, 12), (2, 21), (2, 19), (2, 19), (0, ((i : Nat) : Int))] [(0, x25), (2, 17)] w25 142 Q9
              refine qG.call (t := 120) (na := 2) (sk := 1) (md := 1) (ls1 := [(2, 17), (0, x25)]) (r1 := []) rfl rfl rfl rfl rfl (AW.use (c := C_put17.2) (as := [(2, 17), (0, x25)]) T_put17 hA25 (show 1 ≤ d by omega) ⟨⟨rfl, by decide, by decide⟩, ⟨rfl, by omega, by omega⟩, trivial⟩ rfl rfl (by decide +kernel)) ?_
              rintro _ w26 _ ⟨x26, rfl, hl26, hu26, hA26, rfl, hB26⟩
              show qG none (d + 1) 91 128 [(2, 12), (2, 21), (2, 19), (2, 19), (0, ((i : Nat) : Int))] [] w26 142 Q9
              refine qG.blk 1 (pc' := 131) (ls' := [(2, 12), (2, 21), (2, 19), (2, 19), (0, wrp (((i : Nat) : Int) + 1))]) (st' := []) (w' := w26) (n' := 142) rfl ?_
              rw [show wrp (((i : Nat) : Int) + 1) = ((i + 1 : Nat) : Int) from wrp_id (by omega) (by omega)]
              refine qG.blk 1 (pc' := 16) (ls' := [(2, 12), (2, 21), (2, 19), (2, 19), (0, ((i + 1 : Nat) : Int))]) (st' := []) (w' := w26) (n' := 142) rfl ?_
              exact ih16 _ (by omega) (i + 1) (19) (w26) rfl (⟨by omega, by first | exact .inl rfl | exact .inr rfl | exact hto, hA26⟩)
        · skip
          refine qG.blk 2 (pc' := 62) (ls' := [(2, 12), (2, 21), (2, 19), (2, to), (0, ((i : Nat) : Int))]) (st' := [(2, w6 12 8)]) (w' := w6) (n' := 142) rfl ?_
          rw [show w6 12 8 = 17 from zref hA6.1 rfl rfl]
          refine qG.blk 1 (pc' := 63) (ls' := [(2, 12), (2, 21), (2, 19), (2, to), (0, ((i : Nat) : Int))]) (st' := [(2, 12), (2, 17)]) (w' := w6) (n' := 142) rfl ?_
          refine qG.call (t := 92) (na := 1) (sk := 1) (md := 1) (ls1 := [(2, 12), (9, 0), (9, 0), (9, 0)]) (r1 := [(2, 17)]) rfl rfl rfl rfl rfl (AW.use (c := C_takeUnit.2) (as := [(2, 12)]) T_takeUnit hA6 (show 1 ≤ d by omega) ⟨⟨rfl, by decide, by decide⟩, trivial⟩ rfl rfl (by decide +kernel)) ?_
          rintro _ w27 _ ⟨x27, rfl, hl27, hu27, hA27, rfl, hB27⟩
          have hl27 : ((-2147483648) : Int) ≤ x27 := hl27
          have hu27 : x27 ≤ (2147483647 : Int) := hu27
          show qG none (d + 1) 91 66 [(2, 12), (2, 21), (2, 19), (2, to), (0, ((i : Nat) : Int))] [(0, x27), (2, 17)] w27 142 Q9
          refine qG.call (t := 123) (na := 2) (sk := 1) (md := 1) (ls1 := [(2, 17), (0, x27), (9, 0), (9, 0), (9, 0)]) (r1 := []) rfl rfl rfl rfl rfl (AW.use (c := C_divideBy.2) (as := [(2, 17), (0, x27)]) T_divideBy hA27 (show 2 ≤ d by omega) ⟨⟨rfl, by decide, by decide⟩, ⟨rfl, by omega, by omega⟩, trivial⟩ rfl rfl (by decide +kernel)) ?_
          rintro _ w28 _ ⟨x28, rfl, hl28, hu28, hA28, rfl, hB28⟩
          show qG none (d + 1) 91 69 [(2, 12), (2, 21), (2, 19), (2, to), (0, ((i : Nat) : Int))] [] w28 142 Q9
          refine qG.blk 2 (pc' := 131) (ls' := [(2, 12), (2, 21), (2, 19), (2, to), (0, wrp (((i : Nat) : Int) + 1))]) (st' := []) (w' := w28) (n' := 142) rfl ?_
          rw [show wrp (((i : Nat) : Int) + 1) = ((i + 1 : Nat) : Int) from wrp_id (by omega) (by omega)]
          refine qG.blk 1 (pc' := 16) (ls' := [(2, 12), (2, 21), (2, 19), (2, to), (0, ((i + 1 : Nat) : Int))]) (st' := []) (w' := w28) (n' := 142) rfl ?_
          exact ih16 _ (by omega) (i + 1) (to) (w28) rfl (⟨by omega, by first | exact .inl rfl | exact .inr rfl | exact hto, hA28⟩)
      · skip
        refine qG.blk 2 (pc' := 38) (ls' := [(2, 12), (2, 21), (2, 19), (2, to), (0, ((i : Nat) : Int))]) (st' := [(2, w4 12 8)]) (w' := w4) (n' := 142) rfl ?_
        rw [show w4 12 8 = 17 from zref hA4.1 rfl rfl]
        refine qG.blk 1 (pc' := 39) (ls' := [(2, 12), (2, 21), (2, 19), (2, to), (0, ((i : Nat) : Int))]) (st' := [(2, 12), (2, 17)]) (w' := w4) (n' := 142) rfl ?_
        refine qG.call (t := 92) (na := 1) (sk := 1) (md := 1) (ls1 := [(2, 12), (9, 0), (9, 0), (9, 0)]) (r1 := [(2, 17)]) rfl rfl rfl rfl rfl (AW.use (c := C_takeUnit.2) (as := [(2, 12)]) T_takeUnit hA4 (show 1 ≤ d by omega) ⟨⟨rfl, by decide, by decide⟩, trivial⟩ rfl rfl (by decide +kernel)) ?_
        rintro _ w29 _ ⟨x29, rfl, hl29, hu29, hA29, rfl, hB29⟩
        have hl29 : ((-2147483648) : Int) ≤ x29 := hl29
        have hu29 : x29 ≤ (2147483647 : Int) := hu29
        show qG none (d + 1) 91 42 [(2, 12), (2, 21), (2, 19), (2, to), (0, ((i : Nat) : Int))] [(0, x29), (2, 17)] w29 142 Q9
        refine qG.call (t := 122) (na := 2) (sk := 1) (md := 1) (ls1 := [(2, 17), (0, x29), (9, 0), (9, 0), (9, 0)]) (r1 := []) rfl rfl rfl rfl rfl (AW.use (c := C_multiplyBy.2) (as := [(2, 17), (0, x29)]) T_multiplyBy hA29 (show 2 ≤ d by omega) ⟨⟨rfl, by decide, by decide⟩, ⟨rfl, by omega, by omega⟩, trivial⟩ rfl rfl (by decide +kernel)) ?_
        rintro _ w30 _ ⟨x30, rfl, hl30, hu30, hA30, rfl, hB30⟩
        show qG none (d + 1) 91 45 [(2, 12), (2, 21), (2, 19), (2, to), (0, ((i : Nat) : Int))] [] w30 142 Q9
        refine qG.blk 2 (pc' := 131) (ls' := [(2, 12), (2, 21), (2, 19), (2, to), (0, wrp (((i : Nat) : Int) + 1))]) (st' := []) (w' := w30) (n' := 142) rfl ?_
        rw [show wrp (((i : Nat) : Int) + 1) = ((i + 1 : Nat) : Int) from wrp_id (by omega) (by omega)]
        refine qG.blk 1 (pc' := 16) (ls' := [(2, 12), (2, 21), (2, 19), (2, to), (0, ((i + 1 : Nat) : Int))]) (st' := []) (w' := w30) (n' := 142) rfl ?_
        exact ih16 _ (by omega) (i + 1) (to) (w30) rfl (⟨by omega, by first | exact .inl rfl | exact .inr rfl | exact hto, hA30⟩)
    · skip
      refine qG.retv rfl rfl ?_
      subst hQ9
      exact ⟨rfl, rfl, hI16.2.2⟩
  exact L16 _ (0) (21) (w2) rfl (⟨by omega, by decide, hA2⟩)
noncomputable def C_addUp21 : Nat × yC := (91, (6, [(2, 12, 12), (2, 21, 21), (2, 19, 19)], (9, 0, 0), M9, [], [], [], 0, []))
theorem T_addUp21 {w0 : qW} : yCOK w0 zgf zga zra zSp zgh C_addUp21.1 C_addUp21.2 := by
  intro d as w hd hm hI hn hp
  have e : as = [(2, 12), (2, 21), (2, 19)] := args3r hm
  subst e
  refine qG.mono (K_addUp21 hd w hI) ?_
  rintro _ w' _ ⟨rfl, rfl, hA⟩
  exact ⟨⟨rfl, Int.le_refl 0, Int.le_refl 0⟩, hA.1, rfl, hA.2, fun e he => (by cases he), fun z => (by cases z)⟩
end
section
/-! the reference's through, sees, does, shows as functions of the state -/
theorem i32q (x : Int32) : yin (-2147483648, 2147483647) x.toInt := ⟨(i32_in x).1, by have := (i32_in x).2; show _ ≤ (2147483647 : Int); omega⟩
theorem qor_32 (x y : Int) : yin (-2147483648, 2147483647) (qor x y) := i32q _
theorem qand_32 (x y : Int) : yin (-2147483648, 2147483647) (qand x y) := i32q _
theorem wrp_32 (x : Int) : yin (-2147483648, 2147483647) (wrp x) := ⟨(wrp_in x).1, by have := (wrp_in x).2; show _ ≤ (2147483647 : Int); omega⟩
noncomputable def thrF (w : qW) (c dd : Nat) (lit : Int) : Int := if lit = 0 then w 98 (10 * c + dd) else if w 100 (10 * c + dd) = 0 then qor (w 98 (10 * c + dd)) (if w 97 (10 * c + dd) = 0 then qshl (qand (w 98 (10 * c + dd)) (qxor (w 96 c) (-1))) 8 else qshr (qand (w 98 (10 * c + dd)) (qxor (w 96 c) (-1))) 8) else w 98 (10 * c + dd)
theorem K_through {d : Nat} (hd : 0 ≤ d) (c dd : Nat) (lit : Int) (hc : c < 3) (hd2 : dd < 10) (w : qW) (hI : yInv zgf zga zra zSp w) : qG none d 250 0 [(2, 95), (0, ((c : Nat) : Int)), (0, ((dd : Nat) : Int)), (0, lit), (9, 0), (9, 0)] [] w 142 (fun (r : qV) (w1 : qW) (n1 : Nat) => r = (0, thrF w c dd lit) ∧ w1 = w ∧ n1 = 142) := by
  generalize hQ9 : (fun (r : qV) (w1 : qW) (n1 : Nat) => r = (0, thrF w c dd lit) ∧ w1 = w ∧ n1 = 142) = Q9
  refine qG.blk 2 (pc' := 4) (ls' := [(2, 95), (0, ((c : Nat) : Int)), (0, ((dd : Nat) : Int)), (0, lit), (9, 0), (9, 0)]) (st' := [(2, w 95 2)]) (w' := w) (n' := 142) rfl ?_
  rw [show w 95 2 = 98 from zref hI rfl rfl]
  refine qG.blk 3 (pc' := 8) (ls' := [(2, 95), (0, ((c : Nat) : Int)), (0, ((dd : Nat) : Int)), (0, lit), (9, 0), (9, 0)]) (st' := [(0, wrp (10 * ((c : Nat) : Int))), (2, 98)]) (w' := w) (n' := 142) rfl ?_
  rw [show wrp (10 * ((c : Nat) : Int)) = ((10 * c : Nat) : Int) from by rw [wrp_id (by omega) (by omega)]; omega]
  refine qG.blk 2 (pc' := 10) (ls' := [(2, 95), (0, ((c : Nat) : Int)), (0, ((dd : Nat) : Int)), (0, lit), (9, 0), (9, 0)]) (st' := [(0, wrp (((10 * c : Nat) : Int) + ((dd : Nat) : Int))), (2, 98)]) (w' := w) (n' := 142) rfl ?_
  rw [show wrp (((10 * c : Nat) : Int) + ((dd : Nat) : Int)) = ((10 * c + dd : Nat) : Int) from by rw [wrp_id (by omega) (by omega)]; omega]
  refine qG.ar (P := 0 ≤ ((10 * c + dd : Nat) : Int) ∧ ((10 * c + dd : Nat) : Int) < ((30 : Nat) : Int)) (P2 := 0 < (98 : Int) ∧ (98 : Int) ≤ ((142 : Nat) : Int)) (pc' := 11) (ls' := [(2, 95), (0, ((c : Nat) : Int)), (0, ((dd : Nat) : Int)), (0, lit), (9, 0), (9, 0)]) (st' := [(0, w 98 (10 * c + dd))]) (w' := w) (n' := 142) rfl (by omega) (by decide) ?_
  refine qG.blk 4 (pc' := 19) (ls' := [(2, 95), (0, ((c : Nat) : Int)), (0, ((dd : Nat) : Int)), (0, lit), (0, w 98 (10 * c + dd)), (9, 0)]) (st' := [(2, w 95 0), (0, w 98 (10 * c + dd))]) (w' := w) (n' := 142) rfl ?_
  rw [show w 95 0 = 96 from zref hI rfl rfl]
  refine qG.blk 1 (pc' := 20) (ls' := [(2, 95), (0, ((c : Nat) : Int)), (0, ((dd : Nat) : Int)), (0, lit), (0, w 98 (10 * c + dd)), (9, 0)]) (st' := [(0, ((c : Nat) : Int)), (2, 96), (0, w 98 (10 * c + dd))]) (w' := w) (n' := 142) rfl ?_
  refine qG.ar (P := 0 ≤ ((c : Nat) : Int) ∧ ((c : Nat) : Int) < ((3 : Nat) : Int)) (P2 := 0 < (96 : Int) ∧ (96 : Int) ≤ ((142 : Nat) : Int)) (pc' := 21) (ls' := [(2, 95), (0, ((c : Nat) : Int)), (0, ((dd : Nat) : Int)), (0, lit), (0, w 98 (10 * c + dd)), (9, 0)]) (st' := [(0, w 96 c), (0, w 98 (10 * c + dd))]) (w' := w) (n' := 142) rfl (by omega) (by decide) ?_
  refine qG.blk 5 (pc' := 27) (ls' := [(2, 95), (0, ((c : Nat) : Int)), (0, ((dd : Nat) : Int)), (0, lit), (0, w 98 (10 * c + dd)), (0, qand (w 98 (10 * c + dd)) (qxor (w 96 c) (-1)))]) (st' := [(0, lit)]) (w' := w) (n' := 142) rfl ?_
  refine qG.br (P := lit = 0) (pc1 := 44) (pc2 := 30) (st1 := []) rfl (fun hlit => ?_) (fun hlit => ?_)
  · skip
    refine qG.blk 1 (pc' := 46) (ls' := [(2, 95), (0, ((c : Nat) : Int)), (0, ((dd : Nat) : Int)), (0, lit), (0, w 98 (10 * c + dd)), (0, qand (w 98 (10 * c + dd)) (qxor (w 96 c) (-1)))]) (st' := [(0, w 98 (10 * c + dd))]) (w' := w) (n' := 142) rfl ?_
    refine qG.ret rfl rfl ?_
    subst hQ9
    exact ⟨by unfold thrF; simp only [*, if_true, if_false], rfl, rfl⟩
  · skip
    refine qG.blk 2 (pc' := 34) (ls' := [(2, 95), (0, ((c : Nat) : Int)), (0, ((dd : Nat) : Int)), (0, lit), (0, w 98 (10 * c + dd)), (0, qand (w 98 (10 * c + dd)) (qxor (w 96 c) (-1)))]) (st' := [(2, w 95 4)]) (w' := w) (n' := 142) rfl ?_
    rw [show w 95 4 = 100 from zref hI rfl rfl]
    refine qG.blk 3 (pc' := 38) (ls' := [(2, 95), (0, ((c : Nat) : Int)), (0, ((dd : Nat) : Int)), (0, lit), (0, w 98 (10 * c + dd)), (0, qand (w 98 (10 * c + dd)) (qxor (w 96 c) (-1)))]) (st' := [(0, wrp (10 * ((c : Nat) : Int))), (2, 100)]) (w' := w) (n' := 142) rfl ?_
    rw [show wrp (10 * ((c : Nat) : Int)) = ((10 * c : Nat) : Int) from by rw [wrp_id (by omega) (by omega)]; omega]
    refine qG.blk 2 (pc' := 40) (ls' := [(2, 95), (0, ((c : Nat) : Int)), (0, ((dd : Nat) : Int)), (0, lit), (0, w 98 (10 * c + dd)), (0, qand (w 98 (10 * c + dd)) (qxor (w 96 c) (-1)))]) (st' := [(0, wrp (((10 * c : Nat) : Int) + ((dd : Nat) : Int))), (2, 100)]) (w' := w) (n' := 142) rfl ?_
    rw [show wrp (((10 * c : Nat) : Int) + ((dd : Nat) : Int)) = ((10 * c + dd : Nat) : Int) from by rw [wrp_id (by omega) (by omega)]; omega]
    refine qG.ar (P := 0 ≤ ((10 * c + dd : Nat) : Int) ∧ ((10 * c + dd : Nat) : Int) < ((30 : Nat) : Int)) (P2 := 0 < (100 : Int) ∧ (100 : Int) ≤ ((142 : Nat) : Int)) (pc' := 41) (ls' := [(2, 95), (0, ((c : Nat) : Int)), (0, ((dd : Nat) : Int)), (0, lit), (0, w 98 (10 * c + dd)), (0, qand (w 98 (10 * c + dd)) (qxor (w 96 c) (-1)))]) (st' := [(0, w 100 (10 * c + dd))]) (w' := w) (n' := 142) rfl (by omega) (by decide) ?_
    refine qG.br (P := w 100 (10 * c + dd) = 0) (pc1 := 47) (pc2 := 44) (st1 := []) rfl (fun hfa => ?_) (fun hfa => ?_)
    · skip
      refine qG.blk 3 (pc' := 53) (ls' := [(2, 95), (0, ((c : Nat) : Int)), (0, ((dd : Nat) : Int)), (0, lit), (0, w 98 (10 * c + dd)), (0, qand (w 98 (10 * c + dd)) (qxor (w 96 c) (-1)))]) (st' := [(2, w 95 1), (0, w 98 (10 * c + dd))]) (w' := w) (n' := 142) rfl ?_
      rw [show w 95 1 = 97 from zref hI rfl rfl]
      refine qG.blk 3 (pc' := 57) (ls' := [(2, 95), (0, ((c : Nat) : Int)), (0, ((dd : Nat) : Int)), (0, lit), (0, w 98 (10 * c + dd)), (0, qand (w 98 (10 * c + dd)) (qxor (w 96 c) (-1)))]) (st' := [(0, wrp (10 * ((c : Nat) : Int))), (2, 97), (0, w 98 (10 * c + dd))]) (w' := w) (n' := 142) rfl ?_
      rw [show wrp (10 * ((c : Nat) : Int)) = ((10 * c : Nat) : Int) from by rw [wrp_id (by omega) (by omega)]; omega]
      refine qG.blk 2 (pc' := 59) (ls' := [(2, 95), (0, ((c : Nat) : Int)), (0, ((dd : Nat) : Int)), (0, lit), (0, w 98 (10 * c + dd)), (0, qand (w 98 (10 * c + dd)) (qxor (w 96 c) (-1)))]) (st' := [(0, wrp (((10 * c : Nat) : Int) + ((dd : Nat) : Int))), (2, 97), (0, w 98 (10 * c + dd))]) (w' := w) (n' := 142) rfl ?_
      rw [show wrp (((10 * c : Nat) : Int) + ((dd : Nat) : Int)) = ((10 * c + dd : Nat) : Int) from by rw [wrp_id (by omega) (by omega)]; omega]
      refine qG.ar (P := 0 ≤ ((10 * c + dd : Nat) : Int) ∧ ((10 * c + dd : Nat) : Int) < ((30 : Nat) : Int)) (P2 := 0 < (97 : Int) ∧ (97 : Int) ≤ ((142 : Nat) : Int)) (pc' := 60) (ls' := [(2, 95), (0, ((c : Nat) : Int)), (0, ((dd : Nat) : Int)), (0, lit), (0, w 98 (10 * c + dd)), (0, qand (w 98 (10 * c + dd)) (qxor (w 96 c) (-1)))]) (st' := [(0, w 97 (10 * c + dd)), (0, w 98 (10 * c + dd))]) (w' := w) (n' := 142) rfl (by omega) (by decide) ?_
      refine qG.br (P := w 97 (10 * c + dd) = 0) (pc1 := 63) (pc2 := 71) (st1 := [(0, w 98 (10 * c + dd))]) rfl (fun hsd => ?_) (fun hsd => ?_)
      · skip
        refine qG.blk 5 (pc' := 77) (ls' := [(2, 95), (0, ((c : Nat) : Int)), (0, ((dd : Nat) : Int)), (0, lit), (0, w 98 (10 * c + dd)), (0, qand (w 98 (10 * c + dd)) (qxor (w 96 c) (-1)))]) (st' := [(0, qor (w 98 (10 * c + dd)) (qshl (qand (w 98 (10 * c + dd)) (qxor (w 96 c) (-1))) 8))]) (w' := w) (n' := 142) rfl ?_
        refine qG.ret rfl rfl ?_
        subst hQ9
        exact ⟨by unfold thrF; simp only [*, if_true, if_false], rfl, rfl⟩
      · skip
        refine qG.blk 4 (pc' := 77) (ls' := [(2, 95), (0, ((c : Nat) : Int)), (0, ((dd : Nat) : Int)), (0, lit), (0, w 98 (10 * c + dd)), (0, qand (w 98 (10 * c + dd)) (qxor (w 96 c) (-1)))]) (st' := [(0, qor (w 98 (10 * c + dd)) (qshr (qand (w 98 (10 * c + dd)) (qxor (w 96 c) (-1))) 8))]) (w' := w) (n' := 142) rfl ?_
        refine qG.ret rfl rfl ?_
        subst hQ9
        exact ⟨by unfold thrF; simp only [*, if_true, if_false], rfl, rfl⟩
    · skip
      refine qG.blk 1 (pc' := 46) (ls' := [(2, 95), (0, ((c : Nat) : Int)), (0, ((dd : Nat) : Int)), (0, lit), (0, w 98 (10 * c + dd)), (0, qand (w 98 (10 * c + dd)) (qxor (w 96 c) (-1)))]) (st' := [(0, w 98 (10 * c + dd))]) (w' := w) (n' := 142) rfl ?_
      refine qG.ret rfl rfl ?_
      subst hQ9
      exact ⟨by unfold thrF; simp only [*, if_true, if_false], rfl, rfl⟩
noncomputable def seesF (w : qW) (c : Nat) : Nat → Int
  | 0 => 0
  | j + 1 => if qand (qshr (w 95 41) (j : Int)) 1 = 1 then (if w 97 (10 * c + j) = w 95 43 then qor (seesF w c j) (thrF w c j (if (j : Int) = w 95 42 then 1 else 0)) else seesF w c j) else seesF w c j
theorem seesF_s {w : qW} {c j : Nat} : seesF w c (j + 1) = if qand (qshr (w 95 41) (j : Int)) 1 = 1 then (if w 97 (10 * c + j) = w 95 43 then qor (seesF w c j) (thrF w c j (if (j : Int) = w 95 42 then 1 else 0)) else seesF w c j) else seesF w c j := rfl
theorem seesF_32 {w : qW} {c : Nat} : ∀ j, yin (-2147483648, 2147483647) (seesF w c j)
  | 0 => ⟨by show (-2147483648 : Int) ≤ 0; decide, by show (0 : Int) ≤ 2147483647; decide⟩
  | j + 1 => by
    unfold seesF
    split
    · split
      · exact qor_32 _ _
      · exact seesF_32 j
    · exact seesF_32 j
theorem K_sees {d : Nat} (hd : 1 ≤ d) (c : Nat) (hc : c < 3) (w : qW) (hI : yInv zgf zga zra zSp w) : qG none d 249 0 [(2, 95), (0, ((c : Nat) : Int)), (9, 0), (9, 0)] [] w 142 (fun (r : qV) (w1 : qW) (n1 : Nat) => r = (0, seesF w c 10) ∧ w1 = w ∧ n1 = 142) := by
  generalize hQ9 : (fun (r : qV) (w1 : qW) (n1 : Nat) => r = (0, seesF w c 10) ∧ w1 = w ∧ n1 = 142) = Q9
  obtain ⟨d, rfl⟩ : ∃ d9, d = d9 + 1 := ⟨d - 1, by omega⟩
  refine qG.blk 4 (pc' := 4) (ls' := [(2, 95), (0, ((c : Nat) : Int)), (0, 0), (0, 0)]) (st' := []) (w' := w) (n' := 142) rfl ?_
  have L4 : ∀ (m9 : Nat) (j : Nat), 10 - j = m9 → (j ≤ 10) → qG none (d + 1) 249 4 [(2, 95), (0, ((c : Nat) : Int)), (0, seesF w c j), (0, ((j : Nat) : Int))] [] w 142 Q9 := by
    intro m9
    induction m9 using Nat.strongRecOn with
    | ind m9 ih4 =>
    intro j hm4 hI4
    refine qG.blk 2 (pc' := 7) (ls' := [(2, 95), (0, ((c : Nat) : Int)), (0, seesF w c j), (0, ((j : Nat) : Int))]) (st' := [(0, 10), (0, ((j : Nat) : Int))]) (w' := w) (n' := 142) rfl ?_
    refine qG.br (P := ((j : Nat) : Int) < 10) (pc1 := 10) (pc2 := 68) (st1 := []) rfl (fun hj => ?_) (fun hj => ?_)
    · skip
      refine qG.blk 7 (pc' := 19) (ls' := [(2, 95), (0, ((c : Nat) : Int)), (0, seesF w c j), (0, ((j : Nat) : Int))]) (st' := [(0, 1), (0, qand (qshr (w 95 41) ((j : Nat) : Int)) 1)]) (w' := w) (n' := 142) rfl ?_
      refine qG.br (P := qand (qshr (w 95 41) ((j : Nat) : Int)) 1 = 1) (pc1 := 22) (pc2 := 62) (st1 := []) rfl (fun hbit => ?_) (fun hbit => ?_)
      · skip
        refine qG.blk 2 (pc' := 26) (ls' := [(2, 95), (0, ((c : Nat) : Int)), (0, seesF w c j), (0, ((j : Nat) : Int))]) (st' := [(2, w 95 1)]) (w' := w) (n' := 142) rfl ?_
        rw [show w 95 1 = 97 from zref hI rfl rfl]
        refine qG.blk 3 (pc' := 30) (ls' := [(2, 95), (0, ((c : Nat) : Int)), (0, seesF w c j), (0, ((j : Nat) : Int))]) (st' := [(0, wrp (10 * ((c : Nat) : Int))), (2, 97)]) (w' := w) (n' := 142) rfl ?_
        rw [show wrp (10 * ((c : Nat) : Int)) = ((10 * c : Nat) : Int) from by rw [wrp_id (by omega) (by omega)]; omega]
        refine qG.blk 2 (pc' := 32) (ls' := [(2, 95), (0, ((c : Nat) : Int)), (0, seesF w c j), (0, ((j : Nat) : Int))]) (st' := [(0, wrp (((10 * c : Nat) : Int) + ((j : Nat) : Int))), (2, 97)]) (w' := w) (n' := 142) rfl ?_
        rw [show wrp (((10 * c : Nat) : Int) + ((j : Nat) : Int)) = ((10 * c + j : Nat) : Int) from by rw [wrp_id (by omega) (by omega)]; omega]
        refine qG.ar (P := 0 ≤ ((10 * c + j : Nat) : Int) ∧ ((10 * c + j : Nat) : Int) < ((30 : Nat) : Int)) (P2 := 0 < (97 : Int) ∧ (97 : Int) ≤ ((142 : Nat) : Int)) (pc' := 33) (ls' := [(2, 95), (0, ((c : Nat) : Int)), (0, seesF w c j), (0, ((j : Nat) : Int))]) (st' := [(0, w 97 (10 * c + j))]) (w' := w) (n' := 142) rfl (by omega) (by decide) ?_
        refine qG.blk 2 (pc' := 37) (ls' := [(2, 95), (0, ((c : Nat) : Int)), (0, seesF w c j), (0, ((j : Nat) : Int))]) (st' := [(0, w 95 43), (0, w 97 (10 * c + j))]) (w' := w) (n' := 142) rfl ?_
        refine qG.br (P := w 97 (10 * c + j) = w 95 43) (pc1 := 40) (pc2 := 62) (st1 := []) rfl (fun hfr => ?_) (fun hfr => ?_)
        · skip
          refine qG.blk 7 (pc' := 49) (ls' := [(2, 95), (0, ((c : Nat) : Int)), (0, seesF w c j), (0, ((j : Nat) : Int))]) (st' := [(0, w 95 42), (0, ((j : Nat) : Int)), (0, ((j : Nat) : Int)), (0, ((c : Nat) : Int)), (2, 95), (0, seesF w c j)]) (w' := w) (n' := 142) rfl ?_
          refine qG.br (P := ((j : Nat) : Int) = w 95 42) (pc1 := 52) (pc2 := 56) (st1 := [(0, ((j : Nat) : Int)), (0, ((c : Nat) : Int)), (2, 95), (0, seesF w c j)]) rfl (fun hcd => ?_) (fun hcd => ?_)
          · skip
            refine qG.blk 2 (pc' := 57) (ls' := [(2, 95), (0, ((c : Nat) : Int)), (0, seesF w c j), (0, ((j : Nat) : Int))]) (st' := [(0, 1), (0, ((j : Nat) : Int)), (0, ((c : Nat) : Int)), (2, 95), (0, seesF w c j)]) (w' := w) (n' := 142) rfl ?_
            refine qG.call (t := 250) (na := 4) (sk := 1) (md := 1) (ls1 := [(2, 95), (0, ((c : Nat) : Int)), (0, ((j : Nat) : Int)), (0, 1), (9, 0), (9, 0)]) (r1 := [(0, seesF w c j)]) rfl rfl rfl rfl rfl (K_through (by omega) c j (1) hc (by omega) w hI) ?_
            rintro _ w7 _ ⟨rfl, hw7, rfl⟩
            rw [hw7]
            show qG none (d + 1) 249 60 [(2, 95), (0, ((c : Nat) : Int)), (0, seesF w c j), (0, ((j : Nat) : Int))] [(0, thrF w c j (1)), (0, seesF w c j)] w 142 Q9
            refine qG.blk 3 (pc' := 65) (ls' := [(2, 95), (0, ((c : Nat) : Int)), (0, qor (seesF w c j) (thrF w c j (1))), (0, wrp (((j : Nat) : Int) + 1))]) (st' := []) (w' := w) (n' := 142) rfl ?_
            rw [show wrp (((j : Nat) : Int) + 1) = ((j + 1 : Nat) : Int) from wrp_id (by omega) (by omega)]
            refine qG.blk 1 (pc' := 4) (ls' := [(2, 95), (0, ((c : Nat) : Int)), (0, qor (seesF w c j) (thrF w c j (1))), (0, ((j + 1 : Nat) : Int))]) (st' := []) (w' := w) (n' := 142) rfl ?_
            have e9 : seesF w c (j + 1) = qor (seesF w c j) (thrF w c j (1)) := by rw [seesF_s]; first | (rw [if_pos hbit, if_pos hfr, if_pos hcd]; done) | (rw [if_pos hbit, if_pos hfr, if_neg hcd]; done) | (rw [if_pos hbit, if_neg hfr]; done) | (rw [if_neg hbit]; done)
            exact e9 ▸ ih4 _ (by omega) (j + 1) rfl (by omega)
          · skip
            refine qG.blk 1 (pc' := 57) (ls' := [(2, 95), (0, ((c : Nat) : Int)), (0, seesF w c j), (0, ((j : Nat) : Int))]) (st' := [(0, 0), (0, ((j : Nat) : Int)), (0, ((c : Nat) : Int)), (2, 95), (0, seesF w c j)]) (w' := w) (n' := 142) rfl ?_
            refine qG.call (t := 250) (na := 4) (sk := 1) (md := 1) (ls1 := [(2, 95), (0, ((c : Nat) : Int)), (0, ((j : Nat) : Int)), (0, 0), (9, 0), (9, 0)]) (r1 := [(0, seesF w c j)]) rfl rfl rfl rfl rfl (K_through (by omega) c j (0) hc (by omega) w hI) ?_
            rintro _ w7 _ ⟨rfl, hw7, rfl⟩
            rw [hw7]
            show qG none (d + 1) 249 60 [(2, 95), (0, ((c : Nat) : Int)), (0, seesF w c j), (0, ((j : Nat) : Int))] [(0, thrF w c j (0)), (0, seesF w c j)] w 142 Q9
            refine qG.blk 3 (pc' := 65) (ls' := [(2, 95), (0, ((c : Nat) : Int)), (0, qor (seesF w c j) (thrF w c j (0))), (0, wrp (((j : Nat) : Int) + 1))]) (st' := []) (w' := w) (n' := 142) rfl ?_
            rw [show wrp (((j : Nat) : Int) + 1) = ((j + 1 : Nat) : Int) from wrp_id (by omega) (by omega)]
            refine qG.blk 1 (pc' := 4) (ls' := [(2, 95), (0, ((c : Nat) : Int)), (0, qor (seesF w c j) (thrF w c j (0))), (0, ((j + 1 : Nat) : Int))]) (st' := []) (w' := w) (n' := 142) rfl ?_
            have e9 : seesF w c (j + 1) = qor (seesF w c j) (thrF w c j (0)) := by rw [seesF_s]; first | (rw [if_pos hbit, if_pos hfr, if_pos hcd]; done) | (rw [if_pos hbit, if_pos hfr, if_neg hcd]; done) | (rw [if_pos hbit, if_neg hfr]; done) | (rw [if_neg hbit]; done)
            exact e9 ▸ ih4 _ (by omega) (j + 1) rfl (by omega)
        · skip
          refine qG.blk 1 (pc' := 65) (ls' := [(2, 95), (0, ((c : Nat) : Int)), (0, seesF w c j), (0, wrp (((j : Nat) : Int) + 1))]) (st' := []) (w' := w) (n' := 142) rfl ?_
          rw [show wrp (((j : Nat) : Int) + 1) = ((j + 1 : Nat) : Int) from wrp_id (by omega) (by omega)]
          refine qG.blk 1 (pc' := 4) (ls' := [(2, 95), (0, ((c : Nat) : Int)), (0, seesF w c j), (0, ((j + 1 : Nat) : Int))]) (st' := []) (w' := w) (n' := 142) rfl ?_
          have e9 : seesF w c (j + 1) = seesF w c j := by rw [seesF_s]; first | (rw [if_pos hbit, if_pos hfr, if_pos hcd]; done) | (rw [if_pos hbit, if_pos hfr, if_neg hcd]; done) | (rw [if_pos hbit, if_neg hfr]; done) | (rw [if_neg hbit]; done)
          exact e9 ▸ ih4 _ (by omega) (j + 1) rfl (by omega)
      · skip
        refine qG.blk 1 (pc' := 65) (ls' := [(2, 95), (0, ((c : Nat) : Int)), (0, seesF w c j), (0, wrp (((j : Nat) : Int) + 1))]) (st' := []) (w' := w) (n' := 142) rfl ?_
        rw [show wrp (((j : Nat) : Int) + 1) = ((j + 1 : Nat) : Int) from wrp_id (by omega) (by omega)]
        refine qG.blk 1 (pc' := 4) (ls' := [(2, 95), (0, ((c : Nat) : Int)), (0, seesF w c j), (0, ((j + 1 : Nat) : Int))]) (st' := []) (w' := w) (n' := 142) rfl ?_
        have e9 : seesF w c (j + 1) = seesF w c j := by rw [seesF_s]; first | (rw [if_pos hbit, if_pos hfr, if_pos hcd]; done) | (rw [if_pos hbit, if_pos hfr, if_neg hcd]; done) | (rw [if_pos hbit, if_neg hfr]; done) | (rw [if_neg hbit]; done)
        exact e9 ▸ ih4 _ (by omega) (j + 1) rfl (by omega)
    · skip
      refine qG.blk 1 (pc' := 69) (ls' := [(2, 95), (0, ((c : Nat) : Int)), (0, seesF w c j), (0, ((j : Nat) : Int))]) (st' := [(0, seesF w c j)]) (w' := w) (n' := 142) rfl ?_
      refine qG.ret rfl rfl ?_
      subst hQ9
      exact ⟨by rw [show j = 10 by omega], rfl, rfl⟩
  exact L4 _ (0) rfl (by omega)
/-- what a step does at once -/
noncomputable def dA (kind what : Int) (w : qW) : qW :=
  if kind = 0 then qup w 95 41 (qor (w 95 41) (qshl 1 what)) else if kind = 1 then qup w 95 41 (qand (w 95 41) (qxor (qshl 1 what) (-1))) else if kind = 3 then qup w 95 42 what else if kind = 4 then qup w 95 42 (-1)
  else if kind = 5 then qup (qup w 95 43 (1 - w 95 43)) 95 40 (wrp (w 95 40 + 1)) else w
/-- what is seen for n seconds -/
noncomputable def dB (v : Int) (s : Nat) (w : qW) : Nat → qW
  | 0 => w
  | i + 1 => qup (qup (dB v s w i) 116 (s + i) v) 95 37 ((s + i + 1 : Nat) : Int)
noncomputable def dC (v : Int) (w : qW) : qW := qup w 95 38 (qor (w 95 38) v)
noncomputable def dD (w : qW) : qW := qup w 95 39 (if w 95 39 < bitsF (w 95 41) 16 then bitsF (w 95 41) 16 else w 95 39)
noncomputable def dN (kind what : Int) : Nat := if kind = 2 then what.toNat else 1
/-- the state behind a step -/
noncomputable def doesW (w : qW) (c : Nat) (kind what : Int) : qW := dD (dC (seesF (dA kind what w) c 10) (dB (seesF (dA kind what w) c 10) (w 95 37).toNat (dA kind what w) (dN kind what)))
theorem dA_o {kind what : Int} {w : qW} {p j : Nat} (h : ¬ (p = 95 ∧ (j = 41 ∨ j = 42 ∨ j = 43 ∨ j = 40))) : dA kind what w p j = w p j := by
  have k : ∀ (v : qW) (q : Nat) (x : Int), (q = 41 ∨ q = 42 ∨ q = 43 ∨ q = 40) → qup v 95 q x p j = v p j := fun v q x hq => by
    by_cases hp : p = 95
    · subst hp
      exact qup_j (fun z => h ⟨rfl, by omega⟩)
    · rw [qup_ne hp]
  unfold dA
  (repeat' split) <;> first | rfl | (rw [k _ _ _ (by omega), k _ _ _ (by omega)]; done) | (rw [k _ _ _ (by omega)]; done)
theorem dB_o {v : Int} {s : Nat} {w : qW} {p j : Nat} (h1 : p ≠ 116) (h2 : ¬ (p = 95 ∧ j = 37)) : ∀ i, dB v s w i p j = w p j
  | 0 => rfl
  | i + 1 => by
    show qup (qup (dB v s w i) 116 (s + i) v) 95 37 _ p j = _
    by_cases hp : p = 95
    · subst hp
      rw [qup_j (fun z => h2 ⟨rfl, z⟩), qup_ne (by decide)]; exact dB_o h1 h2 i
    · rw [qup_ne hp, qup_ne h1]; exact dB_o h1 h2 i
theorem dB_s {v : Int} {s : Nat} {w : qW} (h : w 95 37 = (s : Int)) : ∀ i, dB v s w i 95 37 = ((s + i : Nat) : Int)
  | 0 => h
  | i + 1 => by show qup _ 95 37 _ 95 37 = _; rw [qup_k]; rfl
theorem dB_I {v : Int} {s : Nat} {w : qW} (hI : yInv zgf zga zra zSp w) (hv : yin (-2147483648, 2147483647) v) : ∀ i, s + i ≤ 800 → yInv zgf zga zra zSp (dB v s w i)
  | 0, _ => hI
  | i + 1, h => zup_f (zup_a (dB_I hI hv i (by omega)) (b := (-2147483648, 2147483647)) rfl rfl hv) (b := (0, 800)) rfl rfl rfl ⟨by show (0 : Int) ≤ _; omega, by show _ ≤ (800 : Int); omega⟩
theorem zfld {w : qW} (hI : yInv zgf zga zra zSp w) {j : Nat} {b : yI} (hg : zgf 95 j = some b) : yin b (w 95 j) := hI.1 95 j b hg rfl
theorem dA_I {kind what : Int} {w : qW} (hI : yInv zgf zga zra zSp w) (hw : yin (-2147483648, 2147483647) what) : yInv zgf zga zra zSp (dA kind what w) := by
  have h43 := zfld hI (j := 43) (b := (0, 1)) rfl
  have a1 : (0 : Int) ≤ w 95 43 := h43.1
  have a2 : w 95 43 ≤ (1 : Int) := h43.2
  unfold dA
  split
  · exact zup_f hI (b := (-2147483648, 2147483647)) rfl rfl rfl (qor_32 _ _)
  split
  · exact zup_f hI (b := (-2147483648, 2147483647)) rfl rfl rfl (qand_32 _ _)
  split
  · exact zup_f hI (b := (-2147483648, 2147483647)) rfl rfl rfl hw
  split
  · exact zup_f hI (b := (-2147483648, 2147483647)) rfl rfl rfl ⟨by decide, by decide⟩
  split
  · exact zup_f (zup_f hI (b := (0, 1)) rfl rfl rfl ⟨by show (0 : Int) ≤ _; omega, by show _ ≤ (1 : Int); omega⟩) (b := (-2147483648, 2147483647)) rfl rfl rfl (wrp_32 _)
  · exact hI
theorem dC_I {v : Int} {w : qW} (hI : yInv zgf zga zra zSp w) : yInv zgf zga zra zSp (dC v w) := zup_f hI (b := (-2147483648, 2147483647)) rfl rfl rfl (qor_32 _ _)
theorem dD_I {w : qW} (hI : yInv zgf zga zra zSp w) : yInv zgf zga zra zSp (dD w) := by
  have h39 := zfld hI (j := 39) (b := (0, 16)) rfl
  have hb := bitsF_in (w 95 41) 16
  refine zup_f hI (b := (0, 16)) rfl rfl rfl ?_
  split
  · exact ⟨hb.1, hb.2⟩
  · exact h39
theorem doesW_s {w : qW} {c : Nat} {kind what : Int} (hI : yInv zgf zga zra zSp w) : doesW w c kind what 95 37 = w 95 37 + (dN kind what : Nat) := by
  have h37 := zfld hI (j := 37) (b := (0, 800)) rfl
  have a1 : (0 : Int) ≤ w 95 37 := h37.1
  unfold doesW dD dC
  rw [qup_j (by decide), qup_j (by decide), dB_s (by rw [dA_o (by omega)]; omega)]
  omega
theorem doesW_I {w : qW} {c : Nat} {kind what : Int} (hI : yInv zgf zga zra zSp w) (hw : yin (-2147483648, 2147483647) what) (hs : w 95 37 + (dN kind what : Nat) ≤ 800) : yInv zgf zga zra zSp (doesW w c kind what) := by
  have h37 := zfld hI (j := 37) (b := (0, 800)) rfl
  have a1 : (0 : Int) ≤ w 95 37 := h37.1
  exact dD_I (dC_I (dB_I (dA_I hI hw) (seesF_32 10) _ (by omega)))
theorem doesW_o {w : qW} {c : Nat} {kind what : Int} {p j : Nat} (h1 : p ≠ 116) (h2 : ¬ (p = 95 ∧ 37 ≤ j ∧ j ≤ 43)) : doesW w c kind what p j = w p j := by
  have k : ∀ (v : qW) (q : Nat) (x : Int), (q = 38 ∨ q = 39) → qup v 95 q x p j = v p j := fun v q x hq => by
    by_cases hp : p = 95
    · subst hp
      exact qup_j (fun z => h2 ⟨rfl, by omega⟩)
    · rw [qup_ne hp]
  unfold doesW dD dC
  rw [k _ _ _ (by omega), k _ _ _ (by omega), dB_o h1 (by omega), dA_o (by omega)]
theorem K_doesB0 {d : Nat} (hd : 1 ≤ d) (c : Nat) (what : Int) (hw0 : -2147483648 ≤ what ∧ what ≤ 2147483647) (s : Nat) (v : Int) (hv : yin (-2147483648, 2147483647) v) (wA : qW) (hIA : yInv zgf zga zra zSp wA) (hs : wA 95 37 = (s : Int)) (hs8 : s + dN 0 what ≤ 800) : qG none d 252 85 [(2, 95), (0, ((c : Nat) : Int)), (0, 0), (0, what), (9, 0), (9, 0)] [(0, v)] wA 142 (fun (r : qV) (w1 : qW) (n1 : Nat) => r = (9, 0) ∧ w1 = dD (dC v (dB v s wA (dN 0 what))) ∧ n1 = 142) := by
  generalize hQ9 : (fun (r : qV) (w1 : qW) (n1 : Nat) => r = (9, 0) ∧ w1 = dD (dC v (dB v s wA (dN 0 what))) ∧ n1 = 142) = Q9
  obtain ⟨d, rfl⟩ : ∃ d9, d = d9 + 1 := ⟨d - 1, by omega⟩
  have hdn : dN 0 what = 1 := rfl
  refine qG.blk 3 (pc' := 90) (ls' := [(2, 95), (0, ((c : Nat) : Int)), (0, 0), (0, what), (0, v), (0, 0)]) (st' := []) (w' := wA) (n' := 142) rfl ?_
  have L90 : ∀ (m9 : Nat) (i : Nat) (wB : qW), dN 0 what - i = m9 → (i ≤ dN 0 what ∧ wB = dB v s wA i) → qG none (d + 1) 252 90 [(2, 95), (0, ((c : Nat) : Int)), (0, 0), (0, what), (0, v), (0, ((i : Nat) : Int))] [] wB 142 Q9 := by
    intro m9
    induction m9 using Nat.strongRecOn with
    | ind m9 ih90 =>
    intro i wB hm90 hI90
    obtain ⟨hi9, hwB⟩ := hI90
    refine qG.blk 3 (pc' := 94) (ls' := [(2, 95), (0, ((c : Nat) : Int)), (0, 0), (0, what), (0, v), (0, ((i : Nat) : Int))]) (st' := [(0, 2), (0, 0), (0, ((i : Nat) : Int))]) (w' := wB) (n' := 142) rfl ?_
    refine qG.br (P := (0 : Int) = 2) (pc1 := 97) (pc2 := 101) (st1 := [(0, ((i : Nat) : Int))]) rfl (fun h1 => ?_) (fun h1 => ?_)
    · exact absurd h1 (by decide)
    · skip
      refine qG.blk 1 (pc' := 102) (ls' := [(2, 95), (0, ((c : Nat) : Int)), (0, 0), (0, what), (0, v), (0, ((i : Nat) : Int))]) (st' := [(0, 1), (0, ((i : Nat) : Int))]) (w' := wB) (n' := 142) rfl ?_
      refine qG.br (P := ((i : Nat) : Int) < 1) (pc1 := 105) (pc2 := 132) (st1 := []) rfl (fun hlim => ?_) (fun hlim => ?_)
      · skip
        refine qG.blk 2 (pc' := 109) (ls' := [(2, 95), (0, ((c : Nat) : Int)), (0, 0), (0, what), (0, v), (0, ((i : Nat) : Int))]) (st' := [(2, wB 95 36)]) (w' := wB) (n' := 142) rfl ?_
        rw [show wB 95 36 = 116 from (congrFun (congrFun hwB 95) 36).trans ((dB_o (by decide) (by omega) i).trans (zref hIA rfl rfl))]
        refine qG.blk 2 (pc' := 113) (ls' := [(2, 95), (0, ((c : Nat) : Int)), (0, 0), (0, what), (0, v), (0, ((i : Nat) : Int))]) (st' := [(0, wB 95 37), (2, 116)]) (w' := wB) (n' := 142) rfl ?_
        rw [show wB 95 37 = ((s + i : Nat) : Int) from (congrFun (congrFun hwB 95) 37).trans (dB_s hs i)]
        refine qG.blk 1 (pc' := 115) (ls' := [(2, 95), (0, ((c : Nat) : Int)), (0, 0), (0, what), (0, v), (0, ((i : Nat) : Int))]) (st' := [(0, v), (0, ((s + i : Nat) : Int)), (2, 116)]) (w' := wB) (n' := 142) rfl ?_
        refine qG.ist (m := 900) rfl rfl (by omega) (by decide) ?_
        show qG none (d + 1) 252 116 [(2, 95), (0, ((c : Nat) : Int)), (0, 0), (0, what), (0, v), (0, ((i : Nat) : Int))] [] (qup wB 116 (s + i) v) 142 Q9
        refine qG.blk 3 (pc' := 121) (ls' := [(2, 95), (0, ((c : Nat) : Int)), (0, 0), (0, what), (0, v), (0, ((i : Nat) : Int))]) (st' := [(0, wB 95 37), (2, 95)]) (w' := (qup wB 116 (s + i) v)) (n' := 142) rfl ?_
        rw [show wB 95 37 = ((s + i : Nat) : Int) from (congrFun (congrFun hwB 95) 37).trans (dB_s hs i)]
        refine qG.blk 2 (pc' := 123) (ls' := [(2, 95), (0, ((c : Nat) : Int)), (0, 0), (0, what), (0, v), (0, ((i : Nat) : Int))]) (st' := [(0, wrp (((s + i : Nat) : Int) + 1)), (2, 95)]) (w' := (qup wB 116 (s + i) v)) (n' := 142) rfl ?_
        rw [show wrp (((s + i : Nat) : Int) + 1) = ((s + i + 1 : Nat) : Int) from by rw [wrp_id (by omega) (by omega)]; omega]
        refine qG.blk 2 (pc' := 129) (ls' := [(2, 95), (0, ((c : Nat) : Int)), (0, 0), (0, what), (0, v), (0, wrp (((i : Nat) : Int) + 1))]) (st' := []) (w' := (qup (qup wB 116 (s + i) v) 95 37 ((s + i + 1 : Nat) : Int))) (n' := 142) rfl ?_
        rw [show wrp (((i : Nat) : Int) + 1) = ((i + 1 : Nat) : Int) from wrp_id (by omega) (by omega)]
        refine qG.blk 1 (pc' := 90) (ls' := [(2, 95), (0, ((c : Nat) : Int)), (0, 0), (0, what), (0, v), (0, ((i + 1 : Nat) : Int))]) (st' := []) (w' := (qup (qup wB 116 (s + i) v) 95 37 ((s + i + 1 : Nat) : Int))) (n' := 142) rfl ?_
        exact ih90 _ (by omega) (i + 1) ((qup (qup wB 116 (s + i) v) 95 37 ((s + i + 1 : Nat) : Int))) rfl (⟨by omega, by rw [hwB]; rfl⟩)
      · skip
        refine qG.blk 8 (pc' := 147) (ls' := [(2, 95), (0, ((c : Nat) : Int)), (0, 0), (0, what), (0, v), (0, ((i : Nat) : Int))]) (st' := [(0, wB 95 41)]) (w' := (qup wB 95 38 (qor (wB 95 38) v))) (n' := 142) rfl ?_
        refine qG.call (t := 211) (na := 1) (sk := 0) (md := 0) (ls1 := [(0, wB 95 41), (9, 0), (9, 0)]) (r1 := []) rfl rfl rfl rfl rfl (K_bits (by omega) _ _) ?_
        rintro _ w7 _ ⟨rfl, hw7, rfl⟩
        rw [hw7]
        show qG none (d + 1) 252 150 [(2, 95), (0, ((c : Nat) : Int)), (0, 0), (0, what), (0, v), (0, ((i : Nat) : Int))] [(0, bitsF (wB 95 41) 16)] (qup wB 95 38 (qor (wB 95 38) v)) 142 Q9
        refine qG.blk 5 (pc' := 159) (ls' := [(2, 95), (0, ((c : Nat) : Int)), (0, 0), (0, what), (0, v), (0, bitsF (wB 95 41) 16)]) (st' := [(0, wB 95 39), (0, bitsF (wB 95 41) 16), (2, 95)]) (w' := (qup wB 95 38 (qor (wB 95 38) v))) (n' := 142) rfl ?_
        refine qG.br (P := wB 95 39 < bitsF (wB 95 41) 16) (pc1 := 162) (pc2 := 167) (st1 := [(2, 95)]) rfl (fun h2 => ?_) (fun h2 => ?_)
        · skip
          refine qG.blk 3 (pc' := 174) (ls' := [(2, 95), (0, ((c : Nat) : Int)), (0, 0), (0, what), (0, v), (0, bitsF (wB 95 41) 16)]) (st' := []) (w' := (qup (qup wB 95 38 (qor (wB 95 38) v)) 95 39 (bitsF (wB 95 41) 16))) (n' := 142) rfl ?_
          refine qG.retv rfl rfl ?_
          subst hQ9
          refine ⟨rfl, ?_, rfl⟩
          have hi : i = dN 0 what := by omega
          subst hwB
          subst hi
          unfold dD dC
          simp only [qup_k, qup_j (show (39 : Nat) ≠ 38 by decide), qup_j (show (41 : Nat) ≠ 38 by decide)] at *
          first | rw [if_pos (by omega)] | rw [if_neg (by omega)]
        · skip
          refine qG.blk 3 (pc' := 174) (ls' := [(2, 95), (0, ((c : Nat) : Int)), (0, 0), (0, what), (0, v), (0, bitsF (wB 95 41) 16)]) (st' := []) (w' := (qup (qup wB 95 38 (qor (wB 95 38) v)) 95 39 (wB 95 39))) (n' := 142) rfl ?_
          refine qG.retv rfl rfl ?_
          subst hQ9
          refine ⟨rfl, ?_, rfl⟩
          have hi : i = dN 0 what := by omega
          subst hwB
          subst hi
          unfold dD dC
          simp only [qup_k, qup_j (show (39 : Nat) ≠ 38 by decide), qup_j (show (41 : Nat) ≠ 38 by decide)] at *
          first | rw [if_pos (by omega)] | rw [if_neg (by omega)]
  exact L90 _ (0) (wA) rfl (⟨by omega, rfl⟩)
theorem K_does0 {d : Nat} (hd : 2 ≤ d) (c : Nat) (what : Int) (hc : c < 3) (hw0 : yin (-2147483648, 2147483647) what) (w : qW) (hI : yInv zgf zga zra zSp w) (hs8 : w 95 37 + (dN 0 what : Nat) ≤ 800) : qG none d 252 0 [(2, 95), (0, ((c : Nat) : Int)), (0, 0), (0, what), (9, 0), (9, 0)] [] w 142 (fun (r : qV) (w1 : qW) (n1 : Nat) => r = (9, 0) ∧ w1 = doesW w c 0 what ∧ n1 = 142) := by
  generalize hQ9 : (fun (r : qV) (w1 : qW) (n1 : Nat) => r = (9, 0) ∧ w1 = doesW w c 0 what ∧ n1 = 142) = Q9
  have h43 := zfld hI (j := 43) (b := (0, 1)) rfl
  have a43 : (0 : Int) ≤ w 95 43 := h43.1
  have b43 : w 95 43 ≤ (1 : Int) := h43.2
  have h37 := zfld hI (j := 37) (b := (0, 800)) rfl
  have a37 : (0 : Int) ≤ w 95 37 := h37.1
  have hIA : yInv zgf zga zra zSp (dA 0 what w) := dA_I hI hw0
  obtain ⟨d, rfl⟩ : ∃ d9, d = d9 + 1 := ⟨d - 1, by omega⟩
  refine qG.blk 1 (pc' := 1) (ls' := [(2, 95), (0, ((c : Nat) : Int)), (0, 0), (0, what), (9, 0), (9, 0)]) (st' := [(0, 0)]) (w' := w) (n' := 142) rfl ?_
  refine qG.br (P := (0 : Int) = 0) (pc1 := 4) (pc2 := 16) (st1 := []) rfl (fun h1 => ?_) (fun h1 => ?_)
  · skip
    refine qG.blk 10 (pc' := 18) (ls' := [(2, 95), (0, ((c : Nat) : Int)), (0, 0), (0, what), (9, 0), (9, 0)]) (st' := [(0, 1), (0, 0)]) (w' := (qup w 95 41 (qor (w 95 41) (qshl 1 what)))) (n' := 142) rfl ?_
    refine qG.br (P := (0 : Int) = 1) (pc1 := 21) (pc2 := 35) (st1 := []) rfl (fun h2 => ?_) (fun h2 => ?_)
    · exact absurd h2 (by decide)
    · skip
      refine qG.blk 2 (pc' := 37) (ls' := [(2, 95), (0, ((c : Nat) : Int)), (0, 0), (0, what), (9, 0), (9, 0)]) (st' := [(0, 3), (0, 0)]) (w' := (qup w 95 41 (qor (w 95 41) (qshl 1 what)))) (n' := 142) rfl ?_
      refine qG.br (P := (0 : Int) = 3) (pc1 := 40) (pc2 := 45) (st1 := []) rfl (fun h3 => ?_) (fun h3 => ?_)
      · exact absurd h3 (by decide)
      · skip
        refine qG.blk 2 (pc' := 47) (ls' := [(2, 95), (0, ((c : Nat) : Int)), (0, 0), (0, what), (9, 0), (9, 0)]) (st' := [(0, 4), (0, 0)]) (w' := (qup w 95 41 (qor (w 95 41) (qshl 1 what)))) (n' := 142) rfl ?_
        refine qG.br (P := (0 : Int) = 4) (pc1 := 50) (pc2 := 55) (st1 := []) rfl (fun h4 => ?_) (fun h4 => ?_)
        · exact absurd h4 (by decide)
        · skip
          refine qG.blk 2 (pc' := 57) (ls' := [(2, 95), (0, ((c : Nat) : Int)), (0, 0), (0, what), (9, 0), (9, 0)]) (st' := [(0, 5), (0, 0)]) (w' := (qup w 95 41 (qor (w 95 41) (qshl 1 what)))) (n' := 142) rfl ?_
          refine qG.br (P := (0 : Int) = 5) (pc1 := 60) (pc2 := 80) (st1 := []) rfl (fun h5 => ?_) (fun h5 => ?_)
          · exact absurd h5 (by decide)
          · skip
            refine qG.blk 2 (pc' := 82) (ls' := [(2, 95), (0, ((c : Nat) : Int)), (0, 0), (0, what), (9, 0), (9, 0)]) (st' := [(0, ((c : Nat) : Int)), (2, 95)]) (w' := (qup w 95 41 (qor (w 95 41) (qshl 1 what)))) (n' := 142) rfl ?_
            refine qG.call (t := 249) (na := 2) (sk := 1) (md := 1) (ls1 := [(2, 95), (0, ((c : Nat) : Int)), (9, 0), (9, 0)]) (r1 := []) rfl rfl rfl rfl rfl (K_sees (by omega) c hc ((qup w 95 41 (qor (w 95 41) (qshl 1 what)))) hIA) ?_
            rintro _ w7 _ ⟨rfl, hw7, rfl⟩
            rw [hw7]
            subst hQ9
            exact K_doesB0 (by omega) c what hw0 (w 95 37).toNat _ (seesF_32 10) (dA 0 what w) hIA (by rw [dA_o (by omega)]; omega) (by omega)
  · exact absurd h1 (by decide)
theorem K_doesB1 {d : Nat} (hd : 1 ≤ d) (c : Nat) (what : Int) (hw0 : -2147483648 ≤ what ∧ what ≤ 2147483647) (s : Nat) (v : Int) (hv : yin (-2147483648, 2147483647) v) (wA : qW) (hIA : yInv zgf zga zra zSp wA) (hs : wA 95 37 = (s : Int)) (hs8 : s + dN 1 what ≤ 800) : qG none d 252 85 [(2, 95), (0, ((c : Nat) : Int)), (0, 1), (0, what), (9, 0), (9, 0)] [(0, v)] wA 142 (fun (r : qV) (w1 : qW) (n1 : Nat) => r = (9, 0) ∧ w1 = dD (dC v (dB v s wA (dN 1 what))) ∧ n1 = 142) := by
  generalize hQ9 : (fun (r : qV) (w1 : qW) (n1 : Nat) => r = (9, 0) ∧ w1 = dD (dC v (dB v s wA (dN 1 what))) ∧ n1 = 142) = Q9
  obtain ⟨d, rfl⟩ : ∃ d9, d = d9 + 1 := ⟨d - 1, by omega⟩
  have hdn : dN 1 what = 1 := rfl
  refine qG.blk 3 (pc' := 90) (ls' := [(2, 95), (0, ((c : Nat) : Int)), (0, 1), (0, what), (0, v), (0, 0)]) (st' := []) (w' := wA) (n' := 142) rfl ?_
  have L90 : ∀ (m9 : Nat) (i : Nat) (wB : qW), dN 1 what - i = m9 → (i ≤ dN 1 what ∧ wB = dB v s wA i) → qG none (d + 1) 252 90 [(2, 95), (0, ((c : Nat) : Int)), (0, 1), (0, what), (0, v), (0, ((i : Nat) : Int))] [] wB 142 Q9 := by
    intro m9
    induction m9 using Nat.strongRecOn with
    | ind m9 ih90 =>
    intro i wB hm90 hI90
    obtain ⟨hi9, hwB⟩ := hI90
    refine qG.blk 3 (pc' := 94) (ls' := [(2, 95), (0, ((c : Nat) : Int)), (0, 1), (0, what), (0, v), (0, ((i : Nat) : Int))]) (st' := [(0, 2), (0, 1), (0, ((i : Nat) : Int))]) (w' := wB) (n' := 142) rfl ?_
    refine qG.br (P := (1 : Int) = 2) (pc1 := 97) (pc2 := 101) (st1 := [(0, ((i : Nat) : Int))]) rfl (fun h1 => ?_) (fun h1 => ?_)
    · exact absurd h1 (by decide)
    · skip
      refine qG.blk 1 (pc' := 102) (ls' := [(2, 95), (0, ((c : Nat) : Int)), (0, 1), (0, what), (0, v), (0, ((i : Nat) : Int))]) (st' := [(0, 1), (0, ((i : Nat) : Int))]) (w' := wB) (n' := 142) rfl ?_
      refine qG.br (P := ((i : Nat) : Int) < 1) (pc1 := 105) (pc2 := 132) (st1 := []) rfl (fun hlim => ?_) (fun hlim => ?_)
      · skip
        refine qG.blk 2 (pc' := 109) (ls' := [(2, 95), (0, ((c : Nat) : Int)), (0, 1), (0, what), (0, v), (0, ((i : Nat) : Int))]) (st' := [(2, wB 95 36)]) (w' := wB) (n' := 142) rfl ?_
        rw [show wB 95 36 = 116 from (congrFun (congrFun hwB 95) 36).trans ((dB_o (by decide) (by omega) i).trans (zref hIA rfl rfl))]
        refine qG.blk 2 (pc' := 113) (ls' := [(2, 95), (0, ((c : Nat) : Int)), (0, 1), (0, what), (0, v), (0, ((i : Nat) : Int))]) (st' := [(0, wB 95 37), (2, 116)]) (w' := wB) (n' := 142) rfl ?_
        rw [show wB 95 37 = ((s + i : Nat) : Int) from (congrFun (congrFun hwB 95) 37).trans (dB_s hs i)]
        refine qG.blk 1 (pc' := 115) (ls' := [(2, 95), (0, ((c : Nat) : Int)), (0, 1), (0, what), (0, v), (0, ((i : Nat) : Int))]) (st' := [(0, v), (0, ((s + i : Nat) : Int)), (2, 116)]) (w' := wB) (n' := 142) rfl ?_
        refine qG.ist (m := 900) rfl rfl (by omega) (by decide) ?_
        show qG none (d + 1) 252 116 [(2, 95), (0, ((c : Nat) : Int)), (0, 1), (0, what), (0, v), (0, ((i : Nat) : Int))] [] (qup wB 116 (s + i) v) 142 Q9
        refine qG.blk 3 (pc' := 121) (ls' := [(2, 95), (0, ((c : Nat) : Int)), (0, 1), (0, what), (0, v), (0, ((i : Nat) : Int))]) (st' := [(0, wB 95 37), (2, 95)]) (w' := (qup wB 116 (s + i) v)) (n' := 142) rfl ?_
        rw [show wB 95 37 = ((s + i : Nat) : Int) from (congrFun (congrFun hwB 95) 37).trans (dB_s hs i)]
        refine qG.blk 2 (pc' := 123) (ls' := [(2, 95), (0, ((c : Nat) : Int)), (0, 1), (0, what), (0, v), (0, ((i : Nat) : Int))]) (st' := [(0, wrp (((s + i : Nat) : Int) + 1)), (2, 95)]) (w' := (qup wB 116 (s + i) v)) (n' := 142) rfl ?_
        rw [show wrp (((s + i : Nat) : Int) + 1) = ((s + i + 1 : Nat) : Int) from by rw [wrp_id (by omega) (by omega)]; omega]
        refine qG.blk 2 (pc' := 129) (ls' := [(2, 95), (0, ((c : Nat) : Int)), (0, 1), (0, what), (0, v), (0, wrp (((i : Nat) : Int) + 1))]) (st' := []) (w' := (qup (qup wB 116 (s + i) v) 95 37 ((s + i + 1 : Nat) : Int))) (n' := 142) rfl ?_
        rw [show wrp (((i : Nat) : Int) + 1) = ((i + 1 : Nat) : Int) from wrp_id (by omega) (by omega)]
        refine qG.blk 1 (pc' := 90) (ls' := [(2, 95), (0, ((c : Nat) : Int)), (0, 1), (0, what), (0, v), (0, ((i + 1 : Nat) : Int))]) (st' := []) (w' := (qup (qup wB 116 (s + i) v) 95 37 ((s + i + 1 : Nat) : Int))) (n' := 142) rfl ?_
        exact ih90 _ (by omega) (i + 1) ((qup (qup wB 116 (s + i) v) 95 37 ((s + i + 1 : Nat) : Int))) rfl (⟨by omega, by rw [hwB]; rfl⟩)
      · skip
        refine qG.blk 8 (pc' := 147) (ls' := [(2, 95), (0, ((c : Nat) : Int)), (0, 1), (0, what), (0, v), (0, ((i : Nat) : Int))]) (st' := [(0, wB 95 41)]) (w' := (qup wB 95 38 (qor (wB 95 38) v))) (n' := 142) rfl ?_
        refine qG.call (t := 211) (na := 1) (sk := 0) (md := 0) (ls1 := [(0, wB 95 41), (9, 0), (9, 0)]) (r1 := []) rfl rfl rfl rfl rfl (K_bits (by omega) _ _) ?_
        rintro _ w7 _ ⟨rfl, hw7, rfl⟩
        rw [hw7]
        show qG none (d + 1) 252 150 [(2, 95), (0, ((c : Nat) : Int)), (0, 1), (0, what), (0, v), (0, ((i : Nat) : Int))] [(0, bitsF (wB 95 41) 16)] (qup wB 95 38 (qor (wB 95 38) v)) 142 Q9
        refine qG.blk 5 (pc' := 159) (ls' := [(2, 95), (0, ((c : Nat) : Int)), (0, 1), (0, what), (0, v), (0, bitsF (wB 95 41) 16)]) (st' := [(0, wB 95 39), (0, bitsF (wB 95 41) 16), (2, 95)]) (w' := (qup wB 95 38 (qor (wB 95 38) v))) (n' := 142) rfl ?_
        refine qG.br (P := wB 95 39 < bitsF (wB 95 41) 16) (pc1 := 162) (pc2 := 167) (st1 := [(2, 95)]) rfl (fun h2 => ?_) (fun h2 => ?_)
        · skip
          refine qG.blk 3 (pc' := 174) (ls' := [(2, 95), (0, ((c : Nat) : Int)), (0, 1), (0, what), (0, v), (0, bitsF (wB 95 41) 16)]) (st' := []) (w' := (qup (qup wB 95 38 (qor (wB 95 38) v)) 95 39 (bitsF (wB 95 41) 16))) (n' := 142) rfl ?_
          refine qG.retv rfl rfl ?_
          subst hQ9
          refine ⟨rfl, ?_, rfl⟩
          have hi : i = dN 1 what := by omega
          subst hwB
          subst hi
          unfold dD dC
          simp only [qup_k, qup_j (show (39 : Nat) ≠ 38 by decide), qup_j (show (41 : Nat) ≠ 38 by decide)] at *
          first | rw [if_pos (by omega)] | rw [if_neg (by omega)]
        · skip
          refine qG.blk 3 (pc' := 174) (ls' := [(2, 95), (0, ((c : Nat) : Int)), (0, 1), (0, what), (0, v), (0, bitsF (wB 95 41) 16)]) (st' := []) (w' := (qup (qup wB 95 38 (qor (wB 95 38) v)) 95 39 (wB 95 39))) (n' := 142) rfl ?_
          refine qG.retv rfl rfl ?_
          subst hQ9
          refine ⟨rfl, ?_, rfl⟩
          have hi : i = dN 1 what := by omega
          subst hwB
          subst hi
          unfold dD dC
          simp only [qup_k, qup_j (show (39 : Nat) ≠ 38 by decide), qup_j (show (41 : Nat) ≠ 38 by decide)] at *
          first | rw [if_pos (by omega)] | rw [if_neg (by omega)]
  exact L90 _ (0) (wA) rfl (⟨by omega, rfl⟩)
theorem K_does1 {d : Nat} (hd : 2 ≤ d) (c : Nat) (what : Int) (hc : c < 3) (hw0 : yin (-2147483648, 2147483647) what) (w : qW) (hI : yInv zgf zga zra zSp w) (hs8 : w 95 37 + (dN 1 what : Nat) ≤ 800) : qG none d 252 0 [(2, 95), (0, ((c : Nat) : Int)), (0, 1), (0, what), (9, 0), (9, 0)] [] w 142 (fun (r : qV) (w1 : qW) (n1 : Nat) => r = (9, 0) ∧ w1 = doesW w c 1 what ∧ n1 = 142) := by
  generalize hQ9 : (fun (r : qV) (w1 : qW) (n1 : Nat) => r = (9, 0) ∧ w1 = doesW w c 1 what ∧ n1 = 142) = Q9
  have h43 := zfld hI (j := 43) (b := (0, 1)) rfl
  have a43 : (0 : Int) ≤ w 95 43 := h43.1
  have b43 : w 95 43 ≤ (1 : Int) := h43.2
  have h37 := zfld hI (j := 37) (b := (0, 800)) rfl
  have a37 : (0 : Int) ≤ w 95 37 := h37.1
  have hIA : yInv zgf zga zra zSp (dA 1 what w) := dA_I hI hw0
  obtain ⟨d, rfl⟩ : ∃ d9, d = d9 + 1 := ⟨d - 1, by omega⟩
  refine qG.blk 1 (pc' := 1) (ls' := [(2, 95), (0, ((c : Nat) : Int)), (0, 1), (0, what), (9, 0), (9, 0)]) (st' := [(0, 1)]) (w' := w) (n' := 142) rfl ?_
  refine qG.br (P := (1 : Int) = 0) (pc1 := 4) (pc2 := 16) (st1 := []) rfl (fun h1 => ?_) (fun h1 => ?_)
  · exact absurd h1 (by decide)
  · skip
    refine qG.blk 2 (pc' := 18) (ls' := [(2, 95), (0, ((c : Nat) : Int)), (0, 1), (0, what), (9, 0), (9, 0)]) (st' := [(0, 1), (0, 1)]) (w' := w) (n' := 142) rfl ?_
    refine qG.br (P := (1 : Int) = 1) (pc1 := 21) (pc2 := 35) (st1 := []) rfl (fun h2 => ?_) (fun h2 => ?_)
    · skip
      refine qG.blk 12 (pc' := 37) (ls' := [(2, 95), (0, ((c : Nat) : Int)), (0, 1), (0, what), (9, 0), (9, 0)]) (st' := [(0, 3), (0, 1)]) (w' := (qup w 95 41 (qand (w 95 41) (qxor (qshl 1 what) (-1))))) (n' := 142) rfl ?_
      refine qG.br (P := (1 : Int) = 3) (pc1 := 40) (pc2 := 45) (st1 := []) rfl (fun h3 => ?_) (fun h3 => ?_)
      · exact absurd h3 (by decide)
      · skip
        refine qG.blk 2 (pc' := 47) (ls' := [(2, 95), (0, ((c : Nat) : Int)), (0, 1), (0, what), (9, 0), (9, 0)]) (st' := [(0, 4), (0, 1)]) (w' := (qup w 95 41 (qand (w 95 41) (qxor (qshl 1 what) (-1))))) (n' := 142) rfl ?_
        refine qG.br (P := (1 : Int) = 4) (pc1 := 50) (pc2 := 55) (st1 := []) rfl (fun h4 => ?_) (fun h4 => ?_)
        · exact absurd h4 (by decide)
        · skip
          refine qG.blk 2 (pc' := 57) (ls' := [(2, 95), (0, ((c : Nat) : Int)), (0, 1), (0, what), (9, 0), (9, 0)]) (st' := [(0, 5), (0, 1)]) (w' := (qup w 95 41 (qand (w 95 41) (qxor (qshl 1 what) (-1))))) (n' := 142) rfl ?_
          refine qG.br (P := (1 : Int) = 5) (pc1 := 60) (pc2 := 80) (st1 := []) rfl (fun h5 => ?_) (fun h5 => ?_)
          · exact absurd h5 (by decide)
          · skip
            refine qG.blk 2 (pc' := 82) (ls' := [(2, 95), (0, ((c : Nat) : Int)), (0, 1), (0, what), (9, 0), (9, 0)]) (st' := [(0, ((c : Nat) : Int)), (2, 95)]) (w' := (qup w 95 41 (qand (w 95 41) (qxor (qshl 1 what) (-1))))) (n' := 142) rfl ?_
            refine qG.call (t := 249) (na := 2) (sk := 1) (md := 1) (ls1 := [(2, 95), (0, ((c : Nat) : Int)), (9, 0), (9, 0)]) (r1 := []) rfl rfl rfl rfl rfl (K_sees (by omega) c hc ((qup w 95 41 (qand (w 95 41) (qxor (qshl 1 what) (-1))))) hIA) ?_
            rintro _ w7 _ ⟨rfl, hw7, rfl⟩
            rw [hw7]
            subst hQ9
            exact K_doesB1 (by omega) c what hw0 (w 95 37).toNat _ (seesF_32 10) (dA 1 what w) hIA (by rw [dA_o (by omega)]; omega) (by omega)
    · exact absurd h2 (by decide)
theorem K_doesB2 {d : Nat} (hd : 1 ≤ d) (c : Nat) (what : Int) (hw0 : -2147483648 ≤ what ∧ what ≤ 2147483647) (s : Nat) (v : Int) (hv : yin (-2147483648, 2147483647) v) (wA : qW) (hIA : yInv zgf zga zra zSp wA) (hs : wA 95 37 = (s : Int)) (hs8 : s + dN 2 what ≤ 800) : qG none d 252 85 [(2, 95), (0, ((c : Nat) : Int)), (0, 2), (0, what), (9, 0), (9, 0)] [(0, v)] wA 142 (fun (r : qV) (w1 : qW) (n1 : Nat) => r = (9, 0) ∧ w1 = dD (dC v (dB v s wA (dN 2 what))) ∧ n1 = 142) := by
  generalize hQ9 : (fun (r : qV) (w1 : qW) (n1 : Nat) => r = (9, 0) ∧ w1 = dD (dC v (dB v s wA (dN 2 what))) ∧ n1 = 142) = Q9
  obtain ⟨d, rfl⟩ : ∃ d9, d = d9 + 1 := ⟨d - 1, by omega⟩
  have hdn : dN 2 what = what.toNat := rfl
  refine qG.blk 3 (pc' := 90) (ls' := [(2, 95), (0, ((c : Nat) : Int)), (0, 2), (0, what), (0, v), (0, 0)]) (st' := []) (w' := wA) (n' := 142) rfl ?_
  have L90 : ∀ (m9 : Nat) (i : Nat) (wB : qW), dN 2 what - i = m9 → (i ≤ dN 2 what ∧ wB = dB v s wA i) → qG none (d + 1) 252 90 [(2, 95), (0, ((c : Nat) : Int)), (0, 2), (0, what), (0, v), (0, ((i : Nat) : Int))] [] wB 142 Q9 := by
    intro m9
    induction m9 using Nat.strongRecOn with
    | ind m9 ih90 =>
    intro i wB hm90 hI90
    obtain ⟨hi9, hwB⟩ := hI90
    refine qG.blk 3 (pc' := 94) (ls' := [(2, 95), (0, ((c : Nat) : Int)), (0, 2), (0, what), (0, v), (0, ((i : Nat) : Int))]) (st' := [(0, 2), (0, 2), (0, ((i : Nat) : Int))]) (w' := wB) (n' := 142) rfl ?_
    refine qG.br (P := (2 : Int) = 2) (pc1 := 97) (pc2 := 101) (st1 := [(0, ((i : Nat) : Int))]) rfl (fun h1 => ?_) (fun h1 => ?_)
    · skip
      refine qG.blk 2 (pc' := 102) (ls' := [(2, 95), (0, ((c : Nat) : Int)), (0, 2), (0, what), (0, v), (0, ((i : Nat) : Int))]) (st' := [(0, what), (0, ((i : Nat) : Int))]) (w' := wB) (n' := 142) rfl ?_
      refine qG.br (P := ((i : Nat) : Int) < what) (pc1 := 105) (pc2 := 132) (st1 := []) rfl (fun hlim => ?_) (fun hlim => ?_)
      · skip
        refine qG.blk 2 (pc' := 109) (ls' := [(2, 95), (0, ((c : Nat) : Int)), (0, 2), (0, what), (0, v), (0, ((i : Nat) : Int))]) (st' := [(2, wB 95 36)]) (w' := wB) (n' := 142) rfl ?_
        rw [show wB 95 36 = 116 from (congrFun (congrFun hwB 95) 36).trans ((dB_o (by decide) (by omega) i).trans (zref hIA rfl rfl))]
        refine qG.blk 2 (pc' := 113) (ls' := [(2, 95), (0, ((c : Nat) : Int)), (0, 2), (0, what), (0, v), (0, ((i : Nat) : Int))]) (st' := [(0, wB 95 37), (2, 116)]) (w' := wB) (n' := 142) rfl ?_
        rw [show wB 95 37 = ((s + i : Nat) : Int) from (congrFun (congrFun hwB 95) 37).trans (dB_s hs i)]
        refine qG.blk 1 (pc' := 115) (ls' := [(2, 95), (0, ((c : Nat) : Int)), (0, 2), (0, what), (0, v), (0, ((i : Nat) : Int))]) (st' := [(0, v), (0, ((s + i : Nat) : Int)), (2, 116)]) (w' := wB) (n' := 142) rfl ?_
        refine qG.ist (m := 900) rfl rfl (by omega) (by decide) ?_
        show qG none (d + 1) 252 116 [(2, 95), (0, ((c : Nat) : Int)), (0, 2), (0, what), (0, v), (0, ((i : Nat) : Int))] [] (qup wB 116 (s + i) v) 142 Q9
        refine qG.blk 3 (pc' := 121) (ls' := [(2, 95), (0, ((c : Nat) : Int)), (0, 2), (0, what), (0, v), (0, ((i : Nat) : Int))]) (st' := [(0, wB 95 37), (2, 95)]) (w' := (qup wB 116 (s + i) v)) (n' := 142) rfl ?_
        rw [show wB 95 37 = ((s + i : Nat) : Int) from (congrFun (congrFun hwB 95) 37).trans (dB_s hs i)]
        refine qG.blk 2 (pc' := 123) (ls' := [(2, 95), (0, ((c : Nat) : Int)), (0, 2), (0, what), (0, v), (0, ((i : Nat) : Int))]) (st' := [(0, wrp (((s + i : Nat) : Int) + 1)), (2, 95)]) (w' := (qup wB 116 (s + i) v)) (n' := 142) rfl ?_
        rw [show wrp (((s + i : Nat) : Int) + 1) = ((s + i + 1 : Nat) : Int) from by rw [wrp_id (by omega) (by omega)]; omega]
        refine qG.blk 2 (pc' := 129) (ls' := [(2, 95), (0, ((c : Nat) : Int)), (0, 2), (0, what), (0, v), (0, wrp (((i : Nat) : Int) + 1))]) (st' := []) (w' := (qup (qup wB 116 (s + i) v) 95 37 ((s + i + 1 : Nat) : Int))) (n' := 142) rfl ?_
        rw [show wrp (((i : Nat) : Int) + 1) = ((i + 1 : Nat) : Int) from wrp_id (by omega) (by omega)]
        refine qG.blk 1 (pc' := 90) (ls' := [(2, 95), (0, ((c : Nat) : Int)), (0, 2), (0, what), (0, v), (0, ((i + 1 : Nat) : Int))]) (st' := []) (w' := (qup (qup wB 116 (s + i) v) 95 37 ((s + i + 1 : Nat) : Int))) (n' := 142) rfl ?_
        exact ih90 _ (by omega) (i + 1) ((qup (qup wB 116 (s + i) v) 95 37 ((s + i + 1 : Nat) : Int))) rfl (⟨by omega, by rw [hwB]; rfl⟩)
      · skip
        refine qG.blk 8 (pc' := 147) (ls' := [(2, 95), (0, ((c : Nat) : Int)), (0, 2), (0, what), (0, v), (0, ((i : Nat) : Int))]) (st' := [(0, wB 95 41)]) (w' := (qup wB 95 38 (qor (wB 95 38) v))) (n' := 142) rfl ?_
        refine qG.call (t := 211) (na := 1) (sk := 0) (md := 0) (ls1 := [(0, wB 95 41), (9, 0), (9, 0)]) (r1 := []) rfl rfl rfl rfl rfl (K_bits (by omega) _ _) ?_
        rintro _ w7 _ ⟨rfl, hw7, rfl⟩
        rw [hw7]
        show qG none (d + 1) 252 150 [(2, 95), (0, ((c : Nat) : Int)), (0, 2), (0, what), (0, v), (0, ((i : Nat) : Int))] [(0, bitsF (wB 95 41) 16)] (qup wB 95 38 (qor (wB 95 38) v)) 142 Q9
        refine qG.blk 5 (pc' := 159) (ls' := [(2, 95), (0, ((c : Nat) : Int)), (0, 2), (0, what), (0, v), (0, bitsF (wB 95 41) 16)]) (st' := [(0, wB 95 39), (0, bitsF (wB 95 41) 16), (2, 95)]) (w' := (qup wB 95 38 (qor (wB 95 38) v))) (n' := 142) rfl ?_
        refine qG.br (P := wB 95 39 < bitsF (wB 95 41) 16) (pc1 := 162) (pc2 := 167) (st1 := [(2, 95)]) rfl (fun h2 => ?_) (fun h2 => ?_)
        · skip
          refine qG.blk 3 (pc' := 174) (ls' := [(2, 95), (0, ((c : Nat) : Int)), (0, 2), (0, what), (0, v), (0, bitsF (wB 95 41) 16)]) (st' := []) (w' := (qup (qup wB 95 38 (qor (wB 95 38) v)) 95 39 (bitsF (wB 95 41) 16))) (n' := 142) rfl ?_
          refine qG.retv rfl rfl ?_
          subst hQ9
          refine ⟨rfl, ?_, rfl⟩
          have hi : i = dN 2 what := by omega
          subst hwB
          subst hi
          unfold dD dC
          simp only [qup_k, qup_j (show (39 : Nat) ≠ 38 by decide), qup_j (show (41 : Nat) ≠ 38 by decide)] at *
          first | rw [if_pos (by omega)] | rw [if_neg (by omega)]
        · skip
          refine qG.blk 3 (pc' := 174) (ls' := [(2, 95), (0, ((c : Nat) : Int)), (0, 2), (0, what), (0, v), (0, bitsF (wB 95 41) 16)]) (st' := []) (w' := (qup (qup wB 95 38 (qor (wB 95 38) v)) 95 39 (wB 95 39))) (n' := 142) rfl ?_
          refine qG.retv rfl rfl ?_
          subst hQ9
          refine ⟨rfl, ?_, rfl⟩
          have hi : i = dN 2 what := by omega
          subst hwB
          subst hi
          unfold dD dC
          simp only [qup_k, qup_j (show (39 : Nat) ≠ 38 by decide), qup_j (show (41 : Nat) ≠ 38 by decide)] at *
          first | rw [if_pos (by omega)] | rw [if_neg (by omega)]
    · exact absurd h1 (by decide)
  exact L90 _ (0) (wA) rfl (⟨by omega, rfl⟩)
theorem K_does2 {d : Nat} (hd : 2 ≤ d) (c : Nat) (what : Int) (hc : c < 3) (hw0 : yin (-2147483648, 2147483647) what) (w : qW) (hI : yInv zgf zga zra zSp w) (hs8 : w 95 37 + (dN 2 what : Nat) ≤ 800) : qG none d 252 0 [(2, 95), (0, ((c : Nat) : Int)), (0, 2), (0, what), (9, 0), (9, 0)] [] w 142 (fun (r : qV) (w1 : qW) (n1 : Nat) => r = (9, 0) ∧ w1 = doesW w c 2 what ∧ n1 = 142) := by
  generalize hQ9 : (fun (r : qV) (w1 : qW) (n1 : Nat) => r = (9, 0) ∧ w1 = doesW w c 2 what ∧ n1 = 142) = Q9
  have h43 := zfld hI (j := 43) (b := (0, 1)) rfl
  have a43 : (0 : Int) ≤ w 95 43 := h43.1
  have b43 : w 95 43 ≤ (1 : Int) := h43.2
  have h37 := zfld hI (j := 37) (b := (0, 800)) rfl
  have a37 : (0 : Int) ≤ w 95 37 := h37.1
  have hIA : yInv zgf zga zra zSp (dA 2 what w) := dA_I hI hw0
  obtain ⟨d, rfl⟩ : ∃ d9, d = d9 + 1 := ⟨d - 1, by omega⟩
  refine qG.blk 1 (pc' := 1) (ls' := [(2, 95), (0, ((c : Nat) : Int)), (0, 2), (0, what), (9, 0), (9, 0)]) (st' := [(0, 2)]) (w' := w) (n' := 142) rfl ?_
  refine qG.br (P := (2 : Int) = 0) (pc1 := 4) (pc2 := 16) (st1 := []) rfl (fun h1 => ?_) (fun h1 => ?_)
  · exact absurd h1 (by decide)
  · skip
    refine qG.blk 2 (pc' := 18) (ls' := [(2, 95), (0, ((c : Nat) : Int)), (0, 2), (0, what), (9, 0), (9, 0)]) (st' := [(0, 1), (0, 2)]) (w' := w) (n' := 142) rfl ?_
    refine qG.br (P := (2 : Int) = 1) (pc1 := 21) (pc2 := 35) (st1 := []) rfl (fun h2 => ?_) (fun h2 => ?_)
    · exact absurd h2 (by decide)
    · skip
      refine qG.blk 2 (pc' := 37) (ls' := [(2, 95), (0, ((c : Nat) : Int)), (0, 2), (0, what), (9, 0), (9, 0)]) (st' := [(0, 3), (0, 2)]) (w' := w) (n' := 142) rfl ?_
      refine qG.br (P := (2 : Int) = 3) (pc1 := 40) (pc2 := 45) (st1 := []) rfl (fun h3 => ?_) (fun h3 => ?_)
      · exact absurd h3 (by decide)
      · skip
        refine qG.blk 2 (pc' := 47) (ls' := [(2, 95), (0, ((c : Nat) : Int)), (0, 2), (0, what), (9, 0), (9, 0)]) (st' := [(0, 4), (0, 2)]) (w' := w) (n' := 142) rfl ?_
        refine qG.br (P := (2 : Int) = 4) (pc1 := 50) (pc2 := 55) (st1 := []) rfl (fun h4 => ?_) (fun h4 => ?_)
        · exact absurd h4 (by decide)
        · skip
          refine qG.blk 2 (pc' := 57) (ls' := [(2, 95), (0, ((c : Nat) : Int)), (0, 2), (0, what), (9, 0), (9, 0)]) (st' := [(0, 5), (0, 2)]) (w' := w) (n' := 142) rfl ?_
          refine qG.br (P := (2 : Int) = 5) (pc1 := 60) (pc2 := 80) (st1 := []) rfl (fun h5 => ?_) (fun h5 => ?_)
          · exact absurd h5 (by decide)
          · skip
            refine qG.blk 2 (pc' := 82) (ls' := [(2, 95), (0, ((c : Nat) : Int)), (0, 2), (0, what), (9, 0), (9, 0)]) (st' := [(0, ((c : Nat) : Int)), (2, 95)]) (w' := w) (n' := 142) rfl ?_
            refine qG.call (t := 249) (na := 2) (sk := 1) (md := 1) (ls1 := [(2, 95), (0, ((c : Nat) : Int)), (9, 0), (9, 0)]) (r1 := []) rfl rfl rfl rfl rfl (K_sees (by omega) c hc (w) hIA) ?_
            rintro _ w7 _ ⟨rfl, hw7, rfl⟩
            rw [hw7]
            subst hQ9
            exact K_doesB2 (by omega) c what hw0 (w 95 37).toNat _ (seesF_32 10) (dA 2 what w) hIA (by rw [dA_o (by omega)]; omega) (by omega)
theorem K_doesB3 {d : Nat} (hd : 1 ≤ d) (c : Nat) (what : Int) (hw0 : -2147483648 ≤ what ∧ what ≤ 2147483647) (s : Nat) (v : Int) (hv : yin (-2147483648, 2147483647) v) (wA : qW) (hIA : yInv zgf zga zra zSp wA) (hs : wA 95 37 = (s : Int)) (hs8 : s + dN 3 what ≤ 800) : qG none d 252 85 [(2, 95), (0, ((c : Nat) : Int)), (0, 3), (0, what), (9, 0), (9, 0)] [(0, v)] wA 142 (fun (r : qV) (w1 : qW) (n1 : Nat) => r = (9, 0) ∧ w1 = dD (dC v (dB v s wA (dN 3 what))) ∧ n1 = 142) := by
  generalize hQ9 : (fun (r : qV) (w1 : qW) (n1 : Nat) => r = (9, 0) ∧ w1 = dD (dC v (dB v s wA (dN 3 what))) ∧ n1 = 142) = Q9
  obtain ⟨d, rfl⟩ : ∃ d9, d = d9 + 1 := ⟨d - 1, by omega⟩
  have hdn : dN 3 what = 1 := rfl
  refine qG.blk 3 (pc' := 90) (ls' := [(2, 95), (0, ((c : Nat) : Int)), (0, 3), (0, what), (0, v), (0, 0)]) (st' := []) (w' := wA) (n' := 142) rfl ?_
  have L90 : ∀ (m9 : Nat) (i : Nat) (wB : qW), dN 3 what - i = m9 → (i ≤ dN 3 what ∧ wB = dB v s wA i) → qG none (d + 1) 252 90 [(2, 95), (0, ((c : Nat) : Int)), (0, 3), (0, what), (0, v), (0, ((i : Nat) : Int))] [] wB 142 Q9 := by
    intro m9
    induction m9 using Nat.strongRecOn with
    | ind m9 ih90 =>
    intro i wB hm90 hI90
    obtain ⟨hi9, hwB⟩ := hI90
    refine qG.blk 3 (pc' := 94) (ls' := [(2, 95), (0, ((c : Nat) : Int)), (0, 3), (0, what), (0, v), (0, ((i : Nat) : Int))]) (st' := [(0, 2), (0, 3), (0, ((i : Nat) : Int))]) (w' := wB) (n' := 142) rfl ?_
    refine qG.br (P := (3 : Int) = 2) (pc1 := 97) (pc2 := 101) (st1 := [(0, ((i : Nat) : Int))]) rfl (fun h1 => ?_) (fun h1 => ?_)
    · exact absurd h1 (by decide)
    · skip
      refine qG.blk 1 (pc' := 102) (ls' := [(2, 95), (0, ((c : Nat) : Int)), (0, 3), (0, what), (0, v), (0, ((i : Nat) : Int))]) (st' := [(0, 1), (0, ((i : Nat) : Int))]) (w' := wB) (n' := 142) rfl ?_
      refine qG.br (P := ((i : Nat) : Int) < 1) (pc1 := 105) (pc2 := 132) (st1 := []) rfl (fun hlim => ?_) (fun hlim => ?_)
      · skip
        refine qG.blk 2 (pc' := 109) (ls' := [(2, 95), (0, ((c : Nat) : Int)), (0, 3), (0, what), (0, v), (0, ((i : Nat) : Int))]) (st' := [(2, wB 95 36)]) (w' := wB) (n' := 142) rfl ?_
        rw [show wB 95 36 = 116 from (congrFun (congrFun hwB 95) 36).trans ((dB_o (by decide) (by omega) i).trans (zref hIA rfl rfl))]
        refine qG.blk 2 (pc' := 113) (ls' := [(2, 95), (0, ((c : Nat) : Int)), (0, 3), (0, what), (0, v), (0, ((i : Nat) : Int))]) (st' := [(0, wB 95 37), (2, 116)]) (w' := wB) (n' := 142) rfl ?_
        rw [show wB 95 37 = ((s + i : Nat) : Int) from (congrFun (congrFun hwB 95) 37).trans (dB_s hs i)]
        refine qG.blk 1 (pc' := 115) (ls' := [(2, 95), (0, ((c : Nat) : Int)), (0, 3), (0, what), (0, v), (0, ((i : Nat) : Int))]) (st' := [(0, v), (0, ((s + i : Nat) : Int)), (2, 116)]) (w' := wB) (n' := 142) rfl ?_
        refine qG.ist (m := 900) rfl rfl (by omega) (by decide) ?_
        show qG none (d + 1) 252 116 [(2, 95), (0, ((c : Nat) : Int)), (0, 3), (0, what), (0, v), (0, ((i : Nat) : Int))] [] (qup wB 116 (s + i) v) 142 Q9
        refine qG.blk 3 (pc' := 121) (ls' := [(2, 95), (0, ((c : Nat) : Int)), (0, 3), (0, what), (0, v), (0, ((i : Nat) : Int))]) (st' := [(0, wB 95 37), (2, 95)]) (w' := (qup wB 116 (s + i) v)) (n' := 142) rfl ?_
        rw [show wB 95 37 = ((s + i : Nat) : Int) from (congrFun (congrFun hwB 95) 37).trans (dB_s hs i)]
        refine qG.blk 2 (pc' := 123) (ls' := [(2, 95), (0, ((c : Nat) : Int)), (0, 3), (0, what), (0, v), (0, ((i : Nat) : Int))]) (st' := [(0, wrp (((s + i : Nat) : Int) + 1)), (2, 95)]) (w' := (qup wB 116 (s + i) v)) (n' := 142) rfl ?_
        rw [show wrp (((s + i : Nat) : Int) + 1) = ((s + i + 1 : Nat) : Int) from by rw [wrp_id (by omega) (by omega)]; omega]
        refine qG.blk 2 (pc' := 129) (ls' := [(2, 95), (0, ((c : Nat) : Int)), (0, 3), (0, what), (0, v), (0, wrp (((i : Nat) : Int) + 1))]) (st' := []) (w' := (qup (qup wB 116 (s + i) v) 95 37 ((s + i + 1 : Nat) : Int))) (n' := 142) rfl ?_
        rw [show wrp (((i : Nat) : Int) + 1) = ((i + 1 : Nat) : Int) from wrp_id (by omega) (by omega)]
        refine qG.blk 1 (pc' := 90) (ls' := [(2, 95), (0, ((c : Nat) : Int)), (0, 3), (0, what), (0, v), (0, ((i + 1 : Nat) : Int))]) (st' := []) (w' := (qup (qup wB 116 (s + i) v) 95 37 ((s + i + 1 : Nat) : Int))) (n' := 142) rfl ?_
        exact ih90 _ (by omega) (i + 1) ((qup (qup wB 116 (s + i) v) 95 37 ((s + i + 1 : Nat) : Int))) rfl (⟨by omega, by rw [hwB]; rfl⟩)
      · skip
        refine qG.blk 8 (pc' := 147) (ls' := [(2, 95), (0, ((c : Nat) : Int)), (0, 3), (0, what), (0, v), (0, ((i : Nat) : Int))]) (st' := [(0, wB 95 41)]) (w' := (qup wB 95 38 (qor (wB 95 38) v))) (n' := 142) rfl ?_
        refine qG.call (t := 211) (na := 1) (sk := 0) (md := 0) (ls1 := [(0, wB 95 41), (9, 0), (9, 0)]) (r1 := []) rfl rfl rfl rfl rfl (K_bits (by omega) _ _) ?_
        rintro _ w7 _ ⟨rfl, hw7, rfl⟩
        rw [hw7]
        show qG none (d + 1) 252 150 [(2, 95), (0, ((c : Nat) : Int)), (0, 3), (0, what), (0, v), (0, ((i : Nat) : Int))] [(0, bitsF (wB 95 41) 16)] (qup wB 95 38 (qor (wB 95 38) v)) 142 Q9
        refine qG.blk 5 (pc' := 159) (ls' := [(2, 95), (0, ((c : Nat) : Int)), (0, 3), (0, what), (0, v), (0, bitsF (wB 95 41) 16)]) (st' := [(0, wB 95 39), (0, bitsF (wB 95 41) 16), (2, 95)]) (w' := (qup wB 95 38 (qor (wB 95 38) v))) (n' := 142) rfl ?_
        refine qG.br (P := wB 95 39 < bitsF (wB 95 41) 16) (pc1 := 162) (pc2 := 167) (st1 := [(2, 95)]) rfl (fun h2 => ?_) (fun h2 => ?_)
        · skip
          refine qG.blk 3 (pc' := 174) (ls' := [(2, 95), (0, ((c : Nat) : Int)), (0, 3), (0, what), (0, v), (0, bitsF (wB 95 41) 16)]) (st' := []) (w' := (qup (qup wB 95 38 (qor (wB 95 38) v)) 95 39 (bitsF (wB 95 41) 16))) (n' := 142) rfl ?_
          refine qG.retv rfl rfl ?_
          subst hQ9
          refine ⟨rfl, ?_, rfl⟩
          have hi : i = dN 3 what := by omega
          subst hwB
          subst hi
          unfold dD dC
          simp only [qup_k, qup_j (show (39 : Nat) ≠ 38 by decide), qup_j (show (41 : Nat) ≠ 38 by decide)] at *
          first | rw [if_pos (by omega)] | rw [if_neg (by omega)]
        · skip
          refine qG.blk 3 (pc' := 174) (ls' := [(2, 95), (0, ((c : Nat) : Int)), (0, 3), (0, what), (0, v), (0, bitsF (wB 95 41) 16)]) (st' := []) (w' := (qup (qup wB 95 38 (qor (wB 95 38) v)) 95 39 (wB 95 39))) (n' := 142) rfl ?_
          refine qG.retv rfl rfl ?_
          subst hQ9
          refine ⟨rfl, ?_, rfl⟩
          have hi : i = dN 3 what := by omega
          subst hwB
          subst hi
          unfold dD dC
          simp only [qup_k, qup_j (show (39 : Nat) ≠ 38 by decide), qup_j (show (41 : Nat) ≠ 38 by decide)] at *
          first | rw [if_pos (by omega)] | rw [if_neg (by omega)]
  exact L90 _ (0) (wA) rfl (⟨by omega, rfl⟩)
theorem K_does3 {d : Nat} (hd : 2 ≤ d) (c : Nat) (what : Int) (hc : c < 3) (hw0 : yin (-2147483648, 2147483647) what) (w : qW) (hI : yInv zgf zga zra zSp w) (hs8 : w 95 37 + (dN 3 what : Nat) ≤ 800) : qG none d 252 0 [(2, 95), (0, ((c : Nat) : Int)), (0, 3), (0, what), (9, 0), (9, 0)] [] w 142 (fun (r : qV) (w1 : qW) (n1 : Nat) => r = (9, 0) ∧ w1 = doesW w c 3 what ∧ n1 = 142) := by
  generalize hQ9 : (fun (r : qV) (w1 : qW) (n1 : Nat) => r = (9, 0) ∧ w1 = doesW w c 3 what ∧ n1 = 142) = Q9
  have h43 := zfld hI (j := 43) (b := (0, 1)) rfl
  have a43 : (0 : Int) ≤ w 95 43 := h43.1
  have b43 : w 95 43 ≤ (1 : Int) := h43.2
  have h37 := zfld hI (j := 37) (b := (0, 800)) rfl
  have a37 : (0 : Int) ≤ w 95 37 := h37.1
  have hIA : yInv zgf zga zra zSp (dA 3 what w) := dA_I hI hw0
  obtain ⟨d, rfl⟩ : ∃ d9, d = d9 + 1 := ⟨d - 1, by omega⟩
  refine qG.blk 1 (pc' := 1) (ls' := [(2, 95), (0, ((c : Nat) : Int)), (0, 3), (0, what), (9, 0), (9, 0)]) (st' := [(0, 3)]) (w' := w) (n' := 142) rfl ?_
  refine qG.br (P := (3 : Int) = 0) (pc1 := 4) (pc2 := 16) (st1 := []) rfl (fun h1 => ?_) (fun h1 => ?_)
  · exact absurd h1 (by decide)
  · skip
    refine qG.blk 2 (pc' := 18) (ls' := [(2, 95), (0, ((c : Nat) : Int)), (0, 3), (0, what), (9, 0), (9, 0)]) (st' := [(0, 1), (0, 3)]) (w' := w) (n' := 142) rfl ?_
    refine qG.br (P := (3 : Int) = 1) (pc1 := 21) (pc2 := 35) (st1 := []) rfl (fun h2 => ?_) (fun h2 => ?_)
    · exact absurd h2 (by decide)
    · skip
      refine qG.blk 2 (pc' := 37) (ls' := [(2, 95), (0, ((c : Nat) : Int)), (0, 3), (0, what), (9, 0), (9, 0)]) (st' := [(0, 3), (0, 3)]) (w' := w) (n' := 142) rfl ?_
      refine qG.br (P := (3 : Int) = 3) (pc1 := 40) (pc2 := 45) (st1 := []) rfl (fun h3 => ?_) (fun h3 => ?_)
      · skip
        refine qG.blk 5 (pc' := 47) (ls' := [(2, 95), (0, ((c : Nat) : Int)), (0, 3), (0, what), (9, 0), (9, 0)]) (st' := [(0, 4), (0, 3)]) (w' := (qup w 95 42 what)) (n' := 142) rfl ?_
        refine qG.br (P := (3 : Int) = 4) (pc1 := 50) (pc2 := 55) (st1 := []) rfl (fun h4 => ?_) (fun h4 => ?_)
        · exact absurd h4 (by decide)
        · skip
          refine qG.blk 2 (pc' := 57) (ls' := [(2, 95), (0, ((c : Nat) : Int)), (0, 3), (0, what), (9, 0), (9, 0)]) (st' := [(0, 5), (0, 3)]) (w' := (qup w 95 42 what)) (n' := 142) rfl ?_
          refine qG.br (P := (3 : Int) = 5) (pc1 := 60) (pc2 := 80) (st1 := []) rfl (fun h5 => ?_) (fun h5 => ?_)
          · exact absurd h5 (by decide)
          · skip
            refine qG.blk 2 (pc' := 82) (ls' := [(2, 95), (0, ((c : Nat) : Int)), (0, 3), (0, what), (9, 0), (9, 0)]) (st' := [(0, ((c : Nat) : Int)), (2, 95)]) (w' := (qup w 95 42 what)) (n' := 142) rfl ?_
            refine qG.call (t := 249) (na := 2) (sk := 1) (md := 1) (ls1 := [(2, 95), (0, ((c : Nat) : Int)), (9, 0), (9, 0)]) (r1 := []) rfl rfl rfl rfl rfl (K_sees (by omega) c hc ((qup w 95 42 what)) hIA) ?_
            rintro _ w7 _ ⟨rfl, hw7, rfl⟩
            rw [hw7]
            subst hQ9
            exact K_doesB3 (by omega) c what hw0 (w 95 37).toNat _ (seesF_32 10) (dA 3 what w) hIA (by rw [dA_o (by omega)]; omega) (by omega)
      · exact absurd h3 (by decide)
theorem K_doesB4 {d : Nat} (hd : 1 ≤ d) (c : Nat) (what : Int) (hw0 : -2147483648 ≤ what ∧ what ≤ 2147483647) (s : Nat) (v : Int) (hv : yin (-2147483648, 2147483647) v) (wA : qW) (hIA : yInv zgf zga zra zSp wA) (hs : wA 95 37 = (s : Int)) (hs8 : s + dN 4 what ≤ 800) : qG none d 252 85 [(2, 95), (0, ((c : Nat) : Int)), (0, 4), (0, what), (9, 0), (9, 0)] [(0, v)] wA 142 (fun (r : qV) (w1 : qW) (n1 : Nat) => r = (9, 0) ∧ w1 = dD (dC v (dB v s wA (dN 4 what))) ∧ n1 = 142) := by
  generalize hQ9 : (fun (r : qV) (w1 : qW) (n1 : Nat) => r = (9, 0) ∧ w1 = dD (dC v (dB v s wA (dN 4 what))) ∧ n1 = 142) = Q9
  obtain ⟨d, rfl⟩ : ∃ d9, d = d9 + 1 := ⟨d - 1, by omega⟩
  have hdn : dN 4 what = 1 := rfl
  refine qG.blk 3 (pc' := 90) (ls' := [(2, 95), (0, ((c : Nat) : Int)), (0, 4), (0, what), (0, v), (0, 0)]) (st' := []) (w' := wA) (n' := 142) rfl ?_
  have L90 : ∀ (m9 : Nat) (i : Nat) (wB : qW), dN 4 what - i = m9 → (i ≤ dN 4 what ∧ wB = dB v s wA i) → qG none (d + 1) 252 90 [(2, 95), (0, ((c : Nat) : Int)), (0, 4), (0, what), (0, v), (0, ((i : Nat) : Int))] [] wB 142 Q9 := by
    intro m9
    induction m9 using Nat.strongRecOn with
    | ind m9 ih90 =>
    intro i wB hm90 hI90
    obtain ⟨hi9, hwB⟩ := hI90
    refine qG.blk 3 (pc' := 94) (ls' := [(2, 95), (0, ((c : Nat) : Int)), (0, 4), (0, what), (0, v), (0, ((i : Nat) : Int))]) (st' := [(0, 2), (0, 4), (0, ((i : Nat) : Int))]) (w' := wB) (n' := 142) rfl ?_
    refine qG.br (P := (4 : Int) = 2) (pc1 := 97) (pc2 := 101) (st1 := [(0, ((i : Nat) : Int))]) rfl (fun h1 => ?_) (fun h1 => ?_)
    · exact absurd h1 (by decide)
    · skip
      refine qG.blk 1 (pc' := 102) (ls' := [(2, 95), (0, ((c : Nat) : Int)), (0, 4), (0, what), (0, v), (0, ((i : Nat) : Int))]) (st' := [(0, 1), (0, ((i : Nat) : Int))]) (w' := wB) (n' := 142) rfl ?_
      refine qG.br (P := ((i : Nat) : Int) < 1) (pc1 := 105) (pc2 := 132) (st1 := []) rfl (fun hlim => ?_) (fun hlim => ?_)
      · skip
        refine qG.blk 2 (pc' := 109) (ls' := [(2, 95), (0, ((c : Nat) : Int)), (0, 4), (0, what), (0, v), (0, ((i : Nat) : Int))]) (st' := [(2, wB 95 36)]) (w' := wB) (n' := 142) rfl ?_
        rw [show wB 95 36 = 116 from (congrFun (congrFun hwB 95) 36).trans ((dB_o (by decide) (by omega) i).trans (zref hIA rfl rfl))]
        refine qG.blk 2 (pc' := 113) (ls' := [(2, 95), (0, ((c : Nat) : Int)), (0, 4), (0, what), (0, v), (0, ((i : Nat) : Int))]) (st' := [(0, wB 95 37), (2, 116)]) (w' := wB) (n' := 142) rfl ?_
        rw [show wB 95 37 = ((s + i : Nat) : Int) from (congrFun (congrFun hwB 95) 37).trans (dB_s hs i)]
        refine qG.blk 1 (pc' := 115) (ls' := [(2, 95), (0, ((c : Nat) : Int)), (0, 4), (0, what), (0, v), (0, ((i : Nat) : Int))]) (st' := [(0, v), (0, ((s + i : Nat) : Int)), (2, 116)]) (w' := wB) (n' := 142) rfl ?_
        refine qG.ist (m := 900) rfl rfl (by omega) (by decide) ?_
        show qG none (d + 1) 252 116 [(2, 95), (0, ((c : Nat) : Int)), (0, 4), (0, what), (0, v), (0, ((i : Nat) : Int))] [] (qup wB 116 (s + i) v) 142 Q9
        refine qG.blk 3 (pc' := 121) (ls' := [(2, 95), (0, ((c : Nat) : Int)), (0, 4), (0, what), (0, v), (0, ((i : Nat) : Int))]) (st' := [(0, wB 95 37), (2, 95)]) (w' := (qup wB 116 (s + i) v)) (n' := 142) rfl ?_
        rw [show wB 95 37 = ((s + i : Nat) : Int) from (congrFun (congrFun hwB 95) 37).trans (dB_s hs i)]
        refine qG.blk 2 (pc' := 123) (ls' := [(2, 95), (0, ((c : Nat) : Int)), (0, 4), (0, what), (0, v), (0, ((i : Nat) : Int))]) (st' := [(0, wrp (((s + i : Nat) : Int) + 1)), (2, 95)]) (w' := (qup wB 116 (s + i) v)) (n' := 142) rfl ?_
        rw [show wrp (((s + i : Nat) : Int) + 1) = ((s + i + 1 : Nat) : Int) from by rw [wrp_id (by omega) (by omega)]; omega]
        refine qG.blk 2 (pc' := 129) (ls' := [(2, 95), (0, ((c : Nat) : Int)), (0, 4), (0, what), (0, v), (0, wrp (((i : Nat) : Int) + 1))]) (st' := []) (w' := (qup (qup wB 116 (s + i) v) 95 37 ((s + i + 1 : Nat) : Int))) (n' := 142) rfl ?_
        rw [show wrp (((i : Nat) : Int) + 1) = ((i + 1 : Nat) : Int) from wrp_id (by omega) (by omega)]
        refine qG.blk 1 (pc' := 90) (ls' := [(2, 95), (0, ((c : Nat) : Int)), (0, 4), (0, what), (0, v), (0, ((i + 1 : Nat) : Int))]) (st' := []) (w' := (qup (qup wB 116 (s + i) v) 95 37 ((s + i + 1 : Nat) : Int))) (n' := 142) rfl ?_
        exact ih90 _ (by omega) (i + 1) ((qup (qup wB 116 (s + i) v) 95 37 ((s + i + 1 : Nat) : Int))) rfl (⟨by omega, by rw [hwB]; rfl⟩)
      · skip
        refine qG.blk 8 (pc' := 147) (ls' := [(2, 95), (0, ((c : Nat) : Int)), (0, 4), (0, what), (0, v), (0, ((i : Nat) : Int))]) (st' := [(0, wB 95 41)]) (w' := (qup wB 95 38 (qor (wB 95 38) v))) (n' := 142) rfl ?_
        refine qG.call (t := 211) (na := 1) (sk := 0) (md := 0) (ls1 := [(0, wB 95 41), (9, 0), (9, 0)]) (r1 := []) rfl rfl rfl rfl rfl (K_bits (by omega) _ _) ?_
        rintro _ w7 _ ⟨rfl, hw7, rfl⟩
        rw [hw7]
        show qG none (d + 1) 252 150 [(2, 95), (0, ((c : Nat) : Int)), (0, 4), (0, what), (0, v), (0, ((i : Nat) : Int))] [(0, bitsF (wB 95 41) 16)] (qup wB 95 38 (qor (wB 95 38) v)) 142 Q9
        refine qG.blk 5 (pc' := 159) (ls' := [(2, 95), (0, ((c : Nat) : Int)), (0, 4), (0, what), (0, v), (0, bitsF (wB 95 41) 16)]) (st' := [(0, wB 95 39), (0, bitsF (wB 95 41) 16), (2, 95)]) (w' := (qup wB 95 38 (qor (wB 95 38) v))) (n' := 142) rfl ?_
        refine qG.br (P := wB 95 39 < bitsF (wB 95 41) 16) (pc1 := 162) (pc2 := 167) (st1 := [(2, 95)]) rfl (fun h2 => ?_) (fun h2 => ?_)
        · skip
          refine qG.blk 3 (pc' := 174) (ls' := [(2, 95), (0, ((c : Nat) : Int)), (0, 4), (0, what), (0, v), (0, bitsF (wB 95 41) 16)]) (st' := []) (w' := (qup (qup wB 95 38 (qor (wB 95 38) v)) 95 39 (bitsF (wB 95 41) 16))) (n' := 142) rfl ?_
          refine qG.retv rfl rfl ?_
          subst hQ9
          refine ⟨rfl, ?_, rfl⟩
          have hi : i = dN 4 what := by omega
          subst hwB
          subst hi
          unfold dD dC
          simp only [qup_k, qup_j (show (39 : Nat) ≠ 38 by decide), qup_j (show (41 : Nat) ≠ 38 by decide)] at *
          first | rw [if_pos (by omega)] | rw [if_neg (by omega)]
        · skip
          refine qG.blk 3 (pc' := 174) (ls' := [(2, 95), (0, ((c : Nat) : Int)), (0, 4), (0, what), (0, v), (0, bitsF (wB 95 41) 16)]) (st' := []) (w' := (qup (qup wB 95 38 (qor (wB 95 38) v)) 95 39 (wB 95 39))) (n' := 142) rfl ?_
          refine qG.retv rfl rfl ?_
          subst hQ9
          refine ⟨rfl, ?_, rfl⟩
          have hi : i = dN 4 what := by omega
          subst hwB
          subst hi
          unfold dD dC
          simp only [qup_k, qup_j (show (39 : Nat) ≠ 38 by decide), qup_j (show (41 : Nat) ≠ 38 by decide)] at *
          first | rw [if_pos (by omega)] | rw [if_neg (by omega)]
  exact L90 _ (0) (wA) rfl (⟨by omega, rfl⟩)
theorem K_does4 {d : Nat} (hd : 2 ≤ d) (c : Nat) (what : Int) (hc : c < 3) (hw0 : yin (-2147483648, 2147483647) what) (w : qW) (hI : yInv zgf zga zra zSp w) (hs8 : w 95 37 + (dN 4 what : Nat) ≤ 800) : qG none d 252 0 [(2, 95), (0, ((c : Nat) : Int)), (0, 4), (0, what), (9, 0), (9, 0)] [] w 142 (fun (r : qV) (w1 : qW) (n1 : Nat) => r = (9, 0) ∧ w1 = doesW w c 4 what ∧ n1 = 142) := by
  generalize hQ9 : (fun (r : qV) (w1 : qW) (n1 : Nat) => r = (9, 0) ∧ w1 = doesW w c 4 what ∧ n1 = 142) = Q9
  have h43 := zfld hI (j := 43) (b := (0, 1)) rfl
  have a43 : (0 : Int) ≤ w 95 43 := h43.1
  have b43 : w 95 43 ≤ (1 : Int) := h43.2
  have h37 := zfld hI (j := 37) (b := (0, 800)) rfl
  have a37 : (0 : Int) ≤ w 95 37 := h37.1
  have hIA : yInv zgf zga zra zSp (dA 4 what w) := dA_I hI hw0
  obtain ⟨d, rfl⟩ : ∃ d9, d = d9 + 1 := ⟨d - 1, by omega⟩
  refine qG.blk 1 (pc' := 1) (ls' := [(2, 95), (0, ((c : Nat) : Int)), (0, 4), (0, what), (9, 0), (9, 0)]) (st' := [(0, 4)]) (w' := w) (n' := 142) rfl ?_
  refine qG.br (P := (4 : Int) = 0) (pc1 := 4) (pc2 := 16) (st1 := []) rfl (fun h1 => ?_) (fun h1 => ?_)
  · exact absurd h1 (by decide)
  · skip
    refine qG.blk 2 (pc' := 18) (ls' := [(2, 95), (0, ((c : Nat) : Int)), (0, 4), (0, what), (9, 0), (9, 0)]) (st' := [(0, 1), (0, 4)]) (w' := w) (n' := 142) rfl ?_
    refine qG.br (P := (4 : Int) = 1) (pc1 := 21) (pc2 := 35) (st1 := []) rfl (fun h2 => ?_) (fun h2 => ?_)
    · exact absurd h2 (by decide)
    · skip
      refine qG.blk 2 (pc' := 37) (ls' := [(2, 95), (0, ((c : Nat) : Int)), (0, 4), (0, what), (9, 0), (9, 0)]) (st' := [(0, 3), (0, 4)]) (w' := w) (n' := 142) rfl ?_
      refine qG.br (P := (4 : Int) = 3) (pc1 := 40) (pc2 := 45) (st1 := []) rfl (fun h3 => ?_) (fun h3 => ?_)
      · exact absurd h3 (by decide)
      · skip
        refine qG.blk 2 (pc' := 47) (ls' := [(2, 95), (0, ((c : Nat) : Int)), (0, 4), (0, what), (9, 0), (9, 0)]) (st' := [(0, 4), (0, 4)]) (w' := w) (n' := 142) rfl ?_
        refine qG.br (P := (4 : Int) = 4) (pc1 := 50) (pc2 := 55) (st1 := []) rfl (fun h4 => ?_) (fun h4 => ?_)
        · skip
          refine qG.blk 5 (pc' := 57) (ls' := [(2, 95), (0, ((c : Nat) : Int)), (0, 4), (0, what), (9, 0), (9, 0)]) (st' := [(0, 5), (0, 4)]) (w' := (qup w 95 42 (-1))) (n' := 142) rfl ?_
          refine qG.br (P := (4 : Int) = 5) (pc1 := 60) (pc2 := 80) (st1 := []) rfl (fun h5 => ?_) (fun h5 => ?_)
          · exact absurd h5 (by decide)
          · skip
            refine qG.blk 2 (pc' := 82) (ls' := [(2, 95), (0, ((c : Nat) : Int)), (0, 4), (0, what), (9, 0), (9, 0)]) (st' := [(0, ((c : Nat) : Int)), (2, 95)]) (w' := (qup w 95 42 (-1))) (n' := 142) rfl ?_
            refine qG.call (t := 249) (na := 2) (sk := 1) (md := 1) (ls1 := [(2, 95), (0, ((c : Nat) : Int)), (9, 0), (9, 0)]) (r1 := []) rfl rfl rfl rfl rfl (K_sees (by omega) c hc ((qup w 95 42 (-1))) hIA) ?_
            rintro _ w7 _ ⟨rfl, hw7, rfl⟩
            rw [hw7]
            subst hQ9
            exact K_doesB4 (by omega) c what hw0 (w 95 37).toNat _ (seesF_32 10) (dA 4 what w) hIA (by rw [dA_o (by omega)]; omega) (by omega)
        · exact absurd h4 (by decide)
theorem K_doesB5 {d : Nat} (hd : 1 ≤ d) (c : Nat) (what : Int) (hw0 : -2147483648 ≤ what ∧ what ≤ 2147483647) (s : Nat) (v : Int) (hv : yin (-2147483648, 2147483647) v) (wA : qW) (hIA : yInv zgf zga zra zSp wA) (hs : wA 95 37 = (s : Int)) (hs8 : s + dN 5 what ≤ 800) : qG none d 252 85 [(2, 95), (0, ((c : Nat) : Int)), (0, 5), (0, what), (9, 0), (9, 0)] [(0, v)] wA 142 (fun (r : qV) (w1 : qW) (n1 : Nat) => r = (9, 0) ∧ w1 = dD (dC v (dB v s wA (dN 5 what))) ∧ n1 = 142) := by
  generalize hQ9 : (fun (r : qV) (w1 : qW) (n1 : Nat) => r = (9, 0) ∧ w1 = dD (dC v (dB v s wA (dN 5 what))) ∧ n1 = 142) = Q9
  obtain ⟨d, rfl⟩ : ∃ d9, d = d9 + 1 := ⟨d - 1, by omega⟩
  have hdn : dN 5 what = 1 := rfl
  refine qG.blk 3 (pc' := 90) (ls' := [(2, 95), (0, ((c : Nat) : Int)), (0, 5), (0, what), (0, v), (0, 0)]) (st' := []) (w' := wA) (n' := 142) rfl ?_
  have L90 : ∀ (m9 : Nat) (i : Nat) (wB : qW), dN 5 what - i = m9 → (i ≤ dN 5 what ∧ wB = dB v s wA i) → qG none (d + 1) 252 90 [(2, 95), (0, ((c : Nat) : Int)), (0, 5), (0, what), (0, v), (0, ((i : Nat) : Int))] [] wB 142 Q9 := by
    intro m9
    induction m9 using Nat.strongRecOn with
    | ind m9 ih90 =>
    intro i wB hm90 hI90
    obtain ⟨hi9, hwB⟩ := hI90
    refine qG.blk 3 (pc' := 94) (ls' := [(2, 95), (0, ((c : Nat) : Int)), (0, 5), (0, what), (0, v), (0, ((i : Nat) : Int))]) (st' := [(0, 2), (0, 5), (0, ((i : Nat) : Int))]) (w' := wB) (n' := 142) rfl ?_
    refine qG.br (P := (5 : Int) = 2) (pc1 := 97) (pc2 := 101) (st1 := [(0, ((i : Nat) : Int))]) rfl (fun h1 => ?_) (fun h1 => ?_)
    · exact absurd h1 (by decide)
    · skip
      refine qG.blk 1 (pc' := 102) (ls' := [(2, 95), (0, ((c : Nat) : Int)), (0, 5), (0, what), (0, v), (0, ((i : Nat) : Int))]) (st' := [(0, 1), (0, ((i : Nat) : Int))]) (w' := wB) (n' := 142) rfl ?_
      refine qG.br (P := ((i : Nat) : Int) < 1) (pc1 := 105) (pc2 := 132) (st1 := []) rfl (fun hlim => ?_) (fun hlim => ?_)
      · skip
        refine qG.blk 2 (pc' := 109) (ls' := [(2, 95), (0, ((c : Nat) : Int)), (0, 5), (0, what), (0, v), (0, ((i : Nat) : Int))]) (st' := [(2, wB 95 36)]) (w' := wB) (n' := 142) rfl ?_
        rw [show wB 95 36 = 116 from (congrFun (congrFun hwB 95) 36).trans ((dB_o (by decide) (by omega) i).trans (zref hIA rfl rfl))]
        refine qG.blk 2 (pc' := 113) (ls' := [(2, 95), (0, ((c : Nat) : Int)), (0, 5), (0, what), (0, v), (0, ((i : Nat) : Int))]) (st' := [(0, wB 95 37), (2, 116)]) (w' := wB) (n' := 142) rfl ?_
        rw [show wB 95 37 = ((s + i : Nat) : Int) from (congrFun (congrFun hwB 95) 37).trans (dB_s hs i)]
        refine qG.blk 1 (pc' := 115) (ls' := [(2, 95), (0, ((c : Nat) : Int)), (0, 5), (0, what), (0, v), (0, ((i : Nat) : Int))]) (st' := [(0, v), (0, ((s + i : Nat) : Int)), (2, 116)]) (w' := wB) (n' := 142) rfl ?_
        refine qG.ist (m := 900) rfl rfl (by omega) (by decide) ?_
        show qG none (d + 1) 252 116 [(2, 95), (0, ((c : Nat) : Int)), (0, 5), (0, what), (0, v), (0, ((i : Nat) : Int))] [] (qup wB 116 (s + i) v) 142 Q9
        refine qG.blk 3 (pc' := 121) (ls' := [(2, 95), (0, ((c : Nat) : Int)), (0, 5), (0, what), (0, v), (0, ((i : Nat) : Int))]) (st' := [(0, wB 95 37), (2, 95)]) (w' := (qup wB 116 (s + i) v)) (n' := 142) rfl ?_
        rw [show wB 95 37 = ((s + i : Nat) : Int) from (congrFun (congrFun hwB 95) 37).trans (dB_s hs i)]
        refine qG.blk 2 (pc' := 123) (ls' := [(2, 95), (0, ((c : Nat) : Int)), (0, 5), (0, what), (0, v), (0, ((i : Nat) : Int))]) (st' := [(0, wrp (((s + i : Nat) : Int) + 1)), (2, 95)]) (w' := (qup wB 116 (s + i) v)) (n' := 142) rfl ?_
        rw [show wrp (((s + i : Nat) : Int) + 1) = ((s + i + 1 : Nat) : Int) from by rw [wrp_id (by omega) (by omega)]; omega]
        refine qG.blk 2 (pc' := 129) (ls' := [(2, 95), (0, ((c : Nat) : Int)), (0, 5), (0, what), (0, v), (0, wrp (((i : Nat) : Int) + 1))]) (st' := []) (w' := (qup (qup wB 116 (s + i) v) 95 37 ((s + i + 1 : Nat) : Int))) (n' := 142) rfl ?_
        rw [show wrp (((i : Nat) : Int) + 1) = ((i + 1 : Nat) : Int) from wrp_id (by omega) (by omega)]
        refine qG.blk 1 (pc' := 90) (ls' := [(2, 95), (0, ((c : Nat) : Int)), (0, 5), (0, what), (0, v), (0, ((i + 1 : Nat) : Int))]) (st' := []) (w' := (qup (qup wB 116 (s + i) v) 95 37 ((s + i + 1 : Nat) : Int))) (n' := 142) rfl ?_
        exact ih90 _ (by omega) (i + 1) ((qup (qup wB 116 (s + i) v) 95 37 ((s + i + 1 : Nat) : Int))) rfl (⟨by omega, by rw [hwB]; rfl⟩)
      · skip
        refine qG.blk 8 (pc' := 147) (ls' := [(2, 95), (0, ((c : Nat) : Int)), (0, 5), (0, what), (0, v), (0, ((i : Nat) : Int))]) (st' := [(0, wB 95 41)]) (w' := (qup wB 95 38 (qor (wB 95 38) v))) (n' := 142) rfl ?_
        refine qG.call (t := 211) (na := 1) (sk := 0) (md := 0) (ls1 := [(0, wB 95 41), (9, 0), (9, 0)]) (r1 := []) rfl rfl rfl rfl rfl (K_bits (by omega) _ _) ?_
        rintro _ w7 _ ⟨rfl, hw7, rfl⟩
        rw [hw7]
        show qG none (d + 1) 252 150 [(2, 95), (0, ((c : Nat) : Int)), (0, 5), (0, what), (0, v), (0, ((i : Nat) : Int))] [(0, bitsF (wB 95 41) 16)] (qup wB 95 38 (qor (wB 95 38) v)) 142 Q9
        refine qG.blk 5 (pc' := 159) (ls' := [(2, 95), (0, ((c : Nat) : Int)), (0, 5), (0, what), (0, v), (0, bitsF (wB 95 41) 16)]) (st' := [(0, wB 95 39), (0, bitsF (wB 95 41) 16), (2, 95)]) (w' := (qup wB 95 38 (qor (wB 95 38) v))) (n' := 142) rfl ?_
        refine qG.br (P := wB 95 39 < bitsF (wB 95 41) 16) (pc1 := 162) (pc2 := 167) (st1 := [(2, 95)]) rfl (fun h2 => ?_) (fun h2 => ?_)
        · skip
          refine qG.blk 3 (pc' := 174) (ls' := [(2, 95), (0, ((c : Nat) : Int)), (0, 5), (0, what), (0, v), (0, bitsF (wB 95 41) 16)]) (st' := []) (w' := (qup (qup wB 95 38 (qor (wB 95 38) v)) 95 39 (bitsF (wB 95 41) 16))) (n' := 142) rfl ?_
          refine qG.retv rfl rfl ?_
          subst hQ9
          refine ⟨rfl, ?_, rfl⟩
          have hi : i = dN 5 what := by omega
          subst hwB
          subst hi
          unfold dD dC
          simp only [qup_k, qup_j (show (39 : Nat) ≠ 38 by decide), qup_j (show (41 : Nat) ≠ 38 by decide)] at *
          first | rw [if_pos (by omega)] | rw [if_neg (by omega)]
        · skip
          refine qG.blk 3 (pc' := 174) (ls' := [(2, 95), (0, ((c : Nat) : Int)), (0, 5), (0, what), (0, v), (0, bitsF (wB 95 41) 16)]) (st' := []) (w' := (qup (qup wB 95 38 (qor (wB 95 38) v)) 95 39 (wB 95 39))) (n' := 142) rfl ?_
          refine qG.retv rfl rfl ?_
          subst hQ9
          refine ⟨rfl, ?_, rfl⟩
          have hi : i = dN 5 what := by omega
          subst hwB
          subst hi
          unfold dD dC
          simp only [qup_k, qup_j (show (39 : Nat) ≠ 38 by decide), qup_j (show (41 : Nat) ≠ 38 by decide)] at *
          first | rw [if_pos (by omega)] | rw [if_neg (by omega)]
  exact L90 _ (0) (wA) rfl (⟨by omega, rfl⟩)
theorem K_does5 {d : Nat} (hd : 2 ≤ d) (c : Nat) (what : Int) (hc : c < 3) (hw0 : yin (-2147483648, 2147483647) what) (w : qW) (hI : yInv zgf zga zra zSp w) (hs8 : w 95 37 + (dN 5 what : Nat) ≤ 800) : qG none d 252 0 [(2, 95), (0, ((c : Nat) : Int)), (0, 5), (0, what), (9, 0), (9, 0)] [] w 142 (fun (r : qV) (w1 : qW) (n1 : Nat) => r = (9, 0) ∧ w1 = doesW w c 5 what ∧ n1 = 142) := by
  generalize hQ9 : (fun (r : qV) (w1 : qW) (n1 : Nat) => r = (9, 0) ∧ w1 = doesW w c 5 what ∧ n1 = 142) = Q9
  have h43 := zfld hI (j := 43) (b := (0, 1)) rfl
  have a43 : (0 : Int) ≤ w 95 43 := h43.1
  have b43 : w 95 43 ≤ (1 : Int) := h43.2
  have h37 := zfld hI (j := 37) (b := (0, 800)) rfl
  have a37 : (0 : Int) ≤ w 95 37 := h37.1
  have hIA : yInv zgf zga zra zSp (dA 5 what w) := dA_I hI hw0
  obtain ⟨d, rfl⟩ : ∃ d9, d = d9 + 1 := ⟨d - 1, by omega⟩
  refine qG.blk 1 (pc' := 1) (ls' := [(2, 95), (0, ((c : Nat) : Int)), (0, 5), (0, what), (9, 0), (9, 0)]) (st' := [(0, 5)]) (w' := w) (n' := 142) rfl ?_
  refine qG.br (P := (5 : Int) = 0) (pc1 := 4) (pc2 := 16) (st1 := []) rfl (fun h1 => ?_) (fun h1 => ?_)
  · exact absurd h1 (by decide)
  · skip
    refine qG.blk 2 (pc' := 18) (ls' := [(2, 95), (0, ((c : Nat) : Int)), (0, 5), (0, what), (9, 0), (9, 0)]) (st' := [(0, 1), (0, 5)]) (w' := w) (n' := 142) rfl ?_
    refine qG.br (P := (5 : Int) = 1) (pc1 := 21) (pc2 := 35) (st1 := []) rfl (fun h2 => ?_) (fun h2 => ?_)
    · exact absurd h2 (by decide)
    · skip
      refine qG.blk 2 (pc' := 37) (ls' := [(2, 95), (0, ((c : Nat) : Int)), (0, 5), (0, what), (9, 0), (9, 0)]) (st' := [(0, 3), (0, 5)]) (w' := w) (n' := 142) rfl ?_
      refine qG.br (P := (5 : Int) = 3) (pc1 := 40) (pc2 := 45) (st1 := []) rfl (fun h3 => ?_) (fun h3 => ?_)
      · exact absurd h3 (by decide)
      · skip
        refine qG.blk 2 (pc' := 47) (ls' := [(2, 95), (0, ((c : Nat) : Int)), (0, 5), (0, what), (9, 0), (9, 0)]) (st' := [(0, 4), (0, 5)]) (w' := w) (n' := 142) rfl ?_
        refine qG.br (P := (5 : Int) = 4) (pc1 := 50) (pc2 := 55) (st1 := []) rfl (fun h4 => ?_) (fun h4 => ?_)
        · exact absurd h4 (by decide)
        · skip
          refine qG.blk 2 (pc' := 57) (ls' := [(2, 95), (0, ((c : Nat) : Int)), (0, 5), (0, what), (9, 0), (9, 0)]) (st' := [(0, 5), (0, 5)]) (w' := w) (n' := 142) rfl ?_
          refine qG.br (P := (5 : Int) = 5) (pc1 := 60) (pc2 := 80) (st1 := []) rfl (fun h5 => ?_) (fun h5 => ?_)
          · skip
            refine qG.blk 5 (pc' := 67) (ls' := [(2, 95), (0, ((c : Nat) : Int)), (0, 5), (0, what), (9, 0), (9, 0)]) (st' := [(0, wrp (1 - (w 95 43))), (2, 95)]) (w' := w) (n' := 142) rfl ?_
            rw [show wrp (1 - (w 95 43)) = 1 - w 95 43 from wrp_id (by omega) (by omega)]
            refine qG.blk 6 (pc' := 77) (ls' := [(2, 95), (0, ((c : Nat) : Int)), (0, 5), (0, what), (9, 0), (9, 0)]) (st' := [(0, wrp ((w 95 40) + 1)), (2, 95)]) (w' := (qup w 95 43 (1 - w 95 43))) (n' := 142) rfl ?_
            refine qG.blk 3 (pc' := 82) (ls' := [(2, 95), (0, ((c : Nat) : Int)), (0, 5), (0, what), (9, 0), (9, 0)]) (st' := [(0, ((c : Nat) : Int)), (2, 95)]) (w' := (qup (qup w 95 43 (1 - w 95 43)) 95 40 (wrp ((w 95 40) + 1)))) (n' := 142) rfl ?_
            refine qG.call (t := 249) (na := 2) (sk := 1) (md := 1) (ls1 := [(2, 95), (0, ((c : Nat) : Int)), (9, 0), (9, 0)]) (r1 := []) rfl rfl rfl rfl rfl (K_sees (by omega) c hc ((qup (qup w 95 43 (1 - w 95 43)) 95 40 (wrp ((w 95 40) + 1)))) hIA) ?_
            rintro _ w7 _ ⟨rfl, hw7, rfl⟩
            rw [hw7]
            subst hQ9
            exact K_doesB5 (by omega) c what hw0 (w 95 37).toNat _ (seesF_32 10) (dA 5 what w) hIA (by rw [dA_o (by omega)]; omega) (by omega)
          · exact absurd h5 (by decide)
theorem K_does {d : Nat} (hd : 2 ≤ d) (c : Nat) (kind what : Int) (hc : c < 3) (hk : 0 ≤ kind ∧ kind ≤ 5) (hw0 : yin (-2147483648, 2147483647) what) (w : qW) (hI : yInv zgf zga zra zSp w) (hs8 : w 95 37 + (dN kind what : Nat) ≤ 800) : qG none d 252 0 [(2, 95), (0, ((c : Nat) : Int)), (0, kind), (0, what), (9, 0), (9, 0)] [] w 142 (fun (r : qV) (w1 : qW) (n1 : Nat) => r = (9, 0) ∧ w1 = doesW w c kind what ∧ n1 = 142) := by
  rcases (show kind = 0 ∨ kind = 1 ∨ kind = 2 ∨ kind = 3 ∨ kind = 4 ∨ kind = 5 by omega) with rfl | rfl | rfl | rfl | rfl | rfl
  · exact K_does0 hd c what hc hw0 w hI hs8
  · exact K_does1 hd c what hc hw0 w hI hs8
  · exact K_does2 hd c what hc hw0 w hI hs8
  · exact K_does3 hd c what hc hw0 w hI hs8
  · exact K_does4 hd c what hc hw0 w hI hs8
  · exact K_does5 hd c what hc hw0 w hI hs8
/-- a fresh look -/
noncomputable def begW (w : qW) : qW := qup (qup (qup (qup (qup (qup (qup w 95 37 0) 95 38 0) 95 39 0) 95 40 0) 95 41 0) 95 42 (-1)) 95 43 0
noncomputable def shW (w : qW) (c k : Nat) : Nat → qW
  | 0 => begW w
  | i + 1 => doesW (shW w c k i) c (w 104 (40 * k + i)) (w 105 (40 * k + i))
theorem begW_o {w : qW} {p j : Nat} (h2 : ¬ (p = 95 ∧ 37 ≤ j ∧ j ≤ 43)) : begW w p j = w p j := by
  have k : ∀ (v : qW) (q : Nat) (x : Int), (37 ≤ q ∧ q ≤ 43) → qup v 95 q x p j = v p j := fun v q x hq => by
    by_cases hp : p = 95
    · subst hp
      exact qup_j (fun z => h2 ⟨rfl, by omega⟩)
    · rw [qup_ne hp]
  unfold begW
  rw [k _ _ _ (by omega), k _ _ _ (by omega), k _ _ _ (by omega), k _ _ _ (by omega), k _ _ _ (by omega), k _ _ _ (by omega), k _ _ _ (by omega)]
theorem begW_37 {w : qW} : begW w 95 37 = 0 := by unfold begW; simp (disch := decide) only [qup_j, qup_k]
theorem begW_I {w : qW} (hI : yInv zgf zga zra zSp w) : yInv zgf zga zra zSp (begW w) :=
  zup_f (zup_f (zup_f (zup_f (zup_f (zup_f (zup_f hI (b := (0, 800)) rfl rfl rfl ⟨by decide, by decide⟩) (b := (-2147483648, 2147483647)) rfl rfl rfl ⟨by decide, by decide⟩) (b := (0, 16)) rfl rfl rfl ⟨by decide, by decide⟩) (b := (-2147483648, 2147483647)) rfl rfl rfl ⟨by decide, by decide⟩) (b := (-2147483648, 2147483647)) rfl rfl rfl ⟨by decide, by decide⟩) (b := (-2147483648, 2147483647)) rfl rfl rfl ⟨by decide, by decide⟩) (b := (0, 1)) rfl rfl rfl ⟨by decide, by decide⟩
/-- the steps of the shows that are told: a wait is 1 .. 20 -/
noncomputable def Sp1 (w : qW) : Prop := ∀ j, j < 160 → w 104 j = 2 → w 105 j ≤ 20
theorem shW_o {w : qW} {c k : Nat} {p j : Nat} (h1 : p ≠ 116) (h2 : ¬ (p = 95 ∧ 37 ≤ j ∧ j ≤ 43)) : ∀ i, shW w c k i p j = w p j
  | 0 => begW_o h2
  | i + 1 => (doesW_o h1 h2).trans (shW_o h1 h2 i)
theorem shW_I {w : qW} {c k : Nat} (hk : k < 4) (hI : yInv zgf zga zra zSp w) (hS : Sp1 w) : ∀ i, i ≤ 40 → yInv zgf zga zra zSp (shW w c k i) ∧ shW w c k i 95 37 ≤ 20 * i ∧ 0 ≤ shW w c k i 95 37
  | 0, _ => ⟨begW_I hI, by show begW w 95 37 ≤ _; rw [begW_37]; decide, by show 0 ≤ begW w 95 37; rw [begW_37]; decide⟩
  | i + 1, h => by
    obtain ⟨a, b, b0⟩ := shW_I (c := c) hk hI hS i (by omega)
    have hw := hI.2.1 105 (40 * k + i) (0, 9999) rfl rfl
    have w1 : (0 : Int) ≤ w 105 (40 * k + i) := hw.1
    have w2 : w 105 (40 * k + i) ≤ (9999 : Int) := hw.2
    have hn : (dN (w 104 (40 * k + i)) (w 105 (40 * k + i)) : Int) ≤ 20 := by
      unfold dN
      split
      · rename_i e
        have := hS (40 * k + i) (by omega) e
        omega
      · decide
    refine ⟨doesW_I a ⟨by show (-2147483648 : Int) ≤ _; omega, by show _ ≤ (2147483647 : Int); omega⟩ (by omega), ?_, ?_⟩
    · show doesW _ _ _ _ 95 37 ≤ _
      rw [doesW_s a]
      omega
    · show 0 ≤ doesW _ _ _ _ 95 37
      rw [doesW_s a]
      omega
theorem K_begins {d : Nat} (hd : 0 ≤ d) (w : qW) (hI : yInv zgf zga zra zSp w) : qG none d 251 0 [(2, 95)] [] w 142 (fun (r : qV) (w1 : qW) (n1 : Nat) => r = (9, 0) ∧ w1 = begW w ∧ n1 = 142) := by
  generalize hQ9 : (fun (r : qV) (w1 : qW) (n1 : Nat) => r = (9, 0) ∧ w1 = begW w ∧ n1 = 142) = Q9
  refine qG.blk 12 (pc' := 20) (ls' := [(2, 95)]) (st' := []) (w' := (qup (qup (qup (qup w 95 37 0) 95 38 0) 95 39 0) 95 40 0)) (n' := 142) rfl ?_
  refine qG.blk 9 (pc' := 35) (ls' := [(2, 95)]) (st' := []) (w' := (qup (qup (qup (qup (qup (qup (qup w 95 37 0) 95 38 0) 95 39 0) 95 40 0) 95 41 0) 95 42 (-1)) 95 43 0)) (n' := 142) rfl ?_
  refine qG.retv rfl rfl ?_
  subst hQ9
  exact ⟨rfl, rfl, rfl⟩
theorem K_shows {d : Nat} (hd : 3 ≤ d) (c k : Nat) (hc : c < 3) (hk : k < 4) (w : qW) (hI : yInv zgf zga zra zSp w) (hS : Sp1 w) : qG none d 253 0 [(2, 95), (0, ((c : Nat) : Int)), (0, ((k : Nat) : Int)), (9, 0)] [] w 142 (fun (r : qV) (w1 : qW) (n1 : Nat) => r = (9, 0) ∧ w1 = shW w c k (w 106 k).toNat ∧ n1 = 142) := by
  generalize hQ9 : (fun (r : qV) (w1 : qW) (n1 : Nat) => r = (9, 0) ∧ w1 = shW w c k (w 106 k).toNat ∧ n1 = 142) = Q9
  have h106 := hI.2.1 106 k (0, 40) rfl rfl
  have a106 : (0 : Int) ≤ w 106 k := h106.1
  have b106 : w 106 k ≤ (40 : Int) := h106.2
  obtain ⟨d, rfl⟩ : ∃ d9, d = d9 + 1 := ⟨d - 1, by omega⟩
  refine qG.blk 1 (pc' := 1) (ls' := [(2, 95), (0, ((c : Nat) : Int)), (0, ((k : Nat) : Int)), (9, 0)]) (st' := [(2, 95)]) (w' := w) (n' := 142) rfl ?_
  refine qG.call (t := 251) (na := 1) (sk := 1) (md := 1) (ls1 := [(2, 95)]) (r1 := []) rfl rfl rfl rfl rfl (K_begins (by omega) w hI) ?_
  rintro _ w7 _ ⟨rfl, hw7, rfl⟩
  rw [hw7]
  show qG none (d + 1) 253 4 [(2, 95), (0, ((c : Nat) : Int)), (0, ((k : Nat) : Int)), (9, 0)] [] (begW w) 142 Q9
  refine qG.blk 2 (pc' := 6) (ls' := [(2, 95), (0, ((c : Nat) : Int)), (0, ((k : Nat) : Int)), (0, 0)]) (st' := []) (w' := (begW w)) (n' := 142) rfl ?_
  have L6 : ∀ (m9 : Nat) (i : Nat) (wS : qW), 40 - i = m9 → ((i : Int) ≤ w 106 k ∧ yInv zgf zga zra zSp wS ∧ wS = shW w c k i) → qG none (d + 1) 253 6 [(2, 95), (0, ((c : Nat) : Int)), (0, ((k : Nat) : Int)), (0, ((i : Nat) : Int))] [] wS 142 Q9 := by
    intro m9
    induction m9 using Nat.strongRecOn with
    | ind m9 ih6 =>
    intro i wS hm6 hI6
    have hi40 : i ≤ 40 := by omega
    refine qG.blk 3 (pc' := 11) (ls' := [(2, 95), (0, ((c : Nat) : Int)), (0, ((k : Nat) : Int)), (0, ((i : Nat) : Int))]) (st' := [(2, wS 95 12), (0, ((i : Nat) : Int))]) (w' := wS) (n' := 142) rfl ?_
    rw [show wS 95 12 = 106 from zref hI6.2.1 rfl rfl]
    refine qG.blk 1 (pc' := 12) (ls' := [(2, 95), (0, ((c : Nat) : Int)), (0, ((k : Nat) : Int)), (0, ((i : Nat) : Int))]) (st' := [(0, ((k : Nat) : Int)), (2, 106), (0, ((i : Nat) : Int))]) (w' := wS) (n' := 142) rfl ?_
    refine qG.ar (P := 0 ≤ ((k : Nat) : Int) ∧ ((k : Nat) : Int) < ((4 : Nat) : Int)) (P2 := 0 < (106 : Int) ∧ (106 : Int) ≤ ((142 : Nat) : Int)) (pc' := 13) (ls' := [(2, 95), (0, ((c : Nat) : Int)), (0, ((k : Nat) : Int)), (0, ((i : Nat) : Int))]) (st' := [(0, wS 106 k), (0, ((i : Nat) : Int))]) (w' := wS) (n' := 142) rfl (by omega) (by decide) ?_
    rw [show wS 106 k = w 106 k from (congrFun (congrFun hI6.2.2 106) k).trans (shW_o (by decide) (by omega) i)]
    refine qG.br (P := ((i : Nat) : Int) < w 106 k) (pc1 := 16) (pc2 := 49) (st1 := []) rfl (fun hlt => ?_) (fun hlt => ?_)
    · skip
      have hkd := hI.2.1 104 (40 * k + i) (0, 5) rfl rfl
      have hwt := hI.2.1 105 (40 * k + i) (0, 9999) rfl rfl
      have w1 : (0 : Int) ≤ w 105 (40 * k + i) := hwt.1
      have w2 : w 105 (40 * k + i) ≤ (9999 : Int) := hwt.2
      have hsec := shW_I (c := c) hk hI hS i hi40
      have hsn : (dN (w 104 (40 * k + i)) (w 105 (40 * k + i)) : Int) ≤ 20 := by
          unfold dN
          split
          · rename_i e
            have := hS (40 * k + i) (by omega) e
            omega
          · decide
      refine qG.blk 4 (pc' := 22) (ls' := [(2, 95), (0, ((c : Nat) : Int)), (0, ((k : Nat) : Int)), (0, ((i : Nat) : Int))]) (st' := [(2, wS 95 10), (0, ((c : Nat) : Int)), (2, 95)]) (w' := wS) (n' := 142) rfl ?_
      rw [show wS 95 10 = 104 from zref hI6.2.1 rfl rfl]
      refine qG.blk 3 (pc' := 26) (ls' := [(2, 95), (0, ((c : Nat) : Int)), (0, ((k : Nat) : Int)), (0, ((i : Nat) : Int))]) (st' := [(0, wrp (40 * ((k : Nat) : Int))), (2, 104), (0, ((c : Nat) : Int)), (2, 95)]) (w' := wS) (n' := 142) rfl ?_
      rw [show wrp (40 * ((k : Nat) : Int)) = ((40 * k : Nat) : Int) from by rw [wrp_id (by omega) (by omega)]; omega]
      refine qG.blk 2 (pc' := 28) (ls' := [(2, 95), (0, ((c : Nat) : Int)), (0, ((k : Nat) : Int)), (0, ((i : Nat) : Int))]) (st' := [(0, wrp (((40 * k : Nat) : Int) + ((i : Nat) : Int))), (2, 104), (0, ((c : Nat) : Int)), (2, 95)]) (w' := wS) (n' := 142) rfl ?_
      rw [show wrp (((40 * k : Nat) : Int) + ((i : Nat) : Int)) = ((40 * k + i : Nat) : Int) from by rw [wrp_id (by omega) (by omega)]; omega]
      refine qG.ild (m := 160) rfl rfl (by omega) (by decide) ?_
      show qG none (d + 1) 253 29 [(2, 95), (0, ((c : Nat) : Int)), (0, ((k : Nat) : Int)), (0, ((i : Nat) : Int))] [(0, wS 104 (40 * k + i)), (0, ((c : Nat) : Int)), (2, 95)] wS 142 Q9
      rw [show wS 104 (40 * k + i) = w 104 (40 * k + i) from (congrFun (congrFun hI6.2.2 104) (40 * k + i)).trans (shW_o (by decide) (by omega) i)]
      refine qG.blk 2 (pc' := 33) (ls' := [(2, 95), (0, ((c : Nat) : Int)), (0, ((k : Nat) : Int)), (0, ((i : Nat) : Int))]) (st' := [(2, wS 95 11), (0, w 104 (40 * k + i)), (0, ((c : Nat) : Int)), (2, 95)]) (w' := wS) (n' := 142) rfl ?_
      rw [show wS 95 11 = 105 from zref hI6.2.1 rfl rfl]
      refine qG.blk 3 (pc' := 37) (ls' := [(2, 95), (0, ((c : Nat) : Int)), (0, ((k : Nat) : Int)), (0, ((i : Nat) : Int))]) (st' := [(0, wrp (40 * ((k : Nat) : Int))), (2, 105), (0, w 104 (40 * k + i)), (0, ((c : Nat) : Int)), (2, 95)]) (w' := wS) (n' := 142) rfl ?_
      rw [show wrp (40 * ((k : Nat) : Int)) = ((40 * k : Nat) : Int) from by rw [wrp_id (by omega) (by omega)]; omega]
      refine qG.blk 2 (pc' := 39) (ls' := [(2, 95), (0, ((c : Nat) : Int)), (0, ((k : Nat) : Int)), (0, ((i : Nat) : Int))]) (st' := [(0, wrp (((40 * k : Nat) : Int) + ((i : Nat) : Int))), (2, 105), (0, w 104 (40 * k + i)), (0, ((c : Nat) : Int)), (2, 95)]) (w' := wS) (n' := 142) rfl ?_
      rw [show wrp (((40 * k : Nat) : Int) + ((i : Nat) : Int)) = ((40 * k + i : Nat) : Int) from by rw [wrp_id (by omega) (by omega)]; omega]
      refine qG.ild (m := 160) rfl rfl (by omega) (by decide) ?_
      show qG none (d + 1) 253 40 [(2, 95), (0, ((c : Nat) : Int)), (0, ((k : Nat) : Int)), (0, ((i : Nat) : Int))] [(0, wS 105 (40 * k + i)), (0, w 104 (40 * k + i)), (0, ((c : Nat) : Int)), (2, 95)] wS 142 Q9
      rw [show wS 105 (40 * k + i) = w 105 (40 * k + i) from (congrFun (congrFun hI6.2.2 105) (40 * k + i)).trans (shW_o (by decide) (by omega) i)]
      refine qG.call (t := 252) (na := 4) (sk := 1) (md := 1) (ls1 := [(2, 95), (0, ((c : Nat) : Int)), (0, w 104 (40 * k + i)), (0, w 105 (40 * k + i)), (9, 0), (9, 0)]) (r1 := []) rfl rfl rfl rfl rfl (K_does (by omega) c _ _ hc ⟨hkd.1, hkd.2⟩ ⟨by show (-2147483648 : Int) ≤ _; omega, by show _ ≤ (2147483647 : Int); omega⟩ wS hI6.2.1 (by rw [hI6.2.2]; omega)) ?_
      rintro _ w7 _ ⟨rfl, hw7, rfl⟩
      rw [hw7, show doesW wS c (w 104 (40 * k + i)) (w 105 (40 * k + i)) = shW w c k (i + 1) from by rw [hI6.2.2]; rfl]
      show qG none (d + 1) 253 43 [(2, 95), (0, ((c : Nat) : Int)), (0, ((k : Nat) : Int)), (0, ((i : Nat) : Int))] [] (shW w c k (i + 1)) 142 Q9
      refine qG.blk 1 (pc' := 46) (ls' := [(2, 95), (0, ((c : Nat) : Int)), (0, ((k : Nat) : Int)), (0, wrp (((i : Nat) : Int) + 1))]) (st' := []) (w' := (shW w c k (i + 1))) (n' := 142) rfl ?_
      rw [show wrp (((i : Nat) : Int) + 1) = ((i + 1 : Nat) : Int) from wrp_id (by omega) (by omega)]
      refine qG.blk 1 (pc' := 6) (ls' := [(2, 95), (0, ((c : Nat) : Int)), (0, ((k : Nat) : Int)), (0, ((i + 1 : Nat) : Int))]) (st' := []) (w' := (shW w c k (i + 1))) (n' := 142) rfl ?_
      exact ih6 _ (by omega) (i + 1) ((shW w c k (i + 1))) rfl (⟨by omega, (shW_I hk hI hS (i + 1) (by omega)).1, rfl⟩)
    · skip
      refine qG.retv rfl rfl ?_
      subst hQ9
      exact ⟨rfl, by rw [hI6.2.2, show (w 106 k).toNat = i by omega], rfl⟩
  exact L6 _ (0) ((begW w)) rfl (⟨by omega, begW_I hI, rfl⟩)
end
section
/-! the reference's tokens, exactly -/
section TX
variable {sc : Option (Nat × (Nat → Int))} {d k pc n : Nat} {ls r : List qV} {w : qW} {Q : qV → qW → Nat → Prop}
theorem qG.tlen {x : Int} {l : List Int} (hl : qtxb x = some l) (hq : qcq k pc = some (906, 1, 1, 1)) (h8 : Nat.ble (qcat r) 8 = true) (hd : 3 ≤ d) (g : qG sc (d + 1) k (pc + 3) ls ((0, (l.length : Int)) :: r) w n Q) : qG sc (d + 1) k pc ls ((3, x) :: r) w n Q := by
  refine qG.mth (t := 906) (na := 1) hq rfl ?_ h8 (pc' := pc + 3) (ls' := ls) (st' := (0, (l.length : Int)) :: r) (w' := w) (n' := n) ?_ g
  · show (Nat.beq 1 1 && Nat.ble 4 (d + 1)) = true
    rw [Nat.ble_eq_true_of_le (show 4 ≤ d + 1 by omega)]; rfl
  · show (match qtxb x with
      | some l => some (pc + 3, ls, ((0, (l.length : Int)) : qV) :: r, w, n)
      | none => none) = _
    rw [hl]
theorem qG.tch {x i : Int} {l : List Int} (hl : qtxb x = some l) (hq : qcq k pc = some (907, 2, 1, 1)) (h8 : Nat.ble (qcat r) 8 = true) (hd : 3 ≤ d) (hi : 0 ≤ i ∧ i < (l.length : Int)) (g : qG sc (d + 1) k (pc + 3) ls ((0, l.getD i.toNat 0) :: r) w n Q) : qG sc (d + 1) k pc ls ((0, i) :: (3, x) :: r) w n Q := by
  refine qG.mth (t := 907) (na := 2) hq rfl ?_ h8 (pc' := pc + 3) (ls' := ls) (st' := (0, l.getD i.toNat 0) :: r) (w' := w) (n' := n) ?_ g
  · show (Nat.beq 1 1 && Nat.ble 4 (d + 1)) = true
    rw [Nat.ble_eq_true_of_le (show 4 ≤ d + 1 by omega)]; rfl
  · show (match qtxb x with
      | some l => if 0 ≤ i ∧ i < (l.length : Int) then some (pc + 3, ls, ((0, l.getD i.toNat 0) : qV) :: r, w, n) else none
      | none => none) = _
    rw [hl]
    exact if_pos hi
end TX
noncomputable def isInV (v a b : Int) : Int := if v < a then 0 else if b < v then 0 else 1
noncomputable def letV (c : Int) : Int := if isInV c 97 122 = 0 then isInV c 65 90 else 1
noncomputable def digV (c : Int) : Int := isInV c 48 57
theorem isInV_01 (v a b : Int) : isInV v a b = 0 ∨ isInV v a b = 1 := by unfold isInV; (repeat' split) <;> omega
theorem letV_01 (c : Int) : letV c = 0 ∨ letV c = 1 := by unfold letV; split; exact isInV_01 _ _ _; exact .inr rfl
theorem digV_1 {c : Int} : digV c = 1 ↔ 48 ≤ c ∧ c ≤ 57 := by unfold digV isInV; (repeat' split) <;> omega
noncomputable def seeV (w : qW) (k : Nat) : Int := if (k : Int) < w 95 25 then w 114 k else -1
theorem seeV_in {w : qW} (hI : yInv zgf zga zra zSp w) (k : Nat) : -1 ≤ seeV w k ∧ seeV w k ≤ 255 := by
  have h := hI.2.1 114 k (0, 255) rfl rfl
  have h1 : (0 : Int) ≤ w 114 k := h.1
  have h2 : w 114 k ≤ (255 : Int) := h.2
  unfold seeV; split <;> omega
theorem seeV_lt {w : qW} (hI : yInv zgf zga zra zSp w) {k : Nat} (h : seeV w k ≠ -1) : (k : Int) < w 95 25 ∧ k < 600 := by
  have h25 := zfld hI (j := 25) (b := (0, 600)) rfl
  have h1 : w 95 25 ≤ (600 : Int) := h25.2
  unfold seeV at h
  split at h
  · rename_i c; exact ⟨c, by omega⟩
  · exact absurd rfl h
theorem seeV_up {w : qW} {j : Nat} {v : Int} (hj : j ≠ 25) (k : Nat) : seeV (qup w 95 j v) k = seeV w k := by
  unfold seeV
  rw [qup_j (fun z => hj z.symm), qup_ne (by decide)]
theorem K_isIn {d : Nat} (hd : 0 ≤ d) (v a b : Int) (w : qW) : qG none d 206 0 [(0, v), (0, a), (0, b)] [] w 142 (fun (r : qV) (w1 : qW) (n1 : Nat) => r = (0, isInV v a b) ∧ w1 = w ∧ n1 = 142) := by
  generalize hQ9 : (fun (r : qV) (w1 : qW) (n1 : Nat) => r = (0, isInV v a b) ∧ w1 = w ∧ n1 = 142) = Q9
  refine qG.blk 2 (pc' := 2) (ls' := [(0, v), (0, a), (0, b)]) (st' := [(0, a), (0, v)]) (w' := w) (n' := 142) rfl ?_
  refine qG.br (P := v < a) (pc1 := 14) (pc2 := 5) (st1 := []) rfl (fun h1 => ?_) (fun h1 => ?_)
  · skip
    refine qG.blk 1 (pc' := 15) (ls' := [(0, v), (0, a), (0, b)]) (st' := [(0, 0)]) (w' := w) (n' := 142) rfl ?_
    refine qG.ret rfl (by first | rfl | exact decide_eq_true (by omega)) ?_
    subst hQ9
    exact ⟨by first | rfl | (simp only [isInV]; (repeat' split) <;> first | rfl | (exfalso; omega)), rfl, rfl⟩
  · skip
    refine qG.blk 2 (pc' := 7) (ls' := [(0, v), (0, a), (0, b)]) (st' := [(0, b), (0, v)]) (w' := w) (n' := 142) rfl ?_
    refine qG.br (P := b < v) (pc1 := 14) (pc2 := 10) (st1 := []) rfl (fun h2 => ?_) (fun h2 => ?_)
    · skip
      refine qG.blk 1 (pc' := 15) (ls' := [(0, v), (0, a), (0, b)]) (st' := [(0, 0)]) (w' := w) (n' := 142) rfl ?_
      refine qG.ret rfl (by first | rfl | exact decide_eq_true (by omega)) ?_
      subst hQ9
      exact ⟨by first | rfl | (simp only [isInV]; (repeat' split) <;> first | rfl | (exfalso; omega)), rfl, rfl⟩
    · skip
      refine qG.blk 2 (pc' := 15) (ls' := [(0, v), (0, a), (0, b)]) (st' := [(0, 1)]) (w' := w) (n' := 142) rfl ?_
      refine qG.ret rfl (by first | rfl | exact decide_eq_true (by omega)) ?_
      subst hQ9
      exact ⟨by first | rfl | (simp only [isInV]; (repeat' split) <;> first | rfl | (exfalso; omega)), rfl, rfl⟩
theorem K_isLetter {d : Nat} (hd : 1 ≤ d) (c : Int) (w : qW) : qG none d 225 0 [(0, c)] [] w 142 (fun (r : qV) (w1 : qW) (n1 : Nat) => r = (0, letV c) ∧ w1 = w ∧ n1 = 142) := by
  generalize hQ9 : (fun (r : qV) (w1 : qW) (n1 : Nat) => r = (0, letV c) ∧ w1 = w ∧ n1 = 142) = Q9
  obtain ⟨d, rfl⟩ : ∃ d9, d = d9 + 1 := ⟨d - 1, by omega⟩
  refine qG.blk 3 (pc' := 5) (ls' := [(0, c)]) (st' := [(0, 122), (0, 97), (0, c)]) (w' := w) (n' := 142) rfl ?_
  refine qG.call (t := 206) (na := 3) (sk := 0) (md := 0) (ls1 := [(0, c), (0, 97), (0, 122)]) (r1 := []) rfl rfl rfl rfl rfl (K_isIn (by omega) _ _ _ _) ?_
  rintro _ w7 _ ⟨rfl, hw7, rfl⟩
  rw [hw7]
  show qG none (d + 1) 225 8 [(0, c)] [(0, isInV (c) (97) (122))] w 142 Q9
  refine qG.br (P := isInV (c) (97) (122) = 0) (pc1 := 11) (pc2 := 22) (st1 := []) rfl (fun h1 => ?_) (fun h1 => ?_)
  · skip
    refine qG.blk 3 (pc' := 16) (ls' := [(0, c)]) (st' := [(0, 90), (0, 65), (0, c)]) (w' := w) (n' := 142) rfl ?_
    refine qG.call (t := 206) (na := 3) (sk := 0) (md := 0) (ls1 := [(0, c), (0, 65), (0, 90)]) (r1 := []) rfl rfl rfl rfl rfl (K_isIn (by omega) _ _ _ _) ?_
    rintro _ w7 _ ⟨rfl, hw7, rfl⟩
    rw [hw7]
    show qG none (d + 1) 225 19 [(0, c)] [(0, isInV (c) (65) (90))] w 142 Q9
    refine qG.br (P := isInV (c) (65) (90) = 0) (pc1 := 26) (pc2 := 22) (st1 := []) rfl (fun h2 => ?_) (fun h2 => ?_)
    · skip
      refine qG.blk 1 (pc' := 27) (ls' := [(0, c)]) (st' := [(0, 0)]) (w' := w) (n' := 142) rfl ?_
      refine qG.ret rfl (by first | rfl | exact decide_eq_true (by omega)) ?_
      subst hQ9
      exact ⟨by first | (unfold letV; simp only [*, if_true, if_false]; done) | (have q1 := isInV_01 c 97 122; have q2 := isInV_01 c 65 90; unfold letV; (repeat' split) <;> first | rfl | (exfalso; omega) | (congr 1; omega)), rfl, rfl⟩
    · skip
      refine qG.blk 2 (pc' := 27) (ls' := [(0, c)]) (st' := [(0, 1)]) (w' := w) (n' := 142) rfl ?_
      refine qG.ret rfl (by first | rfl | exact decide_eq_true (by omega)) ?_
      subst hQ9
      exact ⟨by first | (unfold letV; simp only [*, if_true, if_false]; done) | (have q1 := isInV_01 c 97 122; have q2 := isInV_01 c 65 90; unfold letV; (repeat' split) <;> first | rfl | (exfalso; omega) | (congr 1; omega)), rfl, rfl⟩
  · skip
    refine qG.blk 2 (pc' := 27) (ls' := [(0, c)]) (st' := [(0, 1)]) (w' := w) (n' := 142) rfl ?_
    refine qG.ret rfl (by first | rfl | exact decide_eq_true (by omega)) ?_
    subst hQ9
    exact ⟨by first | (unfold letV; simp only [*, if_true, if_false]; done) | (have q1 := isInV_01 c 97 122; have q2 := isInV_01 c 65 90; unfold letV; (repeat' split) <;> first | rfl | (exfalso; omega) | (congr 1; omega)), rfl, rfl⟩
theorem K_isDigit {d : Nat} (hd : 1 ≤ d) (c : Int) (w : qW) : qG none d 226 0 [(0, c)] [] w 142 (fun (r : qV) (w1 : qW) (n1 : Nat) => r = (0, digV c) ∧ w1 = w ∧ n1 = 142) := by
  generalize hQ9 : (fun (r : qV) (w1 : qW) (n1 : Nat) => r = (0, digV c) ∧ w1 = w ∧ n1 = 142) = Q9
  obtain ⟨d, rfl⟩ : ∃ d9, d = d9 + 1 := ⟨d - 1, by omega⟩
  refine qG.blk 3 (pc' := 5) (ls' := [(0, c)]) (st' := [(0, 57), (0, 48), (0, c)]) (w' := w) (n' := 142) rfl ?_
  refine qG.call (t := 206) (na := 3) (sk := 0) (md := 0) (ls1 := [(0, c), (0, 48), (0, 57)]) (r1 := []) rfl rfl rfl rfl rfl (K_isIn (by omega) _ _ _ _) ?_
  rintro _ w7 _ ⟨rfl, hw7, rfl⟩
  rw [hw7]
  show qG none (d + 1) 226 8 [(0, c)] [(0, isInV (c) (48) (57))] w 142 Q9
  refine qG.ret rfl (by have q9 := isInV_01 c 48 57; exact decide_eq_true (by omega)) ?_
  subst hQ9
  exact ⟨rfl, rfl, rfl⟩
theorem K_see {d : Nat} (hd : 0 ≤ d) (k : Nat) (hk : k ≤ 600) (w : qW) (hI : yInv zgf zga zra zSp w) : qG none d 224 0 [(2, 95), (0, ((k : Nat) : Int))] [] w 142 (fun (r : qV) (w1 : qW) (n1 : Nat) => r = (0, seeV w k) ∧ w1 = w ∧ n1 = 142) := by
  generalize hQ9 : (fun (r : qV) (w1 : qW) (n1 : Nat) => r = (0, seeV w k) ∧ w1 = w ∧ n1 = 142) = Q9
  have h25 := zfld hI (j := 25) (b := (0, 600)) rfl
  have a25 : w 95 25 ≤ (600 : Int) := h25.2
  refine qG.blk 3 (pc' := 5) (ls' := [(2, 95), (0, ((k : Nat) : Int))]) (st' := [(0, w 95 25), (0, ((k : Nat) : Int))]) (w' := w) (n' := 142) rfl ?_
  refine qG.br (P := ((k : Nat) : Int) < w 95 25) (pc1 := 8) (pc2 := 17) (st1 := []) rfl (fun hlt => ?_) (fun hlt => ?_)
  · skip
    refine qG.blk 2 (pc' := 12) (ls' := [(2, 95), (0, ((k : Nat) : Int))]) (st' := [(2, w 95 20)]) (w' := w) (n' := 142) rfl ?_
    rw [show w 95 20 = 114 from zref hI rfl rfl]
    refine qG.blk 1 (pc' := 13) (ls' := [(2, 95), (0, ((k : Nat) : Int))]) (st' := [(0, ((k : Nat) : Int)), (2, 114)]) (w' := w) (n' := 142) rfl ?_
    refine qG.ild (m := 600) rfl rfl (by omega) (by decide) ?_
    show qG none d 224 14 [(2, 95), (0, ((k : Nat) : Int))] [(0, w 114 k)] w 142 Q9
    refine qG.blk 1 (pc' := 18) (ls' := [(2, 95), (0, ((k : Nat) : Int))]) (st' := [(0, w 114 k)]) (w' := w) (n' := 142) rfl ?_
    refine qG.ret rfl rfl ?_
    subst hQ9
    exact ⟨by unfold seeV; simp only [*, if_true, if_false], rfl, rfl⟩
  · skip
    refine qG.blk 1 (pc' := 18) (ls' := [(2, 95), (0, ((k : Nat) : Int))]) (st' := [(0, (-1))]) (w' := w) (n' := 142) rfl ?_
    refine qG.ret rfl rfl ?_
    subst hQ9
    exact ⟨by unfold seeV; simp only [*, if_true, if_false], rfl, rfl⟩
noncomputable def isK (w : qW) (l : List Int) : Nat → Int
  | 0 => if w 95 26 - w 95 28 = (l.length : Int) then 1 else 0
  | j + 1 => if isK w l j = 0 then 0 else if w 114 ((w 95 28).toNat + j) = l.getD j 0 then 1 else 0
theorem isK_01 (w : qW) (l : List Int) : ∀ j, isK w l j = 0 ∨ isK w l j = 1
  | 0 => by unfold isK; split <;> omega
  | j + 1 => by unfold isK; (repeat' split) <;> omega
theorem isK_0 {w : qW} {l : List Int} {j : Nat} (h : isK w l j = 0) : ∀ n, isK w l (j + n) = 0
  | 0 => h
  | n + 1 => by show isK w l (j + n + 1) = 0; unfold isK; rw [if_pos (isK_0 h n)]
theorem isK_len {w : qW} {l : List Int} : ∀ {j : Nat}, isK w l j ≠ 0 → w 95 26 - w 95 28 = (l.length : Int)
  | 0, h => by unfold isK at h; split at h; assumption; exact absurd rfl h
  | j + 1, h => isK_len (j := j) (fun z => h (isK_0 z 1))
/-- the word just read is the text -/
noncomputable def isV (w : qW) (x : Int) : Int := isK w ((qtxb x).getD []) ((qtxb x).getD []).length
theorem K_is {d : Nat} (hd : 4 ≤ d) (x : Int) (l : List Int) (hl : qtxb x = some l) (w : qW) (hI : yInv zgf zga zra zSp w) : qG none d 227 0 [(2, 95), (3, x), (9, 0), (9, 0)] [] w 142 (fun (r : qV) (w1 : qW) (n1 : Nat) => r = (0, isV w x) ∧ w1 = w ∧ n1 = 142) := by
  generalize hQ9 : (fun (r : qV) (w1 : qW) (n1 : Nat) => r = (0, isV w x) ∧ w1 = w ∧ n1 = 142) = Q9
  have hv9 : isV w x = isK w l l.length := by unfold isV; rw [hl]; rfl
  have h26 := zfld hI (j := 26) (b := (0, 600)) rfl
  have a26 : (0 : Int) ≤ w 95 26 := h26.1
  have b26 : w 95 26 ≤ (600 : Int) := h26.2
  have h28 := zfld hI (j := 28) (b := (0, 600)) rfl
  have a28 : (0 : Int) ≤ w 95 28 := h28.1
  have b28 : w 95 28 ≤ (600 : Int) := h28.2
  have hlen9 : l.length < 100 := (qtc_in (qtxb_in hl).2).1
  obtain ⟨d, rfl⟩ : ∃ d9, d = d9 + 1 := ⟨d - 1, by omega⟩
  refine qG.blk 5 (pc' := 9) (ls' := [(2, 95), (3, x), (9, 0), (9, 0)]) (st' := [(0, wrp ((w 95 26) - (w 95 28)))]) (w' := w) (n' := 142) rfl ?_
  rw [show wrp ((w 95 26) - (w 95 28)) = w 95 26 - w 95 28 from wrp_id (by omega) (by omega)]
  refine qG.blk 1 (pc' := 10) (ls' := [(2, 95), (3, x), (9, 0), (9, 0)]) (st' := [(3, x), (0, w 95 26 - w 95 28)]) (w' := w) (n' := 142) rfl ?_
  refine qG.tlen hl rfl rfl (by omega) ?_
  show qG none (d + 1) 227 13 [(2, 95), (3, x), (9, 0), (9, 0)] [(0, ((l.length : Nat) : Int)), (0, w 95 26 - w 95 28)] w 142 Q9
  refine qG.br (P := w 95 26 - w 95 28 = ((l.length : Nat) : Int)) (pc1 := 16) (pc2 := 20) (st1 := []) rfl (fun hle => ?_) (fun hle => ?_)
  · skip
    refine qG.blk 5 (pc' := 24) (ls' := [(2, 95), (3, x), (0, 1), (0, 0)]) (st' := []) (w' := w) (n' := 142) rfl ?_
    have e8 : isK w l 0 = 1 := by unfold isK; simp only [*, if_true, if_false]
    rw [show qG none (d + 1) 227 24 [(2, 95), (3, x), (0, 1), (0, 0)] [] w 142 Q9 = qG none (d + 1) 227 24 [(2, 95), (3, x), (0, isK w l 0), (0, 0)] [] w 142 Q9 from by rw [e8]]
    have L24 : ∀ (m9 : Nat) (j : Nat), l.length - j = m9 → (j ≤ l.length) → qG none (d + 1) 227 24 [(2, 95), (3, x), (0, isK w l j), (0, ((j : Nat) : Int))] [] w 142 Q9 := by
      intro m9
      induction m9 using Nat.strongRecOn with
      | ind m9 ih24 =>
      intro j hm24 hI24
      refine qG.blk 2 (pc' := 26) (ls' := [(2, 95), (3, x), (0, isK w l j), (0, ((j : Nat) : Int))]) (st' := [(3, x), (0, ((j : Nat) : Int))]) (w' := w) (n' := 142) rfl ?_
      refine qG.tlen hl rfl rfl (by omega) ?_
      show qG none (d + 1) 227 29 [(2, 95), (3, x), (0, isK w l j), (0, ((j : Nat) : Int))] [(0, ((l.length : Nat) : Int)), (0, ((j : Nat) : Int))] w 142 Q9
      refine qG.br (P := ((j : Nat) : Int) < ((l.length : Nat) : Int)) (pc1 := 32) (pc2 := 67) (st1 := []) rfl (fun hj => ?_) (fun hj => ?_)
      · skip
        refine qG.blk 1 (pc' := 33) (ls' := [(2, 95), (3, x), (0, isK w l j), (0, ((j : Nat) : Int))]) (st' := [(0, isK w l j)]) (w' := w) (n' := 142) rfl ?_
        refine qG.br (P := isK w l j = 0) (pc1 := 67) (pc2 := 36) (st1 := []) rfl (fun hsame => ?_) (fun hsame => ?_)
        · skip
          refine qG.blk 1 (pc' := 68) (ls' := [(2, 95), (3, x), (0, isK w l j), (0, ((j : Nat) : Int))]) (st' := [(0, isK w l j)]) (w' := w) (n' := 142) rfl ?_
          refine qG.ret rfl (by have q9 := isK_01 w l j; exact decide_eq_true (by omega)) ?_
          subst hQ9
          exact ⟨by rw [hv9]; first | rw [show j = l.length by omega] | (rw [hsame, show l.length = j + (l.length - j) by omega, isK_0 hsame]), rfl, rfl⟩
        · skip
          have hlen8 := isK_len hsame
          refine qG.blk 2 (pc' := 40) (ls' := [(2, 95), (3, x), (0, isK w l j), (0, ((j : Nat) : Int))]) (st' := [(2, w 95 20)]) (w' := w) (n' := 142) rfl ?_
          rw [show w 95 20 = 114 from zref hI rfl rfl]
          refine qG.blk 4 (pc' := 46) (ls' := [(2, 95), (3, x), (0, isK w l j), (0, ((j : Nat) : Int))]) (st' := [(0, wrp ((w 95 28) + ((j : Nat) : Int))), (2, 114)]) (w' := w) (n' := 142) rfl ?_
          rw [show wrp ((w 95 28) + ((j : Nat) : Int)) = (((w 95 28).toNat + j : Nat) : Int) from by rw [wrp_id (by omega) (by omega)]; omega]
          refine qG.ild (m := 600) rfl rfl (by omega) (by decide) ?_
          show qG none (d + 1) 227 47 [(2, 95), (3, x), (0, isK w l j), (0, ((j : Nat) : Int))] [(0, w 114 ((w 95 28).toNat + j))] w 142 Q9
          refine qG.blk 2 (pc' := 49) (ls' := [(2, 95), (3, x), (0, isK w l j), (0, ((j : Nat) : Int))]) (st' := [(0, ((j : Nat) : Int)), (3, x), (0, w 114 ((w 95 28).toNat + j))]) (w' := w) (n' := 142) rfl ?_
          refine qG.tch hl rfl rfl (by omega) (by exact ⟨by omega, by omega⟩) ?_
          show qG none (d + 1) 227 52 [(2, 95), (3, x), (0, isK w l j), (0, ((j : Nat) : Int))] [(0, l.getD j 0), (0, w 114 ((w 95 28).toNat + j))] w 142 Q9
          refine qG.br (P := w 114 ((w 95 28).toNat + j) = l.getD j 0) (pc1 := 55) (pc2 := 59) (st1 := []) rfl (fun hch => ?_) (fun hch => ?_)
          · skip
            refine qG.blk 4 (pc' := 64) (ls' := [(2, 95), (3, x), (0, 1), (0, wrp (((j : Nat) : Int) + 1))]) (st' := []) (w' := w) (n' := 142) rfl ?_
            rw [show wrp (((j : Nat) : Int) + 1) = ((j + 1 : Nat) : Int) from wrp_id (by omega) (by omega)]
            refine qG.blk 1 (pc' := 24) (ls' := [(2, 95), (3, x), (0, 1), (0, ((j + 1 : Nat) : Int))]) (st' := []) (w' := w) (n' := 142) rfl ?_
            have e9 : isK w l (j + 1) = 1 := by show (if isK w l j = 0 then 0 else if w 114 ((w 95 28).toNat + j) = l.getD j 0 then 1 else 0) = _; rw [if_neg hsame]; first | rw [if_pos hch] | rw [if_neg hch]
            exact e9 ▸ ih24 _ (by omega) (j + 1) rfl (by omega)
          · skip
            refine qG.blk 3 (pc' := 64) (ls' := [(2, 95), (3, x), (0, 0), (0, wrp (((j : Nat) : Int) + 1))]) (st' := []) (w' := w) (n' := 142) rfl ?_
            rw [show wrp (((j : Nat) : Int) + 1) = ((j + 1 : Nat) : Int) from wrp_id (by omega) (by omega)]
            refine qG.blk 1 (pc' := 24) (ls' := [(2, 95), (3, x), (0, 0), (0, ((j + 1 : Nat) : Int))]) (st' := []) (w' := w) (n' := 142) rfl ?_
            have e9 : isK w l (j + 1) = 0 := by show (if isK w l j = 0 then 0 else if w 114 ((w 95 28).toNat + j) = l.getD j 0 then 1 else 0) = _; rw [if_neg hsame]; first | rw [if_pos hch] | rw [if_neg hch]
            exact e9 ▸ ih24 _ (by omega) (j + 1) rfl (by omega)
      · skip
        refine qG.blk 1 (pc' := 68) (ls' := [(2, 95), (3, x), (0, isK w l j), (0, ((j : Nat) : Int))]) (st' := [(0, isK w l j)]) (w' := w) (n' := 142) rfl ?_
        refine qG.ret rfl (by have q9 := isK_01 w l j; exact decide_eq_true (by omega)) ?_
        subst hQ9
        exact ⟨by rw [hv9]; first | rw [show j = l.length by omega] | (rw [hsame, show l.length = j + (l.length - j) by omega, isK_0 hsame]), rfl, rfl⟩
    exact L24 _ (0) rfl (by omega)
  · skip
    refine qG.blk 4 (pc' := 24) (ls' := [(2, 95), (3, x), (0, 0), (0, 0)]) (st' := []) (w' := w) (n' := 142) rfl ?_
    have e8 : isK w l 0 = 0 := by unfold isK; simp only [*, if_true, if_false]
    rw [show qG none (d + 1) 227 24 [(2, 95), (3, x), (0, 0), (0, 0)] [] w 142 Q9 = qG none (d + 1) 227 24 [(2, 95), (3, x), (0, isK w l 0), (0, 0)] [] w 142 Q9 from by rw [e8]]
    have L24_1 : ∀ (m9 : Nat) (j : Nat), l.length - j = m9 → (j ≤ l.length) → qG none (d + 1) 227 24 [(2, 95), (3, x), (0, isK w l j), (0, ((j : Nat) : Int))] [] w 142 Q9 := by
      intro m9
      induction m9 using Nat.strongRecOn with
      | ind m9 ih24 =>
      intro j hm24 hI24
      refine qG.blk 2 (pc' := 26) (ls' := [(2, 95), (3, x), (0, isK w l j), (0, ((j : Nat) : Int))]) (st' := [(3, x), (0, ((j : Nat) : Int))]) (w' := w) (n' := 142) rfl ?_
      refine qG.tlen hl rfl rfl (by omega) ?_
      show qG none (d + 1) 227 29 [(2, 95), (3, x), (0, isK w l j), (0, ((j : Nat) : Int))] [(0, ((l.length : Nat) : Int)), (0, ((j : Nat) : Int))] w 142 Q9
      refine qG.br (P := ((j : Nat) : Int) < ((l.length : Nat) : Int)) (pc1 := 32) (pc2 := 67) (st1 := []) rfl (fun hj => ?_) (fun hj => ?_)
      · skip
        refine qG.blk 1 (pc' := 33) (ls' := [(2, 95), (3, x), (0, isK w l j), (0, ((j : Nat) : Int))]) (st' := [(0, isK w l j)]) (w' := w) (n' := 142) rfl ?_
        refine qG.br (P := isK w l j = 0) (pc1 := 67) (pc2 := 36) (st1 := []) rfl (fun hsame => ?_) (fun hsame => ?_)
        · skip
          refine qG.blk 1 (pc' := 68) (ls' := [(2, 95), (3, x), (0, isK w l j), (0, ((j : Nat) : Int))]) (st' := [(0, isK w l j)]) (w' := w) (n' := 142) rfl ?_
          refine qG.ret rfl (by have q9 := isK_01 w l j; exact decide_eq_true (by omega)) ?_
          subst hQ9
          exact ⟨by rw [hv9]; first | rw [show j = l.length by omega] | (rw [hsame, show l.length = j + (l.length - j) by omega, isK_0 hsame]), rfl, rfl⟩
        · skip
          have hlen8 := isK_len hsame
          refine qG.blk 2 (pc' := 40) (ls' := [(2, 95), (3, x), (0, isK w l j), (0, ((j : Nat) : Int))]) (st' := [(2, w 95 20)]) (w' := w) (n' := 142) rfl ?_
          rw [show w 95 20 = 114 from zref hI rfl rfl]
          refine qG.blk 4 (pc' := 46) (ls' := [(2, 95), (3, x), (0, isK w l j), (0, ((j : Nat) : Int))]) (st' := [(0, wrp ((w 95 28) + ((j : Nat) : Int))), (2, 114)]) (w' := w) (n' := 142) rfl ?_
          rw [show wrp ((w 95 28) + ((j : Nat) : Int)) = (((w 95 28).toNat + j : Nat) : Int) from by rw [wrp_id (by omega) (by omega)]; omega]
          refine qG.ild (m := 600) rfl rfl (by omega) (by decide) ?_
          show qG none (d + 1) 227 47 [(2, 95), (3, x), (0, isK w l j), (0, ((j : Nat) : Int))] [(0, w 114 ((w 95 28).toNat + j))] w 142 Q9
          refine qG.blk 2 (pc' := 49) (ls' := [(2, 95), (3, x), (0, isK w l j), (0, ((j : Nat) : Int))]) (st' := [(0, ((j : Nat) : Int)), (3, x), (0, w 114 ((w 95 28).toNat + j))]) (w' := w) (n' := 142) rfl ?_
          refine qG.tch hl rfl rfl (by omega) (by exact ⟨by omega, by omega⟩) ?_
          show qG none (d + 1) 227 52 [(2, 95), (3, x), (0, isK w l j), (0, ((j : Nat) : Int))] [(0, l.getD j 0), (0, w 114 ((w 95 28).toNat + j))] w 142 Q9
          refine qG.br (P := w 114 ((w 95 28).toNat + j) = l.getD j 0) (pc1 := 55) (pc2 := 59) (st1 := []) rfl (fun hch => ?_) (fun hch => ?_)
          · skip
            refine qG.blk 4 (pc' := 64) (ls' := [(2, 95), (3, x), (0, 1), (0, wrp (((j : Nat) : Int) + 1))]) (st' := []) (w' := w) (n' := 142) rfl ?_
            rw [show wrp (((j : Nat) : Int) + 1) = ((j + 1 : Nat) : Int) from wrp_id (by omega) (by omega)]
            refine qG.blk 1 (pc' := 24) (ls' := [(2, 95), (3, x), (0, 1), (0, ((j + 1 : Nat) : Int))]) (st' := []) (w' := w) (n' := 142) rfl ?_
            have e9 : isK w l (j + 1) = 1 := by show (if isK w l j = 0 then 0 else if w 114 ((w 95 28).toNat + j) = l.getD j 0 then 1 else 0) = _; rw [if_neg hsame]; first | rw [if_pos hch] | rw [if_neg hch]
            exact e9 ▸ ih24 _ (by omega) (j + 1) rfl (by omega)
          · skip
            refine qG.blk 3 (pc' := 64) (ls' := [(2, 95), (3, x), (0, 0), (0, wrp (((j : Nat) : Int) + 1))]) (st' := []) (w' := w) (n' := 142) rfl ?_
            rw [show wrp (((j : Nat) : Int) + 1) = ((j + 1 : Nat) : Int) from wrp_id (by omega) (by omega)]
            refine qG.blk 1 (pc' := 24) (ls' := [(2, 95), (3, x), (0, 0), (0, ((j + 1 : Nat) : Int))]) (st' := []) (w' := w) (n' := 142) rfl ?_
            have e9 : isK w l (j + 1) = 0 := by show (if isK w l j = 0 then 0 else if w 114 ((w 95 28).toNat + j) = l.getD j 0 then 1 else 0) = _; rw [if_neg hsame]; first | rw [if_pos hch] | rw [if_neg hch]
            exact e9 ▸ ih24 _ (by omega) (j + 1) rfl (by omega)
      · skip
        refine qG.blk 1 (pc' := 68) (ls' := [(2, 95), (3, x), (0, isK w l j), (0, ((j : Nat) : Int))]) (st' := [(0, isK w l j)]) (w' := w) (n' := 142) rfl ?_
        refine qG.ret rfl (by have q9 := isK_01 w l j; exact decide_eq_true (by omega)) ?_
        subst hQ9
        exact ⟨by rw [hv9]; first | rw [show j = l.length by omega] | (rw [hsame, show l.length = j + (l.length - j) by omega, isK_0 hsame]), rfl, rfl⟩
    exact L24_1 _ (0) rfl (by omega)
noncomputable def showV (w : qW) : Int := if ¬ isV w 5 = 0 then 20 else if ¬ isV w 6 = 0 then 21 else if ¬ isV w 7 = 0 then 22 else if ¬ isV w 8 = 0 then 23 else if ¬ isV w 9 = 0 then 24 else if ¬ isV w 10 = 0 then 25 else 1
noncomputable def wordV (w : qW) : Int := if ¬ w 95 35 = 0 then showV w else if ¬ isV w 11 = 0 then 7 else if ¬ isV w 12 = 0 then 8 else if ¬ isV w 13 = 0 then 3 else if ¬ isV w 14 = 0 then 4 else if ¬ isV w 15 = 0 then 5 else if ¬ isV w 16 = 0 then 6 else if ¬ isV w 17 = 0 then 41 else if ¬ isV w 18 = 0 then 42 else if ¬ isV w 19 = 0 then 43 else if ¬ isV w 20 = 0 then 44 else if ¬ isV w 21 = 0 then 45 else if ¬ isV w 22 = 0 then 46 else if ¬ isV w 23 = 0 then 47 else 1
theorem showV_in (w : qW) : 1 ≤ showV w ∧ showV w ≤ 47 := by unfold showV; (repeat' split) <;> omega
theorem wordV_in (w : qW) : 1 ≤ wordV w ∧ wordV w ≤ 47 := by
  have := showV_in w
  unfold wordV; (repeat' split) <;> omega
theorem K_showWord {d : Nat} (hd : 5 ≤ d) (w : qW) (hI : yInv zgf zga zra zSp w) : qG none d 228 0 [(2, 95)] [] w 142 (fun (r : qV) (w1 : qW) (n1 : Nat) => r = (0, showV w) ∧ w1 = w ∧ n1 = 142) := by
  generalize hQ9 : (fun (r : qV) (w1 : qW) (n1 : Nat) => r = (0, showV w) ∧ w1 = w ∧ n1 = 142) = Q9
  obtain ⟨d, rfl⟩ : ∃ d9, d = d9 + 1 := ⟨d - 1, by omega⟩
  refine qG.blk 2 (pc' := 3) (ls' := [(2, 95)]) (st' := [(3, 5), (2, 95)]) (w' := w) (n' := 142) rfl ?_
  refine qG.call (t := 227) (na := 2) (sk := 1) (md := 1) (ls1 := [(2, 95), (3, 5), (9, 0), (9, 0)]) (r1 := []) rfl rfl rfl rfl rfl (K_is (by omega) 5 _ rfl w hI) ?_
  rintro _ w7 _ ⟨rfl, hw7, rfl⟩
  rw [hw7]
  show qG none (d + 1) 228 6 [(2, 95)] [(0, isV w 5)] w 142 Q9
  refine qG.br (P := isV w 5 = 0) (pc1 := 12) (pc2 := 9) (st1 := []) rfl (fun h1 => ?_) (fun h1 => ?_)
  · skip
    refine qG.blk 2 (pc' := 15) (ls' := [(2, 95)]) (st' := [(3, 6), (2, 95)]) (w' := w) (n' := 142) rfl ?_
    refine qG.call (t := 227) (na := 2) (sk := 1) (md := 1) (ls1 := [(2, 95), (3, 6), (9, 0), (9, 0)]) (r1 := []) rfl rfl rfl rfl rfl (K_is (by omega) 6 _ rfl w hI) ?_
    rintro _ w7 _ ⟨rfl, hw7, rfl⟩
    rw [hw7]
    show qG none (d + 1) 228 18 [(2, 95)] [(0, isV w 6)] w 142 Q9
    refine qG.br (P := isV w 6 = 0) (pc1 := 24) (pc2 := 21) (st1 := []) rfl (fun h2 => ?_) (fun h2 => ?_)
    · skip
      refine qG.blk 2 (pc' := 27) (ls' := [(2, 95)]) (st' := [(3, 7), (2, 95)]) (w' := w) (n' := 142) rfl ?_
      refine qG.call (t := 227) (na := 2) (sk := 1) (md := 1) (ls1 := [(2, 95), (3, 7), (9, 0), (9, 0)]) (r1 := []) rfl rfl rfl rfl rfl (K_is (by omega) 7 _ rfl w hI) ?_
      rintro _ w7 _ ⟨rfl, hw7, rfl⟩
      rw [hw7]
      show qG none (d + 1) 228 30 [(2, 95)] [(0, isV w 7)] w 142 Q9
      refine qG.br (P := isV w 7 = 0) (pc1 := 36) (pc2 := 33) (st1 := []) rfl (fun h3 => ?_) (fun h3 => ?_)
      · skip
        refine qG.blk 2 (pc' := 39) (ls' := [(2, 95)]) (st' := [(3, 8), (2, 95)]) (w' := w) (n' := 142) rfl ?_
        refine qG.call (t := 227) (na := 2) (sk := 1) (md := 1) (ls1 := [(2, 95), (3, 8), (9, 0), (9, 0)]) (r1 := []) rfl rfl rfl rfl rfl (K_is (by omega) 8 _ rfl w hI) ?_
        rintro _ w7 _ ⟨rfl, hw7, rfl⟩
        rw [hw7]
        show qG none (d + 1) 228 42 [(2, 95)] [(0, isV w 8)] w 142 Q9
        refine qG.br (P := isV w 8 = 0) (pc1 := 48) (pc2 := 45) (st1 := []) rfl (fun h4 => ?_) (fun h4 => ?_)
        · skip
          refine qG.blk 2 (pc' := 51) (ls' := [(2, 95)]) (st' := [(3, 9), (2, 95)]) (w' := w) (n' := 142) rfl ?_
          refine qG.call (t := 227) (na := 2) (sk := 1) (md := 1) (ls1 := [(2, 95), (3, 9), (9, 0), (9, 0)]) (r1 := []) rfl rfl rfl rfl rfl (K_is (by omega) 9 _ rfl w hI) ?_
          rintro _ w7 _ ⟨rfl, hw7, rfl⟩
          rw [hw7]
          show qG none (d + 1) 228 54 [(2, 95)] [(0, isV w 9)] w 142 Q9
          refine qG.br (P := isV w 9 = 0) (pc1 := 60) (pc2 := 57) (st1 := []) rfl (fun h5 => ?_) (fun h5 => ?_)
          · skip
            refine qG.blk 2 (pc' := 63) (ls' := [(2, 95)]) (st' := [(3, 10), (2, 95)]) (w' := w) (n' := 142) rfl ?_
            refine qG.call (t := 227) (na := 2) (sk := 1) (md := 1) (ls1 := [(2, 95), (3, 10), (9, 0), (9, 0)]) (r1 := []) rfl rfl rfl rfl rfl (K_is (by omega) 10 _ rfl w hI) ?_
            rintro _ w7 _ ⟨rfl, hw7, rfl⟩
            rw [hw7]
            show qG none (d + 1) 228 66 [(2, 95)] [(0, isV w 10)] w 142 Q9
            refine qG.br (P := isV w 10 = 0) (pc1 := 74) (pc2 := 69) (st1 := []) rfl (fun h6 => ?_) (fun h6 => ?_)
            · skip
              refine qG.blk 1 (pc' := 75) (ls' := [(2, 95)]) (st' := [(0, 1)]) (w' := w) (n' := 142) rfl ?_
              refine qG.ret rfl rfl ?_
              subst hQ9
              exact ⟨by unfold showV; simp only [*, if_true, if_false, not_true, not_false_iff], rfl, rfl⟩
            · skip
              refine qG.blk 2 (pc' := 75) (ls' := [(2, 95)]) (st' := [(0, 25)]) (w' := w) (n' := 142) rfl ?_
              refine qG.ret rfl rfl ?_
              subst hQ9
              exact ⟨by unfold showV; simp only [*, if_true, if_false, not_true, not_false_iff], rfl, rfl⟩
          · skip
            refine qG.blk 1 (pc' := 59) (ls' := [(2, 95)]) (st' := [(0, 24)]) (w' := w) (n' := 142) rfl ?_
            refine qG.ret rfl rfl ?_
            subst hQ9
            exact ⟨by unfold showV; simp only [*, if_true, if_false, not_true, not_false_iff], rfl, rfl⟩
        · skip
          refine qG.blk 1 (pc' := 47) (ls' := [(2, 95)]) (st' := [(0, 23)]) (w' := w) (n' := 142) rfl ?_
          refine qG.ret rfl rfl ?_
          subst hQ9
          exact ⟨by unfold showV; simp only [*, if_true, if_false, not_true, not_false_iff], rfl, rfl⟩
      · skip
        refine qG.blk 1 (pc' := 35) (ls' := [(2, 95)]) (st' := [(0, 22)]) (w' := w) (n' := 142) rfl ?_
        refine qG.ret rfl rfl ?_
        subst hQ9
        exact ⟨by unfold showV; simp only [*, if_true, if_false, not_true, not_false_iff], rfl, rfl⟩
    · skip
      refine qG.blk 1 (pc' := 23) (ls' := [(2, 95)]) (st' := [(0, 21)]) (w' := w) (n' := 142) rfl ?_
      refine qG.ret rfl rfl ?_
      subst hQ9
      exact ⟨by unfold showV; simp only [*, if_true, if_false, not_true, not_false_iff], rfl, rfl⟩
  · skip
    refine qG.blk 1 (pc' := 11) (ls' := [(2, 95)]) (st' := [(0, 20)]) (w' := w) (n' := 142) rfl ?_
    refine qG.ret rfl rfl ?_
    subst hQ9
    exact ⟨by unfold showV; simp only [*, if_true, if_false, not_true, not_false_iff], rfl, rfl⟩
theorem K_word {d : Nat} (hd : 6 ≤ d) (w : qW) (hI : yInv zgf zga zra zSp w) : qG none d 229 0 [(2, 95)] [] w 142 (fun (r : qV) (w1 : qW) (n1 : Nat) => r = (0, wordV w) ∧ w1 = w ∧ n1 = 142) := by
  generalize hQ9 : (fun (r : qV) (w1 : qW) (n1 : Nat) => r = (0, wordV w) ∧ w1 = w ∧ n1 = 142) = Q9
  obtain ⟨d, rfl⟩ : ∃ d9, d = d9 + 1 := ⟨d - 1, by omega⟩
  refine qG.blk 2 (pc' := 4) (ls' := [(2, 95)]) (st' := [(0, w 95 35)]) (w' := w) (n' := 142) rfl ?_
  refine qG.br (P := w 95 35 = 0) (pc1 := 12) (pc2 := 7) (st1 := []) rfl (fun h1 => ?_) (fun h1 => ?_)
  · skip
    refine qG.blk 2 (pc' := 15) (ls' := [(2, 95)]) (st' := [(3, 11), (2, 95)]) (w' := w) (n' := 142) rfl ?_
    refine qG.call (t := 227) (na := 2) (sk := 1) (md := 1) (ls1 := [(2, 95), (3, 11), (9, 0), (9, 0)]) (r1 := []) rfl rfl rfl rfl rfl (K_is (by omega) 11 _ rfl w hI) ?_
    rintro _ w7 _ ⟨rfl, hw7, rfl⟩
    rw [hw7]
    show qG none (d + 1) 229 18 [(2, 95)] [(0, isV w 11)] w 142 Q9
    refine qG.br (P := isV w 11 = 0) (pc1 := 24) (pc2 := 21) (st1 := []) rfl (fun h2 => ?_) (fun h2 => ?_)
    · skip
      refine qG.blk 2 (pc' := 27) (ls' := [(2, 95)]) (st' := [(3, 12), (2, 95)]) (w' := w) (n' := 142) rfl ?_
      refine qG.call (t := 227) (na := 2) (sk := 1) (md := 1) (ls1 := [(2, 95), (3, 12), (9, 0), (9, 0)]) (r1 := []) rfl rfl rfl rfl rfl (K_is (by omega) 12 _ rfl w hI) ?_
      rintro _ w7 _ ⟨rfl, hw7, rfl⟩
      rw [hw7]
      show qG none (d + 1) 229 30 [(2, 95)] [(0, isV w 12)] w 142 Q9
      refine qG.br (P := isV w 12 = 0) (pc1 := 36) (pc2 := 33) (st1 := []) rfl (fun h3 => ?_) (fun h3 => ?_)
      · skip
        refine qG.blk 2 (pc' := 40) (ls' := [(2, 95)]) (st' := [(3, 13), (2, 95)]) (w' := w) (n' := 142) rfl ?_
        refine qG.call (t := 227) (na := 2) (sk := 1) (md := 1) (ls1 := [(2, 95), (3, 13), (9, 0), (9, 0)]) (r1 := []) rfl rfl rfl rfl rfl (K_is (by omega) 13 _ rfl w hI) ?_
        rintro _ w7 _ ⟨rfl, hw7, rfl⟩
        rw [hw7]
        show qG none (d + 1) 229 43 [(2, 95)] [(0, isV w 13)] w 142 Q9
        refine qG.br (P := isV w 13 = 0) (pc1 := 48) (pc2 := 46) (st1 := []) rfl (fun h4 => ?_) (fun h4 => ?_)
        · skip
          refine qG.blk 2 (pc' := 52) (ls' := [(2, 95)]) (st' := [(3, 14), (2, 95)]) (w' := w) (n' := 142) rfl ?_
          refine qG.call (t := 227) (na := 2) (sk := 1) (md := 1) (ls1 := [(2, 95), (3, 14), (9, 0), (9, 0)]) (r1 := []) rfl rfl rfl rfl rfl (K_is (by omega) 14 _ rfl w hI) ?_
          rintro _ w7 _ ⟨rfl, hw7, rfl⟩
          rw [hw7]
          show qG none (d + 1) 229 55 [(2, 95)] [(0, isV w 14)] w 142 Q9
          refine qG.br (P := isV w 14 = 0) (pc1 := 60) (pc2 := 58) (st1 := []) rfl (fun h5 => ?_) (fun h5 => ?_)
          · skip
            refine qG.blk 2 (pc' := 64) (ls' := [(2, 95)]) (st' := [(3, 15), (2, 95)]) (w' := w) (n' := 142) rfl ?_
            refine qG.call (t := 227) (na := 2) (sk := 1) (md := 1) (ls1 := [(2, 95), (3, 15), (9, 0), (9, 0)]) (r1 := []) rfl rfl rfl rfl rfl (K_is (by omega) 15 _ rfl w hI) ?_
            rintro _ w7 _ ⟨rfl, hw7, rfl⟩
            rw [hw7]
            show qG none (d + 1) 229 67 [(2, 95)] [(0, isV w 15)] w 142 Q9
            refine qG.br (P := isV w 15 = 0) (pc1 := 72) (pc2 := 70) (st1 := []) rfl (fun h6 => ?_) (fun h6 => ?_)
            · skip
              refine qG.blk 2 (pc' := 76) (ls' := [(2, 95)]) (st' := [(3, 16), (2, 95)]) (w' := w) (n' := 142) rfl ?_
              refine qG.call (t := 227) (na := 2) (sk := 1) (md := 1) (ls1 := [(2, 95), (3, 16), (9, 0), (9, 0)]) (r1 := []) rfl rfl rfl rfl rfl (K_is (by omega) 16 _ rfl w hI) ?_
              rintro _ w7 _ ⟨rfl, hw7, rfl⟩
              rw [hw7]
              show qG none (d + 1) 229 79 [(2, 95)] [(0, isV w 16)] w 142 Q9
              refine qG.br (P := isV w 16 = 0) (pc1 := 85) (pc2 := 82) (st1 := []) rfl (fun h7 => ?_) (fun h7 => ?_)
              · skip
                refine qG.blk 2 (pc' := 89) (ls' := [(2, 95)]) (st' := [(3, 17), (2, 95)]) (w' := w) (n' := 142) rfl ?_
                refine qG.call (t := 227) (na := 2) (sk := 1) (md := 1) (ls1 := [(2, 95), (3, 17), (9, 0), (9, 0)]) (r1 := []) rfl rfl rfl rfl rfl (K_is (by omega) 17 _ rfl w hI) ?_
                rintro _ w7 _ ⟨rfl, hw7, rfl⟩
                rw [hw7]
                show qG none (d + 1) 229 92 [(2, 95)] [(0, isV w 17)] w 142 Q9
                refine qG.br (P := isV w 17 = 0) (pc1 := 98) (pc2 := 95) (st1 := []) rfl (fun h8 => ?_) (fun h8 => ?_)
                · skip
                  refine qG.blk 2 (pc' := 102) (ls' := [(2, 95)]) (st' := [(3, 18), (2, 95)]) (w' := w) (n' := 142) rfl ?_
                  refine qG.call (t := 227) (na := 2) (sk := 1) (md := 1) (ls1 := [(2, 95), (3, 18), (9, 0), (9, 0)]) (r1 := []) rfl rfl rfl rfl rfl (K_is (by omega) 18 _ rfl w hI) ?_
                  rintro _ w7 _ ⟨rfl, hw7, rfl⟩
                  rw [hw7]
                  show qG none (d + 1) 229 105 [(2, 95)] [(0, isV w 18)] w 142 Q9
                  refine qG.br (P := isV w 18 = 0) (pc1 := 111) (pc2 := 108) (st1 := []) rfl (fun h9 => ?_) (fun h9 => ?_)
                  · skip
                    refine qG.blk 2 (pc' := 115) (ls' := [(2, 95)]) (st' := [(3, 19), (2, 95)]) (w' := w) (n' := 142) rfl ?_
                    refine qG.call (t := 227) (na := 2) (sk := 1) (md := 1) (ls1 := [(2, 95), (3, 19), (9, 0), (9, 0)]) (r1 := []) rfl rfl rfl rfl rfl (K_is (by omega) 19 _ rfl w hI) ?_
                    rintro _ w7 _ ⟨rfl, hw7, rfl⟩
                    rw [hw7]
                    show qG none (d + 1) 229 118 [(2, 95)] [(0, isV w 19)] w 142 Q9
                    refine qG.br (P := isV w 19 = 0) (pc1 := 124) (pc2 := 121) (st1 := []) rfl (fun h10 => ?_) (fun h10 => ?_)
                    · skip
                      refine qG.blk 2 (pc' := 128) (ls' := [(2, 95)]) (st' := [(3, 20), (2, 95)]) (w' := w) (n' := 142) rfl ?_
                      refine qG.call (t := 227) (na := 2) (sk := 1) (md := 1) (ls1 := [(2, 95), (3, 20), (9, 0), (9, 0)]) (r1 := []) rfl rfl rfl rfl rfl (K_is (by omega) 20 _ rfl w hI) ?_
                      rintro _ w7 _ ⟨rfl, hw7, rfl⟩
                      rw [hw7]
                      show qG none (d + 1) 229 131 [(2, 95)] [(0, isV w 20)] w 142 Q9
                      refine qG.br (P := isV w 20 = 0) (pc1 := 137) (pc2 := 134) (st1 := []) rfl (fun h11 => ?_) (fun h11 => ?_)
                      · skip
                        refine qG.blk 2 (pc' := 141) (ls' := [(2, 95)]) (st' := [(3, 21), (2, 95)]) (w' := w) (n' := 142) rfl ?_
                        refine qG.call (t := 227) (na := 2) (sk := 1) (md := 1) (ls1 := [(2, 95), (3, 21), (9, 0), (9, 0)]) (r1 := []) rfl rfl rfl rfl rfl (K_is (by omega) 21 _ rfl w hI) ?_
                        rintro _ w7 _ ⟨rfl, hw7, rfl⟩
                        rw [hw7]
                        show qG none (d + 1) 229 144 [(2, 95)] [(0, isV w 21)] w 142 Q9
                        refine qG.br (P := isV w 21 = 0) (pc1 := 150) (pc2 := 147) (st1 := []) rfl (fun h12 => ?_) (fun h12 => ?_)
                        · skip
                          refine qG.blk 2 (pc' := 154) (ls' := [(2, 95)]) (st' := [(3, 22), (2, 95)]) (w' := w) (n' := 142) rfl ?_
                          refine qG.call (t := 227) (na := 2) (sk := 1) (md := 1) (ls1 := [(2, 95), (3, 22), (9, 0), (9, 0)]) (r1 := []) rfl rfl rfl rfl rfl (K_is (by omega) 22 _ rfl w hI) ?_
                          rintro _ w7 _ ⟨rfl, hw7, rfl⟩
                          rw [hw7]
                          show qG none (d + 1) 229 157 [(2, 95)] [(0, isV w 22)] w 142 Q9
                          refine qG.br (P := isV w 22 = 0) (pc1 := 163) (pc2 := 160) (st1 := []) rfl (fun h13 => ?_) (fun h13 => ?_)
                          · skip
                            refine qG.blk 2 (pc' := 167) (ls' := [(2, 95)]) (st' := [(3, 23), (2, 95)]) (w' := w) (n' := 142) rfl ?_
                            refine qG.call (t := 227) (na := 2) (sk := 1) (md := 1) (ls1 := [(2, 95), (3, 23), (9, 0), (9, 0)]) (r1 := []) rfl rfl rfl rfl rfl (K_is (by omega) 23 _ rfl w hI) ?_
                            rintro _ w7 _ ⟨rfl, hw7, rfl⟩
                            rw [hw7]
                            show qG none (d + 1) 229 170 [(2, 95)] [(0, isV w 23)] w 142 Q9
                            refine qG.br (P := isV w 23 = 0) (pc1 := 178) (pc2 := 173) (st1 := []) rfl (fun h14 => ?_) (fun h14 => ?_)
                            · skip
                              refine qG.blk 1 (pc' := 179) (ls' := [(2, 95)]) (st' := [(0, 1)]) (w' := w) (n' := 142) rfl ?_
                              refine qG.ret rfl rfl ?_
                              subst hQ9
                              exact ⟨by unfold wordV; simp only [*, if_true, if_false, not_true, not_false_iff], rfl, rfl⟩
                            · skip
                              refine qG.blk 2 (pc' := 179) (ls' := [(2, 95)]) (st' := [(0, 47)]) (w' := w) (n' := 142) rfl ?_
                              refine qG.ret rfl rfl ?_
                              subst hQ9
                              exact ⟨by unfold wordV; simp only [*, if_true, if_false, not_true, not_false_iff], rfl, rfl⟩
                          · skip
                            refine qG.blk 1 (pc' := 162) (ls' := [(2, 95)]) (st' := [(0, 46)]) (w' := w) (n' := 142) rfl ?_
                            refine qG.ret rfl rfl ?_
                            subst hQ9
                            exact ⟨by unfold wordV; simp only [*, if_true, if_false, not_true, not_false_iff], rfl, rfl⟩
                        · skip
                          refine qG.blk 1 (pc' := 149) (ls' := [(2, 95)]) (st' := [(0, 45)]) (w' := w) (n' := 142) rfl ?_
                          refine qG.ret rfl rfl ?_
                          subst hQ9
                          exact ⟨by unfold wordV; simp only [*, if_true, if_false, not_true, not_false_iff], rfl, rfl⟩
                      · skip
                        refine qG.blk 1 (pc' := 136) (ls' := [(2, 95)]) (st' := [(0, 44)]) (w' := w) (n' := 142) rfl ?_
                        refine qG.ret rfl rfl ?_
                        subst hQ9
                        exact ⟨by unfold wordV; simp only [*, if_true, if_false, not_true, not_false_iff], rfl, rfl⟩
                    · skip
                      refine qG.blk 1 (pc' := 123) (ls' := [(2, 95)]) (st' := [(0, 43)]) (w' := w) (n' := 142) rfl ?_
                      refine qG.ret rfl rfl ?_
                      subst hQ9
                      exact ⟨by unfold wordV; simp only [*, if_true, if_false, not_true, not_false_iff], rfl, rfl⟩
                  · skip
                    refine qG.blk 1 (pc' := 110) (ls' := [(2, 95)]) (st' := [(0, 42)]) (w' := w) (n' := 142) rfl ?_
                    refine qG.ret rfl rfl ?_
                    subst hQ9
                    exact ⟨by unfold wordV; simp only [*, if_true, if_false, not_true, not_false_iff], rfl, rfl⟩
                · skip
                  refine qG.blk 1 (pc' := 97) (ls' := [(2, 95)]) (st' := [(0, 41)]) (w' := w) (n' := 142) rfl ?_
                  refine qG.ret rfl rfl ?_
                  subst hQ9
                  exact ⟨by unfold wordV; simp only [*, if_true, if_false, not_true, not_false_iff], rfl, rfl⟩
              · skip
                refine qG.blk 1 (pc' := 84) (ls' := [(2, 95)]) (st' := [(0, 6)]) (w' := w) (n' := 142) rfl ?_
                refine qG.ret rfl rfl ?_
                subst hQ9
                exact ⟨by unfold wordV; simp only [*, if_true, if_false, not_true, not_false_iff], rfl, rfl⟩
            · skip
              refine qG.blk 1 (pc' := 71) (ls' := [(2, 95)]) (st' := [(0, 5)]) (w' := w) (n' := 142) rfl ?_
              refine qG.ret rfl rfl ?_
              subst hQ9
              exact ⟨by unfold wordV; simp only [*, if_true, if_false, not_true, not_false_iff], rfl, rfl⟩
          · skip
            refine qG.blk 1 (pc' := 59) (ls' := [(2, 95)]) (st' := [(0, 4)]) (w' := w) (n' := 142) rfl ?_
            refine qG.ret rfl rfl ?_
            subst hQ9
            exact ⟨by unfold wordV; simp only [*, if_true, if_false, not_true, not_false_iff], rfl, rfl⟩
        · skip
          refine qG.blk 1 (pc' := 47) (ls' := [(2, 95)]) (st' := [(0, 3)]) (w' := w) (n' := 142) rfl ?_
          refine qG.ret rfl rfl ?_
          subst hQ9
          exact ⟨by unfold wordV; simp only [*, if_true, if_false, not_true, not_false_iff], rfl, rfl⟩
      · skip
        refine qG.blk 1 (pc' := 35) (ls' := [(2, 95)]) (st' := [(0, 8)]) (w' := w) (n' := 142) rfl ?_
        refine qG.ret rfl rfl ?_
        subst hQ9
        exact ⟨by unfold wordV; simp only [*, if_true, if_false, not_true, not_false_iff], rfl, rfl⟩
    · skip
      refine qG.blk 1 (pc' := 23) (ls' := [(2, 95)]) (st' := [(0, 7)]) (w' := w) (n' := 142) rfl ?_
      refine qG.ret rfl rfl ?_
      subst hQ9
      exact ⟨by unfold wordV; simp only [*, if_true, if_false, not_true, not_false_iff], rfl, rfl⟩
  · skip
    refine qG.blk 1 (pc' := 8) (ls' := [(2, 95)]) (st' := [(2, 95)]) (w' := w) (n' := 142) rfl ?_
    refine qG.call (t := 228) (na := 1) (sk := 1) (md := 1) (ls1 := [(2, 95)]) (r1 := []) rfl rfl rfl rfl rfl (K_showWord (by omega) w hI) ?_
    rintro _ w7 _ ⟨rfl, hw7, rfl⟩
    rw [hw7]
    show qG none (d + 1) 229 11 [(2, 95)] [(0, showV w)] w 142 Q9
    refine qG.ret rfl rfl ?_
    subst hQ9
    exact ⟨by unfold wordV; simp only [*, if_true, if_false, not_true, not_false_iff], rfl, rfl⟩
noncomputable def sgnV (w : qW) (c : Int) : Int := if c = 59 then 1 else if ¬ w 95 35 = 0 then 0 else if c = 43 ∨ c = 45 ∨ c = 42 ∨ c = 47 ∨ c = 40 ∨ c = 41 ∨ c = 60 ∨ c = 61 ∨ c = 62 then 1 else 0
theorem K_isSign {d : Nat} (hd : 0 ≤ d) (c : Int) (w : qW) : qG none d 230 0 [(2, 95), (0, c)] [] w 142 (fun (r : qV) (w1 : qW) (n1 : Nat) => r = (0, sgnV w c) ∧ w1 = w ∧ n1 = 142) := by
  generalize hQ9 : (fun (r : qV) (w1 : qW) (n1 : Nat) => r = (0, sgnV w c) ∧ w1 = w ∧ n1 = 142) = Q9
  refine qG.blk 2 (pc' := 3) (ls' := [(2, 95), (0, c)]) (st' := [(0, 59), (0, c)]) (w' := w) (n' := 142) rfl ?_
  refine qG.br (P := c = 59) (pc1 := 67) (pc2 := 6) (st1 := []) rfl (fun h1 => ?_) (fun h1 => ?_)
  · skip
    refine qG.blk 2 (pc' := 72) (ls' := [(2, 95), (0, c)]) (st' := [(0, 1)]) (w' := w) (n' := 142) rfl ?_
    refine qG.ret rfl (by first | rfl | exact decide_eq_true (by omega)) ?_
    subst hQ9
    exact ⟨by unfold sgnV; (repeat' split) <;> first | rfl | (exfalso; omega), rfl, rfl⟩
  · skip
    refine qG.blk 2 (pc' := 10) (ls' := [(2, 95), (0, c)]) (st' := [(0, w 95 35)]) (w' := w) (n' := 142) rfl ?_
    refine qG.br (P := w 95 35 = 0) (pc1 := 13) (pc2 := 71) (st1 := []) rfl (fun h2 => ?_) (fun h2 => ?_)
    · skip
      refine qG.blk 2 (pc' := 16) (ls' := [(2, 95), (0, c)]) (st' := [(0, 43), (0, c)]) (w' := w) (n' := 142) rfl ?_
      refine qG.br (P := c = 43) (pc1 := 67) (pc2 := 19) (st1 := []) rfl (fun h3 => ?_) (fun h3 => ?_)
      · skip
        refine qG.blk 2 (pc' := 72) (ls' := [(2, 95), (0, c)]) (st' := [(0, 1)]) (w' := w) (n' := 142) rfl ?_
        refine qG.ret rfl (by first | rfl | exact decide_eq_true (by omega)) ?_
        subst hQ9
        exact ⟨by unfold sgnV; (repeat' split) <;> first | rfl | (exfalso; omega), rfl, rfl⟩
      · skip
        refine qG.blk 2 (pc' := 22) (ls' := [(2, 95), (0, c)]) (st' := [(0, 45), (0, c)]) (w' := w) (n' := 142) rfl ?_
        refine qG.br (P := c = 45) (pc1 := 67) (pc2 := 25) (st1 := []) rfl (fun h4 => ?_) (fun h4 => ?_)
        · skip
          refine qG.blk 2 (pc' := 72) (ls' := [(2, 95), (0, c)]) (st' := [(0, 1)]) (w' := w) (n' := 142) rfl ?_
          refine qG.ret rfl (by first | rfl | exact decide_eq_true (by omega)) ?_
          subst hQ9
          exact ⟨by unfold sgnV; (repeat' split) <;> first | rfl | (exfalso; omega), rfl, rfl⟩
        · skip
          refine qG.blk 2 (pc' := 28) (ls' := [(2, 95), (0, c)]) (st' := [(0, 42), (0, c)]) (w' := w) (n' := 142) rfl ?_
          refine qG.br (P := c = 42) (pc1 := 67) (pc2 := 31) (st1 := []) rfl (fun h5 => ?_) (fun h5 => ?_)
          · skip
            refine qG.blk 2 (pc' := 72) (ls' := [(2, 95), (0, c)]) (st' := [(0, 1)]) (w' := w) (n' := 142) rfl ?_
            refine qG.ret rfl (by first | rfl | exact decide_eq_true (by omega)) ?_
            subst hQ9
            exact ⟨by unfold sgnV; (repeat' split) <;> first | rfl | (exfalso; omega), rfl, rfl⟩
          · skip
            refine qG.blk 2 (pc' := 34) (ls' := [(2, 95), (0, c)]) (st' := [(0, 47), (0, c)]) (w' := w) (n' := 142) rfl ?_
            refine qG.br (P := c = 47) (pc1 := 67) (pc2 := 37) (st1 := []) rfl (fun h6 => ?_) (fun h6 => ?_)
            · skip
              refine qG.blk 2 (pc' := 72) (ls' := [(2, 95), (0, c)]) (st' := [(0, 1)]) (w' := w) (n' := 142) rfl ?_
              refine qG.ret rfl (by first | rfl | exact decide_eq_true (by omega)) ?_
              subst hQ9
              exact ⟨by unfold sgnV; (repeat' split) <;> first | rfl | (exfalso; omega), rfl, rfl⟩
            · skip
              refine qG.blk 2 (pc' := 40) (ls' := [(2, 95), (0, c)]) (st' := [(0, 40), (0, c)]) (w' := w) (n' := 142) rfl ?_
              refine qG.br (P := c = 40) (pc1 := 67) (pc2 := 43) (st1 := []) rfl (fun h7 => ?_) (fun h7 => ?_)
              · skip
                refine qG.blk 2 (pc' := 72) (ls' := [(2, 95), (0, c)]) (st' := [(0, 1)]) (w' := w) (n' := 142) rfl ?_
                refine qG.ret rfl (by first | rfl | exact decide_eq_true (by omega)) ?_
                subst hQ9
                exact ⟨by unfold sgnV; (repeat' split) <;> first | rfl | (exfalso; omega), rfl, rfl⟩
              · skip
                refine qG.blk 2 (pc' := 46) (ls' := [(2, 95), (0, c)]) (st' := [(0, 41), (0, c)]) (w' := w) (n' := 142) rfl ?_
                refine qG.br (P := c = 41) (pc1 := 67) (pc2 := 49) (st1 := []) rfl (fun h8 => ?_) (fun h8 => ?_)
                · skip
                  refine qG.blk 2 (pc' := 72) (ls' := [(2, 95), (0, c)]) (st' := [(0, 1)]) (w' := w) (n' := 142) rfl ?_
                  refine qG.ret rfl (by first | rfl | exact decide_eq_true (by omega)) ?_
                  subst hQ9
                  exact ⟨by unfold sgnV; (repeat' split) <;> first | rfl | (exfalso; omega), rfl, rfl⟩
                · skip
                  refine qG.blk 2 (pc' := 52) (ls' := [(2, 95), (0, c)]) (st' := [(0, 60), (0, c)]) (w' := w) (n' := 142) rfl ?_
                  refine qG.br (P := c = 60) (pc1 := 67) (pc2 := 55) (st1 := []) rfl (fun h9 => ?_) (fun h9 => ?_)
                  · skip
                    refine qG.blk 2 (pc' := 72) (ls' := [(2, 95), (0, c)]) (st' := [(0, 1)]) (w' := w) (n' := 142) rfl ?_
                    refine qG.ret rfl (by first | rfl | exact decide_eq_true (by omega)) ?_
                    subst hQ9
                    exact ⟨by unfold sgnV; (repeat' split) <;> first | rfl | (exfalso; omega), rfl, rfl⟩
                  · skip
                    refine qG.blk 2 (pc' := 58) (ls' := [(2, 95), (0, c)]) (st' := [(0, 61), (0, c)]) (w' := w) (n' := 142) rfl ?_
                    refine qG.br (P := c = 61) (pc1 := 67) (pc2 := 61) (st1 := []) rfl (fun h10 => ?_) (fun h10 => ?_)
                    · skip
                      refine qG.blk 2 (pc' := 72) (ls' := [(2, 95), (0, c)]) (st' := [(0, 1)]) (w' := w) (n' := 142) rfl ?_
                      refine qG.ret rfl (by first | rfl | exact decide_eq_true (by omega)) ?_
                      subst hQ9
                      exact ⟨by unfold sgnV; (repeat' split) <;> first | rfl | (exfalso; omega), rfl, rfl⟩
                    · skip
                      refine qG.blk 2 (pc' := 64) (ls' := [(2, 95), (0, c)]) (st' := [(0, 62), (0, c)]) (w' := w) (n' := 142) rfl ?_
                      refine qG.br (P := c = 62) (pc1 := 67) (pc2 := 71) (st1 := []) rfl (fun h11 => ?_) (fun h11 => ?_)
                      · skip
                        refine qG.blk 2 (pc' := 72) (ls' := [(2, 95), (0, c)]) (st' := [(0, 1)]) (w' := w) (n' := 142) rfl ?_
                        refine qG.ret rfl (by first | rfl | exact decide_eq_true (by omega)) ?_
                        subst hQ9
                        exact ⟨by unfold sgnV; (repeat' split) <;> first | rfl | (exfalso; omega), rfl, rfl⟩
                      · skip
                        refine qG.blk 1 (pc' := 72) (ls' := [(2, 95), (0, c)]) (st' := [(0, 0)]) (w' := w) (n' := 142) rfl ?_
                        refine qG.ret rfl (by first | rfl | exact decide_eq_true (by omega)) ?_
                        subst hQ9
                        exact ⟨by unfold sgnV; (repeat' split) <;> first | rfl | (exfalso; omega), rfl, rfl⟩
    · skip
      refine qG.blk 1 (pc' := 72) (ls' := [(2, 95), (0, c)]) (st' := [(0, 0)]) (w' := w) (n' := 142) rfl ?_
      refine qG.ret rfl (by first | rfl | exact decide_eq_true (by omega)) ?_
      subst hQ9
      exact ⟨by unfold sgnV; (repeat' split) <;> first | rfl | (exfalso; omega), rfl, rfl⟩
noncomputable def BL (w : qW) (a b : Nat) : Prop := a ≤ b ∧ (∀ j, a ≤ j → j < b → seeV w j = 32 ∨ seeV w j = 10) ∧ ¬ (seeV w b = 32 ∨ seeV w b = 10)
noncomputable def LT (w : qW) (a b : Nat) : Prop := a ≤ b ∧ (∀ j, a ≤ j → j < b → letV (seeV w j) = 1) ∧ ¬ letV (seeV w b) = 1
noncomputable def DG (w : qW) (a b : Nat) : Prop := a ≤ b ∧ (∀ j, a ≤ j → j < b → digV (seeV w j) = 1) ∧ ¬ digV (seeV w b) = 1
/-- the number that n digits from a on are (four count) -/
noncomputable def valF (w : qW) (a : Nat) : Nat → Int
  | 0 => 0
  | n + 1 => if n < 4 then 10 * valF w a n + seeV w (a + n) - 48 else valF w a n
theorem valF_s {w : qW} {a n : Nat} : valF w a (n + 1) = if n < 4 then 10 * valF w a n + seeV w (a + n) - 48 else valF w a n := rfl
theorem valF_in {w : qW} {a b : Nat} (h : ∀ j, a ≤ j → j < b → digV (seeV w j) = 1) : ∀ n, a + n ≤ b → 0 ≤ valF w a n ∧ valF w a n ≤ 9999 ∧ (n = 0 → valF w a n ≤ 0) ∧ (n = 1 → valF w a n ≤ 9) ∧ (n = 2 → valF w a n ≤ 99) ∧ (n = 3 → valF w a n ≤ 999)
  | 0, _ => ⟨Int.le_refl 0, by show (0 : Int) ≤ _; decide, fun _ => Int.le_refl 0, fun z => by omega, fun z => by omega, fun z => by omega⟩
  | n + 1, hn => by
    obtain ⟨h1, h2, h3, h4, h5, h6⟩ := valF_in h n (by omega)
    have hd := digV_1.mp (h (a + n) (by omega) (by omega))
    unfold valF
    split
    · refine ⟨by omega, ?_, fun z => by omega, fun z => ?_, fun z => ?_, fun z => ?_⟩
      · rcases (show n = 0 ∨ n = 1 ∨ n = 2 ∨ n = 3 by omega) with e | e | e | e
        · have := h3 e; omega
        · have := h4 e; omega
        · have := h5 e; omega
        · have := h6 e; omega
      · have := h3 (by omega); omega
      · have := h4 (by omega); omega
      · have := h5 (by omega); omega
    · exact ⟨h1, h2, fun z => by omega, fun z => by omega, fun z => by omega, fun z => by omega⟩
/-- the state with the place of reading -/
noncomputable def atW (w : qW) (a : Nat) : qW := qup w 95 26 (a : Int)
theorem atW_id {w : qW} {a : Nat} (h : w 95 26 = (a : Int)) : w = atW w a := funext fun p => funext fun j => by
  unfold atW
  by_cases hp : p = 95
  · subst hp
    by_cases hj : j = 26
    · subst hj; rw [qup_k, h]
    · rw [qup_j hj]
  · rw [qup_ne hp]
theorem atW_at {w : qW} {a : Nat} : atW w a 95 26 = (a : Int) := qup_k
theorem atW_o {w : qW} {a p j : Nat} (h : ¬ (p = 95 ∧ j = 26)) : atW w a p j = w p j := by
  unfold atW
  by_cases hp : p = 95
  · subst hp; exact qup_j (fun z => h ⟨rfl, z⟩)
  · rw [qup_ne hp]
theorem atW_up {w : qW} {a b : Nat} : qup (atW w a) 95 26 (b : Int) = atW w b := by
  unfold atW
  funext p j
  by_cases hp : p = 95
  · subst hp
    by_cases hj : j = 26
    · subst hj; rw [qup_k, qup_k]
    · rw [qup_j hj, qup_j hj, qup_j hj]
  · rw [qup_ne hp, qup_ne hp, qup_ne hp]
theorem atW_I {w : qW} {a : Nat} (hI : yInv zgf zga zra zSp w) (ha : a ≤ 600) : yInv zgf zga zra zSp (atW w a) := zup_f hI (b := (0, 600)) rfl rfl rfl ⟨by show (0 : Int) ≤ _; omega, by show _ ≤ (600 : Int); omega⟩
theorem seeV_at {w : qW} {a k : Nat} : seeV (atW w a) k = seeV w k := seeV_up (by decide) k
noncomputable def tkW (w : qW) (a : Nat) : qW := qup (atW w a) 95 28 (a : Int)
noncomputable def dgW (t : qW) (b : Nat) (v : Int) : qW := qup (atW t b) 95 29 v
theorem tkW_at {w : qW} {a : Nat} : tkW w a 95 26 = (a : Int) := by unfold tkW; rw [qup_j (by decide), atW_at]
theorem tkW_tk {w : qW} {a : Nat} : tkW w a 95 28 = (a : Int) := qup_k
theorem tkW_I {w : qW} {a : Nat} (hI : yInv zgf zga zra zSp w) (ha : a ≤ 600) : yInv zgf zga zra zSp (tkW w a) := zup_f (atW_I hI ha) (b := (0, 600)) rfl rfl rfl ⟨by show (0 : Int) ≤ _; omega, by show _ ≤ (600 : Int); omega⟩
theorem seeV_tk {w : qW} {a k : Nat} : seeV (tkW w a) k = seeV w k := (seeV_up (by decide) k).trans seeV_at
theorem dgW_at {t : qW} {b : Nat} {v : Int} : dgW t b v 95 26 = (b : Int) := by unfold dgW; rw [qup_j (by decide), atW_at]
theorem dgW_val {t : qW} {b : Nat} {v : Int} : dgW t b v 95 29 = v := qup_k
theorem dgW_I {t : qW} {b : Nat} {v : Int} (hI : yInv zgf zga zra zSp t) (hb : b ≤ 600) (h0 : 0 ≤ v) (h1 : v ≤ 9999) : yInv zgf zga zra zSp (dgW t b v) := zup_f (atW_I hI hb) (b := (0, 9999)) rfl rfl rfl ⟨h0, h1⟩
theorem seeV_dg {t : qW} {b k : Nat} {v : Int} : seeV (dgW t b v) k = seeV t k := (seeV_up (by decide) k).trans seeV_at
theorem dgW_o {t : qW} {b p j : Nat} {v : Int} (h : ¬ (p = 95 ∧ (j = 26 ∨ j = 29))) : dgW t b v p j = t p j := by
  unfold dgW
  by_cases hp : p = 95
  · subst hp; rw [qup_j (fun z => h ⟨rfl, .inr z⟩), atW_o (fun z => h ⟨rfl, .inl z.2⟩)]
  · rw [qup_ne hp, atW_o (fun z => hp z.1)]
theorem dgW_up {t : qW} {b c : Nat} {v v' : Int} : qup (qup (dgW t b v) 95 29 v') 95 26 (c : Int) = dgW t c v' := by
  unfold dgW atW
  funext p j
  by_cases hp : p = 95
  · subst hp
    by_cases hj : j = 26
    · subst hj; rw [qup_k, qup_j (by decide), qup_k]
    · by_cases hk : j = 29
      · subst hk; rw [qup_j hj, qup_k, qup_k]
      · simp only [qup_j hj, qup_j hk]
  · simp only [qup_ne hp]
theorem dgW_up1 {t : qW} {b c : Nat} {v : Int} : qup (dgW t b v) 95 26 (c : Int) = dgW t c v := by
  unfold dgW atW
  funext p j
  by_cases hp : p = 95
  · subst hp
    by_cases hj : j = 26
    · subst hj; rw [qup_k, qup_j (by decide), qup_k]
    · by_cases hk : j = 29
      · subst hk; rw [qup_j hj, qup_k, qup_k]
      · simp only [qup_j hj, qup_j hk]
  · simp only [qup_ne hp]
/-- what next0 does from place a on, the blanks behind it -/
noncomputable def NB (w : qW) (a : Nat) (w' : qW) : Prop :=
  (seeV w a = -1 ∧ w' = qup (tkW w a) 95 27 0) ∨ (seeV w a ≠ -1 ∧ letV (seeV w a) = 1 ∧ ∃ b, LT w a b ∧ b ≤ 600 ∧ w' = qup (atW (tkW w a) b) 95 27 (wordV (atW (tkW w a) b))) ∨
  (seeV w a ≠ -1 ∧ ¬ letV (seeV w a) = 1 ∧ digV (seeV w a) = 1 ∧ ∃ b, DG w a b ∧ b ≤ 600 ∧ w' = qup (dgW (tkW w a) b (valF w a (b - a))) 95 27 (if b - a < 5 then 2 else 1)) ∨
  (seeV w a ≠ -1 ∧ ¬ letV (seeV w a) = 1 ∧ ¬ digV (seeV w a) = 1 ∧ a < 600 ∧ w' = qup (atW (tkW w a) (a + 1)) 95 27 (if sgnV w (seeV w a) = 0 then 1 else 100 + seeV w a))
noncomputable def NX (w w' : qW) : Prop := ∃ a, BL w (w 95 26).toNat a ∧ a ≤ 600 ∧ NB w a w'
theorem K_next0B {d : Nat} (hd : 7 ≤ d) (w : qW) (a : Nat) (ha6 : a ≤ 600) (hI : yInv zgf zga zra zSp w) : qG none d 231 47 [(2, 95), (9, 0)] [] (tkW w a) 142 (fun (r : qV) (w1 : qW) (n1 : Nat) => r = (9, 0) ∧ n1 = 142 ∧ NB w a w1) := by
  generalize hQ9 : (fun (r : qV) (w1 : qW) (n1 : Nat) => r = (9, 0) ∧ n1 = 142 ∧ NB w a w1) = Q9
  obtain ⟨d, rfl⟩ : ∃ d9, d = d9 + 1 := ⟨d - 1, by omega⟩
  have hIT := tkW_I hI ha6
  have hsa := seeV_in hI a
  have hlet01 := letV_01 (seeV w a)
  refine qG.blk 3 (pc' := 52) (ls' := [(2, 95), (9, 0)]) (st' := [(0, (tkW w a) 95 26), (2, 95)]) (w' := (tkW w a)) (n' := 142) rfl ?_
  rw [show (tkW w a) 95 26 = ((a : Nat) : Int) from tkW_at]
  refine qG.call (t := 224) (na := 2) (sk := 1) (md := 1) (ls1 := [(2, 95), (0, ((a : Nat) : Int))]) (r1 := []) rfl rfl rfl rfl rfl (K_see (by omega) a (by omega) (tkW w a) hIT) ?_
  rintro _ w7 _ ⟨rfl, hw7, rfl⟩
  rw [hw7, show seeV (tkW w a) a = seeV w a from seeV_tk]
  show qG none (d + 1) 231 55 [(2, 95), (9, 0)] [(0, seeV w a)] (tkW w a) 142 Q9
  refine qG.blk 3 (pc' := 58) (ls' := [(2, 95), (0, seeV w a)]) (st' := [(0, (-1)), (0, seeV w a)]) (w' := (tkW w a)) (n' := 142) rfl ?_
  refine qG.br (P := seeV w a = (-1)) (pc1 := 61) (pc2 := 69) (st1 := []) rfl (fun hend => ?_) (fun hend => ?_)
  · skip
    refine qG.blk 4 (pc' := 244) (ls' := [(2, 95), (0, seeV w a)]) (st' := []) (w' := (qup (tkW w a) 95 27 0)) (n' := 142) rfl ?_
    refine qG.retv rfl rfl ?_
    subst hQ9
    refine ⟨rfl, rfl, ?_⟩
    first
      | exact .inl ⟨hend, rfl⟩
      | exact .inr (.inl ⟨hend, (letV_01 _).resolve_left hlet, b, ⟨hab, hall, fun z => by rw [z] at hlt; exact absurd hlt (by decide)⟩, hb6, by rw [hwS]⟩)
      | exact .inr (.inr (.inl ⟨hend, (fun z => by rw [z] at hlet; exact absurd hlet (by decide)), (isInV_01 (seeV w a) 48 57).resolve_left hdig, b, ⟨hab, hall, fun z => by rw [show digV (seeV w b) = 1 from z] at hdg0; exact absurd hdg0 (by decide)⟩, hb6, by rw [hwS]; congr 1; first | (rw [if_pos (by omega)]; done) | (rw [if_neg (by omega)]; done)⟩))
      | exact .inr (.inr (.inr ⟨hend, (fun z => by rw [z] at hlet; exact absurd hlet (by decide)), (fun z => by rw [z] at hdig; exact absurd hdig (by decide)), (seeV_lt hI hend).2, by unfold atW; first | (rw [if_pos hsg]; done) | (rw [if_neg hsg]; done)⟩))
  · skip
    refine qG.blk 1 (pc' := 70) (ls' := [(2, 95), (0, seeV w a)]) (st' := [(0, seeV w a)]) (w' := (tkW w a)) (n' := 142) rfl ?_
    refine qG.call (t := 225) (na := 1) (sk := 0) (md := 0) (ls1 := [(0, seeV w a)]) (r1 := []) rfl rfl rfl rfl rfl (K_isLetter (by omega) _ _) ?_
    rintro _ w7 _ ⟨rfl, hw7, rfl⟩
    rw [hw7]
    show qG none (d + 1) 231 73 [(2, 95), (0, seeV w a)] [(0, letV (seeV w a))] (tkW w a) 142 Q9
    refine qG.br (P := letV (seeV w a) = 0) (pc1 := 114) (pc2 := 76) (st1 := []) rfl (fun hlet => ?_) (fun hlet => ?_)
    · skip
      refine qG.blk 1 (pc' := 115) (ls' := [(2, 95), (0, seeV w a)]) (st' := [(0, seeV w a)]) (w' := (tkW w a)) (n' := 142) rfl ?_
      refine qG.call (t := 226) (na := 1) (sk := 0) (md := 0) (ls1 := [(0, seeV w a)]) (r1 := []) rfl rfl rfl rfl rfl (K_isDigit (by omega) _ _) ?_
      rintro _ w7 _ ⟨rfl, hw7, rfl⟩
      rw [hw7]
      show qG none (d + 1) 231 118 [(2, 95), (0, seeV w a)] [(0, digV (seeV w a))] (tkW w a) 142 Q9
      refine qG.br (P := digV (seeV w a) = 0) (pc1 := 214) (pc2 := 121) (st1 := []) rfl (fun hdig => ?_) (fun hdig => ?_)
      · skip
        refine qG.blk 3 (pc' := 219) (ls' := [(2, 95), (0, seeV w a)]) (st' := [(0, (tkW w a) 95 26), (2, 95)]) (w' := (tkW w a)) (n' := 142) rfl ?_
        rw [show (tkW w a) 95 26 = ((a : Nat) : Int) from tkW_at]
        refine qG.blk 2 (pc' := 221) (ls' := [(2, 95), (0, seeV w a)]) (st' := [(0, wrp (((a : Nat) : Int) + 1)), (2, 95)]) (w' := (tkW w a)) (n' := 142) rfl ?_
        rw [show wrp (((a : Nat) : Int) + 1) = ((a + 1 : Nat) : Int) from by rw [wrp_id (by omega) (by omega)]; omega]
        refine qG.blk 4 (pc' := 227) (ls' := [(2, 95), (0, seeV w a)]) (st' := [(0, seeV w a), (2, 95), (2, 95)]) (w' := (qup (tkW w a) 95 26 ((a + 1 : Nat) : Int))) (n' := 142) rfl ?_
        refine qG.call (t := 230) (na := 2) (sk := 1) (md := 1) (ls1 := [(2, 95), (0, seeV w a)]) (r1 := [(2, 95)]) rfl rfl rfl rfl rfl (K_isSign (by omega) _ _) ?_
        rintro _ w7 _ ⟨rfl, hw7, rfl⟩
        rw [hw7, show sgnV (qup (tkW w a) 95 26 ((a + 1 : Nat) : Int)) (seeV w a) = sgnV w (seeV w a) from by unfold sgnV; rw [show (qup (tkW w a) 95 26 ((a + 1 : Nat) : Int)) 95 35 = w 95 35 from by rw [qup_j (by decide)]; unfold tkW; rw [qup_j (by decide), atW_o (by decide)]]]
        show qG none (d + 1) 231 230 [(2, 95), (0, seeV w a)] [(0, sgnV w (seeV w a)), (2, 95)] (qup (tkW w a) 95 26 ((a + 1 : Nat) : Int)) 142 Q9
        refine qG.br (P := sgnV w (seeV w a) = 0) (pc1 := 240) (pc2 := 233) (st1 := [(2, 95)]) rfl (fun hsg => ?_) (fun hsg => ?_)
        · skip
          refine qG.blk 2 (pc' := 244) (ls' := [(2, 95), (0, seeV w a)]) (st' := []) (w' := (qup (qup (tkW w a) 95 26 ((a + 1 : Nat) : Int)) 95 27 1)) (n' := 142) rfl ?_
          refine qG.retv rfl rfl ?_
          subst hQ9
          refine ⟨rfl, rfl, ?_⟩
          first
            | exact .inl ⟨hend, rfl⟩
            | exact .inr (.inl ⟨hend, (letV_01 _).resolve_left hlet, b, ⟨hab, hall, fun z => by rw [z] at hlt; exact absurd hlt (by decide)⟩, hb6, by rw [hwS]⟩)
            | exact .inr (.inr (.inl ⟨hend, (fun z => by rw [z] at hlet; exact absurd hlet (by decide)), (isInV_01 (seeV w a) 48 57).resolve_left hdig, b, ⟨hab, hall, fun z => by rw [show digV (seeV w b) = 1 from z] at hdg0; exact absurd hdg0 (by decide)⟩, hb6, by rw [hwS]; congr 1; first | (rw [if_pos (by omega)]; done) | (rw [if_neg (by omega)]; done)⟩))
            | exact .inr (.inr (.inr ⟨hend, (fun z => by rw [z] at hlet; exact absurd hlet (by decide)), (fun z => by rw [z] at hdig; exact absurd hdig (by decide)), (seeV_lt hI hend).2, by unfold atW; first | (rw [if_pos hsg]; done) | (rw [if_neg hsg]; done)⟩))
        · skip
          refine qG.blk 3 (pc' := 237) (ls' := [(2, 95), (0, seeV w a)]) (st' := [(0, wrp (100 + (seeV w a))), (2, 95)]) (w' := (qup (tkW w a) 95 26 ((a + 1 : Nat) : Int))) (n' := 142) rfl ?_
          rw [show wrp (100 + (seeV w a)) = 100 + (seeV w a) from wrp_id (by omega) (by omega)]
          refine qG.blk 2 (pc' := 244) (ls' := [(2, 95), (0, seeV w a)]) (st' := []) (w' := (qup (qup (tkW w a) 95 26 ((a + 1 : Nat) : Int)) 95 27 (100 + (seeV w a)))) (n' := 142) rfl ?_
          refine qG.retv rfl rfl ?_
          subst hQ9
          refine ⟨rfl, rfl, ?_⟩
          first
            | exact .inl ⟨hend, rfl⟩
            | exact .inr (.inl ⟨hend, (letV_01 _).resolve_left hlet, b, ⟨hab, hall, fun z => by rw [z] at hlt; exact absurd hlt (by decide)⟩, hb6, by rw [hwS]⟩)
            | exact .inr (.inr (.inl ⟨hend, (fun z => by rw [z] at hlet; exact absurd hlet (by decide)), (isInV_01 (seeV w a) 48 57).resolve_left hdig, b, ⟨hab, hall, fun z => by rw [show digV (seeV w b) = 1 from z] at hdg0; exact absurd hdg0 (by decide)⟩, hb6, by rw [hwS]; congr 1; first | (rw [if_pos (by omega)]; done) | (rw [if_neg (by omega)]; done)⟩))
            | exact .inr (.inr (.inr ⟨hend, (fun z => by rw [z] at hlet; exact absurd hlet (by decide)), (fun z => by rw [z] at hdig; exact absurd hdig (by decide)), (seeV_lt hI hend).2, by unfold atW; first | (rw [if_pos hsg]; done) | (rw [if_neg hsg]; done)⟩))
      · skip
        refine qG.blk 3 (pc' := 126) (ls' := [(2, 95), (0, seeV w a)]) (st' := []) (w' := (qup (tkW w a) 95 29 0)) (n' := 142) rfl ?_
        have L126 : ∀ (m9 : Nat) (b : Nat) (wS : qW), 601 - b = m9 → (a ≤ b ∧ b ≤ 600 ∧ wS = dgW (tkW w a) b (valF w a (b - a)) ∧ ∀ j, a ≤ j → j < b → digV (seeV w j) = 1) → qG none (d + 1) 231 126 [(2, 95), (0, seeV w a)] [] wS 142 Q9 := by
          intro m9
          induction m9 using Nat.strongRecOn with
          | ind m9 ih126 =>
          intro b wS hm126 hI126
          obtain ⟨hab, hb6, hwS, hall⟩ := hI126
          have hvf := valF_in hall (b - a) (by omega)
          have hIS : yInv zgf zga zra zSp wS := hwS ▸ dgW_I hIT hb6 hvf.1 hvf.2.1
          refine qG.blk 3 (pc' := 131) (ls' := [(2, 95), (0, seeV w a)]) (st' := [(0, wS 95 26), (2, 95)]) (w' := wS) (n' := 142) rfl ?_
          rw [show wS 95 26 = ((b : Nat) : Int) from (congrFun (congrFun hwS 95) 26).trans dgW_at]
          refine qG.call (t := 224) (na := 2) (sk := 1) (md := 1) (ls1 := [(2, 95), (0, ((b : Nat) : Int))]) (r1 := []) rfl rfl rfl rfl rfl (K_see (by omega) b (by omega) wS hIS) ?_
          rintro _ w7 _ ⟨rfl, hw7, rfl⟩
          rw [hw7, show seeV wS b = seeV w b from by rw [hwS]; first | exact seeV_at.trans seeV_tk | exact seeV_dg.trans seeV_tk]
          show qG none (d + 1) 231 134 [(2, 95), (0, seeV w a)] [(0, seeV w b)] wS 142 Q9
          refine qG.call (t := 226) (na := 1) (sk := 0) (md := 0) (ls1 := [(0, seeV w b)]) (r1 := []) rfl rfl rfl rfl rfl (K_isDigit (by omega) _ _) ?_
          rintro _ w7 _ ⟨rfl, hw7, rfl⟩
          rw [hw7]
          show qG none (d + 1) 231 137 [(2, 95), (0, seeV w a)] [(0, digV (seeV w b))] wS 142 Q9
          refine qG.br (P := digV (seeV w b) = 0) (pc1 := 189) (pc2 := 140) (st1 := []) rfl (fun hdg0 => ?_) (fun hdg0 => ?_)
          · skip
            refine qG.blk 3 (pc' := 194) (ls' := [(2, 95), (0, seeV w a)]) (st' := [(0, wS 95 26), (2, 95)]) (w' := wS) (n' := 142) rfl ?_
            rw [show wS 95 26 = ((b : Nat) : Int) from (congrFun (congrFun hwS 95) 26).trans dgW_at]
            refine qG.blk 2 (pc' := 198) (ls' := [(2, 95), (0, seeV w a)]) (st' := [(0, wS 95 28), (0, ((b : Nat) : Int)), (2, 95)]) (w' := wS) (n' := 142) rfl ?_
            rw [show wS 95 28 = ((a : Nat) : Int) from (congrFun (congrFun hwS 95) 28).trans ((dgW_o (by omega)).trans tkW_tk)]
            refine qG.blk 1 (pc' := 199) (ls' := [(2, 95), (0, seeV w a)]) (st' := [(0, wrp (((b : Nat) : Int) - ((a : Nat) : Int))), (2, 95)]) (w' := wS) (n' := 142) rfl ?_
            rw [show wrp (((b : Nat) : Int) - ((a : Nat) : Int)) = ((b : Nat) : Int) - ((a : Nat) : Int) from wrp_id (by omega) (by omega)]
            refine qG.blk 1 (pc' := 200) (ls' := [(2, 95), (0, seeV w a)]) (st' := [(0, 5), (0, ((b : Nat) : Int) - ((a : Nat) : Int)), (2, 95)]) (w' := wS) (n' := 142) rfl ?_
            refine qG.br (P := ((b : Nat) : Int) - ((a : Nat) : Int) < 5) (pc1 := 203) (pc2 := 207) (st1 := [(2, 95)]) rfl (fun h5 => ?_) (fun h5 => ?_)
            · skip
              refine qG.blk 4 (pc' := 244) (ls' := [(2, 95), (0, seeV w a)]) (st' := []) (w' := (qup wS 95 27 2)) (n' := 142) rfl ?_
              refine qG.retv rfl rfl ?_
              subst hQ9
              refine ⟨rfl, rfl, ?_⟩
              first
                | exact .inl ⟨hend, rfl⟩
                | exact .inr (.inl ⟨hend, (letV_01 _).resolve_left hlet, b, ⟨hab, hall, fun z => by rw [z] at hlt; exact absurd hlt (by decide)⟩, hb6, by rw [hwS]⟩)
                | exact .inr (.inr (.inl ⟨hend, (fun z => by rw [z] at hlet; exact absurd hlet (by decide)), (isInV_01 (seeV w a) 48 57).resolve_left hdig, b, ⟨hab, hall, fun z => by rw [show digV (seeV w b) = 1 from z] at hdg0; exact absurd hdg0 (by decide)⟩, hb6, by rw [hwS]; congr 1; first | (rw [if_pos (by omega)]; done) | (rw [if_neg (by omega)]; done)⟩))
                | exact .inr (.inr (.inr ⟨hend, (fun z => by rw [z] at hlet; exact absurd hlet (by decide)), (fun z => by rw [z] at hdig; exact absurd hdig (by decide)), (seeV_lt hI hend).2, by unfold atW; first | (rw [if_pos hsg]; done) | (rw [if_neg hsg]; done)⟩))
            · skip
              refine qG.blk 3 (pc' := 244) (ls' := [(2, 95), (0, seeV w a)]) (st' := []) (w' := (qup wS 95 27 1)) (n' := 142) rfl ?_
              refine qG.retv rfl rfl ?_
              subst hQ9
              refine ⟨rfl, rfl, ?_⟩
              first
                | exact .inl ⟨hend, rfl⟩
                | exact .inr (.inl ⟨hend, (letV_01 _).resolve_left hlet, b, ⟨hab, hall, fun z => by rw [z] at hlt; exact absurd hlt (by decide)⟩, hb6, by rw [hwS]⟩)
                | exact .inr (.inr (.inl ⟨hend, (fun z => by rw [z] at hlet; exact absurd hlet (by decide)), (isInV_01 (seeV w a) 48 57).resolve_left hdig, b, ⟨hab, hall, fun z => by rw [show digV (seeV w b) = 1 from z] at hdg0; exact absurd hdg0 (by decide)⟩, hb6, by rw [hwS]; congr 1; first | (rw [if_pos (by omega)]; done) | (rw [if_neg (by omega)]; done)⟩))
                | exact .inr (.inr (.inr ⟨hend, (fun z => by rw [z] at hlet; exact absurd hlet (by decide)), (fun z => by rw [z] at hdig; exact absurd hdig (by decide)), (seeV_lt hI hend).2, by unfold atW; first | (rw [if_pos hsg]; done) | (rw [if_neg hsg]; done)⟩))
          · skip
            have hdg := digV_1.mp ((letV_01 0).elim (fun _ => (isInV_01 (seeV w b) 48 57).resolve_left hdg0) (fun _ => (isInV_01 (seeV w b) 48 57).resolve_left hdg0))
            have hb7 : b < 600 := (seeV_lt hI (k := b) (by omega)).2
            refine qG.blk 2 (pc' := 144) (ls' := [(2, 95), (0, seeV w a)]) (st' := [(0, wS 95 26)]) (w' := wS) (n' := 142) rfl ?_
            rw [show wS 95 26 = ((b : Nat) : Int) from (congrFun (congrFun hwS 95) 26).trans dgW_at]
            refine qG.blk 2 (pc' := 148) (ls' := [(2, 95), (0, seeV w a)]) (st' := [(0, wS 95 28), (0, ((b : Nat) : Int))]) (w' := wS) (n' := 142) rfl ?_
            rw [show wS 95 28 = ((a : Nat) : Int) from (congrFun (congrFun hwS 95) 28).trans ((dgW_o (by omega)).trans tkW_tk)]
            refine qG.blk 2 (pc' := 150) (ls' := [(2, 95), (0, seeV w a)]) (st' := [(0, wrp (((a : Nat) : Int) + 4)), (0, ((b : Nat) : Int))]) (w' := wS) (n' := 142) rfl ?_
            rw [show wrp (((a : Nat) : Int) + 4) = ((a + 4 : Nat) : Int) from by rw [wrp_id (by omega) (by omega)]; omega]
            refine qG.br (P := ((b : Nat) : Int) < ((a + 4 : Nat) : Int)) (pc1 := 153) (pc2 := 176) (st1 := []) rfl (fun h4 => ?_) (fun h4 => ?_)
            · skip
              refine qG.blk 4 (pc' := 160) (ls' := [(2, 95), (0, seeV w a)]) (st' := [(0, wS 95 29), (0, 10), (2, 95)]) (w' := wS) (n' := 142) rfl ?_
              rw [show wS 95 29 = valF w a (b - a) from (congrFun (congrFun hwS 95) 29).trans dgW_val]
              refine qG.blk 1 (pc' := 161) (ls' := [(2, 95), (0, seeV w a)]) (st' := [(0, wrp (10 * (valF w a (b - a)))), (2, 95)]) (w' := wS) (n' := 142) rfl ?_
              rw [show wrp (10 * (valF w a (b - a))) = 10 * valF w a (b - a) from wrp_id (by omega) (by omega)]
              refine qG.blk 3 (pc' := 166) (ls' := [(2, 95), (0, seeV w a)]) (st' := [(0, wS 95 26), (2, 95), (0, 10 * valF w a (b - a)), (2, 95)]) (w' := wS) (n' := 142) rfl ?_
              rw [show wS 95 26 = ((b : Nat) : Int) from (congrFun (congrFun hwS 95) 26).trans dgW_at]
              refine qG.call (t := 224) (na := 2) (sk := 1) (md := 1) (ls1 := [(2, 95), (0, ((b : Nat) : Int))]) (r1 := [(0, 10 * valF w a (b - a)), (2, 95)]) rfl rfl rfl rfl rfl (K_see (by omega) b (by omega) wS hIS) ?_
              rintro _ w7 _ ⟨rfl, hw7, rfl⟩
              rw [hw7, show seeV wS b = seeV w b from by rw [hwS]; first | exact seeV_at.trans seeV_tk | exact seeV_dg.trans seeV_tk]
              show qG none (d + 1) 231 169 [(2, 95), (0, seeV w a)] [(0, seeV w b), (0, 10 * valF w a (b - a)), (2, 95)] wS 142 Q9
              refine qG.blk 1 (pc' := 170) (ls' := [(2, 95), (0, seeV w a)]) (st' := [(0, wrp ((10 * valF w a (b - a)) + (seeV w b))), (2, 95)]) (w' := wS) (n' := 142) rfl ?_
              rw [show wrp ((10 * valF w a (b - a)) + (seeV w b)) = 10 * valF w a (b - a) + seeV w b from wrp_id (by omega) (by omega)]
              refine qG.blk 2 (pc' := 173) (ls' := [(2, 95), (0, seeV w a)]) (st' := [(0, wrp ((10 * valF w a (b - a) + seeV w b) - 48)), (2, 95)]) (w' := wS) (n' := 142) rfl ?_
              rw [show wrp ((10 * valF w a (b - a) + seeV w b) - 48) = 10 * valF w a (b - a) + seeV w b - 48 from wrp_id (by omega) (by omega)]
              refine qG.blk 4 (pc' := 181) (ls' := [(2, 95), (0, seeV w a)]) (st' := [(0, wS 95 26), (2, 95)]) (w' := (qup wS 95 29 (10 * valF w a (b - a) + seeV w b - 48))) (n' := 142) rfl ?_
              rw [show wS 95 26 = ((b : Nat) : Int) from (congrFun (congrFun hwS 95) 26).trans dgW_at]
              refine qG.blk 2 (pc' := 183) (ls' := [(2, 95), (0, seeV w a)]) (st' := [(0, wrp (((b : Nat) : Int) + 1)), (2, 95)]) (w' := (qup wS 95 29 (10 * valF w a (b - a) + seeV w b - 48))) (n' := 142) rfl ?_
              rw [show wrp (((b : Nat) : Int) + 1) = ((b + 1 : Nat) : Int) from by rw [wrp_id (by omega) (by omega)]; omega]
              refine qG.blk 2 (pc' := 126) (ls' := [(2, 95), (0, seeV w a)]) (st' := []) (w' := (qup (qup wS 95 29 (10 * valF w a (b - a) + seeV w b - 48)) 95 26 ((b + 1 : Nat) : Int))) (n' := 142) rfl ?_
              exact ih126 _ (by omega) (b + 1) ((qup (qup wS 95 29 (10 * valF w a (b - a) + seeV w b - 48)) 95 26 ((b + 1 : Nat) : Int))) rfl (⟨by omega, by omega, by rw [hwS, dgW_up]; congr 1; rw [show b + 1 - a = (b - a) + 1 by omega]; rw [valF_s]; first | (rw [if_pos (by omega), show a + (b - a) = b by omega]; done) | (rw [if_neg (by omega)]; done), fun j h1 h2 => by rcases (show j < b ∨ j = b by omega) with q | rfl; exact hall j h1 q; exact (digV_1.mpr hdg)⟩)
            · skip
              refine qG.blk 3 (pc' := 181) (ls' := [(2, 95), (0, seeV w a)]) (st' := [(0, wS 95 26), (2, 95)]) (w' := wS) (n' := 142) rfl ?_
              rw [show wS 95 26 = ((b : Nat) : Int) from (congrFun (congrFun hwS 95) 26).trans dgW_at]
              refine qG.blk 2 (pc' := 183) (ls' := [(2, 95), (0, seeV w a)]) (st' := [(0, wrp (((b : Nat) : Int) + 1)), (2, 95)]) (w' := wS) (n' := 142) rfl ?_
              rw [show wrp (((b : Nat) : Int) + 1) = ((b + 1 : Nat) : Int) from by rw [wrp_id (by omega) (by omega)]; omega]
              refine qG.blk 2 (pc' := 126) (ls' := [(2, 95), (0, seeV w a)]) (st' := []) (w' := (qup wS 95 26 ((b + 1 : Nat) : Int))) (n' := 142) rfl ?_
              exact ih126 _ (by omega) (b + 1) ((qup wS 95 26 ((b + 1 : Nat) : Int))) rfl (⟨by omega, by omega, by rw [hwS, dgW_up1]; congr 1; rw [show b + 1 - a = (b - a) + 1 by omega]; rw [valF_s]; first | (rw [if_pos (by omega), show a + (b - a) = b by omega]; done) | (rw [if_neg (by omega)]; done), fun j h1 h2 => by rcases (show j < b ∨ j = b by omega) with q | rfl; exact hall j h1 q; exact (digV_1.mpr hdg)⟩)
        exact L126 _ (a) ((qup (tkW w a) 95 29 0)) rfl (⟨Nat.le_refl _, ha6, by unfold dgW; rw [← atW_id tkW_at, Nat.sub_self]; rfl, fun j h1 h2 => by omega⟩)
    · skip
      have L76 : ∀ (m9 : Nat) (b : Nat) (wS : qW), 601 - b = m9 → (a ≤ b ∧ b ≤ 600 ∧ wS = atW (tkW w a) b ∧ ∀ j, a ≤ j → j < b → letV (seeV w j) = 1) → qG none (d + 1) 231 76 [(2, 95), (0, seeV w a)] [] wS 142 Q9 := by
        intro m9
        induction m9 using Nat.strongRecOn with
        | ind m9 ih76 =>
        intro b wS hm76 hI76
        obtain ⟨hab, hb6, hwS, hall⟩ := hI76
        have hIS : yInv zgf zga zra zSp wS := hwS ▸ atW_I hIT hb6
        refine qG.blk 3 (pc' := 81) (ls' := [(2, 95), (0, seeV w a)]) (st' := [(0, wS 95 26), (2, 95)]) (w' := wS) (n' := 142) rfl ?_
        rw [show wS 95 26 = ((b : Nat) : Int) from (congrFun (congrFun hwS 95) 26).trans atW_at]
        refine qG.call (t := 224) (na := 2) (sk := 1) (md := 1) (ls1 := [(2, 95), (0, ((b : Nat) : Int))]) (r1 := []) rfl rfl rfl rfl rfl (K_see (by omega) b (by omega) wS hIS) ?_
        rintro _ w7 _ ⟨rfl, hw7, rfl⟩
        rw [hw7, show seeV wS b = seeV w b from by rw [hwS]; first | exact seeV_at.trans seeV_tk | exact seeV_dg.trans seeV_tk]
        show qG none (d + 1) 231 84 [(2, 95), (0, seeV w a)] [(0, seeV w b)] wS 142 Q9
        refine qG.call (t := 225) (na := 1) (sk := 0) (md := 0) (ls1 := [(0, seeV w b)]) (r1 := []) rfl rfl rfl rfl rfl (K_isLetter (by omega) _ _) ?_
        rintro _ w7 _ ⟨rfl, hw7, rfl⟩
        rw [hw7]
        show qG none (d + 1) 231 87 [(2, 95), (0, seeV w a)] [(0, letV (seeV w b))] wS 142 Q9
        refine qG.br (P := letV (seeV w b) = 0) (pc1 := 103) (pc2 := 90) (st1 := []) rfl (fun hlt => ?_) (fun hlt => ?_)
        · skip
          refine qG.blk 2 (pc' := 105) (ls' := [(2, 95), (0, seeV w a)]) (st' := [(2, 95), (2, 95)]) (w' := wS) (n' := 142) rfl ?_
          refine qG.call (t := 229) (na := 1) (sk := 1) (md := 1) (ls1 := [(2, 95)]) (r1 := [(2, 95)]) rfl rfl rfl rfl rfl (K_word (by omega) wS hIS) ?_
          rintro _ w7 _ ⟨rfl, hw7, rfl⟩
          rw [hw7]
          show qG none (d + 1) 231 108 [(2, 95), (0, seeV w a)] [(0, wordV wS), (2, 95)] wS 142 Q9
          refine qG.blk 2 (pc' := 244) (ls' := [(2, 95), (0, seeV w a)]) (st' := []) (w' := (qup wS 95 27 (wordV wS))) (n' := 142) rfl ?_
          refine qG.retv rfl rfl ?_
          subst hQ9
          refine ⟨rfl, rfl, ?_⟩
          first
            | exact .inl ⟨hend, rfl⟩
            | exact .inr (.inl ⟨hend, (letV_01 _).resolve_left hlet, b, ⟨hab, hall, fun z => by rw [z] at hlt; exact absurd hlt (by decide)⟩, hb6, by rw [hwS]⟩)
            | exact .inr (.inr (.inl ⟨hend, (fun z => by rw [z] at hlet; exact absurd hlet (by decide)), (isInV_01 (seeV w a) 48 57).resolve_left hdig, b, ⟨hab, hall, fun z => by rw [show digV (seeV w b) = 1 from z] at hdg0; exact absurd hdg0 (by decide)⟩, hb6, by rw [hwS]; congr 1; first | (rw [if_pos (by omega)]; done) | (rw [if_neg (by omega)]; done)⟩))
            | exact .inr (.inr (.inr ⟨hend, (fun z => by rw [z] at hlet; exact absurd hlet (by decide)), (fun z => by rw [z] at hdig; exact absurd hdig (by decide)), (seeV_lt hI hend).2, by unfold atW; first | (rw [if_pos hsg]; done) | (rw [if_neg hsg]; done)⟩))
        · skip
          refine qG.blk 3 (pc' := 95) (ls' := [(2, 95), (0, seeV w a)]) (st' := [(0, wS 95 26), (2, 95)]) (w' := wS) (n' := 142) rfl ?_
          rw [show wS 95 26 = ((b : Nat) : Int) from (congrFun (congrFun hwS 95) 26).trans atW_at]
          refine qG.blk 2 (pc' := 97) (ls' := [(2, 95), (0, seeV w a)]) (st' := [(0, wrp (((b : Nat) : Int) + 1)), (2, 95)]) (w' := wS) (n' := 142) rfl ?_
          rw [show wrp (((b : Nat) : Int) + 1) = ((b + 1 : Nat) : Int) from by rw [wrp_id (by omega) (by omega)]; omega]
          refine qG.blk 2 (pc' := 76) (ls' := [(2, 95), (0, seeV w a)]) (st' := []) (w' := (qup wS 95 26 ((b + 1 : Nat) : Int))) (n' := 142) rfl ?_
          exact ih76 _ (by omega) (b + 1) ((qup wS 95 26 ((b + 1 : Nat) : Int))) rfl (⟨by omega, by have := seeV_lt hI (k := b) (fun z => by rw [z] at hlt; exact hlt (by decide)); omega, by rw [hwS, atW_up], fun j h1 h2 => by rcases (show j < b ∨ j = b by omega) with q | rfl; exact hall j h1 q; exact (letV_01 _).resolve_left hlt⟩)
      exact L76 _ (a) ((tkW w a)) rfl (⟨Nat.le_refl _, ha6, atW_id tkW_at, fun j h1 h2 => by omega⟩)
theorem K_next0 {d : Nat} (hd : 7 ≤ d) (w : qW) (hI : yInv zgf zga zra zSp w) : qG none d 231 0 [(2, 95), (9, 0)] [] w 142 (fun (r : qV) (w1 : qW) (n1 : Nat) => r = (9, 0) ∧ n1 = 142 ∧ NX w w1) := by
  generalize hQ9 : (fun (r : qV) (w1 : qW) (n1 : Nat) => r = (9, 0) ∧ n1 = 142 ∧ NX w w1) = Q9
  have h26 := zfld hI (j := 26) (b := (0, 600)) rfl
  have a26 : (0 : Int) ≤ w 95 26 := h26.1
  have b26 : w 95 26 ≤ (600 : Int) := h26.2
  obtain ⟨a0, ha0e⟩ : ∃ a0 : Nat, a0 = (w 95 26).toNat := ⟨_, rfl⟩
  have hat : w 95 26 = (a0 : Int) := by omega
  have hat0 : (w 95 26).toNat = a0 := ha0e.symm
  have ha0 : a0 ≤ 600 := by omega
  obtain ⟨d, rfl⟩ : ∃ d9, d = d9 + 1 := ⟨d - 1, by omega⟩
  have L0 : ∀ (m9 : Nat) (a : Nat) (wS : qW), 601 - a = m9 → (a0 ≤ a ∧ a ≤ 600 ∧ wS = atW w a ∧ ∀ j, a0 ≤ j → j < a → seeV w j = 32 ∨ seeV w j = 10) → qG none (d + 1) 231 0 [(2, 95), (9, 0)] [] wS 142 Q9 := by
    intro m9
    induction m9 using Nat.strongRecOn with
    | ind m9 ih0 =>
    intro a wS hm0 hI0
    obtain ⟨haa, ha6, hwS, hall⟩ := hI0
    have hIS : yInv zgf zga zra zSp wS := hwS ▸ atW_I hI ha6
    refine qG.blk 3 (pc' := 5) (ls' := [(2, 95), (9, 0)]) (st' := [(0, wS 95 26), (2, 95)]) (w' := wS) (n' := 142) rfl ?_
    rw [show wS 95 26 = ((a : Nat) : Int) from (congrFun (congrFun hwS 95) 26).trans atW_at]
    refine qG.call (t := 224) (na := 2) (sk := 1) (md := 1) (ls1 := [(2, 95), (0, ((a : Nat) : Int))]) (r1 := []) rfl rfl rfl rfl rfl (K_see (by omega) a (by omega) wS hIS) ?_
    rintro _ w7 _ ⟨rfl, hw7, rfl⟩
    rw [hw7, show seeV wS a = seeV w a from by rw [hwS]; exact seeV_at]
    show qG none (d + 1) 231 8 [(2, 95), (9, 0)] [(0, seeV w a)] wS 142 Q9
    refine qG.blk 1 (pc' := 10) (ls' := [(2, 95), (9, 0)]) (st' := [(0, 32), (0, seeV w a)]) (w' := wS) (n' := 142) rfl ?_
    refine qG.br (P := seeV w a = 32) (pc1 := 26) (pc2 := 13) (st1 := []) rfl (fun hb1 => ?_) (fun hb1 => ?_)
    · skip
      refine qG.blk 3 (pc' := 31) (ls' := [(2, 95), (9, 0)]) (st' := [(0, wS 95 26), (2, 95)]) (w' := wS) (n' := 142) rfl ?_
      rw [show wS 95 26 = ((a : Nat) : Int) from (congrFun (congrFun hwS 95) 26).trans atW_at]
      refine qG.blk 2 (pc' := 33) (ls' := [(2, 95), (9, 0)]) (st' := [(0, wrp (((a : Nat) : Int) + 1)), (2, 95)]) (w' := wS) (n' := 142) rfl ?_
      rw [show wrp (((a : Nat) : Int) + 1) = ((a + 1 : Nat) : Int) from by rw [wrp_id (by omega) (by omega)]; omega]
      refine qG.blk 2 (pc' := 0) (ls' := [(2, 95), (9, 0)]) (st' := []) (w' := (qup wS 95 26 ((a + 1 : Nat) : Int))) (n' := 142) rfl ?_
      exact ih0 _ (by omega) (a + 1) ((qup wS 95 26 ((a + 1 : Nat) : Int))) rfl (⟨by omega, by have := seeV_lt hI (k := a) (by omega); omega, by rw [hwS, atW_up], fun j h1 h2 => by rcases (show j < a ∨ j = a by omega) with q | rfl; exact hall j h1 q; first | exact .inl hb1 | exact .inr hb2⟩)
    · skip
      refine qG.blk 3 (pc' := 18) (ls' := [(2, 95), (9, 0)]) (st' := [(0, wS 95 26), (2, 95)]) (w' := wS) (n' := 142) rfl ?_
      rw [show wS 95 26 = ((a : Nat) : Int) from (congrFun (congrFun hwS 95) 26).trans atW_at]
      refine qG.call (t := 224) (na := 2) (sk := 1) (md := 1) (ls1 := [(2, 95), (0, ((a : Nat) : Int))]) (r1 := []) rfl rfl rfl rfl rfl (K_see (by omega) a (by omega) wS hIS) ?_
      rintro _ w7 _ ⟨rfl, hw7, rfl⟩
      rw [hw7, show seeV wS a = seeV w a from by rw [hwS]; exact seeV_at]
      show qG none (d + 1) 231 21 [(2, 95), (9, 0)] [(0, seeV w a)] wS 142 Q9
      refine qG.blk 1 (pc' := 23) (ls' := [(2, 95), (9, 0)]) (st' := [(0, 10), (0, seeV w a)]) (w' := wS) (n' := 142) rfl ?_
      refine qG.br (P := seeV w a = 10) (pc1 := 26) (pc2 := 39) (st1 := []) rfl (fun hb2 => ?_) (fun hb2 => ?_)
      · skip
        refine qG.blk 3 (pc' := 31) (ls' := [(2, 95), (9, 0)]) (st' := [(0, wS 95 26), (2, 95)]) (w' := wS) (n' := 142) rfl ?_
        rw [show wS 95 26 = ((a : Nat) : Int) from (congrFun (congrFun hwS 95) 26).trans atW_at]
        refine qG.blk 2 (pc' := 33) (ls' := [(2, 95), (9, 0)]) (st' := [(0, wrp (((a : Nat) : Int) + 1)), (2, 95)]) (w' := wS) (n' := 142) rfl ?_
        rw [show wrp (((a : Nat) : Int) + 1) = ((a + 1 : Nat) : Int) from by rw [wrp_id (by omega) (by omega)]; omega]
        refine qG.blk 2 (pc' := 0) (ls' := [(2, 95), (9, 0)]) (st' := []) (w' := (qup wS 95 26 ((a + 1 : Nat) : Int))) (n' := 142) rfl ?_
        exact ih0 _ (by omega) (a + 1) ((qup wS 95 26 ((a + 1 : Nat) : Int))) rfl (⟨by omega, by have := seeV_lt hI (k := a) (by omega); omega, by rw [hwS, atW_up], fun j h1 h2 => by rcases (show j < a ∨ j = a by omega) with q | rfl; exact hall j h1 q; first | exact .inl hb1 | exact .inr hb2⟩)
      · skip
        refine qG.blk 3 (pc' := 44) (ls' := [(2, 95), (9, 0)]) (st' := [(0, wS 95 26), (2, 95)]) (w' := wS) (n' := 142) rfl ?_
        rw [show wS 95 26 = ((a : Nat) : Int) from (congrFun (congrFun hwS 95) 26).trans atW_at]
        refine qG.blk 1 (pc' := 47) (ls' := [(2, 95), (9, 0)]) (st' := []) (w' := (qup wS 95 28 ((a : Nat) : Int))) (n' := 142) rfl ?_
        rw [show qup wS 95 28 ((a : Nat) : Int) = tkW w a from by rw [hwS]; rfl]
        subst hQ9
        refine qG.mono (K_next0B (by omega) w a ha6 hI) ?_
        rintro _ w1 _ ⟨rfl, rfl, hNB⟩
        exact ⟨rfl, rfl, a, ⟨by rw [hat0]; exact haa, by rw [hat0]; exact hall, by omega⟩, ha6, hNB⟩
  exact L0 _ (a0) (w) rfl (⟨Nat.le_refl _, ha0, atW_id hat, fun j h1 h2 => by omega⟩)
end
section
/-! the reference's parser: the place of reading, the code that is laid -/
theorem ymo_far {p : Nat} (hp : p < 1000) : ∀ {m : List Nat}, m.all (fun e => !Nat.beq (e % 1000) p) = true → ∀ j, ymo p j m = false := by
  intro m h j
  have key : ∀ q, q % 1000 = p → ymem q m = false := fun q hq => by
    cases e : ymem q m with
    | false => rfl
    | true =>
      have := List.all_eq_true.mp h q (ymem_in e)
      rw [hq, Nat.beq_refl] at this; cases this
  show (ymem p m || ymem (1000 * (j + 1) + p) m) = false
  rw [key p (by omega), key _ (by omega)]; rfl
noncomputable def NM : List Nat := [27095, 28095, 29095, 30095]
noncomputable def PM : List Nat := [113, 25095, 27095, 28095, 29095, 30095, 31095, 32095, 34095]
theorem ymo95 {p j : Nat} {m : List Nat} (h : p < 1000 → ymo p j m = false) (hp : p = 95) : ymo 95 j m = false := hp ▸ h (by omega)
theorem NM_no {p j : Nat} (h : p < 1000 → ymo p j NM = false) : ¬ (p = 95 ∧ (j = 26 ∨ j = 27 ∨ j = 28 ∨ j = 29)) := fun z => by
  have h := ymo95 h z.1
  rcases z.2 with rfl | rfl | rfl | rfl <;> cases h
theorem tkW_o {w : qW} {a p j : Nat} (h : ¬ (p = 95 ∧ (j = 26 ∨ j = 28))) : tkW w a p j = w p j := by
  unfold tkW
  by_cases hp : p = 95
  · subst hp; rw [qup_j (fun z => h ⟨rfl, .inr z⟩), atW_o (fun z => h ⟨rfl, .inl z.2⟩)]
  · rw [qup_ne hp, atW_o (fun z => hp z.1)]
theorem qup95 {w : qW} {p j k : Nat} {v : Int} (h : ¬ (p = 95 ∧ j = k)) : qup w 95 k v p j = w p j := by
  by_cases hp : p = 95
  · subst hp; exact qup_j (fun z => h ⟨rfl, z⟩)
  · rw [qup_ne hp]
/-- what next0 does, as far as places go -/
theorem NX.look {w w' : qW} (hI : yInv zgf zga zra zSp w) (h : NX w w') : AW NM w w' ∧ w 95 26 ≤ w' 95 28 ∧ w' 95 28 ≤ w' 95 26 ∧ (w' 95 27 ≠ 0 → w' 95 28 + 1 ≤ w' 95 26) := by
  obtain ⟨a, hB, ha6, h⟩ := h
  have h26 := zfld hI (j := 26) (b := (0, 600)) rfl
  have a26 : (0 : Int) ≤ w 95 26 := h26.1
  have hBa := hB.1
  have hIT := tkW_I hI ha6
  have hs := seeV_in hI a
  have tk0 : ∀ (x : qW) (v : Int), yInv zgf zga zra zSp x → 0 ≤ v → v ≤ 355 → yInv zgf zga zra zSp (qup x 95 27 v) := fun x v hx h0 h1 => zup_f hx (b := (0, 355)) rfl rfl rfl ⟨h0, h1⟩
  rcases h with ⟨he, rfl⟩ | ⟨he, hl, b, hL, hb6, rfl⟩ | ⟨he, hl, hd, b, hD, hb6, rfl⟩ | ⟨he, hl, hd, ha, rfl⟩
  · refine ⟨⟨tk0 _ _ hIT (by omega) (by omega), fun p j hp => ?_⟩, ?_, ?_, fun z => absurd qup_k z⟩
    · have := NM_no hp
      rw [qup95 (by omega), tkW_o (by omega)]
    · rw [qup_j (by decide), tkW_tk]; omega
    · rw [qup_j (by decide), qup_j (by decide), tkW_tk, tkW_at]; omega
  · have hab : a + 1 ≤ b := by
      rcases (show a = b ∨ a + 1 ≤ b by have := hL.1; omega) with q | q
      · subst q; exact absurd hl hL.2.2
      · exact q
    have hw := wordV_in (atW (tkW w a) b)
    refine ⟨⟨tk0 _ _ (atW_I hIT hb6) (by omega) (by omega), fun p j hp => ?_⟩, ?_, ?_, fun _ => ?_⟩
    · have := NM_no hp
      rw [qup95 (by omega), atW_o (by omega), tkW_o (by omega)]
    · rw [qup_j (by decide), atW_o (by decide), tkW_tk]; omega
    · rw [qup_j (by decide), qup_j (by decide), atW_o (by decide), tkW_tk, atW_at]; omega
    · rw [qup_j (by decide), qup_j (by decide), atW_o (by decide), tkW_tk, atW_at]; omega
  · have hab : a + 1 ≤ b := by
      rcases (show a = b ∨ a + 1 ≤ b by have := hD.1; omega) with q | q
      · subst q; exact absurd hd hD.2.2
      · exact q
    have hv := valF_in hD.2.1 (b - a) (by omega)
    refine ⟨⟨tk0 _ _ (dgW_I hIT hb6 hv.1 hv.2.1) (by split <;> omega) (by split <;> omega), fun p j hp => ?_⟩, ?_, ?_, fun _ => ?_⟩
    · have := NM_no hp
      rw [qup95 (by omega), dgW_o (by omega), tkW_o (by omega)]
    · rw [qup_j (by decide), dgW_o (by decide), tkW_tk]; omega
    · rw [qup_j (by decide), qup_j (by decide), dgW_o (by decide), tkW_tk, dgW_at]; omega
    · rw [qup_j (by decide), qup_j (by decide), dgW_o (by decide), tkW_tk, dgW_at]; omega
  · refine ⟨⟨tk0 _ _ (atW_I hIT (by omega)) (by split <;> omega) (by split <;> omega), fun p j hp => ?_⟩, ?_, ?_, fun _ => ?_⟩
    · have := NM_no hp
      rw [qup95 (by omega), atW_o (by omega), tkW_o (by omega)]
    · rw [qup_j (by decide), atW_o (by decide), tkW_tk]; omega
    · rw [qup_j (by decide), qup_j (by decide), atW_o (by decide), tkW_tk, atW_at]; omega
    · rw [qup_j (by decide), qup_j (by decide), atW_o (by decide), tkW_tk, atW_at]; omega
/-- a program's step: how high the pile is then -/
noncomputable def stepH (s v : Int) (h : Nat) : Option Nat := if s < 8 then some (h + 1) else if s = 11 then (if 1 ≤ h ∧ 1 ≤ v then some h else none) else if s = 15 then (if 1 ≤ h then some h else none) else if 2 ≤ h then some (h - 1) else none
noncomputable def runS (f : Nat → Int) : Nat → Nat → Nat → Option Nat
  | _, 0, h => some h
  | b, n + 1, h => match stepH (f (2 * b)) (f (2 * b + 1)) h with
    | some h' => runS f (b + 1) n h'
    | none => none
theorem runS_app {f : Nat → Int} : ∀ (n : Nat) {m b h k : Nat}, runS f b n h = some k → runS f b (n + m) h = runS f (b + n) m k
  | 0, m, b, h, k, e => by
    have e : some h = some k := e
    cases e
    rw [Nat.zero_add, Nat.add_zero]
  | n + 1, m, b, h, k, e => by
    rw [show n + 1 + m = (n + m) + 1 by omega]
    have e : (match stepH (f (2 * b)) (f (2 * b + 1)) h with
      | some h' => runS f (b + 1) n h'
      | none => none) = some k := e
    show (match stepH (f (2 * b)) (f (2 * b + 1)) h with
      | some h' => runS f (b + 1) (n + m) h'
      | none => none) = _
    cases hq : stepH (f (2 * b)) (f (2 * b + 1)) h with
    | none => rw [hq] at e; cases e
    | some h' =>
      rw [hq] at e
      show runS f (b + 1) (n + m) h' = _
      rw [runS_app n e, show b + 1 + n = b + (n + 1) by omega]
theorem runS_cong {f g : Nat → Int} : ∀ (n : Nat) {b h : Nat}, (∀ j, 2 * b ≤ j → j < 2 * (b + n) → f j = g j) → runS f b n h = runS g b n h
  | 0, _, _, _ => rfl
  | n + 1, b, h, e => by
    show (match stepH (f (2 * b)) (f (2 * b + 1)) h with
      | some h' => runS f (b + 1) n h'
      | none => none) = (match stepH (g (2 * b)) (g (2 * b + 1)) h with
      | some h' => runS g (b + 1) n h'
      | none => none)
    rw [e (2 * b) (by omega) (by omega), e (2 * b + 1) (by omega) (by omega)]
    cases stepH (g (2 * b)) (g (2 * b + 1)) h with
    | none => rfl
    | some h' => exact runS_cong n (fun j h1 h2 => e j (by omega) (by omega))
/-- a state between tokens -/
noncomputable def PI (w : qW) : Prop := yInv zgf zga zra zSp w ∧ w 95 28 ≤ w 95 26 ∧ (w 95 27 ≠ 0 → w 95 28 + 1 ≤ w 95 26)
/-- from w to w' so much was read and laid: the pile had n and has m; the slack, the depth -/
noncomputable def PS (n m : Nat) (s dd : Int) (w w' : qW) : Prop := yInv zgf zga zra zSp w ∧ AW PM w w' ∧ PI w' ∧ w 95 28 ≤ w' 95 28 ∧ w 95 28 - w 95 24 + s ≤ w' 95 28 - w' 95 24 ∧ w' 95 33 = w 95 33 + dd ∧ w 95 24 ≤ w' 95 24 ∧ (∀ j : Nat, (j : Int) < 2 * w 95 24 → w' 113 j = w 113 j) ∧ ∀ h, runS (w' 113) (w 95 24).toNat (w' 95 24 - w 95 24).toNat (h + n) = some (h + m)
theorem PS.rf {w : qW} (h : PI w) : PS 0 0 0 0 w w := ⟨h.1, AW.rf h.1, h, Int.le_refl _, by omega, by omega, Int.le_refl _, fun _ _ => rfl, fun h => by rw [Int.sub_self]; rfl⟩
theorem PS.tr {n m a b : Nat} {s t d e : Int} {w w1 w2 : qW} (h : PS n m s d w w1) (h2 : PS a b t e w1 w2) (ha : a ≤ m) : PS n (m - a + b) (s + t) (d + e) w w2 := by
  obtain ⟨x0, x1, x2, x3, x4, x5, x6, x7, x8⟩ := h
  obtain ⟨y0, y1, y2, y3, y4, y5, y6, y7, y8⟩ := h2
  have g0 := zfld x0 (j := 24) (b := (0, 610)) rfl
  have hw : (0 : Int) ≤ w 95 24 := g0.1
  have f0 := zfld x1.1 (j := 24) (b := (0, 610)) rfl
  have f1 : (0 : Int) ≤ w1 95 24 := f0.1
  refine ⟨x0, x1.tr y1 (by decide +kernel), y2, by omega, by omega, by omega, by omega, fun j hj => (y7 j (by omega)).trans (x7 j hj), fun q => ?_⟩
  have e1 : (w2 95 24 - w 95 24).toNat = (w1 95 24 - w 95 24).toNat + (w2 95 24 - w1 95 24).toNat := by omega
  have e2 : runS (w2 113) (w 95 24).toNat (w1 95 24 - w 95 24).toNat (q + n) = some (q + m) := by
    rw [← x8 q]
    exact runS_cong _ (fun j h1 h2 => y7 j (by omega))
  rw [e1, runS_app _ e2, show (w 95 24).toNat + (w1 95 24 - w 95 24).toNat = (w1 95 24).toNat by omega]
  have := y8 (q + (m - a))
  rw [show q + (m - a) + a = q + m by omega] at this
  rw [this]
  congr 1; omega
theorem PS.cast {n m n' m' : Nat} {s d s' d' : Int} {w w1 : qW} (h : PS n m s d w w1) (e1 : n = n') (e2 : m = m') (e3 : s' ≤ s) (e4 : d = d') : PS n' m' s' d' w w1 := by
  subst e1; subst e2; subst e4
  obtain ⟨x0, x1, x2, x3, x4, x5, x6, x7, x8⟩ := h
  exact ⟨x0, x1, x2, x3, by omega, x5, x6, x7, x8⟩
/-- next0 over a token -/
theorem PS.next {w w1 : qW} (hP : PI w) (ht : w 95 27 ≠ 0) (h : NX w w1) : PS 0 0 1 0 w w1 ∧ w 95 28 + 1 ≤ w1 95 28 := by
  obtain ⟨hA, h1, h2, h3⟩ := h.look hP.1
  have e24 : w1 95 24 = w 95 24 := hA.2 95 24 (fun _ => rfl)
  have e33 : w1 95 33 = w 95 33 := hA.2 95 33 (fun _ => rfl)
  have hp := hP.2.2 ht
  refine ⟨⟨hP.1, ⟨hA.1, fun p j hp => hA.2 p j (fun k => ysubm_ok (b := PM) (by decide +kernel) k (hp k))⟩, ⟨hA.1, h2, h3⟩, by omega, by omega, by omega, by omega, fun j hj => hA.2 113 j (fun _ => ymo_far (by decide) (by decide +kernel) j), fun q => ?_⟩, by omega⟩
  rw [e24, Int.sub_self]; rfl
noncomputable def layW (w : qW) (k v : Int) : qW := qup (qup (qup w 113 (2 * (w 95 24).toNat) k) 113 (2 * (w 95 24).toNat + 1) v) 95 24 (w 95 24 + 1)
theorem layW_I {w : qW} {k v : Int} (hI : yInv zgf zga zra zSp w) (hf : w 95 24 ≤ 609) (hk : yin (-2147483648, 2147483647) k) (hv : yin (-2147483648, 2147483647) v) : yInv zgf zga zra zSp (layW w k v) := by
  have g0 := zfld hI (j := 24) (b := (0, 610)) rfl
  have hw : (0 : Int) ≤ w 95 24 := g0.1
  exact zup_f (zup_a (zup_a hI (b := (-2147483648, 2147483647)) rfl rfl hk) (b := (-2147483648, 2147483647)) rfl rfl hv) (b := (0, 610)) rfl rfl rfl ⟨by show (0 : Int) ≤ _; omega, by show _ ≤ (610 : Int); omega⟩
/-- a step is laid -/
theorem PS.lay {w : qW} {k v : Int} {n m : Nat} (hP : PI w) (hf : w 95 24 ≤ 609) (hk : yin (-2147483648, 2147483647) k) (hv : yin (-2147483648, 2147483647) v) (hs : ∀ h, stepH k v (h + n) = some (h + m)) : PS n m (-1) 0 w (layW w k v) := by
  have g0 := zfld hP.1 (j := 24) (b := (0, 610)) rfl
  have hw : (0 : Int) ≤ w 95 24 := g0.1
  have hI := layW_I hP.1 hf hk hv
  have o : ∀ j, j ≠ 24 → layW w k v 95 j = w 95 j := fun j hj => by unfold layW; rw [qup_j hj, qup_ne (by decide), qup_ne (by decide)]
  have e24 : layW w k v 95 24 = w 95 24 + 1 := qup_k
  have e113 : layW w k v 113 = (qup (qup w 113 (2 * (w 95 24).toNat) k) 113 (2 * (w 95 24).toNat + 1) v) 113 := qup_ne (by decide)
  refine ⟨hP.1, ⟨hI, fun p j hp => ?_⟩, ⟨hI, by rw [o 28 (by decide), o 26 (by decide)]; exact hP.2.1, fun z => by rw [o 27 (by decide)] at z; rw [o 28 (by decide), o 26 (by decide)]; exact hP.2.2 z⟩, by rw [o 28 (by decide)]; omega, by rw [o 28 (by decide), e24]; omega, by rw [o 33 (by decide)]; omega, by rw [e24]; omega, fun j hj => ?_, fun q => ?_⟩
  · have h1 : p ≠ 113 := fun z => by subst z; exact absurd (hp (by decide)) (by rw [show ymo 113 j PM = true from rfl]; decide)
    by_cases h2 : p = 95
    · subst h2
      exact o j (fun z => by subst z; exact absurd (hp (by decide)) (by decide))
    · unfold layW; rw [qup_ne h2, qup_ne h1, qup_ne h1]
  · rw [e113, qup_j (by omega), qup_j (by omega)]
  · rw [e24, show (w 95 24 + 1 - w 95 24).toNat = 1 by omega]
    show (match stepH (layW w k v 113 (2 * (w 95 24).toNat)) (layW w k v 113 (2 * (w 95 24).toNat + 1)) (q + n) with
      | some h' => some h'
      | none => none) = _
    rw [e113, qup_k, qup_j (by omega), qup_k, hs]
theorem PS.fs {n m : Nat} {s d : Int} {w w1 : qW} (h : PS n m s d w w1) : w1 95 24 ≤ w1 95 28 - (w 95 28 - w 95 24 + s) := by
  obtain ⟨x0, x1, x2, x3, x4, x5, x6, x7, x8⟩ := h
  omega
theorem PI.b {w : qW} (h : PI w) : 0 ≤ w 95 24 ∧ w 95 24 ≤ 610 ∧ 0 ≤ w 95 28 ∧ w 95 28 ≤ 600 ∧ 0 ≤ w 95 33 ∧ w 95 33 ≤ 8 ∧ 0 ≤ w 95 29 ∧ w 95 29 ≤ 9999 ∧ 0 ≤ w 95 27 ∧ w 95 27 ≤ 355 := by
  have a := zfld h.1 (j := 24) (b := (0, 610)) rfl
  have b := zfld h.1 (j := 28) (b := (0, 600)) rfl
  have c := zfld h.1 (j := 33) (b := (0, 8)) rfl
  have d := zfld h.1 (j := 29) (b := (0, 9999)) rfl
  have e := zfld h.1 (j := 27) (b := (0, 355)) rfl
  exact ⟨a.1, a.2, b.1, b.2, c.1, c.2, d.1, d.2, e.1, e.2⟩
/-- the depth is told anew -/
theorem PS.dep {n m : Nat} {s d d' v : Int} {w w1 : qW} (h : PS n m s d w w1) (h0 : 0 ≤ v) (h8 : v ≤ 8) (e : v = w 95 33 + d') : PS n m s d' w (qup w1 95 33 v) := by
  obtain ⟨x0, x1, x2, x3, x4, x5, x6, x7, x8⟩ := h
  have hI : yInv zgf zga zra zSp (qup w1 95 33 v) := zup_f x1.1 (b := (0, 8)) rfl rfl rfl ⟨h0, h8⟩
  have o : ∀ j, j ≠ 33 → qup w1 95 33 v 95 j = w1 95 j := fun j hj => qup_j hj
  have e113 : qup w1 95 33 v 113 = w1 113 := qup_ne (by decide)
  refine ⟨x0, ⟨hI, fun p j hp => ?_⟩, ⟨hI, by rw [o 28 (by decide), o 26 (by decide)]; exact x2.2.1, fun z => by rw [o 27 (by decide)] at z; rw [o 28 (by decide), o 26 (by decide)]; exact x2.2.2 z⟩, by rw [o 28 (by decide)]; omega, by rw [o 28 (by decide), o 24 (by decide)]; omega, by rw [qup_k]; exact e, by rw [o 24 (by decide)]; omega, fun j hj => by rw [e113]; exact x7 j hj, fun q => by rw [e113, o 24 (by decide)]; exact x8 q⟩
  by_cases h2 : p = 95
  · subst h2
    rw [o j (fun z => by subst z; exact absurd (hp (by decide)) (by decide))]
    exact x1.2 95 j hp
  · rw [qup_ne h2]; exact x1.2 p j hp
theorem AW.bad {w w1 : qW} {k : Int} (h : AW PM w w1) (h0 : 0 ≤ k) (h3 : k ≤ 3) : AW PM w (qup (qup w1 95 30 k) 95 31 (w1 95 28)) := by
  have b := zfld h.1 (j := 28) (b := (0, 600)) rfl
  refine ⟨zup_f (zup_f h.1 (b := (0, 3)) rfl rfl rfl ⟨h0, h3⟩) (b := (0, 600)) rfl rfl rfl b, fun p j hp => ?_⟩
  by_cases h2 : p = 95
  · subst h2
    rw [qup_j (fun z => by subst z; exact absurd (hp (by decide)) (by decide)), qup_j (fun z => by subst z; exact absurd (hp (by decide)) (by decide))]
    exact h.2 95 j hp
  · rw [qup_ne h2, qup_ne h2]; exact h.2 p j hp
theorem K_bad {d : Nat} (hd : 0 ≤ d) (k : Int) (w : qW) (hI : yInv zgf zga zra zSp w) (h0 : 0 ≤ k) (h3 : k ≤ 3) : qG none d 232 0 [(2, 95), (0, k)] [] w 142 (fun (r : qV) (w1 : qW) (n1 : Nat) => r = (0, 0) ∧ w1 = qup (qup w 95 30 k) 95 31 (w 95 28) ∧ n1 = 142) := by
  generalize hQ9 : (fun (r : qV) (w1 : qW) (n1 : Nat) => r = (0, 0) ∧ w1 = qup (qup w 95 30 k) 95 31 (w 95 28) ∧ n1 = 142) = Q9
  refine qG.blk 8 (pc' := 14) (ls' := [(2, 95), (0, k)]) (st' := [(0, 0)]) (w' := (qup (qup w 95 30 k) 95 31 (w 95 28))) (n' := 142) rfl ?_
  refine qG.ret rfl (by first | rfl | exact decide_eq_true (by omega)) ?_
  subst hQ9
  exact ⟨rfl, rfl, rfl⟩
theorem K_lay {d : Nat} (hd : 0 ≤ d) (k v : Int) (w : qW) (hI : yInv zgf zga zra zSp w) (hf : w 95 24 ≤ 609) : qG none d 235 0 [(2, 95), (0, k), (0, v)] [] w 142 (fun (r : qV) (w1 : qW) (n1 : Nat) => r = (9, 0) ∧ w1 = layW w k v ∧ n1 = 142) := by
  generalize hQ9 : (fun (r : qV) (w1 : qW) (n1 : Nat) => r = (9, 0) ∧ w1 = layW w k v ∧ n1 = 142) = Q9
  have h24 := zfld hI (j := 24) (b := (0, 610)) rfl
  have a24 : (0 : Int) ≤ w 95 24 := h24.1
  refine qG.blk 2 (pc' := 4) (ls' := [(2, 95), (0, k), (0, v)]) (st' := [(2, w 95 19)]) (w' := w) (n' := 142) rfl ?_
  rw [show w 95 19 = 113 from zref hI rfl rfl]
  refine qG.blk 4 (pc' := 10) (ls' := [(2, 95), (0, k), (0, v)]) (st' := [(0, wrp (2 * (w 95 24))), (2, 113)]) (w' := w) (n' := 142) rfl ?_
  rw [show wrp (2 * (w 95 24)) = ((2 * (w 95 24).toNat : Nat) : Int) from by rw [wrp_id (by omega) (by omega)]; omega]
  refine qG.blk 1 (pc' := 11) (ls' := [(2, 95), (0, k), (0, v)]) (st' := [(0, k), (0, ((2 * (w 95 24).toNat : Nat) : Int)), (2, 113)]) (w' := w) (n' := 142) rfl ?_
  refine qG.ist (m := 1220) rfl rfl (by omega) (by decide) ?_
  show qG none d 235 12 [(2, 95), (0, k), (0, v)] [] (qup w 113 (2 * (w 95 24).toNat) k) 142 Q9
  refine qG.blk 2 (pc' := 16) (ls' := [(2, 95), (0, k), (0, v)]) (st' := [(2, w 95 19)]) (w' := (qup w 113 (2 * (w 95 24).toNat) k)) (n' := 142) rfl ?_
  rw [show w 95 19 = 113 from zref hI rfl rfl]
  refine qG.blk 4 (pc' := 22) (ls' := [(2, 95), (0, k), (0, v)]) (st' := [(0, wrp (2 * (w 95 24))), (2, 113)]) (w' := (qup w 113 (2 * (w 95 24).toNat) k)) (n' := 142) rfl ?_
  rw [show wrp (2 * (w 95 24)) = ((2 * (w 95 24).toNat : Nat) : Int) from by rw [wrp_id (by omega) (by omega)]; omega]
  refine qG.blk 2 (pc' := 24) (ls' := [(2, 95), (0, k), (0, v)]) (st' := [(0, wrp (((2 * (w 95 24).toNat : Nat) : Int) + 1)), (2, 113)]) (w' := (qup w 113 (2 * (w 95 24).toNat) k)) (n' := 142) rfl ?_
  rw [show wrp (((2 * (w 95 24).toNat : Nat) : Int) + 1) = ((2 * (w 95 24).toNat + 1 : Nat) : Int) from by rw [wrp_id (by omega) (by omega)]; omega]
  refine qG.blk 1 (pc' := 25) (ls' := [(2, 95), (0, k), (0, v)]) (st' := [(0, v), (0, ((2 * (w 95 24).toNat + 1 : Nat) : Int)), (2, 113)]) (w' := (qup w 113 (2 * (w 95 24).toNat) k)) (n' := 142) rfl ?_
  refine qG.ist (m := 1220) rfl rfl (by omega) (by decide) ?_
  show qG none d 235 26 [(2, 95), (0, k), (0, v)] [] (qup (qup w 113 (2 * (w 95 24).toNat) k) 113 (2 * (w 95 24).toNat + 1) v) 142 Q9
  refine qG.blk 5 (pc' := 33) (ls' := [(2, 95), (0, k), (0, v)]) (st' := [(0, wrp ((w 95 24) + 1)), (2, 95)]) (w' := (qup (qup w 113 (2 * (w 95 24).toNat) k) 113 (2 * (w 95 24).toNat + 1) v)) (n' := 142) rfl ?_
  rw [show wrp ((w 95 24) + 1) = w 95 24 + 1 from wrp_id (by omega) (by omega)]
  refine qG.blk 1 (pc' := 36) (ls' := [(2, 95), (0, k), (0, v)]) (st' := []) (w' := (qup (qup (qup w 113 (2 * (w 95 24).toNat) k) 113 (2 * (w 95 24).toNat + 1) v) 95 24 (w 95 24 + 1))) (n' := 142) rfl ?_
  refine qG.retv rfl rfl ?_
  subst hQ9
  exact ⟨rfl, rfl, rfl⟩
theorem K_need {d : Nat} (hd : 8 ≤ d) (t : Int) (ht : t ≠ 0) (w : qW) (hP : PI w) : qG none d 233 0 [(2, 95), (0, t)] [] w 142 (fun (r : qV) (w1 : qW) (n1 : Nat) => n1 = 142 ∧ ((r = (0, 0) ∧ AW PM w w1) ∨ (r = (0, 1) ∧ PS 0 0 1 0 w w1))) := by
  generalize hQ9 : (fun (r : qV) (w1 : qW) (n1 : Nat) => n1 = 142 ∧ ((r = (0, 0) ∧ AW PM w w1) ∨ (r = (0, 1) ∧ PS 0 0 1 0 w w1))) = Q9
  have hb0 := hP.b
  obtain ⟨d, rfl⟩ : ∃ d9, d = d9 + 1 := ⟨d - 1, by omega⟩
  refine qG.blk 3 (pc' := 5) (ls' := [(2, 95), (0, t)]) (st' := [(0, t), (0, w 95 27)]) (w' := w) (n' := 142) rfl ?_
  refine qG.br (P := w 95 27 = t) (pc1 := 14) (pc2 := 8) (st1 := []) rfl (fun h1 => ?_) (fun h1 => ?_)
  · skip
    refine qG.blk 1 (pc' := 15) (ls' := [(2, 95), (0, t)]) (st' := [(2, 95)]) (w' := w) (n' := 142) rfl ?_
    refine qG.call (t := 231) (na := 1) (sk := 1) (md := 1) (ls1 := [(2, 95), (9, 0)]) (r1 := []) rfl rfl rfl rfl rfl (K_next0 (by omega) w hP.1) ?_
    rintro _ w2 _ ⟨rfl, rfl, hX2⟩
    have hn2 := PS.next hP (by omega) hX2
    have hP2 := PS.tr (PS.rf hP) hn2.1 (by omega)
    have hI2 : PI w2 := hn2.1.2.2.1
    have hg2 := hn2.2
    have hb2 := hI2.b
    have hq2 := hP2.fs
    have hd2 := hP2.2.2.2.2.2.1
    show qG none (d + 1) 233 18 [(2, 95), (0, t)] [] w2 142 Q9
    refine qG.blk 1 (pc' := 19) (ls' := [(2, 95), (0, t)]) (st' := [(0, 1)]) (w' := w2) (n' := 142) rfl ?_
    refine qG.ret rfl (by first | rfl | exact decide_eq_true (by omega)) ?_
    subst hQ9
    exact ⟨rfl, .inr ⟨rfl, hP2.cast (by omega) (by omega) (by omega) (by omega)⟩⟩
  · skip
    refine qG.blk 2 (pc' := 10) (ls' := [(2, 95), (0, t)]) (st' := [(0, 1), (2, 95)]) (w' := w) (n' := 142) rfl ?_
    refine qG.call (t := 232) (na := 2) (sk := 1) (md := 1) (ls1 := [(2, 95), (0, 1)]) (r1 := []) rfl rfl rfl rfl rfl (K_bad (by omega) 1 w hP.1 (by decide) (by decide)) ?_
    rintro _ _ _ ⟨rfl, rfl, rfl⟩
    show qG none (d + 1) 233 13 [(2, 95), (0, t)] [(0, 0)] (qup (qup w 95 30 1) 95 31 (w 95 28)) 142 Q9
    refine qG.ret rfl (by first | rfl | exact decide_eq_true (by omega)) ?_
    subst hQ9
    exact ⟨rfl, .inl ⟨rfl, AW.bad (PS.rf hP).2.1 (by decide) (by decide)⟩⟩
theorem K_number {d : Nat} (hd : 8 ≤ d) (a b : Int) (w : qW) (hP : PI w) : qG none d 234 0 [(2, 95), (0, a), (0, b)] [] w 142 (fun (r : qV) (w1 : qW) (n1 : Nat) => n1 = 142 ∧ ((r = (0, 0) ∧ AW PM w w1) ∨ (r = (0, 1) ∧ a ≤ w 95 29 ∧ w 95 29 ≤ b ∧ PS 0 0 1 0 w w1))) := by
  generalize hQ9 : (fun (r : qV) (w1 : qW) (n1 : Nat) => n1 = 142 ∧ ((r = (0, 0) ∧ AW PM w w1) ∨ (r = (0, 1) ∧ a ≤ w 95 29 ∧ w 95 29 ≤ b ∧ PS 0 0 1 0 w w1))) = Q9
  have hb0 := hP.b
  obtain ⟨d, rfl⟩ : ∃ d9, d = d9 + 1 := ⟨d - 1, by omega⟩
  refine qG.blk 3 (pc' := 5) (ls' := [(2, 95), (0, a), (0, b)]) (st' := [(0, 2), (0, w 95 27)]) (w' := w) (n' := 142) rfl ?_
  refine qG.br (P := w 95 27 = 2) (pc1 := 14) (pc2 := 8) (st1 := []) rfl (fun h1 => ?_) (fun h1 => ?_)
  · skip
    refine qG.blk 4 (pc' := 20) (ls' := [(2, 95), (0, a), (0, b)]) (st' := [(0, b), (0, a), (0, w 95 29)]) (w' := w) (n' := 142) rfl ?_
    refine qG.call (t := 206) (na := 3) (sk := 0) (md := 0) (ls1 := [(0, w 95 29), (0, a), (0, b)]) (r1 := []) rfl rfl rfl rfl rfl (K_isIn (by omega) _ _ _ _) ?_
    rintro _ w7 _ ⟨rfl, hw7, rfl⟩
    rw [hw7]
    show qG none (d + 1) 234 23 [(2, 95), (0, a), (0, b)] [(0, isInV (w 95 29) a b)] w 142 Q9
    refine qG.br (P := isInV (w 95 29) a b = 0) (pc1 := 26) (pc2 := 32) (st1 := []) rfl (fun hin => ?_) (fun hin => ?_)
    · skip
      refine qG.blk 2 (pc' := 28) (ls' := [(2, 95), (0, a), (0, b)]) (st' := [(0, 2), (2, 95)]) (w' := w) (n' := 142) rfl ?_
      refine qG.call (t := 232) (na := 2) (sk := 1) (md := 1) (ls1 := [(2, 95), (0, 2)]) (r1 := []) rfl rfl rfl rfl rfl (K_bad (by omega) 2 w hP.1 (by decide) (by decide)) ?_
      rintro _ _ _ ⟨rfl, rfl, rfl⟩
      show qG none (d + 1) 234 31 [(2, 95), (0, a), (0, b)] [(0, 0)] (qup (qup w 95 30 2) 95 31 (w 95 28)) 142 Q9
      refine qG.ret rfl (by first | rfl | exact decide_eq_true (by omega)) ?_
      subst hQ9
      exact ⟨rfl, .inl ⟨rfl, AW.bad (PS.rf hP).2.1 (by decide) (by decide)⟩⟩
    · skip
      refine qG.blk 1 (pc' := 33) (ls' := [(2, 95), (0, a), (0, b)]) (st' := [(2, 95)]) (w' := w) (n' := 142) rfl ?_
      refine qG.call (t := 231) (na := 1) (sk := 1) (md := 1) (ls1 := [(2, 95), (9, 0)]) (r1 := []) rfl rfl rfl rfl rfl (K_next0 (by omega) w hP.1) ?_
      rintro _ w2 _ ⟨rfl, rfl, hX2⟩
      have hn2 := PS.next hP (by omega) hX2
      have hP2 := PS.tr (PS.rf hP) hn2.1 (by omega)
      have hI2 : PI w2 := hn2.1.2.2.1
      have hg2 := hn2.2
      have hb2 := hI2.b
      have hq2 := hP2.fs
      have hd2 := hP2.2.2.2.2.2.1
      show qG none (d + 1) 234 36 [(2, 95), (0, a), (0, b)] [] w2 142 Q9
      refine qG.blk 1 (pc' := 37) (ls' := [(2, 95), (0, a), (0, b)]) (st' := [(0, 1)]) (w' := w2) (n' := 142) rfl ?_
      refine qG.ret rfl (by first | rfl | exact decide_eq_true (by omega)) ?_
      subst hQ9
      exact ⟨rfl, .inr ⟨rfl, by unfold isInV at hin; (repeat' split at hin) <;> omega, by unfold isInV at hin; (repeat' split at hin) <;> omega, hP2.cast (by omega) (by omega) (by omega) (by omega)⟩⟩
  · skip
    refine qG.blk 2 (pc' := 10) (ls' := [(2, 95), (0, a), (0, b)]) (st' := [(0, 1), (2, 95)]) (w' := w) (n' := 142) rfl ?_
    refine qG.call (t := 232) (na := 2) (sk := 1) (md := 1) (ls1 := [(2, 95), (0, 1)]) (r1 := []) rfl rfl rfl rfl rfl (K_bad (by omega) 1 w hP.1 (by decide) (by decide)) ?_
    rintro _ _ _ ⟨rfl, rfl, rfl⟩
    show qG none (d + 1) 234 13 [(2, 95), (0, a), (0, b)] [(0, 0)] (qup (qup w 95 30 1) 95 31 (w 95 28)) 142 Q9
    refine qG.ret rfl (by first | rfl | exact decide_eq_true (by omega)) ?_
    subst hQ9
    exact ⟨rfl, .inl ⟨rfl, AW.bad (PS.rf hP).2.1 (by decide) (by decide)⟩⟩
theorem K_opens {d : Nat} (hd : 8 ≤ d) (w : qW) (ht : w 95 27 ≠ 0) (hP : PI w) : qG none d 236 0 [(2, 95)] [] w 142 (fun (r : qV) (w1 : qW) (n1 : Nat) => n1 = 142 ∧ ((r = (0, 0) ∧ AW PM w w1) ∨ (r = (0, 1) ∧ PS 0 0 1 1 w w1))) := by
  generalize hQ9 : (fun (r : qV) (w1 : qW) (n1 : Nat) => n1 = 142 ∧ ((r = (0, 0) ∧ AW PM w w1) ∨ (r = (0, 1) ∧ PS 0 0 1 1 w w1))) = Q9
  have hb0 := hP.b
  obtain ⟨d, rfl⟩ : ∃ d9, d = d9 + 1 := ⟨d - 1, by omega⟩
  refine qG.blk 3 (pc' := 6) (ls' := [(2, 95)]) (st' := [(0, 8), (0, w 95 33)]) (w' := w) (n' := 142) rfl ?_
  refine qG.br (P := w 95 33 = 8) (pc1 := 9) (pc2 := 15) (st1 := []) rfl (fun h1 => ?_) (fun h1 => ?_)
  · skip
    refine qG.blk 2 (pc' := 11) (ls' := [(2, 95)]) (st' := [(0, 3), (2, 95)]) (w' := w) (n' := 142) rfl ?_
    refine qG.call (t := 232) (na := 2) (sk := 1) (md := 1) (ls1 := [(2, 95), (0, 3)]) (r1 := []) rfl rfl rfl rfl rfl (K_bad (by omega) 3 w hP.1 (by decide) (by decide)) ?_
    rintro _ _ _ ⟨rfl, rfl, rfl⟩
    show qG none (d + 1) 236 14 [(2, 95)] [(0, 0)] (qup (qup w 95 30 3) 95 31 (w 95 28)) 142 Q9
    refine qG.ret rfl (by first | rfl | exact decide_eq_true (by omega)) ?_
    subst hQ9
    exact ⟨rfl, .inl ⟨rfl, AW.bad (PS.rf hP).2.1 (by decide) (by decide)⟩⟩
  · skip
    refine qG.blk 5 (pc' := 22) (ls' := [(2, 95)]) (st' := [(0, wrp ((w 95 33) + 1)), (2, 95)]) (w' := w) (n' := 142) rfl ?_
    rw [show wrp ((w 95 33) + 1) = w 95 33 + 1 from wrp_id (by omega) (by omega)]
    refine qG.blk 2 (pc' := 26) (ls' := [(2, 95)]) (st' := [(2, 95)]) (w' := (qup w 95 33 (w 95 33 + 1))) (n' := 142) rfl ?_
    refine qG.call (t := 231) (na := 1) (sk := 1) (md := 1) (ls1 := [(2, 95), (9, 0)]) (r1 := []) rfl rfl rfl rfl rfl (K_next0 (by omega) (qup w 95 33 (w 95 33 + 1)) (PS.dep (d' := 1) (PS.rf hP) (v := w 95 33 + 1) (by omega) (by omega) (by omega)).2.2.1.1) ?_
    rintro _ w2 _ ⟨rfl, rfl, hX2⟩
    have hn2 := PS.next (PS.dep (d' := 1) (PS.rf hP) (v := w 95 33 + 1) (by omega) (by omega) (by omega)).2.2.1 (by rw [qup_j (by decide)]; omega) hX2
    have hP2 := PS.tr (PS.dep (d' := 1) (PS.rf hP) (v := w 95 33 + 1) (by omega) (by omega) (by omega)) hn2.1 (by omega)
    have hI2 : PI w2 := hn2.1.2.2.1
    have hg2 := hn2.2
    have hb2 := hI2.b
    have hq2 := hP2.fs
    have hd2 := hP2.2.2.2.2.2.1
    show qG none (d + 1) 236 29 [(2, 95)] [] w2 142 Q9
    refine qG.blk 1 (pc' := 30) (ls' := [(2, 95)]) (st' := [(0, 1)]) (w' := w2) (n' := 142) rfl ?_
    refine qG.ret rfl (by first | rfl | exact decide_eq_true (by omega)) ?_
    subst hQ9
    exact ⟨rfl, .inr ⟨rfl, hP2.cast (by omega) (by omega) (by omega) (by omega)⟩⟩
theorem K_unit {d : Nat} (hd : 9 ≤ d) (w : qW) (hP : PI w) (hD : w 95 24 ≤ w 95 28) : qG none d 239 0 [(2, 95), (9, 0), (9, 0)] [] w 142 (fun (r : qV) (w1 : qW) (n1 : Nat) => n1 = 142 ∧ ((r = (0, 0) ∧ AW PM w w1) ∨ (r = (0, 1) ∧ PS 0 1 0 0 w w1))) := by
  generalize hQ9 : (fun (r : qV) (w1 : qW) (n1 : Nat) => n1 = 142 ∧ ((r = (0, 0) ∧ AW PM w w1) ∨ (r = (0, 1) ∧ PS 0 1 0 0 w w1))) = Q9
  have hb0 := hP.b
  obtain ⟨d, rfl⟩ : ∃ d9, d = d9 + 1 := ⟨d - 1, by omega⟩
  refine qG.blk 5 (pc' := 7) (ls' := [(2, 95), (0, w 95 27), (9, 0)]) (st' := [(0, 2), (0, w 95 27)]) (w' := w) (n' := 142) rfl ?_
  refine qG.br (P := w 95 27 = 2) (pc1 := 10) (pc2 := 25) (st1 := []) rfl (fun ht2 => ?_) (fun ht2 => ?_)
  · skip
    refine qG.blk 4 (pc' := 16) (ls' := [(2, 95), (0, w 95 27), (9, 0)]) (st' := [(0, w 95 29), (0, 0), (2, 95)]) (w' := w) (n' := 142) rfl ?_
    refine qG.call (t := 235) (na := 3) (sk := 1) (md := 1) (ls1 := [(2, 95), (0, 0), (0, w 95 29)]) (r1 := []) rfl rfl rfl rfl rfl (K_lay (by omega) 0 (w 95 29) w hP.1 (by first | omega | (rw [qup_j (by decide)]; omega))) ?_
    rintro _ _ _ ⟨rfl, rfl, rfl⟩
    have hl1 := PS.lay (n := 0) (m := 1) hP (by first | omega | (rw [qup_j (by decide)]; omega)) (k := 0) (v := w 95 29) ⟨by show (-2147483648 : Int) ≤ _; omega, by show _ ≤ (2147483647 : Int); omega⟩ ⟨by show (-2147483648 : Int) ≤ _; omega, by show _ ≤ (2147483647 : Int); omega⟩ (fun h => by unfold stepH; rw [if_pos (by omega)])
    have hP1 := PS.tr (PS.rf hP) hl1 (by omega)
    have hI1 : PI (layW w 0 (w 95 29)) := hl1.2.2.1
    have hb1 := hI1.b
    have hq1 := hP1.fs
    have hd1 := hP1.2.2.2.2.2.1
    have hm1 := hl1.2.2.2.1
    show qG none (d + 1) 239 19 [(2, 95), (0, w 95 27), (9, 0)] [] (layW w 0 (w 95 29)) 142 Q9
    refine qG.blk 1 (pc' := 20) (ls' := [(2, 95), (0, w 95 27), (9, 0)]) (st' := [(2, 95)]) (w' := (layW w 0 (w 95 29))) (n' := 142) rfl ?_
    refine qG.call (t := 231) (na := 1) (sk := 1) (md := 1) (ls1 := [(2, 95), (9, 0)]) (r1 := []) rfl rfl rfl rfl rfl (K_next0 (by omega) (layW w 0 (w 95 29)) hI1.1) ?_
    rintro _ w2 _ ⟨rfl, rfl, hX2⟩
    have hn2 := PS.next hI1 (by unfold layW; rw [qup_j (by decide), qup_ne (by decide), qup_ne (by decide)]; omega) hX2
    have hP2 := PS.tr hP1 hn2.1 (by omega)
    have hI2 : PI w2 := hn2.1.2.2.1
    have hg2 := hn2.2
    have hb2 := hI2.b
    have hq2 := hP2.fs
    have hd2 := hP2.2.2.2.2.2.1
    show qG none (d + 1) 239 23 [(2, 95), (0, w 95 27), (9, 0)] [] w2 142 Q9
    refine qG.blk 1 (pc' := 24) (ls' := [(2, 95), (0, w 95 27), (9, 0)]) (st' := [(0, 1)]) (w' := w2) (n' := 142) rfl ?_
    refine qG.ret rfl (by first | rfl | exact decide_eq_true (by omega)) ?_
    subst hQ9
    exact ⟨rfl, .inr ⟨rfl, hP2.cast (by omega) (by omega) (by omega) (by omega)⟩⟩
  · skip
    refine qG.blk 3 (pc' := 30) (ls' := [(2, 95), (0, w 95 27), (9, 0)]) (st' := [(0, 47), (0, 41), (0, w 95 27)]) (w' := w) (n' := 142) rfl ?_
    refine qG.call (t := 206) (na := 3) (sk := 0) (md := 0) (ls1 := [(0, w 95 27), (0, 41), (0, 47)]) (r1 := []) rfl rfl rfl rfl rfl (K_isIn (by omega) _ _ _ _) ?_
    rintro _ w7 _ ⟨rfl, hw7, rfl⟩
    rw [hw7]
    show qG none (d + 1) 239 33 [(2, 95), (0, w 95 27), (9, 0)] [(0, isInV (w 95 27) 41 47)] w 142 Q9
    refine qG.br (P := isInV (w 95 27) 41 47 = 0) (pc1 := 36) (pc2 := 42) (st1 := []) rfl (fun hin => ?_) (fun hin => ?_)
    · skip
      refine qG.blk 2 (pc' := 38) (ls' := [(2, 95), (0, w 95 27), (9, 0)]) (st' := [(0, 1), (2, 95)]) (w' := w) (n' := 142) rfl ?_
      refine qG.call (t := 232) (na := 2) (sk := 1) (md := 1) (ls1 := [(2, 95), (0, 1)]) (r1 := []) rfl rfl rfl rfl rfl (K_bad (by omega) 1 w hP.1 (by decide) (by decide)) ?_
      rintro _ _ _ ⟨rfl, rfl, rfl⟩
      show qG none (d + 1) 239 41 [(2, 95), (0, w 95 27), (9, 0)] [(0, 0)] (qup (qup w 95 30 1) 95 31 (w 95 28)) 142 Q9
      refine qG.ret rfl (by first | rfl | exact decide_eq_true (by omega)) ?_
      subst hQ9
      exact ⟨rfl, .inl ⟨rfl, AW.bad (PS.rf hP).2.1 (by decide) (by decide)⟩⟩
    · skip
      have hin2 : 41 ≤ w 95 27 ∧ w 95 27 ≤ 47 := by unfold isInV at hin; (repeat' split at hin) <;> omega
      refine qG.blk 1 (pc' := 43) (ls' := [(2, 95), (0, w 95 27), (9, 0)]) (st' := [(2, 95)]) (w' := w) (n' := 142) rfl ?_
      refine qG.call (t := 231) (na := 1) (sk := 1) (md := 1) (ls1 := [(2, 95), (9, 0)]) (r1 := []) rfl rfl rfl rfl rfl (K_next0 (by omega) w hP.1) ?_
      rintro _ w3 _ ⟨rfl, rfl, hX3⟩
      have hn3 := PS.next hP (by omega) hX3
      have hP3 := PS.tr (PS.rf hP) hn3.1 (by omega)
      have hI3 : PI w3 := hn3.1.2.2.1
      have hg3 := hn3.2
      have hb3 := hI3.b
      have hq3 := hP3.fs
      have hd3 := hP3.2.2.2.2.2.1
      show qG none (d + 1) 239 46 [(2, 95), (0, w 95 27), (9, 0)] [] w3 142 Q9
      refine qG.blk 5 (pc' := 54) (ls' := [(2, 95), (0, w 95 27), (0, w3 95 29)]) (st' := [(0, 43), (0, w 95 27)]) (w' := w3) (n' := 142) rfl ?_
      refine qG.br (P := w 95 27 < 43) (pc1 := 57) (pc2 := 69) (st1 := []) rfl (fun ht43 => ?_) (fun ht43 => ?_)
      · skip
        refine qG.blk 3 (pc' := 61) (ls' := [(2, 95), (0, w 95 27), (0, w3 95 29)]) (st' := [(0, 15), (0, 0), (2, 95)]) (w' := w3) (n' := 142) rfl ?_
        refine qG.call (t := 234) (na := 3) (sk := 1) (md := 1) (ls1 := [(2, 95), (0, 0), (0, 15)]) (r1 := []) rfl rfl rfl rfl rfl (K_number (by omega) 0 15 w3 hI3) ?_
        rintro _ w4 _ ⟨rfl, ⟨rfl, hA4⟩ | ⟨rfl, hlo4, hhi4, hS4⟩⟩
        · skip
          show qG none (d + 1) 239 64 [(2, 95), (0, w 95 27), (0, w3 95 29)] [(0, 0)] w4 142 Q9
          have hBAD := hP3.2.1.tr hA4 (by decide +kernel)
          refine qG.br (P := (0 : Int) = 0) (pc1 := 67) (pc2 := 69) (st1 := []) rfl (fun h5 => ?_) (fun h5 => ?_)
          · skip
            refine qG.blk 1 (pc' := 68) (ls' := [(2, 95), (0, w 95 27), (0, w3 95 29)]) (st' := [(0, 0)]) (w' := w4) (n' := 142) rfl ?_
            refine qG.ret rfl (by first | rfl | exact decide_eq_true (by omega)) ?_
            subst hQ9
            exact ⟨rfl, .inl ⟨rfl, hBAD⟩⟩
          · exact absurd h5 (by decide)
        · skip
          show qG none (d + 1) 239 64 [(2, 95), (0, w 95 27), (0, w3 95 29)] [(0, 1)] w4 142 Q9
          have hP4 := PS.tr hP3 hS4 (by omega)
          have hI4 : PI w4 := hS4.2.2.1
          have hb4 := hI4.b
          have hq4 := hP4.fs
          have hd4 := hP4.2.2.2.2.2.1
          have hm4 := hS4.2.2.2.1
          refine qG.br (P := (1 : Int) = 0) (pc1 := 67) (pc2 := 69) (st1 := []) rfl (fun h6 => ?_) (fun h6 => ?_)
          · exact absurd h6 (by decide)
          · skip
            refine qG.blk 4 (pc' := 74) (ls' := [(2, 95), (0, w 95 27), (0, w3 95 29)]) (st' := [(0, wrp ((w 95 27) - 40)), (2, 95)]) (w' := w4) (n' := 142) rfl ?_
            rw [show wrp ((w 95 27) - 40) = w 95 27 - 40 from wrp_id (by omega) (by omega)]
            refine qG.blk 1 (pc' := 75) (ls' := [(2, 95), (0, w 95 27), (0, w3 95 29)]) (st' := [(0, w3 95 29), (0, w 95 27 - 40), (2, 95)]) (w' := w4) (n' := 142) rfl ?_
            refine qG.call (t := 235) (na := 3) (sk := 1) (md := 1) (ls1 := [(2, 95), (0, w 95 27 - 40), (0, w3 95 29)]) (r1 := []) rfl rfl rfl rfl rfl (K_lay (by omega) (w 95 27 - 40) (w3 95 29) w4 hI4.1 (by first | omega | (rw [qup_j (by decide)]; omega))) ?_
            rintro _ _ _ ⟨rfl, rfl, rfl⟩
            have hl7 := PS.lay (n := 0) (m := 1) hI4 (by first | omega | (rw [qup_j (by decide)]; omega)) (k := w 95 27 - 40) (v := w3 95 29) ⟨by show (-2147483648 : Int) ≤ _; omega, by show _ ≤ (2147483647 : Int); omega⟩ ⟨by show (-2147483648 : Int) ≤ _; omega, by show _ ≤ (2147483647 : Int); omega⟩ (fun h => by unfold stepH; rw [if_pos (by omega)])
            have hP7 := PS.tr hP4 hl7 (by omega)
            have hI7 : PI (layW w4 (w 95 27 - 40) (w3 95 29)) := hl7.2.2.1
            have hb7 := hI7.b
            have hq7 := hP7.fs
            have hd7 := hP7.2.2.2.2.2.1
            have hm7 := hl7.2.2.2.1
            show qG none (d + 1) 239 78 [(2, 95), (0, w 95 27), (0, w3 95 29)] [] (layW w4 (w 95 27 - 40) (w3 95 29)) 142 Q9
            refine qG.blk 1 (pc' := 79) (ls' := [(2, 95), (0, w 95 27), (0, w3 95 29)]) (st' := [(0, 1)]) (w' := (layW w4 (w 95 27 - 40) (w3 95 29))) (n' := 142) rfl ?_
            refine qG.ret rfl (by first | rfl | exact decide_eq_true (by omega)) ?_
            subst hQ9
            exact ⟨rfl, .inr ⟨rfl, hP7.cast (by omega) (by omega) (by omega) (by omega)⟩⟩
      · skip
        refine qG.blk 4 (pc' := 74) (ls' := [(2, 95), (0, w 95 27), (0, w3 95 29)]) (st' := [(0, wrp ((w 95 27) - 40)), (2, 95)]) (w' := w3) (n' := 142) rfl ?_
        rw [show wrp ((w 95 27) - 40) = w 95 27 - 40 from wrp_id (by omega) (by omega)]
        refine qG.blk 1 (pc' := 75) (ls' := [(2, 95), (0, w 95 27), (0, w3 95 29)]) (st' := [(0, w3 95 29), (0, w 95 27 - 40), (2, 95)]) (w' := w3) (n' := 142) rfl ?_
        refine qG.call (t := 235) (na := 3) (sk := 1) (md := 1) (ls1 := [(2, 95), (0, w 95 27 - 40), (0, w3 95 29)]) (r1 := []) rfl rfl rfl rfl rfl (K_lay (by omega) (w 95 27 - 40) (w3 95 29) w3 hI3.1 (by first | omega | (rw [qup_j (by decide)]; omega))) ?_
        rintro _ _ _ ⟨rfl, rfl, rfl⟩
        have hl8 := PS.lay (n := 0) (m := 1) hI3 (by first | omega | (rw [qup_j (by decide)]; omega)) (k := w 95 27 - 40) (v := w3 95 29) ⟨by show (-2147483648 : Int) ≤ _; omega, by show _ ≤ (2147483647 : Int); omega⟩ ⟨by show (-2147483648 : Int) ≤ _; omega, by show _ ≤ (2147483647 : Int); omega⟩ (fun h => by unfold stepH; rw [if_pos (by omega)])
        have hP8 := PS.tr hP3 hl8 (by omega)
        have hI8 : PI (layW w3 (w 95 27 - 40) (w3 95 29)) := hl8.2.2.1
        have hb8 := hI8.b
        have hq8 := hP8.fs
        have hd8 := hP8.2.2.2.2.2.1
        have hm8 := hl8.2.2.2.1
        show qG none (d + 1) 239 78 [(2, 95), (0, w 95 27), (0, w3 95 29)] [] (layW w3 (w 95 27 - 40) (w3 95 29)) 142 Q9
        refine qG.blk 1 (pc' := 79) (ls' := [(2, 95), (0, w 95 27), (0, w3 95 29)]) (st' := [(0, 1)]) (w' := (layW w3 (w 95 27 - 40) (w3 95 29))) (n' := 142) rfl ?_
        refine qG.ret rfl (by first | rfl | exact decide_eq_true (by omega)) ?_
        subst hQ9
        exact ⟨rfl, .inr ⟨rfl, hP8.cast (by omega) (by omega) (by omega) (by omega)⟩⟩
theorem K_product {d : Nat} (hd : 10 ≤ d) (w : qW) (hP : PI w) (hD : w 95 24 ≤ w 95 28) : qG none d 238 0 [(2, 95), (9, 0), (9, 0)] [] w 142 (fun (r : qV) (w1 : qW) (n1 : Nat) => n1 = 142 ∧ ((r = (0, 0) ∧ AW PM w w1) ∨ (r = (0, 1) ∧ PS 0 1 0 0 w w1))) := by
  generalize hQ9 : (fun (r : qV) (w1 : qW) (n1 : Nat) => n1 = 142 ∧ ((r = (0, 0) ∧ AW PM w w1) ∨ (r = (0, 1) ∧ PS 0 1 0 0 w w1))) = Q9
  have hb0 := hP.b
  obtain ⟨d, rfl⟩ : ∃ d9, d = d9 + 1 := ⟨d - 1, by omega⟩
  refine qG.blk 1 (pc' := 1) (ls' := [(2, 95), (9, 0), (9, 0)]) (st' := [(2, 95)]) (w' := w) (n' := 142) rfl ?_
  refine qG.call (t := 239) (na := 1) (sk := 1) (md := 1) (ls1 := [(2, 95), (9, 0), (9, 0)]) (r1 := []) rfl rfl rfl rfl rfl (K_unit (by omega) w hP (by omega)) ?_
  rintro _ w1 _ ⟨rfl, ⟨rfl, hA1⟩ | ⟨rfl, hS1⟩⟩
  · skip
    show qG none (d + 1) 238 4 [(2, 95), (9, 0), (9, 0)] [(0, 0)] w1 142 Q9
    have hBAD := (PS.rf hP).2.1.tr hA1 (by decide +kernel)
    refine qG.br (P := (0 : Int) = 0) (pc1 := 7) (pc2 := 9) (st1 := []) rfl (fun h2 => ?_) (fun h2 => ?_)
    · skip
      refine qG.blk 1 (pc' := 8) (ls' := [(2, 95), (9, 0), (9, 0)]) (st' := [(0, 0)]) (w' := w1) (n' := 142) rfl ?_
      refine qG.ret rfl (by first | rfl | exact decide_eq_true (by omega)) ?_
      subst hQ9
      exact ⟨rfl, .inl ⟨rfl, hBAD⟩⟩
    · exact absurd h2 (by decide)
  · skip
    show qG none (d + 1) 238 4 [(2, 95), (9, 0), (9, 0)] [(0, 1)] w1 142 Q9
    have hP1 := PS.tr (PS.rf hP) hS1 (by omega)
    have hI1 : PI w1 := hS1.2.2.1
    have hb1 := hI1.b
    have hq1 := hP1.fs
    have hd1 := hP1.2.2.2.2.2.1
    have hm1 := hS1.2.2.2.1
    refine qG.br (P := (1 : Int) = 0) (pc1 := 7) (pc2 := 9) (st1 := []) rfl (fun h3 => ?_) (fun h3 => ?_)
    · exact absurd h3 (by decide)
    · skip
      have L9 : ∀ (m9 : Nat) (q1 : qV) (q2 : qV) (wL : qW), (600 - wL 95 28).toNat = m9 → (PS 0 1 0 0 w wL) → qG none (d + 1) 238 9 [(2, 95), q1, q2] [] wL 142 Q9 := by
        intro m9
        induction m9 using Nat.strongRecOn with
        | ind m9 ih9 =>
        intro q1 q2 wL hm9 hI9
        have hPL : PS 0 1 0 0 w wL := hI9
        have hIL : PI wL := hPL.2.2.1
        have hbL := hIL.b
        have hqL := hPL.fs
        have hdL := hPL.2.2.2.2.2.1
        refine qG.blk 3 (pc' := 16) (ls' := [(2, 95), q1, q2]) (st' := [(0, 142), (0, wL 95 27)]) (w' := wL) (n' := 142) rfl ?_
        refine qG.br (P := wL 95 27 = 142) (pc1 := 29) (pc2 := 19) (st1 := []) rfl (fun h4 => ?_) (fun h4 => ?_)
        · skip
          refine qG.blk 3 (pc' := 36) (ls' := [(2, 95), q1, q2]) (st' := [(0, 147), (0, wL 95 27)]) (w' := wL) (n' := 142) rfl ?_
          refine qG.br (P := wL 95 27 = 147) (pc1 := 39) (pc2 := 43) (st1 := []) rfl (fun h5 => ?_) (fun h5 => ?_)
          · skip
            refine qG.blk 4 (pc' := 46) (ls' := [(2, 95), (0, 1), q2]) (st' := [(2, 95)]) (w' := wL) (n' := 142) rfl ?_
            refine qG.call (t := 231) (na := 1) (sk := 1) (md := 1) (ls1 := [(2, 95), (9, 0)]) (r1 := []) rfl rfl rfl rfl rfl (K_next0 (by omega) wL hIL.1) ?_
            rintro _ w6 _ ⟨rfl, rfl, hX6⟩
            have hn6 := PS.next hIL (by omega) hX6
            have hP6 := PS.tr hPL hn6.1 (by omega)
            have hI6 : PI w6 := hn6.1.2.2.1
            have hg6 := hn6.2
            have hb6 := hI6.b
            have hq6 := hP6.fs
            have hd6 := hP6.2.2.2.2.2.1
            show qG none (d + 1) 238 49 [(2, 95), (0, 1), q2] [] w6 142 Q9
            refine qG.blk 1 (pc' := 50) (ls' := [(2, 95), (0, 1), q2]) (st' := [(0, 1)]) (w' := w6) (n' := 142) rfl ?_
            refine qG.br (P := (1 : Int) = 0) (pc1 := 81) (pc2 := 53) (st1 := []) rfl (fun h7 => ?_) (fun h7 => ?_)
            · exact absurd h7 (by decide)
            · skip
              refine qG.blk 6 (pc' := 63) (ls' := [(2, 95), (0, 1), (0, w6 95 29)]) (st' := [(0, 9999), (0, 1), (2, 95)]) (w' := w6) (n' := 142) rfl ?_
              refine qG.call (t := 234) (na := 3) (sk := 1) (md := 1) (ls1 := [(2, 95), (0, 1), (0, 9999)]) (r1 := []) rfl rfl rfl rfl rfl (K_number (by omega) 1 9999 w6 hI6) ?_
              rintro _ w8 _ ⟨rfl, ⟨rfl, hA8⟩ | ⟨rfl, hlo8, hhi8, hS8⟩⟩
              · skip
                show qG none (d + 1) 238 66 [(2, 95), (0, 1), (0, w6 95 29)] [(0, 0)] w8 142 Q9
                have hBAD := hP6.2.1.tr hA8 (by decide +kernel)
                refine qG.br (P := (0 : Int) = 0) (pc1 := 69) (pc2 := 71) (st1 := []) rfl (fun h9 => ?_) (fun h9 => ?_)
                · skip
                  refine qG.blk 1 (pc' := 70) (ls' := [(2, 95), (0, 1), (0, w6 95 29)]) (st' := [(0, 0)]) (w' := w8) (n' := 142) rfl ?_
                  refine qG.ret rfl (by first | rfl | exact decide_eq_true (by omega)) ?_
                  subst hQ9
                  exact ⟨rfl, .inl ⟨rfl, hBAD⟩⟩
                · exact absurd h9 (by decide)
              · skip
                show qG none (d + 1) 238 66 [(2, 95), (0, 1), (0, w6 95 29)] [(0, 1)] w8 142 Q9
                have hP8 := PS.tr hP6 hS8 (by omega)
                have hI8 : PI w8 := hS8.2.2.1
                have hb8 := hI8.b
                have hq8 := hP8.fs
                have hd8 := hP8.2.2.2.2.2.1
                have hm8 := hS8.2.2.2.1
                refine qG.br (P := (1 : Int) = 0) (pc1 := 69) (pc2 := 71) (st1 := []) rfl (fun h10 => ?_) (fun h10 => ?_)
                · exact absurd h10 (by decide)
                · skip
                  refine qG.blk 3 (pc' := 75) (ls' := [(2, 95), (0, 1), (0, w6 95 29)]) (st' := [(0, w6 95 29), (0, 11), (2, 95)]) (w' := w8) (n' := 142) rfl ?_
                  refine qG.call (t := 235) (na := 3) (sk := 1) (md := 1) (ls1 := [(2, 95), (0, 11), (0, w6 95 29)]) (r1 := []) rfl rfl rfl rfl rfl (K_lay (by omega) 11 (w6 95 29) w8 hI8.1 (by first | omega | (rw [qup_j (by decide)]; omega))) ?_
                  rintro _ _ _ ⟨rfl, rfl, rfl⟩
                  have hl11 := PS.lay (n := 1) (m := 1) hI8 (by first | omega | (rw [qup_j (by decide)]; omega)) (k := 11) (v := w6 95 29) ⟨by show (-2147483648 : Int) ≤ _; omega, by show _ ≤ (2147483647 : Int); omega⟩ ⟨by show (-2147483648 : Int) ≤ _; omega, by show _ ≤ (2147483647 : Int); omega⟩ (fun h => by unfold stepH; rw [if_neg (by decide), if_pos rfl, if_pos ⟨by omega, by omega⟩])
                  have hP11 := PS.tr hP8 hl11 (by omega)
                  have hI11 : PI (layW w8 11 (w6 95 29)) := hl11.2.2.1
                  have hb11 := hI11.b
                  have hq11 := hP11.fs
                  have hd11 := hP11.2.2.2.2.2.1
                  have hm11 := hl11.2.2.2.1
                  show qG none (d + 1) 238 78 [(2, 95), (0, 1), (0, w6 95 29)] [] (layW w8 11 (w6 95 29)) 142 Q9
                  refine qG.blk 2 (pc' := 9) (ls' := [(2, 95), (0, 1), (0, w6 95 29)]) (st' := []) (w' := (layW w8 11 (w6 95 29))) (n' := 142) rfl ?_
                  exact ih9 _ (by omega) ((0, 1)) ((0, w6 95 29)) ((layW w8 11 (w6 95 29))) rfl (hP11.cast (by omega) (by omega) (by omega) (by omega))
          · skip
            refine qG.blk 3 (pc' := 46) (ls' := [(2, 95), (0, 0), q2]) (st' := [(2, 95)]) (w' := wL) (n' := 142) rfl ?_
            refine qG.call (t := 231) (na := 1) (sk := 1) (md := 1) (ls1 := [(2, 95), (9, 0)]) (r1 := []) rfl rfl rfl rfl rfl (K_next0 (by omega) wL hIL.1) ?_
            rintro _ w12 _ ⟨rfl, rfl, hX12⟩
            have hn12 := PS.next hIL (by omega) hX12
            have hP12 := PS.tr hPL hn12.1 (by omega)
            have hI12 : PI w12 := hn12.1.2.2.1
            have hg12 := hn12.2
            have hb12 := hI12.b
            have hq12 := hP12.fs
            have hd12 := hP12.2.2.2.2.2.1
            show qG none (d + 1) 238 49 [(2, 95), (0, 0), q2] [] w12 142 Q9
            refine qG.blk 1 (pc' := 50) (ls' := [(2, 95), (0, 0), q2]) (st' := [(0, 0)]) (w' := w12) (n' := 142) rfl ?_
            refine qG.br (P := (0 : Int) = 0) (pc1 := 81) (pc2 := 53) (st1 := []) rfl (fun h13 => ?_) (fun h13 => ?_)
            · skip
              refine qG.blk 1 (pc' := 82) (ls' := [(2, 95), (0, 0), q2]) (st' := [(2, 95)]) (w' := w12) (n' := 142) rfl ?_
              refine qG.call (t := 239) (na := 1) (sk := 1) (md := 1) (ls1 := [(2, 95), (9, 0), (9, 0)]) (r1 := []) rfl rfl rfl rfl rfl (K_unit (by omega) w12 hI12 (by omega)) ?_
              rintro _ w14 _ ⟨rfl, ⟨rfl, hA14⟩ | ⟨rfl, hS14⟩⟩
              · skip
                show qG none (d + 1) 238 85 [(2, 95), (0, 0), q2] [(0, 0)] w14 142 Q9
                have hBAD := hP12.2.1.tr hA14 (by decide +kernel)
                refine qG.br (P := (0 : Int) = 0) (pc1 := 88) (pc2 := 90) (st1 := []) rfl (fun h15 => ?_) (fun h15 => ?_)
                · skip
                  refine qG.blk 1 (pc' := 89) (ls' := [(2, 95), (0, 0), q2]) (st' := [(0, 0)]) (w' := w14) (n' := 142) rfl ?_
                  refine qG.ret rfl (by first | rfl | exact decide_eq_true (by omega)) ?_
                  subst hQ9
                  exact ⟨rfl, .inl ⟨rfl, hBAD⟩⟩
                · exact absurd h15 (by decide)
              · skip
                show qG none (d + 1) 238 85 [(2, 95), (0, 0), q2] [(0, 1)] w14 142 Q9
                have hP14 := PS.tr hP12 hS14 (by omega)
                have hI14 : PI w14 := hS14.2.2.1
                have hb14 := hI14.b
                have hq14 := hP14.fs
                have hd14 := hP14.2.2.2.2.2.1
                have hm14 := hS14.2.2.2.1
                refine qG.br (P := (1 : Int) = 0) (pc1 := 88) (pc2 := 90) (st1 := []) rfl (fun h16 => ?_) (fun h16 => ?_)
                · exact absurd h16 (by decide)
                · skip
                  refine qG.blk 3 (pc' := 94) (ls' := [(2, 95), (0, 0), q2]) (st' := [(0, 0), (0, 10), (2, 95)]) (w' := w14) (n' := 142) rfl ?_
                  refine qG.call (t := 235) (na := 3) (sk := 1) (md := 1) (ls1 := [(2, 95), (0, 10), (0, 0)]) (r1 := []) rfl rfl rfl rfl rfl (K_lay (by omega) 10 0 w14 hI14.1 (by first | omega | (rw [qup_j (by decide)]; omega))) ?_
                  rintro _ _ _ ⟨rfl, rfl, rfl⟩
                  have hl17 := PS.lay (n := 2) (m := 1) hI14 (by first | omega | (rw [qup_j (by decide)]; omega)) (k := 10) (v := 0) ⟨by show (-2147483648 : Int) ≤ _; omega, by show _ ≤ (2147483647 : Int); omega⟩ ⟨by show (-2147483648 : Int) ≤ _; omega, by show _ ≤ (2147483647 : Int); omega⟩ (fun h => by unfold stepH; rw [if_neg (by omega), if_neg (by omega), if_neg (by omega), if_pos (by omega)]; rfl)
                  have hP17 := PS.tr hP14 hl17 (by omega)
                  have hI17 : PI (layW w14 10 0) := hl17.2.2.1
                  have hb17 := hI17.b
                  have hq17 := hP17.fs
                  have hd17 := hP17.2.2.2.2.2.1
                  have hm17 := hl17.2.2.2.1
                  show qG none (d + 1) 238 97 [(2, 95), (0, 0), q2] [] (layW w14 10 0) 142 Q9
                  refine qG.blk 1 (pc' := 9) (ls' := [(2, 95), (0, 0), q2]) (st' := []) (w' := (layW w14 10 0)) (n' := 142) rfl ?_
                  exact ih9 _ (by omega) ((0, 0)) (q2) ((layW w14 10 0)) rfl (hP17.cast (by omega) (by omega) (by omega) (by omega))
            · exact absurd h13 (by decide)
        · skip
          refine qG.blk 3 (pc' := 26) (ls' := [(2, 95), q1, q2]) (st' := [(0, 147), (0, wL 95 27)]) (w' := wL) (n' := 142) rfl ?_
          refine qG.br (P := wL 95 27 = 147) (pc1 := 29) (pc2 := 100) (st1 := []) rfl (fun h18 => ?_) (fun h18 => ?_)
          · skip
            refine qG.blk 3 (pc' := 36) (ls' := [(2, 95), q1, q2]) (st' := [(0, 147), (0, wL 95 27)]) (w' := wL) (n' := 142) rfl ?_
            refine qG.br (P := wL 95 27 = 147) (pc1 := 39) (pc2 := 43) (st1 := []) rfl (fun h19 => ?_) (fun h19 => ?_)
            · skip
              refine qG.blk 4 (pc' := 46) (ls' := [(2, 95), (0, 1), q2]) (st' := [(2, 95)]) (w' := wL) (n' := 142) rfl ?_
              refine qG.call (t := 231) (na := 1) (sk := 1) (md := 1) (ls1 := [(2, 95), (9, 0)]) (r1 := []) rfl rfl rfl rfl rfl (K_next0 (by omega) wL hIL.1) ?_
              rintro _ w20 _ ⟨rfl, rfl, hX20⟩
              have hn20 := PS.next hIL (by omega) hX20
              have hP20 := PS.tr hPL hn20.1 (by omega)
              have hI20 : PI w20 := hn20.1.2.2.1
              have hg20 := hn20.2
              have hb20 := hI20.b
              have hq20 := hP20.fs
              have hd20 := hP20.2.2.2.2.2.1
              show qG none (d + 1) 238 49 [(2, 95), (0, 1), q2] [] w20 142 Q9
              refine qG.blk 1 (pc' := 50) (ls' := [(2, 95), (0, 1), q2]) (st' := [(0, 1)]) (w' := w20) (n' := 142) rfl ?_
              refine qG.br (P := (1 : Int) = 0) (pc1 := 81) (pc2 := 53) (st1 := []) rfl (fun h21 => ?_) (fun h21 => ?_)
              · exact absurd h21 (by decide)
              · skip
                refine qG.blk 6 (pc' := 63) (ls' := [(2, 95), (0, 1), (0, w20 95 29)]) (st' := [(0, 9999), (0, 1), (2, 95)]) (w' := w20) (n' := 142) rfl ?_
                refine qG.call (t := 234) (na := 3) (sk := 1) (md := 1) (ls1 := [(2, 95), (0, 1), (0, 9999)]) (r1 := []) rfl rfl rfl rfl rfl (K_number (by omega) 1 9999 w20 hI20) ?_
                rintro _ w22 _ ⟨rfl, ⟨rfl, hA22⟩ | ⟨rfl, hlo22, hhi22, hS22⟩⟩
                · skip
                  show qG none (d + 1) 238 66 [(2, 95), (0, 1), (0, w20 95 29)] [(0, 0)] w22 142 Q9
                  have hBAD := hP20.2.1.tr hA22 (by decide +kernel)
                  refine qG.br (P := (0 : Int) = 0) (pc1 := 69) (pc2 := 71) (st1 := []) rfl (fun h23 => ?_) (fun h23 => ?_)
                  · skip
                    refine qG.blk 1 (pc' := 70) (ls' := [(2, 95), (0, 1), (0, w20 95 29)]) (st' := [(0, 0)]) (w' := w22) (n' := 142) rfl ?_
                    refine qG.ret rfl (by first | rfl | exact decide_eq_true (by omega)) ?_
                    subst hQ9
                    exact ⟨rfl, .inl ⟨rfl, hBAD⟩⟩
                  · exact absurd h23 (by decide)
                · skip
                  show qG none (d + 1) 238 66 [(2, 95), (0, 1), (0, w20 95 29)] [(0, 1)] w22 142 Q9
                  have hP22 := PS.tr hP20 hS22 (by omega)
                  have hI22 : PI w22 := hS22.2.2.1
                  have hb22 := hI22.b
                  have hq22 := hP22.fs
                  have hd22 := hP22.2.2.2.2.2.1
                  have hm22 := hS22.2.2.2.1
                  refine qG.br (P := (1 : Int) = 0) (pc1 := 69) (pc2 := 71) (st1 := []) rfl (fun h24 => ?_) (fun h24 => ?_)
                  · exact absurd h24 (by decide)
                  · skip
                    refine qG.blk 3 (pc' := 75) (ls' := [(2, 95), (0, 1), (0, w20 95 29)]) (st' := [(0, w20 95 29), (0, 11), (2, 95)]) (w' := w22) (n' := 142) rfl ?_
                    refine qG.call (t := 235) (na := 3) (sk := 1) (md := 1) (ls1 := [(2, 95), (0, 11), (0, w20 95 29)]) (r1 := []) rfl rfl rfl rfl rfl (K_lay (by omega) 11 (w20 95 29) w22 hI22.1 (by first | omega | (rw [qup_j (by decide)]; omega))) ?_
                    rintro _ _ _ ⟨rfl, rfl, rfl⟩
                    have hl25 := PS.lay (n := 1) (m := 1) hI22 (by first | omega | (rw [qup_j (by decide)]; omega)) (k := 11) (v := w20 95 29) ⟨by show (-2147483648 : Int) ≤ _; omega, by show _ ≤ (2147483647 : Int); omega⟩ ⟨by show (-2147483648 : Int) ≤ _; omega, by show _ ≤ (2147483647 : Int); omega⟩ (fun h => by unfold stepH; rw [if_neg (by decide), if_pos rfl, if_pos ⟨by omega, by omega⟩])
                    have hP25 := PS.tr hP22 hl25 (by omega)
                    have hI25 : PI (layW w22 11 (w20 95 29)) := hl25.2.2.1
                    have hb25 := hI25.b
                    have hq25 := hP25.fs
                    have hd25 := hP25.2.2.2.2.2.1
                    have hm25 := hl25.2.2.2.1
                    show qG none (d + 1) 238 78 [(2, 95), (0, 1), (0, w20 95 29)] [] (layW w22 11 (w20 95 29)) 142 Q9
                    refine qG.blk 2 (pc' := 9) (ls' := [(2, 95), (0, 1), (0, w20 95 29)]) (st' := []) (w' := (layW w22 11 (w20 95 29))) (n' := 142) rfl ?_
                    exact ih9 _ (by omega) ((0, 1)) ((0, w20 95 29)) ((layW w22 11 (w20 95 29))) rfl (hP25.cast (by omega) (by omega) (by omega) (by omega))
            · skip
              refine qG.blk 3 (pc' := 46) (ls' := [(2, 95), (0, 0), q2]) (st' := [(2, 95)]) (w' := wL) (n' := 142) rfl ?_
              refine qG.call (t := 231) (na := 1) (sk := 1) (md := 1) (ls1 := [(2, 95), (9, 0)]) (r1 := []) rfl rfl rfl rfl rfl (K_next0 (by omega) wL hIL.1) ?_
              rintro _ w26 _ ⟨rfl, rfl, hX26⟩
              have hn26 := PS.next hIL (by omega) hX26
              have hP26 := PS.tr hPL hn26.1 (by omega)
              have hI26 : PI w26 := hn26.1.2.2.1
              have hg26 := hn26.2
              have hb26 := hI26.b
              have hq26 := hP26.fs
              have hd26 := hP26.2.2.2.2.2.1
              show qG none (d + 1) 238 49 [(2, 95), (0, 0), q2] [] w26 142 Q9
              refine qG.blk 1 (pc' := 50) (ls' := [(2, 95), (0, 0), q2]) (st' := [(0, 0)]) (w' := w26) (n' := 142) rfl ?_
              refine qG.br (P := (0 : Int) = 0) (pc1 := 81) (pc2 := 53) (st1 := []) rfl (fun h27 => ?_) (fun h27 => ?_)
              · skip
                refine qG.blk 1 (pc' := 82) (ls' := [(2, 95), (0, 0), q2]) (st' := [(2, 95)]) (w' := w26) (n' := 142) rfl ?_
                refine qG.call (t := 239) (na := 1) (sk := 1) (md := 1) (ls1 := [(2, 95), (9, 0), (9, 0)]) (r1 := []) rfl rfl rfl rfl rfl (K_unit (by omega) w26 hI26 (by omega)) ?_
                rintro _ w28 _ ⟨rfl, ⟨rfl, hA28⟩ | ⟨rfl, hS28⟩⟩
                · skip
                  show qG none (d + 1) 238 85 [(2, 95), (0, 0), q2] [(0, 0)] w28 142 Q9
                  have hBAD := hP26.2.1.tr hA28 (by decide +kernel)
                  refine qG.br (P := (0 : Int) = 0) (pc1 := 88) (pc2 := 90) (st1 := []) rfl (fun h29 => ?_) (fun h29 => ?_)
                  · skip
                    refine qG.blk 1 (pc' := 89) (ls' := [(2, 95), (0, 0), q2]) (st' := [(0, 0)]) (w' := w28) (n' := 142) rfl ?_
                    refine qG.ret rfl (by first | rfl | exact decide_eq_true (by omega)) ?_
                    subst hQ9
                    exact ⟨rfl, .inl ⟨rfl, hBAD⟩⟩
                  · exact absurd h29 (by decide)
                · skip
                  show qG none (d + 1) 238 85 [(2, 95), (0, 0), q2] [(0, 1)] w28 142 Q9
                  have hP28 := PS.tr hP26 hS28 (by omega)
                  have hI28 : PI w28 := hS28.2.2.1
                  have hb28 := hI28.b
                  have hq28 := hP28.fs
                  have hd28 := hP28.2.2.2.2.2.1
                  have hm28 := hS28.2.2.2.1
                  refine qG.br (P := (1 : Int) = 0) (pc1 := 88) (pc2 := 90) (st1 := []) rfl (fun h30 => ?_) (fun h30 => ?_)
                  · exact absurd h30 (by decide)
                  · skip
                    refine qG.blk 3 (pc' := 94) (ls' := [(2, 95), (0, 0), q2]) (st' := [(0, 0), (0, 10), (2, 95)]) (w' := w28) (n' := 142) rfl ?_
                    refine qG.call (t := 235) (na := 3) (sk := 1) (md := 1) (ls1 := [(2, 95), (0, 10), (0, 0)]) (r1 := []) rfl rfl rfl rfl rfl (K_lay (by omega) 10 0 w28 hI28.1 (by first | omega | (rw [qup_j (by decide)]; omega))) ?_
                    rintro _ _ _ ⟨rfl, rfl, rfl⟩
                    have hl31 := PS.lay (n := 2) (m := 1) hI28 (by first | omega | (rw [qup_j (by decide)]; omega)) (k := 10) (v := 0) ⟨by show (-2147483648 : Int) ≤ _; omega, by show _ ≤ (2147483647 : Int); omega⟩ ⟨by show (-2147483648 : Int) ≤ _; omega, by show _ ≤ (2147483647 : Int); omega⟩ (fun h => by unfold stepH; rw [if_neg (by omega), if_neg (by omega), if_neg (by omega), if_pos (by omega)]; rfl)
                    have hP31 := PS.tr hP28 hl31 (by omega)
                    have hI31 : PI (layW w28 10 0) := hl31.2.2.1
                    have hb31 := hI31.b
                    have hq31 := hP31.fs
                    have hd31 := hP31.2.2.2.2.2.1
                    have hm31 := hl31.2.2.2.1
                    show qG none (d + 1) 238 97 [(2, 95), (0, 0), q2] [] (layW w28 10 0) 142 Q9
                    refine qG.blk 1 (pc' := 9) (ls' := [(2, 95), (0, 0), q2]) (st' := []) (w' := (layW w28 10 0)) (n' := 142) rfl ?_
                    exact ih9 _ (by omega) ((0, 0)) (q2) ((layW w28 10 0)) rfl (hP31.cast (by omega) (by omega) (by omega) (by omega))
              · exact absurd h27 (by decide)
          · skip
            refine qG.blk 1 (pc' := 101) (ls' := [(2, 95), q1, q2]) (st' := [(0, 1)]) (w' := wL) (n' := 142) rfl ?_
            refine qG.ret rfl (by first | rfl | exact decide_eq_true (by omega)) ?_
            subst hQ9
            exact ⟨rfl, .inr ⟨rfl, hPL.cast (by omega) (by omega) (by omega) (by omega)⟩⟩
      exact L9 _ ((9, 0)) ((9, 0)) (w1) rfl (hP1.cast (by omega) (by omega) (by omega) (by omega))
theorem K_sumUp {d : Nat} (hd : 11 ≤ d) (w : qW) (hP : PI w) (hD : w 95 24 ≤ w 95 28) : qG none d 237 0 [(2, 95), (9, 0)] [] w 142 (fun (r : qV) (w1 : qW) (n1 : Nat) => n1 = 142 ∧ ((r = (0, 0) ∧ AW PM w w1) ∨ (r = (0, 1) ∧ PS 0 1 0 0 w w1))) := by
  generalize hQ9 : (fun (r : qV) (w1 : qW) (n1 : Nat) => n1 = 142 ∧ ((r = (0, 0) ∧ AW PM w w1) ∨ (r = (0, 1) ∧ PS 0 1 0 0 w w1))) = Q9
  have hb0 := hP.b
  obtain ⟨d, rfl⟩ : ∃ d9, d = d9 + 1 := ⟨d - 1, by omega⟩
  refine qG.blk 1 (pc' := 1) (ls' := [(2, 95), (9, 0)]) (st' := [(2, 95)]) (w' := w) (n' := 142) rfl ?_
  refine qG.call (t := 238) (na := 1) (sk := 1) (md := 1) (ls1 := [(2, 95), (9, 0), (9, 0)]) (r1 := []) rfl rfl rfl rfl rfl (K_product (by omega) w hP (by omega)) ?_
  rintro _ w1 _ ⟨rfl, ⟨rfl, hA1⟩ | ⟨rfl, hS1⟩⟩
  · skip
    show qG none (d + 1) 237 4 [(2, 95), (9, 0)] [(0, 0)] w1 142 Q9
    have hBAD := (PS.rf hP).2.1.tr hA1 (by decide +kernel)
    refine qG.br (P := (0 : Int) = 0) (pc1 := 7) (pc2 := 9) (st1 := []) rfl (fun h2 => ?_) (fun h2 => ?_)
    · skip
      refine qG.blk 1 (pc' := 8) (ls' := [(2, 95), (9, 0)]) (st' := [(0, 0)]) (w' := w1) (n' := 142) rfl ?_
      refine qG.ret rfl (by first | rfl | exact decide_eq_true (by omega)) ?_
      subst hQ9
      exact ⟨rfl, .inl ⟨rfl, hBAD⟩⟩
    · exact absurd h2 (by decide)
  · skip
    show qG none (d + 1) 237 4 [(2, 95), (9, 0)] [(0, 1)] w1 142 Q9
    have hP1 := PS.tr (PS.rf hP) hS1 (by omega)
    have hI1 : PI w1 := hS1.2.2.1
    have hb1 := hI1.b
    have hq1 := hP1.fs
    have hd1 := hP1.2.2.2.2.2.1
    have hm1 := hS1.2.2.2.1
    refine qG.br (P := (1 : Int) = 0) (pc1 := 7) (pc2 := 9) (st1 := []) rfl (fun h3 => ?_) (fun h3 => ?_)
    · exact absurd h3 (by decide)
    · skip
      have L9 : ∀ (m9 : Nat) (q1 : qV) (wL : qW), (600 - wL 95 28).toNat = m9 → (PS 0 1 0 0 w wL) → qG none (d + 1) 237 9 [(2, 95), q1] [] wL 142 Q9 := by
        intro m9
        induction m9 using Nat.strongRecOn with
        | ind m9 ih9 =>
        intro q1 wL hm9 hI9
        have hPL : PS 0 1 0 0 w wL := hI9
        have hIL : PI wL := hPL.2.2.1
        have hbL := hIL.b
        have hqL := hPL.fs
        have hdL := hPL.2.2.2.2.2.1
        refine qG.blk 3 (pc' := 16) (ls' := [(2, 95), q1]) (st' := [(0, 143), (0, wL 95 27)]) (w' := wL) (n' := 142) rfl ?_
        refine qG.br (P := wL 95 27 = 143) (pc1 := 29) (pc2 := 19) (st1 := []) rfl (fun h4 => ?_) (fun h4 => ?_)
        · skip
          refine qG.blk 3 (pc' := 36) (ls' := [(2, 95), q1]) (st' := [(0, 143), (0, wL 95 27)]) (w' := wL) (n' := 142) rfl ?_
          refine qG.br (P := wL 95 27 = 143) (pc1 := 39) (pc2 := 44) (st1 := []) rfl (fun h5 => ?_) (fun h5 => ?_)
          · skip
            refine qG.blk 4 (pc' := 48) (ls' := [(2, 95), (0, 8)]) (st' := [(2, 95)]) (w' := wL) (n' := 142) rfl ?_
            refine qG.call (t := 231) (na := 1) (sk := 1) (md := 1) (ls1 := [(2, 95), (9, 0)]) (r1 := []) rfl rfl rfl rfl rfl (K_next0 (by omega) wL hIL.1) ?_
            rintro _ w6 _ ⟨rfl, rfl, hX6⟩
            have hn6 := PS.next hIL (by omega) hX6
            have hP6 := PS.tr hPL hn6.1 (by omega)
            have hI6 : PI w6 := hn6.1.2.2.1
            have hg6 := hn6.2
            have hb6 := hI6.b
            have hq6 := hP6.fs
            have hd6 := hP6.2.2.2.2.2.1
            show qG none (d + 1) 237 51 [(2, 95), (0, 8)] [] w6 142 Q9
            refine qG.blk 1 (pc' := 52) (ls' := [(2, 95), (0, 8)]) (st' := [(2, 95)]) (w' := w6) (n' := 142) rfl ?_
            refine qG.call (t := 238) (na := 1) (sk := 1) (md := 1) (ls1 := [(2, 95), (9, 0), (9, 0)]) (r1 := []) rfl rfl rfl rfl rfl (K_product (by omega) w6 hI6 (by omega)) ?_
            rintro _ w7 _ ⟨rfl, ⟨rfl, hA7⟩ | ⟨rfl, hS7⟩⟩
            · skip
              show qG none (d + 1) 237 55 [(2, 95), (0, 8)] [(0, 0)] w7 142 Q9
              have hBAD := hP6.2.1.tr hA7 (by decide +kernel)
              refine qG.br (P := (0 : Int) = 0) (pc1 := 58) (pc2 := 60) (st1 := []) rfl (fun h8 => ?_) (fun h8 => ?_)
              · skip
                refine qG.blk 1 (pc' := 59) (ls' := [(2, 95), (0, 8)]) (st' := [(0, 0)]) (w' := w7) (n' := 142) rfl ?_
                refine qG.ret rfl (by first | rfl | exact decide_eq_true (by omega)) ?_
                subst hQ9
                exact ⟨rfl, .inl ⟨rfl, hBAD⟩⟩
              · exact absurd h8 (by decide)
            · skip
              show qG none (d + 1) 237 55 [(2, 95), (0, 8)] [(0, 1)] w7 142 Q9
              have hP7 := PS.tr hP6 hS7 (by omega)
              have hI7 : PI w7 := hS7.2.2.1
              have hb7 := hI7.b
              have hq7 := hP7.fs
              have hd7 := hP7.2.2.2.2.2.1
              have hm7 := hS7.2.2.2.1
              refine qG.br (P := (1 : Int) = 0) (pc1 := 58) (pc2 := 60) (st1 := []) rfl (fun h9 => ?_) (fun h9 => ?_)
              · exact absurd h9 (by decide)
              · skip
                refine qG.blk 3 (pc' := 63) (ls' := [(2, 95), (0, 8)]) (st' := [(0, 0), (0, 8), (2, 95)]) (w' := w7) (n' := 142) rfl ?_
                refine qG.call (t := 235) (na := 3) (sk := 1) (md := 1) (ls1 := [(2, 95), (0, 8), (0, 0)]) (r1 := []) rfl rfl rfl rfl rfl (K_lay (by omega) 8 0 w7 hI7.1 (by first | omega | (rw [qup_j (by decide)]; omega))) ?_
                rintro _ _ _ ⟨rfl, rfl, rfl⟩
                have hl10 := PS.lay (n := 2) (m := 1) hI7 (by first | omega | (rw [qup_j (by decide)]; omega)) (k := 8) (v := 0) ⟨by show (-2147483648 : Int) ≤ _; omega, by show _ ≤ (2147483647 : Int); omega⟩ ⟨by show (-2147483648 : Int) ≤ _; omega, by show _ ≤ (2147483647 : Int); omega⟩ (fun h => by unfold stepH; rw [if_neg (by omega), if_neg (by omega), if_neg (by omega), if_pos (by omega)]; rfl)
                have hP10 := PS.tr hP7 hl10 (by omega)
                have hI10 : PI (layW w7 8 0) := hl10.2.2.1
                have hb10 := hI10.b
                have hq10 := hP10.fs
                have hd10 := hP10.2.2.2.2.2.1
                have hm10 := hl10.2.2.2.1
                show qG none (d + 1) 237 66 [(2, 95), (0, 8)] [] (layW w7 8 0) 142 Q9
                refine qG.blk 1 (pc' := 9) (ls' := [(2, 95), (0, 8)]) (st' := []) (w' := (layW w7 8 0)) (n' := 142) rfl ?_
                exact ih9 _ (by omega) ((0, 8)) ((layW w7 8 0)) rfl (hP10.cast (by omega) (by omega) (by omega) (by omega))
          · skip
            refine qG.blk 3 (pc' := 48) (ls' := [(2, 95), (0, 9)]) (st' := [(2, 95)]) (w' := wL) (n' := 142) rfl ?_
            refine qG.call (t := 231) (na := 1) (sk := 1) (md := 1) (ls1 := [(2, 95), (9, 0)]) (r1 := []) rfl rfl rfl rfl rfl (K_next0 (by omega) wL hIL.1) ?_
            rintro _ w11 _ ⟨rfl, rfl, hX11⟩
            have hn11 := PS.next hIL (by omega) hX11
            have hP11 := PS.tr hPL hn11.1 (by omega)
            have hI11 : PI w11 := hn11.1.2.2.1
            have hg11 := hn11.2
            have hb11 := hI11.b
            have hq11 := hP11.fs
            have hd11 := hP11.2.2.2.2.2.1
            show qG none (d + 1) 237 51 [(2, 95), (0, 9)] [] w11 142 Q9
            refine qG.blk 1 (pc' := 52) (ls' := [(2, 95), (0, 9)]) (st' := [(2, 95)]) (w' := w11) (n' := 142) rfl ?_
            refine qG.call (t := 238) (na := 1) (sk := 1) (md := 1) (ls1 := [(2, 95), (9, 0), (9, 0)]) (r1 := []) rfl rfl rfl rfl rfl (K_product (by omega) w11 hI11 (by omega)) ?_
            rintro _ w12 _ ⟨rfl, ⟨rfl, hA12⟩ | ⟨rfl, hS12⟩⟩
            · skip
              show qG none (d + 1) 237 55 [(2, 95), (0, 9)] [(0, 0)] w12 142 Q9
              have hBAD := hP11.2.1.tr hA12 (by decide +kernel)
              refine qG.br (P := (0 : Int) = 0) (pc1 := 58) (pc2 := 60) (st1 := []) rfl (fun h13 => ?_) (fun h13 => ?_)
              · skip
                refine qG.blk 1 (pc' := 59) (ls' := [(2, 95), (0, 9)]) (st' := [(0, 0)]) (w' := w12) (n' := 142) rfl ?_
                refine qG.ret rfl (by first | rfl | exact decide_eq_true (by omega)) ?_
                subst hQ9
                exact ⟨rfl, .inl ⟨rfl, hBAD⟩⟩
              · exact absurd h13 (by decide)
            · skip
              show qG none (d + 1) 237 55 [(2, 95), (0, 9)] [(0, 1)] w12 142 Q9
              have hP12 := PS.tr hP11 hS12 (by omega)
              have hI12 : PI w12 := hS12.2.2.1
              have hb12 := hI12.b
              have hq12 := hP12.fs
              have hd12 := hP12.2.2.2.2.2.1
              have hm12 := hS12.2.2.2.1
              refine qG.br (P := (1 : Int) = 0) (pc1 := 58) (pc2 := 60) (st1 := []) rfl (fun h14 => ?_) (fun h14 => ?_)
              · exact absurd h14 (by decide)
              · skip
                refine qG.blk 3 (pc' := 63) (ls' := [(2, 95), (0, 9)]) (st' := [(0, 0), (0, 9), (2, 95)]) (w' := w12) (n' := 142) rfl ?_
                refine qG.call (t := 235) (na := 3) (sk := 1) (md := 1) (ls1 := [(2, 95), (0, 9), (0, 0)]) (r1 := []) rfl rfl rfl rfl rfl (K_lay (by omega) 9 0 w12 hI12.1 (by first | omega | (rw [qup_j (by decide)]; omega))) ?_
                rintro _ _ _ ⟨rfl, rfl, rfl⟩
                have hl15 := PS.lay (n := 2) (m := 1) hI12 (by first | omega | (rw [qup_j (by decide)]; omega)) (k := 9) (v := 0) ⟨by show (-2147483648 : Int) ≤ _; omega, by show _ ≤ (2147483647 : Int); omega⟩ ⟨by show (-2147483648 : Int) ≤ _; omega, by show _ ≤ (2147483647 : Int); omega⟩ (fun h => by unfold stepH; rw [if_neg (by omega), if_neg (by omega), if_neg (by omega), if_pos (by omega)]; rfl)
                have hP15 := PS.tr hP12 hl15 (by omega)
                have hI15 : PI (layW w12 9 0) := hl15.2.2.1
                have hb15 := hI15.b
                have hq15 := hP15.fs
                have hd15 := hP15.2.2.2.2.2.1
                have hm15 := hl15.2.2.2.1
                show qG none (d + 1) 237 66 [(2, 95), (0, 9)] [] (layW w12 9 0) 142 Q9
                refine qG.blk 1 (pc' := 9) (ls' := [(2, 95), (0, 9)]) (st' := []) (w' := (layW w12 9 0)) (n' := 142) rfl ?_
                exact ih9 _ (by omega) ((0, 9)) ((layW w12 9 0)) rfl (hP15.cast (by omega) (by omega) (by omega) (by omega))
        · skip
          refine qG.blk 3 (pc' := 26) (ls' := [(2, 95), q1]) (st' := [(0, 145), (0, wL 95 27)]) (w' := wL) (n' := 142) rfl ?_
          refine qG.br (P := wL 95 27 = 145) (pc1 := 29) (pc2 := 69) (st1 := []) rfl (fun h16 => ?_) (fun h16 => ?_)
          · skip
            refine qG.blk 3 (pc' := 36) (ls' := [(2, 95), q1]) (st' := [(0, 143), (0, wL 95 27)]) (w' := wL) (n' := 142) rfl ?_
            refine qG.br (P := wL 95 27 = 143) (pc1 := 39) (pc2 := 44) (st1 := []) rfl (fun h17 => ?_) (fun h17 => ?_)
            · skip
              refine qG.blk 4 (pc' := 48) (ls' := [(2, 95), (0, 8)]) (st' := [(2, 95)]) (w' := wL) (n' := 142) rfl ?_
              refine qG.call (t := 231) (na := 1) (sk := 1) (md := 1) (ls1 := [(2, 95), (9, 0)]) (r1 := []) rfl rfl rfl rfl rfl (K_next0 (by omega) wL hIL.1) ?_
              rintro _ w18 _ ⟨rfl, rfl, hX18⟩
              have hn18 := PS.next hIL (by omega) hX18
              have hP18 := PS.tr hPL hn18.1 (by omega)
              have hI18 : PI w18 := hn18.1.2.2.1
              have hg18 := hn18.2
              have hb18 := hI18.b
              have hq18 := hP18.fs
              have hd18 := hP18.2.2.2.2.2.1
              show qG none (d + 1) 237 51 [(2, 95), (0, 8)] [] w18 142 Q9
              refine qG.blk 1 (pc' := 52) (ls' := [(2, 95), (0, 8)]) (st' := [(2, 95)]) (w' := w18) (n' := 142) rfl ?_
              refine qG.call (t := 238) (na := 1) (sk := 1) (md := 1) (ls1 := [(2, 95), (9, 0), (9, 0)]) (r1 := []) rfl rfl rfl rfl rfl (K_product (by omega) w18 hI18 (by omega)) ?_
              rintro _ w19 _ ⟨rfl, ⟨rfl, hA19⟩ | ⟨rfl, hS19⟩⟩
              · skip
                show qG none (d + 1) 237 55 [(2, 95), (0, 8)] [(0, 0)] w19 142 Q9
                have hBAD := hP18.2.1.tr hA19 (by decide +kernel)
                refine qG.br (P := (0 : Int) = 0) (pc1 := 58) (pc2 := 60) (st1 := []) rfl (fun h20 => ?_) (fun h20 => ?_)
                · skip
                  refine qG.blk 1 (pc' := 59) (ls' := [(2, 95), (0, 8)]) (st' := [(0, 0)]) (w' := w19) (n' := 142) rfl ?_
                  refine qG.ret rfl (by first | rfl | exact decide_eq_true (by omega)) ?_
                  subst hQ9
                  exact ⟨rfl, .inl ⟨rfl, hBAD⟩⟩
                · exact absurd h20 (by decide)
              · skip
                show qG none (d + 1) 237 55 [(2, 95), (0, 8)] [(0, 1)] w19 142 Q9
                have hP19 := PS.tr hP18 hS19 (by omega)
                have hI19 : PI w19 := hS19.2.2.1
                have hb19 := hI19.b
                have hq19 := hP19.fs
                have hd19 := hP19.2.2.2.2.2.1
                have hm19 := hS19.2.2.2.1
                refine qG.br (P := (1 : Int) = 0) (pc1 := 58) (pc2 := 60) (st1 := []) rfl (fun h21 => ?_) (fun h21 => ?_)
                · exact absurd h21 (by decide)
                · skip
                  refine qG.blk 3 (pc' := 63) (ls' := [(2, 95), (0, 8)]) (st' := [(0, 0), (0, 8), (2, 95)]) (w' := w19) (n' := 142) rfl ?_
                  refine qG.call (t := 235) (na := 3) (sk := 1) (md := 1) (ls1 := [(2, 95), (0, 8), (0, 0)]) (r1 := []) rfl rfl rfl rfl rfl (K_lay (by omega) 8 0 w19 hI19.1 (by first | omega | (rw [qup_j (by decide)]; omega))) ?_
                  rintro _ _ _ ⟨rfl, rfl, rfl⟩
                  have hl22 := PS.lay (n := 2) (m := 1) hI19 (by first | omega | (rw [qup_j (by decide)]; omega)) (k := 8) (v := 0) ⟨by show (-2147483648 : Int) ≤ _; omega, by show _ ≤ (2147483647 : Int); omega⟩ ⟨by show (-2147483648 : Int) ≤ _; omega, by show _ ≤ (2147483647 : Int); omega⟩ (fun h => by unfold stepH; rw [if_neg (by omega), if_neg (by omega), if_neg (by omega), if_pos (by omega)]; rfl)
                  have hP22 := PS.tr hP19 hl22 (by omega)
                  have hI22 : PI (layW w19 8 0) := hl22.2.2.1
                  have hb22 := hI22.b
                  have hq22 := hP22.fs
                  have hd22 := hP22.2.2.2.2.2.1
                  have hm22 := hl22.2.2.2.1
                  show qG none (d + 1) 237 66 [(2, 95), (0, 8)] [] (layW w19 8 0) 142 Q9
                  refine qG.blk 1 (pc' := 9) (ls' := [(2, 95), (0, 8)]) (st' := []) (w' := (layW w19 8 0)) (n' := 142) rfl ?_
                  exact ih9 _ (by omega) ((0, 8)) ((layW w19 8 0)) rfl (hP22.cast (by omega) (by omega) (by omega) (by omega))
            · skip
              refine qG.blk 3 (pc' := 48) (ls' := [(2, 95), (0, 9)]) (st' := [(2, 95)]) (w' := wL) (n' := 142) rfl ?_
              refine qG.call (t := 231) (na := 1) (sk := 1) (md := 1) (ls1 := [(2, 95), (9, 0)]) (r1 := []) rfl rfl rfl rfl rfl (K_next0 (by omega) wL hIL.1) ?_
              rintro _ w23 _ ⟨rfl, rfl, hX23⟩
              have hn23 := PS.next hIL (by omega) hX23
              have hP23 := PS.tr hPL hn23.1 (by omega)
              have hI23 : PI w23 := hn23.1.2.2.1
              have hg23 := hn23.2
              have hb23 := hI23.b
              have hq23 := hP23.fs
              have hd23 := hP23.2.2.2.2.2.1
              show qG none (d + 1) 237 51 [(2, 95), (0, 9)] [] w23 142 Q9
              refine qG.blk 1 (pc' := 52) (ls' := [(2, 95), (0, 9)]) (st' := [(2, 95)]) (w' := w23) (n' := 142) rfl ?_
              refine qG.call (t := 238) (na := 1) (sk := 1) (md := 1) (ls1 := [(2, 95), (9, 0), (9, 0)]) (r1 := []) rfl rfl rfl rfl rfl (K_product (by omega) w23 hI23 (by omega)) ?_
              rintro _ w24 _ ⟨rfl, ⟨rfl, hA24⟩ | ⟨rfl, hS24⟩⟩
              · skip
                show qG none (d + 1) 237 55 [(2, 95), (0, 9)] [(0, 0)] w24 142 Q9
                have hBAD := hP23.2.1.tr hA24 (by decide +kernel)
                refine qG.br (P := (0 : Int) = 0) (pc1 := 58) (pc2 := 60) (st1 := []) rfl (fun h25 => ?_) (fun h25 => ?_)
                · skip
                  refine qG.blk 1 (pc' := 59) (ls' := [(2, 95), (0, 9)]) (st' := [(0, 0)]) (w' := w24) (n' := 142) rfl ?_
                  refine qG.ret rfl (by first | rfl | exact decide_eq_true (by omega)) ?_
                  subst hQ9
                  exact ⟨rfl, .inl ⟨rfl, hBAD⟩⟩
                · exact absurd h25 (by decide)
              · skip
                show qG none (d + 1) 237 55 [(2, 95), (0, 9)] [(0, 1)] w24 142 Q9
                have hP24 := PS.tr hP23 hS24 (by omega)
                have hI24 : PI w24 := hS24.2.2.1
                have hb24 := hI24.b
                have hq24 := hP24.fs
                have hd24 := hP24.2.2.2.2.2.1
                have hm24 := hS24.2.2.2.1
                refine qG.br (P := (1 : Int) = 0) (pc1 := 58) (pc2 := 60) (st1 := []) rfl (fun h26 => ?_) (fun h26 => ?_)
                · exact absurd h26 (by decide)
                · skip
                  refine qG.blk 3 (pc' := 63) (ls' := [(2, 95), (0, 9)]) (st' := [(0, 0), (0, 9), (2, 95)]) (w' := w24) (n' := 142) rfl ?_
                  refine qG.call (t := 235) (na := 3) (sk := 1) (md := 1) (ls1 := [(2, 95), (0, 9), (0, 0)]) (r1 := []) rfl rfl rfl rfl rfl (K_lay (by omega) 9 0 w24 hI24.1 (by first | omega | (rw [qup_j (by decide)]; omega))) ?_
                  rintro _ _ _ ⟨rfl, rfl, rfl⟩
                  have hl27 := PS.lay (n := 2) (m := 1) hI24 (by first | omega | (rw [qup_j (by decide)]; omega)) (k := 9) (v := 0) ⟨by show (-2147483648 : Int) ≤ _; omega, by show _ ≤ (2147483647 : Int); omega⟩ ⟨by show (-2147483648 : Int) ≤ _; omega, by show _ ≤ (2147483647 : Int); omega⟩ (fun h => by unfold stepH; rw [if_neg (by omega), if_neg (by omega), if_neg (by omega), if_pos (by omega)]; rfl)
                  have hP27 := PS.tr hP24 hl27 (by omega)
                  have hI27 : PI (layW w24 9 0) := hl27.2.2.1
                  have hb27 := hI27.b
                  have hq27 := hP27.fs
                  have hd27 := hP27.2.2.2.2.2.1
                  have hm27 := hl27.2.2.2.1
                  show qG none (d + 1) 237 66 [(2, 95), (0, 9)] [] (layW w24 9 0) 142 Q9
                  refine qG.blk 1 (pc' := 9) (ls' := [(2, 95), (0, 9)]) (st' := []) (w' := (layW w24 9 0)) (n' := 142) rfl ?_
                  exact ih9 _ (by omega) ((0, 9)) ((layW w24 9 0)) rfl (hP27.cast (by omega) (by omega) (by omega) (by omega))
          · skip
            refine qG.blk 1 (pc' := 70) (ls' := [(2, 95), q1]) (st' := [(0, 1)]) (w' := wL) (n' := 142) rfl ?_
            refine qG.ret rfl (by first | rfl | exact decide_eq_true (by omega)) ?_
            subst hQ9
            exact ⟨rfl, .inr ⟨rfl, hPL.cast (by omega) (by omega) (by omega) (by omega)⟩⟩
      exact L9 _ ((9, 0)) (w1) rfl (hP1.cast (by omega) (by omega) (by omega) (by omega))
noncomputable def P_one (q : Nat) : Prop := ∀ (d : Nat) (w : qW), 12 + 3 * q ≤ d → PI w → w 95 24 ≤ w 95 28 → w 95 33 + (q : Int) = 8 → qG none d 242 0 [(2, 95), (9, 0)] [] w 142 (fun (r : qV) (w1 : qW) (n1 : Nat) => n1 = 142 ∧ ((r = (0, 0) ∧ AW PM w w1) ∨ (r = (0, 1) ∧ PS 0 1 0 0 w w1)))
noncomputable def P_every (q : Nat) : Prop := ∀ (d : Nat) (w : qW), 13 + 3 * q ≤ d → PI w → w 95 24 ≤ w 95 28 → w 95 33 + (q : Int) = 8 → qG none d 241 0 [(2, 95)] [] w 142 (fun (r : qV) (w1 : qW) (n1 : Nat) => n1 = 142 ∧ ((r = (0, 0) ∧ AW PM w w1) ∨ (r = (0, 1) ∧ PS 0 1 0 0 w w1)))
noncomputable def P_any (q : Nat) : Prop := ∀ (d : Nat) (w : qW), 14 + 3 * q ≤ d → PI w → w 95 24 ≤ w 95 28 → w 95 33 + (q : Int) = 8 → qG none d 240 0 [(2, 95)] [] w 142 (fun (r : qV) (w1 : qW) (n1 : Nat) => n1 = 142 ∧ ((r = (0, 0) ∧ AW PM w w1) ∨ (r = (0, 1) ∧ PS 0 1 0 0 w w1)))
theorem K_one (q : Nat) {d : Nat} (hd : 12 + 3 * q ≤ d) (w : qW) (hP : PI w) (hD : w 95 24 ≤ w 95 28) (hq0 : w 95 33 + (q : Int) = 8) (hrec : ∀ q9, q9 < q → P_one q9 ∧ P_any q9) : qG none d 242 0 [(2, 95), (9, 0)] [] w 142 (fun (r : qV) (w1 : qW) (n1 : Nat) => n1 = 142 ∧ ((r = (0, 0) ∧ AW PM w w1) ∨ (r = (0, 1) ∧ PS 0 1 0 0 w w1))) := by
  generalize hQ9 : (fun (r : qV) (w1 : qW) (n1 : Nat) => n1 = 142 ∧ ((r = (0, 0) ∧ AW PM w w1) ∨ (r = (0, 1) ∧ PS 0 1 0 0 w w1))) = Q9
  have hb0 := hP.b
  obtain ⟨d, rfl⟩ : ∃ d9, d = d9 + 1 := ⟨d - 1, by omega⟩
  refine qG.blk 3 (pc' := 6) (ls' := [(2, 95), (9, 0)]) (st' := [(0, 6), (0, w 95 27)]) (w' := w) (n' := 142) rfl ?_
  refine qG.br (P := w 95 27 = 6) (pc1 := 9) (pc2 := 44) (st1 := []) rfl (fun h1 => ?_) (fun h1 => ?_)
  · skip
    refine qG.blk 1 (pc' := 10) (ls' := [(2, 95), (9, 0)]) (st' := [(2, 95)]) (w' := w) (n' := 142) rfl ?_
    refine qG.call (t := 236) (na := 1) (sk := 1) (md := 1) (ls1 := [(2, 95)]) (r1 := []) rfl rfl rfl rfl rfl (K_opens (by omega) w (by omega) hP) ?_
    rintro _ w2 _ ⟨rfl, ⟨rfl, hA2⟩ | ⟨rfl, hS2⟩⟩
    · skip
      show qG none (d + 1) 242 13 [(2, 95), (9, 0)] [(0, 0)] w2 142 Q9
      have hBAD := (PS.rf hP).2.1.tr hA2 (by decide +kernel)
      refine qG.br (P := (0 : Int) = 0) (pc1 := 23) (pc2 := 16) (st1 := []) rfl (fun h3 => ?_) (fun h3 => ?_)
      · skip
        refine qG.blk 1 (pc' := 24) (ls' := [(2, 95), (9, 0)]) (st' := [(0, 0)]) (w' := w2) (n' := 142) rfl ?_
        refine qG.ret rfl (by first | rfl | exact decide_eq_true (by omega)) ?_
        subst hQ9
        exact ⟨rfl, .inl ⟨rfl, hBAD⟩⟩
      · exact absurd h3 (by decide)
    · skip
      show qG none (d + 1) 242 13 [(2, 95), (9, 0)] [(0, 1)] w2 142 Q9
      have hP2 := PS.tr (PS.rf hP) hS2 (by omega)
      have hI2 : PI w2 := hS2.2.2.1
      have hb2 := hI2.b
      have hq2 := hP2.fs
      have hd2 := hP2.2.2.2.2.2.1
      have hm2 := hS2.2.2.2.1
      refine qG.br (P := (1 : Int) = 0) (pc1 := 23) (pc2 := 16) (st1 := []) rfl (fun h4 => ?_) (fun h4 => ?_)
      · exact absurd h4 (by decide)
      · skip
        refine qG.blk 1 (pc' := 17) (ls' := [(2, 95), (9, 0)]) (st' := [(2, 95)]) (w' := w2) (n' := 142) rfl ?_
        refine qG.call (t := 242) (na := 1) (sk := 1) (md := 1) (ls1 := [(2, 95), (9, 0)]) (r1 := []) rfl rfl rfl rfl rfl ((hrec (q - 1) (by omega)).1 d w2 (by omega) hI2 (by omega) (by omega)) ?_
        rintro _ w5 _ ⟨rfl, ⟨rfl, hA5⟩ | ⟨rfl, hS5⟩⟩
        · skip
          show qG none (d + 1) 242 20 [(2, 95), (9, 0)] [(0, 0)] w5 142 Q9
          have hBAD := hP2.2.1.tr hA5 (by decide +kernel)
          refine qG.br (P := (0 : Int) = 0) (pc1 := 23) (pc2 := 25) (st1 := []) rfl (fun h6 => ?_) (fun h6 => ?_)
          · skip
            refine qG.blk 1 (pc' := 24) (ls' := [(2, 95), (9, 0)]) (st' := [(0, 0)]) (w' := w5) (n' := 142) rfl ?_
            refine qG.ret rfl (by first | rfl | exact decide_eq_true (by omega)) ?_
            subst hQ9
            exact ⟨rfl, .inl ⟨rfl, hBAD⟩⟩
          · exact absurd h6 (by decide)
        · skip
          show qG none (d + 1) 242 20 [(2, 95), (9, 0)] [(0, 1)] w5 142 Q9
          have hP5 := PS.tr hP2 hS5 (by omega)
          have hI5 : PI w5 := hS5.2.2.1
          have hb5 := hI5.b
          have hq5 := hP5.fs
          have hd5 := hP5.2.2.2.2.2.1
          have hm5 := hS5.2.2.2.1
          refine qG.br (P := (1 : Int) = 0) (pc1 := 23) (pc2 := 25) (st1 := []) rfl (fun h7 => ?_) (fun h7 => ?_)
          · exact absurd h7 (by decide)
          · skip
            refine qG.blk 5 (pc' := 32) (ls' := [(2, 95), (9, 0)]) (st' := [(0, wrp ((w5 95 33) - 1)), (2, 95)]) (w' := w5) (n' := 142) rfl ?_
            rw [show wrp ((w5 95 33) - 1) = (w5 95 33) - 1 from wrp_id (by omega) (by omega)]
            refine qG.blk 4 (pc' := 39) (ls' := [(2, 95), (9, 0)]) (st' := [(0, 0), (0, 15), (2, 95)]) (w' := (qup w5 95 33 ((w5 95 33) - 1))) (n' := 142) rfl ?_
            refine qG.call (t := 235) (na := 3) (sk := 1) (md := 1) (ls1 := [(2, 95), (0, 15), (0, 0)]) (r1 := []) rfl rfl rfl rfl rfl (K_lay (by omega) 15 0 (qup w5 95 33 ((w5 95 33) - 1)) (PS.dep (d' := 0) hP5 (v := (w5 95 33) - 1) (by omega) (by omega) (by omega)).2.2.1.1 (by first | omega | (rw [qup_j (by decide)]; omega))) ?_
            rintro _ _ _ ⟨rfl, rfl, rfl⟩
            have hl8 := PS.lay (n := 1) (m := 1) (PS.dep (d' := 0) hP5 (v := (w5 95 33) - 1) (by omega) (by omega) (by omega)).2.2.1 (by first | omega | (rw [qup_j (by decide)]; omega)) (k := 15) (v := 0) ⟨by show (-2147483648 : Int) ≤ _; omega, by show _ ≤ (2147483647 : Int); omega⟩ ⟨by show (-2147483648 : Int) ≤ _; omega, by show _ ≤ (2147483647 : Int); omega⟩ (fun h => by unfold stepH; rw [if_neg (by decide), if_neg (by decide), if_pos rfl, if_pos (by omega)])
            have hP8 := PS.tr (PS.dep (d' := 0) hP5 (v := (w5 95 33) - 1) (by omega) (by omega) (by omega)) hl8 (by omega)
            have hI8 : PI (layW (qup w5 95 33 ((w5 95 33) - 1)) 15 0) := hl8.2.2.1
            have hb8 := hI8.b
            have hq8 := hP8.fs
            have hd8 := hP8.2.2.2.2.2.1
            have hm8 := hl8.2.2.2.1
            show qG none (d + 1) 242 42 [(2, 95), (9, 0)] [] (layW (qup w5 95 33 ((w5 95 33) - 1)) 15 0) 142 Q9
            refine qG.blk 1 (pc' := 43) (ls' := [(2, 95), (9, 0)]) (st' := [(0, 1)]) (w' := (layW (qup w5 95 33 ((w5 95 33) - 1)) 15 0)) (n' := 142) rfl ?_
            refine qG.ret rfl (by first | rfl | exact decide_eq_true (by omega)) ?_
            subst hQ9
            exact ⟨rfl, .inr ⟨rfl, hP8.cast (by omega) (by omega) (by omega) (by omega)⟩⟩
  · skip
    refine qG.blk 3 (pc' := 51) (ls' := [(2, 95), (9, 0)]) (st' := [(0, 140), (0, w 95 27)]) (w' := w) (n' := 142) rfl ?_
    refine qG.br (P := w 95 27 = 140) (pc1 := 54) (pc2 := 92) (st1 := []) rfl (fun h9 => ?_) (fun h9 => ?_)
    · skip
      refine qG.blk 1 (pc' := 55) (ls' := [(2, 95), (9, 0)]) (st' := [(2, 95)]) (w' := w) (n' := 142) rfl ?_
      refine qG.call (t := 236) (na := 1) (sk := 1) (md := 1) (ls1 := [(2, 95)]) (r1 := []) rfl rfl rfl rfl rfl (K_opens (by omega) w (by omega) hP) ?_
      rintro _ w10 _ ⟨rfl, ⟨rfl, hA10⟩ | ⟨rfl, hS10⟩⟩
      · skip
        show qG none (d + 1) 242 58 [(2, 95), (9, 0)] [(0, 0)] w10 142 Q9
        have hBAD := (PS.rf hP).2.1.tr hA10 (by decide +kernel)
        refine qG.br (P := (0 : Int) = 0) (pc1 := 78) (pc2 := 61) (st1 := []) rfl (fun h11 => ?_) (fun h11 => ?_)
        · skip
          refine qG.blk 1 (pc' := 79) (ls' := [(2, 95), (9, 0)]) (st' := [(0, 0)]) (w' := w10) (n' := 142) rfl ?_
          refine qG.ret rfl (by first | rfl | exact decide_eq_true (by omega)) ?_
          subst hQ9
          exact ⟨rfl, .inl ⟨rfl, hBAD⟩⟩
        · exact absurd h11 (by decide)
      · skip
        show qG none (d + 1) 242 58 [(2, 95), (9, 0)] [(0, 1)] w10 142 Q9
        have hP10 := PS.tr (PS.rf hP) hS10 (by omega)
        have hI10 : PI w10 := hS10.2.2.1
        have hb10 := hI10.b
        have hq10 := hP10.fs
        have hd10 := hP10.2.2.2.2.2.1
        have hm10 := hS10.2.2.2.1
        refine qG.br (P := (1 : Int) = 0) (pc1 := 78) (pc2 := 61) (st1 := []) rfl (fun h12 => ?_) (fun h12 => ?_)
        · exact absurd h12 (by decide)
        · skip
          refine qG.blk 1 (pc' := 62) (ls' := [(2, 95), (9, 0)]) (st' := [(2, 95)]) (w' := w10) (n' := 142) rfl ?_
          refine qG.call (t := 240) (na := 1) (sk := 1) (md := 1) (ls1 := [(2, 95)]) (r1 := []) rfl rfl rfl rfl rfl ((hrec (q - 1) (by omega)).2 d w10 (by omega) hI10 (by omega) (by omega)) ?_
          rintro _ w13 _ ⟨rfl, ⟨rfl, hA13⟩ | ⟨rfl, hS13⟩⟩
          · skip
            show qG none (d + 1) 242 65 [(2, 95), (9, 0)] [(0, 0)] w13 142 Q9
            have hBAD := hP10.2.1.tr hA13 (by decide +kernel)
            refine qG.br (P := (0 : Int) = 0) (pc1 := 78) (pc2 := 68) (st1 := []) rfl (fun h14 => ?_) (fun h14 => ?_)
            · skip
              refine qG.blk 1 (pc' := 79) (ls' := [(2, 95), (9, 0)]) (st' := [(0, 0)]) (w' := w13) (n' := 142) rfl ?_
              refine qG.ret rfl (by first | rfl | exact decide_eq_true (by omega)) ?_
              subst hQ9
              exact ⟨rfl, .inl ⟨rfl, hBAD⟩⟩
            · exact absurd h14 (by decide)
          · skip
            show qG none (d + 1) 242 65 [(2, 95), (9, 0)] [(0, 1)] w13 142 Q9
            have hP13 := PS.tr hP10 hS13 (by omega)
            have hI13 : PI w13 := hS13.2.2.1
            have hb13 := hI13.b
            have hq13 := hP13.fs
            have hd13 := hP13.2.2.2.2.2.1
            have hm13 := hS13.2.2.2.1
            refine qG.br (P := (1 : Int) = 0) (pc1 := 78) (pc2 := 68) (st1 := []) rfl (fun h15 => ?_) (fun h15 => ?_)
            · exact absurd h15 (by decide)
            · skip
              refine qG.blk 2 (pc' := 72) (ls' := [(2, 95), (9, 0)]) (st' := [(0, 141), (2, 95)]) (w' := w13) (n' := 142) rfl ?_
              refine qG.call (t := 233) (na := 2) (sk := 1) (md := 1) (ls1 := [(2, 95), (0, 141)]) (r1 := []) rfl rfl rfl rfl rfl (K_need (by omega) 141 (by decide) w13 hI13) ?_
              rintro _ w16 _ ⟨rfl, ⟨rfl, hA16⟩ | ⟨rfl, hS16⟩⟩
              · skip
                show qG none (d + 1) 242 75 [(2, 95), (9, 0)] [(0, 0)] w16 142 Q9
                have hBAD := hP13.2.1.tr hA16 (by decide +kernel)
                refine qG.br (P := (0 : Int) = 0) (pc1 := 78) (pc2 := 80) (st1 := []) rfl (fun h17 => ?_) (fun h17 => ?_)
                · skip
                  refine qG.blk 1 (pc' := 79) (ls' := [(2, 95), (9, 0)]) (st' := [(0, 0)]) (w' := w16) (n' := 142) rfl ?_
                  refine qG.ret rfl (by first | rfl | exact decide_eq_true (by omega)) ?_
                  subst hQ9
                  exact ⟨rfl, .inl ⟨rfl, hBAD⟩⟩
                · exact absurd h17 (by decide)
              · skip
                show qG none (d + 1) 242 75 [(2, 95), (9, 0)] [(0, 1)] w16 142 Q9
                have hP16 := PS.tr hP13 hS16 (by omega)
                have hI16 : PI w16 := hS16.2.2.1
                have hb16 := hI16.b
                have hq16 := hP16.fs
                have hd16 := hP16.2.2.2.2.2.1
                have hm16 := hS16.2.2.2.1
                refine qG.br (P := (1 : Int) = 0) (pc1 := 78) (pc2 := 80) (st1 := []) rfl (fun h18 => ?_) (fun h18 => ?_)
                · exact absurd h18 (by decide)
                · skip
                  refine qG.blk 5 (pc' := 87) (ls' := [(2, 95), (9, 0)]) (st' := [(0, wrp ((w16 95 33) - 1)), (2, 95)]) (w' := w16) (n' := 142) rfl ?_
                  rw [show wrp ((w16 95 33) - 1) = (w16 95 33) - 1 from wrp_id (by omega) (by omega)]
                  refine qG.blk 2 (pc' := 91) (ls' := [(2, 95), (9, 0)]) (st' := [(0, 1)]) (w' := (qup w16 95 33 ((w16 95 33) - 1))) (n' := 142) rfl ?_
                  refine qG.ret rfl (by first | rfl | exact decide_eq_true (by omega)) ?_
                  subst hQ9
                  exact ⟨rfl, .inr ⟨rfl, (PS.dep (d' := 0) hP16 (v := (w16 95 33) - 1) (by omega) (by omega) (by omega)).cast (by omega) (by omega) (by omega) (by omega)⟩⟩
    · skip
      refine qG.blk 1 (pc' := 93) (ls' := [(2, 95), (9, 0)]) (st' := [(2, 95)]) (w' := w) (n' := 142) rfl ?_
      refine qG.call (t := 237) (na := 1) (sk := 1) (md := 1) (ls1 := [(2, 95), (9, 0)]) (r1 := []) rfl rfl rfl rfl rfl (K_sumUp (by omega) w hP (by omega)) ?_
      rintro _ w19 _ ⟨rfl, ⟨rfl, hA19⟩ | ⟨rfl, hS19⟩⟩
      · skip
        show qG none (d + 1) 242 96 [(2, 95), (9, 0)] [(0, 0)] w19 142 Q9
        have hBAD := (PS.rf hP).2.1.tr hA19 (by decide +kernel)
        refine qG.br (P := (0 : Int) = 0) (pc1 := 99) (pc2 := 101) (st1 := []) rfl (fun h20 => ?_) (fun h20 => ?_)
        · skip
          refine qG.blk 1 (pc' := 100) (ls' := [(2, 95), (9, 0)]) (st' := [(0, 0)]) (w' := w19) (n' := 142) rfl ?_
          refine qG.ret rfl (by first | rfl | exact decide_eq_true (by omega)) ?_
          subst hQ9
          exact ⟨rfl, .inl ⟨rfl, hBAD⟩⟩
        · exact absurd h20 (by decide)
      · skip
        show qG none (d + 1) 242 96 [(2, 95), (9, 0)] [(0, 1)] w19 142 Q9
        have hP19 := PS.tr (PS.rf hP) hS19 (by omega)
        have hI19 : PI w19 := hS19.2.2.1
        have hb19 := hI19.b
        have hq19 := hP19.fs
        have hd19 := hP19.2.2.2.2.2.1
        have hm19 := hS19.2.2.2.1
        refine qG.br (P := (1 : Int) = 0) (pc1 := 99) (pc2 := 101) (st1 := []) rfl (fun h21 => ?_) (fun h21 => ?_)
        · exact absurd h21 (by decide)
        · skip
          refine qG.blk 3 (pc' := 108) (ls' := [(2, 95), (9, 0)]) (st' := [(0, 160), (0, w19 95 27)]) (w' := w19) (n' := 142) rfl ?_
          refine qG.br (P := w19 95 27 = 160) (pc1 := 111) (pc2 := 116) (st1 := []) rfl (fun h22 => ?_) (fun h22 => ?_)
          · skip
            refine qG.blk 5 (pc' := 150) (ls' := [(2, 95), (0, 12)]) (st' := [(0, (-1)), (0, 12)]) (w' := w19) (n' := 142) rfl ?_
            refine qG.br (P := (12 : Int) = (-1)) (pc1 := 153) (pc2 := 159) (st1 := []) rfl (fun h23 => ?_) (fun h23 => ?_)
            · exact absurd h23 (by decide)
            · skip
              refine qG.blk 1 (pc' := 160) (ls' := [(2, 95), (0, 12)]) (st' := [(2, 95)]) (w' := w19) (n' := 142) rfl ?_
              refine qG.call (t := 231) (na := 1) (sk := 1) (md := 1) (ls1 := [(2, 95), (9, 0)]) (r1 := []) rfl rfl rfl rfl rfl (K_next0 (by omega) w19 hI19.1) ?_
              rintro _ w24 _ ⟨rfl, rfl, hX24⟩
              have hn24 := PS.next hI19 (by omega) hX24
              have hP24 := PS.tr hP19 hn24.1 (by omega)
              have hI24 : PI w24 := hn24.1.2.2.1
              have hg24 := hn24.2
              have hb24 := hI24.b
              have hq24 := hP24.fs
              have hd24 := hP24.2.2.2.2.2.1
              show qG none (d + 1) 242 163 [(2, 95), (0, 12)] [] w24 142 Q9
              refine qG.blk 1 (pc' := 164) (ls' := [(2, 95), (0, 12)]) (st' := [(2, 95)]) (w' := w24) (n' := 142) rfl ?_
              refine qG.call (t := 237) (na := 1) (sk := 1) (md := 1) (ls1 := [(2, 95), (9, 0)]) (r1 := []) rfl rfl rfl rfl rfl (K_sumUp (by omega) w24 hI24 (by omega)) ?_
              rintro _ w25 _ ⟨rfl, ⟨rfl, hA25⟩ | ⟨rfl, hS25⟩⟩
              · skip
                show qG none (d + 1) 242 167 [(2, 95), (0, 12)] [(0, 0)] w25 142 Q9
                have hBAD := hP24.2.1.tr hA25 (by decide +kernel)
                refine qG.br (P := (0 : Int) = 0) (pc1 := 170) (pc2 := 172) (st1 := []) rfl (fun h26 => ?_) (fun h26 => ?_)
                · skip
                  refine qG.blk 1 (pc' := 171) (ls' := [(2, 95), (0, 12)]) (st' := [(0, 0)]) (w' := w25) (n' := 142) rfl ?_
                  refine qG.ret rfl (by first | rfl | exact decide_eq_true (by omega)) ?_
                  subst hQ9
                  exact ⟨rfl, .inl ⟨rfl, hBAD⟩⟩
                · exact absurd h26 (by decide)
              · skip
                show qG none (d + 1) 242 167 [(2, 95), (0, 12)] [(0, 1)] w25 142 Q9
                have hP25 := PS.tr hP24 hS25 (by omega)
                have hI25 : PI w25 := hS25.2.2.1
                have hb25 := hI25.b
                have hq25 := hP25.fs
                have hd25 := hP25.2.2.2.2.2.1
                have hm25 := hS25.2.2.2.1
                refine qG.br (P := (1 : Int) = 0) (pc1 := 170) (pc2 := 172) (st1 := []) rfl (fun h27 => ?_) (fun h27 => ?_)
                · exact absurd h27 (by decide)
                · skip
                  refine qG.blk 3 (pc' := 175) (ls' := [(2, 95), (0, 12)]) (st' := [(0, 0), (0, 12), (2, 95)]) (w' := w25) (n' := 142) rfl ?_
                  refine qG.call (t := 235) (na := 3) (sk := 1) (md := 1) (ls1 := [(2, 95), (0, 12), (0, 0)]) (r1 := []) rfl rfl rfl rfl rfl (K_lay (by omega) 12 0 w25 hI25.1 (by first | omega | (rw [qup_j (by decide)]; omega))) ?_
                  rintro _ _ _ ⟨rfl, rfl, rfl⟩
                  have hl28 := PS.lay (n := 2) (m := 1) hI25 (by first | omega | (rw [qup_j (by decide)]; omega)) (k := 12) (v := 0) ⟨by show (-2147483648 : Int) ≤ _; omega, by show _ ≤ (2147483647 : Int); omega⟩ ⟨by show (-2147483648 : Int) ≤ _; omega, by show _ ≤ (2147483647 : Int); omega⟩ (fun h => by unfold stepH; rw [if_neg (by omega), if_neg (by omega), if_neg (by omega), if_pos (by omega)]; rfl)
                  have hP28 := PS.tr hP25 hl28 (by omega)
                  have hI28 : PI (layW w25 12 0) := hl28.2.2.1
                  have hb28 := hI28.b
                  have hq28 := hP28.fs
                  have hd28 := hP28.2.2.2.2.2.1
                  have hm28 := hl28.2.2.2.1
                  show qG none (d + 1) 242 178 [(2, 95), (0, 12)] [] (layW w25 12 0) 142 Q9
                  refine qG.blk 1 (pc' := 179) (ls' := [(2, 95), (0, 12)]) (st' := [(0, 1)]) (w' := (layW w25 12 0)) (n' := 142) rfl ?_
                  refine qG.ret rfl (by first | rfl | exact decide_eq_true (by omega)) ?_
                  subst hQ9
                  exact ⟨rfl, .inr ⟨rfl, hP28.cast (by omega) (by omega) (by omega) (by omega)⟩⟩
          · skip
            refine qG.blk 3 (pc' := 123) (ls' := [(2, 95), (9, 0)]) (st' := [(0, 161), (0, w19 95 27)]) (w' := w19) (n' := 142) rfl ?_
            refine qG.br (P := w19 95 27 = 161) (pc1 := 126) (pc2 := 131) (st1 := []) rfl (fun h29 => ?_) (fun h29 => ?_)
            · skip
              refine qG.blk 5 (pc' := 150) (ls' := [(2, 95), (0, 13)]) (st' := [(0, (-1)), (0, 13)]) (w' := w19) (n' := 142) rfl ?_
              refine qG.br (P := (13 : Int) = (-1)) (pc1 := 153) (pc2 := 159) (st1 := []) rfl (fun h30 => ?_) (fun h30 => ?_)
              · exact absurd h30 (by decide)
              · skip
                refine qG.blk 1 (pc' := 160) (ls' := [(2, 95), (0, 13)]) (st' := [(2, 95)]) (w' := w19) (n' := 142) rfl ?_
                refine qG.call (t := 231) (na := 1) (sk := 1) (md := 1) (ls1 := [(2, 95), (9, 0)]) (r1 := []) rfl rfl rfl rfl rfl (K_next0 (by omega) w19 hI19.1) ?_
                rintro _ w31 _ ⟨rfl, rfl, hX31⟩
                have hn31 := PS.next hI19 (by omega) hX31
                have hP31 := PS.tr hP19 hn31.1 (by omega)
                have hI31 : PI w31 := hn31.1.2.2.1
                have hg31 := hn31.2
                have hb31 := hI31.b
                have hq31 := hP31.fs
                have hd31 := hP31.2.2.2.2.2.1
                show qG none (d + 1) 242 163 [(2, 95), (0, 13)] [] w31 142 Q9
                refine qG.blk 1 (pc' := 164) (ls' := [(2, 95), (0, 13)]) (st' := [(2, 95)]) (w' := w31) (n' := 142) rfl ?_
                refine qG.call (t := 237) (na := 1) (sk := 1) (md := 1) (ls1 := [(2, 95), (9, 0)]) (r1 := []) rfl rfl rfl rfl rfl (K_sumUp (by omega) w31 hI31 (by omega)) ?_
                rintro _ w32 _ ⟨rfl, ⟨rfl, hA32⟩ | ⟨rfl, hS32⟩⟩
                · skip
                  show qG none (d + 1) 242 167 [(2, 95), (0, 13)] [(0, 0)] w32 142 Q9
                  have hBAD := hP31.2.1.tr hA32 (by decide +kernel)
                  refine qG.br (P := (0 : Int) = 0) (pc1 := 170) (pc2 := 172) (st1 := []) rfl (fun h33 => ?_) (fun h33 => ?_)
                  · skip
                    refine qG.blk 1 (pc' := 171) (ls' := [(2, 95), (0, 13)]) (st' := [(0, 0)]) (w' := w32) (n' := 142) rfl ?_
                    refine qG.ret rfl (by first | rfl | exact decide_eq_true (by omega)) ?_
                    subst hQ9
                    exact ⟨rfl, .inl ⟨rfl, hBAD⟩⟩
                  · exact absurd h33 (by decide)
                · skip
                  show qG none (d + 1) 242 167 [(2, 95), (0, 13)] [(0, 1)] w32 142 Q9
                  have hP32 := PS.tr hP31 hS32 (by omega)
                  have hI32 : PI w32 := hS32.2.2.1
                  have hb32 := hI32.b
                  have hq32 := hP32.fs
                  have hd32 := hP32.2.2.2.2.2.1
                  have hm32 := hS32.2.2.2.1
                  refine qG.br (P := (1 : Int) = 0) (pc1 := 170) (pc2 := 172) (st1 := []) rfl (fun h34 => ?_) (fun h34 => ?_)
                  · exact absurd h34 (by decide)
                  · skip
                    refine qG.blk 3 (pc' := 175) (ls' := [(2, 95), (0, 13)]) (st' := [(0, 0), (0, 13), (2, 95)]) (w' := w32) (n' := 142) rfl ?_
                    refine qG.call (t := 235) (na := 3) (sk := 1) (md := 1) (ls1 := [(2, 95), (0, 13), (0, 0)]) (r1 := []) rfl rfl rfl rfl rfl (K_lay (by omega) 13 0 w32 hI32.1 (by first | omega | (rw [qup_j (by decide)]; omega))) ?_
                    rintro _ _ _ ⟨rfl, rfl, rfl⟩
                    have hl35 := PS.lay (n := 2) (m := 1) hI32 (by first | omega | (rw [qup_j (by decide)]; omega)) (k := 13) (v := 0) ⟨by show (-2147483648 : Int) ≤ _; omega, by show _ ≤ (2147483647 : Int); omega⟩ ⟨by show (-2147483648 : Int) ≤ _; omega, by show _ ≤ (2147483647 : Int); omega⟩ (fun h => by unfold stepH; rw [if_neg (by omega), if_neg (by omega), if_neg (by omega), if_pos (by omega)]; rfl)
                    have hP35 := PS.tr hP32 hl35 (by omega)
                    have hI35 : PI (layW w32 13 0) := hl35.2.2.1
                    have hb35 := hI35.b
                    have hq35 := hP35.fs
                    have hd35 := hP35.2.2.2.2.2.1
                    have hm35 := hl35.2.2.2.1
                    show qG none (d + 1) 242 178 [(2, 95), (0, 13)] [] (layW w32 13 0) 142 Q9
                    refine qG.blk 1 (pc' := 179) (ls' := [(2, 95), (0, 13)]) (st' := [(0, 1)]) (w' := (layW w32 13 0)) (n' := 142) rfl ?_
                    refine qG.ret rfl (by first | rfl | exact decide_eq_true (by omega)) ?_
                    subst hQ9
                    exact ⟨rfl, .inr ⟨rfl, hP35.cast (by omega) (by omega) (by omega) (by omega)⟩⟩
            · skip
              refine qG.blk 3 (pc' := 138) (ls' := [(2, 95), (9, 0)]) (st' := [(0, 162), (0, w19 95 27)]) (w' := w19) (n' := 142) rfl ?_
              refine qG.br (P := w19 95 27 = 162) (pc1 := 141) (pc2 := 146) (st1 := []) rfl (fun h36 => ?_) (fun h36 => ?_)
              · skip
                refine qG.blk 5 (pc' := 150) (ls' := [(2, 95), (0, 14)]) (st' := [(0, (-1)), (0, 14)]) (w' := w19) (n' := 142) rfl ?_
                refine qG.br (P := (14 : Int) = (-1)) (pc1 := 153) (pc2 := 159) (st1 := []) rfl (fun h37 => ?_) (fun h37 => ?_)
                · exact absurd h37 (by decide)
                · skip
                  refine qG.blk 1 (pc' := 160) (ls' := [(2, 95), (0, 14)]) (st' := [(2, 95)]) (w' := w19) (n' := 142) rfl ?_
                  refine qG.call (t := 231) (na := 1) (sk := 1) (md := 1) (ls1 := [(2, 95), (9, 0)]) (r1 := []) rfl rfl rfl rfl rfl (K_next0 (by omega) w19 hI19.1) ?_
                  rintro _ w38 _ ⟨rfl, rfl, hX38⟩
                  have hn38 := PS.next hI19 (by omega) hX38
                  have hP38 := PS.tr hP19 hn38.1 (by omega)
                  have hI38 : PI w38 := hn38.1.2.2.1
                  have hg38 := hn38.2
                  have hb38 := hI38.b
                  have hq38 := hP38.fs
                  have hd38 := hP38.2.2.2.2.2.1
                  show qG none (d + 1) 242 163 [(2, 95), (0, 14)] [] w38 142 Q9
                  refine qG.blk 1 (pc' := 164) (ls' := [(2, 95), (0, 14)]) (st' := [(2, 95)]) (w' := w38) (n' := 142) rfl ?_
                  refine qG.call (t := 237) (na := 1) (sk := 1) (md := 1) (ls1 := [(2, 95), (9, 0)]) (r1 := []) rfl rfl rfl rfl rfl (K_sumUp (by omega) w38 hI38 (by omega)) ?_
                  rintro _ w39 _ ⟨rfl, ⟨rfl, hA39⟩ | ⟨rfl, hS39⟩⟩
                  · skip
                    show qG none (d + 1) 242 167 [(2, 95), (0, 14)] [(0, 0)] w39 142 Q9
                    have hBAD := hP38.2.1.tr hA39 (by decide +kernel)
                    refine qG.br (P := (0 : Int) = 0) (pc1 := 170) (pc2 := 172) (st1 := []) rfl (fun h40 => ?_) (fun h40 => ?_)
                    · skip
                      refine qG.blk 1 (pc' := 171) (ls' := [(2, 95), (0, 14)]) (st' := [(0, 0)]) (w' := w39) (n' := 142) rfl ?_
                      refine qG.ret rfl (by first | rfl | exact decide_eq_true (by omega)) ?_
                      subst hQ9
                      exact ⟨rfl, .inl ⟨rfl, hBAD⟩⟩
                    · exact absurd h40 (by decide)
                  · skip
                    show qG none (d + 1) 242 167 [(2, 95), (0, 14)] [(0, 1)] w39 142 Q9
                    have hP39 := PS.tr hP38 hS39 (by omega)
                    have hI39 : PI w39 := hS39.2.2.1
                    have hb39 := hI39.b
                    have hq39 := hP39.fs
                    have hd39 := hP39.2.2.2.2.2.1
                    have hm39 := hS39.2.2.2.1
                    refine qG.br (P := (1 : Int) = 0) (pc1 := 170) (pc2 := 172) (st1 := []) rfl (fun h41 => ?_) (fun h41 => ?_)
                    · exact absurd h41 (by decide)
                    · skip
                      refine qG.blk 3 (pc' := 175) (ls' := [(2, 95), (0, 14)]) (st' := [(0, 0), (0, 14), (2, 95)]) (w' := w39) (n' := 142) rfl ?_
                      refine qG.call (t := 235) (na := 3) (sk := 1) (md := 1) (ls1 := [(2, 95), (0, 14), (0, 0)]) (r1 := []) rfl rfl rfl rfl rfl (K_lay (by omega) 14 0 w39 hI39.1 (by first | omega | (rw [qup_j (by decide)]; omega))) ?_
                      rintro _ _ _ ⟨rfl, rfl, rfl⟩
                      have hl42 := PS.lay (n := 2) (m := 1) hI39 (by first | omega | (rw [qup_j (by decide)]; omega)) (k := 14) (v := 0) ⟨by show (-2147483648 : Int) ≤ _; omega, by show _ ≤ (2147483647 : Int); omega⟩ ⟨by show (-2147483648 : Int) ≤ _; omega, by show _ ≤ (2147483647 : Int); omega⟩ (fun h => by unfold stepH; rw [if_neg (by omega), if_neg (by omega), if_neg (by omega), if_pos (by omega)]; rfl)
                      have hP42 := PS.tr hP39 hl42 (by omega)
                      have hI42 : PI (layW w39 14 0) := hl42.2.2.1
                      have hb42 := hI42.b
                      have hq42 := hP42.fs
                      have hd42 := hP42.2.2.2.2.2.1
                      have hm42 := hl42.2.2.2.1
                      show qG none (d + 1) 242 178 [(2, 95), (0, 14)] [] (layW w39 14 0) 142 Q9
                      refine qG.blk 1 (pc' := 179) (ls' := [(2, 95), (0, 14)]) (st' := [(0, 1)]) (w' := (layW w39 14 0)) (n' := 142) rfl ?_
                      refine qG.ret rfl (by first | rfl | exact decide_eq_true (by omega)) ?_
                      subst hQ9
                      exact ⟨rfl, .inr ⟨rfl, hP42.cast (by omega) (by omega) (by omega) (by omega)⟩⟩
              · skip
                refine qG.blk 4 (pc' := 150) (ls' := [(2, 95), (0, (-1))]) (st' := [(0, (-1)), (0, (-1))]) (w' := w19) (n' := 142) rfl ?_
                refine qG.br (P := ((-1) : Int) = (-1)) (pc1 := 153) (pc2 := 159) (st1 := []) rfl (fun h43 => ?_) (fun h43 => ?_)
                · skip
                  refine qG.blk 2 (pc' := 155) (ls' := [(2, 95), (0, (-1))]) (st' := [(0, 1), (2, 95)]) (w' := w19) (n' := 142) rfl ?_
                  refine qG.call (t := 232) (na := 2) (sk := 1) (md := 1) (ls1 := [(2, 95), (0, 1)]) (r1 := []) rfl rfl rfl rfl rfl (K_bad (by omega) 1 w19 hI19.1 (by decide) (by decide)) ?_
                  rintro _ _ _ ⟨rfl, rfl, rfl⟩
                  show qG none (d + 1) 242 158 [(2, 95), (0, (-1))] [(0, 0)] (qup (qup w19 95 30 1) 95 31 (w19 95 28)) 142 Q9
                  refine qG.ret rfl (by first | rfl | exact decide_eq_true (by omega)) ?_
                  subst hQ9
                  exact ⟨rfl, .inl ⟨rfl, AW.bad hP19.2.1 (by decide) (by decide)⟩⟩
                · exact absurd h43 (by decide)
theorem K_every (q : Nat) {d : Nat} (hd : 13 + 3 * q ≤ d) (w : qW) (hP : PI w) (hD : w 95 24 ≤ w 95 28) (hq0 : w 95 33 + (q : Int) = 8) (hone : P_one q) : qG none d 241 0 [(2, 95)] [] w 142 (fun (r : qV) (w1 : qW) (n1 : Nat) => n1 = 142 ∧ ((r = (0, 0) ∧ AW PM w w1) ∨ (r = (0, 1) ∧ PS 0 1 0 0 w w1))) := by
  generalize hQ9 : (fun (r : qV) (w1 : qW) (n1 : Nat) => n1 = 142 ∧ ((r = (0, 0) ∧ AW PM w w1) ∨ (r = (0, 1) ∧ PS 0 1 0 0 w w1))) = Q9
  have hb0 := hP.b
  obtain ⟨d, rfl⟩ : ∃ d9, d = d9 + 1 := ⟨d - 1, by omega⟩
  refine qG.blk 1 (pc' := 1) (ls' := [(2, 95)]) (st' := [(2, 95)]) (w' := w) (n' := 142) rfl ?_
  refine qG.call (t := 242) (na := 1) (sk := 1) (md := 1) (ls1 := [(2, 95), (9, 0)]) (r1 := []) rfl rfl rfl rfl rfl (hone d w (by omega) hP (by omega) (by omega)) ?_
  rintro _ w1 _ ⟨rfl, ⟨rfl, hA1⟩ | ⟨rfl, hS1⟩⟩
  · skip
    show qG none (d + 1) 241 4 [(2, 95)] [(0, 0)] w1 142 Q9
    have hBAD := (PS.rf hP).2.1.tr hA1 (by decide +kernel)
    refine qG.br (P := (0 : Int) = 0) (pc1 := 7) (pc2 := 9) (st1 := []) rfl (fun h2 => ?_) (fun h2 => ?_)
    · skip
      refine qG.blk 1 (pc' := 8) (ls' := [(2, 95)]) (st' := [(0, 0)]) (w' := w1) (n' := 142) rfl ?_
      refine qG.ret rfl (by first | rfl | exact decide_eq_true (by omega)) ?_
      subst hQ9
      exact ⟨rfl, .inl ⟨rfl, hBAD⟩⟩
    · exact absurd h2 (by decide)
  · skip
    show qG none (d + 1) 241 4 [(2, 95)] [(0, 1)] w1 142 Q9
    have hP1 := PS.tr (PS.rf hP) hS1 (by omega)
    have hI1 : PI w1 := hS1.2.2.1
    have hb1 := hI1.b
    have hq1 := hP1.fs
    have hd1 := hP1.2.2.2.2.2.1
    have hm1 := hS1.2.2.2.1
    refine qG.br (P := (1 : Int) = 0) (pc1 := 7) (pc2 := 9) (st1 := []) rfl (fun h3 => ?_) (fun h3 => ?_)
    · exact absurd h3 (by decide)
    · skip
      have L9 : ∀ (m9 : Nat) (wL : qW), (600 - wL 95 28).toNat = m9 → (PS 0 1 0 0 w wL) → qG none (d + 1) 241 9 [(2, 95)] [] wL 142 Q9 := by
        intro m9
        induction m9 using Nat.strongRecOn with
        | ind m9 ih9 =>
        intro wL hm9 hI9
        have hPL : PS 0 1 0 0 w wL := hI9
        have hIL : PI wL := hPL.2.2.1
        have hbL := hIL.b
        have hqL := hPL.fs
        have hdL := hPL.2.2.2.2.2.1
        refine qG.blk 3 (pc' := 14) (ls' := [(2, 95)]) (st' := [(0, 5), (0, wL 95 27)]) (w' := wL) (n' := 142) rfl ?_
        refine qG.br (P := wL 95 27 = 5) (pc1 := 17) (pc2 := 40) (st1 := []) rfl (fun h4 => ?_) (fun h4 => ?_)
        · skip
          refine qG.blk 1 (pc' := 18) (ls' := [(2, 95)]) (st' := [(2, 95)]) (w' := wL) (n' := 142) rfl ?_
          refine qG.call (t := 231) (na := 1) (sk := 1) (md := 1) (ls1 := [(2, 95), (9, 0)]) (r1 := []) rfl rfl rfl rfl rfl (K_next0 (by omega) wL hIL.1) ?_
          rintro _ w5 _ ⟨rfl, rfl, hX5⟩
          have hn5 := PS.next hIL (by omega) hX5
          have hP5 := PS.tr hPL hn5.1 (by omega)
          have hI5 : PI w5 := hn5.1.2.2.1
          have hg5 := hn5.2
          have hb5 := hI5.b
          have hq5 := hP5.fs
          have hd5 := hP5.2.2.2.2.2.1
          show qG none (d + 1) 241 21 [(2, 95)] [] w5 142 Q9
          refine qG.blk 1 (pc' := 22) (ls' := [(2, 95)]) (st' := [(2, 95)]) (w' := w5) (n' := 142) rfl ?_
          refine qG.call (t := 242) (na := 1) (sk := 1) (md := 1) (ls1 := [(2, 95), (9, 0)]) (r1 := []) rfl rfl rfl rfl rfl (hone d w5 (by omega) hI5 (by omega) (by omega)) ?_
          rintro _ w6 _ ⟨rfl, ⟨rfl, hA6⟩ | ⟨rfl, hS6⟩⟩
          · skip
            show qG none (d + 1) 241 25 [(2, 95)] [(0, 0)] w6 142 Q9
            have hBAD := hP5.2.1.tr hA6 (by decide +kernel)
            refine qG.br (P := (0 : Int) = 0) (pc1 := 28) (pc2 := 30) (st1 := []) rfl (fun h7 => ?_) (fun h7 => ?_)
            · skip
              refine qG.blk 1 (pc' := 29) (ls' := [(2, 95)]) (st' := [(0, 0)]) (w' := w6) (n' := 142) rfl ?_
              refine qG.ret rfl (by first | rfl | exact decide_eq_true (by omega)) ?_
              subst hQ9
              exact ⟨rfl, .inl ⟨rfl, hBAD⟩⟩
            · exact absurd h7 (by decide)
          · skip
            show qG none (d + 1) 241 25 [(2, 95)] [(0, 1)] w6 142 Q9
            have hP6 := PS.tr hP5 hS6 (by omega)
            have hI6 : PI w6 := hS6.2.2.1
            have hb6 := hI6.b
            have hq6 := hP6.fs
            have hd6 := hP6.2.2.2.2.2.1
            have hm6 := hS6.2.2.2.1
            refine qG.br (P := (1 : Int) = 0) (pc1 := 28) (pc2 := 30) (st1 := []) rfl (fun h8 => ?_) (fun h8 => ?_)
            · exact absurd h8 (by decide)
            · skip
              refine qG.blk 3 (pc' := 34) (ls' := [(2, 95)]) (st' := [(0, 0), (0, 16), (2, 95)]) (w' := w6) (n' := 142) rfl ?_
              refine qG.call (t := 235) (na := 3) (sk := 1) (md := 1) (ls1 := [(2, 95), (0, 16), (0, 0)]) (r1 := []) rfl rfl rfl rfl rfl (K_lay (by omega) 16 0 w6 hI6.1 (by first | omega | (rw [qup_j (by decide)]; omega))) ?_
              rintro _ _ _ ⟨rfl, rfl, rfl⟩
              have hl9 := PS.lay (n := 2) (m := 1) hI6 (by first | omega | (rw [qup_j (by decide)]; omega)) (k := 16) (v := 0) ⟨by show (-2147483648 : Int) ≤ _; omega, by show _ ≤ (2147483647 : Int); omega⟩ ⟨by show (-2147483648 : Int) ≤ _; omega, by show _ ≤ (2147483647 : Int); omega⟩ (fun h => by unfold stepH; rw [if_neg (by omega), if_neg (by omega), if_neg (by omega), if_pos (by omega)]; rfl)
              have hP9 := PS.tr hP6 hl9 (by omega)
              have hI9 : PI (layW w6 16 0) := hl9.2.2.1
              have hb9 := hI9.b
              have hq9 := hP9.fs
              have hd9 := hP9.2.2.2.2.2.1
              have hm9 := hl9.2.2.2.1
              show qG none (d + 1) 241 37 [(2, 95)] [] (layW w6 16 0) 142 Q9
              refine qG.blk 1 (pc' := 9) (ls' := [(2, 95)]) (st' := []) (w' := (layW w6 16 0)) (n' := 142) rfl ?_
              exact ih9 _ (by omega) ((layW w6 16 0)) rfl (hP9.cast (by omega) (by omega) (by omega) (by omega))
        · skip
          refine qG.blk 1 (pc' := 41) (ls' := [(2, 95)]) (st' := [(0, 1)]) (w' := wL) (n' := 142) rfl ?_
          refine qG.ret rfl (by first | rfl | exact decide_eq_true (by omega)) ?_
          subst hQ9
          exact ⟨rfl, .inr ⟨rfl, hPL.cast (by omega) (by omega) (by omega) (by omega)⟩⟩
      exact L9 _ (w1) rfl (hP1.cast (by omega) (by omega) (by omega) (by omega))
theorem K_any (q : Nat) {d : Nat} (hd : 14 + 3 * q ≤ d) (w : qW) (hP : PI w) (hD : w 95 24 ≤ w 95 28) (hq0 : w 95 33 + (q : Int) = 8) (hev : P_every q) : qG none d 240 0 [(2, 95)] [] w 142 (fun (r : qV) (w1 : qW) (n1 : Nat) => n1 = 142 ∧ ((r = (0, 0) ∧ AW PM w w1) ∨ (r = (0, 1) ∧ PS 0 1 0 0 w w1))) := by
  generalize hQ9 : (fun (r : qV) (w1 : qW) (n1 : Nat) => n1 = 142 ∧ ((r = (0, 0) ∧ AW PM w w1) ∨ (r = (0, 1) ∧ PS 0 1 0 0 w w1))) = Q9
  have hb0 := hP.b
  obtain ⟨d, rfl⟩ : ∃ d9, d = d9 + 1 := ⟨d - 1, by omega⟩
  refine qG.blk 1 (pc' := 1) (ls' := [(2, 95)]) (st' := [(2, 95)]) (w' := w) (n' := 142) rfl ?_
  refine qG.call (t := 241) (na := 1) (sk := 1) (md := 1) (ls1 := [(2, 95)]) (r1 := []) rfl rfl rfl rfl rfl (hev d w (by omega) hP (by omega) (by omega)) ?_
  rintro _ w1 _ ⟨rfl, ⟨rfl, hA1⟩ | ⟨rfl, hS1⟩⟩
  · skip
    show qG none (d + 1) 240 4 [(2, 95)] [(0, 0)] w1 142 Q9
    have hBAD := (PS.rf hP).2.1.tr hA1 (by decide +kernel)
    refine qG.br (P := (0 : Int) = 0) (pc1 := 7) (pc2 := 9) (st1 := []) rfl (fun h2 => ?_) (fun h2 => ?_)
    · skip
      refine qG.blk 1 (pc' := 8) (ls' := [(2, 95)]) (st' := [(0, 0)]) (w' := w1) (n' := 142) rfl ?_
      refine qG.ret rfl (by first | rfl | exact decide_eq_true (by omega)) ?_
      subst hQ9
      exact ⟨rfl, .inl ⟨rfl, hBAD⟩⟩
    · exact absurd h2 (by decide)
  · skip
    show qG none (d + 1) 240 4 [(2, 95)] [(0, 1)] w1 142 Q9
    have hP1 := PS.tr (PS.rf hP) hS1 (by omega)
    have hI1 : PI w1 := hS1.2.2.1
    have hb1 := hI1.b
    have hq1 := hP1.fs
    have hd1 := hP1.2.2.2.2.2.1
    have hm1 := hS1.2.2.2.1
    refine qG.br (P := (1 : Int) = 0) (pc1 := 7) (pc2 := 9) (st1 := []) rfl (fun h3 => ?_) (fun h3 => ?_)
    · exact absurd h3 (by decide)
    · skip
      have L9 : ∀ (m9 : Nat) (wL : qW), (600 - wL 95 28).toNat = m9 → (PS 0 1 0 0 w wL) → qG none (d + 1) 240 9 [(2, 95)] [] wL 142 Q9 := by
        intro m9
        induction m9 using Nat.strongRecOn with
        | ind m9 ih9 =>
        intro wL hm9 hI9
        have hPL : PS 0 1 0 0 w wL := hI9
        have hIL : PI wL := hPL.2.2.1
        have hbL := hIL.b
        have hqL := hPL.fs
        have hdL := hPL.2.2.2.2.2.1
        refine qG.blk 3 (pc' := 14) (ls' := [(2, 95)]) (st' := [(0, 4), (0, wL 95 27)]) (w' := wL) (n' := 142) rfl ?_
        refine qG.br (P := wL 95 27 = 4) (pc1 := 17) (pc2 := 40) (st1 := []) rfl (fun h4 => ?_) (fun h4 => ?_)
        · skip
          refine qG.blk 1 (pc' := 18) (ls' := [(2, 95)]) (st' := [(2, 95)]) (w' := wL) (n' := 142) rfl ?_
          refine qG.call (t := 231) (na := 1) (sk := 1) (md := 1) (ls1 := [(2, 95), (9, 0)]) (r1 := []) rfl rfl rfl rfl rfl (K_next0 (by omega) wL hIL.1) ?_
          rintro _ w5 _ ⟨rfl, rfl, hX5⟩
          have hn5 := PS.next hIL (by omega) hX5
          have hP5 := PS.tr hPL hn5.1 (by omega)
          have hI5 : PI w5 := hn5.1.2.2.1
          have hg5 := hn5.2
          have hb5 := hI5.b
          have hq5 := hP5.fs
          have hd5 := hP5.2.2.2.2.2.1
          show qG none (d + 1) 240 21 [(2, 95)] [] w5 142 Q9
          refine qG.blk 1 (pc' := 22) (ls' := [(2, 95)]) (st' := [(2, 95)]) (w' := w5) (n' := 142) rfl ?_
          refine qG.call (t := 241) (na := 1) (sk := 1) (md := 1) (ls1 := [(2, 95)]) (r1 := []) rfl rfl rfl rfl rfl (hev d w5 (by omega) hI5 (by omega) (by omega)) ?_
          rintro _ w6 _ ⟨rfl, ⟨rfl, hA6⟩ | ⟨rfl, hS6⟩⟩
          · skip
            show qG none (d + 1) 240 25 [(2, 95)] [(0, 0)] w6 142 Q9
            have hBAD := hP5.2.1.tr hA6 (by decide +kernel)
            refine qG.br (P := (0 : Int) = 0) (pc1 := 28) (pc2 := 30) (st1 := []) rfl (fun h7 => ?_) (fun h7 => ?_)
            · skip
              refine qG.blk 1 (pc' := 29) (ls' := [(2, 95)]) (st' := [(0, 0)]) (w' := w6) (n' := 142) rfl ?_
              refine qG.ret rfl (by first | rfl | exact decide_eq_true (by omega)) ?_
              subst hQ9
              exact ⟨rfl, .inl ⟨rfl, hBAD⟩⟩
            · exact absurd h7 (by decide)
          · skip
            show qG none (d + 1) 240 25 [(2, 95)] [(0, 1)] w6 142 Q9
            have hP6 := PS.tr hP5 hS6 (by omega)
            have hI6 : PI w6 := hS6.2.2.1
            have hb6 := hI6.b
            have hq6 := hP6.fs
            have hd6 := hP6.2.2.2.2.2.1
            have hm6 := hS6.2.2.2.1
            refine qG.br (P := (1 : Int) = 0) (pc1 := 28) (pc2 := 30) (st1 := []) rfl (fun h8 => ?_) (fun h8 => ?_)
            · exact absurd h8 (by decide)
            · skip
              refine qG.blk 3 (pc' := 34) (ls' := [(2, 95)]) (st' := [(0, 0), (0, 17), (2, 95)]) (w' := w6) (n' := 142) rfl ?_
              refine qG.call (t := 235) (na := 3) (sk := 1) (md := 1) (ls1 := [(2, 95), (0, 17), (0, 0)]) (r1 := []) rfl rfl rfl rfl rfl (K_lay (by omega) 17 0 w6 hI6.1 (by first | omega | (rw [qup_j (by decide)]; omega))) ?_
              rintro _ _ _ ⟨rfl, rfl, rfl⟩
              have hl9 := PS.lay (n := 2) (m := 1) hI6 (by first | omega | (rw [qup_j (by decide)]; omega)) (k := 17) (v := 0) ⟨by show (-2147483648 : Int) ≤ _; omega, by show _ ≤ (2147483647 : Int); omega⟩ ⟨by show (-2147483648 : Int) ≤ _; omega, by show _ ≤ (2147483647 : Int); omega⟩ (fun h => by unfold stepH; rw [if_neg (by omega), if_neg (by omega), if_neg (by omega), if_pos (by omega)]; rfl)
              have hP9 := PS.tr hP6 hl9 (by omega)
              have hI9 : PI (layW w6 17 0) := hl9.2.2.1
              have hb9 := hI9.b
              have hq9 := hP9.fs
              have hd9 := hP9.2.2.2.2.2.1
              have hm9 := hl9.2.2.2.1
              show qG none (d + 1) 240 37 [(2, 95)] [] (layW w6 17 0) 142 Q9
              refine qG.blk 1 (pc' := 9) (ls' := [(2, 95)]) (st' := []) (w' := (layW w6 17 0)) (n' := 142) rfl ?_
              exact ih9 _ (by omega) ((layW w6 17 0)) rfl (hP9.cast (by omega) (by omega) (by omega) (by omega))
        · skip
          refine qG.blk 1 (pc' := 41) (ls' := [(2, 95)]) (st' := [(0, 1)]) (w' := wL) (n' := 142) rfl ?_
          refine qG.ret rfl (by first | rfl | exact decide_eq_true (by omega)) ?_
          subst hQ9
          exact ⟨rfl, .inr ⟨rfl, hPL.cast (by omega) (by omega) (by omega) (by omega)⟩⟩
      exact L9 _ (w1) rfl (hP1.cast (by omega) (by omega) (by omega) (by omega))
theorem P_all : ∀ q : Nat, P_one q ∧ P_every q ∧ P_any q := by
  intro q
  induction q using Nat.strongRecOn with
  | ind q ih =>
    have h1 : P_one q := fun d w hd hP hD h8 => K_one q hd w hP hD h8 (fun q9 h9 => ⟨(ih q9 h9).1, (ih q9 h9).2.2⟩)
    have h2 : P_every q := fun d w hd hP hD h8 => K_every q hd w hP hD h8 h1
    exact ⟨h1, h2, fun d w hd hP hD h8 => K_any q hd w hP hD h8 h2⟩
end
section
/-! the reference's texts: steps, reasons, what is kept of them -/
noncomputable def TM : List Nat := [113, 25095, 27095, 28095, 29095, 30095, 31095, 32095, 34095, 107, 108, 109, 24095]
theorem PI.arr {w : qW} (h : PI w) {p j : Nat} {v : Int} (hp : p ≠ 95) (hI : yInv zgf zga zra zSp (qup w p j v)) : PI (qup w p j v) := ⟨hI, by rw [qup_ne (show (95 : Nat) ≠ p from fun z => hp z.symm)]; exact h.2.1, fun z => by rw [qup_ne (show (95 : Nat) ≠ p from fun z => hp z.symm)] at z ⊢; exact h.2.2 z⟩
theorem PI.fld {w : qW} (h : PI w) {j : Nat} {v : Int} (hp : j ≠ 26 ∧ j ≠ 27 ∧ j ≠ 28) (hI : yInv zgf zga zra zSp (qup w 95 j v)) : PI (qup w 95 j v) := ⟨hI, by rw [qup_j hp.2.2.symm, qup_j hp.1.symm]; exact h.2.1, fun z => by rw [qup_j hp.2.1.symm] at z; rw [qup_j hp.2.2.symm, qup_j hp.1.symm]; exact h.2.2 z⟩
theorem AW.arr {m : List Nat} {w w1 : qW} (h : AW m w w1) {p j : Nat} {v : Int} (hI : yInv zgf zga zra zSp (qup w1 p j v)) (hp : ymem p m = true) (hl : p < 1000) : AW m w (qup w1 p j v) := ⟨hI, fun q i hq => by
  have e : q ≠ p := fun c => by
    subst c
    have := hq hl
    have : (ymem q m || ymem (1000 * (i + 1) + q) m) = false := this
    rw [hp] at this; cases this
  rw [qup_ne e]; exact h.2 q i hq⟩
theorem AW.fld {m : List Nat} {w w1 : qW} (h : AW m w w1) {j : Nat} {v : Int} (hI : yInv zgf zga zra zSp (qup w1 95 j v)) (hp : ymem (1000 * (j + 1) + 95) m = true) : AW m w (qup w1 95 j v) := ⟨hI, fun q i hq => by
  have e : ¬ (q = 95 ∧ i = j) := fun c => by
    obtain ⟨rfl, rfl⟩ := c
    have := hq (by decide)
    have : (ymem 95 m || ymem (1000 * (i + 1) + 95) m) = false := this
    rw [hp, Bool.or_true] at this; cases this
  rw [qup95 e]; exact h.2 q i hq⟩
theorem PM_a {w w1 : qW} (h : AW PM w w1) {p : Nat} (hp : p < 1000) (hf : PM.all (fun e => !Nat.beq (e % 1000) p) = true) (j : Nat) : w1 p j = w p j := h.2 p j (fun _ => ymo_far hp hf j)
/-- the steps read so far -/
noncomputable def SL (w : qW) (L : Nat) : Prop := w 95 23 = (L : Int) ∧ ∀ i, i < L → w 107 i = 2 → w 108 i ≤ 20
theorem SL.pm {w w1 : qW} {L : Nat} (h : SL w L) (a : AW PM w w1) : SL w1 L := ⟨(a.2 95 23 (fun _ => rfl)).trans h.1, fun i hi => by rw [PM_a a (by decide) (by decide +kernel), PM_a a (by decide) (by decide +kernel)]; exact h.2 i hi⟩
noncomputable def stW (w : qW) (L : Nat) (k : Int) : qW := qup (qup w 107 L k) 108 L (w 95 29)
theorem stW_o {w : qW} {L : Nat} {k : Int} {j : Nat} : stW w L k 95 j = w 95 j := by unfold stW; rw [qup_ne (by decide), qup_ne (by decide)]
theorem stW_I {w : qW} {L : Nat} {k : Int} (hI : yInv zgf zga zra zSp w) (h0 : 0 ≤ k) (h5 : k ≤ 5) : yInv zgf zga zra zSp (stW w L k) := zup_a (zup_a hI (b := (0, 5)) rfl rfl ⟨h0, h5⟩) (b := (0, 9999)) rfl rfl (zfld hI (j := 29) (b := (0, 9999)) rfl)
theorem stW_P {w : qW} {L : Nat} {k : Int} (h : PI w) (h0 : 0 ≤ k) (h5 : k ≤ 5) : PI (stW w L k) := ⟨stW_I h.1 h0 h5, by rw [stW_o, stW_o]; exact h.2.1, fun z => by rw [stW_o] at z; rw [stW_o, stW_o]; exact h.2.2 z⟩
theorem stW_A {m : List Nat} {w w1 : qW} {L : Nat} {k : Int} (h : AW m w w1) (h0 : 0 ≤ k) (h5 : k ≤ 5) (h7 : ymem 107 m = true) (h8 : ymem 108 m = true) : AW m w (stW w1 L k) := (h.arr (zup_a h.1 (b := (0, 5)) rfl rfl ⟨h0, h5⟩) h7 (by decide)).arr (stW_I h.1 h0 h5) h8 (by decide)
theorem SL.st {w : qW} {L : Nat} {k : Int} (h : SL w L) (hv : k = 2 → w 95 29 ≤ 20) : ∀ i, i < L + 1 → stW w L k 107 i = 2 → stW w L k 108 i ≤ 20 := fun i hi hk => by
  unfold stW at hk ⊢
  rw [qup_ne (show (107 : Nat) ≠ 108 by decide)] at hk
  by_cases e : i = L
  · subst e
    rw [qup_k] at hk ⊢
    exact hv hk
  · rw [qup_j e] at hk
    rw [qup_j e, qup_ne (by decide)]
    exact h.2 i (by omega) hk

theorem K_aStepB {d : Nat} (hd : 9 ≤ d) (L : Nat) (k : Int) (hk0 : 0 ≤ k) (hk5 : k ≤ 5) (w : qW) (hP : PI w) (hL : SL w L) (hL4 : L < 40) : qG none d 243 70 [(2, 95), (0, k)] [] (stW w L k) 142 (fun (r : qV) (w1 : qW) (n1 : Nat) => n1 = 142 ∧ ((r = (0, 0) ∧ AW TM w w1) ∨ (r = (0, 1) ∧ AW TM w w1 ∧ PI w1 ∧ SL w1 (L + 1) ∧ w 95 28 ≤ w1 95 28))) := by
  generalize hQ9 : (fun (r : qV) (w1 : qW) (n1 : Nat) => n1 = 142 ∧ ((r = (0, 0) ∧ AW TM w w1) ∨ (r = (0, 1) ∧ AW TM w w1 ∧ PI w1 ∧ SL w1 (L + 1) ∧ w 95 28 ≤ w1 95 28))) = Q9
  obtain ⟨d, rfl⟩ : ∃ d9, d = d9 + 1 := ⟨d - 1, by omega⟩
  have hP2 : PI (stW w L k) := stW_P hP hk0 hk5
  have hAB0 : AW TM w (stW w L k) := stW_A (AW.rf hP.1) hk0 hk5 (by decide +kernel) (by decide +kernel)
  refine qG.blk 2 (pc' := 72) (ls' := [(2, 95), (0, k)]) (st' := [(0, 4), (0, k)]) (w' := (stW w L k)) (n' := 142) rfl ?_
  refine qG.br (P := k < 4) (pc1 := 75) (pc2 := 106) (st1 := []) rfl (fun hk4 => ?_) (fun hk4 => ?_)
  · skip
    refine qG.blk 3 (pc' := 78) (ls' := [(2, 95), (0, k)]) (st' := [(0, 2), (0, k), (2, 95)]) (w' := (stW w L k)) (n' := 142) rfl ?_
    refine qG.br (P := k = 2) (pc1 := 81) (pc2 := 85) (st1 := [(2, 95)]) rfl (fun hk2 => ?_) (fun hk2 => ?_)
    · skip
      refine qG.blk 4 (pc' := 88) (ls' := [(2, 95), (0, k)]) (st' := [(0, 2), (0, k), (0, 1), (2, 95)]) (w' := (stW w L k)) (n' := 142) rfl ?_
      refine qG.br (P := k = 2) (pc1 := 91) (pc2 := 96) (st1 := [(0, 1), (2, 95)]) rfl (fun hk2b => ?_) (fun hk2b => ?_)
      · skip
        refine qG.blk 2 (pc' := 98) (ls' := [(2, 95), (0, k)]) (st' := [(0, 20), (0, 1), (2, 95)]) (w' := (stW w L k)) (n' := 142) rfl ?_
        refine qG.call (t := 234) (na := 3) (sk := 1) (md := 1) (ls1 := [(2, 95), (0, 1), (0, 20)]) (r1 := []) rfl rfl rfl rfl rfl (K_number (by omega) (1) (20) (stW w L k) hP2) ?_
        rintro _ w1 _ ⟨rfl, ⟨rfl, hA1⟩ | ⟨rfl, hlo1, hhi1, hS1⟩⟩
        · skip
          show qG none (d + 1) 243 101 [(2, 95), (0, k)] [(0, 0)] w1 142 Q9
          have hBAD := (PS.rf hP2).2.1.tr hA1 (by decide +kernel)
          refine qG.br (P := (0 : Int) = 0) (pc1 := 104) (pc2 := 106) (st1 := []) rfl (fun h2 => ?_) (fun h2 => ?_)
          · skip
            refine qG.blk 1 (pc' := 105) (ls' := [(2, 95), (0, k)]) (st' := [(0, 0)]) (w' := w1) (n' := 142) rfl ?_
            refine qG.ret rfl (by first | rfl | exact decide_eq_true (by omega)) ?_
            subst hQ9
            exact ⟨rfl, .inl ⟨rfl, by first | exact hAB0.tr hBAD (by decide +kernel) | exact hBAD⟩⟩
          · exact absurd h2 (by decide)
        · skip
          show qG none (d + 1) 243 101 [(2, 95), (0, k)] [(0, 1)] w1 142 Q9
          have hP1 := PS.tr (PS.rf hP2) hS1 (by omega)
          have hI1 : PI w1 := hS1.2.2.1
          have hm1 := hP1.2.2.2.1
          refine qG.br (P := (1 : Int) = 0) (pc1 := 104) (pc2 := 106) (st1 := []) rfl (fun h3 => ?_) (fun h3 => ?_)
          · exact absurd h3 (by decide)
          · skip
            refine qG.blk 3 (pc' := 111) (ls' := [(2, 95), (0, k)]) (st' := [(0, w1 95 23), (2, 95)]) (w' := w1) (n' := 142) rfl ?_
            rw [show w1 95 23 = ((L : Nat) : Int) from (hP1.2.1.2 95 23 (fun _ => rfl)).trans (stW_o.trans hL.1)]
            refine qG.blk 2 (pc' := 113) (ls' := [(2, 95), (0, k)]) (st' := [(0, wrp (((L : Nat) : Int) + 1)), (2, 95)]) (w' := w1) (n' := 142) rfl ?_
            rw [show wrp (((L : Nat) : Int) + 1) = ((L + 1 : Nat) : Int) from wrp_id (by omega) (by omega)]
            refine qG.blk 3 (pc' := 120) (ls' := [(2, 95), (0, k)]) (st' := [(0, 159), (2, 95)]) (w' := (qup w1 95 23 ((L + 1 : Nat) : Int))) (n' := 142) rfl ?_
            have hIw4 : yInv zgf zga zra zSp (qup w1 95 23 ((L + 1 : Nat) : Int)) := zup_f hI1.1 (b := (0, 40)) rfl rfl rfl ⟨by show (0 : Int) ≤ _; omega, by show _ ≤ (40 : Int); omega⟩
            have hPw4 : PI (qup w1 95 23 ((L + 1 : Nat) : Int)) := hI1.fld (by decide) hIw4
            refine qG.call (t := 233) (na := 2) (sk := 1) (md := 1) (ls1 := [(2, 95), (0, 159)]) (r1 := []) rfl rfl rfl rfl rfl (K_need (by omega) 159 (by decide) (qup w1 95 23 ((L + 1 : Nat) : Int)) hPw4) ?_
            rintro _ w4 _ ⟨rfl, ⟨rfl, hA4⟩ | ⟨rfl, hS4⟩⟩
            · skip
              show qG none (d + 1) 243 123 [(2, 95), (0, k)] [(0, 0)] w4 142 Q9
              have hBAD := (((hAB0.tr hP1.2.1 (by decide +kernel)).fld hIw4 (by decide +kernel)).tr hA4 (by decide +kernel))
              refine qG.ret rfl (by first | rfl | exact decide_eq_true (by omega)) ?_
              subst hQ9
              exact ⟨rfl, .inl ⟨rfl, by first | exact hAB0.tr hBAD (by decide +kernel) | exact hBAD⟩⟩
            · skip
              show qG none (d + 1) 243 123 [(2, 95), (0, k)] [(0, 1)] w4 142 Q9
              have hAW := (((hAB0.tr hP1.2.1 (by decide +kernel)).fld hIw4 (by decide +kernel)).tr hS4.2.1 (by decide +kernel))
              have hSL : SL (qup w1 95 23 ((L + 1 : Nat) : Int)) (L + 1) := ⟨qup_k, fun i hi => by rw [qup_ne (by decide), qup_ne (by decide), PM_a hP1.2.1 (by decide) (by decide +kernel), PM_a hP1.2.1 (by decide) (by decide +kernel)]; exact hL.st (fun z => by first | (exfalso; omega) | (have e29 := stW_o (w := w) (L := L) (k := k) (j := 29); omega)) i hi⟩
              have hmA := hP1.2.2.2.1
              have hmB := hS4.2.2.2.1
              rw [qup_j (by decide)] at hmB
              try rw [stW_o] at hmB
              rw [stW_o] at hmA
              have hOK := hSL.pm hS4.2.1
              have hPI : PI w4 := hS4.2.2.1
              refine qG.ret rfl (by first | rfl | exact decide_eq_true (by omega)) ?_
              subst hQ9
              exact ⟨rfl, .inr ⟨rfl, hAW, hPI, hOK, by omega⟩⟩
      · skip
        refine qG.blk 1 (pc' := 98) (ls' := [(2, 95), (0, k)]) (st' := [(0, 9), (0, 1), (2, 95)]) (w' := (stW w L k)) (n' := 142) rfl ?_
        refine qG.call (t := 234) (na := 3) (sk := 1) (md := 1) (ls1 := [(2, 95), (0, 1), (0, 9)]) (r1 := []) rfl rfl rfl rfl rfl (K_number (by omega) (1) (9) (stW w L k) hP2) ?_
        rintro _ w5 _ ⟨rfl, ⟨rfl, hA5⟩ | ⟨rfl, hlo5, hhi5, hS5⟩⟩
        · skip
          show qG none (d + 1) 243 101 [(2, 95), (0, k)] [(0, 0)] w5 142 Q9
          have hBAD := (PS.rf hP2).2.1.tr hA5 (by decide +kernel)
          refine qG.br (P := (0 : Int) = 0) (pc1 := 104) (pc2 := 106) (st1 := []) rfl (fun h6 => ?_) (fun h6 => ?_)
          · skip
            refine qG.blk 1 (pc' := 105) (ls' := [(2, 95), (0, k)]) (st' := [(0, 0)]) (w' := w5) (n' := 142) rfl ?_
            refine qG.ret rfl (by first | rfl | exact decide_eq_true (by omega)) ?_
            subst hQ9
            exact ⟨rfl, .inl ⟨rfl, by first | exact hAB0.tr hBAD (by decide +kernel) | exact hBAD⟩⟩
          · exact absurd h6 (by decide)
        · skip
          show qG none (d + 1) 243 101 [(2, 95), (0, k)] [(0, 1)] w5 142 Q9
          have hP5 := PS.tr (PS.rf hP2) hS5 (by omega)
          have hI5 : PI w5 := hS5.2.2.1
          have hm5 := hP5.2.2.2.1
          refine qG.br (P := (1 : Int) = 0) (pc1 := 104) (pc2 := 106) (st1 := []) rfl (fun h7 => ?_) (fun h7 => ?_)
          · exact absurd h7 (by decide)
          · skip
            refine qG.blk 3 (pc' := 111) (ls' := [(2, 95), (0, k)]) (st' := [(0, w5 95 23), (2, 95)]) (w' := w5) (n' := 142) rfl ?_
            rw [show w5 95 23 = ((L : Nat) : Int) from (hP5.2.1.2 95 23 (fun _ => rfl)).trans (stW_o.trans hL.1)]
            refine qG.blk 2 (pc' := 113) (ls' := [(2, 95), (0, k)]) (st' := [(0, wrp (((L : Nat) : Int) + 1)), (2, 95)]) (w' := w5) (n' := 142) rfl ?_
            rw [show wrp (((L : Nat) : Int) + 1) = ((L + 1 : Nat) : Int) from wrp_id (by omega) (by omega)]
            refine qG.blk 3 (pc' := 120) (ls' := [(2, 95), (0, k)]) (st' := [(0, 159), (2, 95)]) (w' := (qup w5 95 23 ((L + 1 : Nat) : Int))) (n' := 142) rfl ?_
            have hIw8 : yInv zgf zga zra zSp (qup w5 95 23 ((L + 1 : Nat) : Int)) := zup_f hI5.1 (b := (0, 40)) rfl rfl rfl ⟨by show (0 : Int) ≤ _; omega, by show _ ≤ (40 : Int); omega⟩
            have hPw8 : PI (qup w5 95 23 ((L + 1 : Nat) : Int)) := hI5.fld (by decide) hIw8
            refine qG.call (t := 233) (na := 2) (sk := 1) (md := 1) (ls1 := [(2, 95), (0, 159)]) (r1 := []) rfl rfl rfl rfl rfl (K_need (by omega) 159 (by decide) (qup w5 95 23 ((L + 1 : Nat) : Int)) hPw8) ?_
            rintro _ w8 _ ⟨rfl, ⟨rfl, hA8⟩ | ⟨rfl, hS8⟩⟩
            · skip
              show qG none (d + 1) 243 123 [(2, 95), (0, k)] [(0, 0)] w8 142 Q9
              have hBAD := (((hAB0.tr hP5.2.1 (by decide +kernel)).fld hIw8 (by decide +kernel)).tr hA8 (by decide +kernel))
              refine qG.ret rfl (by first | rfl | exact decide_eq_true (by omega)) ?_
              subst hQ9
              exact ⟨rfl, .inl ⟨rfl, by first | exact hAB0.tr hBAD (by decide +kernel) | exact hBAD⟩⟩
            · skip
              show qG none (d + 1) 243 123 [(2, 95), (0, k)] [(0, 1)] w8 142 Q9
              have hAW := (((hAB0.tr hP5.2.1 (by decide +kernel)).fld hIw8 (by decide +kernel)).tr hS8.2.1 (by decide +kernel))
              have hSL : SL (qup w5 95 23 ((L + 1 : Nat) : Int)) (L + 1) := ⟨qup_k, fun i hi => by rw [qup_ne (by decide), qup_ne (by decide), PM_a hP5.2.1 (by decide) (by decide +kernel), PM_a hP5.2.1 (by decide) (by decide +kernel)]; exact hL.st (fun z => by first | (exfalso; omega) | (have e29 := stW_o (w := w) (L := L) (k := k) (j := 29); omega)) i hi⟩
              have hmA := hP5.2.2.2.1
              have hmB := hS8.2.2.2.1
              rw [qup_j (by decide)] at hmB
              try rw [stW_o] at hmB
              rw [stW_o] at hmA
              have hOK := hSL.pm hS8.2.1
              have hPI : PI w8 := hS8.2.2.1
              refine qG.ret rfl (by first | rfl | exact decide_eq_true (by omega)) ?_
              subst hQ9
              exact ⟨rfl, .inr ⟨rfl, hAW, hPI, hOK, by omega⟩⟩
    · skip
      refine qG.blk 3 (pc' := 88) (ls' := [(2, 95), (0, k)]) (st' := [(0, 2), (0, k), (0, 0), (2, 95)]) (w' := (stW w L k)) (n' := 142) rfl ?_
      refine qG.br (P := k = 2) (pc1 := 91) (pc2 := 96) (st1 := [(0, 0), (2, 95)]) rfl (fun hk2b => ?_) (fun hk2b => ?_)
      · skip
        refine qG.blk 2 (pc' := 98) (ls' := [(2, 95), (0, k)]) (st' := [(0, 20), (0, 0), (2, 95)]) (w' := (stW w L k)) (n' := 142) rfl ?_
        refine qG.call (t := 234) (na := 3) (sk := 1) (md := 1) (ls1 := [(2, 95), (0, 0), (0, 20)]) (r1 := []) rfl rfl rfl rfl rfl (K_number (by omega) (0) (20) (stW w L k) hP2) ?_
        rintro _ w9 _ ⟨rfl, ⟨rfl, hA9⟩ | ⟨rfl, hlo9, hhi9, hS9⟩⟩
        · skip
          show qG none (d + 1) 243 101 [(2, 95), (0, k)] [(0, 0)] w9 142 Q9
          have hBAD := (PS.rf hP2).2.1.tr hA9 (by decide +kernel)
          refine qG.br (P := (0 : Int) = 0) (pc1 := 104) (pc2 := 106) (st1 := []) rfl (fun h10 => ?_) (fun h10 => ?_)
          · skip
            refine qG.blk 1 (pc' := 105) (ls' := [(2, 95), (0, k)]) (st' := [(0, 0)]) (w' := w9) (n' := 142) rfl ?_
            refine qG.ret rfl (by first | rfl | exact decide_eq_true (by omega)) ?_
            subst hQ9
            exact ⟨rfl, .inl ⟨rfl, by first | exact hAB0.tr hBAD (by decide +kernel) | exact hBAD⟩⟩
          · exact absurd h10 (by decide)
        · skip
          show qG none (d + 1) 243 101 [(2, 95), (0, k)] [(0, 1)] w9 142 Q9
          have hP9 := PS.tr (PS.rf hP2) hS9 (by omega)
          have hI9 : PI w9 := hS9.2.2.1
          have hm9 := hP9.2.2.2.1
          refine qG.br (P := (1 : Int) = 0) (pc1 := 104) (pc2 := 106) (st1 := []) rfl (fun h11 => ?_) (fun h11 => ?_)
          · exact absurd h11 (by decide)
          · skip
            refine qG.blk 3 (pc' := 111) (ls' := [(2, 95), (0, k)]) (st' := [(0, w9 95 23), (2, 95)]) (w' := w9) (n' := 142) rfl ?_
            rw [show w9 95 23 = ((L : Nat) : Int) from (hP9.2.1.2 95 23 (fun _ => rfl)).trans (stW_o.trans hL.1)]
            refine qG.blk 2 (pc' := 113) (ls' := [(2, 95), (0, k)]) (st' := [(0, wrp (((L : Nat) : Int) + 1)), (2, 95)]) (w' := w9) (n' := 142) rfl ?_
            rw [show wrp (((L : Nat) : Int) + 1) = ((L + 1 : Nat) : Int) from wrp_id (by omega) (by omega)]
            refine qG.blk 3 (pc' := 120) (ls' := [(2, 95), (0, k)]) (st' := [(0, 159), (2, 95)]) (w' := (qup w9 95 23 ((L + 1 : Nat) : Int))) (n' := 142) rfl ?_
            have hIw12 : yInv zgf zga zra zSp (qup w9 95 23 ((L + 1 : Nat) : Int)) := zup_f hI9.1 (b := (0, 40)) rfl rfl rfl ⟨by show (0 : Int) ≤ _; omega, by show _ ≤ (40 : Int); omega⟩
            have hPw12 : PI (qup w9 95 23 ((L + 1 : Nat) : Int)) := hI9.fld (by decide) hIw12
            refine qG.call (t := 233) (na := 2) (sk := 1) (md := 1) (ls1 := [(2, 95), (0, 159)]) (r1 := []) rfl rfl rfl rfl rfl (K_need (by omega) 159 (by decide) (qup w9 95 23 ((L + 1 : Nat) : Int)) hPw12) ?_
            rintro _ w12 _ ⟨rfl, ⟨rfl, hA12⟩ | ⟨rfl, hS12⟩⟩
            · skip
              show qG none (d + 1) 243 123 [(2, 95), (0, k)] [(0, 0)] w12 142 Q9
              have hBAD := (((hAB0.tr hP9.2.1 (by decide +kernel)).fld hIw12 (by decide +kernel)).tr hA12 (by decide +kernel))
              refine qG.ret rfl (by first | rfl | exact decide_eq_true (by omega)) ?_
              subst hQ9
              exact ⟨rfl, .inl ⟨rfl, by first | exact hAB0.tr hBAD (by decide +kernel) | exact hBAD⟩⟩
            · skip
              show qG none (d + 1) 243 123 [(2, 95), (0, k)] [(0, 1)] w12 142 Q9
              have hAW := (((hAB0.tr hP9.2.1 (by decide +kernel)).fld hIw12 (by decide +kernel)).tr hS12.2.1 (by decide +kernel))
              have hSL : SL (qup w9 95 23 ((L + 1 : Nat) : Int)) (L + 1) := ⟨qup_k, fun i hi => by rw [qup_ne (by decide), qup_ne (by decide), PM_a hP9.2.1 (by decide) (by decide +kernel), PM_a hP9.2.1 (by decide) (by decide +kernel)]; exact hL.st (fun z => by first | (exfalso; omega) | (have e29 := stW_o (w := w) (L := L) (k := k) (j := 29); omega)) i hi⟩
              have hmA := hP9.2.2.2.1
              have hmB := hS12.2.2.2.1
              rw [qup_j (by decide)] at hmB
              try rw [stW_o] at hmB
              rw [stW_o] at hmA
              have hOK := hSL.pm hS12.2.1
              have hPI : PI w12 := hS12.2.2.1
              refine qG.ret rfl (by first | rfl | exact decide_eq_true (by omega)) ?_
              subst hQ9
              exact ⟨rfl, .inr ⟨rfl, hAW, hPI, hOK, by omega⟩⟩
      · skip
        refine qG.blk 1 (pc' := 98) (ls' := [(2, 95), (0, k)]) (st' := [(0, 9), (0, 0), (2, 95)]) (w' := (stW w L k)) (n' := 142) rfl ?_
        refine qG.call (t := 234) (na := 3) (sk := 1) (md := 1) (ls1 := [(2, 95), (0, 0), (0, 9)]) (r1 := []) rfl rfl rfl rfl rfl (K_number (by omega) (0) (9) (stW w L k) hP2) ?_
        rintro _ w13 _ ⟨rfl, ⟨rfl, hA13⟩ | ⟨rfl, hlo13, hhi13, hS13⟩⟩
        · skip
          show qG none (d + 1) 243 101 [(2, 95), (0, k)] [(0, 0)] w13 142 Q9
          have hBAD := (PS.rf hP2).2.1.tr hA13 (by decide +kernel)
          refine qG.br (P := (0 : Int) = 0) (pc1 := 104) (pc2 := 106) (st1 := []) rfl (fun h14 => ?_) (fun h14 => ?_)
          · skip
            refine qG.blk 1 (pc' := 105) (ls' := [(2, 95), (0, k)]) (st' := [(0, 0)]) (w' := w13) (n' := 142) rfl ?_
            refine qG.ret rfl (by first | rfl | exact decide_eq_true (by omega)) ?_
            subst hQ9
            exact ⟨rfl, .inl ⟨rfl, by first | exact hAB0.tr hBAD (by decide +kernel) | exact hBAD⟩⟩
          · exact absurd h14 (by decide)
        · skip
          show qG none (d + 1) 243 101 [(2, 95), (0, k)] [(0, 1)] w13 142 Q9
          have hP13 := PS.tr (PS.rf hP2) hS13 (by omega)
          have hI13 : PI w13 := hS13.2.2.1
          have hm13 := hP13.2.2.2.1
          refine qG.br (P := (1 : Int) = 0) (pc1 := 104) (pc2 := 106) (st1 := []) rfl (fun h15 => ?_) (fun h15 => ?_)
          · exact absurd h15 (by decide)
          · skip
            refine qG.blk 3 (pc' := 111) (ls' := [(2, 95), (0, k)]) (st' := [(0, w13 95 23), (2, 95)]) (w' := w13) (n' := 142) rfl ?_
            rw [show w13 95 23 = ((L : Nat) : Int) from (hP13.2.1.2 95 23 (fun _ => rfl)).trans (stW_o.trans hL.1)]
            refine qG.blk 2 (pc' := 113) (ls' := [(2, 95), (0, k)]) (st' := [(0, wrp (((L : Nat) : Int) + 1)), (2, 95)]) (w' := w13) (n' := 142) rfl ?_
            rw [show wrp (((L : Nat) : Int) + 1) = ((L + 1 : Nat) : Int) from wrp_id (by omega) (by omega)]
            refine qG.blk 3 (pc' := 120) (ls' := [(2, 95), (0, k)]) (st' := [(0, 159), (2, 95)]) (w' := (qup w13 95 23 ((L + 1 : Nat) : Int))) (n' := 142) rfl ?_
            have hIw16 : yInv zgf zga zra zSp (qup w13 95 23 ((L + 1 : Nat) : Int)) := zup_f hI13.1 (b := (0, 40)) rfl rfl rfl ⟨by show (0 : Int) ≤ _; omega, by show _ ≤ (40 : Int); omega⟩
            have hPw16 : PI (qup w13 95 23 ((L + 1 : Nat) : Int)) := hI13.fld (by decide) hIw16
            refine qG.call (t := 233) (na := 2) (sk := 1) (md := 1) (ls1 := [(2, 95), (0, 159)]) (r1 := []) rfl rfl rfl rfl rfl (K_need (by omega) 159 (by decide) (qup w13 95 23 ((L + 1 : Nat) : Int)) hPw16) ?_
            rintro _ w16 _ ⟨rfl, ⟨rfl, hA16⟩ | ⟨rfl, hS16⟩⟩
            · skip
              show qG none (d + 1) 243 123 [(2, 95), (0, k)] [(0, 0)] w16 142 Q9
              have hBAD := (((hAB0.tr hP13.2.1 (by decide +kernel)).fld hIw16 (by decide +kernel)).tr hA16 (by decide +kernel))
              refine qG.ret rfl (by first | rfl | exact decide_eq_true (by omega)) ?_
              subst hQ9
              exact ⟨rfl, .inl ⟨rfl, by first | exact hAB0.tr hBAD (by decide +kernel) | exact hBAD⟩⟩
            · skip
              show qG none (d + 1) 243 123 [(2, 95), (0, k)] [(0, 1)] w16 142 Q9
              have hAW := (((hAB0.tr hP13.2.1 (by decide +kernel)).fld hIw16 (by decide +kernel)).tr hS16.2.1 (by decide +kernel))
              have hSL : SL (qup w13 95 23 ((L + 1 : Nat) : Int)) (L + 1) := ⟨qup_k, fun i hi => by rw [qup_ne (by decide), qup_ne (by decide), PM_a hP13.2.1 (by decide) (by decide +kernel), PM_a hP13.2.1 (by decide) (by decide +kernel)]; exact hL.st (fun z => by first | (exfalso; omega) | (have e29 := stW_o (w := w) (L := L) (k := k) (j := 29); omega)) i hi⟩
              have hmA := hP13.2.2.2.1
              have hmB := hS16.2.2.2.1
              rw [qup_j (by decide)] at hmB
              try rw [stW_o] at hmB
              rw [stW_o] at hmA
              have hOK := hSL.pm hS16.2.1
              have hPI : PI w16 := hS16.2.2.1
              refine qG.ret rfl (by first | rfl | exact decide_eq_true (by omega)) ?_
              subst hQ9
              exact ⟨rfl, .inr ⟨rfl, hAW, hPI, hOK, by omega⟩⟩
  · skip
    refine qG.blk 3 (pc' := 111) (ls' := [(2, 95), (0, k)]) (st' := [(0, (stW w L k) 95 23), (2, 95)]) (w' := (stW w L k)) (n' := 142) rfl ?_
    rw [show (stW w L k) 95 23 = ((L : Nat) : Int) from stW_o.trans hL.1]
    refine qG.blk 2 (pc' := 113) (ls' := [(2, 95), (0, k)]) (st' := [(0, wrp (((L : Nat) : Int) + 1)), (2, 95)]) (w' := (stW w L k)) (n' := 142) rfl ?_
    rw [show wrp (((L : Nat) : Int) + 1) = ((L + 1 : Nat) : Int) from wrp_id (by omega) (by omega)]
    refine qG.blk 3 (pc' := 120) (ls' := [(2, 95), (0, k)]) (st' := [(0, 159), (2, 95)]) (w' := (qup (stW w L k) 95 23 ((L + 1 : Nat) : Int))) (n' := 142) rfl ?_
    have hIw17 : yInv zgf zga zra zSp (qup (stW w L k) 95 23 ((L + 1 : Nat) : Int)) := zup_f hP2.1 (b := (0, 40)) rfl rfl rfl ⟨by show (0 : Int) ≤ _; omega, by show _ ≤ (40 : Int); omega⟩
    have hPw17 : PI (qup (stW w L k) 95 23 ((L + 1 : Nat) : Int)) := hP2.fld (by decide) hIw17
    refine qG.call (t := 233) (na := 2) (sk := 1) (md := 1) (ls1 := [(2, 95), (0, 159)]) (r1 := []) rfl rfl rfl rfl rfl (K_need (by omega) 159 (by decide) (qup (stW w L k) 95 23 ((L + 1 : Nat) : Int)) hPw17) ?_
    rintro _ w17 _ ⟨rfl, ⟨rfl, hA17⟩ | ⟨rfl, hS17⟩⟩
    · skip
      show qG none (d + 1) 243 123 [(2, 95), (0, k)] [(0, 0)] w17 142 Q9
      have hBAD := (((hAB0.tr (PS.rf hP2).2.1 (by decide +kernel)).fld hIw17 (by decide +kernel)).tr hA17 (by decide +kernel))
      refine qG.ret rfl (by first | rfl | exact decide_eq_true (by omega)) ?_
      subst hQ9
      exact ⟨rfl, .inl ⟨rfl, by first | exact hAB0.tr hBAD (by decide +kernel) | exact hBAD⟩⟩
    · skip
      show qG none (d + 1) 243 123 [(2, 95), (0, k)] [(0, 1)] w17 142 Q9
      have hAW := (((hAB0.tr (PS.rf hP2).2.1 (by decide +kernel)).fld hIw17 (by decide +kernel)).tr hS17.2.1 (by decide +kernel))
      have hSL : SL (qup (stW w L k) 95 23 ((L + 1 : Nat) : Int)) (L + 1) := ⟨qup_k, fun i hi => by rw [qup_ne (by decide), qup_ne (by decide), PM_a (PS.rf hP2).2.1 (by decide) (by decide +kernel), PM_a (PS.rf hP2).2.1 (by decide) (by decide +kernel)]; exact hL.st (fun z => by first | (exfalso; omega) | (have e29 := stW_o (w := w) (L := L) (k := k) (j := 29); omega)) i hi⟩
      have hmA := (PS.rf hP2).2.2.2.1
      have hmB := hS17.2.2.2.1
      rw [qup_j (by decide)] at hmB
      try rw [stW_o] at hmB
      rw [stW_o] at hmA
      have hOK := hSL.pm hS17.2.1
      have hPI : PI w17 := hS17.2.2.1
      refine qG.ret rfl (by first | rfl | exact decide_eq_true (by omega)) ?_
      subst hQ9
      exact ⟨rfl, .inr ⟨rfl, hAW, hPI, hOK, by omega⟩⟩
theorem K_aStep {d : Nat} (hd : 10 ≤ d) (L : Nat) (w : qW) (hP : PI w) (hL : SL w L) (hL4 : L ≤ 40) : qG none d 243 0 [(2, 95), (9, 0)] [] w 142 (fun (r : qV) (w1 : qW) (n1 : Nat) => n1 = 142 ∧ ((r = (0, 0) ∧ AW TM w w1) ∨ (r = (0, 1) ∧ AW TM w w1 ∧ PI w1 ∧ SL w1 (L + 1) ∧ L + 1 ≤ 40 ∧ w 95 28 + 1 ≤ w1 95 28))) := by
  generalize hQ9 : (fun (r : qV) (w1 : qW) (n1 : Nat) => n1 = 142 ∧ ((r = (0, 0) ∧ AW TM w w1) ∨ (r = (0, 1) ∧ AW TM w w1 ∧ PI w1 ∧ SL w1 (L + 1) ∧ L + 1 ≤ 40 ∧ w 95 28 + 1 ≤ w1 95 28))) = Q9
  have hb0 := hP.b
  obtain ⟨d, rfl⟩ : ∃ d9, d = d9 + 1 := ⟨d - 1, by omega⟩
  refine qG.blk 4 (pc' := 8) (ls' := [(2, 95), (9, 0)]) (st' := [(0, 25), (0, 20), (0, w 95 27)]) (w' := w) (n' := 142) rfl ?_
  refine qG.call (t := 206) (na := 3) (sk := 0) (md := 0) (ls1 := [(0, w 95 27), (0, 20), (0, 25)]) (r1 := []) rfl rfl rfl rfl rfl (K_isIn (by omega) _ _ _ _) ?_
  rintro _ w7 _ ⟨rfl, hw7, rfl⟩
  rw [hw7]
  show qG none (d + 1) 243 11 [(2, 95), (9, 0)] [(0, isInV (w 95 27) 20 25)] w 142 Q9
  refine qG.br (P := isInV (w 95 27) 20 25 = 0) (pc1 := 14) (pc2 := 20) (st1 := []) rfl (fun hin => ?_) (fun hin => ?_)
  · skip
    refine qG.blk 2 (pc' := 16) (ls' := [(2, 95), (9, 0)]) (st' := [(0, 1), (2, 95)]) (w' := w) (n' := 142) rfl ?_
    refine qG.call (t := 232) (na := 2) (sk := 1) (md := 1) (ls1 := [(2, 95), (0, 1)]) (r1 := []) rfl rfl rfl rfl rfl (K_bad (by omega) 1 w hP.1 (by decide) (by decide)) ?_
    rintro _ _ _ ⟨rfl, rfl, rfl⟩
    show qG none (d + 1) 243 19 [(2, 95), (9, 0)] [(0, 0)] (qup (qup w 95 30 1) 95 31 (w 95 28)) 142 Q9
    refine qG.ret rfl (by first | rfl | exact decide_eq_true (by omega)) ?_
    subst hQ9
    exact ⟨rfl, .inl ⟨rfl, (AW.rf hP.1).tr (AW.bad (PS.rf hP).2.1 (by decide) (by decide)) (by decide +kernel)⟩⟩
  · skip
    have hin2 : 20 ≤ w 95 27 ∧ w 95 27 ≤ 25 := by unfold isInV at hin; (repeat' split at hin) <;> omega
    refine qG.blk 2 (pc' := 24) (ls' := [(2, 95), (9, 0)]) (st' := [(0, w 95 23)]) (w' := w) (n' := 142) rfl ?_
    rw [show w 95 23 = ((L : Nat) : Int) from hL.1]
    refine qG.blk 1 (pc' := 26) (ls' := [(2, 95), (9, 0)]) (st' := [(0, 40), (0, ((L : Nat) : Int))]) (w' := w) (n' := 142) rfl ?_
    refine qG.br (P := ((L : Nat) : Int) = 40) (pc1 := 29) (pc2 := 35) (st1 := []) rfl (fun h40 => ?_) (fun h40 => ?_)
    · skip
      refine qG.blk 2 (pc' := 31) (ls' := [(2, 95), (9, 0)]) (st' := [(0, 3), (2, 95)]) (w' := w) (n' := 142) rfl ?_
      refine qG.call (t := 232) (na := 2) (sk := 1) (md := 1) (ls1 := [(2, 95), (0, 3)]) (r1 := []) rfl rfl rfl rfl rfl (K_bad (by omega) 3 w hP.1 (by decide) (by decide)) ?_
      rintro _ _ _ ⟨rfl, rfl, rfl⟩
      show qG none (d + 1) 243 34 [(2, 95), (9, 0)] [(0, 0)] (qup (qup w 95 30 3) 95 31 (w 95 28)) 142 Q9
      refine qG.ret rfl (by first | rfl | exact decide_eq_true (by omega)) ?_
      subst hQ9
      exact ⟨rfl, .inl ⟨rfl, (AW.rf hP.1).tr (AW.bad (PS.rf hP).2.1 (by decide) (by decide)) (by decide +kernel)⟩⟩
    · skip
      refine qG.blk 4 (pc' := 42) (ls' := [(2, 95), (9, 0)]) (st' := [(0, wrp ((w 95 27) - 20))]) (w' := w) (n' := 142) rfl ?_
      rw [show wrp ((w 95 27) - 20) = w 95 27 - 20 from wrp_id (by omega) (by omega)]
      refine qG.blk 2 (pc' := 44) (ls' := [(2, 95), (0, w 95 27 - 20)]) (st' := [(2, 95)]) (w' := w) (n' := 142) rfl ?_
      refine qG.call (t := 231) (na := 1) (sk := 1) (md := 1) (ls1 := [(2, 95), (9, 0)]) (r1 := []) rfl rfl rfl rfl rfl (K_next0 (by omega) w hP.1) ?_
      rintro _ w1 _ ⟨rfl, rfl, hX1⟩
      have hn1 := PS.next hP (by omega) hX1
      have hP1 := PS.tr (PS.rf hP) hn1.1 (by omega)
      have hI1 : PI w1 := hn1.1.2.2.1
      have hg1 := hn1.2
      have hb1 := hI1.b
      have hq1 := hP1.fs
      have hd1 := hP1.2.2.2.2.2.1
      show qG none (d + 1) 243 47 [(2, 95), (0, w 95 27 - 20)] [] w1 142 Q9
      refine qG.blk 2 (pc' := 51) (ls' := [(2, 95), (0, w 95 27 - 20)]) (st' := [(2, w1 95 13)]) (w' := w1) (n' := 142) rfl ?_
      rw [show w1 95 13 = 107 from zref hI1.1 rfl rfl]
      refine qG.blk 2 (pc' := 55) (ls' := [(2, 95), (0, w 95 27 - 20)]) (st' := [(0, w1 95 23), (2, 107)]) (w' := w1) (n' := 142) rfl ?_
      rw [show w1 95 23 = ((L : Nat) : Int) from (hP1.2.1.2 95 23 (fun _ => rfl)).trans hL.1]
      refine qG.blk 1 (pc' := 56) (ls' := [(2, 95), (0, w 95 27 - 20)]) (st' := [(0, w 95 27 - 20), (0, ((L : Nat) : Int)), (2, 107)]) (w' := w1) (n' := 142) rfl ?_
      refine qG.ar (P := 0 ≤ ((L : Nat) : Int) ∧ ((L : Nat) : Int) < ((40 : Nat) : Int)) (P2 := 0 < (107 : Int) ∧ (107 : Int) ≤ ((142 : Nat) : Int)) (pc' := 57) (ls' := [(2, 95), (0, w 95 27 - 20)]) (st' := []) (w' := (qup w1 107 L (w 95 27 - 20))) (n' := 142) rfl (by omega) (by decide) ?_
      refine qG.blk 2 (pc' := 61) (ls' := [(2, 95), (0, w 95 27 - 20)]) (st' := [(2, w1 95 14)]) (w' := (qup w1 107 L (w 95 27 - 20))) (n' := 142) rfl ?_
      rw [show w1 95 14 = 108 from zref hI1.1 rfl rfl]
      refine qG.blk 2 (pc' := 65) (ls' := [(2, 95), (0, w 95 27 - 20)]) (st' := [(0, w1 95 23), (2, 108)]) (w' := (qup w1 107 L (w 95 27 - 20))) (n' := 142) rfl ?_
      rw [show w1 95 23 = ((L : Nat) : Int) from (hP1.2.1.2 95 23 (fun _ => rfl)).trans hL.1]
      refine qG.blk 2 (pc' := 69) (ls' := [(2, 95), (0, w 95 27 - 20)]) (st' := [(0, w1 95 29), (0, ((L : Nat) : Int)), (2, 108)]) (w' := (qup w1 107 L (w 95 27 - 20))) (n' := 142) rfl ?_
      refine qG.ar (P := 0 ≤ ((L : Nat) : Int) ∧ ((L : Nat) : Int) < ((40 : Nat) : Int)) (P2 := 0 < (108 : Int) ∧ (108 : Int) ≤ ((142 : Nat) : Int)) (pc' := 70) (ls' := [(2, 95), (0, w 95 27 - 20)]) (st' := []) (w' := (qup (qup w1 107 L (w 95 27 - 20)) 108 L (w1 95 29))) (n' := 142) rfl (by omega) (by decide) ?_
      rw [show qup (qup w1 107 L (w 95 27 - 20)) 108 L (w1 95 29) = stW w1 L (w 95 27 - 20) from rfl]
      have hSLn := hL.pm hP1.2.1
      subst hQ9
      refine qG.mono (K_aStepB (by omega) L (w 95 27 - 20) (by omega) (by omega) w1 hI1 hSLn (by omega)) ?_
      rintro _ w9 _ ⟨rfl, ⟨rfl, hA9⟩ | ⟨rfl, hA9, hP9, hS9, hm9⟩⟩
      · exact ⟨rfl, .inl ⟨rfl, ((AW.rf hP.1).tr hP1.2.1 (by decide +kernel)).tr hA9 (by decide +kernel)⟩⟩
      · exact ⟨rfl, .inr ⟨rfl, ((AW.rf hP.1).tr hP1.2.1 (by decide +kernel)).tr hA9 (by decide +kernel), hP9, hS9, by omega, by omega⟩⟩
theorem K_need2 {d : Nat} (hd : 8 ≤ d) (t : Int) (ht : t ≠ 0) (w : qW) (hP : PI w) : qG none d 233 0 [(2, 95), (0, t)] [] w 142 (fun (r : qV) (w1 : qW) (n1 : Nat) => n1 = 142 ∧ ((r = (0, 0) ∧ AW PM w w1) ∨ (r = (0, 1) ∧ PS 0 0 1 0 w w1 ∧ w 95 28 + 1 ≤ w1 95 28 ∧ w1 95 24 = w 95 24))) := by
  generalize hQ9 : (fun (r : qV) (w1 : qW) (n1 : Nat) => n1 = 142 ∧ ((r = (0, 0) ∧ AW PM w w1) ∨ (r = (0, 1) ∧ PS 0 0 1 0 w w1 ∧ w 95 28 + 1 ≤ w1 95 28 ∧ w1 95 24 = w 95 24))) = Q9
  have hb0 := hP.b
  obtain ⟨d, rfl⟩ : ∃ d9, d = d9 + 1 := ⟨d - 1, by omega⟩
  refine qG.blk 3 (pc' := 5) (ls' := [(2, 95), (0, t)]) (st' := [(0, t), (0, w 95 27)]) (w' := w) (n' := 142) rfl ?_
  refine qG.br (P := w 95 27 = t) (pc1 := 14) (pc2 := 8) (st1 := []) rfl (fun h1 => ?_) (fun h1 => ?_)
  · skip
    refine qG.blk 1 (pc' := 15) (ls' := [(2, 95), (0, t)]) (st' := [(2, 95)]) (w' := w) (n' := 142) rfl ?_
    refine qG.call (t := 231) (na := 1) (sk := 1) (md := 1) (ls1 := [(2, 95), (9, 0)]) (r1 := []) rfl rfl rfl rfl rfl (K_next0 (by omega) w hP.1) ?_
    rintro _ w2 _ ⟨rfl, rfl, hX2⟩
    have hn2 := PS.next hP (by omega) hX2
    have hP2 := PS.tr (PS.rf hP) hn2.1 (by omega)
    have hI2 : PI w2 := hn2.1.2.2.1
    have hg2 := hn2.2
    have hb2 := hI2.b
    have hq2 := hP2.fs
    have hd2 := hP2.2.2.2.2.2.1
    show qG none (d + 1) 233 18 [(2, 95), (0, t)] [] w2 142 Q9
    refine qG.blk 1 (pc' := 19) (ls' := [(2, 95), (0, t)]) (st' := [(0, 1)]) (w' := w2) (n' := 142) rfl ?_
    refine qG.ret rfl (by first | rfl | exact decide_eq_true (by omega)) ?_
    subst hQ9
    exact ⟨rfl, .inr ⟨rfl, hn2.1, hn2.2, (hX2.look hP.1).1.2 95 24 (fun _ => rfl)⟩⟩
  · skip
    refine qG.blk 2 (pc' := 10) (ls' := [(2, 95), (0, t)]) (st' := [(0, 1), (2, 95)]) (w' := w) (n' := 142) rfl ?_
    refine qG.call (t := 232) (na := 2) (sk := 1) (md := 1) (ls1 := [(2, 95), (0, 1)]) (r1 := []) rfl rfl rfl rfl rfl (K_bad (by omega) 1 w hP.1 (by decide) (by decide)) ?_
    rintro _ _ _ ⟨rfl, rfl, rfl⟩
    show qG none (d + 1) 233 13 [(2, 95), (0, t)] [(0, 0)] (qup (qup w 95 30 1) 95 31 (w 95 28)) 142 Q9
    refine qG.ret rfl (by first | rfl | exact decide_eq_true (by omega)) ?_
    subst hQ9
    exact ⟨rfl, .inl ⟨rfl, AW.bad (PS.rf hP).2.1 (by decide) (by decide)⟩⟩
/-- the reasons read so far -/
noncomputable def RsL (w : qW) (L : Nat) : Prop := w 95 23 = (L : Int) ∧ w 109 L = w 95 24 ∧ (∀ i, i ≤ L → 0 ≤ w 109 i ∧ w 109 i ≤ w 95 24) ∧ ∀ i, i < L → (w 108 i = 0 ∨ w 108 i = 1) ∧ w 109 i ≤ w 109 (i + 1) ∧ ∀ h, runS (w 113) (w 109 i).toNat (w 109 (i + 1) - w 109 i).toNat h = some (h + 1)
noncomputable def rsW (w : qW) (L : Nat) : qW := qup (qup (qup w 108 L (w 95 27 - 7)) 109 L (w 95 24)) 95 33 0
noncomputable def reW (w : qW) (L : Nat) : qW := qup (qup w 95 23 ((L + 1 : Nat) : Int)) 109 (L + 1) (w 95 24)
theorem rsW_o {w : qW} {L j : Nat} (h : j ≠ 33) : rsW w L 95 j = w 95 j := by unfold rsW; rw [qup_j h, qup_ne (by decide), qup_ne (by decide)]
theorem reW_o {w : qW} {L j : Nat} (h : j ≠ 23) : reW w L 95 j = w 95 j := by unfold reW; rw [qup_ne (by decide), qup_j h]
theorem rsW_I {w : qW} {L : Nat} (hI : yInv zgf zga zra zSp w) (h7 : 7 ≤ w 95 27) : yInv zgf zga zra zSp (rsW w L) := by
  have h1 := zfld hI (j := 27) (b := (0, 355)) rfl
  have h2 : w 95 27 ≤ (355 : Int) := h1.2
  exact zup_f (zup_a (zup_a hI (b := (0, 9999)) rfl rfl ⟨by show (0 : Int) ≤ _; omega, by show _ ≤ (9999 : Int); omega⟩) (b := (0, 610)) rfl rfl (zfld hI (j := 24) (b := (0, 610)) rfl)) (b := (0, 8)) rfl rfl rfl ⟨by decide, by decide⟩
theorem rsW_P {w : qW} {L : Nat} (h : PI w) (h7 : 7 ≤ w 95 27) : PI (rsW w L) := ⟨rsW_I h.1 h7, by rw [rsW_o (by decide), rsW_o (by decide)]; exact h.2.1, fun z => by rw [rsW_o (by decide)] at z; rw [rsW_o (by decide), rsW_o (by decide)]; exact h.2.2 z⟩
theorem rsW_A {w : qW} {L : Nat} (hI : yInv zgf zga zra zSp w) (h7 : 7 ≤ w 95 27) : AW TM w (rsW w L) := by
  refine ⟨rsW_I hI h7, fun q i hq => ?_⟩
  have e1 : q ≠ 108 := fun c => by subst c; exact absurd (hq (by decide)) (by rw [show ymo 108 i TM = true from rfl]; decide)
  have e2 : q ≠ 109 := fun c => by subst c; exact absurd (hq (by decide)) (by rw [show ymo 109 i TM = true from rfl]; decide)
  unfold rsW
  rw [qup95 (fun c => by obtain ⟨rfl, rfl⟩ := c; exact absurd (hq (by decide)) (by decide)), qup_ne e2, qup_ne e1]
theorem reW_I {w : qW} {L : Nat} (hI : yInv zgf zga zra zSp w) (hL : L < 40) : yInv zgf zga zra zSp (reW w L) := zup_a (zup_f hI (b := (0, 40)) rfl rfl rfl ⟨by show (0 : Int) ≤ _; omega, by show _ ≤ (40 : Int); omega⟩) (b := (0, 610)) rfl rfl (zfld hI (j := 24) (b := (0, 610)) rfl)
theorem reW_P {w : qW} {L : Nat} (h : PI w) (hL : L < 40) : PI (reW w L) := ⟨reW_I h.1 hL, by rw [reW_o (by decide), reW_o (by decide)]; exact h.2.1, fun z => by rw [reW_o (by decide)] at z; rw [reW_o (by decide), reW_o (by decide)]; exact h.2.2 z⟩
theorem reW_A {w : qW} {L : Nat} (hI : yInv zgf zga zra zSp w) (hL : L < 40) : AW TM w (reW w L) := by
  refine ⟨reW_I hI hL, fun q i hq => ?_⟩
  have e2 : q ≠ 109 := fun c => by subst c; exact absurd (hq (by decide)) (by rw [show ymo 109 i TM = true from rfl]; decide)
  unfold reW
  rw [qup_ne e2, qup95 (fun c => by obtain ⟨rfl, rfl⟩ := c; exact absurd (hq (by decide)) (by decide))]
theorem RsL.next {w w1 : qW} {L : Nat} {s d : Int} (h : RsL w L) (h7 : w 95 27 = 7 ∨ w 95 27 = 8) (hp : PS 0 1 s d (rsW w L) w1) : RsL (reW w1 L) (L + 1) := by
  obtain ⟨x0, x1, x2, x3, x4, x5, x6, x7, x8⟩ := hp
  obtain ⟨r1, r2, r3, r4⟩ := h
  rw [rsW_o (by decide)] at x6 x7 x8
  have a109 : ∀ i, w1 109 i = rsW w L 109 i := fun i => PM_a x1 (by decide) (by decide +kernel) i
  have a108 : ∀ i, w1 108 i = rsW w L 108 i := fun i => PM_a x1 (by decide) (by decide +kernel) i
  have b109 : ∀ i, i ≤ L → w1 109 i = w 109 i := fun i hi => by
    rw [a109]
    unfold rsW
    rw [qup_ne (by decide)]
    by_cases e : i = L
    · subst e; rw [qup_k]; exact r2.symm
    · rw [qup_j e, qup_ne (by decide)]
  have b108 : ∀ i, i < L → w1 108 i = w 108 i := fun i hi => by
    rw [a108]
    unfold rsW
    rw [qup_ne (by decide), qup_ne (by decide), qup_j (by omega)]
  have bL : w1 108 L = w 95 27 - 7 := by
    rw [a108]
    unfold rsW
    rw [qup_ne (by decide), qup_ne (by decide), qup_k]
  have c109 : ∀ i, i ≤ L → reW w1 L 109 i = w 109 i := fun i hi => by
    unfold reW
    rw [qup_j (by omega), qup_ne (by decide), b109 i hi]
  have cL : reW w1 L 109 (L + 1) = w1 95 24 := by unfold reW; rw [qup_k]
  have c108 : ∀ i, reW w1 L 108 i = w1 108 i := fun i => by unfold reW; rw [qup_ne (by decide), qup_ne (by decide)]
  have c113 : reW w1 L 113 = w1 113 := by unfold reW; rw [qup_ne (by decide), qup_ne (by decide)]
  have d113 : ∀ j : Nat, (j : Int) < 2 * w 95 24 → w1 113 j = w 113 j := fun j hj => by
    rw [x7 j hj]; unfold rsW; rw [qup_ne (by decide), qup_ne (by decide), qup_ne (by decide)]
  have hf := r3 L (Nat.le_refl L)
  refine ⟨by unfold reW; rw [qup_ne (by decide), qup_k], by rw [cL, reW_o (by decide)], fun i hi => ?_, fun i hi => ?_⟩
  · rw [reW_o (by decide)]
    by_cases e : i = L + 1
    · rw [e, cL]; omega
    · rw [c109 i (by omega)]
      have := r3 i (by omega)
      omega
  · rw [c108, c113]
    by_cases e : i = L
    · subst e
      rw [bL, cL, c109 i (Nat.le_refl i), r2]
      exact ⟨by omega, by omega, fun q => x8 q⟩
    · have q1 := r4 i (by omega)
      rw [b108 i (by omega), c109 i (by omega), c109 (i + 1) (by omega)]
      refine ⟨q1.1, q1.2.1, fun q => ?_⟩
      rw [← q1.2.2 q]
      have t1 := r3 i (by omega)
      have t2 := r3 (i + 1) (by omega)
      exact runS_cong _ (fun j h1 h2 => d113 j (by omega))
theorem RsL.keep {w w1 : qW} {L : Nat} (h : RsL w L) (a : AW PM w w1) (e : w1 95 24 = w 95 24) (h113 : ∀ j : Nat, (j : Int) < 2 * w 95 24 → w1 113 j = w 113 j) : RsL w1 L := by
  obtain ⟨r1, r2, r3, r4⟩ := h
  have b109 : ∀ i, w1 109 i = w 109 i := fun i => PM_a a (by decide) (by decide +kernel) i
  have b108 : ∀ i, w1 108 i = w 108 i := fun i => PM_a a (by decide) (by decide +kernel) i
  refine ⟨(a.2 95 23 (fun _ => rfl)).trans r1, by rw [b109, e, r2], fun i hi => by rw [b109, e]; exact r3 i hi, fun i hi => ?_⟩
  rw [b108, b109, b109]
  have q1 := r4 i hi
  refine ⟨q1.1, q1.2.1, fun q => ?_⟩
  rw [← q1.2.2 q]
  have t1 := r3 i (by omega)
  have t2 := r3 (i + 1) (by omega)
  exact runS_cong _ (fun j h1 h2 => h113 j (by omega))
theorem K_aReasonB {d : Nat} (hd : 40 ≤ d) (L : Nat) (w : qW) (hP : PI w) (hD : w 95 24 ≤ w 95 28) (hL : RsL w L) (hL20 : L < 20) (h78 : w 95 27 = 7 ∨ w 95 27 = 8) : qG none d 244 73 [(2, 95)] [] (rsW w L) 142 (fun (r : qV) (w1 : qW) (n1 : Nat) => n1 = 142 ∧ ((r = (0, 0) ∧ AW TM w w1) ∨ (r = (0, 1) ∧ AW TM w w1 ∧ PI w1 ∧ RsL w1 (L + 1) ∧ w1 95 24 ≤ w1 95 28 ∧ w 95 28 + 1 ≤ w1 95 28 ∧ L + 1 ≤ 20))) := by
  generalize hQ9 : (fun (r : qV) (w1 : qW) (n1 : Nat) => n1 = 142 ∧ ((r = (0, 0) ∧ AW TM w w1) ∨ (r = (0, 1) ∧ AW TM w w1 ∧ PI w1 ∧ RsL w1 (L + 1) ∧ w1 95 24 ≤ w1 95 28 ∧ w 95 28 + 1 ≤ w1 95 28 ∧ L + 1 ≤ 20))) = Q9
  obtain ⟨d, rfl⟩ : ∃ d9, d = d9 + 1 := ⟨d - 1, by omega⟩
  have hP3 : PI (rsW w L) := rsW_P hP (by omega)
  have hAB0 : AW TM w (rsW w L) := rsW_A hP.1 (by omega)
  refine qG.blk 1 (pc' := 74) (ls' := [(2, 95)]) (st' := [(2, 95)]) (w' := (rsW w L)) (n' := 142) rfl ?_
  refine qG.call (t := 231) (na := 1) (sk := 1) (md := 1) (ls1 := [(2, 95), (9, 0)]) (r1 := []) rfl rfl rfl rfl rfl (K_next0 (by omega) (rsW w L) hP3.1) ?_
  rintro _ w1 _ ⟨rfl, rfl, hX1⟩
  have hn1 := PS.next hP3 (by rw [rsW_o (by decide)]; omega) hX1
  have hP1 := PS.tr (PS.rf hP3) hn1.1 (by omega)
  have hI1 : PI w1 := hn1.1.2.2.1
  have hg1 := hn1.2
  rw [rsW_o (by decide)] at hg1
  have hb1 := hI1.b
  have hq1 := hP1.fs
  have hd1 := hP1.2.2.2.2.2.1
  rw [rsW_o (by decide), rsW_o (by decide)] at hq1
  rw [show rsW w L 95 33 = 0 from qup_k] at hd1
  show qG none (d + 1) 244 77 [(2, 95)] [] w1 142 Q9
  refine qG.blk 2 (pc' := 79) (ls' := [(2, 95)]) (st' := [(0, 3), (2, 95)]) (w' := w1) (n' := 142) rfl ?_
  refine qG.call (t := 233) (na := 2) (sk := 1) (md := 1) (ls1 := [(2, 95), (0, 3)]) (r1 := []) rfl rfl rfl rfl rfl (K_need (by omega) 3 (by decide) w1 hI1) ?_
  rintro _ w2 _ ⟨rfl, ⟨rfl, hA2⟩ | ⟨rfl, hS2⟩⟩
  · skip
    show qG none (d + 1) 244 82 [(2, 95)] [(0, 0)] w2 142 Q9
    have hBAD := hAB0.tr (hP1.2.1.tr hA2 (by decide +kernel)) (by decide +kernel)
    refine qG.br (P := (0 : Int) = 0) (pc1 := 92) (pc2 := 85) (st1 := []) rfl (fun h3 => ?_) (fun h3 => ?_)
    · skip
      refine qG.blk 1 (pc' := 93) (ls' := [(2, 95)]) (st' := [(0, 0)]) (w' := w2) (n' := 142) rfl ?_
      refine qG.ret rfl (by first | rfl | exact decide_eq_true (by omega)) ?_
      subst hQ9
      exact ⟨rfl, .inl ⟨rfl, hBAD⟩⟩
    · exact absurd h3 (by decide)
  · skip
    show qG none (d + 1) 244 82 [(2, 95)] [(0, 1)] w2 142 Q9
    have hP2 := PS.tr hP1 hS2 (by omega)
    have hI2 : PI w2 := hS2.2.2.1
    have hm2 := hS2.2.2.2.1
    have hb2 := hI2.b
    have hq2 := hP2.fs
    have hd2 := hP2.2.2.2.2.2.1
    rw [rsW_o (by decide), rsW_o (by decide)] at hq2
    rw [show rsW w L 95 33 = 0 from qup_k] at hd2
    refine qG.br (P := (1 : Int) = 0) (pc1 := 92) (pc2 := 85) (st1 := []) rfl (fun h4 => ?_) (fun h4 => ?_)
    · exact absurd h4 (by decide)
    · skip
      refine qG.blk 1 (pc' := 86) (ls' := [(2, 95)]) (st' := [(2, 95)]) (w' := w2) (n' := 142) rfl ?_
      refine qG.call (t := 240) (na := 1) (sk := 1) (md := 1) (ls1 := [(2, 95)]) (r1 := []) rfl rfl rfl rfl rfl ((P_all 8).2.2 d w2 (by omega) hI2 (by omega) (by omega)) ?_
      rintro _ w5 _ ⟨rfl, ⟨rfl, hA5⟩ | ⟨rfl, hS5⟩⟩
      · skip
        show qG none (d + 1) 244 89 [(2, 95)] [(0, 0)] w5 142 Q9
        have hBAD := hAB0.tr (hP2.2.1.tr hA5 (by decide +kernel)) (by decide +kernel)
        refine qG.br (P := (0 : Int) = 0) (pc1 := 92) (pc2 := 94) (st1 := []) rfl (fun h6 => ?_) (fun h6 => ?_)
        · skip
          refine qG.blk 1 (pc' := 93) (ls' := [(2, 95)]) (st' := [(0, 0)]) (w' := w5) (n' := 142) rfl ?_
          refine qG.ret rfl (by first | rfl | exact decide_eq_true (by omega)) ?_
          subst hQ9
          exact ⟨rfl, .inl ⟨rfl, hBAD⟩⟩
        · exact absurd h6 (by decide)
      · skip
        show qG none (d + 1) 244 89 [(2, 95)] [(0, 1)] w5 142 Q9
        have hP5 := PS.tr hP2 hS5 (by omega)
        have hI5 : PI w5 := hS5.2.2.1
        have hm5 := hS5.2.2.2.1
        have hb5 := hI5.b
        have hq5 := hP5.fs
        have hd5 := hP5.2.2.2.2.2.1
        rw [rsW_o (by decide), rsW_o (by decide)] at hq5
        rw [show rsW w L 95 33 = 0 from qup_k] at hd5
        refine qG.br (P := (1 : Int) = 0) (pc1 := 92) (pc2 := 94) (st1 := []) rfl (fun h7 => ?_) (fun h7 => ?_)
        · exact absurd h7 (by decide)
        · skip
          refine qG.blk 3 (pc' := 99) (ls' := [(2, 95)]) (st' := [(0, w5 95 23), (2, 95)]) (w' := w5) (n' := 142) rfl ?_
          rw [show w5 95 23 = ((L : Nat) : Int) from (hP5.2.1.2 95 23 (fun _ => rfl)).trans ((rsW_o (by decide)).trans hL.1)]
          refine qG.blk 2 (pc' := 101) (ls' := [(2, 95)]) (st' := [(0, wrp (((L : Nat) : Int) + 1)), (2, 95)]) (w' := w5) (n' := 142) rfl ?_
          rw [show wrp (((L : Nat) : Int) + 1) = ((L + 1 : Nat) : Int) from wrp_id (by omega) (by omega)]
          refine qG.blk 3 (pc' := 108) (ls' := [(2, 95)]) (st' := [(2, w5 95 15)]) (w' := (qup w5 95 23 ((L + 1 : Nat) : Int))) (n' := 142) rfl ?_
          rw [show w5 95 15 = 109 from zref hI5.1 rfl rfl]
          refine qG.blk 4 (pc' := 116) (ls' := [(2, 95)]) (st' := [(0, w5 95 24), (0, ((L + 1 : Nat) : Int)), (2, 109)]) (w' := (qup w5 95 23 ((L + 1 : Nat) : Int))) (n' := 142) rfl ?_
          refine qG.ar (P := 0 ≤ ((L + 1 : Nat) : Int) ∧ ((L + 1 : Nat) : Int) < ((21 : Nat) : Int)) (P2 := 0 < (109 : Int) ∧ (109 : Int) ≤ ((142 : Nat) : Int)) (pc' := 117) (ls' := [(2, 95)]) (st' := []) (w' := (qup (qup w5 95 23 ((L + 1 : Nat) : Int)) 109 (L + 1) (w5 95 24))) (n' := 142) rfl (by omega) (by decide) ?_
          refine qG.blk 2 (pc' := 121) (ls' := [(2, 95)]) (st' := [(0, 159), (2, 95)]) (w' := (qup (qup w5 95 23 ((L + 1 : Nat) : Int)) 109 (L + 1) (w5 95 24))) (n' := 142) rfl ?_
          have hPw8 : PI (reW w5 L) := reW_P hI5 (by omega)
          show qG none (d + 1) 244 121 [(2, 95)] [(0, 159), (2, 95)] (reW w5 L) 142 Q9
          refine qG.call (t := 233) (na := 2) (sk := 1) (md := 1) (ls1 := [(2, 95), (0, 159)]) (r1 := []) rfl rfl rfl rfl rfl (K_need2 (by omega) 159 (by decide) (reW w5 L) hPw8) ?_
          rintro _ w8 _ ⟨rfl, ⟨rfl, hA8⟩ | ⟨rfl, hS8, hg8, he8⟩⟩
          · skip
            show qG none (d + 1) 244 124 [(2, 95)] [(0, 0)] w8 142 Q9
            have hBAD := (((hAB0.tr hP5.2.1 (by decide +kernel)).tr (reW_A hI5.1 (by omega)) (by decide +kernel)).tr hA8 (by decide +kernel))
            refine qG.ret rfl (by first | rfl | exact decide_eq_true (by omega)) ?_
            subst hQ9
            exact ⟨rfl, .inl ⟨rfl, hBAD⟩⟩
          · skip
            show qG none (d + 1) 244 124 [(2, 95)] [(0, 1)] w8 142 Q9
            have hAW := (((hAB0.tr hP5.2.1 (by decide +kernel)).tr (reW_A hI5.1 (by omega)) (by decide +kernel)).tr hS8.2.1 (by decide +kernel))
            have hRL := (RsL.next hL h78 (hP5.cast (by omega) (by omega) (Int.le_refl _) rfl)).keep hS8.2.1 he8 hS8.2.2.2.2.2.2.2.1
            have hPI : PI w8 := hS8.2.2.1
            rw [reW_o (by decide)] at hg8 he8
            refine qG.ret rfl (by first | rfl | exact decide_eq_true (by omega)) ?_
            subst hQ9
            exact ⟨rfl, .inr ⟨rfl, hAW, hPI, hRL, by omega, by omega, by omega⟩⟩
theorem K_aReason {d : Nat} (hd : 40 ≤ d) (L : Nat) (w : qW) (hP : PI w) (hD : w 95 24 ≤ w 95 28) (hL : RsL w L) (hL20 : L ≤ 20) : qG none d 244 0 [(2, 95)] [] w 142 (fun (r : qV) (w1 : qW) (n1 : Nat) => n1 = 142 ∧ ((r = (0, 0) ∧ AW TM w w1) ∨ (r = (0, 1) ∧ AW TM w w1 ∧ PI w1 ∧ RsL w1 (L + 1) ∧ w1 95 24 ≤ w1 95 28 ∧ w 95 28 + 1 ≤ w1 95 28 ∧ L + 1 ≤ 20))) := by
  generalize hQ9 : (fun (r : qV) (w1 : qW) (n1 : Nat) => n1 = 142 ∧ ((r = (0, 0) ∧ AW TM w w1) ∨ (r = (0, 1) ∧ AW TM w w1 ∧ PI w1 ∧ RsL w1 (L + 1) ∧ w1 95 24 ≤ w1 95 28 ∧ w 95 28 + 1 ≤ w1 95 28 ∧ L + 1 ≤ 20))) = Q9
  have hb0 := hP.b
  obtain ⟨d, rfl⟩ : ∃ d9, d = d9 + 1 := ⟨d - 1, by omega⟩
  refine qG.blk 3 (pc' := 6) (ls' := [(2, 95)]) (st' := [(0, 7), (0, w 95 27)]) (w' := w) (n' := 142) rfl ?_
  refine qG.br (P := w 95 27 = 7) (pc1 := 24) (pc2 := 9) (st1 := []) rfl (fun h7 => ?_) (fun h7 => ?_)
  · skip
    refine qG.blk 2 (pc' := 28) (ls' := [(2, 95)]) (st' := [(0, w 95 23)]) (w' := w) (n' := 142) rfl ?_
    rw [show w 95 23 = ((L : Nat) : Int) from hL.1]
    refine qG.blk 1 (pc' := 30) (ls' := [(2, 95)]) (st' := [(0, 20), (0, ((L : Nat) : Int))]) (w' := w) (n' := 142) rfl ?_
    refine qG.br (P := ((L : Nat) : Int) = 20) (pc1 := 33) (pc2 := 39) (st1 := []) rfl (fun h20 => ?_) (fun h20 => ?_)
    · skip
      refine qG.blk 2 (pc' := 35) (ls' := [(2, 95)]) (st' := [(0, 3), (2, 95)]) (w' := w) (n' := 142) rfl ?_
      refine qG.call (t := 232) (na := 2) (sk := 1) (md := 1) (ls1 := [(2, 95), (0, 3)]) (r1 := []) rfl rfl rfl rfl rfl (K_bad (by omega) 3 w hP.1 (by decide) (by decide)) ?_
      rintro _ _ _ ⟨rfl, rfl, rfl⟩
      show qG none (d + 1) 244 38 [(2, 95)] [(0, 0)] (qup (qup w 95 30 3) 95 31 (w 95 28)) 142 Q9
      refine qG.ret rfl (by first | rfl | exact decide_eq_true (by omega)) ?_
      subst hQ9
      exact ⟨rfl, .inl ⟨rfl, (AW.rf hP.1).tr (AW.bad (PS.rf hP).2.1 (by decide) (by decide)) (by decide +kernel)⟩⟩
    · skip
      refine qG.blk 2 (pc' := 43) (ls' := [(2, 95)]) (st' := [(2, w 95 14)]) (w' := w) (n' := 142) rfl ?_
      rw [show w 95 14 = 108 from zref hP.1 rfl rfl]
      refine qG.blk 2 (pc' := 47) (ls' := [(2, 95)]) (st' := [(0, w 95 23), (2, 108)]) (w' := w) (n' := 142) rfl ?_
      rw [show w 95 23 = ((L : Nat) : Int) from hL.1]
      refine qG.blk 4 (pc' := 54) (ls' := [(2, 95)]) (st' := [(0, wrp ((w 95 27) - 7)), (0, ((L : Nat) : Int)), (2, 108)]) (w' := w) (n' := 142) rfl ?_
      rw [show wrp ((w 95 27) - 7) = w 95 27 - 7 from wrp_id (by omega) (by omega)]
      refine qG.ar (P := 0 ≤ ((L : Nat) : Int) ∧ ((L : Nat) : Int) < ((40 : Nat) : Int)) (P2 := 0 < (108 : Int) ∧ (108 : Int) ≤ ((142 : Nat) : Int)) (pc' := 55) (ls' := [(2, 95)]) (st' := []) (w' := (qup w 108 L (w 95 27 - 7))) (n' := 142) rfl (by omega) (by decide) ?_
      refine qG.blk 2 (pc' := 59) (ls' := [(2, 95)]) (st' := [(2, w 95 15)]) (w' := (qup w 108 L (w 95 27 - 7))) (n' := 142) rfl ?_
      rw [show w 95 15 = 109 from zref hP.1 rfl rfl]
      refine qG.blk 2 (pc' := 63) (ls' := [(2, 95)]) (st' := [(0, w 95 23), (2, 109)]) (w' := (qup w 108 L (w 95 27 - 7))) (n' := 142) rfl ?_
      rw [show w 95 23 = ((L : Nat) : Int) from hL.1]
      refine qG.blk 2 (pc' := 67) (ls' := [(2, 95)]) (st' := [(0, w 95 24), (0, ((L : Nat) : Int)), (2, 109)]) (w' := (qup w 108 L (w 95 27 - 7))) (n' := 142) rfl ?_
      refine qG.ar (P := 0 ≤ ((L : Nat) : Int) ∧ ((L : Nat) : Int) < ((21 : Nat) : Int)) (P2 := 0 < (109 : Int) ∧ (109 : Int) ≤ ((142 : Nat) : Int)) (pc' := 68) (ls' := [(2, 95)]) (st' := []) (w' := (qup (qup w 108 L (w 95 27 - 7)) 109 L (w 95 24))) (n' := 142) rfl (by omega) (by decide) ?_
      refine qG.blk 3 (pc' := 73) (ls' := [(2, 95)]) (st' := []) (w' := (qup (qup (qup w 108 L (w 95 27 - 7)) 109 L (w 95 24)) 95 33 0)) (n' := 142) rfl ?_
      show qG none (d + 1) 244 73 [(2, 95)] [] (rsW w L) 142 Q9
      subst hQ9
      exact K_aReasonB (by omega) L w hP hD hL (by omega) (by omega)
  · skip
    refine qG.blk 3 (pc' := 15) (ls' := [(2, 95)]) (st' := [(0, 8), (0, w 95 27)]) (w' := w) (n' := 142) rfl ?_
    refine qG.br (P := w 95 27 = 8) (pc1 := 24) (pc2 := 18) (st1 := []) rfl (fun h8 => ?_) (fun h8 => ?_)
    · skip
      refine qG.blk 2 (pc' := 28) (ls' := [(2, 95)]) (st' := [(0, w 95 23)]) (w' := w) (n' := 142) rfl ?_
      rw [show w 95 23 = ((L : Nat) : Int) from hL.1]
      refine qG.blk 1 (pc' := 30) (ls' := [(2, 95)]) (st' := [(0, 20), (0, ((L : Nat) : Int))]) (w' := w) (n' := 142) rfl ?_
      refine qG.br (P := ((L : Nat) : Int) = 20) (pc1 := 33) (pc2 := 39) (st1 := []) rfl (fun h20 => ?_) (fun h20 => ?_)
      · skip
        refine qG.blk 2 (pc' := 35) (ls' := [(2, 95)]) (st' := [(0, 3), (2, 95)]) (w' := w) (n' := 142) rfl ?_
        refine qG.call (t := 232) (na := 2) (sk := 1) (md := 1) (ls1 := [(2, 95), (0, 3)]) (r1 := []) rfl rfl rfl rfl rfl (K_bad (by omega) 3 w hP.1 (by decide) (by decide)) ?_
        rintro _ _ _ ⟨rfl, rfl, rfl⟩
        show qG none (d + 1) 244 38 [(2, 95)] [(0, 0)] (qup (qup w 95 30 3) 95 31 (w 95 28)) 142 Q9
        refine qG.ret rfl (by first | rfl | exact decide_eq_true (by omega)) ?_
        subst hQ9
        exact ⟨rfl, .inl ⟨rfl, (AW.rf hP.1).tr (AW.bad (PS.rf hP).2.1 (by decide) (by decide)) (by decide +kernel)⟩⟩
      · skip
        refine qG.blk 2 (pc' := 43) (ls' := [(2, 95)]) (st' := [(2, w 95 14)]) (w' := w) (n' := 142) rfl ?_
        rw [show w 95 14 = 108 from zref hP.1 rfl rfl]
        refine qG.blk 2 (pc' := 47) (ls' := [(2, 95)]) (st' := [(0, w 95 23), (2, 108)]) (w' := w) (n' := 142) rfl ?_
        rw [show w 95 23 = ((L : Nat) : Int) from hL.1]
        refine qG.blk 4 (pc' := 54) (ls' := [(2, 95)]) (st' := [(0, wrp ((w 95 27) - 7)), (0, ((L : Nat) : Int)), (2, 108)]) (w' := w) (n' := 142) rfl ?_
        rw [show wrp ((w 95 27) - 7) = w 95 27 - 7 from wrp_id (by omega) (by omega)]
        refine qG.ar (P := 0 ≤ ((L : Nat) : Int) ∧ ((L : Nat) : Int) < ((40 : Nat) : Int)) (P2 := 0 < (108 : Int) ∧ (108 : Int) ≤ ((142 : Nat) : Int)) (pc' := 55) (ls' := [(2, 95)]) (st' := []) (w' := (qup w 108 L (w 95 27 - 7))) (n' := 142) rfl (by omega) (by decide) ?_
        refine qG.blk 2 (pc' := 59) (ls' := [(2, 95)]) (st' := [(2, w 95 15)]) (w' := (qup w 108 L (w 95 27 - 7))) (n' := 142) rfl ?_
        rw [show w 95 15 = 109 from zref hP.1 rfl rfl]
        refine qG.blk 2 (pc' := 63) (ls' := [(2, 95)]) (st' := [(0, w 95 23), (2, 109)]) (w' := (qup w 108 L (w 95 27 - 7))) (n' := 142) rfl ?_
        rw [show w 95 23 = ((L : Nat) : Int) from hL.1]
        refine qG.blk 2 (pc' := 67) (ls' := [(2, 95)]) (st' := [(0, w 95 24), (0, ((L : Nat) : Int)), (2, 109)]) (w' := (qup w 108 L (w 95 27 - 7))) (n' := 142) rfl ?_
        refine qG.ar (P := 0 ≤ ((L : Nat) : Int) ∧ ((L : Nat) : Int) < ((21 : Nat) : Int)) (P2 := 0 < (109 : Int) ∧ (109 : Int) ≤ ((142 : Nat) : Int)) (pc' := 68) (ls' := [(2, 95)]) (st' := []) (w' := (qup (qup w 108 L (w 95 27 - 7)) 109 L (w 95 24))) (n' := 142) rfl (by omega) (by decide) ?_
        refine qG.blk 3 (pc' := 73) (ls' := [(2, 95)]) (st' := []) (w' := (qup (qup (qup w 108 L (w 95 27 - 7)) 109 L (w 95 24)) 95 33 0)) (n' := 142) rfl ?_
        show qG none (d + 1) 244 73 [(2, 95)] [] (rsW w L) 142 Q9
        subst hQ9
        exact K_aReasonB (by omega) L w hP hD hL (by omega) (by omega)
    · skip
      refine qG.blk 2 (pc' := 20) (ls' := [(2, 95)]) (st' := [(0, 1), (2, 95)]) (w' := w) (n' := 142) rfl ?_
      refine qG.call (t := 232) (na := 2) (sk := 1) (md := 1) (ls1 := [(2, 95), (0, 1)]) (r1 := []) rfl rfl rfl rfl rfl (K_bad (by omega) 1 w hP.1 (by decide) (by decide)) ?_
      rintro _ _ _ ⟨rfl, rfl, rfl⟩
      show qG none (d + 1) 244 23 [(2, 95)] [(0, 0)] (qup (qup w 95 30 1) 95 31 (w 95 28)) 142 Q9
      refine qG.ret rfl (by first | rfl | exact decide_eq_true (by omega)) ?_
      subst hQ9
      exact ⟨rfl, .inl ⟨rfl, (AW.rf hP.1).tr (AW.bad (PS.rf hP).2.1 (by decide) (by decide)) (by decide +kernel)⟩⟩
end
section
/-! the reference's text as a whole: what is kept -/
noncomputable def XN : List Nat := [113, 25095, 27095, 28095, 29095, 30095, 31095, 32095, 34095, 107, 108, 109, 24095, 26095, 33095, 35095, 36095]
noncomputable def XM : List Nat := [113, 25095, 27095, 28095, 29095, 30095, 31095, 32095, 34095, 107, 108, 109, 24095, 26095, 33095, 35095, 36095, 23095, 104, 105, 106, 110, 111, 112]
/-- the pamphlet that is told is well made -/
noncomputable def Sp2 (w : qW) : Prop := ∀ i : Nat, (i : Int) < w 95 22 → 0 ≤ w 111 i ∧ w 111 i ≤ w 111 (i + 1) ∧ w 111 (i + 1) ≤ 610 ∧ ∀ h, runS (w 112) (w 111 i).toNat (w 111 (i + 1) - w 111 i).toNat h = some (h + 1)
theorem XN_a {w w1 : qW} (h : AW XN w w1) {p : Nat} (hp : p < 1000) (hf : XN.all (fun e => !Nat.beq (e % 1000) p) = true) (j : Nat) : w1 p j = w p j := h.2 p j (fun _ => ymo_far hp hf j)
theorem Sp1.cong {w w1 : qW} (h : Sp1 w) (a : ∀ j, w1 104 j = w 104 j) (b : ∀ j, w1 105 j = w 105 j) : Sp1 w1 := fun j hj hk => by rw [b]; rw [a] at hk; exact h j hj hk
theorem Sp2.cong {w w1 : qW} (h : Sp2 w) (a : w1 95 22 = w 95 22) (b : ∀ j, w1 111 j = w 111 j) (c : ∀ j, w1 112 j = w 112 j) : Sp2 w1 := fun i hi => by
  rw [a] at hi
  have := h i hi
  rw [b, b, show w1 112 = w 112 from funext c]
  exact this
theorem Sp1.xn {w w1 : qW} (h : Sp1 w) (a : AW XN w w1) : Sp1 w1 := h.cong (XN_a a (by decide) (by decide +kernel)) (XN_a a (by decide) (by decide +kernel))
theorem Sp2.xn {w w1 : qW} (h : Sp2 w) (a : AW XN w w1) : Sp2 w1 := h.cong (a.2 95 22 (fun _ => rfl)) (XN_a a (by decide) (by decide +kernel)) (XN_a a (by decide) (by decide +kernel))
/-- the first n places of one row into another -/
noncomputable def cpW (w : qW) (s t : Nat) : Nat → qW
  | 0 => w
  | i + 1 => qup (cpW w s t i) t i (w s i)
theorem cpW_o {w : qW} {s t p : Nat} (h : p ≠ t) : ∀ n j, cpW w s t n p j = w p j
  | 0, _ => rfl
  | n + 1, j => by show qup _ t n _ p j = _; rw [qup_ne h]; exact cpW_o h n j
theorem cpW_t {w : qW} {s t : Nat} : ∀ n j, cpW w s t n t j = if j < n then w s j else w t j
  | 0, j => by rw [if_neg (by omega)]; rfl
  | n + 1, j => by
    show qup _ t n _ t j = _
    by_cases e : j = n
    · subst e; rw [qup_k, if_pos (by omega)]
    · rw [qup_j e, cpW_t n j]
      by_cases c : j < n
      · rw [if_pos c, if_pos (by omega)]
      · rw [if_neg c, if_neg (by omega)]
theorem cpW_I {w : qW} {s t : Nat} {b : yI} (hI : yInv zgf zga zra zSp w) (ht : zga t = some b) (hy : yarr t = true) : ∀ n, (∀ j, j < n → yin b (w s j)) → yInv zgf zga zra zSp (cpW w s t n)
  | 0, _ => hI
  | n + 1, h => zup_a (cpW_I hI ht hy n (fun j hj => h j (by omega))) (b := b) ht hy (h n (by omega))
/-- show k out of the fresh steps -/
noncomputable def ksW (w : qW) (k : Nat) : Nat → qW
  | 0 => qup w 106 k (w 95 23)
  | i + 1 => qup (qup (ksW w k i) 104 (40 * k + i) (w 107 i)) 105 (40 * k + i) (w 108 i)
theorem ksW_o {w : qW} {k p : Nat} (h : p ≠ 104 ∧ p ≠ 105 ∧ p ≠ 106) : ∀ n j, ksW w k n p j = w p j
  | 0, j => by show qup _ 106 k _ p j = _; rw [qup_ne h.2.2]
  | n + 1, j => by show qup (qup _ 104 _ _) 105 _ _ p j = _; rw [qup_ne h.2.1, qup_ne h.1]; exact ksW_o h n j
theorem ksW_4 {w : qW} {k : Nat} : ∀ n j, ksW w k n 104 j = if 40 * k ≤ j ∧ j < 40 * k + n then w 107 (j - 40 * k) else w 104 j
  | 0, j => by rw [if_neg (by omega)]; show qup _ 106 k _ 104 j = _; rw [qup_ne (by decide)]
  | n + 1, j => by
    show qup (qup _ 104 _ _) 105 _ _ 104 j = _
    rw [qup_ne (by decide)]
    by_cases e : j = 40 * k + n
    · subst e; rw [qup_k, if_pos (by omega), show 40 * k + n - 40 * k = n by omega]
    · rw [qup_j e, ksW_4 n j]
      by_cases c : 40 * k ≤ j ∧ j < 40 * k + n
      · rw [if_pos c, if_pos (by omega)]
      · rw [if_neg c, if_neg (by omega)]
theorem ksW_5 {w : qW} {k : Nat} : ∀ n j, ksW w k n 105 j = if 40 * k ≤ j ∧ j < 40 * k + n then w 108 (j - 40 * k) else w 105 j
  | 0, j => by rw [if_neg (by omega)]; show qup _ 106 k _ 105 j = _; rw [qup_ne (by decide)]
  | n + 1, j => by
    show qup (qup _ 104 _ _) 105 _ _ 105 j = _
    by_cases e : j = 40 * k + n
    · subst e; rw [qup_k, if_pos (by omega), show 40 * k + n - 40 * k = n by omega]
    · rw [qup_j e, qup_ne (by decide), ksW_5 n j]
      by_cases c : 40 * k ≤ j ∧ j < 40 * k + n
      · rw [if_pos c, if_pos (by omega)]
      · rw [if_neg c, if_neg (by omega)]
theorem ksW_I {w : qW} {k : Nat} (hI : yInv zgf zga zra zSp w) : ∀ n, yInv zgf zga zra zSp (ksW w k n)
  | 0 => zup_a hI (b := (0, 40)) rfl rfl (zfld hI (j := 23) (b := (0, 40)) rfl)
  | n + 1 => zup_a (zup_a (ksW_I hI n) (b := (0, 5)) rfl rfl (hI.2.1 107 n (0, 5) rfl rfl)) (b := (0, 9999)) rfl rfl (hI.2.1 108 n (0, 9999) rfl rfl)
theorem ksW_Sp1 {w : qW} {k L : Nat} (h : Sp1 w) (hL : SL w L) : Sp1 (ksW w k L) := fun j hj hk => by
  rw [ksW_4] at hk
  rw [ksW_5]
  by_cases c : 40 * k ≤ j ∧ j < 40 * k + L
  · rw [if_pos c] at hk ⊢; exact hL.2 _ (by omega) hk
  · rw [if_neg c] at hk ⊢; exact h j hj hk
noncomputable def krW (w : qW) (L : Nat) : qW := cpW (cpW (cpW (qup w 95 22 (w 95 23)) 108 110 L) 109 111 (L + 1)) 113 112 (2 * (w 95 24).toNat)
theorem krW_o {w : qW} {L p j : Nat} (h : p ≠ 110 ∧ p ≠ 111 ∧ p ≠ 112 ∧ ¬ (p = 95 ∧ j = 22)) : krW w L p j = w p j := by
  unfold krW
  rw [cpW_o h.2.2.1, cpW_o h.2.1, cpW_o h.1, qup95 h.2.2.2]
theorem krW_I {w : qW} {L : Nat} (hI : yInv zgf zga zra zSp w) (h : RsL w L) (hL : L ≤ 20) : yInv zgf zga zra zSp (krW w L) := by
  have h1 : yInv zgf zga zra zSp (qup w 95 22 (w 95 23)) := zup_f hI (b := (0, 20)) rfl rfl rfl ⟨by show (0 : Int) ≤ _; rw [h.1]; omega, by show _ ≤ (20 : Int); rw [h.1]; omega⟩
  have h2 := cpW_I h1 (t := 110) (s := 108) (b := (0, 1)) rfl rfl L (fun j hj => by
    rw [qup_ne (by decide)]
    rcases (h.2.2.2 j hj).1 with e | e <;> rw [e] <;> exact ⟨by decide, by decide⟩)
  have h3 := cpW_I h2 (t := 111) (s := 109) (b := (0, 610)) rfl rfl (L + 1) (fun j _ => h2.2.1 109 j (0, 610) rfl rfl)
  exact cpW_I h3 (t := 112) (s := 113) (b := (-2147483648, 2147483647)) rfl rfl _ (fun j _ => h3.2.1 113 j (-2147483648, 2147483647) rfl rfl)
theorem krW_Sp2 {w : qW} {L : Nat} (hI : yInv zgf zga zra zSp w) (h : RsL w L) : Sp2 (krW w L) := fun i hi => by
  have e22 : krW w L 95 22 = (L : Int) := by
    unfold krW
    rw [cpW_o (by decide), cpW_o (by decide), cpW_o (by decide), qup_k, h.1]
  rw [e22] at hi
  have e111 : ∀ j, j ≤ L → krW w L 111 j = w 109 j := fun j hj => by
    unfold krW
    rw [cpW_o (by decide), cpW_t, if_pos (by omega), cpW_o (by decide), qup_ne (by decide)]
  have e112 : ∀ j : Nat, (j : Int) < 2 * w 95 24 → krW w L 112 j = w 113 j := fun j hj => by
    unfold krW
    rw [cpW_t, if_pos (by omega), cpW_o (by decide), cpW_o (by decide), qup_ne (by decide)]
  have f1 := h.2.2.1 i (by omega)
  have f2 := h.2.2.1 (i + 1) (by omega)
  have f3 := h.2.2.2 i (by omega)
  have f4 := zfld hI (j := 24) (b := (0, 610)) rfl
  have f5 : w 95 24 ≤ (610 : Int) := f4.2
  rw [e111 i (by omega), e111 (i + 1) (by omega)]
  refine ⟨f1.1, f3.2.1, by omega, fun q => ?_⟩
  rw [← f3.2.2 q]
  exact runS_cong _ (fun j h1 h2 => e112 j (by omega))
theorem K_keepsShow {d : Nat} (hd : 0 ≤ d) (k : Nat) (hk : k < 4) (w : qW) (hI : yInv zgf zga zra zSp w) : qG none d 246 0 [(2, 95), (0, ((k : Nat) : Int)), (9, 0)] [] w 142 (fun (r : qV) (w1 : qW) (n1 : Nat) => r = (9, 0) ∧ w1 = ksW w k (w 95 23).toNat ∧ n1 = 142) := by
  generalize hQ9 : (fun (r : qV) (w1 : qW) (n1 : Nat) => r = (9, 0) ∧ w1 = ksW w k (w 95 23).toNat ∧ n1 = 142) = Q9
  have h23 := zfld hI (j := 23) (b := (0, 40)) rfl
  have a23 : (0 : Int) ≤ w 95 23 := h23.1
  have b23 : w 95 23 ≤ (40 : Int) := h23.2
  refine qG.blk 2 (pc' := 4) (ls' := [(2, 95), (0, ((k : Nat) : Int)), (9, 0)]) (st' := [(2, w 95 12)]) (w' := w) (n' := 142) rfl ?_
  rw [show w 95 12 = 106 from zref hI rfl rfl]
  refine qG.blk 3 (pc' := 9) (ls' := [(2, 95), (0, ((k : Nat) : Int)), (9, 0)]) (st' := [(0, w 95 23), (0, ((k : Nat) : Int)), (2, 106)]) (w' := w) (n' := 142) rfl ?_
  refine qG.ar (P := 0 ≤ ((k : Nat) : Int) ∧ ((k : Nat) : Int) < ((4 : Nat) : Int)) (P2 := 0 < (106 : Int) ∧ (106 : Int) ≤ ((142 : Nat) : Int)) (pc' := 10) (ls' := [(2, 95), (0, ((k : Nat) : Int)), (9, 0)]) (st' := []) (w' := (qup w 106 k (w 95 23))) (n' := 142) rfl (by omega) (by decide) ?_
  refine qG.blk 2 (pc' := 12) (ls' := [(2, 95), (0, ((k : Nat) : Int)), (0, 0)]) (st' := []) (w' := (qup w 106 k (w 95 23))) (n' := 142) rfl ?_
  have L12 : ∀ (m9 : Nat) (i : Nat) (wS : qW), (w 95 23).toNat - i = m9 → ((i : Int) ≤ w 95 23 ∧ wS = ksW w k i) → qG none d 246 12 [(2, 95), (0, ((k : Nat) : Int)), (0, ((i : Nat) : Int))] [] wS 142 Q9 := by
    intro m9
    induction m9 using Nat.strongRecOn with
    | ind m9 ih12 =>
    intro i wS hm12 hI12
    obtain ⟨hi9, hwS⟩ := hI12
    have hIS : yInv zgf zga zra zSp wS := hwS ▸ ksW_I hI i
    refine qG.blk 3 (pc' := 17) (ls' := [(2, 95), (0, ((k : Nat) : Int)), (0, ((i : Nat) : Int))]) (st' := [(0, wS 95 23), (0, ((i : Nat) : Int))]) (w' := wS) (n' := 142) rfl ?_
    rw [show wS 95 23 = w 95 23 from (congrFun (congrFun hwS 95) 23).trans (ksW_o (by decide) i 23)]
    refine qG.br (P := ((i : Nat) : Int) < w 95 23) (pc1 := 20) (pc2 := 60) (st1 := []) rfl (fun hlt => ?_) (fun hlt => ?_)
    · skip
      refine qG.blk 2 (pc' := 24) (ls' := [(2, 95), (0, ((k : Nat) : Int)), (0, ((i : Nat) : Int))]) (st' := [(2, wS 95 10)]) (w' := wS) (n' := 142) rfl ?_
      rw [show wS 95 10 = 104 from zref hIS rfl rfl]
      refine qG.blk 3 (pc' := 28) (ls' := [(2, 95), (0, ((k : Nat) : Int)), (0, ((i : Nat) : Int))]) (st' := [(0, wrp (40 * ((k : Nat) : Int))), (2, 104)]) (w' := wS) (n' := 142) rfl ?_
      rw [show wrp (40 * ((k : Nat) : Int)) = ((40 * k : Nat) : Int) from by rw [wrp_id (by omega) (by omega)]; omega]
      refine qG.blk 2 (pc' := 30) (ls' := [(2, 95), (0, ((k : Nat) : Int)), (0, ((i : Nat) : Int))]) (st' := [(0, wrp (((40 * k : Nat) : Int) + ((i : Nat) : Int))), (2, 104)]) (w' := wS) (n' := 142) rfl ?_
      rw [show wrp (((40 * k : Nat) : Int) + ((i : Nat) : Int)) = ((40 * k + i : Nat) : Int) from by rw [wrp_id (by omega) (by omega)]; omega]
      refine qG.blk 2 (pc' := 34) (ls' := [(2, 95), (0, ((k : Nat) : Int)), (0, ((i : Nat) : Int))]) (st' := [(2, wS 95 13), (0, ((40 * k + i : Nat) : Int)), (2, 104)]) (w' := wS) (n' := 142) rfl ?_
      rw [show wS 95 13 = 107 from zref hIS rfl rfl]
      refine qG.blk 1 (pc' := 35) (ls' := [(2, 95), (0, ((k : Nat) : Int)), (0, ((i : Nat) : Int))]) (st' := [(0, ((i : Nat) : Int)), (2, 107), (0, ((40 * k + i : Nat) : Int)), (2, 104)]) (w' := wS) (n' := 142) rfl ?_
      refine qG.ar (P := 0 ≤ ((i : Nat) : Int) ∧ ((i : Nat) : Int) < ((40 : Nat) : Int)) (P2 := 0 < (107 : Int) ∧ (107 : Int) ≤ ((142 : Nat) : Int)) (pc' := 36) (ls' := [(2, 95), (0, ((k : Nat) : Int)), (0, ((i : Nat) : Int))]) (st' := [(0, wS 107 i), (0, ((40 * k + i : Nat) : Int)), (2, 104)]) (w' := wS) (n' := 142) rfl (by omega) (by decide) ?_
      rw [show wS 107 i = w 107 i from (congrFun (congrFun hwS 107) i).trans (ksW_o (by decide) i i)]
      refine qG.ist (m := 160) rfl rfl (by omega) (by decide) ?_
      show qG none d 246 37 [(2, 95), (0, ((k : Nat) : Int)), (0, ((i : Nat) : Int))] [] (qup wS 104 (40 * k + i) (w 107 i)) 142 Q9
      refine qG.blk 2 (pc' := 41) (ls' := [(2, 95), (0, ((k : Nat) : Int)), (0, ((i : Nat) : Int))]) (st' := [(2, wS 95 11)]) (w' := (qup wS 104 (40 * k + i) (w 107 i))) (n' := 142) rfl ?_
      rw [show wS 95 11 = 105 from zref hIS rfl rfl]
      refine qG.blk 3 (pc' := 45) (ls' := [(2, 95), (0, ((k : Nat) : Int)), (0, ((i : Nat) : Int))]) (st' := [(0, wrp (40 * ((k : Nat) : Int))), (2, 105)]) (w' := (qup wS 104 (40 * k + i) (w 107 i))) (n' := 142) rfl ?_
      rw [show wrp (40 * ((k : Nat) : Int)) = ((40 * k : Nat) : Int) from by rw [wrp_id (by omega) (by omega)]; omega]
      refine qG.blk 2 (pc' := 47) (ls' := [(2, 95), (0, ((k : Nat) : Int)), (0, ((i : Nat) : Int))]) (st' := [(0, wrp (((40 * k : Nat) : Int) + ((i : Nat) : Int))), (2, 105)]) (w' := (qup wS 104 (40 * k + i) (w 107 i))) (n' := 142) rfl ?_
      rw [show wrp (((40 * k : Nat) : Int) + ((i : Nat) : Int)) = ((40 * k + i : Nat) : Int) from by rw [wrp_id (by omega) (by omega)]; omega]
      refine qG.blk 2 (pc' := 51) (ls' := [(2, 95), (0, ((k : Nat) : Int)), (0, ((i : Nat) : Int))]) (st' := [(2, wS 95 14), (0, ((40 * k + i : Nat) : Int)), (2, 105)]) (w' := (qup wS 104 (40 * k + i) (w 107 i))) (n' := 142) rfl ?_
      rw [show wS 95 14 = 108 from zref hIS rfl rfl]
      refine qG.blk 1 (pc' := 52) (ls' := [(2, 95), (0, ((k : Nat) : Int)), (0, ((i : Nat) : Int))]) (st' := [(0, ((i : Nat) : Int)), (2, 108), (0, ((40 * k + i : Nat) : Int)), (2, 105)]) (w' := (qup wS 104 (40 * k + i) (w 107 i))) (n' := 142) rfl ?_
      refine qG.ar (P := 0 ≤ ((i : Nat) : Int) ∧ ((i : Nat) : Int) < ((40 : Nat) : Int)) (P2 := 0 < (108 : Int) ∧ (108 : Int) ≤ ((142 : Nat) : Int)) (pc' := 53) (ls' := [(2, 95), (0, ((k : Nat) : Int)), (0, ((i : Nat) : Int))]) (st' := [(0, wS 108 i), (0, ((40 * k + i : Nat) : Int)), (2, 105)]) (w' := (qup wS 104 (40 * k + i) (w 107 i))) (n' := 142) rfl (by omega) (by decide) ?_
      rw [show wS 108 i = w 108 i from (congrFun (congrFun hwS 108) i).trans (ksW_o (by decide) i i)]
      refine qG.ist (m := 160) rfl rfl (by omega) (by decide) ?_
      show qG none d 246 54 [(2, 95), (0, ((k : Nat) : Int)), (0, ((i : Nat) : Int))] [] (qup (qup wS 104 (40 * k + i) (w 107 i)) 105 (40 * k + i) (w 108 i)) 142 Q9
      refine qG.blk 1 (pc' := 57) (ls' := [(2, 95), (0, ((k : Nat) : Int)), (0, wrp (((i : Nat) : Int) + 1))]) (st' := []) (w' := (qup (qup wS 104 (40 * k + i) (w 107 i)) 105 (40 * k + i) (w 108 i))) (n' := 142) rfl ?_
      rw [show wrp (((i : Nat) : Int) + 1) = ((i + 1 : Nat) : Int) from wrp_id (by omega) (by omega)]
      refine qG.blk 1 (pc' := 12) (ls' := [(2, 95), (0, ((k : Nat) : Int)), (0, ((i + 1 : Nat) : Int))]) (st' := []) (w' := (qup (qup wS 104 (40 * k + i) (w 107 i)) 105 (40 * k + i) (w 108 i))) (n' := 142) rfl ?_
      exact ih12 _ (by omega) (i + 1) ((qup (qup wS 104 (40 * k + i) (w 107 i)) 105 (40 * k + i) (w 108 i))) rfl (⟨by omega, by rw [hwS]; rfl⟩)
    · skip
      refine qG.retv rfl rfl ?_
      subst hQ9
      exact ⟨rfl, by rw [hwS, show (w 95 23).toNat = i by omega], rfl⟩
  exact L12 _ (0) ((qup w 106 k (w 95 23))) rfl (⟨by omega, rfl⟩)
theorem K_keepsReasons {d : Nat} (hd : 0 ≤ d) (L : Nat) (w : qW) (hI : yInv zgf zga zra zSp w) (hR : RsL w L) (hL : L ≤ 20) : qG none d 247 0 [(2, 95), (9, 0)] [] w 142 (fun (r : qV) (w1 : qW) (n1 : Nat) => r = (9, 0) ∧ w1 = krW w L ∧ n1 = 142) := by
  generalize hQ9 : (fun (r : qV) (w1 : qW) (n1 : Nat) => r = (9, 0) ∧ w1 = krW w L ∧ n1 = 142) = Q9
  have e23 := hR.1
  have h24 := zfld hI (j := 24) (b := (0, 610)) rfl
  have a24 : (0 : Int) ≤ w 95 24 := h24.1
  have b24 : w 95 24 ≤ (610 : Int) := h24.2
  have hI1 : yInv zgf zga zra zSp (qup w 95 22 (w 95 23)) := zup_f hI (b := (0, 20)) rfl rfl rfl ⟨by show (0 : Int) ≤ _; omega, by show _ ≤ (20 : Int); omega⟩
  have hs8 : ∀ j, j < L → yin (0, 1) ((qup w 95 22 (w 95 23)) 108 j) := fun j hj => by
    rw [qup_ne (by decide)]
    rcases (hR.2.2.2 j hj).1 with e | e <;> rw [e] <;> exact ⟨by decide, by decide⟩
  have hI2 : yInv zgf zga zra zSp (cpW (qup w 95 22 (w 95 23)) 108 110 L) := cpW_I hI1 (t := 110) (s := 108) (b := (0, 1)) rfl rfl L hs8
  have hI3 : yInv zgf zga zra zSp (cpW (cpW (qup w 95 22 (w 95 23)) 108 110 L) 109 111 (L + 1)) := cpW_I hI2 (t := 111) (s := 109) (b := (0, 610)) rfl rfl (L + 1) (fun j _ => hI2.2.1 109 j (0, 610) rfl rfl)
  refine qG.blk 6 (pc' := 10) (ls' := [(2, 95), (0, 0)]) (st' := []) (w' := (qup w 95 22 (w 95 23))) (n' := 142) rfl ?_
  have L10 : ∀ (m9 : Nat) (i : Nat) (wA : qW), L - i = m9 → (i ≤ L ∧ wA = cpW (qup w 95 22 (w 95 23)) 108 110 i) → qG none d 247 10 [(2, 95), (0, ((i : Nat) : Int))] [] wA 142 Q9 := by
    intro m9
    induction m9 using Nat.strongRecOn with
    | ind m9 ih10 =>
    intro i wA hm10 hI10
    obtain ⟨hi10, hwwA⟩ := hI10
    have hIwA : yInv zgf zga zra zSp wA := hwwA ▸ cpW_I hI1 (t := 110) (s := 108) (b := (0, 1)) rfl rfl i (fun j hj => hs8 j (by omega))
    refine qG.blk 3 (pc' := 15) (ls' := [(2, 95), (0, ((i : Nat) : Int))]) (st' := [(0, wA 95 23), (0, ((i : Nat) : Int))]) (w' := wA) (n' := 142) rfl ?_
    rw [show wA 95 23 = w 95 23 from (congrFun (congrFun hwwA 95) 23).trans (by rw [cpW_o (by decide), qup_j (by decide)])]
    refine qG.br (P := ((i : Nat) : Int) < w 95 23) (pc1 := 18) (pc2 := 36) (st1 := []) rfl (fun h1 => ?_) (fun h1 => ?_)
    · skip
      refine qG.blk 2 (pc' := 22) (ls' := [(2, 95), (0, ((i : Nat) : Int))]) (st' := [(2, wA 95 16)]) (w' := wA) (n' := 142) rfl ?_
      rw [show wA 95 16 = 110 from zref hIwA rfl rfl]
      refine qG.blk 3 (pc' := 27) (ls' := [(2, 95), (0, ((i : Nat) : Int))]) (st' := [(2, wA 95 14), (0, ((i : Nat) : Int)), (2, 110)]) (w' := wA) (n' := 142) rfl ?_
      rw [show wA 95 14 = 108 from zref hIwA rfl rfl]
      refine qG.blk 1 (pc' := 28) (ls' := [(2, 95), (0, ((i : Nat) : Int))]) (st' := [(0, ((i : Nat) : Int)), (2, 108), (0, ((i : Nat) : Int)), (2, 110)]) (w' := wA) (n' := 142) rfl ?_
      refine qG.ar (P := 0 ≤ ((i : Nat) : Int) ∧ ((i : Nat) : Int) < ((40 : Nat) : Int)) (P2 := 0 < (108 : Int) ∧ (108 : Int) ≤ ((142 : Nat) : Int)) (pc' := 29) (ls' := [(2, 95), (0, ((i : Nat) : Int))]) (st' := [(0, wA 108 i), (0, ((i : Nat) : Int)), (2, 110)]) (w' := wA) (n' := 142) rfl (by omega) (by decide) ?_
      rw [show wA 108 i = w 108 i from (congrFun (congrFun hwwA 108) i).trans (by rw [cpW_o (by decide), qup_ne (by decide)])]
      refine qG.ar (P := 0 ≤ ((i : Nat) : Int) ∧ ((i : Nat) : Int) < ((20 : Nat) : Int)) (P2 := 0 < (110 : Int) ∧ (110 : Int) ≤ ((142 : Nat) : Int)) (pc' := 30) (ls' := [(2, 95), (0, ((i : Nat) : Int))]) (st' := []) (w' := (qup wA 110 i (w 108 i))) (n' := 142) rfl (by omega) (by decide) ?_
      refine qG.blk 1 (pc' := 33) (ls' := [(2, 95), (0, wrp (((i : Nat) : Int) + 1))]) (st' := []) (w' := (qup wA 110 i (w 108 i))) (n' := 142) rfl ?_
      rw [show wrp (((i : Nat) : Int) + 1) = ((i + 1 : Nat) : Int) from wrp_id (by omega) (by omega)]
      refine qG.blk 1 (pc' := 10) (ls' := [(2, 95), (0, ((i + 1 : Nat) : Int))]) (st' := []) (w' := (qup wA 110 i (w 108 i))) (n' := 142) rfl ?_
      exact ih10 _ (by omega) (i + 1) ((qup wA 110 i (w 108 i))) rfl (⟨by omega, by rw [hwwA]; show _ = qup (cpW (qup w 95 22 (w 95 23)) 108 110 i) 110 i ((qup w 95 22 (w 95 23)) 108 i); rw [qup_ne (show (108 : Nat) ≠ 95 by decide)]⟩)
    · skip
      refine qG.blk 2 (pc' := 38) (ls' := [(2, 95), (0, 0)]) (st' := []) (w' := wA) (n' := 142) rfl ?_
      have L38 : ∀ (m9 : Nat) (i : Nat) (wB : qW), (L + 1) - i = m9 → (i ≤ (L + 1) ∧ wB = cpW (cpW (qup w 95 22 (w 95 23)) 108 110 L) 109 111 i) → qG none d 247 38 [(2, 95), (0, ((i : Nat) : Int))] [] wB 142 Q9 := by
        intro m9
        induction m9 using Nat.strongRecOn with
        | ind m9 ih38 =>
        intro i wB hm38 hI38
        obtain ⟨hi38, hwwB⟩ := hI38
        have hIwB : yInv zgf zga zra zSp wB := hwwB ▸ cpW_I hI2 (t := 111) (s := 109) (b := (0, 610)) rfl rfl i (fun j _ => hI2.2.1 109 j (0, 610) rfl rfl)
        refine qG.blk 3 (pc' := 43) (ls' := [(2, 95), (0, ((i : Nat) : Int))]) (st' := [(0, wB 95 23), (0, ((i : Nat) : Int))]) (w' := wB) (n' := 142) rfl ?_
        rw [show wB 95 23 = w 95 23 from (congrFun (congrFun hwwB 95) 23).trans (by rw [cpW_o (by decide), cpW_o (by decide), qup_j (by decide)])]
        refine qG.br (P := w 95 23 < ((i : Nat) : Int)) (pc1 := 64) (pc2 := 46) (st1 := []) rfl (fun h2 => ?_) (fun h2 => ?_)
        · skip
          refine qG.blk 2 (pc' := 66) (ls' := [(2, 95), (0, 0)]) (st' := []) (w' := wB) (n' := 142) rfl ?_
          have L66 : ∀ (m9 : Nat) (i : Nat) (wC : qW), (2 * (w 95 24).toNat) - i = m9 → (i ≤ (2 * (w 95 24).toNat) ∧ wC = cpW (cpW (cpW (qup w 95 22 (w 95 23)) 108 110 L) 109 111 (L + 1)) 113 112 i) → qG none d 247 66 [(2, 95), (0, ((i : Nat) : Int))] [] wC 142 Q9 := by
            intro m9
            induction m9 using Nat.strongRecOn with
            | ind m9 ih66 =>
            intro i wC hm66 hI66
            obtain ⟨hi66, hwwC⟩ := hI66
            have hIwC : yInv zgf zga zra zSp wC := hwwC ▸ cpW_I hI3 (t := 112) (s := 113) (b := (-2147483648, 2147483647)) rfl rfl i (fun j _ => hI3.2.1 113 j (-2147483648, 2147483647) rfl rfl)
            refine qG.blk 4 (pc' := 72) (ls' := [(2, 95), (0, ((i : Nat) : Int))]) (st' := [(0, wC 95 24), (0, 2), (0, ((i : Nat) : Int))]) (w' := wC) (n' := 142) rfl ?_
            rw [show wC 95 24 = w 95 24 from (congrFun (congrFun hwwC 95) 24).trans (by rw [cpW_o (by decide), cpW_o (by decide), cpW_o (by decide), qup_j (by decide)])]
            refine qG.blk 1 (pc' := 73) (ls' := [(2, 95), (0, ((i : Nat) : Int))]) (st' := [(0, wrp (2 * (w 95 24))), (0, ((i : Nat) : Int))]) (w' := wC) (n' := 142) rfl ?_
            rw [show wrp (2 * (w 95 24)) = ((2 * (w 95 24).toNat : Nat) : Int) from by rw [wrp_id (by omega) (by omega)]; omega]
            refine qG.br (P := ((i : Nat) : Int) < ((2 * (w 95 24).toNat : Nat) : Int)) (pc1 := 76) (pc2 := 94) (st1 := []) rfl (fun h3 => ?_) (fun h3 => ?_)
            · skip
              refine qG.blk 2 (pc' := 80) (ls' := [(2, 95), (0, ((i : Nat) : Int))]) (st' := [(2, wC 95 18)]) (w' := wC) (n' := 142) rfl ?_
              rw [show wC 95 18 = 112 from zref hIwC rfl rfl]
              refine qG.blk 3 (pc' := 85) (ls' := [(2, 95), (0, ((i : Nat) : Int))]) (st' := [(2, wC 95 19), (0, ((i : Nat) : Int)), (2, 112)]) (w' := wC) (n' := 142) rfl ?_
              rw [show wC 95 19 = 113 from zref hIwC rfl rfl]
              refine qG.blk 1 (pc' := 86) (ls' := [(2, 95), (0, ((i : Nat) : Int))]) (st' := [(0, ((i : Nat) : Int)), (2, 113), (0, ((i : Nat) : Int)), (2, 112)]) (w' := wC) (n' := 142) rfl ?_
              refine qG.ild (m := 1220) rfl rfl (by omega) (by decide) ?_
              show qG none d 247 87 [(2, 95), (0, ((i : Nat) : Int))] [(0, wC 113 i), (0, ((i : Nat) : Int)), (2, 112)] wC 142 Q9
              rw [show wC 113 i = w 113 i from (congrFun (congrFun hwwC 113) i).trans (by rw [cpW_o (by decide), cpW_o (by decide), cpW_o (by decide), qup_ne (by decide)])]
              refine qG.ist (m := 1220) rfl rfl (by omega) (by decide) ?_
              show qG none d 247 88 [(2, 95), (0, ((i : Nat) : Int))] [] (qup wC 112 i (w 113 i)) 142 Q9
              refine qG.blk 1 (pc' := 91) (ls' := [(2, 95), (0, wrp (((i : Nat) : Int) + 1))]) (st' := []) (w' := (qup wC 112 i (w 113 i))) (n' := 142) rfl ?_
              rw [show wrp (((i : Nat) : Int) + 1) = ((i + 1 : Nat) : Int) from wrp_id (by omega) (by omega)]
              refine qG.blk 1 (pc' := 66) (ls' := [(2, 95), (0, ((i + 1 : Nat) : Int))]) (st' := []) (w' := (qup wC 112 i (w 113 i))) (n' := 142) rfl ?_
              exact ih66 _ (by omega) (i + 1) ((qup wC 112 i (w 113 i))) rfl (⟨by omega, by rw [hwwC]; show _ = qup (cpW (cpW (cpW (qup w 95 22 (w 95 23)) 108 110 L) 109 111 (L + 1)) 113 112 i) 112 i ((cpW (cpW (qup w 95 22 (w 95 23)) 108 110 L) 109 111 (L + 1)) 113 i); rw [cpW_o (by decide), cpW_o (by decide), qup_ne (show (113 : Nat) ≠ 95 by decide)]⟩)
            · skip
              refine qG.retv rfl rfl ?_
              subst hQ9
              exact ⟨rfl, by rw [hwwC, show i = 2 * (w 95 24).toNat by omega]; rfl, rfl⟩
          exact L66 _ (0) (wB) rfl (⟨by omega, by rw [hwwB, show i = L + 1 by omega]; rfl⟩)
        · skip
          refine qG.blk 2 (pc' := 50) (ls' := [(2, 95), (0, ((i : Nat) : Int))]) (st' := [(2, wB 95 17)]) (w' := wB) (n' := 142) rfl ?_
          rw [show wB 95 17 = 111 from zref hIwB rfl rfl]
          refine qG.blk 3 (pc' := 55) (ls' := [(2, 95), (0, ((i : Nat) : Int))]) (st' := [(2, wB 95 15), (0, ((i : Nat) : Int)), (2, 111)]) (w' := wB) (n' := 142) rfl ?_
          rw [show wB 95 15 = 109 from zref hIwB rfl rfl]
          refine qG.blk 1 (pc' := 56) (ls' := [(2, 95), (0, ((i : Nat) : Int))]) (st' := [(0, ((i : Nat) : Int)), (2, 109), (0, ((i : Nat) : Int)), (2, 111)]) (w' := wB) (n' := 142) rfl ?_
          refine qG.ar (P := 0 ≤ ((i : Nat) : Int) ∧ ((i : Nat) : Int) < ((21 : Nat) : Int)) (P2 := 0 < (109 : Int) ∧ (109 : Int) ≤ ((142 : Nat) : Int)) (pc' := 57) (ls' := [(2, 95), (0, ((i : Nat) : Int))]) (st' := [(0, wB 109 i), (0, ((i : Nat) : Int)), (2, 111)]) (w' := wB) (n' := 142) rfl (by omega) (by decide) ?_
          rw [show wB 109 i = w 109 i from (congrFun (congrFun hwwB 109) i).trans (by rw [cpW_o (by decide), cpW_o (by decide), qup_ne (by decide)])]
          refine qG.ar (P := 0 ≤ ((i : Nat) : Int) ∧ ((i : Nat) : Int) < ((21 : Nat) : Int)) (P2 := 0 < (111 : Int) ∧ (111 : Int) ≤ ((142 : Nat) : Int)) (pc' := 58) (ls' := [(2, 95), (0, ((i : Nat) : Int))]) (st' := []) (w' := (qup wB 111 i (w 109 i))) (n' := 142) rfl (by omega) (by decide) ?_
          refine qG.blk 1 (pc' := 61) (ls' := [(2, 95), (0, wrp (((i : Nat) : Int) + 1))]) (st' := []) (w' := (qup wB 111 i (w 109 i))) (n' := 142) rfl ?_
          rw [show wrp (((i : Nat) : Int) + 1) = ((i + 1 : Nat) : Int) from wrp_id (by omega) (by omega)]
          refine qG.blk 1 (pc' := 38) (ls' := [(2, 95), (0, ((i + 1 : Nat) : Int))]) (st' := []) (w' := (qup wB 111 i (w 109 i))) (n' := 142) rfl ?_
          exact ih38 _ (by omega) (i + 1) ((qup wB 111 i (w 109 i))) rfl (⟨by omega, by rw [hwwB]; show _ = qup (cpW (cpW (qup w 95 22 (w 95 23)) 108 110 L) 109 111 i) 111 i ((cpW (qup w 95 22 (w 95 23)) 108 110 L) 109 i); rw [cpW_o (by decide), qup_ne (show (109 : Nat) ≠ 95 by decide)]⟩)
      exact L38 _ (0) (wA) rfl (⟨by omega, by rw [hwwA, show i = L by omega]; rfl⟩)
  exact L10 _ (0) ((qup w 95 22 (w 95 23))) rfl (⟨by omega, rfl⟩)
noncomputable def txW (w : qW) (b : Int) : qW := qup (qup (qup (qup (qup (qup w 95 30 0) 95 35 b) 95 26 0) 95 23 0) 95 24 0) 109 0 0
noncomputable def tlW (w : qW) (v : Int) : qW := qup (qup (qup w 95 25 0) 95 32 (w 95 30)) 95 34 v
theorem txW_A {w : qW} (hI : yInv zgf zga zra zSp w) {b : Int} (h0 : 0 ≤ b) (h1 : b ≤ 1) : AW XN w (txW w b) := by
  have a1 := (AW.rf (m := XN) hI).fld (j := 30) (v := 0) (zup_f hI (b := (0, 3)) rfl rfl rfl ⟨by decide, by decide⟩) (by decide +kernel)
  have a2 := a1.fld (j := 35) (v := b) (zup_f a1.1 (b := (0, 1)) rfl rfl rfl ⟨h0, h1⟩) (by decide +kernel)
  have a3 := a2.fld (j := 26) (v := 0) (zup_f a2.1 (b := (0, 600)) rfl rfl rfl ⟨by decide, by decide⟩) (by decide +kernel)
  have a4 := a3.fld (j := 23) (v := 0) (zup_f a3.1 (b := (0, 40)) rfl rfl rfl ⟨by decide, by decide⟩) (by decide +kernel)
  have a5 := a4.fld (j := 24) (v := 0) (zup_f a4.1 (b := (0, 610)) rfl rfl rfl ⟨by decide, by decide⟩) (by decide +kernel)
  exact a5.arr (p := 109) (j := 0) (v := 0) (zup_a a5.1 (b := (0, 610)) rfl rfl ⟨by decide, by decide⟩) (by decide +kernel) (by decide)
theorem tlW_A {w w1 : qW} (h : AW XN w w1) {v : Int} (h0 : -1 ≤ v) (h1 : v ≤ 600) : AW XN w (tlW w1 v) := by
  have a1 := h.fld (j := 25) (v := 0) (zup_f h.1 (b := (0, 600)) rfl rfl rfl ⟨by decide, by decide⟩) (by decide +kernel)
  have a2 := a1.fld (j := 32) (v := w1 95 30) (zup_f a1.1 (b := (0, 3)) rfl rfl rfl (zfld h.1 (j := 30) (b := (0, 3)) rfl)) (by decide +kernel)
  exact a2.fld (j := 34) (v := v) (zup_f a2.1 (b := (-1, 600)) rfl rfl rfl ⟨h0, h1⟩) (by decide +kernel)
theorem tlW_o {w : qW} {v : Int} {p j : Nat} (h : ¬ (p = 95 ∧ (j = 25 ∨ j = 32 ∨ j = 34))) : tlW w v p j = w p j := by
  unfold tlW
  rw [qup95 (by omega), qup95 (by omega), qup95 (by omega)]
theorem SL.tl {w : qW} {v : Int} {L : Nat} (h : SL w L) : SL (tlW w v) L := ⟨by rw [tlW_o (by decide)]; exact h.1, fun i hi => by rw [tlW_o (by omega), tlW_o (by omega)]; exact h.2 i hi⟩
theorem RsL.tl {w : qW} {v : Int} {L : Nat} (h : RsL w L) : RsL (tlW w v) L := by
  have e : ∀ p j, ¬ (p = 95 ∧ (j = 25 ∨ j = 32 ∨ j = 34)) → tlW w v p j = w p j := fun p j hp => tlW_o hp
  obtain ⟨a, b, c, d⟩ := h
  have e113 : tlW w v 113 = w 113 := funext fun j => e 113 j (by omega)
  refine ⟨by rw [e 95 23 (by decide)]; exact a, by rw [e 109 L (by omega), e 95 24 (by decide)]; exact b, fun i hi => by rw [e 109 i (by omega), e 95 24 (by decide)]; exact c i hi, fun i hi => ?_⟩
  rw [e 108 i (by omega), e 109 i (by omega), e 109 (i + 1) (by omega), e113]
  exact d i hi
theorem ksW_A {w w1 : qW} {k n : Nat} (h : AW XN w w1) : AW XM w (ksW w1 k n) := ⟨ksW_I h.1 n, fun p j hp => by
  have e : p ≠ 104 ∧ p ≠ 105 ∧ p ≠ 106 := ⟨fun c => (by subst c; exact absurd (hp (by decide)) (by rw [show ymo 104 j XM = true from rfl]; decide)), fun c => (by subst c; exact absurd (hp (by decide)) (by rw [show ymo 105 j XM = true from rfl]; decide)), fun c => (by subst c; exact absurd (hp (by decide)) (by rw [show ymo 106 j XM = true from rfl]; decide))⟩
  rw [ksW_o e]
  exact h.2 p j (fun k => ysubm_ok (b := XM) (by decide +kernel) k (hp k))⟩
theorem krW_A {w w1 : qW} {L : Nat} (h : AW XN w w1) (hR : RsL w1 L) (hL : L ≤ 20) : AW XM w (krW w1 L) := ⟨krW_I h.1 hR hL, fun p j hp => by
  have e : p ≠ 110 ∧ p ≠ 111 ∧ p ≠ 112 ∧ ¬ (p = 95 ∧ j = 22) := ⟨fun c => (by subst c; exact absurd (hp (by decide)) (by rw [show ymo 110 j XM = true from rfl]; decide)), fun c => (by subst c; exact absurd (hp (by decide)) (by rw [show ymo 111 j XM = true from rfl]; decide)), fun c => (by subst c; exact absurd (hp (by decide)) (by rw [show ymo 112 j XM = true from rfl]; decide)), fun c => (by obtain ⟨rfl, rfl⟩ := c; exact absurd (hp (by decide)) (by decide))⟩
  rw [krW_o e]
  exact h.2 p j (fun k => ysubm_ok (b := XM) (by decide +kernel) k (hp k))⟩
theorem XNM {w w1 : qW} (h : AW XN w w1) : AW XM w w1 := ⟨h.1, fun p j hp => h.2 p j (fun k => ysubm_ok (b := XM) (by decide +kernel) k (hp k))⟩
/-- what text does to what is told -/
noncomputable def TXQ (w : qW) (r : qV) (w1 : qW) (n1 : Nat) : Prop := n1 = 142 ∧ (∃ x, r = (0, x)) ∧ AW XM w w1 ∧ (Sp1 w → Sp1 w1) ∧ (Sp2 w → Sp2 w1)
theorem TXQ.xn {w w1 : qW} {x : Int} (h : AW XN w w1) : TXQ w (0, x) w1 142 := ⟨rfl, ⟨x, rfl⟩, XNM h, fun s => s.xn h, fun s => s.xn h⟩
theorem TXQ.ks {w w1 : qW} {x : Int} {k L : Nat} (h : AW XN w w1) (hL : SL w1 L) : TXQ w (0, x) (ksW w1 k (w1 95 23).toNat) 142 := by
  rw [show (w1 95 23).toNat = L by have := hL.1; omega]
  exact ⟨rfl, ⟨x, rfl⟩, ksW_A h, fun s => ksW_Sp1 (s.xn h) hL, fun s => (s.xn h).cong (ksW_o (by decide) L 22) (fun j => ksW_o (by decide) L j) (fun j => ksW_o (by decide) L j)⟩
theorem TXQ.kr {w w1 : qW} {x : Int} {L : Nat} (h : AW XN w w1) (hR : RsL w1 L) (hL : L ≤ 20) : TXQ w (0, x) (krW w1 L) 142 :=
  ⟨rfl, ⟨x, rfl⟩, krW_A h hR hL, fun s => (s.xn h).cong (fun j => krW_o (by omega)) (fun j => krW_o (by omega)), fun _ => krW_Sp2 h.1 hR⟩
theorem K_textBS {d : Nat} (hd : 42 ≤ d) (k : Nat) (hk : k < 4) (w : qW) (hI : yInv zgf zga zra zSp w) : qG none d 245 67 [(2, 95), (0, ((k : Nat) : Int)), (9, 0)] [] (txW w 1) 142 (TXQ w) := by
  generalize hQ9 : (TXQ w) = Q9
  obtain ⟨d, rfl⟩ : ∃ d9, d = d9 + 1 := ⟨d - 1, by omega⟩
  have hAT : AW XN w (txW w 1) := txW_A hI (by decide) (by decide)
  refine qG.blk 1 (pc' := 68) (ls' := [(2, 95), (0, ((k : Nat) : Int)), (9, 0)]) (st' := [(2, 95)]) (w' := (txW w 1)) (n' := 142) rfl ?_
  refine qG.call (t := 231) (na := 1) (sk := 1) (md := 1) (ls1 := [(2, 95), (9, 0)]) (r1 := []) rfl rfl rfl rfl rfl (K_next0 (by omega) (txW w 1) hAT.1) ?_
  rintro _ w1 _ ⟨rfl, rfl, hX1⟩
  obtain ⟨hN1, hg1, hg2, hg3⟩ := hX1.look hAT.1
  have hA1 : AW XN w w1 := hAT.tr hN1 (by decide +kernel)
  have hP1 : PI w1 := ⟨hN1.1, hg2, hg3⟩
  have e23 : w1 95 23 = 0 := (hN1.2 95 23 (fun _ => rfl)).trans (by unfold txW; simp (disch := decide) only [qup_ne, qup_j, qup_k])
  have e24 : w1 95 24 = 0 := (hN1.2 95 24 (fun _ => rfl)).trans (by unfold txW; simp (disch := decide) only [qup_ne, qup_j, qup_k])
  have e35 : w1 95 35 = 1 := (hN1.2 95 35 (fun _ => rfl)).trans (by unfold txW; simp (disch := decide) only [qup_ne, qup_j, qup_k])
  have e109 : w1 109 0 = 0 := (hN1.2 109 0 (fun _ => rfl)).trans (by unfold txW; simp (disch := decide) only [qup_ne, qup_j, qup_k])
  have hb1 := hP1.b
  show qG none (d + 1) 245 71 [(2, 95), (0, ((k : Nat) : Int)), (9, 0)] [] w1 142 Q9
  refine qG.blk 2 (pc' := 73) (ls' := [(2, 95), (0, ((k : Nat) : Int)), (0, 1)]) (st' := []) (w' := w1) (n' := 142) rfl ?_
  have L73 : ∀ (m9 : Nat) (good : Int) (L : Nat) (wL : qW), (good * (601 - wL 95 28)).toNat = m9 → (AW XN w wL ∧ wL 95 35 = 1 ∧ (good = 0 ∨ (good = 1 ∧ L ≤ 40 ∧ PI wL ∧ SL wL L))) → qG none (d + 1) 245 73 [(2, 95), (0, ((k : Nat) : Int)), (0, good)] [] wL 142 Q9 := by
    intro m9
    induction m9 using Nat.strongRecOn with
    | ind m9 ih73 =>
    intro good L wL hm73 hI73
    obtain ⟨hAL, heL, hOr⟩ := hI73
    refine qG.blk 1 (pc' := 74) (ls' := [(2, 95), (0, ((k : Nat) : Int)), (0, good)]) (st' := [(0, good)]) (w' := wL) (n' := 142) rfl ?_
    refine qG.br (P := good = 0) (pc1 := 106) (pc2 := 77) (st1 := []) rfl (fun hg => ?_) (fun hg => ?_)
    · skip
      subst hg
      refine qG.blk 9 (pc' := 121) (ls' := [(2, 95), (0, ((k : Nat) : Int)), (0, 0)]) (st' := [(0, 0), (2, 95)]) (w' := (qup (qup wL 95 25 0) 95 32 (wL 95 30))) (n' := 142) rfl ?_
      refine qG.br (P := (0 : Int) = 0) (pc1 := 128) (pc2 := 124) (st1 := [(2, 95)]) rfl (fun h1 => ?_) (fun h1 => ?_)
      · skip
        refine qG.blk 4 (pc' := 136) (ls' := [(2, 95), (0, ((k : Nat) : Int)), (0, 0)]) (st' := [(0, 0)]) (w' := (qup (qup (qup wL 95 25 0) 95 32 (wL 95 30)) 95 34 (wL 95 31))) (n' := 142) rfl ?_
        refine qG.br (P := (0 : Int) = 0) (pc1 := 139) (pc2 := 141) (st1 := []) rfl (fun h2 => ?_) (fun h2 => ?_)
        · skip
          refine qG.blk 1 (pc' := 140) (ls' := [(2, 95), (0, ((k : Nat) : Int)), (0, 0)]) (st' := [(0, (-1))]) (w' := (qup (qup (qup wL 95 25 0) 95 32 (wL 95 30)) 95 34 (wL 95 31))) (n' := 142) rfl ?_
          refine qG.ret rfl rfl ?_
          subst hQ9
          exact TXQ.xn (tlW_A hAL (v := wL 95 31) (Int.le_trans (by decide) (zfld hAL.1 (j := 31) (b := (0, 600)) rfl).1) (zfld hAL.1 (j := 31) (b := (0, 600)) rfl).2)
        · exact absurd h2 (by decide)
      · exact absurd h1 (by decide)
    · skip
      obtain ⟨hg1, hL40, hPL, hSL⟩ := hOr.resolve_left hg
      subst hg1
      have hbL := hPL.b
      refine qG.blk 2 (pc' := 81) (ls' := [(2, 95), (0, ((k : Nat) : Int)), (0, 1)]) (st' := [(0, wL 95 27)]) (w' := wL) (n' := 142) rfl ?_
      refine qG.br (P := wL 95 27 = 0) (pc1 := 106) (pc2 := 84) (st1 := []) rfl (fun htok => ?_) (fun htok => ?_)
      · skip
        refine qG.blk 9 (pc' := 121) (ls' := [(2, 95), (0, ((k : Nat) : Int)), (0, 1)]) (st' := [(0, 1), (2, 95)]) (w' := (qup (qup wL 95 25 0) 95 32 (wL 95 30))) (n' := 142) rfl ?_
        refine qG.br (P := (1 : Int) = 0) (pc1 := 128) (pc2 := 124) (st1 := [(2, 95)]) rfl (fun h3 => ?_) (fun h3 => ?_)
        · exact absurd h3 (by decide)
        · skip
          refine qG.blk 4 (pc' := 136) (ls' := [(2, 95), (0, ((k : Nat) : Int)), (0, 1)]) (st' := [(0, 1)]) (w' := (qup (qup (qup wL 95 25 0) 95 32 (wL 95 30)) 95 34 (-1))) (n' := 142) rfl ?_
          refine qG.br (P := (1 : Int) = 0) (pc1 := 139) (pc2 := 141) (st1 := []) rfl (fun h4 => ?_) (fun h4 => ?_)
          · exact absurd h4 (by decide)
          · skip
            refine qG.blk 2 (pc' := 145) (ls' := [(2, 95), (0, ((k : Nat) : Int)), (0, 1)]) (st' := [(0, wL 95 35)]) (w' := (qup (qup (qup wL 95 25 0) 95 32 (wL 95 30)) 95 34 (-1))) (n' := 142) rfl ?_
            rw [show wL 95 35 = 1 from heL]
            refine qG.br (P := (1 : Int) = 0) (pc1 := 156) (pc2 := 148) (st1 := []) rfl (fun h5 => ?_) (fun h5 => ?_)
            · exact absurd h5 (by decide)
            · skip
              refine qG.blk 2 (pc' := 150) (ls' := [(2, 95), (0, ((k : Nat) : Int)), (0, 1)]) (st' := [(0, ((k : Nat) : Int)), (2, 95)]) (w' := (qup (qup (qup wL 95 25 0) 95 32 (wL 95 30)) 95 34 (-1))) (n' := 142) rfl ?_
              have hA3 := tlW_A hAL (v := -1) (by decide) (by decide)
              show qG none (d + 1) 245 150 [(2, 95), (0, ((k : Nat) : Int)), (0, 1)] [(0, ((k : Nat) : Int)), (2, 95)] (tlW wL (-1)) 142 Q9
              refine qG.call (t := 246) (na := 2) (sk := 1) (md := 1) (ls1 := [(2, 95), (0, ((k : Nat) : Int)), (9, 0)]) (r1 := []) rfl rfl rfl rfl rfl (K_keepsShow (by omega) k hk (tlW wL (-1)) hA3.1) ?_
              rintro _ _ _ ⟨rfl, rfl, rfl⟩
              show qG none (d + 1) 245 153 [(2, 95), (0, ((k : Nat) : Int)), (0, 1)] [] (ksW (tlW wL (-1)) k ((tlW wL (-1)) 95 23).toNat) 142 Q9
              refine qG.blk 3 (pc' := 164) (ls' := [(2, 95), (0, ((k : Nat) : Int)), (0, 1)]) (st' := [(0, (ksW (tlW wL (-1)) k ((tlW wL (-1)) 95 23).toNat) 95 23)]) (w' := (ksW (tlW wL (-1)) k ((tlW wL (-1)) 95 23).toNat)) (n' := 142) rfl ?_
              refine qG.ret rfl rfl ?_
              subst hQ9
              exact TXQ.ks hA3 hSL.tl
      · skip
        refine qG.blk 2 (pc' := 88) (ls' := [(2, 95), (0, ((k : Nat) : Int)), (0, 1)]) (st' := [(0, wL 95 35)]) (w' := wL) (n' := 142) rfl ?_
        rw [show wL 95 35 = 1 from heL]
        refine qG.br (P := (1 : Int) = 0) (pc1 := 98) (pc2 := 91) (st1 := []) rfl (fun h6 => ?_) (fun h6 => ?_)
        · exact absurd h6 (by decide)
        · skip
          refine qG.blk 1 (pc' := 92) (ls' := [(2, 95), (0, ((k : Nat) : Int)), (0, 1)]) (st' := [(2, 95)]) (w' := wL) (n' := 142) rfl ?_
          refine qG.call (t := 243) (na := 1) (sk := 1) (md := 1) (ls1 := [(2, 95), (9, 0)]) (r1 := []) rfl rfl rfl rfl rfl (K_aStep (by omega) L wL hPL hSL hL40) ?_
          rintro _ w7 _ ⟨rfl, ⟨rfl, hS7⟩ | ⟨rfl, hS7, hPn, hSn, hL41, hmn⟩⟩
          · skip
            show qG none (d + 1) 245 95 [(2, 95), (0, ((k : Nat) : Int)), (0, 1)] [(0, 0)] w7 142 Q9
            have hAn := hAL.tr hS7 (by decide +kernel)
            have hen := (hS7.2 95 35 (fun _ => rfl)).trans heL
            have hbn := hbL
            refine qG.blk 3 (pc' := 73) (ls' := [(2, 95), (0, ((k : Nat) : Int)), (0, 0)]) (st' := []) (w' := w7) (n' := 142) rfl ?_
            exact ih73 _ (by omega) (0) (L) (w7) rfl (⟨hAn, hen, .inl rfl⟩)
          · skip
            show qG none (d + 1) 245 95 [(2, 95), (0, ((k : Nat) : Int)), (0, 1)] [(0, 1)] w7 142 Q9
            have hAn := hAL.tr hS7 (by decide +kernel)
            have hen := (hS7.2 95 35 (fun _ => rfl)).trans heL
            have hbn := hbL
            have hbn2 := hPn.b
            refine qG.blk 3 (pc' := 73) (ls' := [(2, 95), (0, ((k : Nat) : Int)), (0, 1)]) (st' := []) (w' := w7) (n' := 142) rfl ?_
            exact ih73 _ (by omega) (1) (L + 1) (w7) rfl (⟨hAn, hen, .inr ⟨rfl, hL41, hPn, hSn⟩⟩)
  exact L73 _ (1) (0) (w1) rfl (⟨hA1, e35, .inr ⟨rfl, by omega, hP1, e23, fun i hi => by omega⟩⟩)
theorem K_textS {d : Nat} (hd : 42 ≤ d) (k : Nat) (hk : k < 4) (w : qW) (hI : yInv zgf zga zra zSp w) : qG none d 245 0 [(2, 95), (0, ((k : Nat) : Int)), (9, 0)] [] w 142 (TXQ w) := by
  generalize hQ9 : (TXQ w) = Q9
  obtain ⟨d, rfl⟩ : ∃ d9, d = d9 + 1 := ⟨d - 1, by omega⟩
  refine qG.blk 6 (pc' := 8) (ls' := [(2, 95), (0, ((k : Nat) : Int)), (9, 0)]) (st' := [(0, 4), (0, 0), (0, ((k : Nat) : Int))]) (w' := (qup w 95 30 0)) (n' := 142) rfl ?_
  refine qG.call (t := 206) (na := 3) (sk := 0) (md := 0) (ls1 := [(0, ((k : Nat) : Int)), (0, 0), (0, 4)]) (r1 := []) rfl rfl rfl rfl rfl (K_isIn (by omega) _ _ _ _) ?_
  rintro _ w7 _ ⟨rfl, hw7, rfl⟩
  rw [hw7]
  show qG none (d + 1) 245 11 [(2, 95), (0, ((k : Nat) : Int)), (9, 0)] [(0, isInV ((k : Nat) : Int) 0 4)] (qup w 95 30 0) 142 Q9
  refine qG.br (P := isInV ((k : Nat) : Int) 0 4 = 0) (pc1 := 14) (pc2 := 31) (st1 := []) rfl (fun hin => ?_) (fun hin => ?_)
  · exfalso; unfold isInV at hin; (repeat' split at hin) <;> omega
  · skip
    refine qG.blk 3 (pc' := 34) (ls' := [(2, 95), (0, ((k : Nat) : Int)), (9, 0)]) (st' := [(0, 4), (0, ((k : Nat) : Int)), (2, 95)]) (w' := (qup w 95 30 0)) (n' := 142) rfl ?_
    refine qG.br (P := ((k : Nat) : Int) < 4) (pc1 := 37) (pc2 := 41) (st1 := [(2, 95)]) rfl (fun hk4 => ?_) (fun hk4 => ?_)
    · skip
      refine qG.blk 2 (pc' := 42) (ls' := [(2, 95), (0, ((k : Nat) : Int)), (9, 0)]) (st' := [(0, 1), (2, 95)]) (w' := (qup w 95 30 0)) (n' := 142) rfl ?_
      refine qG.gd (P := (0 < (95 : Int) ∧ (95 : Int) ≤ ((142 : Nat) : Int)) ∧ 0 ≤ 1 ∧ 1 ≤ 1) (pc' := 45) (ls' := [(2, 95), (0, ((k : Nat) : Int)), (9, 0)]) (st' := []) (w' := (qup (qup w 95 30 0) 95 35 1)) (n' := 142) rfl (by omega) ?_
      refine qG.blk 11 (pc' := 64) (ls' := [(2, 95), (0, ((k : Nat) : Int)), (9, 0)]) (st' := [(2, w 95 15)]) (w' := (qup (qup (qup (qup (qup w 95 30 0) 95 35 1) 95 26 0) 95 23 0) 95 24 0)) (n' := 142) rfl ?_
      rw [show w 95 15 = 109 from zref hI rfl rfl]
      refine qG.blk 2 (pc' := 66) (ls' := [(2, 95), (0, ((k : Nat) : Int)), (9, 0)]) (st' := [(0, 0), (0, 0), (2, 109)]) (w' := (qup (qup (qup (qup (qup w 95 30 0) 95 35 1) 95 26 0) 95 23 0) 95 24 0)) (n' := 142) rfl ?_
      refine qG.ar (P := 0 ≤ 0 ∧ 0 < ((21 : Nat) : Int)) (P2 := 0 < (109 : Int) ∧ (109 : Int) ≤ ((142 : Nat) : Int)) (pc' := 67) (ls' := [(2, 95), (0, ((k : Nat) : Int)), (9, 0)]) (st' := []) (w' := (qup (qup (qup (qup (qup (qup w 95 30 0) 95 35 1) 95 26 0) 95 23 0) 95 24 0) 109 0 0)) (n' := 142) rfl (by omega) (by decide) ?_
      subst hQ9
      exact K_textBS (by omega) k hk w hI
    · exfalso; omega
theorem K_textBP {d : Nat} (hd : 42 ≤ d) (w : qW) (hI : yInv zgf zga zra zSp w) : qG none d 245 67 [(2, 95), (0, 4), (9, 0)] [] (txW w 0) 142 (TXQ w) := by
  generalize hQ9 : (TXQ w) = Q9
  obtain ⟨d, rfl⟩ : ∃ d9, d = d9 + 1 := ⟨d - 1, by omega⟩
  have hAT : AW XN w (txW w 0) := txW_A hI (by decide) (by decide)
  refine qG.blk 1 (pc' := 68) (ls' := [(2, 95), (0, 4), (9, 0)]) (st' := [(2, 95)]) (w' := (txW w 0)) (n' := 142) rfl ?_
  refine qG.call (t := 231) (na := 1) (sk := 1) (md := 1) (ls1 := [(2, 95), (9, 0)]) (r1 := []) rfl rfl rfl rfl rfl (K_next0 (by omega) (txW w 0) hAT.1) ?_
  rintro _ w1 _ ⟨rfl, rfl, hX1⟩
  obtain ⟨hN1, hg1, hg2, hg3⟩ := hX1.look hAT.1
  have hA1 : AW XN w w1 := hAT.tr hN1 (by decide +kernel)
  have hP1 : PI w1 := ⟨hN1.1, hg2, hg3⟩
  have e23 : w1 95 23 = 0 := (hN1.2 95 23 (fun _ => rfl)).trans (by unfold txW; simp (disch := decide) only [qup_ne, qup_j, qup_k])
  have e24 : w1 95 24 = 0 := (hN1.2 95 24 (fun _ => rfl)).trans (by unfold txW; simp (disch := decide) only [qup_ne, qup_j, qup_k])
  have e35 : w1 95 35 = 0 := (hN1.2 95 35 (fun _ => rfl)).trans (by unfold txW; simp (disch := decide) only [qup_ne, qup_j, qup_k])
  have e109 : w1 109 0 = 0 := (hN1.2 109 0 (fun _ => rfl)).trans (by unfold txW; simp (disch := decide) only [qup_ne, qup_j, qup_k])
  have hb1 := hP1.b
  show qG none (d + 1) 245 71 [(2, 95), (0, 4), (9, 0)] [] w1 142 Q9
  refine qG.blk 2 (pc' := 73) (ls' := [(2, 95), (0, 4), (0, 1)]) (st' := []) (w' := w1) (n' := 142) rfl ?_
  have L73 : ∀ (m9 : Nat) (good : Int) (L : Nat) (wL : qW), (good * (601 - wL 95 28)).toNat = m9 → (AW XN w wL ∧ wL 95 35 = 0 ∧ (good = 0 ∨ (good = 1 ∧ L ≤ 20 ∧ PI wL ∧ wL 95 24 ≤ wL 95 28 ∧ RsL wL L))) → qG none (d + 1) 245 73 [(2, 95), (0, 4), (0, good)] [] wL 142 Q9 := by
    intro m9
    induction m9 using Nat.strongRecOn with
    | ind m9 ih73 =>
    intro good L wL hm73 hI73
    obtain ⟨hAL, heL, hOr⟩ := hI73
    refine qG.blk 1 (pc' := 74) (ls' := [(2, 95), (0, 4), (0, good)]) (st' := [(0, good)]) (w' := wL) (n' := 142) rfl ?_
    refine qG.br (P := good = 0) (pc1 := 106) (pc2 := 77) (st1 := []) rfl (fun hg => ?_) (fun hg => ?_)
    · skip
      subst hg
      refine qG.blk 9 (pc' := 121) (ls' := [(2, 95), (0, 4), (0, 0)]) (st' := [(0, 0), (2, 95)]) (w' := (qup (qup wL 95 25 0) 95 32 (wL 95 30))) (n' := 142) rfl ?_
      refine qG.br (P := (0 : Int) = 0) (pc1 := 128) (pc2 := 124) (st1 := [(2, 95)]) rfl (fun h1 => ?_) (fun h1 => ?_)
      · skip
        refine qG.blk 4 (pc' := 136) (ls' := [(2, 95), (0, 4), (0, 0)]) (st' := [(0, 0)]) (w' := (qup (qup (qup wL 95 25 0) 95 32 (wL 95 30)) 95 34 (wL 95 31))) (n' := 142) rfl ?_
        refine qG.br (P := (0 : Int) = 0) (pc1 := 139) (pc2 := 141) (st1 := []) rfl (fun h2 => ?_) (fun h2 => ?_)
        · skip
          refine qG.blk 1 (pc' := 140) (ls' := [(2, 95), (0, 4), (0, 0)]) (st' := [(0, (-1))]) (w' := (qup (qup (qup wL 95 25 0) 95 32 (wL 95 30)) 95 34 (wL 95 31))) (n' := 142) rfl ?_
          refine qG.ret rfl rfl ?_
          subst hQ9
          exact TXQ.xn (tlW_A hAL (v := wL 95 31) (Int.le_trans (by decide) (zfld hAL.1 (j := 31) (b := (0, 600)) rfl).1) (zfld hAL.1 (j := 31) (b := (0, 600)) rfl).2)
        · exact absurd h2 (by decide)
      · exact absurd h1 (by decide)
    · skip
      obtain ⟨hg1, hL40, hPL, hDL, hSL⟩ := hOr.resolve_left hg
      subst hg1
      have hbL := hPL.b
      refine qG.blk 2 (pc' := 81) (ls' := [(2, 95), (0, 4), (0, 1)]) (st' := [(0, wL 95 27)]) (w' := wL) (n' := 142) rfl ?_
      refine qG.br (P := wL 95 27 = 0) (pc1 := 106) (pc2 := 84) (st1 := []) rfl (fun htok => ?_) (fun htok => ?_)
      · skip
        refine qG.blk 9 (pc' := 121) (ls' := [(2, 95), (0, 4), (0, 1)]) (st' := [(0, 1), (2, 95)]) (w' := (qup (qup wL 95 25 0) 95 32 (wL 95 30))) (n' := 142) rfl ?_
        refine qG.br (P := (1 : Int) = 0) (pc1 := 128) (pc2 := 124) (st1 := [(2, 95)]) rfl (fun h3 => ?_) (fun h3 => ?_)
        · exact absurd h3 (by decide)
        · skip
          refine qG.blk 4 (pc' := 136) (ls' := [(2, 95), (0, 4), (0, 1)]) (st' := [(0, 1)]) (w' := (qup (qup (qup wL 95 25 0) 95 32 (wL 95 30)) 95 34 (-1))) (n' := 142) rfl ?_
          refine qG.br (P := (1 : Int) = 0) (pc1 := 139) (pc2 := 141) (st1 := []) rfl (fun h4 => ?_) (fun h4 => ?_)
          · exact absurd h4 (by decide)
          · skip
            refine qG.blk 2 (pc' := 145) (ls' := [(2, 95), (0, 4), (0, 1)]) (st' := [(0, wL 95 35)]) (w' := (qup (qup (qup wL 95 25 0) 95 32 (wL 95 30)) 95 34 (-1))) (n' := 142) rfl ?_
            rw [show wL 95 35 = 0 from heL]
            refine qG.br (P := (0 : Int) = 0) (pc1 := 156) (pc2 := 148) (st1 := []) rfl (fun h5 => ?_) (fun h5 => ?_)
            · skip
              refine qG.blk 1 (pc' := 157) (ls' := [(2, 95), (0, 4), (0, 1)]) (st' := [(2, 95)]) (w' := (qup (qup (qup wL 95 25 0) 95 32 (wL 95 30)) 95 34 (-1))) (n' := 142) rfl ?_
              have hA3 := tlW_A hAL (v := -1) (by decide) (by decide)
              show qG none (d + 1) 245 157 [(2, 95), (0, 4), (0, 1)] [(2, 95)] (tlW wL (-1)) 142 Q9
              refine qG.call (t := 247) (na := 1) (sk := 1) (md := 1) (ls1 := [(2, 95), (9, 0)]) (r1 := []) rfl rfl rfl rfl rfl (K_keepsReasons (by omega) L (tlW wL (-1)) hA3.1 hSL.tl hL40) ?_
              rintro _ _ _ ⟨rfl, rfl, rfl⟩
              show qG none (d + 1) 245 160 [(2, 95), (0, 4), (0, 1)] [] (krW (tlW wL (-1)) L) 142 Q9
              refine qG.blk 2 (pc' := 164) (ls' := [(2, 95), (0, 4), (0, 1)]) (st' := [(0, (krW (tlW wL (-1)) L) 95 23)]) (w' := (krW (tlW wL (-1)) L)) (n' := 142) rfl ?_
              refine qG.ret rfl rfl ?_
              subst hQ9
              exact TXQ.kr hA3 hSL.tl hL40
            · exact absurd h5 (by decide)
      · skip
        refine qG.blk 2 (pc' := 88) (ls' := [(2, 95), (0, 4), (0, 1)]) (st' := [(0, wL 95 35)]) (w' := wL) (n' := 142) rfl ?_
        rw [show wL 95 35 = 0 from heL]
        refine qG.br (P := (0 : Int) = 0) (pc1 := 98) (pc2 := 91) (st1 := []) rfl (fun h6 => ?_) (fun h6 => ?_)
        · skip
          refine qG.blk 1 (pc' := 99) (ls' := [(2, 95), (0, 4), (0, 1)]) (st' := [(2, 95)]) (w' := wL) (n' := 142) rfl ?_
          refine qG.call (t := 244) (na := 1) (sk := 1) (md := 1) (ls1 := [(2, 95)]) (r1 := []) rfl rfl rfl rfl rfl (K_aReason (by omega) L wL hPL hDL hSL hL40) ?_
          rintro _ w7 _ ⟨rfl, ⟨rfl, hS7⟩ | ⟨rfl, hS7, hPn, hSn, hDn, hmn, hL41⟩⟩
          · skip
            show qG none (d + 1) 245 102 [(2, 95), (0, 4), (0, 1)] [(0, 0)] w7 142 Q9
            have hAn := hAL.tr hS7 (by decide +kernel)
            have hen := (hS7.2 95 35 (fun _ => rfl)).trans heL
            have hbn := hbL
            refine qG.blk 2 (pc' := 73) (ls' := [(2, 95), (0, 4), (0, 0)]) (st' := []) (w' := w7) (n' := 142) rfl ?_
            exact ih73 _ (by omega) (0) (L) (w7) rfl (⟨hAn, hen, .inl rfl⟩)
          · skip
            show qG none (d + 1) 245 102 [(2, 95), (0, 4), (0, 1)] [(0, 1)] w7 142 Q9
            have hAn := hAL.tr hS7 (by decide +kernel)
            have hen := (hS7.2 95 35 (fun _ => rfl)).trans heL
            have hbn := hbL
            have hbn2 := hPn.b
            refine qG.blk 2 (pc' := 73) (ls' := [(2, 95), (0, 4), (0, 1)]) (st' := []) (w' := w7) (n' := 142) rfl ?_
            exact ih73 _ (by omega) (1) (L + 1) (w7) rfl (⟨hAn, hen, .inr ⟨rfl, hL41, hPn, hDn, hSn⟩⟩)
        · exact absurd h6 (by decide)
  exact L73 _ (1) (0) (w1) rfl (⟨hA1, e35, .inr ⟨rfl, by omega, hP1, by omega, e23, by rw [e109, e24], fun i hi => by rw [show i = 0 by omega, e109, e24]; omega, fun i hi => by omega⟩⟩)
theorem K_textP {d : Nat} (hd : 42 ≤ d) (w : qW) (hI : yInv zgf zga zra zSp w) : qG none d 245 0 [(2, 95), (0, 4), (9, 0)] [] w 142 (TXQ w) := by
  generalize hQ9 : (TXQ w) = Q9
  obtain ⟨d, rfl⟩ : ∃ d9, d = d9 + 1 := ⟨d - 1, by omega⟩
  refine qG.blk 6 (pc' := 8) (ls' := [(2, 95), (0, 4), (9, 0)]) (st' := [(0, 4), (0, 0), (0, 4)]) (w' := (qup w 95 30 0)) (n' := 142) rfl ?_
  refine qG.call (t := 206) (na := 3) (sk := 0) (md := 0) (ls1 := [(0, 4), (0, 0), (0, 4)]) (r1 := []) rfl rfl rfl rfl rfl (K_isIn (by omega) _ _ _ _) ?_
  rintro _ w7 _ ⟨rfl, hw7, rfl⟩
  rw [hw7]
  show qG none (d + 1) 245 11 [(2, 95), (0, 4), (9, 0)] [(0, isInV 4 0 4)] (qup w 95 30 0) 142 Q9
  refine qG.br (P := isInV 4 0 4 = 0) (pc1 := 14) (pc2 := 31) (st1 := []) rfl (fun hin => ?_) (fun hin => ?_)
  · exfalso; unfold isInV at hin; (repeat' split at hin) <;> omega
  · skip
    refine qG.blk 3 (pc' := 34) (ls' := [(2, 95), (0, 4), (9, 0)]) (st' := [(0, 4), (0, 4), (2, 95)]) (w' := (qup w 95 30 0)) (n' := 142) rfl ?_
    refine qG.br (P := (4 : Int) < 4) (pc1 := 37) (pc2 := 41) (st1 := [(2, 95)]) rfl (fun h1 => ?_) (fun h1 => ?_)
    · exact absurd h1 (by decide)
    · skip
      refine qG.blk 1 (pc' := 42) (ls' := [(2, 95), (0, 4), (9, 0)]) (st' := [(0, 0), (2, 95)]) (w' := (qup w 95 30 0)) (n' := 142) rfl ?_
      refine qG.gd (P := (0 < (95 : Int) ∧ (95 : Int) ≤ ((142 : Nat) : Int)) ∧ 0 ≤ 0 ∧ 0 ≤ 1) (pc' := 45) (ls' := [(2, 95), (0, 4), (9, 0)]) (st' := []) (w' := (qup (qup w 95 30 0) 95 35 0)) (n' := 142) rfl (by omega) ?_
      refine qG.blk 11 (pc' := 64) (ls' := [(2, 95), (0, 4), (9, 0)]) (st' := [(2, w 95 15)]) (w' := (qup (qup (qup (qup (qup w 95 30 0) 95 35 0) 95 26 0) 95 23 0) 95 24 0)) (n' := 142) rfl ?_
      rw [show w 95 15 = 109 from zref hI rfl rfl]
      refine qG.blk 2 (pc' := 66) (ls' := [(2, 95), (0, 4), (9, 0)]) (st' := [(0, 0), (0, 0), (2, 109)]) (w' := (qup (qup (qup (qup (qup w 95 30 0) 95 35 0) 95 26 0) 95 23 0) 95 24 0)) (n' := 142) rfl ?_
      refine qG.ar (P := 0 ≤ 0 ∧ 0 < ((21 : Nat) : Int)) (P2 := 0 < (109 : Int) ∧ (109 : Int) ≤ ((142 : Nat) : Int)) (pc' := 67) (ls' := [(2, 95), (0, 4), (9, 0)]) (st' := []) (w' := (qup (qup (qup (qup (qup (qup w 95 30 0) 95 35 0) 95 26 0) 95 23 0) 95 24 0) 109 0 0)) (n' := 142) rfl (by omega) (by decide) ?_
      subst hQ9
      exact K_textBP (by omega) w hI
theorem K_textX {d : Nat} (hd : 42 ≤ d) (k : Int) (hk : k < 0 ∨ 4 < k) (w : qW) (hI : yInv zgf zga zra zSp w) : qG none d 245 0 [(2, 95), (0, k), (9, 0)] [] w 142 (TXQ w) := by
  generalize hQ9 : (TXQ w) = Q9
  obtain ⟨d, rfl⟩ : ∃ d9, d = d9 + 1 := ⟨d - 1, by omega⟩
  refine qG.blk 6 (pc' := 8) (ls' := [(2, 95), (0, k), (9, 0)]) (st' := [(0, 4), (0, 0), (0, k)]) (w' := (qup w 95 30 0)) (n' := 142) rfl ?_
  refine qG.call (t := 206) (na := 3) (sk := 0) (md := 0) (ls1 := [(0, k), (0, 0), (0, 4)]) (r1 := []) rfl rfl rfl rfl rfl (K_isIn (by omega) _ _ _ _) ?_
  rintro _ w7 _ ⟨rfl, hw7, rfl⟩
  rw [hw7]
  show qG none (d + 1) 245 11 [(2, 95), (0, k), (9, 0)] [(0, isInV k 0 4)] (qup w 95 30 0) 142 Q9
  refine qG.br (P := isInV k 0 4 = 0) (pc1 := 14) (pc2 := 31) (st1 := []) rfl (fun hin => ?_) (fun hin => ?_)
  · skip
    refine qG.blk 10 (pc' := 30) (ls' := [(2, 95), (0, k), (9, 0)]) (st' := [(0, (-1))]) (w' := (qup (qup (qup (qup w 95 30 0) 95 25 0) 95 32 0) 95 34 (-1))) (n' := 142) rfl ?_
    refine qG.ret rfl rfl ?_
    subst hQ9
    have a1 := (AW.rf (m := XN) hI).fld (j := 30) (v := 0) (zup_f hI (b := (0, 3)) rfl rfl rfl ⟨by decide, by decide⟩) (by decide +kernel)
    have a2 := a1.fld (j := 25) (v := 0) (zup_f a1.1 (b := (0, 600)) rfl rfl rfl ⟨by decide, by decide⟩) (by decide +kernel)
    have a3 := a2.fld (j := 32) (v := 0) (zup_f a2.1 (b := (0, 3)) rfl rfl rfl ⟨by decide, by decide⟩) (by decide +kernel)
    exact TXQ.xn (a3.fld (j := 34) (v := -1) (zup_f a3.1 (b := (-1, 600)) rfl rfl rfl ⟨by decide, by decide⟩) (by decide +kernel))
  · exfalso; unfold isInV at hin; (repeat' split at hin) <;> omega
theorem K_text {d : Nat} (hd : 42 ≤ d) (k : Int) (w : qW) (hI : yInv zgf zga zra zSp w) : qG none d 245 0 [(2, 95), (0, k), (9, 0)] [] w 142 (TXQ w) := by
  by_cases h : k < 0 ∨ 4 < k
  · exact K_textX hd k h w hI
  · by_cases h4 : k = 4
    · subst h4; exact K_textP hd w hI
    · have := K_textS hd k.toNat (by omega) w hI
      rwa [show ((k.toNat : Nat) : Int) = k by omega] at this
end
