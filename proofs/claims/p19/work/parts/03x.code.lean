-- lengths and targets
def qlen (i : Instr) : Nat := match i with
  | .iload _ | .lload _ | .aload _ | .istore _ | .lstore _ | .bipush _ | .ldc _ | .newarray _ => 2
  | .sipush _ | .iinc _ _ | .ldc_w _ | .ldc2_w _ | .goto _ | .ifCond _ _ | .if_icmp _ _ | .if_acmp _ _ | .getfield _ | .putfield _ | .invokestatic _ | .invokevirtual _ | .invokespecial _ | .new _ | .anewarray _ => 3
  | .multianewarray _ _ => 4
  | _ => 1
def qok (pc : Nat) (i : Instr) (len : Nat) : Bool := match i with
  | .tableswitch d lo hi offs => decide (hi + 1 = lo + offs.size) && decide (-2147483648 ≤ lo) && decide (hi < 2147483648) && decide (0 ≤ (pc : Int) + d) && offs.toList.all (fun o => decide (0 ≤ (pc : Int) + o))
  | .goto off | .ifCond _ off | .if_icmp _ off | .if_acmp _ off => Nat.beq len 3 && decide (0 ≤ (pc : Int) + off)
  | .iconst c => Nat.beq len 1 && decide (-1 ≤ c ∧ c ≤ 5)
  | .bipush c => Nat.beq len 2 && decide (-128 ≤ c ∧ c ≤ 127)
  | .sipush c => Nat.beq len 3 && decide (-32768 ≤ c ∧ c ≤ 32767)
  | .iinc _ c => Nat.beq len 3 && decide (-32768 ≤ c ∧ c ≤ 32767)
  | i => Nat.beq len (qlen i)
def qckD (o : Option qI) (b : ByteArray) (pc : Nat) : Bool := match o with
  | none => true
  | some (ins, len) => (match decode b pc with
    | .ok x => decide (x = (ins, len))
    | .error _ => false) && qok pc ins len
theorem qckD_of {o : Option qI} {b : ByteArray} {pc : Nat} {ins : Instr} {len : Nat} (h : qckD o b pc = true) (ho : o = some (ins, len)) : decode b pc = .ok (ins, len) ∧ qok pc ins len = true := by
  subst ho
  unfold qckD at h
  replace h : ((match decode b pc with
    | .ok x => decide (x = (ins, len))
    | .error _ => false) && qok pc ins len) = true := h
  rw [Bool.and_eq_true] at h
  refine ⟨?_, h.2⟩
  have h1 := h.1
  split at h1
  · rename_i x hx
    rw [hx, of_decide_eq_true h1]
  · cases h1
theorem qblt_f {a b : Nat} (h : ¬ a < b) : Nat.blt a b = false := by
  cases hq : Nat.blt a b
  · rfl
  · exact absurd (Nat.blt_eq.mp hq) h

theorem qd_X0_init_0 : (List.range 39).all (fun j => qckD (qc_X0_init (0 + j)) cX0_init (0 + j)) = true := by decide +kernel
theorem qd_X0_init {pc : Nat} {ins : Instr} {len : Nat} (h : qc_X0_init pc = some (ins, len)) : decode cX0_init pc = .ok (ins, len) ∧ qok pc ins len = true := by
  refine qckD_of ?_ h
  by_cases h0 : pc < 39
  · have := List.all_eq_true.mp qd_X0_init_0 (pc - 0) (List.mem_range.mpr (by omega))
    rwa [show 0 + (pc - 0) = pc by omega] at this
  exfalso; unfold qc_X0_init at h; rw [qblt_f h0] at h; cases h
theorem qd_X0_moveCode_0 : (List.range 7).all (fun j => qckD (qc_X0_moveCode (0 + j)) cX0_moveCode (0 + j)) = true := by decide +kernel
theorem qd_X0_moveCode {pc : Nat} {ins : Instr} {len : Nat} (h : qc_X0_moveCode pc = some (ins, len)) : decode cX0_moveCode pc = .ok (ins, len) ∧ qok pc ins len = true := by
  refine qckD_of ?_ h
  by_cases h0 : pc < 7
  · have := List.all_eq_true.mp qd_X0_moveCode_0 (pc - 0) (List.mem_range.mpr (by omega))
    rwa [show 0 + (pc - 0) = pc by omega] at this
  exfalso; unfold qc_X0_moveCode at h; rw [qblt_f h0] at h; cases h
theorem qd_X0_tell_0 : (List.range 72).all (fun j => qckD (qc_X0_tell (0 + j)) cX0_tell (0 + j)) = true := by decide +kernel
theorem qd_X0_tell {pc : Nat} {ins : Instr} {len : Nat} (h : qc_X0_tell pc = some (ins, len)) : decode cX0_tell pc = .ok (ins, len) ∧ qok pc ins len = true := by
  refine qckD_of ?_ h
  by_cases h0 : pc < 72
  · have := List.all_eq_true.mp qd_X0_tell_0 (pc - 0) (List.mem_range.mpr (by omega))
    rwa [show 0 + (pc - 0) = pc by omega] at this
  exfalso; unfold qc_X0_tell at h; rw [qblt_f h0] at h; cases h
theorem qd_X0_play_0 : (List.range 48).all (fun j => qckD (qc_X0_play (0 + j)) cX0_play (0 + j)) = true := by decide +kernel
theorem qd_X0_play {pc : Nat} {ins : Instr} {len : Nat} (h : qc_X0_play pc = some (ins, len)) : decode cX0_play pc = .ok (ins, len) ∧ qok pc ins len = true := by
  refine qckD_of ?_ h
  by_cases h0 : pc < 48
  · have := List.all_eq_true.mp qd_X0_play_0 (pc - 0) (List.mem_range.mpr (by omega))
    rwa [show 0 + (pc - 0) = pc by omega] at this
  exfalso; unfold qc_X0_play at h; rw [qblt_f h0] at h; cases h
theorem qd_X0_factOf_0 : (List.range 59).all (fun j => qckD (qc_X0_factOf (0 + j)) cX0_factOf (0 + j)) = true := by decide +kernel
theorem qd_X0_factOf {pc : Nat} {ins : Instr} {len : Nat} (h : qc_X0_factOf pc = some (ins, len)) : decode cX0_factOf pc = .ok (ins, len) ∧ qok pc ins len = true := by
  refine qckD_of ?_ h
  by_cases h0 : pc < 59
  · have := List.all_eq_true.mp qd_X0_factOf_0 (pc - 0) (List.mem_range.mpr (by omega))
    rwa [show 0 + (pc - 0) = pc by omega] at this
  exfalso; unfold qc_X0_factOf at h; rw [qblt_f h0] at h; cases h
theorem qd_X0_emptyGame_0 : (List.range 12).all (fun j => qckD (qc_X0_emptyGame (0 + j)) cX0_emptyGame (0 + j)) = true := by decide +kernel
theorem qd_X0_emptyGame {pc : Nat} {ins : Instr} {len : Nat} (h : qc_X0_emptyGame pc = some (ins, len)) : decode cX0_emptyGame pc = .ok (ins, len) ∧ qok pc ins len = true := by
  refine qckD_of ?_ h
  by_cases h0 : pc < 12
  · have := List.all_eq_true.mp qd_X0_emptyGame_0 (pc - 0) (List.mem_range.mpr (by omega))
    rwa [show 0 + (pc - 0) = pc by omega] at this
  exfalso; unfold qc_X0_emptyGame at h; rw [qblt_f h0] at h; cases h
theorem qd_X0_playedAlone_0 : (List.range 52).all (fun j => qckD (qc_X0_playedAlone (0 + j)) cX0_playedAlone (0 + j)) = true := by decide +kernel
theorem qd_X0_playedAlone {pc : Nat} {ins : Instr} {len : Nat} (h : qc_X0_playedAlone pc = some (ins, len)) : decode cX0_playedAlone pc = .ok (ins, len) ∧ qok pc ins len = true := by
  refine qckD_of ?_ h
  by_cases h0 : pc < 52
  · have := List.all_eq_true.mp qd_X0_playedAlone_0 (pc - 0) (List.mem_range.mpr (by omega))
    rwa [show 0 + (pc - 0) = pc by omega] at this
  exfalso; unfold qc_X0_playedAlone at h; rw [qblt_f h0] at h; cases h
theorem qd_X0_answerTo_0 : (List.range 41).all (fun j => qckD (qc_X0_answerTo (0 + j)) cX0_answerTo (0 + j)) = true := by decide +kernel
theorem qd_X0_answerTo {pc : Nat} {ins : Instr} {len : Nat} (h : qc_X0_answerTo pc = some (ins, len)) : decode cX0_answerTo pc = .ok (ins, len) ∧ qok pc ins len = true := by
  refine qckD_of ?_ h
  by_cases h0 : pc < 41
  · have := List.all_eq_true.mp qd_X0_answerTo_0 (pc - 0) (List.mem_range.mpr (by omega))
    rwa [show 0 + (pc - 0) = pc by omega] at this
  exfalso; unfold qc_X0_answerTo at h; rw [qblt_f h0] at h; cases h
theorem qd_X1_init_0 : (List.range 29).all (fun j => qckD (qc_X1_init (0 + j)) cX1_init (0 + j)) = true := by decide +kernel
theorem qd_X1_init {pc : Nat} {ins : Instr} {len : Nat} (h : qc_X1_init pc = some (ins, len)) : decode cX1_init pc = .ok (ins, len) ∧ qok pc ins len = true := by
  refine qckD_of ?_ h
  by_cases h0 : pc < 29
  · have := List.all_eq_true.mp qd_X1_init_0 (pc - 0) (List.mem_range.mpr (by omega))
    rwa [show 0 + (pc - 0) = pc by omega] at this
  exfalso; unfold qc_X1_init at h; rw [qblt_f h0] at h; cases h
theorem qd_X1_isSquare_0 : (List.range 16).all (fun j => qckD (qc_X1_isSquare (0 + j)) cX1_isSquare (0 + j)) = true := by decide +kernel
theorem qd_X1_isSquare {pc : Nat} {ins : Instr} {len : Nat} (h : qc_X1_isSquare pc = some (ins, len)) : decode cX1_isSquare pc = .ok (ins, len) ∧ qok pc ins len = true := by
  refine qckD_of ?_ h
  by_cases h0 : pc < 16
  · have := List.all_eq_true.mp qd_X1_isSquare_0 (pc - 0) (List.mem_range.mpr (by omega))
    rwa [show 0 + (pc - 0) = pc by omega] at this
  exfalso; unfold qc_X1_isSquare at h; rw [qblt_f h0] at h; cases h
theorem qd_X1_isMove_0 : (List.range 25).all (fun j => qckD (qc_X1_isMove (0 + j)) cX1_isMove (0 + j)) = true := by decide +kernel
theorem qd_X1_isMove {pc : Nat} {ins : Instr} {len : Nat} (h : qc_X1_isMove pc = some (ins, len)) : decode cX1_isMove pc = .ok (ins, len) ∧ qok pc ins len = true := by
  refine qckD_of ?_ h
  by_cases h0 : pc < 25
  · have := List.all_eq_true.mp qd_X1_isMove_0 (pc - 0) (List.mem_range.mpr (by omega))
    rwa [show 0 + (pc - 0) = pc by omega] at this
  exfalso; unfold qc_X1_isMove at h; rw [qblt_f h0] at h; cases h
theorem qd_X1_putPiece_0 : (List.range 35).all (fun j => qckD (qc_X1_putPiece (0 + j)) cX1_putPiece (0 + j)) = true := by decide +kernel
theorem qd_X1_putPiece {pc : Nat} {ins : Instr} {len : Nat} (h : qc_X1_putPiece pc = some (ins, len)) : decode cX1_putPiece pc = .ok (ins, len) ∧ qok pc ins len = true := by
  refine qckD_of ?_ h
  by_cases h0 : pc < 35
  · have := List.all_eq_true.mp qd_X1_putPiece_0 (pc - 0) (List.mem_range.mpr (by omega))
    rwa [show 0 + (pc - 0) = pc by omega] at this
  exfalso; unfold qc_X1_putPiece at h; rw [qblt_f h0] at h; cases h
theorem qd_X1_putStick_0 : (List.range 18).all (fun j => qckD (qc_X1_putStick (0 + j)) cX1_putStick (0 + j)) = true := by decide +kernel
theorem qd_X1_putStick {pc : Nat} {ins : Instr} {len : Nat} (h : qc_X1_putStick pc = some (ins, len)) : decode cX1_putStick pc = .ok (ins, len) ∧ qok pc ins len = true := by
  refine qckD_of ?_ h
  by_cases h0 : pc < 18
  · have := List.all_eq_true.mp qd_X1_putStick_0 (pc - 0) (List.mem_range.mpr (by omega))
    rwa [show 0 + (pc - 0) = pc by omega] at this
  exfalso; unfold qc_X1_putStick at h; rw [qblt_f h0] at h; cases h
theorem qd_X1_play_0 : (List.range 60).all (fun j => qckD (qc_X1_play (0 + j)) cX1_play (0 + j)) = true := by decide +kernel
theorem qd_X1_play_1 : (List.range 60).all (fun j => qckD (qc_X1_play (60 + j)) cX1_play (60 + j)) = true := by decide +kernel
theorem qd_X1_play_2 : (List.range 4).all (fun j => qckD (qc_X1_play (120 + j)) cX1_play (120 + j)) = true := by decide +kernel
theorem qd_X1_play {pc : Nat} {ins : Instr} {len : Nat} (h : qc_X1_play pc = some (ins, len)) : decode cX1_play pc = .ok (ins, len) ∧ qok pc ins len = true := by
  refine qckD_of ?_ h
  by_cases h0 : pc < 60
  · have := List.all_eq_true.mp qd_X1_play_0 (pc - 0) (List.mem_range.mpr (by omega))
    rwa [show 0 + (pc - 0) = pc by omega] at this
  by_cases h1 : pc < 120
  · have := List.all_eq_true.mp qd_X1_play_1 (pc - 60) (List.mem_range.mpr (by omega))
    rwa [show 60 + (pc - 60) = pc by omega] at this
  by_cases h2 : pc < 124
  · have := List.all_eq_true.mp qd_X1_play_2 (pc - 120) (List.mem_range.mpr (by omega))
    rwa [show 120 + (pc - 120) = pc by omega] at this
  exfalso; unfold qc_X1_play at h; rw [qblt_f h2] at h; cases h
theorem qd_X1_factOf_0 : (List.range 58).all (fun j => qckD (qc_X1_factOf (0 + j)) cX1_factOf (0 + j)) = true := by decide +kernel
theorem qd_X1_factOf {pc : Nat} {ins : Instr} {len : Nat} (h : qc_X1_factOf pc = some (ins, len)) : decode cX1_factOf pc = .ok (ins, len) ∧ qok pc ins len = true := by
  refine qckD_of ?_ h
  by_cases h0 : pc < 58
  · have := List.all_eq_true.mp qd_X1_factOf_0 (pc - 0) (List.mem_range.mpr (by omega))
    rwa [show 0 + (pc - 0) = pc by omega] at this
  exfalso; unfold qc_X1_factOf at h; rw [qblt_f h0] at h; cases h
theorem qd_X1_countWrong_0 : (List.range 47).all (fun j => qckD (qc_X1_countWrong (0 + j)) cX1_countWrong (0 + j)) = true := by decide +kernel
theorem qd_X1_countWrong {pc : Nat} {ins : Instr} {len : Nat} (h : qc_X1_countWrong pc = some (ins, len)) : decode cX1_countWrong pc = .ok (ins, len) ∧ qok pc ins len = true := by
  refine qckD_of ?_ h
  by_cases h0 : pc < 47
  · have := List.all_eq_true.mp qd_X1_countWrong_0 (pc - 0) (List.mem_range.mpr (by omega))
    rwa [show 0 + (pc - 0) = pc by omega] at this
  exfalso; unfold qc_X1_countWrong at h; rw [qblt_f h0] at h; cases h
theorem qd_X1_countOpen_0 : (List.range 32).all (fun j => qckD (qc_X1_countOpen (0 + j)) cX1_countOpen (0 + j)) = true := by decide +kernel
theorem qd_X1_countOpen {pc : Nat} {ins : Instr} {len : Nat} (h : qc_X1_countOpen pc = some (ins, len)) : decode cX1_countOpen pc = .ok (ins, len) ∧ qok pc ins len = true := by
  refine qckD_of ?_ h
  by_cases h0 : pc < 32
  · have := List.all_eq_true.mp qd_X1_countOpen_0 (pc - 0) (List.mem_range.mpr (by omega))
    rwa [show 0 + (pc - 0) = pc by omega] at this
  exfalso; unfold qc_X1_countOpen at h; rw [qblt_f h0] at h; cases h
theorem qd_X2_init_0 : (List.range 95).all (fun j => qckD (qc_X2_init (0 + j)) cX2_init (0 + j)) = true := by decide +kernel
theorem qd_X2_init {pc : Nat} {ins : Instr} {len : Nat} (h : qc_X2_init pc = some (ins, len)) : decode cX2_init pc = .ok (ins, len) ∧ qok pc ins len = true := by
  refine qckD_of ?_ h
  by_cases h0 : pc < 95
  · have := List.all_eq_true.mp qd_X2_init_0 (pc - 0) (List.mem_range.mpr (by omega))
    rwa [show 0 + (pc - 0) = pc by omega] at this
  exfalso; unfold qc_X2_init at h; rw [qblt_f h0] at h; cases h
theorem qd_X2_areNeighbours_0 : (List.range 56).all (fun j => qckD (qc_X2_areNeighbours (0 + j)) cX2_areNeighbours (0 + j)) = true := by decide +kernel
theorem qd_X2_areNeighbours {pc : Nat} {ins : Instr} {len : Nat} (h : qc_X2_areNeighbours pc = some (ins, len)) : decode cX2_areNeighbours pc = .ok (ins, len) ∧ qok pc ins len = true := by
  refine qckD_of ?_ h
  by_cases h0 : pc < 56
  · have := List.all_eq_true.mp qd_X2_areNeighbours_0 (pc - 0) (List.mem_range.mpr (by omega))
    rwa [show 0 + (pc - 0) = pc by omega] at this
  exfalso; unfold qc_X2_areNeighbours at h; rw [qblt_f h0] at h; cases h
theorem qd_X2_isSpace_0 : (List.range 16).all (fun j => qckD (qc_X2_isSpace (0 + j)) cX2_isSpace (0 + j)) = true := by decide +kernel
theorem qd_X2_isSpace {pc : Nat} {ins : Instr} {len : Nat} (h : qc_X2_isSpace pc = some (ins, len)) : decode cX2_isSpace pc = .ok (ins, len) ∧ qok pc ins len = true := by
  refine qckD_of ?_ h
  by_cases h0 : pc < 16
  · have := List.all_eq_true.mp qd_X2_isSpace_0 (pc - 0) (List.mem_range.mpr (by omega))
    rwa [show 0 + (pc - 0) = pc by omega] at this
  exfalso; unfold qc_X2_isSpace at h; rw [qblt_f h0] at h; cases h
theorem qd_X2_putWorks_0 : (List.range 50).all (fun j => qckD (qc_X2_putWorks (0 + j)) cX2_putWorks (0 + j)) = true := by decide +kernel
theorem qd_X2_putWorks {pc : Nat} {ins : Instr} {len : Nat} (h : qc_X2_putWorks pc = some (ins, len)) : decode cX2_putWorks pc = .ok (ins, len) ∧ qok pc ins len = true := by
  refine qckD_of ?_ h
  by_cases h0 : pc < 50
  · have := List.all_eq_true.mp qd_X2_putWorks_0 (pc - 0) (List.mem_range.mpr (by omega))
    rwa [show 0 + (pc - 0) = pc by omega] at this
  exfalso; unfold qc_X2_putWorks at h; rw [qblt_f h0] at h; cases h
theorem qd_X2_putWall_0 : (List.range 106).all (fun j => qckD (qc_X2_putWall (0 + j)) cX2_putWall (0 + j)) = true := by decide +kernel
theorem qd_X2_putWall {pc : Nat} {ins : Instr} {len : Nat} (h : qc_X2_putWall pc = some (ins, len)) : decode cX2_putWall pc = .ok (ins, len) ∧ qok pc ins len = true := by
  refine qckD_of ?_ h
  by_cases h0 : pc < 106
  · have := List.all_eq_true.mp qd_X2_putWall_0 (pc - 0) (List.mem_range.mpr (by omega))
    rwa [show 0 + (pc - 0) = pc by omega] at this
  exfalso; unfold qc_X2_putWall at h; rw [qblt_f h0] at h; cases h
theorem qd_X2_putDoor_0 : (List.range 70).all (fun j => qckD (qc_X2_putDoor (0 + j)) cX2_putDoor (0 + j)) = true := by decide +kernel
theorem qd_X2_putDoor {pc : Nat} {ins : Instr} {len : Nat} (h : qc_X2_putDoor pc = some (ins, len)) : decode cX2_putDoor pc = .ok (ins, len) ∧ qok pc ins len = true := by
  refine qckD_of ?_ h
  by_cases h0 : pc < 70
  · have := List.all_eq_true.mp qd_X2_putDoor_0 (pc - 0) (List.mem_range.mpr (by omega))
    rwa [show 0 + (pc - 0) = pc by omega] at this
  exfalso; unfold qc_X2_putDoor at h; rw [qblt_f h0] at h; cases h
theorem qd_X2_shapeNumber_0 : (List.range 5).all (fun j => qckD (qc_X2_shapeNumber (0 + j)) cX2_shapeNumber (0 + j)) = true := by decide +kernel
theorem qd_X2_shapeNumber {pc : Nat} {ins : Instr} {len : Nat} (h : qc_X2_shapeNumber pc = some (ins, len)) : decode cX2_shapeNumber pc = .ok (ins, len) ∧ qok pc ins len = true := by
  refine qckD_of ?_ h
  by_cases h0 : pc < 5
  · have := List.all_eq_true.mp qd_X2_shapeNumber_0 (pc - 0) (List.mem_range.mpr (by omega))
    rwa [show 0 + (pc - 0) = pc by omega] at this
  exfalso; unfold qc_X2_shapeNumber at h; rw [qblt_f h0] at h; cases h
theorem qd_X2_worksNow_0 : (List.range 5).all (fun j => qckD (qc_X2_worksNow (0 + j)) cX2_worksNow (0 + j)) = true := by decide +kernel
theorem qd_X2_worksNow {pc : Nat} {ins : Instr} {len : Nat} (h : qc_X2_worksNow pc = some (ins, len)) : decode cX2_worksNow pc = .ok (ins, len) ∧ qok pc ins len = true := by
  refine qckD_of ?_ h
  by_cases h0 : pc < 5
  · have := List.all_eq_true.mp qd_X2_worksNow_0 (pc - 0) (List.mem_range.mpr (by omega))
    rwa [show 0 + (pc - 0) = pc by omega] at this
  exfalso; unfold qc_X2_worksNow at h; rw [qblt_f h0] at h; cases h
theorem qd_X2_freeSpaces_0 : (List.range 10).all (fun j => qckD (qc_X2_freeSpaces (0 + j)) cX2_freeSpaces (0 + j)) = true := by decide +kernel
theorem qd_X2_freeSpaces {pc : Nat} {ins : Instr} {len : Nat} (h : qc_X2_freeSpaces pc = some (ins, len)) : decode cX2_freeSpaces pc = .ok (ins, len) ∧ qok pc ins len = true := by
  refine qckD_of ?_ h
  by_cases h0 : pc < 10
  · have := List.all_eq_true.mp qd_X2_freeSpaces_0 (pc - 0) (List.mem_range.mpr (by omega))
    rwa [show 0 + (pc - 0) = pc by omega] at this
  exfalso; unfold qc_X2_freeSpaces at h; rw [qblt_f h0] at h; cases h
theorem qd_X2_sideOf_0 : (List.range 21).all (fun j => qckD (qc_X2_sideOf (0 + j)) cX2_sideOf (0 + j)) = true := by decide +kernel
theorem qd_X2_sideOf {pc : Nat} {ins : Instr} {len : Nat} (h : qc_X2_sideOf pc = some (ins, len)) : decode cX2_sideOf pc = .ok (ins, len) ∧ qok pc ins len = true := by
  refine qckD_of ?_ h
  by_cases h0 : pc < 21
  · have := List.all_eq_true.mp qd_X2_sideOf_0 (pc - 0) (List.mem_range.mpr (by omega))
    rwa [show 0 + (pc - 0) = pc by omega] at this
  exfalso; unfold qc_X2_sideOf at h; rw [qblt_f h0] at h; cases h
theorem qd_X2_shownBy_0 : (List.range 61).all (fun j => qckD (qc_X2_shownBy (0 + j)) cX2_shownBy (0 + j)) = true := by decide +kernel
theorem qd_X2_shownBy {pc : Nat} {ins : Instr} {len : Nat} (h : qc_X2_shownBy pc = some (ins, len)) : decode cX2_shownBy pc = .ok (ins, len) ∧ qok pc ins len = true := by
  refine qckD_of ?_ h
  by_cases h0 : pc < 61
  · have := List.all_eq_true.mp qd_X2_shownBy_0 (pc - 0) (List.mem_range.mpr (by omega))
    rwa [show 0 + (pc - 0) = pc by omega] at this
  exfalso; unfold qc_X2_shownBy at h; rw [qblt_f h0] at h; cases h
theorem qd_X2_nextTo_0 : (List.range 35).all (fun j => qckD (qc_X2_nextTo (0 + j)) cX2_nextTo (0 + j)) = true := by decide +kernel
theorem qd_X2_nextTo {pc : Nat} {ins : Instr} {len : Nat} (h : qc_X2_nextTo pc = some (ins, len)) : decode cX2_nextTo pc = .ok (ins, len) ∧ qok pc ins len = true := by
  refine qckD_of ?_ h
  by_cases h0 : pc < 35
  · have := List.all_eq_true.mp qd_X2_nextTo_0 (pc - 0) (List.mem_range.mpr (by omega))
    rwa [show 0 + (pc - 0) = pc by omega] at this
  exfalso; unfold qc_X2_nextTo at h; rw [qblt_f h0] at h; cases h
theorem qd_X2_hangsTogether_0 : (List.range 39).all (fun j => qckD (qc_X2_hangsTogether (0 + j)) cX2_hangsTogether (0 + j)) = true := by decide +kernel
theorem qd_X2_hangsTogether {pc : Nat} {ins : Instr} {len : Nat} (h : qc_X2_hangsTogether pc = some (ins, len)) : decode cX2_hangsTogether pc = .ok (ins, len) ∧ qok pc ins len = true := by
  refine qckD_of ?_ h
  by_cases h0 : pc < 39
  · have := List.all_eq_true.mp qd_X2_hangsTogether_0 (pc - 0) (List.mem_range.mpr (by omega))
    rwa [show 0 + (pc - 0) = pc by omega] at this
  exfalso; unfold qc_X2_hangsTogether at h; rw [qblt_f h0] at h; cases h
theorem qd_X2_airAtFirst_0 : (List.range 11).all (fun j => qckD (qc_X2_airAtFirst (0 + j)) cX2_airAtFirst (0 + j)) = true := by decide +kernel
theorem qd_X2_airAtFirst {pc : Nat} {ins : Instr} {len : Nat} (h : qc_X2_airAtFirst pc = some (ins, len)) : decode cX2_airAtFirst pc = .ok (ins, len) ∧ qok pc ins len = true := by
  refine qckD_of ?_ h
  by_cases h0 : pc < 11
  · have := List.all_eq_true.mp qd_X2_airAtFirst_0 (pc - 0) (List.mem_range.mpr (by omega))
    rwa [show 0 + (pc - 0) = pc by omega] at this
  exfalso; unfold qc_X2_airAtFirst at h; rw [qblt_f h0] at h; cases h
theorem qd_X2_airLasts_0 : (List.range 50).all (fun j => qckD (qc_X2_airLasts (0 + j)) cX2_airLasts (0 + j)) = true := by decide +kernel
theorem qd_X2_airLasts {pc : Nat} {ins : Instr} {len : Nat} (h : qc_X2_airLasts pc = some (ins, len)) : decode cX2_airLasts pc = .ok (ins, len) ∧ qok pc ins len = true := by
  refine qckD_of ?_ h
  by_cases h0 : pc < 50
  · have := List.all_eq_true.mp qd_X2_airLasts_0 (pc - 0) (List.mem_range.mpr (by omega))
    rwa [show 0 + (pc - 0) = pc by omega] at this
  exfalso; unfold qc_X2_airLasts at h; rw [qblt_f h0] at h; cases h
theorem qd_X2_airInAMinute_0 : (List.range 39).all (fun j => qckD (qc_X2_airInAMinute (0 + j)) cX2_airInAMinute (0 + j)) = true := by decide +kernel
theorem qd_X2_airInAMinute {pc : Nat} {ins : Instr} {len : Nat} (h : qc_X2_airInAMinute pc = some (ins, len)) : decode cX2_airInAMinute pc = .ok (ins, len) ∧ qok pc ins len = true := by
  refine qckD_of ?_ h
  by_cases h0 : pc < 39
  · have := List.all_eq_true.mp qd_X2_airInAMinute_0 (pc - 0) (List.mem_range.mpr (by omega))
    rwa [show 0 + (pc - 0) = pc by omega] at this
  exfalso; unfold qc_X2_airInAMinute at h; rw [qblt_f h0] at h; cases h
theorem qd_X3_init_0 : (List.range 117).all (fun j => qckD (qc_X3_init (0 + j)) cX3_init (0 + j)) = true := by decide +kernel
theorem qd_X3_init {pc : Nat} {ins : Instr} {len : Nat} (h : qc_X3_init pc = some (ins, len)) : decode cX3_init pc = .ok (ins, len) ∧ qok pc ins len = true := by
  refine qckD_of ?_ h
  by_cases h0 : pc < 117
  · have := List.all_eq_true.mp qd_X3_init_0 (pc - 0) (List.mem_range.mpr (by omega))
    rwa [show 0 + (pc - 0) = pc by omega] at this
  exfalso; unfold qc_X3_init at h; rw [qblt_f h0] at h; cases h
theorem qd_X3_poseCount_0 : (List.range 17).all (fun j => qckD (qc_X3_poseCount (0 + j)) cX3_poseCount (0 + j)) = true := by decide +kernel
theorem qd_X3_poseCount {pc : Nat} {ins : Instr} {len : Nat} (h : qc_X3_poseCount pc = some (ins, len)) : decode cX3_poseCount pc = .ok (ins, len) ∧ qok pc ins len = true := by
  refine qckD_of ?_ h
  by_cases h0 : pc < 17
  · have := List.all_eq_true.mp qd_X3_poseCount_0 (pc - 0) (List.mem_range.mpr (by omega))
    rwa [show 0 + (pc - 0) = pc by omega] at this
  exfalso; unfold qc_X3_poseCount at h; rw [qblt_f h0] at h; cases h
theorem qd_X3_follow_0 : (List.range 60).all (fun j => qckD (qc_X3_follow (0 + j)) cX3_follow (0 + j)) = true := by decide +kernel
theorem qd_X3_follow_1 : (List.range 60).all (fun j => qckD (qc_X3_follow (60 + j)) cX3_follow (60 + j)) = true := by decide +kernel
theorem qd_X3_follow_2 : (List.range 18).all (fun j => qckD (qc_X3_follow (120 + j)) cX3_follow (120 + j)) = true := by decide +kernel
theorem qd_X3_follow {pc : Nat} {ins : Instr} {len : Nat} (h : qc_X3_follow pc = some (ins, len)) : decode cX3_follow pc = .ok (ins, len) ∧ qok pc ins len = true := by
  refine qckD_of ?_ h
  by_cases h0 : pc < 60
  · have := List.all_eq_true.mp qd_X3_follow_0 (pc - 0) (List.mem_range.mpr (by omega))
    rwa [show 0 + (pc - 0) = pc by omega] at this
  by_cases h1 : pc < 120
  · have := List.all_eq_true.mp qd_X3_follow_1 (pc - 60) (List.mem_range.mpr (by omega))
    rwa [show 60 + (pc - 60) = pc by omega] at this
  by_cases h2 : pc < 138
  · have := List.all_eq_true.mp qd_X3_follow_2 (pc - 120) (List.mem_range.mpr (by omega))
    rwa [show 120 + (pc - 120) = pc by omega] at this
  exfalso; unfold qc_X3_follow at h; rw [qblt_f h2] at h; cases h
theorem qd_X3_stayUnseen_0 : (List.range 102).all (fun j => qckD (qc_X3_stayUnseen (0 + j)) cX3_stayUnseen (0 + j)) = true := by decide +kernel
theorem qd_X3_stayUnseen {pc : Nat} {ins : Instr} {len : Nat} (h : qc_X3_stayUnseen pc = some (ins, len)) : decode cX3_stayUnseen pc = .ok (ins, len) ∧ qok pc ins len = true := by
  refine qckD_of ?_ h
  by_cases h0 : pc < 102
  · have := List.all_eq_true.mp qd_X3_stayUnseen_0 (pc - 0) (List.mem_range.mpr (by omega))
    rwa [show 0 + (pc - 0) = pc by omega] at this
  exfalso; unfold qc_X3_stayUnseen at h; rw [qblt_f h0] at h; cases h
theorem qd_X3_outcome_0 : (List.range 53).all (fun j => qckD (qc_X3_outcome (0 + j)) cX3_outcome (0 + j)) = true := by decide +kernel
theorem qd_X3_outcome {pc : Nat} {ins : Instr} {len : Nat} (h : qc_X3_outcome pc = some (ins, len)) : decode cX3_outcome pc = .ok (ins, len) ∧ qok pc ins len = true := by
  refine qckD_of ?_ h
  by_cases h0 : pc < 53
  · have := List.all_eq_true.mp qd_X3_outcome_0 (pc - 0) (List.mem_range.mpr (by omega))
    rwa [show 0 + (pc - 0) = pc by omega] at this
  exfalso; unfold qc_X3_outcome at h; rw [qblt_f h0] at h; cases h
theorem qd_X3_wayPose_0 : (List.range 60).all (fun j => qckD (qc_X3_wayPose (0 + j)) cX3_wayPose (0 + j)) = true := by decide +kernel
theorem qd_X3_wayPose_1 : (List.range 60).all (fun j => qckD (qc_X3_wayPose (60 + j)) cX3_wayPose (60 + j)) = true := by decide +kernel
theorem qd_X3_wayPose_2 : (List.range 6).all (fun j => qckD (qc_X3_wayPose (120 + j)) cX3_wayPose (120 + j)) = true := by decide +kernel
theorem qd_X3_wayPose {pc : Nat} {ins : Instr} {len : Nat} (h : qc_X3_wayPose pc = some (ins, len)) : decode cX3_wayPose pc = .ok (ins, len) ∧ qok pc ins len = true := by
  refine qckD_of ?_ h
  by_cases h0 : pc < 60
  · have := List.all_eq_true.mp qd_X3_wayPose_0 (pc - 0) (List.mem_range.mpr (by omega))
    rwa [show 0 + (pc - 0) = pc by omega] at this
  by_cases h1 : pc < 120
  · have := List.all_eq_true.mp qd_X3_wayPose_1 (pc - 60) (List.mem_range.mpr (by omega))
    rwa [show 60 + (pc - 60) = pc by omega] at this
  by_cases h2 : pc < 126
  · have := List.all_eq_true.mp qd_X3_wayPose_2 (pc - 120) (List.mem_range.mpr (by omega))
    rwa [show 120 + (pc - 120) = pc by omega] at this
  exfalso; unfold qc_X3_wayPose at h; rw [qblt_f h2] at h; cases h
theorem qd_X3_findGood_0 : (List.range 111).all (fun j => qckD (qc_X3_findGood (0 + j)) cX3_findGood (0 + j)) = true := by decide +kernel
theorem qd_X3_findGood {pc : Nat} {ins : Instr} {len : Nat} (h : qc_X3_findGood pc = some (ins, len)) : decode cX3_findGood pc = .ok (ins, len) ∧ qok pc ins len = true := by
  refine qckD_of ?_ h
  by_cases h0 : pc < 111
  · have := List.all_eq_true.mp qd_X3_findGood_0 (pc - 0) (List.mem_range.mpr (by omega))
    rwa [show 0 + (pc - 0) = pc by omega] at this
  exfalso; unfold qc_X3_findGood at h; rw [qblt_f h0] at h; cases h
theorem qd_X3_writeGood_0 : (List.range 52).all (fun j => qckD (qc_X3_writeGood (0 + j)) cX3_writeGood (0 + j)) = true := by decide +kernel
theorem qd_X3_writeGood {pc : Nat} {ins : Instr} {len : Nat} (h : qc_X3_writeGood pc = some (ins, len)) : decode cX3_writeGood pc = .ok (ins, len) ∧ qok pc ins len = true := by
  refine qckD_of ?_ h
  by_cases h0 : pc < 52
  · have := List.all_eq_true.mp qd_X3_writeGood_0 (pc - 0) (List.mem_range.mpr (by omega))
    rwa [show 0 + (pc - 0) = pc by omega] at this
  exfalso; unfold qc_X3_writeGood at h; rw [qblt_f h0] at h; cases h
theorem qd_X3_readGood_0 : (List.range 56).all (fun j => qckD (qc_X3_readGood (0 + j)) cX3_readGood (0 + j)) = true := by decide +kernel
theorem qd_X3_readGood {pc : Nat} {ins : Instr} {len : Nat} (h : qc_X3_readGood pc = some (ins, len)) : decode cX3_readGood pc = .ok (ins, len) ∧ qok pc ins len = true := by
  refine qckD_of ?_ h
  by_cases h0 : pc < 56
  · have := List.all_eq_true.mp qd_X3_readGood_0 (pc - 0) (List.mem_range.mpr (by omega))
    rwa [show 0 + (pc - 0) = pc by omega] at this
  exfalso; unfold qc_X3_readGood at h; rw [qblt_f h0] at h; cases h
theorem qd_X3_findRow_0 : (List.range 107).all (fun j => qckD (qc_X3_findRow (0 + j)) cX3_findRow (0 + j)) = true := by decide +kernel
theorem qd_X3_findRow {pc : Nat} {ins : Instr} {len : Nat} (h : qc_X3_findRow pc = some (ins, len)) : decode cX3_findRow pc = .ok (ins, len) ∧ qok pc ins len = true := by
  refine qckD_of ?_ h
  by_cases h0 : pc < 107
  · have := List.all_eq_true.mp qd_X3_findRow_0 (pc - 0) (List.mem_range.mpr (by omega))
    rwa [show 0 + (pc - 0) = pc by omega] at this
  exfalso; unfold qc_X3_findRow at h; rw [qblt_f h0] at h; cases h
theorem qd_X3_rowFact_0 : (List.range 66).all (fun j => qckD (qc_X3_rowFact (0 + j)) cX3_rowFact (0 + j)) = true := by decide +kernel
theorem qd_X3_rowFact {pc : Nat} {ins : Instr} {len : Nat} (h : qc_X3_rowFact pc = some (ins, len)) : decode cX3_rowFact pc = .ok (ins, len) ∧ qok pc ins len = true := by
  refine qckD_of ?_ h
  by_cases h0 : pc < 66
  · have := List.all_eq_true.mp qd_X3_rowFact_0 (pc - 0) (List.mem_range.mpr (by omega))
    rwa [show 0 + (pc - 0) = pc by omega] at this
  exfalso; unfold qc_X3_rowFact at h; rw [qblt_f h0] at h; cases h
theorem qd_X3_tryRows_0 : (List.range 48).all (fun j => qckD (qc_X3_tryRows (0 + j)) cX3_tryRows (0 + j)) = true := by decide +kernel
theorem qd_X3_tryRows {pc : Nat} {ins : Instr} {len : Nat} (h : qc_X3_tryRows pc = some (ins, len)) : decode cX3_tryRows pc = .ok (ins, len) ∧ qok pc ins len = true := by
  refine qckD_of ?_ h
  by_cases h0 : pc < 48
  · have := List.all_eq_true.mp qd_X3_tryRows_0 (pc - 0) (List.mem_range.mpr (by omega))
    rwa [show 0 + (pc - 0) = pc by omega] at this
  exfalso; unfold qc_X3_tryRows at h; rw [qblt_f h0] at h; cases h
theorem qd_X3_tryDoor_0 : (List.range 76).all (fun j => qckD (qc_X3_tryDoor (0 + j)) cX3_tryDoor (0 + j)) = true := by decide +kernel
theorem qd_X3_tryDoor {pc : Nat} {ins : Instr} {len : Nat} (h : qc_X3_tryDoor pc = some (ins, len)) : decode cX3_tryDoor pc = .ok (ins, len) ∧ qok pc ins len = true := by
  refine qckD_of ?_ h
  by_cases h0 : pc < 76
  · have := List.all_eq_true.mp qd_X3_tryDoor_0 (pc - 0) (List.mem_range.mpr (by omega))
    rwa [show 0 + (pc - 0) = pc by omega] at this
  exfalso; unfold qc_X3_tryDoor at h; rw [qblt_f h0] at h; cases h
theorem qd_X3_keepIfBetter_0 : (List.range 62).all (fun j => qckD (qc_X3_keepIfBetter (0 + j)) cX3_keepIfBetter (0 + j)) = true := by decide +kernel
theorem qd_X3_keepIfBetter {pc : Nat} {ins : Instr} {len : Nat} (h : qc_X3_keepIfBetter pc = some (ins, len)) : decode cX3_keepIfBetter pc = .ok (ins, len) ∧ qok pc ins len = true := by
  refine qckD_of ?_ h
  by_cases h0 : pc < 62
  · have := List.all_eq_true.mp qd_X3_keepIfBetter_0 (pc - 0) (List.mem_range.mpr (by omega))
    rwa [show 0 + (pc - 0) = pc by omega] at this
  exfalso; unfold qc_X3_keepIfBetter at h; rw [qblt_f h0] at h; cases h
theorem qd_X3_passesDoor_0 : (List.range 59).all (fun j => qckD (qc_X3_passesDoor (0 + j)) cX3_passesDoor (0 + j)) = true := by decide +kernel
theorem qd_X3_passesDoor {pc : Nat} {ins : Instr} {len : Nat} (h : qc_X3_passesDoor pc = some (ins, len)) : decode cX3_passesDoor pc = .ok (ins, len) ∧ qok pc ins len = true := by
  refine qckD_of ?_ h
  by_cases h0 : pc < 59
  · have := List.all_eq_true.mp qd_X3_passesDoor_0 (pc - 0) (List.mem_range.mpr (by omega))
    rwa [show 0 + (pc - 0) = pc by omega] at this
  exfalso; unfold qc_X3_passesDoor at h; rw [qblt_f h0] at h; cases h
theorem qd_X3_findProof_0 : (List.range 60).all (fun j => qckD (qc_X3_findProof (0 + j)) cX3_findProof (0 + j)) = true := by decide +kernel
theorem qd_X3_findProof_1 : (List.range 60).all (fun j => qckD (qc_X3_findProof (60 + j)) cX3_findProof (60 + j)) = true := by decide +kernel
theorem qd_X3_findProof_2 : (List.range 5).all (fun j => qckD (qc_X3_findProof (120 + j)) cX3_findProof (120 + j)) = true := by decide +kernel
theorem qd_X3_findProof {pc : Nat} {ins : Instr} {len : Nat} (h : qc_X3_findProof pc = some (ins, len)) : decode cX3_findProof pc = .ok (ins, len) ∧ qok pc ins len = true := by
  refine qckD_of ?_ h
  by_cases h0 : pc < 60
  · have := List.all_eq_true.mp qd_X3_findProof_0 (pc - 0) (List.mem_range.mpr (by omega))
    rwa [show 0 + (pc - 0) = pc by omega] at this
  by_cases h1 : pc < 120
  · have := List.all_eq_true.mp qd_X3_findProof_1 (pc - 60) (List.mem_range.mpr (by omega))
    rwa [show 60 + (pc - 60) = pc by omega] at this
  by_cases h2 : pc < 125
  · have := List.all_eq_true.mp qd_X3_findProof_2 (pc - 120) (List.mem_range.mpr (by omega))
    rwa [show 120 + (pc - 120) = pc by omega] at this
  exfalso; unfold qc_X3_findProof at h; rw [qblt_f h2] at h; cases h
theorem qd_X3_keepCommon_0 : (List.range 46).all (fun j => qckD (qc_X3_keepCommon (0 + j)) cX3_keepCommon (0 + j)) = true := by decide +kernel
theorem qd_X3_keepCommon {pc : Nat} {ins : Instr} {len : Nat} (h : qc_X3_keepCommon pc = some (ins, len)) : decode cX3_keepCommon pc = .ok (ins, len) ∧ qok pc ins len = true := by
  refine qckD_of ?_ h
  by_cases h0 : pc < 46
  · have := List.all_eq_true.mp qd_X3_keepCommon_0 (pc - 0) (List.mem_range.mpr (by omega))
    rwa [show 0 + (pc - 0) = pc by omega] at this
  exfalso; unfold qc_X3_keepCommon at h; rw [qblt_f h0] at h; cases h
theorem qd_X3_isSame_0 : (List.range 34).all (fun j => qckD (qc_X3_isSame (0 + j)) cX3_isSame (0 + j)) = true := by decide +kernel
theorem qd_X3_isSame {pc : Nat} {ins : Instr} {len : Nat} (h : qc_X3_isSame pc = some (ins, len)) : decode cX3_isSame pc = .ok (ins, len) ∧ qok pc ins len = true := by
  refine qckD_of ?_ h
  by_cases h0 : pc < 34
  · have := List.all_eq_true.mp qd_X3_isSame_0 (pc - 0) (List.mem_range.mpr (by omega))
    rwa [show 0 + (pc - 0) = pc by omega] at this
  exfalso; unfold qc_X3_isSame at h; rw [qblt_f h0] at h; cases h
theorem qd_X3_isEmpty_0 : (List.range 13).all (fun j => qckD (qc_X3_isEmpty (0 + j)) cX3_isEmpty (0 + j)) = true := by decide +kernel
theorem qd_X3_isEmpty {pc : Nat} {ins : Instr} {len : Nat} (h : qc_X3_isEmpty pc = some (ins, len)) : decode cX3_isEmpty pc = .ok (ins, len) ∧ qok pc ins len = true := by
  refine qckD_of ?_ h
  by_cases h0 : pc < 13
  · have := List.all_eq_true.mp qd_X3_isEmpty_0 (pc - 0) (List.mem_range.mpr (by omega))
    rwa [show 0 + (pc - 0) = pc by omega] at this
  exfalso; unfold qc_X3_isEmpty at h; rw [qblt_f h0] at h; cases h
theorem qd_X3_howMany_0 : (List.range 38).all (fun j => qckD (qc_X3_howMany (0 + j)) cX3_howMany (0 + j)) = true := by decide +kernel
theorem qd_X3_howMany {pc : Nat} {ins : Instr} {len : Nat} (h : qc_X3_howMany pc = some (ins, len)) : decode cX3_howMany pc = .ok (ins, len) ∧ qok pc ins len = true := by
  refine qckD_of ?_ h
  by_cases h0 : pc < 38
  · have := List.all_eq_true.mp qd_X3_howMany_0 (pc - 0) (List.mem_range.mpr (by omega))
    rwa [show 0 + (pc - 0) = pc by omega] at this
  exfalso; unfold qc_X3_howMany at h; rw [qblt_f h0] at h; cases h
theorem qd_X3_least_0 : (List.range 36).all (fun j => qckD (qc_X3_least (0 + j)) cX3_least (0 + j)) = true := by decide +kernel
theorem qd_X3_least {pc : Nat} {ins : Instr} {len : Nat} (h : qc_X3_least pc = some (ins, len)) : decode cX3_least pc = .ok (ins, len) ∧ qok pc ins len = true := by
  refine qckD_of ?_ h
  by_cases h0 : pc < 36
  · have := List.all_eq_true.mp qd_X3_least_0 (pc - 0) (List.mem_range.mpr (by omega))
    rwa [show 0 + (pc - 0) = pc by omega] at this
  exfalso; unfold qc_X3_least at h; rw [qblt_f h0] at h; cases h
theorem qd_X4_init_0 : (List.range 60).all (fun j => qckD (qc_X4_init (0 + j)) cX4_init (0 + j)) = true := by decide +kernel
theorem qd_X4_init_1 : (List.range 60).all (fun j => qckD (qc_X4_init (60 + j)) cX4_init (60 + j)) = true := by decide +kernel
theorem qd_X4_init_2 : (List.range 13).all (fun j => qckD (qc_X4_init (120 + j)) cX4_init (120 + j)) = true := by decide +kernel
theorem qd_X4_init {pc : Nat} {ins : Instr} {len : Nat} (h : qc_X4_init pc = some (ins, len)) : decode cX4_init pc = .ok (ins, len) ∧ qok pc ins len = true := by
  refine qckD_of ?_ h
  by_cases h0 : pc < 60
  · have := List.all_eq_true.mp qd_X4_init_0 (pc - 0) (List.mem_range.mpr (by omega))
    rwa [show 0 + (pc - 0) = pc by omega] at this
  by_cases h1 : pc < 120
  · have := List.all_eq_true.mp qd_X4_init_1 (pc - 60) (List.mem_range.mpr (by omega))
    rwa [show 60 + (pc - 60) = pc by omega] at this
  by_cases h2 : pc < 133
  · have := List.all_eq_true.mp qd_X4_init_2 (pc - 120) (List.mem_range.mpr (by omega))
    rwa [show 120 + (pc - 120) = pc by omega] at this
  exfalso; unfold qc_X4_init at h; rw [qblt_f h2] at h; cases h
theorem qd_X4_isYear_0 : (List.range 16).all (fun j => qckD (qc_X4_isYear (0 + j)) cX4_isYear (0 + j)) = true := by decide +kernel
theorem qd_X4_isYear {pc : Nat} {ins : Instr} {len : Nat} (h : qc_X4_isYear pc = some (ins, len)) : decode cX4_isYear pc = .ok (ins, len) ∧ qok pc ins len = true := by
  refine qckD_of ?_ h
  by_cases h0 : pc < 16
  · have := List.all_eq_true.mp qd_X4_isYear_0 (pc - 0) (List.mem_range.mpr (by omega))
    rwa [show 0 + (pc - 0) = pc by omega] at this
  exfalso; unfold qc_X4_isYear at h; rw [qblt_f h0] at h; cases h
theorem qd_X4_isTown_0 : (List.range 16).all (fun j => qckD (qc_X4_isTown (0 + j)) cX4_isTown (0 + j)) = true := by decide +kernel
theorem qd_X4_isTown {pc : Nat} {ins : Instr} {len : Nat} (h : qc_X4_isTown pc = some (ins, len)) : decode cX4_isTown pc = .ok (ins, len) ∧ qok pc ins len = true := by
  refine qckD_of ?_ h
  by_cases h0 : pc < 16
  · have := List.all_eq_true.mp qd_X4_isTown_0 (pc - 0) (List.mem_range.mpr (by omega))
    rwa [show 0 + (pc - 0) = pc by omega] at this
  exfalso; unfold qc_X4_isTown at h; rw [qblt_f h0] at h; cases h
theorem qd_X4_isStrength_0 : (List.range 16).all (fun j => qckD (qc_X4_isStrength (0 + j)) cX4_isStrength (0 + j)) = true := by decide +kernel
theorem qd_X4_isStrength {pc : Nat} {ins : Instr} {len : Nat} (h : qc_X4_isStrength pc = some (ins, len)) : decode cX4_isStrength pc = .ok (ins, len) ∧ qok pc ins len = true := by
  refine qckD_of ?_ h
  by_cases h0 : pc < 16
  · have := List.all_eq_true.mp qd_X4_isStrength_0 (pc - 0) (List.mem_range.mpr (by omega))
    rwa [show 0 + (pc - 0) = pc by omega] at this
  exfalso; unfold qc_X4_isStrength at h; rw [qblt_f h0] at h; cases h
theorem qd_X4_isAnswer_0 : (List.range 15).all (fun j => qckD (qc_X4_isAnswer (0 + j)) cX4_isAnswer (0 + j)) = true := by decide +kernel
theorem qd_X4_isAnswer {pc : Nat} {ins : Instr} {len : Nat} (h : qc_X4_isAnswer pc = some (ins, len)) : decode cX4_isAnswer pc = .ok (ins, len) ∧ qok pc ins len = true := by
  refine qckD_of ?_ h
  by_cases h0 : pc < 15
  · have := List.all_eq_true.mp qd_X4_isAnswer_0 (pc - 0) (List.mem_range.mpr (by omega))
    rwa [show 0 + (pc - 0) = pc by omega] at this
  exfalso; unfold qc_X4_isAnswer at h; rw [qblt_f h0] at h; cases h
theorem qd_X4_isMaster_0 : (List.range 24).all (fun j => qckD (qc_X4_isMaster (0 + j)) cX4_isMaster (0 + j)) = true := by decide +kernel
theorem qd_X4_isMaster {pc : Nat} {ins : Instr} {len : Nat} (h : qc_X4_isMaster pc = some (ins, len)) : decode cX4_isMaster pc = .ok (ins, len) ∧ qok pc ins len = true := by
  refine qckD_of ?_ h
  by_cases h0 : pc < 24
  · have := List.all_eq_true.mp qd_X4_isMaster_0 (pc - 0) (List.mem_range.mpr (by omega))
    rwa [show 0 + (pc - 0) = pc by omega] at this
  exfalso; unfold qc_X4_isMaster at h; rw [qblt_f h0] at h; cases h
theorem qd_X4_isNight_0 : (List.range 24).all (fun j => qckD (qc_X4_isNight (0 + j)) cX4_isNight (0 + j)) = true := by decide +kernel
theorem qd_X4_isNight {pc : Nat} {ins : Instr} {len : Nat} (h : qc_X4_isNight pc = some (ins, len)) : decode cX4_isNight pc = .ok (ins, len) ∧ qok pc ins len = true := by
  refine qckD_of ?_ h
  by_cases h0 : pc < 24
  · have := List.all_eq_true.mp qd_X4_isNight_0 (pc - 0) (List.mem_range.mpr (by omega))
    rwa [show 0 + (pc - 0) = pc by omega] at this
  exfalso; unfold qc_X4_isNight at h; rw [qblt_f h0] at h; cases h
theorem qd_X4_addMaster_0 : (List.range 86).all (fun j => qckD (qc_X4_addMaster (0 + j)) cX4_addMaster (0 + j)) = true := by decide +kernel
theorem qd_X4_addMaster {pc : Nat} {ins : Instr} {len : Nat} (h : qc_X4_addMaster pc = some (ins, len)) : decode cX4_addMaster pc = .ok (ins, len) ∧ qok pc ins len = true := by
  refine qckD_of ?_ h
  by_cases h0 : pc < 86
  · have := List.all_eq_true.mp qd_X4_addMaster_0 (pc - 0) (List.mem_range.mpr (by omega))
    rwa [show 0 + (pc - 0) = pc by omega] at this
  exfalso; unfold qc_X4_addMaster at h; rw [qblt_f h0] at h; cases h
theorem qd_X4_tellStay_0 : (List.range 83).all (fun j => qckD (qc_X4_tellStay (0 + j)) cX4_tellStay (0 + j)) = true := by decide +kernel
theorem qd_X4_tellStay {pc : Nat} {ins : Instr} {len : Nat} (h : qc_X4_tellStay pc = some (ins, len)) : decode cX4_tellStay pc = .ok (ins, len) ∧ qok pc ins len = true := by
  refine qckD_of ?_ h
  by_cases h0 : pc < 83
  · have := List.all_eq_true.mp qd_X4_tellStay_0 (pc - 0) (List.mem_range.mpr (by omega))
    rwa [show 0 + (pc - 0) = pc by omega] at this
  exfalso; unfold qc_X4_tellStay at h; rw [qblt_f h0] at h; cases h
theorem qd_X4_putHabit_0 : (List.range 40).all (fun j => qckD (qc_X4_putHabit (0 + j)) cX4_putHabit (0 + j)) = true := by decide +kernel
theorem qd_X4_putHabit {pc : Nat} {ins : Instr} {len : Nat} (h : qc_X4_putHabit pc = some (ins, len)) : decode cX4_putHabit pc = .ok (ins, len) ∧ qok pc ins len = true := by
  refine qckD_of ?_ h
  by_cases h0 : pc < 40
  · have := List.all_eq_true.mp qd_X4_putHabit_0 (pc - 0) (List.mem_range.mpr (by omega))
    rwa [show 0 + (pc - 0) = pc by omega] at this
  exfalso; unfold qc_X4_putHabit at h; rw [qblt_f h0] at h; cases h
theorem qd_X4_addNight_0 : (List.range 60).all (fun j => qckD (qc_X4_addNight (0 + j)) cX4_addNight (0 + j)) = true := by decide +kernel
theorem qd_X4_addNight_1 : (List.range 60).all (fun j => qckD (qc_X4_addNight (60 + j)) cX4_addNight (60 + j)) = true := by decide +kernel
theorem qd_X4_addNight_2 : (List.range 8).all (fun j => qckD (qc_X4_addNight (120 + j)) cX4_addNight (120 + j)) = true := by decide +kernel
theorem qd_X4_addNight {pc : Nat} {ins : Instr} {len : Nat} (h : qc_X4_addNight pc = some (ins, len)) : decode cX4_addNight pc = .ok (ins, len) ∧ qok pc ins len = true := by
  refine qckD_of ?_ h
  by_cases h0 : pc < 60
  · have := List.all_eq_true.mp qd_X4_addNight_0 (pc - 0) (List.mem_range.mpr (by omega))
    rwa [show 0 + (pc - 0) = pc by omega] at this
  by_cases h1 : pc < 120
  · have := List.all_eq_true.mp qd_X4_addNight_1 (pc - 60) (List.mem_range.mpr (by omega))
    rwa [show 60 + (pc - 60) = pc by omega] at this
  by_cases h2 : pc < 128
  · have := List.all_eq_true.mp qd_X4_addNight_2 (pc - 120) (List.mem_range.mpr (by omega))
    rwa [show 120 + (pc - 120) = pc by omega] at this
  exfalso; unfold qc_X4_addNight at h; rw [qblt_f h2] at h; cases h
theorem qd_X4_guessOne_0 : (List.range 54).all (fun j => qckD (qc_X4_guessOne (0 + j)) cX4_guessOne (0 + j)) = true := by decide +kernel
theorem qd_X4_guessOne {pc : Nat} {ins : Instr} {len : Nat} (h : qc_X4_guessOne pc = some (ins, len)) : decode cX4_guessOne pc = .ok (ins, len) ∧ qok pc ins len = true := by
  refine qckD_of ?_ h
  by_cases h0 : pc < 54
  · have := List.all_eq_true.mp qd_X4_guessOne_0 (pc - 0) (List.mem_range.mpr (by omega))
    rwa [show 0 + (pc - 0) = pc by omega] at this
  exfalso; unfold qc_X4_guessOne at h; rw [qblt_f h0] at h; cases h
theorem qd_X4_guessRun_0 : (List.range 66).all (fun j => qckD (qc_X4_guessRun (0 + j)) cX4_guessRun (0 + j)) = true := by decide +kernel
theorem qd_X4_guessRun {pc : Nat} {ins : Instr} {len : Nat} (h : qc_X4_guessRun pc = some (ins, len)) : decode cX4_guessRun pc = .ok (ins, len) ∧ qok pc ins len = true := by
  refine qckD_of ?_ h
  by_cases h0 : pc < 66
  · have := List.all_eq_true.mp qd_X4_guessRun_0 (pc - 0) (List.mem_range.mpr (by omega))
    rwa [show 0 + (pc - 0) = pc by omega] at this
  exfalso; unfold qc_X4_guessRun at h; rw [qblt_f h0] at h; cases h
theorem qd_X4_startWeights_0 : (List.range 22).all (fun j => qckD (qc_X4_startWeights (0 + j)) cX4_startWeights (0 + j)) = true := by decide +kernel
theorem qd_X4_startWeights {pc : Nat} {ins : Instr} {len : Nat} (h : qc_X4_startWeights pc = some (ins, len)) : decode cX4_startWeights pc = .ok (ins, len) ∧ qok pc ins len = true := by
  refine qckD_of ?_ h
  by_cases h0 : pc < 22
  · have := List.all_eq_true.mp qd_X4_startWeights_0 (pc - 0) (List.mem_range.mpr (by omega))
    rwa [show 0 + (pc - 0) = pc by omega] at this
  exfalso; unfold qc_X4_startWeights at h; rw [qblt_f h0] at h; cases h
theorem qd_X4_multiplyWeights_0 : (List.range 39).all (fun j => qckD (qc_X4_multiplyWeights (0 + j)) cX4_multiplyWeights (0 + j)) = true := by decide +kernel
theorem qd_X4_multiplyWeights {pc : Nat} {ins : Instr} {len : Nat} (h : qc_X4_multiplyWeights pc = some (ins, len)) : decode cX4_multiplyWeights pc = .ok (ins, len) ∧ qok pc ins len = true := by
  refine qckD_of ?_ h
  by_cases h0 : pc < 39
  · have := List.all_eq_true.mp qd_X4_multiplyWeights_0 (pc - 0) (List.mem_range.mpr (by omega))
    rwa [show 0 + (pc - 0) = pc by omega] at this
  exfalso; unfold qc_X4_multiplyWeights at h; rw [qblt_f h0] at h; cases h
theorem qd_X4_shrinkWeights_0 : (List.range 78).all (fun j => qckD (qc_X4_shrinkWeights (0 + j)) cX4_shrinkWeights (0 + j)) = true := by decide +kernel
theorem qd_X4_shrinkWeights {pc : Nat} {ins : Instr} {len : Nat} (h : qc_X4_shrinkWeights pc = some (ins, len)) : decode cX4_shrinkWeights pc = .ok (ins, len) ∧ qok pc ins len = true := by
  refine qckD_of ?_ h
  by_cases h0 : pc < 78
  · have := List.all_eq_true.mp qd_X4_shrinkWeights_0 (pc - 0) (List.mem_range.mpr (by omega))
    rwa [show 0 + (pc - 0) = pc by omega] at this
  exfalso; unfold qc_X4_shrinkWeights at h; rw [qblt_f h0] at h; cases h
theorem qd_X4_oddsOf_0 : (List.range 67).all (fun j => qckD (qc_X4_oddsOf (0 + j)) cX4_oddsOf (0 + j)) = true := by decide +kernel
theorem qd_X4_oddsOf {pc : Nat} {ins : Instr} {len : Nat} (h : qc_X4_oddsOf pc = some (ins, len)) : decode cX4_oddsOf pc = .ok (ins, len) ∧ qok pc ins len = true := by
  refine qckD_of ?_ h
  by_cases h0 : pc < 67
  · have := List.all_eq_true.mp qd_X4_oddsOf_0 (pc - 0) (List.mem_range.mpr (by omega))
    rwa [show 0 + (pc - 0) = pc by omega] at this
  exfalso; unfold qc_X4_oddsOf at h; rw [qblt_f h0] at h; cases h
theorem qd_X4_weightOf_0 : (List.range 84).all (fun j => qckD (qc_X4_weightOf (0 + j)) cX4_weightOf (0 + j)) = true := by decide +kernel
theorem qd_X4_weightOf {pc : Nat} {ins : Instr} {len : Nat} (h : qc_X4_weightOf pc = some (ins, len)) : decode cX4_weightOf pc = .ok (ins, len) ∧ qok pc ins len = true := by
  refine qckD_of ?_ h
  by_cases h0 : pc < 84
  · have := List.all_eq_true.mp qd_X4_weightOf_0 (pc - 0) (List.mem_range.mpr (by omega))
    rwa [show 0 + (pc - 0) = pc by omega] at this
  exfalso; unfold qc_X4_weightOf at h; rw [qblt_f h0] at h; cases h
theorem qd_X4_canHaveBeenThere_0 : (List.range 74).all (fun j => qckD (qc_X4_canHaveBeenThere (0 + j)) cX4_canHaveBeenThere (0 + j)) = true := by decide +kernel
theorem qd_X4_canHaveBeenThere {pc : Nat} {ins : Instr} {len : Nat} (h : qc_X4_canHaveBeenThere pc = some (ins, len)) : decode cX4_canHaveBeenThere pc = .ok (ins, len) ∧ qok pc ins len = true := by
  refine qckD_of ?_ h
  by_cases h0 : pc < 74
  · have := List.all_eq_true.mp qd_X4_canHaveBeenThere_0 (pc - 0) (List.mem_range.mpr (by omega))
    rwa [show 0 + (pc - 0) = pc by omega] at this
  exfalso; unfold qc_X4_canHaveBeenThere at h; rw [qblt_f h0] at h; cases h
theorem qd_X4_gameWeight_0 : (List.range 47).all (fun j => qckD (qc_X4_gameWeight (0 + j)) cX4_gameWeight (0 + j)) = true := by decide +kernel
theorem qd_X4_gameWeight {pc : Nat} {ins : Instr} {len : Nat} (h : qc_X4_gameWeight pc = some (ins, len)) : decode cX4_gameWeight pc = .ok (ins, len) ∧ qok pc ins len = true := by
  refine qckD_of ?_ h
  by_cases h0 : pc < 47
  · have := List.all_eq_true.mp qd_X4_gameWeight_0 (pc - 0) (List.mem_range.mpr (by omega))
    rwa [show 0 + (pc - 0) = pc by omega] at this
  exfalso; unfold qc_X4_gameWeight at h; rw [qblt_f h0] at h; cases h
theorem qd_X5_init_0 : (List.range 91).all (fun j => qckD (qc_X5_init (0 + j)) cX5_init (0 + j)) = true := by decide +kernel
theorem qd_X5_init {pc : Nat} {ins : Instr} {len : Nat} (h : qc_X5_init pc = some (ins, len)) : decode cX5_init pc = .ok (ins, len) ∧ qok pc ins len = true := by
  refine qckD_of ?_ h
  by_cases h0 : pc < 91
  · have := List.all_eq_true.mp qd_X5_init_0 (pc - 0) (List.mem_range.mpr (by omega))
    rwa [show 0 + (pc - 0) = pc by omega] at this
  exfalso; unfold qc_X5_init at h; rw [qblt_f h0] at h; cases h
theorem qd_X5_learn_0 : (List.range 52).all (fun j => qckD (qc_X5_learn (0 + j)) cX5_learn (0 + j)) = true := by decide +kernel
theorem qd_X5_learn {pc : Nat} {ins : Instr} {len : Nat} (h : qc_X5_learn pc = some (ins, len)) : decode cX5_learn pc = .ok (ins, len) ∧ qok pc ins len = true := by
  refine qckD_of ?_ h
  by_cases h0 : pc < 52
  · have := List.all_eq_true.mp qd_X5_learn_0 (pc - 0) (List.mem_range.mpr (by omega))
    rwa [show 0 + (pc - 0) = pc by omega] at this
  exfalso; unfold qc_X5_learn at h; rw [qblt_f h0] at h; cases h
theorem qd_X5_keep_0 : (List.range 29).all (fun j => qckD (qc_X5_keep (0 + j)) cX5_keep (0 + j)) = true := by decide +kernel
theorem qd_X5_keep {pc : Nat} {ins : Instr} {len : Nat} (h : qc_X5_keep pc = some (ins, len)) : decode cX5_keep pc = .ok (ins, len) ∧ qok pc ins len = true := by
  refine qckD_of ?_ h
  by_cases h0 : pc < 29
  · have := List.all_eq_true.mp qd_X5_keep_0 (pc - 0) (List.mem_range.mpr (by omega))
    rwa [show 0 + (pc - 0) = pc by omega] at this
  exfalso; unfold qc_X5_keep at h; rw [qblt_f h0] at h; cases h
theorem qd_X5_checkReason_0 : (List.range 89).all (fun j => qckD (qc_X5_checkReason (0 + j)) cX5_checkReason (0 + j)) = true := by decide +kernel
theorem qd_X5_checkReason {pc : Nat} {ins : Instr} {len : Nat} (h : qc_X5_checkReason pc = some (ins, len)) : decode cX5_checkReason pc = .ok (ins, len) ∧ qok pc ins len = true := by
  refine qckD_of ?_ h
  by_cases h0 : pc < 89
  · have := List.all_eq_true.mp qd_X5_checkReason_0 (pc - 0) (List.mem_range.mpr (by omega))
    rwa [show 0 + (pc - 0) = pc by omega] at this
  exfalso; unfold qc_X5_checkReason at h; rw [qblt_f h0] at h; cases h
theorem qd_X5_checkChoice_0 : (List.range 53).all (fun j => qckD (qc_X5_checkChoice (0 + j)) cX5_checkChoice (0 + j)) = true := by decide +kernel
theorem qd_X5_checkChoice {pc : Nat} {ins : Instr} {len : Nat} (h : qc_X5_checkChoice pc = some (ins, len)) : decode cX5_checkChoice pc = .ok (ins, len) ∧ qok pc ins len = true := by
  refine qckD_of ?_ h
  by_cases h0 : pc < 53
  · have := List.all_eq_true.mp qd_X5_checkChoice_0 (pc - 0) (List.mem_range.mpr (by omega))
    rwa [show 0 + (pc - 0) = pc by omega] at this
  exfalso; unfold qc_X5_checkChoice at h; rw [qblt_f h0] at h; cases h
theorem qd_X5_checkCondition_0 : (List.range 103).all (fun j => qckD (qc_X5_checkCondition (0 + j)) cX5_checkCondition (0 + j)) = true := by decide +kernel
theorem qd_X5_checkCondition {pc : Nat} {ins : Instr} {len : Nat} (h : qc_X5_checkCondition pc = some (ins, len)) : decode cX5_checkCondition pc = .ok (ins, len) ∧ qok pc ins len = true := by
  refine qckD_of ?_ h
  by_cases h0 : pc < 103
  · have := List.all_eq_true.mp qd_X5_checkCondition_0 (pc - 0) (List.mem_range.mpr (by omega))
    rwa [show 0 + (pc - 0) = pc by omega] at this
  exfalso; unfold qc_X5_checkCondition at h; rw [qblt_f h0] at h; cases h
theorem qd_X5_checkComparison_0 : (List.range 36).all (fun j => qckD (qc_X5_checkComparison (0 + j)) cX5_checkComparison (0 + j)) = true := by decide +kernel
theorem qd_X5_checkComparison {pc : Nat} {ins : Instr} {len : Nat} (h : qc_X5_checkComparison pc = some (ins, len)) : decode cX5_checkComparison pc = .ok (ins, len) ∧ qok pc ins len = true := by
  refine qckD_of ?_ h
  by_cases h0 : pc < 36
  · have := List.all_eq_true.mp qd_X5_checkComparison_0 (pc - 0) (List.mem_range.mpr (by omega))
    rwa [show 0 + (pc - 0) = pc by omega] at this
  exfalso; unfold qc_X5_checkComparison at h; rw [qblt_f h0] at h; cases h
theorem qd_X5_checkSum_0 : (List.range 94).all (fun j => qckD (qc_X5_checkSum (0 + j)) cX5_checkSum (0 + j)) = true := by decide +kernel
theorem qd_X5_checkSum {pc : Nat} {ins : Instr} {len : Nat} (h : qc_X5_checkSum pc = some (ins, len)) : decode cX5_checkSum pc = .ok (ins, len) ∧ qok pc ins len = true := by
  refine qckD_of ?_ h
  by_cases h0 : pc < 94
  · have := List.all_eq_true.mp qd_X5_checkSum_0 (pc - 0) (List.mem_range.mpr (by omega))
    rwa [show 0 + (pc - 0) = pc by omega] at this
  exfalso; unfold qc_X5_checkSum at h; rw [qblt_f h0] at h; cases h
theorem qd_X5_checkUnit_0 : (List.range 52).all (fun j => qckD (qc_X5_checkUnit (0 + j)) cX5_checkUnit (0 + j)) = true := by decide +kernel
theorem qd_X5_checkUnit {pc : Nat} {ins : Instr} {len : Nat} (h : qc_X5_checkUnit pc = some (ins, len)) : decode cX5_checkUnit pc = .ok (ins, len) ∧ qok pc ins len = true := by
  refine qckD_of ?_ h
  by_cases h0 : pc < 52
  · have := List.all_eq_true.mp qd_X5_checkUnit_0 (pc - 0) (List.mem_range.mpr (by omega))
    rwa [show 0 + (pc - 0) = pc by omega] at this
  exfalso; unfold qc_X5_checkUnit at h; rw [qblt_f h0] at h; cases h
theorem qd_X5_putFacts_0 : (List.range 86).all (fun j => qckD (qc_X5_putFacts (0 + j)) cX5_putFacts (0 + j)) = true := by decide +kernel
theorem qd_X5_putFacts {pc : Nat} {ins : Instr} {len : Nat} (h : qc_X5_putFacts pc = some (ins, len)) : decode cX5_putFacts pc = .ok (ins, len) ∧ qok pc ins len = true := by
  refine qckD_of ?_ h
  by_cases h0 : pc < 86
  · have := List.all_eq_true.mp qd_X5_putFacts_0 (pc - 0) (List.mem_range.mpr (by omega))
    rwa [show 0 + (pc - 0) = pc by omega] at this
  exfalso; unfold qc_X5_putFacts at h; rw [qblt_f h0] at h; cases h
theorem qd_X5_reasonCount_0 : (List.range 5).all (fun j => qckD (qc_X5_reasonCount (0 + j)) cX5_reasonCount (0 + j)) = true := by decide +kernel
theorem qd_X5_reasonCount {pc : Nat} {ins : Instr} {len : Nat} (h : qc_X5_reasonCount pc = some (ins, len)) : decode cX5_reasonCount pc = .ok (ins, len) ∧ qok pc ins len = true := by
  refine qckD_of ?_ h
  by_cases h0 : pc < 5
  · have := List.all_eq_true.mp qd_X5_reasonCount_0 (pc - 0) (List.mem_range.mpr (by omega))
    rwa [show 0 + (pc - 0) = pc by omega] at this
  exfalso; unfold qc_X5_reasonCount at h; rw [qblt_f h0] at h; cases h
theorem qd_X5_weigh_0 : (List.range 77).all (fun j => qckD (qc_X5_weigh (0 + j)) cX5_weigh (0 + j)) = true := by decide +kernel
theorem qd_X5_weigh {pc : Nat} {ins : Instr} {len : Nat} (h : qc_X5_weigh pc = some (ins, len)) : decode cX5_weigh pc = .ok (ins, len) ∧ qok pc ins len = true := by
  refine qckD_of ?_ h
  by_cases h0 : pc < 77
  · have := List.all_eq_true.mp qd_X5_weigh_0 (pc - 0) (List.mem_range.mpr (by omega))
    rwa [show 0 + (pc - 0) = pc by omega] at this
  exfalso; unfold qc_X5_weigh at h; rw [qblt_f h0] at h; cases h
theorem qd_X5_code_0 : (List.range 34).all (fun j => qckD (qc_X5_code (0 + j)) cX5_code (0 + j)) = true := by decide +kernel
theorem qd_X5_code {pc : Nat} {ins : Instr} {len : Nat} (h : qc_X5_code pc = some (ins, len)) : decode cX5_code pc = .ok (ins, len) ∧ qok pc ins len = true := by
  refine qckD_of ?_ h
  by_cases h0 : pc < 34
  · have := List.all_eq_true.mp qd_X5_code_0 (pc - 0) (List.mem_range.mpr (by omega))
    rwa [show 0 + (pc - 0) = pc by omega] at this
  exfalso; unfold qc_X5_code at h; rw [qblt_f h0] at h; cases h
theorem qd_X5_takes_0 : (List.range 22).all (fun j => qckD (qc_X5_takes (0 + j)) cX5_takes (0 + j)) = true := by decide +kernel
theorem qd_X5_takes {pc : Nat} {ins : Instr} {len : Nat} (h : qc_X5_takes pc = some (ins, len)) : decode cX5_takes pc = .ok (ins, len) ∧ qok pc ins len = true := by
  refine qckD_of ?_ h
  by_cases h0 : pc < 22
  · have := List.all_eq_true.mp qd_X5_takes_0 (pc - 0) (List.mem_range.mpr (by omega))
    rwa [show 0 + (pc - 0) = pc by omega] at this
  exfalso; unfold qc_X5_takes at h; rw [qblt_f h0] at h; cases h
theorem qd_X5_choiceHolds_0 : (List.range 80).all (fun j => qckD (qc_X5_choiceHolds (0 + j)) cX5_choiceHolds (0 + j)) = true := by decide +kernel
theorem qd_X5_choiceHolds {pc : Nat} {ins : Instr} {len : Nat} (h : qc_X5_choiceHolds pc = some (ins, len)) : decode cX5_choiceHolds pc = .ok (ins, len) ∧ qok pc ins len = true := by
  refine qckD_of ?_ h
  by_cases h0 : pc < 80
  · have := List.all_eq_true.mp qd_X5_choiceHolds_0 (pc - 0) (List.mem_range.mpr (by omega))
    rwa [show 0 + (pc - 0) = pc by omega] at this
  exfalso; unfold qc_X5_choiceHolds at h; rw [qblt_f h0] at h; cases h
theorem qd_X5_conditionHolds_0 : (List.range 67).all (fun j => qckD (qc_X5_conditionHolds (0 + j)) cX5_conditionHolds (0 + j)) = true := by decide +kernel
theorem qd_X5_conditionHolds {pc : Nat} {ins : Instr} {len : Nat} (h : qc_X5_conditionHolds pc = some (ins, len)) : decode cX5_conditionHolds pc = .ok (ins, len) ∧ qok pc ins len = true := by
  refine qckD_of ?_ h
  by_cases h0 : pc < 67
  · have := List.all_eq_true.mp qd_X5_conditionHolds_0 (pc - 0) (List.mem_range.mpr (by omega))
    rwa [show 0 + (pc - 0) = pc by omega] at this
  exfalso; unfold qc_X5_conditionHolds at h; rw [qblt_f h0] at h; cases h
theorem qd_X5_comparisonHolds_0 : (List.range 117).all (fun j => qckD (qc_X5_comparisonHolds (0 + j)) cX5_comparisonHolds (0 + j)) = true := by decide +kernel
theorem qd_X5_comparisonHolds {pc : Nat} {ins : Instr} {len : Nat} (h : qc_X5_comparisonHolds pc = some (ins, len)) : decode cX5_comparisonHolds pc = .ok (ins, len) ∧ qok pc ins len = true := by
  refine qckD_of ?_ h
  by_cases h0 : pc < 117
  · have := List.all_eq_true.mp qd_X5_comparisonHolds_0 (pc - 0) (List.mem_range.mpr (by omega))
    rwa [show 0 + (pc - 0) = pc by omega] at this
  exfalso; unfold qc_X5_comparisonHolds at h; rw [qblt_f h0] at h; cases h
theorem qd_X5_addUp_0 : (List.range 60).all (fun j => qckD (qc_X5_addUp (0 + j)) cX5_addUp (0 + j)) = true := by decide +kernel
theorem qd_X5_addUp_1 : (List.range 60).all (fun j => qckD (qc_X5_addUp (60 + j)) cX5_addUp (60 + j)) = true := by decide +kernel
theorem qd_X5_addUp_2 : (List.range 15).all (fun j => qckD (qc_X5_addUp (120 + j)) cX5_addUp (120 + j)) = true := by decide +kernel
theorem qd_X5_addUp {pc : Nat} {ins : Instr} {len : Nat} (h : qc_X5_addUp pc = some (ins, len)) : decode cX5_addUp pc = .ok (ins, len) ∧ qok pc ins len = true := by
  refine qckD_of ?_ h
  by_cases h0 : pc < 60
  · have := List.all_eq_true.mp qd_X5_addUp_0 (pc - 0) (List.mem_range.mpr (by omega))
    rwa [show 0 + (pc - 0) = pc by omega] at this
  by_cases h1 : pc < 120
  · have := List.all_eq_true.mp qd_X5_addUp_1 (pc - 60) (List.mem_range.mpr (by omega))
    rwa [show 60 + (pc - 60) = pc by omega] at this
  by_cases h2 : pc < 135
  · have := List.all_eq_true.mp qd_X5_addUp_2 (pc - 120) (List.mem_range.mpr (by omega))
    rwa [show 120 + (pc - 120) = pc by omega] at this
  exfalso; unfold qc_X5_addUp at h; rw [qblt_f h2] at h; cases h
theorem qd_X5_takeUnit_0 : (List.range 60).all (fun j => qckD (qc_X5_takeUnit (0 + j)) cX5_takeUnit (0 + j)) = true := by decide +kernel
theorem qd_X5_takeUnit_1 : (List.range 60).all (fun j => qckD (qc_X5_takeUnit (60 + j)) cX5_takeUnit (60 + j)) = true := by decide +kernel
theorem qd_X5_takeUnit_2 : (List.range 3).all (fun j => qckD (qc_X5_takeUnit (120 + j)) cX5_takeUnit (120 + j)) = true := by decide +kernel
theorem qd_X5_takeUnit {pc : Nat} {ins : Instr} {len : Nat} (h : qc_X5_takeUnit pc = some (ins, len)) : decode cX5_takeUnit pc = .ok (ins, len) ∧ qok pc ins len = true := by
  refine qckD_of ?_ h
  by_cases h0 : pc < 60
  · have := List.all_eq_true.mp qd_X5_takeUnit_0 (pc - 0) (List.mem_range.mpr (by omega))
    rwa [show 0 + (pc - 0) = pc by omega] at this
  by_cases h1 : pc < 120
  · have := List.all_eq_true.mp qd_X5_takeUnit_1 (pc - 60) (List.mem_range.mpr (by omega))
    rwa [show 60 + (pc - 60) = pc by omega] at this
  by_cases h2 : pc < 123
  · have := List.all_eq_true.mp qd_X5_takeUnit_2 (pc - 120) (List.mem_range.mpr (by omega))
    rwa [show 120 + (pc - 120) = pc by omega] at this
  exfalso; unfold qc_X5_takeUnit at h; rw [qblt_f h2] at h; cases h
theorem qd_X6_init_0 : (List.range 43).all (fun j => qckD (qc_X6_init (0 + j)) cX6_init (0 + j)) = true := by decide +kernel
theorem qd_X6_init {pc : Nat} {ins : Instr} {len : Nat} (h : qc_X6_init pc = some (ins, len)) : decode cX6_init pc = .ok (ins, len) ∧ qok pc ins len = true := by
  refine qckD_of ?_ h
  by_cases h0 : pc < 43
  · have := List.all_eq_true.mp qd_X6_init_0 (pc - 0) (List.mem_range.mpr (by omega))
    rwa [show 0 + (pc - 0) = pc by omega] at this
  exfalso; unfold qc_X6_init at h; rw [qblt_f h0] at h; cases h
theorem qd_X6_findFor_0 : (List.range 57).all (fun j => qckD (qc_X6_findFor (0 + j)) cX6_findFor (0 + j)) = true := by decide +kernel
theorem qd_X6_findFor {pc : Nat} {ins : Instr} {len : Nat} (h : qc_X6_findFor pc = some (ins, len)) : decode cX6_findFor pc = .ok (ins, len) ∧ qok pc ins len = true := by
  refine qckD_of ?_ h
  by_cases h0 : pc < 57
  · have := List.all_eq_true.mp qd_X6_findFor_0 (pc - 0) (List.mem_range.mpr (by omega))
    rwa [show 0 + (pc - 0) = pc by omega] at this
  exfalso; unfold qc_X6_findFor at h; rw [qblt_f h0] at h; cases h
theorem qd_X6_findSets_0 : (List.range 94).all (fun j => qckD (qc_X6_findSets (0 + j)) cX6_findSets (0 + j)) = true := by decide +kernel
theorem qd_X6_findSets {pc : Nat} {ins : Instr} {len : Nat} (h : qc_X6_findSets pc = some (ins, len)) : decode cX6_findSets pc = .ok (ins, len) ∧ qok pc ins len = true := by
  refine qckD_of ?_ h
  by_cases h0 : pc < 94
  · have := List.all_eq_true.mp qd_X6_findSets_0 (pc - 0) (List.mem_range.mpr (by omega))
    rwa [show 0 + (pc - 0) = pc by omega] at this
  exfalso; unfold qc_X6_findSets at h; rw [qblt_f h0] at h; cases h
theorem qd_X6_nextOfAsMany_0 : (List.range 22).all (fun j => qckD (qc_X6_nextOfAsMany (0 + j)) cX6_nextOfAsMany (0 + j)) = true := by decide +kernel
theorem qd_X6_nextOfAsMany {pc : Nat} {ins : Instr} {len : Nat} (h : qc_X6_nextOfAsMany pc = some (ins, len)) : decode cX6_nextOfAsMany pc = .ok (ins, len) ∧ qok pc ins len = true := by
  refine qckD_of ?_ h
  by_cases h0 : pc < 22
  · have := List.all_eq_true.mp qd_X6_nextOfAsMany_0 (pc - 0) (List.mem_range.mpr (by omega))
    rwa [show 0 + (pc - 0) = pc by omega] at this
  exfalso; unfold qc_X6_nextOfAsMany at h; rw [qblt_f h0] at h; cases h
theorem qd_X6_findMoves_0 : (List.range 60).all (fun j => qckD (qc_X6_findMoves (0 + j)) cX6_findMoves (0 + j)) = true := by decide +kernel
theorem qd_X6_findMoves_1 : (List.range 60).all (fun j => qckD (qc_X6_findMoves (60 + j)) cX6_findMoves (60 + j)) = true := by decide +kernel
theorem qd_X6_findMoves_2 : (List.range 15).all (fun j => qckD (qc_X6_findMoves (120 + j)) cX6_findMoves (120 + j)) = true := by decide +kernel
theorem qd_X6_findMoves {pc : Nat} {ins : Instr} {len : Nat} (h : qc_X6_findMoves pc = some (ins, len)) : decode cX6_findMoves pc = .ok (ins, len) ∧ qok pc ins len = true := by
  refine qckD_of ?_ h
  by_cases h0 : pc < 60
  · have := List.all_eq_true.mp qd_X6_findMoves_0 (pc - 0) (List.mem_range.mpr (by omega))
    rwa [show 0 + (pc - 0) = pc by omega] at this
  by_cases h1 : pc < 120
  · have := List.all_eq_true.mp qd_X6_findMoves_1 (pc - 60) (List.mem_range.mpr (by omega))
    rwa [show 60 + (pc - 60) = pc by omega] at this
  by_cases h2 : pc < 135
  · have := List.all_eq_true.mp qd_X6_findMoves_2 (pc - 120) (List.mem_range.mpr (by omega))
    rwa [show 120 + (pc - 120) = pc by omega] at this
  exfalso; unfold qc_X6_findMoves at h; rw [qblt_f h2] at h; cases h
theorem qd_X6_isMove_0 : (List.range 26).all (fun j => qckD (qc_X6_isMove (0 + j)) cX6_isMove (0 + j)) = true := by decide +kernel
theorem qd_X6_isMove {pc : Nat} {ins : Instr} {len : Nat} (h : qc_X6_isMove pc = some (ins, len)) : decode cX6_isMove pc = .ok (ins, len) ∧ qok pc ins len = true := by
  refine qckD_of ?_ h
  by_cases h0 : pc < 26
  · have := List.all_eq_true.mp qd_X6_isMove_0 (pc - 0) (List.mem_range.mpr (by omega))
    rwa [show 0 + (pc - 0) = pc by omega] at this
  exfalso; unfold qc_X6_isMove at h; rw [qblt_f h0] at h; cases h
theorem qd_X6_howMany_0 : (List.range 5).all (fun j => qckD (qc_X6_howMany (0 + j)) cX6_howMany (0 + j)) = true := by decide +kernel
theorem qd_X6_howMany {pc : Nat} {ins : Instr} {len : Nat} (h : qc_X6_howMany pc = some (ins, len)) : decode cX6_howMany pc = .ok (ins, len) ∧ qok pc ins len = true := by
  refine qckD_of ?_ h
  by_cases h0 : pc < 5
  · have := List.all_eq_true.mp qd_X6_howMany_0 (pc - 0) (List.mem_range.mpr (by omega))
    rwa [show 0 + (pc - 0) = pc by omega] at this
  exfalso; unfold qc_X6_howMany at h; rw [qblt_f h0] at h; cases h
theorem qd_X6_setOf_0 : (List.range 30).all (fun j => qckD (qc_X6_setOf (0 + j)) cX6_setOf (0 + j)) = true := by decide +kernel
theorem qd_X6_setOf {pc : Nat} {ins : Instr} {len : Nat} (h : qc_X6_setOf pc = some (ins, len)) : decode cX6_setOf pc = .ok (ins, len) ∧ qok pc ins len = true := by
  refine qckD_of ?_ h
  by_cases h0 : pc < 30
  · have := List.all_eq_true.mp qd_X6_setOf_0 (pc - 0) (List.mem_range.mpr (by omega))
    rwa [show 0 + (pc - 0) = pc by omega] at this
  exfalso; unfold qc_X6_setOf at h; rw [qblt_f h0] at h; cases h
theorem qd_X6_spread_0 : (List.range 60).all (fun j => qckD (qc_X6_spread (0 + j)) cX6_spread (0 + j)) = true := by decide +kernel
theorem qd_X6_spread_1 : (List.range 60).all (fun j => qckD (qc_X6_spread (60 + j)) cX6_spread (60 + j)) = true := by decide +kernel
theorem qd_X6_spread_2 : (List.range 28).all (fun j => qckD (qc_X6_spread (120 + j)) cX6_spread (120 + j)) = true := by decide +kernel
theorem qd_X6_spread {pc : Nat} {ins : Instr} {len : Nat} (h : qc_X6_spread pc = some (ins, len)) : decode cX6_spread pc = .ok (ins, len) ∧ qok pc ins len = true := by
  refine qckD_of ?_ h
  by_cases h0 : pc < 60
  · have := List.all_eq_true.mp qd_X6_spread_0 (pc - 0) (List.mem_range.mpr (by omega))
    rwa [show 0 + (pc - 0) = pc by omega] at this
  by_cases h1 : pc < 120
  · have := List.all_eq_true.mp qd_X6_spread_1 (pc - 60) (List.mem_range.mpr (by omega))
    rwa [show 60 + (pc - 60) = pc by omega] at this
  by_cases h2 : pc < 148
  · have := List.all_eq_true.mp qd_X6_spread_2 (pc - 120) (List.mem_range.mpr (by omega))
    rwa [show 120 + (pc - 120) = pc by omega] at this
  exfalso; unfold qc_X6_spread at h; rw [qblt_f h2] at h; cases h
theorem qd_X6_spreadOne_0 : (List.range 54).all (fun j => qckD (qc_X6_spreadOne (0 + j)) cX6_spreadOne (0 + j)) = true := by decide +kernel
theorem qd_X6_spreadOne {pc : Nat} {ins : Instr} {len : Nat} (h : qc_X6_spreadOne pc = some (ins, len)) : decode cX6_spreadOne pc = .ok (ins, len) ∧ qok pc ins len = true := by
  refine qckD_of ?_ h
  by_cases h0 : pc < 54
  · have := List.all_eq_true.mp qd_X6_spreadOne_0 (pc - 0) (List.mem_range.mpr (by omega))
    rwa [show 0 + (pc - 0) = pc by omega] at this
  exfalso; unfold qc_X6_spreadOne at h; rw [qblt_f h0] at h; cases h
theorem qd_X6_findUnseen_0 : (List.range 68).all (fun j => qckD (qc_X6_findUnseen (0 + j)) cX6_findUnseen (0 + j)) = true := by decide +kernel
theorem qd_X6_findUnseen {pc : Nat} {ins : Instr} {len : Nat} (h : qc_X6_findUnseen pc = some (ins, len)) : decode cX6_findUnseen pc = .ok (ins, len) ∧ qok pc ins len = true := by
  refine qckD_of ?_ h
  by_cases h0 : pc < 68
  · have := List.all_eq_true.mp qd_X6_findUnseen_0 (pc - 0) (List.mem_range.mpr (by omega))
    rwa [show 0 + (pc - 0) = pc by omega] at this
  exfalso; unfold qc_X6_findUnseen at h; rw [qblt_f h0] at h; cases h
theorem qd_X6_areAllSeen_0 : (List.range 38).all (fun j => qckD (qc_X6_areAllSeen (0 + j)) cX6_areAllSeen (0 + j)) = true := by decide +kernel
theorem qd_X6_areAllSeen {pc : Nat} {ins : Instr} {len : Nat} (h : qc_X6_areAllSeen pc = some (ins, len)) : decode cX6_areAllSeen pc = .ok (ins, len) ∧ qok pc ins len = true := by
  refine qckD_of ?_ h
  by_cases h0 : pc < 38
  · have := List.all_eq_true.mp qd_X6_areAllSeen_0 (pc - 0) (List.mem_range.mpr (by omega))
    rwa [show 0 + (pc - 0) = pc by omega] at this
  exfalso; unfold qc_X6_areAllSeen at h; rw [qblt_f h0] at h; cases h
theorem qd_X6_putRow_0 : (List.range 20).all (fun j => qckD (qc_X6_putRow (0 + j)) cX6_putRow (0 + j)) = true := by decide +kernel
theorem qd_X6_putRow {pc : Nat} {ins : Instr} {len : Nat} (h : qc_X6_putRow pc = some (ins, len)) : decode cX6_putRow pc = .ok (ins, len) ∧ qok pc ins len = true := by
  refine qckD_of ?_ h
  by_cases h0 : pc < 20
  · have := List.all_eq_true.mp qd_X6_putRow_0 (pc - 0) (List.mem_range.mpr (by omega))
    rwa [show 0 + (pc - 0) = pc by omega] at this
  exfalso; unfold qc_X6_putRow at h; rw [qblt_f h0] at h; cases h
theorem qd_X7_init_0 : (List.range 64).all (fun j => qckD (qc_X7_init (0 + j)) cX7_init (0 + j)) = true := by decide +kernel
theorem qd_X7_init {pc : Nat} {ins : Instr} {len : Nat} (h : qc_X7_init pc = some (ins, len)) : decode cX7_init pc = .ok (ins, len) ∧ qok pc ins len = true := by
  refine qckD_of ?_ h
  by_cases h0 : pc < 64
  · have := List.all_eq_true.mp qd_X7_init_0 (pc - 0) (List.mem_range.mpr (by omega))
    rwa [show 0 + (pc - 0) = pc by omega] at this
  exfalso; unfold qc_X7_init at h; rw [qblt_f h0] at h; cases h
theorem qd_X7_learn_0 : (List.range 50).all (fun j => qckD (qc_X7_learn (0 + j)) cX7_learn (0 + j)) = true := by decide +kernel
theorem qd_X7_learn {pc : Nat} {ins : Instr} {len : Nat} (h : qc_X7_learn pc = some (ins, len)) : decode cX7_learn pc = .ok (ins, len) ∧ qok pc ins len = true := by
  refine qckD_of ?_ h
  by_cases h0 : pc < 50
  · have := List.all_eq_true.mp qd_X7_learn_0 (pc - 0) (List.mem_range.mpr (by omega))
    rwa [show 0 + (pc - 0) = pc by omega] at this
  exfalso; unfold qc_X7_learn at h; rw [qblt_f h0] at h; cases h
theorem qd_X7_learnStep_0 : (List.range 114).all (fun j => qckD (qc_X7_learnStep (0 + j)) cX7_learnStep (0 + j)) = true := by decide +kernel
theorem qd_X7_learnStep {pc : Nat} {ins : Instr} {len : Nat} (h : qc_X7_learnStep pc = some (ins, len)) : decode cX7_learnStep pc = .ok (ins, len) ∧ qok pc ins len = true := by
  refine qckD_of ?_ h
  by_cases h0 : pc < 114
  · have := List.all_eq_true.mp qd_X7_learnStep_0 (pc - 0) (List.mem_range.mpr (by omega))
    rwa [show 0 + (pc - 0) = pc by omega] at this
  exfalso; unfold qc_X7_learnStep at h; rw [qblt_f h0] at h; cases h
theorem qd_X7_isOfADoor_0 : (List.range 20).all (fun j => qckD (qc_X7_isOfADoor (0 + j)) cX7_isOfADoor (0 + j)) = true := by decide +kernel
theorem qd_X7_isOfADoor {pc : Nat} {ins : Instr} {len : Nat} (h : qc_X7_isOfADoor pc = some (ins, len)) : decode cX7_isOfADoor pc = .ok (ins, len) ∧ qok pc ins len = true := by
  refine qckD_of ?_ h
  by_cases h0 : pc < 20
  · have := List.all_eq_true.mp qd_X7_isOfADoor_0 (pc - 0) (List.mem_range.mpr (by omega))
    rwa [show 0 + (pc - 0) = pc by omega] at this
  exfalso; unfold qc_X7_isOfADoor at h; rw [qblt_f h0] at h; cases h
theorem qd_X7_stepCount_0 : (List.range 5).all (fun j => qckD (qc_X7_stepCount (0 + j)) cX7_stepCount (0 + j)) = true := by decide +kernel
theorem qd_X7_stepCount {pc : Nat} {ins : Instr} {len : Nat} (h : qc_X7_stepCount pc = some (ins, len)) : decode cX7_stepCount pc = .ok (ins, len) ∧ qok pc ins len = true := by
  refine qckD_of ?_ h
  by_cases h0 : pc < 5
  · have := List.all_eq_true.mp qd_X7_stepCount_0 (pc - 0) (List.mem_range.mpr (by omega))
    rwa [show 0 + (pc - 0) = pc by omega] at this
  exfalso; unfold qc_X7_stepCount at h; rw [qblt_f h0] at h; cases h
theorem qd_X7_perform_0 : (List.range 113).all (fun j => qckD (qc_X7_perform (0 + j)) cX7_perform (0 + j)) = true := by decide +kernel
theorem qd_X7_perform {pc : Nat} {ins : Instr} {len : Nat} (h : qc_X7_perform pc = some (ins, len)) : decode cX7_perform pc = .ok (ins, len) ∧ qok pc ins len = true := by
  refine qckD_of ?_ h
  by_cases h0 : pc < 113
  · have := List.all_eq_true.mp qd_X7_perform_0 (pc - 0) (List.mem_range.mpr (by omega))
    rwa [show 0 + (pc - 0) = pc by omega] at this
  exfalso; unfold qc_X7_perform at h; rw [qblt_f h0] at h; cases h
theorem qd_X7_takeStep_0 : (List.range 112).all (fun j => qckD (qc_X7_takeStep (0 + j)) cX7_takeStep (0 + j)) = true := by decide +kernel
theorem qd_X7_takeStep {pc : Nat} {ins : Instr} {len : Nat} (h : qc_X7_takeStep pc = some (ins, len)) : decode cX7_takeStep pc = .ok (ins, len) ∧ qok pc ins len = true := by
  refine qckD_of ?_ h
  by_cases h0 : pc < 112
  · have := List.all_eq_true.mp qd_X7_takeStep_0 (pc - 0) (List.mem_range.mpr (by omega))
    rwa [show 0 + (pc - 0) = pc by omega] at this
  exfalso; unfold qc_X7_takeStep at h; rw [qblt_f h0] at h; cases h
theorem qd_X7_viewNow_0 : (List.range 62).all (fun j => qckD (qc_X7_viewNow (0 + j)) cX7_viewNow (0 + j)) = true := by decide +kernel
theorem qd_X7_viewNow {pc : Nat} {ins : Instr} {len : Nat} (h : qc_X7_viewNow pc = some (ins, len)) : decode cX7_viewNow pc = .ok (ins, len) ∧ qok pc ins len = true := by
  refine qckD_of ?_ h
  by_cases h0 : pc < 62
  · have := List.all_eq_true.mp qd_X7_viewNow_0 (pc - 0) (List.mem_range.mpr (by omega))
    rwa [show 0 + (pc - 0) = pc by omega] at this
  exfalso; unfold qc_X7_viewNow at h; rw [qblt_f h0] at h; cases h
theorem qd_X7_secondsOf_0 : (List.range 41).all (fun j => qckD (qc_X7_secondsOf (0 + j)) cX7_secondsOf (0 + j)) = true := by decide +kernel
theorem qd_X7_secondsOf {pc : Nat} {ins : Instr} {len : Nat} (h : qc_X7_secondsOf pc = some (ins, len)) : decode cX7_secondsOf pc = .ok (ins, len) ∧ qok pc ins len = true := by
  refine qckD_of ?_ h
  by_cases h0 : pc < 41
  · have := List.all_eq_true.mp qd_X7_secondsOf_0 (pc - 0) (List.mem_range.mpr (by omega))
    rwa [show 0 + (pc - 0) = pc by omega] at this
  exfalso; unfold qc_X7_secondsOf at h; rw [qblt_f h0] at h; cases h
theorem qd_X7_viewOf_0 : (List.range 29).all (fun j => qckD (qc_X7_viewOf (0 + j)) cX7_viewOf (0 + j)) = true := by decide +kernel
theorem qd_X7_viewOf {pc : Nat} {ins : Instr} {len : Nat} (h : qc_X7_viewOf pc = some (ins, len)) : decode cX7_viewOf pc = .ok (ins, len) ∧ qok pc ins len = true := by
  refine qckD_of ?_ h
  by_cases h0 : pc < 29
  · have := List.all_eq_true.mp qd_X7_viewOf_0 (pc - 0) (List.mem_range.mpr (by omega))
    rwa [show 0 + (pc - 0) = pc by omega] at this
  exfalso; unfold qc_X7_viewOf at h; rw [qblt_f h0] at h; cases h
theorem qd_X7_allSeconds_0 : (List.range 28).all (fun j => qckD (qc_X7_allSeconds (0 + j)) cX7_allSeconds (0 + j)) = true := by decide +kernel
theorem qd_X7_allSeconds {pc : Nat} {ins : Instr} {len : Nat} (h : qc_X7_allSeconds pc = some (ins, len)) : decode cX7_allSeconds pc = .ok (ins, len) ∧ qok pc ins len = true := by
  refine qckD_of ?_ h
  by_cases h0 : pc < 28
  · have := List.all_eq_true.mp qd_X7_allSeconds_0 (pc - 0) (List.mem_range.mpr (by omega))
    rwa [show 0 + (pc - 0) = pc by omega] at this
  exfalso; unfold qc_X7_allSeconds at h; rw [qblt_f h0] at h; cases h
theorem qd_X7_viewIn_0 : (List.range 45).all (fun j => qckD (qc_X7_viewIn (0 + j)) cX7_viewIn (0 + j)) = true := by decide +kernel
theorem qd_X7_viewIn {pc : Nat} {ins : Instr} {len : Nat} (h : qc_X7_viewIn pc = some (ins, len)) : decode cX7_viewIn pc = .ok (ins, len) ∧ qok pc ins len = true := by
  refine qckD_of ?_ h
  by_cases h0 : pc < 45
  · have := List.all_eq_true.mp qd_X7_viewIn_0 (pc - 0) (List.mem_range.mpr (by omega))
    rwa [show 0 + (pc - 0) = pc by omega] at this
  exfalso; unfold qc_X7_viewIn at h; rw [qblt_f h0] at h; cases h
theorem qd_X7_factOf_0 : (List.range 54).all (fun j => qckD (qc_X7_factOf (0 + j)) cX7_factOf (0 + j)) = true := by decide +kernel
theorem qd_X7_factOf {pc : Nat} {ins : Instr} {len : Nat} (h : qc_X7_factOf pc = some (ins, len)) : decode cX7_factOf pc = .ok (ins, len) ∧ qok pc ins len = true := by
  refine qckD_of ?_ h
  by_cases h0 : pc < 54
  · have := List.all_eq_true.mp qd_X7_factOf_0 (pc - 0) (List.mem_range.mpr (by omega))
    rwa [show 0 + (pc - 0) = pc by omega] at this
  exfalso; unfold qc_X7_factOf at h; rw [qblt_f h0] at h; cases h
theorem qd_X8_init_0 : (List.range 19).all (fun j => qckD (qc_X8_init (0 + j)) cX8_init (0 + j)) = true := by decide +kernel
theorem qd_X8_init {pc : Nat} {ins : Instr} {len : Nat} (h : qc_X8_init pc = some (ins, len)) : decode cX8_init pc = .ok (ins, len) ∧ qok pc ins len = true := by
  refine qckD_of ?_ h
  by_cases h0 : pc < 19
  · have := List.all_eq_true.mp qd_X8_init_0 (pc - 0) (List.mem_range.mpr (by omega))
    rwa [show 0 + (pc - 0) = pc by omega] at this
  exfalso; unfold qc_X8_init at h; rw [qblt_f h0] at h; cases h
theorem qd_X8_put_0 : (List.range 11).all (fun j => qckD (qc_X8_put (0 + j)) cX8_put (0 + j)) = true := by decide +kernel
theorem qd_X8_put {pc : Nat} {ins : Instr} {len : Nat} (h : qc_X8_put pc = some (ins, len)) : decode cX8_put pc = .ok (ins, len) ∧ qok pc ins len = true := by
  refine qckD_of ?_ h
  by_cases h0 : pc < 11
  · have := List.all_eq_true.mp qd_X8_put_0 (pc - 0) (List.mem_range.mpr (by omega))
    rwa [show 0 + (pc - 0) = pc by omega] at this
  exfalso; unfold qc_X8_put at h; rw [qblt_f h0] at h; cases h
theorem qd_X8_append_0 : (List.range 35).all (fun j => qckD (qc_X8_append (0 + j)) cX8_append (0 + j)) = true := by decide +kernel
theorem qd_X8_append {pc : Nat} {ins : Instr} {len : Nat} (h : qc_X8_append pc = some (ins, len)) : decode cX8_append pc = .ok (ins, len) ∧ qok pc ins len = true := by
  refine qckD_of ?_ h
  by_cases h0 : pc < 35
  · have := List.all_eq_true.mp qd_X8_append_0 (pc - 0) (List.mem_range.mpr (by omega))
    rwa [show 0 + (pc - 0) = pc by omega] at this
  exfalso; unfold qc_X8_append at h; rw [qblt_f h0] at h; cases h
theorem qd_X8_multiplyBy_0 : (List.range 66).all (fun j => qckD (qc_X8_multiplyBy (0 + j)) cX8_multiplyBy (0 + j)) = true := by decide +kernel
theorem qd_X8_multiplyBy {pc : Nat} {ins : Instr} {len : Nat} (h : qc_X8_multiplyBy pc = some (ins, len)) : decode cX8_multiplyBy pc = .ok (ins, len) ∧ qok pc ins len = true := by
  refine qckD_of ?_ h
  by_cases h0 : pc < 66
  · have := List.all_eq_true.mp qd_X8_multiplyBy_0 (pc - 0) (List.mem_range.mpr (by omega))
    rwa [show 0 + (pc - 0) = pc by omega] at this
  exfalso; unfold qc_X8_multiplyBy at h; rw [qblt_f h0] at h; cases h
theorem qd_X8_divideBy_0 : (List.range 64).all (fun j => qckD (qc_X8_divideBy (0 + j)) cX8_divideBy (0 + j)) = true := by decide +kernel
theorem qd_X8_divideBy {pc : Nat} {ins : Instr} {len : Nat} (h : qc_X8_divideBy pc = some (ins, len)) : decode cX8_divideBy pc = .ok (ins, len) ∧ qok pc ins len = true := by
  refine qckD_of ?_ h
  by_cases h0 : pc < 64
  · have := List.all_eq_true.mp qd_X8_divideBy_0 (pc - 0) (List.mem_range.mpr (by omega))
    rwa [show 0 + (pc - 0) = pc by omega] at this
  exfalso; unfold qc_X8_divideBy at h; rw [qblt_f h0] at h; cases h
theorem qd_X8_dropEmptyParts_0 : (List.range 38).all (fun j => qckD (qc_X8_dropEmptyParts (0 + j)) cX8_dropEmptyParts (0 + j)) = true := by decide +kernel
theorem qd_X8_dropEmptyParts {pc : Nat} {ins : Instr} {len : Nat} (h : qc_X8_dropEmptyParts pc = some (ins, len)) : decode cX8_dropEmptyParts pc = .ok (ins, len) ∧ qok pc ins len = true := by
  refine qckD_of ?_ h
  by_cases h0 : pc < 38
  · have := List.all_eq_true.mp qd_X8_dropEmptyParts_0 (pc - 0) (List.mem_range.mpr (by omega))
    rwa [show 0 + (pc - 0) = pc by omega] at this
  exfalso; unfold qc_X8_dropEmptyParts at h; rw [qblt_f h0] at h; cases h
theorem qd_X8_add_0 : (List.range 91).all (fun j => qckD (qc_X8_add (0 + j)) cX8_add (0 + j)) = true := by decide +kernel
theorem qd_X8_add {pc : Nat} {ins : Instr} {len : Nat} (h : qc_X8_add pc = some (ins, len)) : decode cX8_add pc = .ok (ins, len) ∧ qok pc ins len = true := by
  refine qckD_of ?_ h
  by_cases h0 : pc < 91
  · have := List.all_eq_true.mp qd_X8_add_0 (pc - 0) (List.mem_range.mpr (by omega))
    rwa [show 0 + (pc - 0) = pc by omega] at this
  exfalso; unfold qc_X8_add at h; rw [qblt_f h0] at h; cases h
theorem qd_X8_partAt_0 : (List.range 30).all (fun j => qckD (qc_X8_partAt (0 + j)) cX8_partAt (0 + j)) = true := by decide +kernel
theorem qd_X8_partAt {pc : Nat} {ins : Instr} {len : Nat} (h : qc_X8_partAt pc = some (ins, len)) : decode cX8_partAt pc = .ok (ins, len) ∧ qok pc ins len = true := by
  refine qckD_of ?_ h
  by_cases h0 : pc < 30
  · have := List.all_eq_true.mp qd_X8_partAt_0 (pc - 0) (List.mem_range.mpr (by omega))
    rwa [show 0 + (pc - 0) = pc by omega] at this
  exfalso; unfold qc_X8_partAt at h; rw [qblt_f h0] at h; cases h
theorem qd_X8_against_0 : (List.range 41).all (fun j => qckD (qc_X8_against (0 + j)) cX8_against (0 + j)) = true := by decide +kernel
theorem qd_X8_against {pc : Nat} {ins : Instr} {len : Nat} (h : qc_X8_against pc = some (ins, len)) : decode cX8_against pc = .ok (ins, len) ∧ qok pc ins len = true := by
  refine qckD_of ?_ h
  by_cases h0 : pc < 41
  · have := List.all_eq_true.mp qd_X8_against_0 (pc - 0) (List.mem_range.mpr (by omega))
    rwa [show 0 + (pc - 0) = pc by omega] at this
  exfalso; unfold qc_X8_against at h; rw [qblt_f h0] at h; cases h
theorem qd_X9_init_0 : (List.range 57).all (fun j => qckD (qc_X9_init (0 + j)) cX9_init (0 + j)) = true := by decide +kernel
theorem qd_X9_init {pc : Nat} {ins : Instr} {len : Nat} (h : qc_X9_init pc = some (ins, len)) : decode cX9_init pc = .ok (ins, len) ∧ qok pc ins len = true := by
  refine qckD_of ?_ h
  by_cases h0 : pc < 57
  · have := List.all_eq_true.mp qd_X9_init_0 (pc - 0) (List.mem_range.mpr (by omega))
    rwa [show 0 + (pc - 0) = pc by omega] at this
  exfalso; unfold qc_X9_init at h; rw [qblt_f h0] at h; cases h
theorem qd_X9_hasRoomFor_0 : (List.range 18).all (fun j => qckD (qc_X9_hasRoomFor (0 + j)) cX9_hasRoomFor (0 + j)) = true := by decide +kernel
theorem qd_X9_hasRoomFor {pc : Nat} {ins : Instr} {len : Nat} (h : qc_X9_hasRoomFor pc = some (ins, len)) : decode cX9_hasRoomFor pc = .ok (ins, len) ∧ qok pc ins len = true := by
  refine qckD_of ?_ h
  by_cases h0 : pc < 18
  · have := List.all_eq_true.mp qd_X9_hasRoomFor_0 (pc - 0) (List.mem_range.mpr (by omega))
    rwa [show 0 + (pc - 0) = pc by omega] at this
  exfalso; unfold qc_X9_hasRoomFor at h; rw [qblt_f h0] at h; cases h
theorem qd_X9_append_0 : (List.range 51).all (fun j => qckD (qc_X9_append (0 + j)) cX9_append (0 + j)) = true := by decide +kernel
theorem qd_X9_append {pc : Nat} {ins : Instr} {len : Nat} (h : qc_X9_append pc = some (ins, len)) : decode cX9_append pc = .ok (ins, len) ∧ qok pc ins len = true := by
  refine qckD_of ?_ h
  by_cases h0 : pc < 51
  · have := List.all_eq_true.mp qd_X9_append_0 (pc - 0) (List.mem_range.mpr (by omega))
    rwa [show 0 + (pc - 0) = pc by omega] at this
  exfalso; unfold qc_X9_append at h; rw [qblt_f h0] at h; cases h
theorem qd_X9_cutTo_0 : (List.range 21).all (fun j => qckD (qc_X9_cutTo (0 + j)) cX9_cutTo (0 + j)) = true := by decide +kernel
theorem qd_X9_cutTo {pc : Nat} {ins : Instr} {len : Nat} (h : qc_X9_cutTo pc = some (ins, len)) : decode cX9_cutTo pc = .ok (ins, len) ∧ qok pc ins len = true := by
  refine qckD_of ?_ h
  by_cases h0 : pc < 21
  · have := List.all_eq_true.mp qd_X9_cutTo_0 (pc - 0) (List.mem_range.mpr (by omega))
    rwa [show 0 + (pc - 0) = pc by omega] at this
  exfalso; unfold qc_X9_cutTo at h; rw [qblt_f h0] at h; cases h
theorem qd_X9_forgetFault_0 : (List.range 11).all (fun j => qckD (qc_X9_forgetFault (0 + j)) cX9_forgetFault (0 + j)) = true := by decide +kernel
theorem qd_X9_forgetFault {pc : Nat} {ins : Instr} {len : Nat} (h : qc_X9_forgetFault pc = some (ins, len)) : decode cX9_forgetFault pc = .ok (ins, len) ∧ qok pc ins len = true := by
  refine qckD_of ?_ h
  by_cases h0 : pc < 11
  · have := List.all_eq_true.mp qd_X9_forgetFault_0 (pc - 0) (List.mem_range.mpr (by omega))
    rwa [show 0 + (pc - 0) = pc by omega] at this
  exfalso; unfold qc_X9_forgetFault at h; rw [qblt_f h0] at h; cases h
theorem qd_X9_faultOf_0 : (List.range 25).all (fun j => qckD (qc_X9_faultOf (0 + j)) cX9_faultOf (0 + j)) = true := by decide +kernel
theorem qd_X9_faultOf {pc : Nat} {ins : Instr} {len : Nat} (h : qc_X9_faultOf pc = some (ins, len)) : decode cX9_faultOf pc = .ok (ins, len) ∧ qok pc ins len = true := by
  refine qckD_of ?_ h
  by_cases h0 : pc < 25
  · have := List.all_eq_true.mp qd_X9_faultOf_0 (pc - 0) (List.mem_range.mpr (by omega))
    rwa [show 0 + (pc - 0) = pc by omega] at this
  exfalso; unfold qc_X9_faultOf at h; rw [qblt_f h0] at h; cases h
theorem qd_X9_readTokens_0 : (List.range 56).all (fun j => qckD (qc_X9_readTokens (0 + j)) cX9_readTokens (0 + j)) = true := by decide +kernel
theorem qd_X9_readTokens {pc : Nat} {ins : Instr} {len : Nat} (h : qc_X9_readTokens pc = some (ins, len)) : decode cX9_readTokens pc = .ok (ins, len) ∧ qok pc ins len = true := by
  refine qckD_of ?_ h
  by_cases h0 : pc < 56
  · have := List.all_eq_true.mp qd_X9_readTokens_0 (pc - 0) (List.mem_range.mpr (by omega))
    rwa [show 0 + (pc - 0) = pc by omega] at this
  exfalso; unfold qc_X9_readTokens at h; rw [qblt_f h0] at h; cases h
theorem qd_X9_readToken_0 : (List.range 119).all (fun j => qckD (qc_X9_readToken (0 + j)) cX9_readToken (0 + j)) = true := by decide +kernel
theorem qd_X9_readToken {pc : Nat} {ins : Instr} {len : Nat} (h : qc_X9_readToken pc = some (ins, len)) : decode cX9_readToken pc = .ok (ins, len) ∧ qok pc ins len = true := by
  refine qckD_of ?_ h
  by_cases h0 : pc < 119
  · have := List.all_eq_true.mp qd_X9_readToken_0 (pc - 0) (List.mem_range.mpr (by omega))
    rwa [show 0 + (pc - 0) = pc by omega] at this
  exfalso; unfold qc_X9_readToken at h; rw [qblt_f h0] at h; cases h
theorem qd_X9_signAt_0 : (List.range 27).all (fun j => qckD (qc_X9_signAt (0 + j)) cX9_signAt (0 + j)) = true := by decide +kernel
theorem qd_X9_signAt {pc : Nat} {ins : Instr} {len : Nat} (h : qc_X9_signAt pc = some (ins, len)) : decode cX9_signAt pc = .ok (ins, len) ∧ qok pc ins len = true := by
  refine qckD_of ?_ h
  by_cases h0 : pc < 27
  · have := List.all_eq_true.mp qd_X9_signAt_0 (pc - 0) (List.mem_range.mpr (by omega))
    rwa [show 0 + (pc - 0) = pc by omega] at this
  exfalso; unfold qc_X9_signAt at h; rw [qblt_f h0] at h; cases h
theorem qd_X9_isLetter_0 : (List.range 30).all (fun j => qckD (qc_X9_isLetter (0 + j)) cX9_isLetter (0 + j)) = true := by decide +kernel
theorem qd_X9_isLetter {pc : Nat} {ins : Instr} {len : Nat} (h : qc_X9_isLetter pc = some (ins, len)) : decode cX9_isLetter pc = .ok (ins, len) ∧ qok pc ins len = true := by
  refine qckD_of ?_ h
  by_cases h0 : pc < 30
  · have := List.all_eq_true.mp qd_X9_isLetter_0 (pc - 0) (List.mem_range.mpr (by omega))
    rwa [show 0 + (pc - 0) = pc by omega] at this
  exfalso; unfold qc_X9_isLetter at h; rw [qblt_f h0] at h; cases h
theorem qd_X9_isDigit_0 : (List.range 18).all (fun j => qckD (qc_X9_isDigit (0 + j)) cX9_isDigit (0 + j)) = true := by decide +kernel
theorem qd_X9_isDigit {pc : Nat} {ins : Instr} {len : Nat} (h : qc_X9_isDigit pc = some (ins, len)) : decode cX9_isDigit pc = .ok (ins, len) ∧ qok pc ins len = true := by
  refine qckD_of ?_ h
  by_cases h0 : pc < 18
  · have := List.all_eq_true.mp qd_X9_isDigit_0 (pc - 0) (List.mem_range.mpr (by omega))
    rwa [show 0 + (pc - 0) = pc by omega] at this
  exfalso; unfold qc_X9_isDigit at h; rw [qblt_f h0] at h; cases h
theorem qd_X9_letterEnd_0 : (List.range 34).all (fun j => qckD (qc_X9_letterEnd (0 + j)) cX9_letterEnd (0 + j)) = true := by decide +kernel
theorem qd_X9_letterEnd {pc : Nat} {ins : Instr} {len : Nat} (h : qc_X9_letterEnd pc = some (ins, len)) : decode cX9_letterEnd pc = .ok (ins, len) ∧ qok pc ins len = true := by
  refine qckD_of ?_ h
  by_cases h0 : pc < 34
  · have := List.all_eq_true.mp qd_X9_letterEnd_0 (pc - 0) (List.mem_range.mpr (by omega))
    rwa [show 0 + (pc - 0) = pc by omega] at this
  exfalso; unfold qc_X9_letterEnd at h; rw [qblt_f h0] at h; cases h
theorem qd_X9_digitEnd_0 : (List.range 34).all (fun j => qckD (qc_X9_digitEnd (0 + j)) cX9_digitEnd (0 + j)) = true := by decide +kernel
theorem qd_X9_digitEnd {pc : Nat} {ins : Instr} {len : Nat} (h : qc_X9_digitEnd pc = some (ins, len)) : decode cX9_digitEnd pc = .ok (ins, len) ∧ qok pc ins len = true := by
  refine qckD_of ?_ h
  by_cases h0 : pc < 34
  · have := List.all_eq_true.mp qd_X9_digitEnd_0 (pc - 0) (List.mem_range.mpr (by omega))
    rwa [show 0 + (pc - 0) = pc by omega] at this
  exfalso; unfold qc_X9_digitEnd at h; rw [qblt_f h0] at h; cases h
theorem qd_X9_numberCode_0 : (List.range 43).all (fun j => qckD (qc_X9_numberCode (0 + j)) cX9_numberCode (0 + j)) = true := by decide +kernel
theorem qd_X9_numberCode {pc : Nat} {ins : Instr} {len : Nat} (h : qc_X9_numberCode pc = some (ins, len)) : decode cX9_numberCode pc = .ok (ins, len) ∧ qok pc ins len = true := by
  refine qckD_of ?_ h
  by_cases h0 : pc < 43
  · have := List.all_eq_true.mp qd_X9_numberCode_0 (pc - 0) (List.mem_range.mpr (by omega))
    rwa [show 0 + (pc - 0) = pc by omega] at this
  exfalso; unfold qc_X9_numberCode at h; rw [qblt_f h0] at h; cases h
theorem qd_X9_wordCode_0 : (List.range 86).all (fun j => qckD (qc_X9_wordCode (0 + j)) cX9_wordCode (0 + j)) = true := by decide +kernel
theorem qd_X9_wordCode {pc : Nat} {ins : Instr} {len : Nat} (h : qc_X9_wordCode pc = some (ins, len)) : decode cX9_wordCode pc = .ok (ins, len) ∧ qok pc ins len = true := by
  refine qckD_of ?_ h
  by_cases h0 : pc < 86
  · have := List.all_eq_true.mp qd_X9_wordCode_0 (pc - 0) (List.mem_range.mpr (by omega))
    rwa [show 0 + (pc - 0) = pc by omega] at this
  exfalso; unfold qc_X9_wordCode at h; rw [qblt_f h0] at h; cases h
theorem qd_X9_isSame_0 : (List.range 67).all (fun j => qckD (qc_X9_isSame (0 + j)) cX9_isSame (0 + j)) = true := by decide +kernel
theorem qd_X9_isSame {pc : Nat} {ins : Instr} {len : Nat} (h : qc_X9_isSame pc = some (ins, len)) : decode cX9_isSame pc = .ok (ins, len) ∧ qok pc ins len = true := by
  refine qckD_of ?_ h
  by_cases h0 : pc < 67
  · have := List.all_eq_true.mp qd_X9_isSame_0 (pc - 0) (List.mem_range.mpr (by omega))
    rwa [show 0 + (pc - 0) = pc by omega] at this
  exfalso; unfold qc_X9_isSame at h; rw [qblt_f h0] at h; cases h
theorem qd_X9_addToken_0 : (List.range 41).all (fun j => qckD (qc_X9_addToken (0 + j)) cX9_addToken (0 + j)) = true := by decide +kernel
theorem qd_X9_addToken {pc : Nat} {ins : Instr} {len : Nat} (h : qc_X9_addToken pc = some (ins, len)) : decode cX9_addToken pc = .ok (ins, len) ∧ qok pc ins len = true := by
  refine qckD_of ?_ h
  by_cases h0 : pc < 41
  · have := List.all_eq_true.mp qd_X9_addToken_0 (pc - 0) (List.mem_range.mpr (by omega))
    rwa [show 0 + (pc - 0) = pc by omega] at this
  exfalso; unfold qc_X9_addToken at h; rw [qblt_f h0] at h; cases h
theorem qd_X9_code_0 : (List.range 33).all (fun j => qckD (qc_X9_code (0 + j)) cX9_code (0 + j)) = true := by decide +kernel
theorem qd_X9_code {pc : Nat} {ins : Instr} {len : Nat} (h : qc_X9_code pc = some (ins, len)) : decode cX9_code pc = .ok (ins, len) ∧ qok pc ins len = true := by
  refine qckD_of ?_ h
  by_cases h0 : pc < 33
  · have := List.all_eq_true.mp qd_X9_code_0 (pc - 0) (List.mem_range.mpr (by omega))
    rwa [show 0 + (pc - 0) = pc by omega] at this
  exfalso; unfold qc_X9_code at h; rw [qblt_f h0] at h; cases h
theorem qd_X9_tokenNumber_0 : (List.range 5).all (fun j => qckD (qc_X9_tokenNumber (0 + j)) cX9_tokenNumber (0 + j)) = true := by decide +kernel
theorem qd_X9_tokenNumber {pc : Nat} {ins : Instr} {len : Nat} (h : qc_X9_tokenNumber pc = some (ins, len)) : decode cX9_tokenNumber pc = .ok (ins, len) ∧ qok pc ins len = true := by
  refine qckD_of ?_ h
  by_cases h0 : pc < 5
  · have := List.all_eq_true.mp qd_X9_tokenNumber_0 (pc - 0) (List.mem_range.mpr (by omega))
    rwa [show 0 + (pc - 0) = pc by omega] at this
  exfalso; unfold qc_X9_tokenNumber at h; rw [qblt_f h0] at h; cases h
theorem qd_X9_copyCodes_0 : (List.range 20).all (fun j => qckD (qc_X9_copyCodes (0 + j)) cX9_copyCodes (0 + j)) = true := by decide +kernel
theorem qd_X9_copyCodes {pc : Nat} {ins : Instr} {len : Nat} (h : qc_X9_copyCodes pc = some (ins, len)) : decode cX9_copyCodes pc = .ok (ins, len) ∧ qok pc ins len = true := by
  refine qckD_of ?_ h
  by_cases h0 : pc < 20
  · have := List.all_eq_true.mp qd_X9_copyCodes_0 (pc - 0) (List.mem_range.mpr (by omega))
    rwa [show 0 + (pc - 0) = pc by omega] at this
  exfalso; unfold qc_X9_copyCodes at h; rw [qblt_f h0] at h; cases h
theorem qd_X9_word_0 : (List.range 29).all (fun j => qckD (qc_X9_word (0 + j)) cX9_word (0 + j)) = true := by decide +kernel
theorem qd_X9_word {pc : Nat} {ins : Instr} {len : Nat} (h : qc_X9_word pc = some (ins, len)) : decode cX9_word pc = .ok (ins, len) ∧ qok pc ins len = true := by
  refine qckD_of ?_ h
  by_cases h0 : pc < 29
  · have := List.all_eq_true.mp qd_X9_word_0 (pc - 0) (List.mem_range.mpr (by omega))
    rwa [show 0 + (pc - 0) = pc by omega] at this
  exfalso; unfold qc_X9_word at h; rw [qblt_f h0] at h; cases h
theorem qd_X9_next_0 : (List.range 11).all (fun j => qckD (qc_X9_next (0 + j)) cX9_next (0 + j)) = true := by decide +kernel
theorem qd_X9_next {pc : Nat} {ins : Instr} {len : Nat} (h : qc_X9_next pc = some (ins, len)) : decode cX9_next pc = .ok (ins, len) ∧ qok pc ins len = true := by
  refine qckD_of ?_ h
  by_cases h0 : pc < 11
  · have := List.all_eq_true.mp qd_X9_next_0 (pc - 0) (List.mem_range.mpr (by omega))
    rwa [show 0 + (pc - 0) = pc by omega] at this
  exfalso; unfold qc_X9_next at h; rw [qblt_f h0] at h; cases h
theorem qd_X9_takes_0 : (List.range 16).all (fun j => qckD (qc_X9_takes (0 + j)) cX9_takes (0 + j)) = true := by decide +kernel
theorem qd_X9_takes {pc : Nat} {ins : Instr} {len : Nat} (h : qc_X9_takes pc = some (ins, len)) : decode cX9_takes pc = .ok (ins, len) ∧ qok pc ins len = true := by
  refine qckD_of ?_ h
  by_cases h0 : pc < 16
  · have := List.all_eq_true.mp qd_X9_takes_0 (pc - 0) (List.mem_range.mpr (by omega))
    rwa [show 0 + (pc - 0) = pc by omega] at this
  exfalso; unfold qc_X9_takes at h; rw [qblt_f h0] at h; cases h
theorem qd_X9_needs_0 : (List.range 22).all (fun j => qckD (qc_X9_needs (0 + j)) cX9_needs (0 + j)) = true := by decide +kernel
theorem qd_X9_needs {pc : Nat} {ins : Instr} {len : Nat} (h : qc_X9_needs pc = some (ins, len)) : decode cX9_needs pc = .ok (ins, len) ∧ qok pc ins len = true := by
  refine qckD_of ?_ h
  by_cases h0 : pc < 22
  · have := List.all_eq_true.mp qd_X9_needs_0 (pc - 0) (List.mem_range.mpr (by omega))
    rwa [show 0 + (pc - 0) = pc by omega] at this
  exfalso; unfold qc_X9_needs at h; rw [qblt_f h0] at h; cases h
theorem qd_X9_needsNumber_0 : (List.range 44).all (fun j => qckD (qc_X9_needsNumber (0 + j)) cX9_needsNumber (0 + j)) = true := by decide +kernel
theorem qd_X9_needsNumber {pc : Nat} {ins : Instr} {len : Nat} (h : qc_X9_needsNumber pc = some (ins, len)) : decode cX9_needsNumber pc = .ok (ins, len) ∧ qok pc ins len = true := by
  refine qckD_of ?_ h
  by_cases h0 : pc < 44
  · have := List.all_eq_true.mp qd_X9_needsNumber_0 (pc - 0) (List.mem_range.mpr (by omega))
    rwa [show 0 + (pc - 0) = pc by omega] at this
  exfalso; unfold qc_X9_needsNumber at h; rw [qblt_f h0] at h; cases h
theorem qd_X9_fail_0 : (List.range 45).all (fun j => qckD (qc_X9_fail (0 + j)) cX9_fail (0 + j)) = true := by decide +kernel
theorem qd_X9_fail {pc : Nat} {ins : Instr} {len : Nat} (h : qc_X9_fail pc = some (ins, len)) : decode cX9_fail pc = .ok (ins, len) ∧ qok pc ins len = true := by
  refine qckD_of ?_ h
  by_cases h0 : pc < 45
  · have := List.all_eq_true.mp qd_X9_fail_0 (pc - 0) (List.mem_range.mpr (by omega))
    rwa [show 0 + (pc - 0) = pc by omega] at this
  exfalso; unfold qc_X9_fail at h; rw [qblt_f h0] at h; cases h
theorem qd_X10_init_0 : (List.range 31).all (fun j => qckD (qc_X10_init (0 + j)) cX10_init (0 + j)) = true := by decide +kernel
theorem qd_X10_init {pc : Nat} {ins : Instr} {len : Nat} (h : qc_X10_init pc = some (ins, len)) : decode cX10_init pc = .ok (ins, len) ∧ qok pc ins len = true := by
  refine qckD_of ?_ h
  by_cases h0 : pc < 31
  · have := List.all_eq_true.mp qd_X10_init_0 (pc - 0) (List.mem_range.mpr (by omega))
    rwa [show 0 + (pc - 0) = pc by omega] at this
  exfalso; unfold qc_X10_init at h; rw [qblt_f h0] at h; cases h
theorem qd_X10_add_0 : (List.range 68).all (fun j => qckD (qc_X10_add (0 + j)) cX10_add (0 + j)) = true := by decide +kernel
theorem qd_X10_add {pc : Nat} {ins : Instr} {len : Nat} (h : qc_X10_add pc = some (ins, len)) : decode cX10_add pc = .ok (ins, len) ∧ qok pc ins len = true := by
  refine qckD_of ?_ h
  by_cases h0 : pc < 68
  · have := List.all_eq_true.mp qd_X10_add_0 (pc - 0) (List.mem_range.mpr (by omega))
    rwa [show 0 + (pc - 0) = pc by omega] at this
  exfalso; unfold qc_X10_add at h; rw [qblt_f h0] at h; cases h
theorem qd_X10_putTruth_0 : (List.range 19).all (fun j => qckD (qc_X10_putTruth (0 + j)) cX10_putTruth (0 + j)) = true := by decide +kernel
theorem qd_X10_putTruth {pc : Nat} {ins : Instr} {len : Nat} (h : qc_X10_putTruth pc = some (ins, len)) : decode cX10_putTruth pc = .ok (ins, len) ∧ qok pc ins len = true := by
  refine qckD_of ?_ h
  by_cases h0 : pc < 19
  · have := List.all_eq_true.mp qd_X10_putTruth_0 (pc - 0) (List.mem_range.mpr (by omega))
    rwa [show 0 + (pc - 0) = pc by omega] at this
  exfalso; unfold qc_X10_putTruth at h; rw [qblt_f h0] at h; cases h
theorem qd_X10_firstWith_0 : (List.range 67).all (fun j => qckD (qc_X10_firstWith (0 + j)) cX10_firstWith (0 + j)) = true := by decide +kernel
theorem qd_X10_firstWith {pc : Nat} {ins : Instr} {len : Nat} (h : qc_X10_firstWith pc = some (ins, len)) : decode cX10_firstWith pc = .ok (ins, len) ∧ qok pc ins len = true := by
  refine qckD_of ?_ h
  by_cases h0 : pc < 67
  · have := List.all_eq_true.mp qd_X10_firstWith_0 (pc - 0) (List.mem_range.mpr (by omega))
    rwa [show 0 + (pc - 0) = pc by omega] at this
  exfalso; unfold qc_X10_firstWith at h; rw [qblt_f h0] at h; cases h
theorem qd_X10_factOf_0 : (List.range 98).all (fun j => qckD (qc_X10_factOf (0 + j)) cX10_factOf (0 + j)) = true := by decide +kernel
theorem qd_X10_factOf {pc : Nat} {ins : Instr} {len : Nat} (h : qc_X10_factOf pc = some (ins, len)) : decode cX10_factOf pc = .ok (ins, len) ∧ qok pc ins len = true := by
  refine qckD_of ?_ h
  by_cases h0 : pc < 98
  · have := List.all_eq_true.mp qd_X10_factOf_0 (pc - 0) (List.mem_range.mpr (by omega))
    rwa [show 0 + (pc - 0) = pc by omega] at this
  exfalso; unfold qc_X10_factOf at h; rw [qblt_f h0] at h; cases h
theorem qd_X10_isWriter_0 : (List.range 24).all (fun j => qckD (qc_X10_isWriter (0 + j)) cX10_isWriter (0 + j)) = true := by decide +kernel
theorem qd_X10_isWriter {pc : Nat} {ins : Instr} {len : Nat} (h : qc_X10_isWriter pc = some (ins, len)) : decode cX10_isWriter pc = .ok (ins, len) ∧ qok pc ins len = true := by
  refine qckD_of ?_ h
  by_cases h0 : pc < 24
  · have := List.all_eq_true.mp qd_X10_isWriter_0 (pc - 0) (List.mem_range.mpr (by omega))
    rwa [show 0 + (pc - 0) = pc by omega] at this
  exfalso; unfold qc_X10_isWriter at h; rw [qblt_f h0] at h; cases h
theorem qd_X10_wroteBefore_0 : (List.range 59).all (fun j => qckD (qc_X10_wroteBefore (0 + j)) cX10_wroteBefore (0 + j)) = true := by decide +kernel
theorem qd_X10_wroteBefore {pc : Nat} {ins : Instr} {len : Nat} (h : qc_X10_wroteBefore pc = some (ins, len)) : decode cX10_wroteBefore pc = .ok (ins, len) ∧ qok pc ins len = true := by
  refine qckD_of ?_ h
  by_cases h0 : pc < 59
  · have := List.all_eq_true.mp qd_X10_wroteBefore_0 (pc - 0) (List.mem_range.mpr (by omega))
    rwa [show 0 + (pc - 0) = pc by omega] at this
  exfalso; unfold qc_X10_wroteBefore at h; rw [qblt_f h0] at h; cases h
theorem qd_X10_copiedFrom_0 : (List.range 60).all (fun j => qckD (qc_X10_copiedFrom (0 + j)) cX10_copiedFrom (0 + j)) = true := by decide +kernel
theorem qd_X10_copiedFrom_1 : (List.range 60).all (fun j => qckD (qc_X10_copiedFrom (60 + j)) cX10_copiedFrom (60 + j)) = true := by decide +kernel
theorem qd_X10_copiedFrom_2 : (List.range 2).all (fun j => qckD (qc_X10_copiedFrom (120 + j)) cX10_copiedFrom (120 + j)) = true := by decide +kernel
theorem qd_X10_copiedFrom {pc : Nat} {ins : Instr} {len : Nat} (h : qc_X10_copiedFrom pc = some (ins, len)) : decode cX10_copiedFrom pc = .ok (ins, len) ∧ qok pc ins len = true := by
  refine qckD_of ?_ h
  by_cases h0 : pc < 60
  · have := List.all_eq_true.mp qd_X10_copiedFrom_0 (pc - 0) (List.mem_range.mpr (by omega))
    rwa [show 0 + (pc - 0) = pc by omega] at this
  by_cases h1 : pc < 120
  · have := List.all_eq_true.mp qd_X10_copiedFrom_1 (pc - 60) (List.mem_range.mpr (by omega))
    rwa [show 60 + (pc - 60) = pc by omega] at this
  by_cases h2 : pc < 122
  · have := List.all_eq_true.mp qd_X10_copiedFrom_2 (pc - 120) (List.mem_range.mpr (by omega))
    rwa [show 120 + (pc - 120) = pc by omega] at this
  exfalso; unfold qc_X10_copiedFrom at h; rw [qblt_f h2] at h; cases h
theorem qd_X10_walkLine_0 : (List.range 54).all (fun j => qckD (qc_X10_walkLine (0 + j)) cX10_walkLine (0 + j)) = true := by decide +kernel
theorem qd_X10_walkLine {pc : Nat} {ins : Instr} {len : Nat} (h : qc_X10_walkLine pc = some (ins, len)) : decode cX10_walkLine pc = .ok (ins, len) ∧ qok pc ins len = true := by
  refine qckD_of ?_ h
  by_cases h0 : pc < 54
  · have := List.all_eq_true.mp qd_X10_walkLine_0 (pc - 0) (List.mem_range.mpr (by omega))
    rwa [show 0 + (pc - 0) = pc by omega] at this
  exfalso; unfold qc_X10_walkLine at h; rw [qblt_f h0] at h; cases h
theorem qd_X11_init_0 : (List.range 60).all (fun j => qckD (qc_X11_init (0 + j)) cX11_init (0 + j)) = true := by decide +kernel
theorem qd_X11_init_1 : (List.range 60).all (fun j => qckD (qc_X11_init (60 + j)) cX11_init (60 + j)) = true := by decide +kernel
theorem qd_X11_init_2 : (List.range 41).all (fun j => qckD (qc_X11_init (120 + j)) cX11_init (120 + j)) = true := by decide +kernel
theorem qd_X11_init {pc : Nat} {ins : Instr} {len : Nat} (h : qc_X11_init pc = some (ins, len)) : decode cX11_init pc = .ok (ins, len) ∧ qok pc ins len = true := by
  refine qckD_of ?_ h
  by_cases h0 : pc < 60
  · have := List.all_eq_true.mp qd_X11_init_0 (pc - 0) (List.mem_range.mpr (by omega))
    rwa [show 0 + (pc - 0) = pc by omega] at this
  by_cases h1 : pc < 120
  · have := List.all_eq_true.mp qd_X11_init_1 (pc - 60) (List.mem_range.mpr (by omega))
    rwa [show 60 + (pc - 60) = pc by omega] at this
  by_cases h2 : pc < 161
  · have := List.all_eq_true.mp qd_X11_init_2 (pc - 120) (List.mem_range.mpr (by omega))
    rwa [show 120 + (pc - 120) = pc by omega] at this
  exfalso; unfold qc_X11_init at h; rw [qblt_f h2] at h; cases h
theorem qd_X11_works_0 : (List.range 27).all (fun j => qckD (qc_X11_works (0 + j)) cX11_works (0 + j)) = true := by decide +kernel
theorem qd_X11_works {pc : Nat} {ins : Instr} {len : Nat} (h : qc_X11_works pc = some (ins, len)) : decode cX11_works pc = .ok (ins, len) ∧ qok pc ins len = true := by
  refine qckD_of ?_ h
  by_cases h0 : pc < 27
  · have := List.all_eq_true.mp qd_X11_works_0 (pc - 0) (List.mem_range.mpr (by omega))
    rwa [show 0 + (pc - 0) = pc by omega] at this
  exfalso; unfold qc_X11_works at h; rw [qblt_f h0] at h; cases h
theorem qd_X11_wall_0 : (List.range 29).all (fun j => qckD (qc_X11_wall (0 + j)) cX11_wall (0 + j)) = true := by decide +kernel
theorem qd_X11_wall {pc : Nat} {ins : Instr} {len : Nat} (h : qc_X11_wall pc = some (ins, len)) : decode cX11_wall pc = .ok (ins, len) ∧ qok pc ins len = true := by
  refine qckD_of ?_ h
  by_cases h0 : pc < 29
  · have := List.all_eq_true.mp qd_X11_wall_0 (pc - 0) (List.mem_range.mpr (by omega))
    rwa [show 0 + (pc - 0) = pc by omega] at this
  exfalso; unfold qc_X11_wall at h; rw [qblt_f h0] at h; cases h
theorem qd_X11_door_0 : (List.range 31).all (fun j => qckD (qc_X11_door (0 + j)) cX11_door (0 + j)) = true := by decide +kernel
theorem qd_X11_door {pc : Nat} {ins : Instr} {len : Nat} (h : qc_X11_door pc = some (ins, len)) : decode cX11_door pc = .ok (ins, len) ∧ qok pc ins len = true := by
  refine qckD_of ?_ h
  by_cases h0 : pc < 31
  · have := List.all_eq_true.mp qd_X11_door_0 (pc - 0) (List.mem_range.mpr (by omega))
    rwa [show 0 + (pc - 0) = pc by omega] at this
  exfalso; unfold qc_X11_door at h; rw [qblt_f h0] at h; cases h
theorem qd_X11_feed_0 : (List.range 61).all (fun j => qckD (qc_X11_feed (0 + j)) cX11_feed (0 + j)) = true := by decide +kernel
theorem qd_X11_feed {pc : Nat} {ins : Instr} {len : Nat} (h : qc_X11_feed pc = some (ins, len)) : decode cX11_feed pc = .ok (ins, len) ∧ qok pc ins len = true := by
  refine qckD_of ?_ h
  by_cases h0 : pc < 61
  · have := List.all_eq_true.mp qd_X11_feed_0 (pc - 0) (List.mem_range.mpr (by omega))
    rwa [show 0 + (pc - 0) = pc by omega] at this
  exfalso; unfold qc_X11_feed at h; rw [qblt_f h0] at h; cases h
theorem qd_X11_end_0 : (List.range 9).all (fun j => qckD (qc_X11_end (0 + j)) cX11_end (0 + j)) = true := by decide +kernel
theorem qd_X11_end {pc : Nat} {ins : Instr} {len : Nat} (h : qc_X11_end pc = some (ins, len)) : decode cX11_end pc = .ok (ins, len) ∧ qok pc ins len = true := by
  refine qckD_of ?_ h
  by_cases h0 : pc < 9
  · have := List.all_eq_true.mp qd_X11_end_0 (pc - 0) (List.mem_range.mpr (by omega))
    rwa [show 0 + (pc - 0) = pc by omega] at this
  exfalso; unfold qc_X11_end at h; rw [qblt_f h0] at h; cases h
theorem qd_X11_text_0 : (List.range 53).all (fun j => qckD (qc_X11_text (0 + j)) cX11_text (0 + j)) = true := by decide +kernel
theorem qd_X11_text {pc : Nat} {ins : Instr} {len : Nat} (h : qc_X11_text pc = some (ins, len)) : decode cX11_text pc = .ok (ins, len) ∧ qok pc ins len = true := by
  refine qckD_of ?_ h
  by_cases h0 : pc < 53
  · have := List.all_eq_true.mp qd_X11_text_0 (pc - 0) (List.mem_range.mpr (by omega))
    rwa [show 0 + (pc - 0) = pc by omega] at this
  exfalso; unfold qc_X11_text at h; rw [qblt_f h0] at h; cases h
theorem qd_X11_fault_0 : (List.range 9).all (fun j => qckD (qc_X11_fault (0 + j)) cX11_fault (0 + j)) = true := by decide +kernel
theorem qd_X11_fault {pc : Nat} {ins : Instr} {len : Nat} (h : qc_X11_fault pc = some (ins, len)) : decode cX11_fault pc = .ok (ins, len) ∧ qok pc ins len = true := by
  refine qckD_of ?_ h
  by_cases h0 : pc < 9
  · have := List.all_eq_true.mp qd_X11_fault_0 (pc - 0) (List.mem_range.mpr (by omega))
    rwa [show 0 + (pc - 0) = pc by omega] at this
  exfalso; unfold qc_X11_fault at h; rw [qblt_f h0] at h; cases h
theorem qd_X11_poses_0 : (List.range 31).all (fun j => qckD (qc_X11_poses (0 + j)) cX11_poses (0 + j)) = true := by decide +kernel
theorem qd_X11_poses {pc : Nat} {ins : Instr} {len : Nat} (h : qc_X11_poses pc = some (ins, len)) : decode cX11_poses pc = .ok (ins, len) ∧ qok pc ins len = true := by
  refine qckD_of ?_ h
  by_cases h0 : pc < 31
  · have := List.all_eq_true.mp qd_X11_poses_0 (pc - 0) (List.mem_range.mpr (by omega))
    rwa [show 0 + (pc - 0) = pc by omega] at this
  exfalso; unfold qc_X11_poses at h; rw [qblt_f h0] at h; cases h
theorem qd_X11_seen_0 : (List.range 42).all (fun j => qckD (qc_X11_seen (0 + j)) cX11_seen (0 + j)) = true := by decide +kernel
theorem qd_X11_seen {pc : Nat} {ins : Instr} {len : Nat} (h : qc_X11_seen pc = some (ins, len)) : decode cX11_seen pc = .ok (ins, len) ∧ qok pc ins len = true := by
  refine qckD_of ?_ h
  by_cases h0 : pc < 42
  · have := List.all_eq_true.mp qd_X11_seen_0 (pc - 0) (List.mem_range.mpr (by omega))
    rwa [show 0 + (pc - 0) = pc by omega] at this
  exfalso; unfold qc_X11_seen at h; rw [qblt_f h0] at h; cases h
theorem qd_X11_run_0 : (List.range 42).all (fun j => qckD (qc_X11_run (0 + j)) cX11_run (0 + j)) = true := by decide +kernel
theorem qd_X11_run {pc : Nat} {ins : Instr} {len : Nat} (h : qc_X11_run pc = some (ins, len)) : decode cX11_run pc = .ok (ins, len) ∧ qok pc ins len = true := by
  refine qckD_of ?_ h
  by_cases h0 : pc < 42
  · have := List.all_eq_true.mp qd_X11_run_0 (pc - 0) (List.mem_range.mpr (by omega))
    rwa [show 0 + (pc - 0) = pc by omega] at this
  exfalso; unfold qc_X11_run at h; rw [qblt_f h0] at h; cases h
theorem qd_X11_hide_0 : (List.range 68).all (fun j => qckD (qc_X11_hide (0 + j)) cX11_hide (0 + j)) = true := by decide +kernel
theorem qd_X11_hide {pc : Nat} {ins : Instr} {len : Nat} (h : qc_X11_hide pc = some (ins, len)) : decode cX11_hide pc = .ok (ins, len) ∧ qok pc ins len = true := by
  refine qckD_of ?_ h
  by_cases h0 : pc < 68
  · have := List.all_eq_true.mp qd_X11_hide_0 (pc - 0) (List.mem_range.mpr (by omega))
    rwa [show 0 + (pc - 0) = pc by omega] at this
  exfalso; unfold qc_X11_hide at h; rw [qblt_f h0] at h; cases h
theorem qd_X11_way_0 : (List.range 61).all (fun j => qckD (qc_X11_way (0 + j)) cX11_way (0 + j)) = true := by decide +kernel
theorem qd_X11_way {pc : Nat} {ins : Instr} {len : Nat} (h : qc_X11_way pc = some (ins, len)) : decode cX11_way pc = .ok (ins, len) ∧ qok pc ins len = true := by
  refine qckD_of ?_ h
  by_cases h0 : pc < 61
  · have := List.all_eq_true.mp qd_X11_way_0 (pc - 0) (List.mem_range.mpr (by omega))
    rwa [show 0 + (pc - 0) = pc by omega] at this
  exfalso; unfold qc_X11_way at h; rw [qblt_f h0] at h; cases h
theorem qd_X11_order_0 : (List.range 71).all (fun j => qckD (qc_X11_order (0 + j)) cX11_order (0 + j)) = true := by decide +kernel
theorem qd_X11_order {pc : Nat} {ins : Instr} {len : Nat} (h : qc_X11_order pc = some (ins, len)) : decode cX11_order pc = .ok (ins, len) ∧ qok pc ins len = true := by
  refine qckD_of ?_ h
  by_cases h0 : pc < 71
  · have := List.all_eq_true.mp qd_X11_order_0 (pc - 0) (List.mem_range.mpr (by omega))
    rwa [show 0 + (pc - 0) = pc by omega] at this
  exfalso; unfold qc_X11_order at h; rw [qblt_f h0] at h; cases h
theorem qd_X11_proof_0 : (List.range 45).all (fun j => qckD (qc_X11_proof (0 + j)) cX11_proof (0 + j)) = true := by decide +kernel
theorem qd_X11_proof {pc : Nat} {ins : Instr} {len : Nat} (h : qc_X11_proof pc = some (ins, len)) : decode cX11_proof pc = .ok (ins, len) ∧ qok pc ins len = true := by
  refine qckD_of ?_ h
  by_cases h0 : pc < 45
  · have := List.all_eq_true.mp qd_X11_proof_0 (pc - 0) (List.mem_range.mpr (by omega))
    rwa [show 0 + (pc - 0) = pc by omega] at this
  exfalso; unfold qc_X11_proof at h; rw [qblt_f h0] at h; cases h
theorem qd_X11_reason_0 : (List.range 17).all (fun j => qckD (qc_X11_reason (0 + j)) cX11_reason (0 + j)) = true := by decide +kernel
theorem qd_X11_reason {pc : Nat} {ins : Instr} {len : Nat} (h : qc_X11_reason pc = some (ins, len)) : decode cX11_reason pc = .ok (ins, len) ∧ qok pc ins len = true := by
  refine qckD_of ?_ h
  by_cases h0 : pc < 17
  · have := List.all_eq_true.mp qd_X11_reason_0 (pc - 0) (List.mem_range.mpr (by omega))
    rwa [show 0 + (pc - 0) = pc by omega] at this
  exfalso; unfold qc_X11_reason at h; rw [qblt_f h0] at h; cases h
theorem qd_X11_pamphlet_0 : (List.range 79).all (fun j => qckD (qc_X11_pamphlet (0 + j)) cX11_pamphlet (0 + j)) = true := by decide +kernel
theorem qd_X11_pamphlet {pc : Nat} {ins : Instr} {len : Nat} (h : qc_X11_pamphlet pc = some (ins, len)) : decode cX11_pamphlet pc = .ok (ins, len) ∧ qok pc ins len = true := by
  refine qckD_of ?_ h
  by_cases h0 : pc < 79
  · have := List.all_eq_true.mp qd_X11_pamphlet_0 (pc - 0) (List.mem_range.mpr (by omega))
    rwa [show 0 + (pc - 0) = pc by omega] at this
  exfalso; unfold qc_X11_pamphlet at h; rw [qblt_f h0] at h; cases h
theorem qd_X11_air_0 : (List.range 55).all (fun j => qckD (qc_X11_air (0 + j)) cX11_air (0 + j)) = true := by decide +kernel
theorem qd_X11_air {pc : Nat} {ins : Instr} {len : Nat} (h : qc_X11_air pc = some (ins, len)) : decode cX11_air pc = .ok (ins, len) ∧ qok pc ins len = true := by
  refine qckD_of ?_ h
  by_cases h0 : pc < 55
  · have := List.all_eq_true.mp qd_X11_air_0 (pc - 0) (List.mem_range.mpr (by omega))
    rwa [show 0 + (pc - 0) = pc by omega] at this
  exfalso; unfold qc_X11_air at h; rw [qblt_f h0] at h; cases h
theorem qd_X11_piece_0 : (List.range 10).all (fun j => qckD (qc_X11_piece (0 + j)) cX11_piece (0 + j)) = true := by decide +kernel
theorem qd_X11_piece {pc : Nat} {ins : Instr} {len : Nat} (h : qc_X11_piece pc = some (ins, len)) : decode cX11_piece pc = .ok (ins, len) ∧ qok pc ins len = true := by
  refine qckD_of ?_ h
  by_cases h0 : pc < 10
  · have := List.all_eq_true.mp qd_X11_piece_0 (pc - 0) (List.mem_range.mpr (by omega))
    rwa [show 0 + (pc - 0) = pc by omega] at this
  exfalso; unfold qc_X11_piece at h; rw [qblt_f h0] at h; cases h
theorem qd_X11_stick_0 : (List.range 10).all (fun j => qckD (qc_X11_stick (0 + j)) cX11_stick (0 + j)) = true := by decide +kernel
theorem qd_X11_stick {pc : Nat} {ins : Instr} {len : Nat} (h : qc_X11_stick pc = some (ins, len)) : decode cX11_stick pc = .ok (ins, len) ∧ qok pc ins len = true := by
  refine qckD_of ?_ h
  by_cases h0 : pc < 10
  · have := List.all_eq_true.mp qd_X11_stick_0 (pc - 0) (List.mem_range.mpr (by omega))
    rwa [show 0 + (pc - 0) = pc by omega] at this
  exfalso; unfold qc_X11_stick at h; rw [qblt_f h0] at h; cases h
theorem qd_X11_move_0 : (List.range 11).all (fun j => qckD (qc_X11_move (0 + j)) cX11_move (0 + j)) = true := by decide +kernel
theorem qd_X11_move {pc : Nat} {ins : Instr} {len : Nat} (h : qc_X11_move pc = some (ins, len)) : decode cX11_move pc = .ok (ins, len) ∧ qok pc ins len = true := by
  refine qckD_of ?_ h
  by_cases h0 : pc < 11
  · have := List.all_eq_true.mp qd_X11_move_0 (pc - 0) (List.mem_range.mpr (by omega))
    rwa [show 0 + (pc - 0) = pc by omega] at this
  exfalso; unfold qc_X11_move at h; rw [qblt_f h0] at h; cases h
theorem qd_X11_board_0 : (List.range 10).all (fun j => qckD (qc_X11_board (0 + j)) cX11_board (0 + j)) = true := by decide +kernel
theorem qd_X11_board {pc : Nat} {ins : Instr} {len : Nat} (h : qc_X11_board pc = some (ins, len)) : decode cX11_board pc = .ok (ins, len) ∧ qok pc ins len = true := by
  refine qckD_of ?_ h
  by_cases h0 : pc < 10
  · have := List.all_eq_true.mp qd_X11_board_0 (pc - 0) (List.mem_range.mpr (by omega))
    rwa [show 0 + (pc - 0) = pc by omega] at this
  exfalso; unfold qc_X11_board at h; rw [qblt_f h0] at h; cases h
theorem qd_X11_master_0 : (List.range 23).all (fun j => qckD (qc_X11_master (0 + j)) cX11_master (0 + j)) = true := by decide +kernel
theorem qd_X11_master {pc : Nat} {ins : Instr} {len : Nat} (h : qc_X11_master pc = some (ins, len)) : decode cX11_master pc = .ok (ins, len) ∧ qok pc ins len = true := by
  refine qckD_of ?_ h
  by_cases h0 : pc < 23
  · have := List.all_eq_true.mp qd_X11_master_0 (pc - 0) (List.mem_range.mpr (by omega))
    rwa [show 0 + (pc - 0) = pc by omega] at this
  exfalso; unfold qc_X11_master at h; rw [qblt_f h0] at h; cases h
theorem qd_X11_was_0 : (List.range 11).all (fun j => qckD (qc_X11_was (0 + j)) cX11_was (0 + j)) = true := by decide +kernel
theorem qd_X11_was {pc : Nat} {ins : Instr} {len : Nat} (h : qc_X11_was pc = some (ins, len)) : decode cX11_was pc = .ok (ins, len) ∧ qok pc ins len = true := by
  refine qckD_of ?_ h
  by_cases h0 : pc < 11
  · have := List.all_eq_true.mp qd_X11_was_0 (pc - 0) (List.mem_range.mpr (by omega))
    rwa [show 0 + (pc - 0) = pc by omega] at this
  exfalso; unfold qc_X11_was at h; rw [qblt_f h0] at h; cases h
theorem qd_X11_habit_0 : (List.range 11).all (fun j => qckD (qc_X11_habit (0 + j)) cX11_habit (0 + j)) = true := by decide +kernel
theorem qd_X11_habit {pc : Nat} {ins : Instr} {len : Nat} (h : qc_X11_habit pc = some (ins, len)) : decode cX11_habit pc = .ok (ins, len) ∧ qok pc ins len = true := by
  refine qckD_of ?_ h
  by_cases h0 : pc < 11
  · have := List.all_eq_true.mp qd_X11_habit_0 (pc - 0) (List.mem_range.mpr (by omega))
    rwa [show 0 + (pc - 0) = pc by omega] at this
  exfalso; unfold qc_X11_habit at h; rw [qblt_f h0] at h; cases h
theorem qd_X11_night_0 : (List.range 15).all (fun j => qckD (qc_X11_night (0 + j)) cX11_night (0 + j)) = true := by decide +kernel
theorem qd_X11_night {pc : Nat} {ins : Instr} {len : Nat} (h : qc_X11_night pc = some (ins, len)) : decode cX11_night pc = .ok (ins, len) ∧ qok pc ins len = true := by
  refine qckD_of ?_ h
  by_cases h0 : pc < 15
  · have := List.all_eq_true.mp qd_X11_night_0 (pc - 0) (List.mem_range.mpr (by omega))
    rwa [show 0 + (pc - 0) = pc by omega] at this
  exfalso; unfold qc_X11_night at h; rw [qblt_f h0] at h; cases h
theorem qd_X11_who_0 : (List.range 11).all (fun j => qckD (qc_X11_who (0 + j)) cX11_who (0 + j)) = true := by decide +kernel
theorem qd_X11_who {pc : Nat} {ins : Instr} {len : Nat} (h : qc_X11_who pc = some (ins, len)) : decode cX11_who pc = .ok (ins, len) ∧ qok pc ins len = true := by
  refine qckD_of ?_ h
  by_cases h0 : pc < 11
  · have := List.all_eq_true.mp qd_X11_who_0 (pc - 0) (List.mem_range.mpr (by omega))
    rwa [show 0 + (pc - 0) = pc by omega] at this
  exfalso; unfold qc_X11_who at h; rw [qblt_f h0] at h; cases h
theorem qd_X11_all_0 : (List.range 11).all (fun j => qckD (qc_X11_all (0 + j)) cX11_all (0 + j)) = true := by decide +kernel
theorem qd_X11_all {pc : Nat} {ins : Instr} {len : Nat} (h : qc_X11_all pc = some (ins, len)) : decode cX11_all pc = .ok (ins, len) ∧ qok pc ins len = true := by
  refine qckD_of ?_ h
  by_cases h0 : pc < 11
  · have := List.all_eq_true.mp qd_X11_all_0 (pc - 0) (List.mem_range.mpr (by omega))
    rwa [show 0 + (pc - 0) = pc by omega] at this
  exfalso; unfold qc_X11_all at h; rw [qblt_f h0] at h; cases h
theorem qd_X11_cam_0 : (List.range 13).all (fun j => qckD (qc_X11_cam (0 + j)) cX11_cam (0 + j)) = true := by decide +kernel
theorem qd_X11_cam {pc : Nat} {ins : Instr} {len : Nat} (h : qc_X11_cam pc = some (ins, len)) : decode cX11_cam pc = .ok (ins, len) ∧ qok pc ins len = true := by
  refine qckD_of ?_ h
  by_cases h0 : pc < 13
  · have := List.all_eq_true.mp qd_X11_cam_0 (pc - 0) (List.mem_range.mpr (by omega))
    rwa [show 0 + (pc - 0) = pc by omega] at this
  exfalso; unfold qc_X11_cam at h; rw [qblt_f h0] at h; cases h
theorem qd_X11_game_0 : (List.range 10).all (fun j => qckD (qc_X11_game (0 + j)) cX11_game (0 + j)) = true := by decide +kernel
theorem qd_X11_game {pc : Nat} {ins : Instr} {len : Nat} (h : qc_X11_game pc = some (ins, len)) : decode cX11_game pc = .ok (ins, len) ∧ qok pc ins len = true := by
  refine qckD_of ?_ h
  by_cases h0 : pc < 10
  · have := List.all_eq_true.mp qd_X11_game_0 (pc - 0) (List.mem_range.mpr (by omega))
    rwa [show 0 + (pc - 0) = pc by omega] at this
  exfalso; unfold qc_X11_game at h; rw [qblt_f h0] at h; cases h
theorem qd_X11_alone_0 : (List.range 9).all (fun j => qckD (qc_X11_alone (0 + j)) cX11_alone (0 + j)) = true := by decide +kernel
theorem qd_X11_alone {pc : Nat} {ins : Instr} {len : Nat} (h : qc_X11_alone pc = some (ins, len)) : decode cX11_alone pc = .ok (ins, len) ∧ qok pc ins len = true := by
  refine qckD_of ?_ h
  by_cases h0 : pc < 9
  · have := List.all_eq_true.mp qd_X11_alone_0 (pc - 0) (List.mem_range.mpr (by omega))
    rwa [show 0 + (pc - 0) = pc by omega] at this
  exfalso; unfold qc_X11_alone at h; rw [qblt_f h0] at h; cases h
theorem qd_X11_writer_0 : (List.range 10).all (fun j => qckD (qc_X11_writer (0 + j)) cX11_writer (0 + j)) = true := by decide +kernel
theorem qd_X11_writer {pc : Nat} {ins : Instr} {len : Nat} (h : qc_X11_writer pc = some (ins, len)) : decode cX11_writer pc = .ok (ins, len) ∧ qok pc ins len = true := by
  refine qckD_of ?_ h
  by_cases h0 : pc < 10
  · have := List.all_eq_true.mp qd_X11_writer_0 (pc - 0) (List.mem_range.mpr (by omega))
    rwa [show 0 + (pc - 0) = pc by omega] at this
  exfalso; unfold qc_X11_writer at h; rw [qblt_f h0] at h; cases h
theorem qd_X11_truth_0 : (List.range 9).all (fun j => qckD (qc_X11_truth (0 + j)) cX11_truth (0 + j)) = true := by decide +kernel
theorem qd_X11_truth {pc : Nat} {ins : Instr} {len : Nat} (h : qc_X11_truth pc = some (ins, len)) : decode cX11_truth pc = .ok (ins, len) ∧ qok pc ins len = true := by
  refine qckD_of ?_ h
  by_cases h0 : pc < 9
  · have := List.all_eq_true.mp qd_X11_truth_0 (pc - 0) (List.mem_range.mpr (by omega))
    rwa [show 0 + (pc - 0) = pc by omega] at this
  exfalso; unfold qc_X11_truth at h; rw [qblt_f h0] at h; cases h
theorem qd_X11_first_0 : (List.range 9).all (fun j => qckD (qc_X11_first (0 + j)) cX11_first (0 + j)) = true := by decide +kernel
theorem qd_X11_first {pc : Nat} {ins : Instr} {len : Nat} (h : qc_X11_first pc = some (ins, len)) : decode cX11_first pc = .ok (ins, len) ∧ qok pc ins len = true := by
  refine qckD_of ?_ h
  by_cases h0 : pc < 9
  · have := List.all_eq_true.mp qd_X11_first_0 (pc - 0) (List.mem_range.mpr (by omega))
    rwa [show 0 + (pc - 0) = pc by omega] at this
  exfalso; unfold qc_X11_first at h; rw [qblt_f h0] at h; cases h
theorem qd_X11_story_0 : (List.range 10).all (fun j => qckD (qc_X11_story (0 + j)) cX11_story (0 + j)) = true := by decide +kernel
theorem qd_X11_story {pc : Nat} {ins : Instr} {len : Nat} (h : qc_X11_story pc = some (ins, len)) : decode cX11_story pc = .ok (ins, len) ∧ qok pc ins len = true := by
  refine qckD_of ?_ h
  by_cases h0 : pc < 10
  · have := List.all_eq_true.mp qd_X11_story_0 (pc - 0) (List.mem_range.mpr (by omega))
    rwa [show 0 + (pc - 0) = pc by omega] at this
  exfalso; unfold qc_X11_story at h; rw [qblt_f h0] at h; cases h
theorem qd_X11_isChest_0 : (List.range 15).all (fun j => qckD (qc_X11_isChest (0 + j)) cX11_isChest (0 + j)) = true := by decide +kernel
theorem qd_X11_isChest {pc : Nat} {ins : Instr} {len : Nat} (h : qc_X11_isChest pc = some (ins, len)) : decode cX11_isChest pc = .ok (ins, len) ∧ qok pc ins len = true := by
  refine qckD_of ?_ h
  by_cases h0 : pc < 15
  · have := List.all_eq_true.mp qd_X11_isChest_0 (pc - 0) (List.mem_range.mpr (by omega))
    rwa [show 0 + (pc - 0) = pc by omega] at this
  exfalso; unfold qc_X11_isChest at h; rw [qblt_f h0] at h; cases h
theorem qd_X11_isShow_0 : (List.range 15).all (fun j => qckD (qc_X11_isShow (0 + j)) cX11_isShow (0 + j)) = true := by decide +kernel
theorem qd_X11_isShow {pc : Nat} {ins : Instr} {len : Nat} (h : qc_X11_isShow pc = some (ins, len)) : decode cX11_isShow pc = .ok (ins, len) ∧ qok pc ins len = true := by
  refine qckD_of ?_ h
  by_cases h0 : pc < 15
  · have := List.all_eq_true.mp qd_X11_isShow_0 (pc - 0) (List.mem_range.mpr (by omega))
    rwa [show 0 + (pc - 0) = pc by omega] at this
  exfalso; unfold qc_X11_isShow at h; rw [qblt_f h0] at h; cases h
theorem qd_X11_isSize_0 : (List.range 16).all (fun j => qckD (qc_X11_isSize (0 + j)) cX11_isSize (0 + j)) = true := by decide +kernel
theorem qd_X11_isSize {pc : Nat} {ins : Instr} {len : Nat} (h : qc_X11_isSize pc = some (ins, len)) : decode cX11_isSize pc = .ok (ins, len) ∧ qok pc ins len = true := by
  refine qckD_of ?_ h
  by_cases h0 : pc < 16
  · have := List.all_eq_true.mp qd_X11_isSize_0 (pc - 0) (List.mem_range.mpr (by omega))
    rwa [show 0 + (pc - 0) = pc by omega] at this
  exfalso; unfold qc_X11_isSize at h; rw [qblt_f h0] at h; cases h
theorem qd_X11_isDoorSet_0 : (List.range 17).all (fun j => qckD (qc_X11_isDoorSet (0 + j)) cX11_isDoorSet (0 + j)) = true := by decide +kernel
theorem qd_X11_isDoorSet {pc : Nat} {ins : Instr} {len : Nat} (h : qc_X11_isDoorSet pc = some (ins, len)) : decode cX11_isDoorSet pc = .ok (ins, len) ∧ qok pc ins len = true := by
  refine qckD_of ?_ h
  by_cases h0 : pc < 17
  · have := List.all_eq_true.mp qd_X11_isDoorSet_0 (pc - 0) (List.mem_range.mpr (by omega))
    rwa [show 0 + (pc - 0) = pc by omega] at this
  exfalso; unfold qc_X11_isDoorSet at h; rw [qblt_f h0] at h; cases h
theorem qd_X11_learnShow_0 : (List.range 48).all (fun j => qckD (qc_X11_learnShow (0 + j)) cX11_learnShow (0 + j)) = true := by decide +kernel
theorem qd_X11_learnShow {pc : Nat} {ins : Instr} {len : Nat} (h : qc_X11_learnShow pc = some (ins, len)) : decode cX11_learnShow pc = .ok (ins, len) ∧ qok pc ins len = true := by
  refine qckD_of ?_ h
  by_cases h0 : pc < 48
  · have := List.all_eq_true.mp qd_X11_learnShow_0 (pc - 0) (List.mem_range.mpr (by omega))
    rwa [show 0 + (pc - 0) = pc by omega] at this
  exfalso; unfold qc_X11_learnShow at h; rw [qblt_f h0] at h; cases h
theorem qd_X11_isManTrue_0 : (List.range 53).all (fun j => qckD (qc_X11_isManTrue (0 + j)) cX11_isManTrue (0 + j)) = true := by decide +kernel
theorem qd_X11_isManTrue {pc : Nat} {ins : Instr} {len : Nat} (h : qc_X11_isManTrue pc = some (ins, len)) : decode cX11_isManTrue pc = .ok (ins, len) ∧ qok pc ins len = true := by
  refine qckD_of ?_ h
  by_cases h0 : pc < 53
  · have := List.all_eq_true.mp qd_X11_isManTrue_0 (pc - 0) (List.mem_range.mpr (by omega))
    rwa [show 0 + (pc - 0) = pc by omega] at this
  exfalso; unfold qc_X11_isManTrue at h; rw [qblt_f h0] at h; cases h
theorem qd_X11_learnFacts_0 : (List.range 35).all (fun j => qckD (qc_X11_learnFacts (0 + j)) cX11_learnFacts (0 + j)) = true := by decide +kernel
theorem qd_X11_learnFacts {pc : Nat} {ins : Instr} {len : Nat} (h : qc_X11_learnFacts pc = some (ins, len)) : decode cX11_learnFacts pc = .ok (ins, len) ∧ qok pc ins len = true := by
  refine qckD_of ?_ h
  by_cases h0 : pc < 35
  · have := List.all_eq_true.mp qd_X11_learnFacts_0 (pc - 0) (List.mem_range.mpr (by omega))
    rwa [show 0 + (pc - 0) = pc by omega] at this
  exfalso; unfold qc_X11_learnFacts at h; rw [qblt_f h0] at h; cases h
theorem qd_X12_init_0 : (List.range 60).all (fun j => qckD (qc_X12_init (0 + j)) cX12_init (0 + j)) = true := by decide +kernel
theorem qd_X12_init_1 : (List.range 60).all (fun j => qckD (qc_X12_init (60 + j)) cX12_init (60 + j)) = true := by decide +kernel
theorem qd_X12_init_2 : (List.range 60).all (fun j => qckD (qc_X12_init (120 + j)) cX12_init (120 + j)) = true := by decide +kernel
theorem qd_X12_init_3 : (List.range 60).all (fun j => qckD (qc_X12_init (180 + j)) cX12_init (180 + j)) = true := by decide +kernel
theorem qd_X12_init_4 : (List.range 60).all (fun j => qckD (qc_X12_init (240 + j)) cX12_init (240 + j)) = true := by decide +kernel
theorem qd_X12_init_5 : (List.range 60).all (fun j => qckD (qc_X12_init (300 + j)) cX12_init (300 + j)) = true := by decide +kernel
theorem qd_X12_init_6 : (List.range 41).all (fun j => qckD (qc_X12_init (360 + j)) cX12_init (360 + j)) = true := by decide +kernel
theorem qd_X12_init {pc : Nat} {ins : Instr} {len : Nat} (h : qc_X12_init pc = some (ins, len)) : decode cX12_init pc = .ok (ins, len) ∧ qok pc ins len = true := by
  refine qckD_of ?_ h
  by_cases h0 : pc < 60
  · have := List.all_eq_true.mp qd_X12_init_0 (pc - 0) (List.mem_range.mpr (by omega))
    rwa [show 0 + (pc - 0) = pc by omega] at this
  by_cases h1 : pc < 120
  · have := List.all_eq_true.mp qd_X12_init_1 (pc - 60) (List.mem_range.mpr (by omega))
    rwa [show 60 + (pc - 60) = pc by omega] at this
  by_cases h2 : pc < 180
  · have := List.all_eq_true.mp qd_X12_init_2 (pc - 120) (List.mem_range.mpr (by omega))
    rwa [show 120 + (pc - 120) = pc by omega] at this
  by_cases h3 : pc < 240
  · have := List.all_eq_true.mp qd_X12_init_3 (pc - 180) (List.mem_range.mpr (by omega))
    rwa [show 180 + (pc - 180) = pc by omega] at this
  by_cases h4 : pc < 300
  · have := List.all_eq_true.mp qd_X12_init_4 (pc - 240) (List.mem_range.mpr (by omega))
    rwa [show 240 + (pc - 240) = pc by omega] at this
  by_cases h5 : pc < 360
  · have := List.all_eq_true.mp qd_X12_init_5 (pc - 300) (List.mem_range.mpr (by omega))
    rwa [show 300 + (pc - 300) = pc by omega] at this
  by_cases h6 : pc < 401
  · have := List.all_eq_true.mp qd_X12_init_6 (pc - 360) (List.mem_range.mpr (by omega))
    rwa [show 360 + (pc - 360) = pc by omega] at this
  exfalso; unfold qc_X12_init at h; rw [qblt_f h6] at h; cases h
theorem qd_X12_isIn_0 : (List.range 16).all (fun j => qckD (qc_X12_isIn (0 + j)) cX12_isIn (0 + j)) = true := by decide +kernel
theorem qd_X12_isIn {pc : Nat} {ins : Instr} {len : Nat} (h : qc_X12_isIn pc = some (ins, len)) : decode cX12_isIn pc = .ok (ins, len) ∧ qok pc ins len = true := by
  refine qckD_of ?_ h
  by_cases h0 : pc < 16
  · have := List.all_eq_true.mp qd_X12_isIn_0 (pc - 0) (List.mem_range.mpr (by omega))
    rwa [show 0 + (pc - 0) = pc by omega] at this
  exfalso; unfold qc_X12_isIn at h; rw [qblt_f h0] at h; cases h
theorem qd_X12_isChest_0 : (List.range 7).all (fun j => qckD (qc_X12_isChest (0 + j)) cX12_isChest (0 + j)) = true := by decide +kernel
theorem qd_X12_isChest {pc : Nat} {ins : Instr} {len : Nat} (h : qc_X12_isChest pc = some (ins, len)) : decode cX12_isChest pc = .ok (ins, len) ∧ qok pc ins len = true := by
  refine qckD_of ?_ h
  by_cases h0 : pc < 7
  · have := List.all_eq_true.mp qd_X12_isChest_0 (pc - 0) (List.mem_range.mpr (by omega))
    rwa [show 0 + (pc - 0) = pc by omega] at this
  exfalso; unfold qc_X12_isChest at h; rw [qblt_f h0] at h; cases h
theorem qd_X12_isSpace_0 : (List.range 8).all (fun j => qckD (qc_X12_isSpace (0 + j)) cX12_isSpace (0 + j)) = true := by decide +kernel
theorem qd_X12_isSpace {pc : Nat} {ins : Instr} {len : Nat} (h : qc_X12_isSpace pc = some (ins, len)) : decode cX12_isSpace pc = .ok (ins, len) ∧ qok pc ins len = true := by
  refine qckD_of ?_ h
  by_cases h0 : pc < 8
  · have := List.all_eq_true.mp qd_X12_isSpace_0 (pc - 0) (List.mem_range.mpr (by omega))
    rwa [show 0 + (pc - 0) = pc by omega] at this
  exfalso; unfold qc_X12_isSpace at h; rw [qblt_f h0] at h; cases h
theorem qd_X12_isShow_0 : (List.range 7).all (fun j => qckD (qc_X12_isShow (0 + j)) cX12_isShow (0 + j)) = true := by decide +kernel
theorem qd_X12_isShow {pc : Nat} {ins : Instr} {len : Nat} (h : qc_X12_isShow pc = some (ins, len)) : decode cX12_isShow pc = .ok (ins, len) ∧ qok pc ins len = true := by
  refine qckD_of ?_ h
  by_cases h0 : pc < 7
  · have := List.all_eq_true.mp qd_X12_isShow_0 (pc - 0) (List.mem_range.mpr (by omega))
    rwa [show 0 + (pc - 0) = pc by omega] at this
  exfalso; unfold qc_X12_isShow at h; rw [qblt_f h0] at h; cases h
theorem qd_X12_isSize_0 : (List.range 7).all (fun j => qckD (qc_X12_isSize (0 + j)) cX12_isSize (0 + j)) = true := by decide +kernel
theorem qd_X12_isSize {pc : Nat} {ins : Instr} {len : Nat} (h : qc_X12_isSize pc = some (ins, len)) : decode cX12_isSize pc = .ok (ins, len) ∧ qok pc ins len = true := by
  refine qckD_of ?_ h
  by_cases h0 : pc < 7
  · have := List.all_eq_true.mp qd_X12_isSize_0 (pc - 0) (List.mem_range.mpr (by omega))
    rwa [show 0 + (pc - 0) = pc by omega] at this
  exfalso; unfold qc_X12_isSize at h; rw [qblt_f h0] at h; cases h
theorem qd_X12_bits_0 : (List.range 26).all (fun j => qckD (qc_X12_bits (0 + j)) cX12_bits (0 + j)) = true := by decide +kernel
theorem qd_X12_bits {pc : Nat} {ins : Instr} {len : Nat} (h : qc_X12_bits pc = some (ins, len)) : decode cX12_bits pc = .ok (ins, len) ∧ qok pc ins len = true := by
  refine qckD_of ?_ h
  by_cases h0 : pc < 26
  · have := List.all_eq_true.mp qd_X12_bits_0 (pc - 0) (List.mem_range.mpr (by omega))
    rwa [show 0 + (pc - 0) = pc by omega] at this
  exfalso; unfold qc_X12_bits at h; rw [qblt_f h0] at h; cases h
theorem qd_X12_apart_0 : (List.range 15).all (fun j => qckD (qc_X12_apart (0 + j)) cX12_apart (0 + j)) = true := by decide +kernel
theorem qd_X12_apart {pc : Nat} {ins : Instr} {len : Nat} (h : qc_X12_apart pc = some (ins, len)) : decode cX12_apart pc = .ok (ins, len) ∧ qok pc ins len = true := by
  refine qckD_of ?_ h
  by_cases h0 : pc < 15
  · have := List.all_eq_true.mp qd_X12_apart_0 (pc - 0) (List.mem_range.mpr (by omega))
    rwa [show 0 + (pc - 0) = pc by omega] at this
  exfalso; unfold qc_X12_apart at h; rw [qblt_f h0] at h; cases h
theorem qd_X12_areNeighbours_0 : (List.range 45).all (fun j => qckD (qc_X12_areNeighbours (0 + j)) cX12_areNeighbours (0 + j)) = true := by decide +kernel
theorem qd_X12_areNeighbours {pc : Nat} {ins : Instr} {len : Nat} (h : qc_X12_areNeighbours pc = some (ins, len)) : decode cX12_areNeighbours pc = .ok (ins, len) ∧ qok pc ins len = true := by
  refine qckD_of ?_ h
  by_cases h0 : pc < 45
  · have := List.all_eq_true.mp qd_X12_areNeighbours_0 (pc - 0) (List.mem_range.mpr (by omega))
    rwa [show 0 + (pc - 0) = pc by omega] at this
  exfalso; unfold qc_X12_areNeighbours at h; rw [qblt_f h0] at h; cases h
theorem qd_X12_works_0 : (List.range 58).all (fun j => qckD (qc_X12_works (0 + j)) cX12_works (0 + j)) = true := by decide +kernel
theorem qd_X12_works {pc : Nat} {ins : Instr} {len : Nat} (h : qc_X12_works pc = some (ins, len)) : decode cX12_works pc = .ok (ins, len) ∧ qok pc ins len = true := by
  refine qckD_of ?_ h
  by_cases h0 : pc < 58
  · have := List.all_eq_true.mp qd_X12_works_0 (pc - 0) (List.mem_range.mpr (by omega))
    rwa [show 0 + (pc - 0) = pc by omega] at this
  exfalso; unfold qc_X12_works at h; rw [qblt_f h0] at h; cases h
theorem qd_X12_wall_0 : (List.range 60).all (fun j => qckD (qc_X12_wall (0 + j)) cX12_wall (0 + j)) = true := by decide +kernel
theorem qd_X12_wall_1 : (List.range 60).all (fun j => qckD (qc_X12_wall (60 + j)) cX12_wall (60 + j)) = true := by decide +kernel
theorem qd_X12_wall_2 : (List.range 12).all (fun j => qckD (qc_X12_wall (120 + j)) cX12_wall (120 + j)) = true := by decide +kernel
theorem qd_X12_wall {pc : Nat} {ins : Instr} {len : Nat} (h : qc_X12_wall pc = some (ins, len)) : decode cX12_wall pc = .ok (ins, len) ∧ qok pc ins len = true := by
  refine qckD_of ?_ h
  by_cases h0 : pc < 60
  · have := List.all_eq_true.mp qd_X12_wall_0 (pc - 0) (List.mem_range.mpr (by omega))
    rwa [show 0 + (pc - 0) = pc by omega] at this
  by_cases h1 : pc < 120
  · have := List.all_eq_true.mp qd_X12_wall_1 (pc - 60) (List.mem_range.mpr (by omega))
    rwa [show 60 + (pc - 60) = pc by omega] at this
  by_cases h2 : pc < 132
  · have := List.all_eq_true.mp qd_X12_wall_2 (pc - 120) (List.mem_range.mpr (by omega))
    rwa [show 120 + (pc - 120) = pc by omega] at this
  exfalso; unfold qc_X12_wall at h; rw [qblt_f h2] at h; cases h
theorem qd_X12_isSet_0 : (List.range 8).all (fun j => qckD (qc_X12_isSet (0 + j)) cX12_isSet (0 + j)) = true := by decide +kernel
theorem qd_X12_isSet {pc : Nat} {ins : Instr} {len : Nat} (h : qc_X12_isSet pc = some (ins, len)) : decode cX12_isSet pc = .ok (ins, len) ∧ qok pc ins len = true := by
  refine qckD_of ?_ h
  by_cases h0 : pc < 8
  · have := List.all_eq_true.mp qd_X12_isSet_0 (pc - 0) (List.mem_range.mpr (by omega))
    rwa [show 0 + (pc - 0) = pc by omega] at this
  exfalso; unfold qc_X12_isSet at h; rw [qblt_f h0] at h; cases h
theorem qd_X12_door_0 : (List.range 94).all (fun j => qckD (qc_X12_door (0 + j)) cX12_door (0 + j)) = true := by decide +kernel
theorem qd_X12_door {pc : Nat} {ins : Instr} {len : Nat} (h : qc_X12_door pc = some (ins, len)) : decode cX12_door pc = .ok (ins, len) ∧ qok pc ins len = true := by
  refine qckD_of ?_ h
  by_cases h0 : pc < 94
  · have := List.all_eq_true.mp qd_X12_door_0 (pc - 0) (List.mem_range.mpr (by omega))
    rwa [show 0 + (pc - 0) = pc by omega] at this
  exfalso; unfold qc_X12_door at h; rw [qblt_f h0] at h; cases h
theorem qd_X12_isPassage_0 : (List.range 32).all (fun j => qckD (qc_X12_isPassage (0 + j)) cX12_isPassage (0 + j)) = true := by decide +kernel
theorem qd_X12_isPassage {pc : Nat} {ins : Instr} {len : Nat} (h : qc_X12_isPassage pc = some (ins, len)) : decode cX12_isPassage pc = .ok (ins, len) ∧ qok pc ins len = true := by
  refine qckD_of ?_ h
  by_cases h0 : pc < 32
  · have := List.all_eq_true.mp qd_X12_isPassage_0 (pc - 0) (List.mem_range.mpr (by omega))
    rwa [show 0 + (pc - 0) = pc by omega] at this
  exfalso; unfold qc_X12_isPassage at h; rw [qblt_f h0] at h; cases h
theorem qd_X12_hangs_0 : (List.range 60).all (fun j => qckD (qc_X12_hangs (0 + j)) cX12_hangs (0 + j)) = true := by decide +kernel
theorem qd_X12_hangs_1 : (List.range 60).all (fun j => qckD (qc_X12_hangs (60 + j)) cX12_hangs (60 + j)) = true := by decide +kernel
theorem qd_X12_hangs_2 : (List.range 14).all (fun j => qckD (qc_X12_hangs (120 + j)) cX12_hangs (120 + j)) = true := by decide +kernel
theorem qd_X12_hangs {pc : Nat} {ins : Instr} {len : Nat} (h : qc_X12_hangs pc = some (ins, len)) : decode cX12_hangs pc = .ok (ins, len) ∧ qok pc ins len = true := by
  refine qckD_of ?_ h
  by_cases h0 : pc < 60
  · have := List.all_eq_true.mp qd_X12_hangs_0 (pc - 0) (List.mem_range.mpr (by omega))
    rwa [show 0 + (pc - 0) = pc by omega] at this
  by_cases h1 : pc < 120
  · have := List.all_eq_true.mp qd_X12_hangs_1 (pc - 60) (List.mem_range.mpr (by omega))
    rwa [show 60 + (pc - 60) = pc by omega] at this
  by_cases h2 : pc < 134
  · have := List.all_eq_true.mp qd_X12_hangs_2 (pc - 120) (List.mem_range.mpr (by omega))
    rwa [show 120 + (pc - 120) = pc by omega] at this
  exfalso; unfold qc_X12_hangs at h; rw [qblt_f h2] at h; cases h
theorem qd_X12_findsPoses_0 : (List.range 60).all (fun j => qckD (qc_X12_findsPoses (0 + j)) cX12_findsPoses (0 + j)) = true := by decide +kernel
theorem qd_X12_findsPoses_1 : (List.range 60).all (fun j => qckD (qc_X12_findsPoses (60 + j)) cX12_findsPoses (60 + j)) = true := by decide +kernel
theorem qd_X12_findsPoses_2 : (List.range 60).all (fun j => qckD (qc_X12_findsPoses (120 + j)) cX12_findsPoses (120 + j)) = true := by decide +kernel
theorem qd_X12_findsPoses_3 : (List.range 9).all (fun j => qckD (qc_X12_findsPoses (180 + j)) cX12_findsPoses (180 + j)) = true := by decide +kernel
theorem qd_X12_findsPoses {pc : Nat} {ins : Instr} {len : Nat} (h : qc_X12_findsPoses pc = some (ins, len)) : decode cX12_findsPoses pc = .ok (ins, len) ∧ qok pc ins len = true := by
  refine qckD_of ?_ h
  by_cases h0 : pc < 60
  · have := List.all_eq_true.mp qd_X12_findsPoses_0 (pc - 0) (List.mem_range.mpr (by omega))
    rwa [show 0 + (pc - 0) = pc by omega] at this
  by_cases h1 : pc < 120
  · have := List.all_eq_true.mp qd_X12_findsPoses_1 (pc - 60) (List.mem_range.mpr (by omega))
    rwa [show 60 + (pc - 60) = pc by omega] at this
  by_cases h2 : pc < 180
  · have := List.all_eq_true.mp qd_X12_findsPoses_2 (pc - 120) (List.mem_range.mpr (by omega))
    rwa [show 120 + (pc - 120) = pc by omega] at this
  by_cases h3 : pc < 189
  · have := List.all_eq_true.mp qd_X12_findsPoses_3 (pc - 180) (List.mem_range.mpr (by omega))
    rwa [show 180 + (pc - 180) = pc by omega] at this
  exfalso; unfold qc_X12_findsPoses at h; rw [qblt_f h3] at h; cases h
theorem qd_X12_poses_0 : (List.range 27).all (fun j => qckD (qc_X12_poses (0 + j)) cX12_poses (0 + j)) = true := by decide +kernel
theorem qd_X12_poses {pc : Nat} {ins : Instr} {len : Nat} (h : qc_X12_poses pc = some (ins, len)) : decode cX12_poses pc = .ok (ins, len) ∧ qok pc ins len = true := by
  refine qckD_of ?_ h
  by_cases h0 : pc < 27
  · have := List.all_eq_true.mp qd_X12_poses_0 (pc - 0) (List.mem_range.mpr (by omega))
    rwa [show 0 + (pc - 0) = pc by omega] at this
  exfalso; unfold qc_X12_poses at h; rw [qblt_f h0] at h; cases h
theorem qd_X12_feed_0 : (List.range 120).all (fun j => qckD (qc_X12_feed (0 + j)) cX12_feed (0 + j)) = true := by decide +kernel
theorem qd_X12_feed {pc : Nat} {ins : Instr} {len : Nat} (h : qc_X12_feed pc = some (ins, len)) : decode cX12_feed pc = .ok (ins, len) ∧ qok pc ins len = true := by
  refine qckD_of ?_ h
  by_cases h0 : pc < 120
  · have := List.all_eq_true.mp qd_X12_feed_0 (pc - 0) (List.mem_range.mpr (by omega))
    rwa [show 0 + (pc - 0) = pc by omega] at this
  exfalso; unfold qc_X12_feed at h; rw [qblt_f h0] at h; cases h
theorem qd_X12_end_0 : (List.range 21).all (fun j => qckD (qc_X12_end (0 + j)) cX12_end (0 + j)) = true := by decide +kernel
theorem qd_X12_end {pc : Nat} {ins : Instr} {len : Nat} (h : qc_X12_end pc = some (ins, len)) : decode cX12_end pc = .ok (ins, len) ∧ qok pc ins len = true := by
  refine qckD_of ?_ h
  by_cases h0 : pc < 21
  · have := List.all_eq_true.mp qd_X12_end_0 (pc - 0) (List.mem_range.mpr (by omega))
    rwa [show 0 + (pc - 0) = pc by omega] at this
  exfalso; unfold qc_X12_end at h; rw [qblt_f h0] at h; cases h
theorem qd_X12_see_0 : (List.range 19).all (fun j => qckD (qc_X12_see (0 + j)) cX12_see (0 + j)) = true := by decide +kernel
theorem qd_X12_see {pc : Nat} {ins : Instr} {len : Nat} (h : qc_X12_see pc = some (ins, len)) : decode cX12_see pc = .ok (ins, len) ∧ qok pc ins len = true := by
  refine qckD_of ?_ h
  by_cases h0 : pc < 19
  · have := List.all_eq_true.mp qd_X12_see_0 (pc - 0) (List.mem_range.mpr (by omega))
    rwa [show 0 + (pc - 0) = pc by omega] at this
  exfalso; unfold qc_X12_see at h; rw [qblt_f h0] at h; cases h
theorem qd_X12_isLetter_0 : (List.range 28).all (fun j => qckD (qc_X12_isLetter (0 + j)) cX12_isLetter (0 + j)) = true := by decide +kernel
theorem qd_X12_isLetter {pc : Nat} {ins : Instr} {len : Nat} (h : qc_X12_isLetter pc = some (ins, len)) : decode cX12_isLetter pc = .ok (ins, len) ∧ qok pc ins len = true := by
  refine qckD_of ?_ h
  by_cases h0 : pc < 28
  · have := List.all_eq_true.mp qd_X12_isLetter_0 (pc - 0) (List.mem_range.mpr (by omega))
    rwa [show 0 + (pc - 0) = pc by omega] at this
  exfalso; unfold qc_X12_isLetter at h; rw [qblt_f h0] at h; cases h
theorem qd_X12_isDigit_0 : (List.range 9).all (fun j => qckD (qc_X12_isDigit (0 + j)) cX12_isDigit (0 + j)) = true := by decide +kernel
theorem qd_X12_isDigit {pc : Nat} {ins : Instr} {len : Nat} (h : qc_X12_isDigit pc = some (ins, len)) : decode cX12_isDigit pc = .ok (ins, len) ∧ qok pc ins len = true := by
  refine qckD_of ?_ h
  by_cases h0 : pc < 9
  · have := List.all_eq_true.mp qd_X12_isDigit_0 (pc - 0) (List.mem_range.mpr (by omega))
    rwa [show 0 + (pc - 0) = pc by omega] at this
  exfalso; unfold qc_X12_isDigit at h; rw [qblt_f h0] at h; cases h
theorem qd_X12_is_0 : (List.range 69).all (fun j => qckD (qc_X12_is (0 + j)) cX12_is (0 + j)) = true := by decide +kernel
theorem qd_X12_is {pc : Nat} {ins : Instr} {len : Nat} (h : qc_X12_is pc = some (ins, len)) : decode cX12_is pc = .ok (ins, len) ∧ qok pc ins len = true := by
  refine qckD_of ?_ h
  by_cases h0 : pc < 69
  · have := List.all_eq_true.mp qd_X12_is_0 (pc - 0) (List.mem_range.mpr (by omega))
    rwa [show 0 + (pc - 0) = pc by omega] at this
  exfalso; unfold qc_X12_is at h; rw [qblt_f h0] at h; cases h
theorem qd_X12_showWord_0 : (List.range 76).all (fun j => qckD (qc_X12_showWord (0 + j)) cX12_showWord (0 + j)) = true := by decide +kernel
theorem qd_X12_showWord {pc : Nat} {ins : Instr} {len : Nat} (h : qc_X12_showWord pc = some (ins, len)) : decode cX12_showWord pc = .ok (ins, len) ∧ qok pc ins len = true := by
  refine qckD_of ?_ h
  by_cases h0 : pc < 76
  · have := List.all_eq_true.mp qd_X12_showWord_0 (pc - 0) (List.mem_range.mpr (by omega))
    rwa [show 0 + (pc - 0) = pc by omega] at this
  exfalso; unfold qc_X12_showWord at h; rw [qblt_f h0] at h; cases h
theorem qd_X12_word_0 : (List.range 60).all (fun j => qckD (qc_X12_word (0 + j)) cX12_word (0 + j)) = true := by decide +kernel
theorem qd_X12_word_1 : (List.range 60).all (fun j => qckD (qc_X12_word (60 + j)) cX12_word (60 + j)) = true := by decide +kernel
theorem qd_X12_word_2 : (List.range 60).all (fun j => qckD (qc_X12_word (120 + j)) cX12_word (120 + j)) = true := by decide +kernel
theorem qd_X12_word {pc : Nat} {ins : Instr} {len : Nat} (h : qc_X12_word pc = some (ins, len)) : decode cX12_word pc = .ok (ins, len) ∧ qok pc ins len = true := by
  refine qckD_of ?_ h
  by_cases h0 : pc < 60
  · have := List.all_eq_true.mp qd_X12_word_0 (pc - 0) (List.mem_range.mpr (by omega))
    rwa [show 0 + (pc - 0) = pc by omega] at this
  by_cases h1 : pc < 120
  · have := List.all_eq_true.mp qd_X12_word_1 (pc - 60) (List.mem_range.mpr (by omega))
    rwa [show 60 + (pc - 60) = pc by omega] at this
  by_cases h2 : pc < 180
  · have := List.all_eq_true.mp qd_X12_word_2 (pc - 120) (List.mem_range.mpr (by omega))
    rwa [show 120 + (pc - 120) = pc by omega] at this
  exfalso; unfold qc_X12_word at h; rw [qblt_f h2] at h; cases h
theorem qd_X12_isSign_0 : (List.range 73).all (fun j => qckD (qc_X12_isSign (0 + j)) cX12_isSign (0 + j)) = true := by decide +kernel
theorem qd_X12_isSign {pc : Nat} {ins : Instr} {len : Nat} (h : qc_X12_isSign pc = some (ins, len)) : decode cX12_isSign pc = .ok (ins, len) ∧ qok pc ins len = true := by
  refine qckD_of ?_ h
  by_cases h0 : pc < 73
  · have := List.all_eq_true.mp qd_X12_isSign_0 (pc - 0) (List.mem_range.mpr (by omega))
    rwa [show 0 + (pc - 0) = pc by omega] at this
  exfalso; unfold qc_X12_isSign at h; rw [qblt_f h0] at h; cases h
theorem qd_X12_next0_0 : (List.range 60).all (fun j => qckD (qc_X12_next0 (0 + j)) cX12_next0 (0 + j)) = true := by decide +kernel
theorem qd_X12_next0_1 : (List.range 60).all (fun j => qckD (qc_X12_next0 (60 + j)) cX12_next0 (60 + j)) = true := by decide +kernel
theorem qd_X12_next0_2 : (List.range 60).all (fun j => qckD (qc_X12_next0 (120 + j)) cX12_next0 (120 + j)) = true := by decide +kernel
theorem qd_X12_next0_3 : (List.range 60).all (fun j => qckD (qc_X12_next0 (180 + j)) cX12_next0 (180 + j)) = true := by decide +kernel
theorem qd_X12_next0_4 : (List.range 5).all (fun j => qckD (qc_X12_next0 (240 + j)) cX12_next0 (240 + j)) = true := by decide +kernel
theorem qd_X12_next0 {pc : Nat} {ins : Instr} {len : Nat} (h : qc_X12_next0 pc = some (ins, len)) : decode cX12_next0 pc = .ok (ins, len) ∧ qok pc ins len = true := by
  refine qckD_of ?_ h
  by_cases h0 : pc < 60
  · have := List.all_eq_true.mp qd_X12_next0_0 (pc - 0) (List.mem_range.mpr (by omega))
    rwa [show 0 + (pc - 0) = pc by omega] at this
  by_cases h1 : pc < 120
  · have := List.all_eq_true.mp qd_X12_next0_1 (pc - 60) (List.mem_range.mpr (by omega))
    rwa [show 60 + (pc - 60) = pc by omega] at this
  by_cases h2 : pc < 180
  · have := List.all_eq_true.mp qd_X12_next0_2 (pc - 120) (List.mem_range.mpr (by omega))
    rwa [show 120 + (pc - 120) = pc by omega] at this
  by_cases h3 : pc < 240
  · have := List.all_eq_true.mp qd_X12_next0_3 (pc - 180) (List.mem_range.mpr (by omega))
    rwa [show 180 + (pc - 180) = pc by omega] at this
  by_cases h4 : pc < 245
  · have := List.all_eq_true.mp qd_X12_next0_4 (pc - 240) (List.mem_range.mpr (by omega))
    rwa [show 240 + (pc - 240) = pc by omega] at this
  exfalso; unfold qc_X12_next0 at h; rw [qblt_f h4] at h; cases h
theorem qd_X12_bad_0 : (List.range 15).all (fun j => qckD (qc_X12_bad (0 + j)) cX12_bad (0 + j)) = true := by decide +kernel
theorem qd_X12_bad {pc : Nat} {ins : Instr} {len : Nat} (h : qc_X12_bad pc = some (ins, len)) : decode cX12_bad pc = .ok (ins, len) ∧ qok pc ins len = true := by
  refine qckD_of ?_ h
  by_cases h0 : pc < 15
  · have := List.all_eq_true.mp qd_X12_bad_0 (pc - 0) (List.mem_range.mpr (by omega))
    rwa [show 0 + (pc - 0) = pc by omega] at this
  exfalso; unfold qc_X12_bad at h; rw [qblt_f h0] at h; cases h
theorem qd_X12_need_0 : (List.range 20).all (fun j => qckD (qc_X12_need (0 + j)) cX12_need (0 + j)) = true := by decide +kernel
theorem qd_X12_need {pc : Nat} {ins : Instr} {len : Nat} (h : qc_X12_need pc = some (ins, len)) : decode cX12_need pc = .ok (ins, len) ∧ qok pc ins len = true := by
  refine qckD_of ?_ h
  by_cases h0 : pc < 20
  · have := List.all_eq_true.mp qd_X12_need_0 (pc - 0) (List.mem_range.mpr (by omega))
    rwa [show 0 + (pc - 0) = pc by omega] at this
  exfalso; unfold qc_X12_need at h; rw [qblt_f h0] at h; cases h
theorem qd_X12_number_0 : (List.range 38).all (fun j => qckD (qc_X12_number (0 + j)) cX12_number (0 + j)) = true := by decide +kernel
theorem qd_X12_number {pc : Nat} {ins : Instr} {len : Nat} (h : qc_X12_number pc = some (ins, len)) : decode cX12_number pc = .ok (ins, len) ∧ qok pc ins len = true := by
  refine qckD_of ?_ h
  by_cases h0 : pc < 38
  · have := List.all_eq_true.mp qd_X12_number_0 (pc - 0) (List.mem_range.mpr (by omega))
    rwa [show 0 + (pc - 0) = pc by omega] at this
  exfalso; unfold qc_X12_number at h; rw [qblt_f h0] at h; cases h
theorem qd_X12_lay_0 : (List.range 37).all (fun j => qckD (qc_X12_lay (0 + j)) cX12_lay (0 + j)) = true := by decide +kernel
theorem qd_X12_lay {pc : Nat} {ins : Instr} {len : Nat} (h : qc_X12_lay pc = some (ins, len)) : decode cX12_lay pc = .ok (ins, len) ∧ qok pc ins len = true := by
  refine qckD_of ?_ h
  by_cases h0 : pc < 37
  · have := List.all_eq_true.mp qd_X12_lay_0 (pc - 0) (List.mem_range.mpr (by omega))
    rwa [show 0 + (pc - 0) = pc by omega] at this
  exfalso; unfold qc_X12_lay at h; rw [qblt_f h0] at h; cases h
theorem qd_X12_opens_0 : (List.range 31).all (fun j => qckD (qc_X12_opens (0 + j)) cX12_opens (0 + j)) = true := by decide +kernel
theorem qd_X12_opens {pc : Nat} {ins : Instr} {len : Nat} (h : qc_X12_opens pc = some (ins, len)) : decode cX12_opens pc = .ok (ins, len) ∧ qok pc ins len = true := by
  refine qckD_of ?_ h
  by_cases h0 : pc < 31
  · have := List.all_eq_true.mp qd_X12_opens_0 (pc - 0) (List.mem_range.mpr (by omega))
    rwa [show 0 + (pc - 0) = pc by omega] at this
  exfalso; unfold qc_X12_opens at h; rw [qblt_f h0] at h; cases h
theorem qd_X12_sumUp_0 : (List.range 71).all (fun j => qckD (qc_X12_sumUp (0 + j)) cX12_sumUp (0 + j)) = true := by decide +kernel
theorem qd_X12_sumUp {pc : Nat} {ins : Instr} {len : Nat} (h : qc_X12_sumUp pc = some (ins, len)) : decode cX12_sumUp pc = .ok (ins, len) ∧ qok pc ins len = true := by
  refine qckD_of ?_ h
  by_cases h0 : pc < 71
  · have := List.all_eq_true.mp qd_X12_sumUp_0 (pc - 0) (List.mem_range.mpr (by omega))
    rwa [show 0 + (pc - 0) = pc by omega] at this
  exfalso; unfold qc_X12_sumUp at h; rw [qblt_f h0] at h; cases h
theorem qd_X12_product_0 : (List.range 102).all (fun j => qckD (qc_X12_product (0 + j)) cX12_product (0 + j)) = true := by decide +kernel
theorem qd_X12_product {pc : Nat} {ins : Instr} {len : Nat} (h : qc_X12_product pc = some (ins, len)) : decode cX12_product pc = .ok (ins, len) ∧ qok pc ins len = true := by
  refine qckD_of ?_ h
  by_cases h0 : pc < 102
  · have := List.all_eq_true.mp qd_X12_product_0 (pc - 0) (List.mem_range.mpr (by omega))
    rwa [show 0 + (pc - 0) = pc by omega] at this
  exfalso; unfold qc_X12_product at h; rw [qblt_f h0] at h; cases h
theorem qd_X12_unit_0 : (List.range 80).all (fun j => qckD (qc_X12_unit (0 + j)) cX12_unit (0 + j)) = true := by decide +kernel
theorem qd_X12_unit {pc : Nat} {ins : Instr} {len : Nat} (h : qc_X12_unit pc = some (ins, len)) : decode cX12_unit pc = .ok (ins, len) ∧ qok pc ins len = true := by
  refine qckD_of ?_ h
  by_cases h0 : pc < 80
  · have := List.all_eq_true.mp qd_X12_unit_0 (pc - 0) (List.mem_range.mpr (by omega))
    rwa [show 0 + (pc - 0) = pc by omega] at this
  exfalso; unfold qc_X12_unit at h; rw [qblt_f h0] at h; cases h
theorem qd_X12_any_0 : (List.range 42).all (fun j => qckD (qc_X12_any (0 + j)) cX12_any (0 + j)) = true := by decide +kernel
theorem qd_X12_any {pc : Nat} {ins : Instr} {len : Nat} (h : qc_X12_any pc = some (ins, len)) : decode cX12_any pc = .ok (ins, len) ∧ qok pc ins len = true := by
  refine qckD_of ?_ h
  by_cases h0 : pc < 42
  · have := List.all_eq_true.mp qd_X12_any_0 (pc - 0) (List.mem_range.mpr (by omega))
    rwa [show 0 + (pc - 0) = pc by omega] at this
  exfalso; unfold qc_X12_any at h; rw [qblt_f h0] at h; cases h
theorem qd_X12_every_0 : (List.range 42).all (fun j => qckD (qc_X12_every (0 + j)) cX12_every (0 + j)) = true := by decide +kernel
theorem qd_X12_every {pc : Nat} {ins : Instr} {len : Nat} (h : qc_X12_every pc = some (ins, len)) : decode cX12_every pc = .ok (ins, len) ∧ qok pc ins len = true := by
  refine qckD_of ?_ h
  by_cases h0 : pc < 42
  · have := List.all_eq_true.mp qd_X12_every_0 (pc - 0) (List.mem_range.mpr (by omega))
    rwa [show 0 + (pc - 0) = pc by omega] at this
  exfalso; unfold qc_X12_every at h; rw [qblt_f h0] at h; cases h
theorem qd_X12_one_0 : (List.range 60).all (fun j => qckD (qc_X12_one (0 + j)) cX12_one (0 + j)) = true := by decide +kernel
theorem qd_X12_one_1 : (List.range 60).all (fun j => qckD (qc_X12_one (60 + j)) cX12_one (60 + j)) = true := by decide +kernel
theorem qd_X12_one_2 : (List.range 60).all (fun j => qckD (qc_X12_one (120 + j)) cX12_one (120 + j)) = true := by decide +kernel
theorem qd_X12_one {pc : Nat} {ins : Instr} {len : Nat} (h : qc_X12_one pc = some (ins, len)) : decode cX12_one pc = .ok (ins, len) ∧ qok pc ins len = true := by
  refine qckD_of ?_ h
  by_cases h0 : pc < 60
  · have := List.all_eq_true.mp qd_X12_one_0 (pc - 0) (List.mem_range.mpr (by omega))
    rwa [show 0 + (pc - 0) = pc by omega] at this
  by_cases h1 : pc < 120
  · have := List.all_eq_true.mp qd_X12_one_1 (pc - 60) (List.mem_range.mpr (by omega))
    rwa [show 60 + (pc - 60) = pc by omega] at this
  by_cases h2 : pc < 180
  · have := List.all_eq_true.mp qd_X12_one_2 (pc - 120) (List.mem_range.mpr (by omega))
    rwa [show 120 + (pc - 120) = pc by omega] at this
  exfalso; unfold qc_X12_one at h; rw [qblt_f h2] at h; cases h
theorem qd_X12_aStep_0 : (List.range 60).all (fun j => qckD (qc_X12_aStep (0 + j)) cX12_aStep (0 + j)) = true := by decide +kernel
theorem qd_X12_aStep_1 : (List.range 60).all (fun j => qckD (qc_X12_aStep (60 + j)) cX12_aStep (60 + j)) = true := by decide +kernel
theorem qd_X12_aStep_2 : (List.range 4).all (fun j => qckD (qc_X12_aStep (120 + j)) cX12_aStep (120 + j)) = true := by decide +kernel
theorem qd_X12_aStep {pc : Nat} {ins : Instr} {len : Nat} (h : qc_X12_aStep pc = some (ins, len)) : decode cX12_aStep pc = .ok (ins, len) ∧ qok pc ins len = true := by
  refine qckD_of ?_ h
  by_cases h0 : pc < 60
  · have := List.all_eq_true.mp qd_X12_aStep_0 (pc - 0) (List.mem_range.mpr (by omega))
    rwa [show 0 + (pc - 0) = pc by omega] at this
  by_cases h1 : pc < 120
  · have := List.all_eq_true.mp qd_X12_aStep_1 (pc - 60) (List.mem_range.mpr (by omega))
    rwa [show 60 + (pc - 60) = pc by omega] at this
  by_cases h2 : pc < 124
  · have := List.all_eq_true.mp qd_X12_aStep_2 (pc - 120) (List.mem_range.mpr (by omega))
    rwa [show 120 + (pc - 120) = pc by omega] at this
  exfalso; unfold qc_X12_aStep at h; rw [qblt_f h2] at h; cases h
theorem qd_X12_aReason_0 : (List.range 60).all (fun j => qckD (qc_X12_aReason (0 + j)) cX12_aReason (0 + j)) = true := by decide +kernel
theorem qd_X12_aReason_1 : (List.range 60).all (fun j => qckD (qc_X12_aReason (60 + j)) cX12_aReason (60 + j)) = true := by decide +kernel
theorem qd_X12_aReason_2 : (List.range 5).all (fun j => qckD (qc_X12_aReason (120 + j)) cX12_aReason (120 + j)) = true := by decide +kernel
theorem qd_X12_aReason {pc : Nat} {ins : Instr} {len : Nat} (h : qc_X12_aReason pc = some (ins, len)) : decode cX12_aReason pc = .ok (ins, len) ∧ qok pc ins len = true := by
  refine qckD_of ?_ h
  by_cases h0 : pc < 60
  · have := List.all_eq_true.mp qd_X12_aReason_0 (pc - 0) (List.mem_range.mpr (by omega))
    rwa [show 0 + (pc - 0) = pc by omega] at this
  by_cases h1 : pc < 120
  · have := List.all_eq_true.mp qd_X12_aReason_1 (pc - 60) (List.mem_range.mpr (by omega))
    rwa [show 60 + (pc - 60) = pc by omega] at this
  by_cases h2 : pc < 125
  · have := List.all_eq_true.mp qd_X12_aReason_2 (pc - 120) (List.mem_range.mpr (by omega))
    rwa [show 120 + (pc - 120) = pc by omega] at this
  exfalso; unfold qc_X12_aReason at h; rw [qblt_f h2] at h; cases h
theorem qd_X12_text_0 : (List.range 60).all (fun j => qckD (qc_X12_text (0 + j)) cX12_text (0 + j)) = true := by decide +kernel
theorem qd_X12_text_1 : (List.range 60).all (fun j => qckD (qc_X12_text (60 + j)) cX12_text (60 + j)) = true := by decide +kernel
theorem qd_X12_text_2 : (List.range 45).all (fun j => qckD (qc_X12_text (120 + j)) cX12_text (120 + j)) = true := by decide +kernel
theorem qd_X12_text {pc : Nat} {ins : Instr} {len : Nat} (h : qc_X12_text pc = some (ins, len)) : decode cX12_text pc = .ok (ins, len) ∧ qok pc ins len = true := by
  refine qckD_of ?_ h
  by_cases h0 : pc < 60
  · have := List.all_eq_true.mp qd_X12_text_0 (pc - 0) (List.mem_range.mpr (by omega))
    rwa [show 0 + (pc - 0) = pc by omega] at this
  by_cases h1 : pc < 120
  · have := List.all_eq_true.mp qd_X12_text_1 (pc - 60) (List.mem_range.mpr (by omega))
    rwa [show 60 + (pc - 60) = pc by omega] at this
  by_cases h2 : pc < 165
  · have := List.all_eq_true.mp qd_X12_text_2 (pc - 120) (List.mem_range.mpr (by omega))
    rwa [show 120 + (pc - 120) = pc by omega] at this
  exfalso; unfold qc_X12_text at h; rw [qblt_f h2] at h; cases h
theorem qd_X12_keepsShow_0 : (List.range 61).all (fun j => qckD (qc_X12_keepsShow (0 + j)) cX12_keepsShow (0 + j)) = true := by decide +kernel
theorem qd_X12_keepsShow {pc : Nat} {ins : Instr} {len : Nat} (h : qc_X12_keepsShow pc = some (ins, len)) : decode cX12_keepsShow pc = .ok (ins, len) ∧ qok pc ins len = true := by
  refine qckD_of ?_ h
  by_cases h0 : pc < 61
  · have := List.all_eq_true.mp qd_X12_keepsShow_0 (pc - 0) (List.mem_range.mpr (by omega))
    rwa [show 0 + (pc - 0) = pc by omega] at this
  exfalso; unfold qc_X12_keepsShow at h; rw [qblt_f h0] at h; cases h
theorem qd_X12_keepsReasons_0 : (List.range 95).all (fun j => qckD (qc_X12_keepsReasons (0 + j)) cX12_keepsReasons (0 + j)) = true := by decide +kernel
theorem qd_X12_keepsReasons {pc : Nat} {ins : Instr} {len : Nat} (h : qc_X12_keepsReasons pc = some (ins, len)) : decode cX12_keepsReasons pc = .ok (ins, len) ∧ qok pc ins len = true := by
  refine qckD_of ?_ h
  by_cases h0 : pc < 95
  · have := List.all_eq_true.mp qd_X12_keepsReasons_0 (pc - 0) (List.mem_range.mpr (by omega))
    rwa [show 0 + (pc - 0) = pc by omega] at this
  exfalso; unfold qc_X12_keepsReasons at h; rw [qblt_f h0] at h; cases h
theorem qd_X12_fault_0 : (List.range 25).all (fun j => qckD (qc_X12_fault (0 + j)) cX12_fault (0 + j)) = true := by decide +kernel
theorem qd_X12_fault {pc : Nat} {ins : Instr} {len : Nat} (h : qc_X12_fault pc = some (ins, len)) : decode cX12_fault pc = .ok (ins, len) ∧ qok pc ins len = true := by
  refine qckD_of ?_ h
  by_cases h0 : pc < 25
  · have := List.all_eq_true.mp qd_X12_fault_0 (pc - 0) (List.mem_range.mpr (by omega))
    rwa [show 0 + (pc - 0) = pc by omega] at this
  exfalso; unfold qc_X12_fault at h; rw [qblt_f h0] at h; cases h
theorem qd_X12_sees_0 : (List.range 70).all (fun j => qckD (qc_X12_sees (0 + j)) cX12_sees (0 + j)) = true := by decide +kernel
theorem qd_X12_sees {pc : Nat} {ins : Instr} {len : Nat} (h : qc_X12_sees pc = some (ins, len)) : decode cX12_sees pc = .ok (ins, len) ∧ qok pc ins len = true := by
  refine qckD_of ?_ h
  by_cases h0 : pc < 70
  · have := List.all_eq_true.mp qd_X12_sees_0 (pc - 0) (List.mem_range.mpr (by omega))
    rwa [show 0 + (pc - 0) = pc by omega] at this
  exfalso; unfold qc_X12_sees at h; rw [qblt_f h0] at h; cases h
theorem qd_X12_through_0 : (List.range 78).all (fun j => qckD (qc_X12_through (0 + j)) cX12_through (0 + j)) = true := by decide +kernel
theorem qd_X12_through {pc : Nat} {ins : Instr} {len : Nat} (h : qc_X12_through pc = some (ins, len)) : decode cX12_through pc = .ok (ins, len) ∧ qok pc ins len = true := by
  refine qckD_of ?_ h
  by_cases h0 : pc < 78
  · have := List.all_eq_true.mp qd_X12_through_0 (pc - 0) (List.mem_range.mpr (by omega))
    rwa [show 0 + (pc - 0) = pc by omega] at this
  exfalso; unfold qc_X12_through at h; rw [qblt_f h0] at h; cases h
theorem qd_X12_begins_0 : (List.range 36).all (fun j => qckD (qc_X12_begins (0 + j)) cX12_begins (0 + j)) = true := by decide +kernel
theorem qd_X12_begins {pc : Nat} {ins : Instr} {len : Nat} (h : qc_X12_begins pc = some (ins, len)) : decode cX12_begins pc = .ok (ins, len) ∧ qok pc ins len = true := by
  refine qckD_of ?_ h
  by_cases h0 : pc < 36
  · have := List.all_eq_true.mp qd_X12_begins_0 (pc - 0) (List.mem_range.mpr (by omega))
    rwa [show 0 + (pc - 0) = pc by omega] at this
  exfalso; unfold qc_X12_begins at h; rw [qblt_f h0] at h; cases h
theorem qd_X12_does_0 : (List.range 60).all (fun j => qckD (qc_X12_does (0 + j)) cX12_does (0 + j)) = true := by decide +kernel
theorem qd_X12_does_1 : (List.range 60).all (fun j => qckD (qc_X12_does (60 + j)) cX12_does (60 + j)) = true := by decide +kernel
theorem qd_X12_does_2 : (List.range 55).all (fun j => qckD (qc_X12_does (120 + j)) cX12_does (120 + j)) = true := by decide +kernel
theorem qd_X12_does {pc : Nat} {ins : Instr} {len : Nat} (h : qc_X12_does pc = some (ins, len)) : decode cX12_does pc = .ok (ins, len) ∧ qok pc ins len = true := by
  refine qckD_of ?_ h
  by_cases h0 : pc < 60
  · have := List.all_eq_true.mp qd_X12_does_0 (pc - 0) (List.mem_range.mpr (by omega))
    rwa [show 0 + (pc - 0) = pc by omega] at this
  by_cases h1 : pc < 120
  · have := List.all_eq_true.mp qd_X12_does_1 (pc - 60) (List.mem_range.mpr (by omega))
    rwa [show 60 + (pc - 60) = pc by omega] at this
  by_cases h2 : pc < 175
  · have := List.all_eq_true.mp qd_X12_does_2 (pc - 120) (List.mem_range.mpr (by omega))
    rwa [show 120 + (pc - 120) = pc by omega] at this
  exfalso; unfold qc_X12_does at h; rw [qblt_f h2] at h; cases h
theorem qd_X12_shows_0 : (List.range 50).all (fun j => qckD (qc_X12_shows (0 + j)) cX12_shows (0 + j)) = true := by decide +kernel
theorem qd_X12_shows {pc : Nat} {ins : Instr} {len : Nat} (h : qc_X12_shows pc = some (ins, len)) : decode cX12_shows pc = .ok (ins, len) ∧ qok pc ins len = true := by
  refine qckD_of ?_ h
  by_cases h0 : pc < 50
  · have := List.all_eq_true.mp qd_X12_shows_0 (pc - 0) (List.mem_range.mpr (by omega))
    rwa [show 0 + (pc - 0) = pc by omega] at this
  exfalso; unfold qc_X12_shows at h; rw [qblt_f h0] at h; cases h
theorem qd_X12_seen_0 : (List.range 47).all (fun j => qckD (qc_X12_seen (0 + j)) cX12_seen (0 + j)) = true := by decide +kernel
theorem qd_X12_seen {pc : Nat} {ins : Instr} {len : Nat} (h : qc_X12_seen pc = some (ins, len)) : decode cX12_seen pc = .ok (ins, len) ∧ qok pc ins len = true := by
  refine qckD_of ?_ h
  by_cases h0 : pc < 47
  · have := List.all_eq_true.mp qd_X12_seen_0 (pc - 0) (List.mem_range.mpr (by omega))
    rwa [show 0 + (pc - 0) = pc by omega] at this
  exfalso; unfold qc_X12_seen at h; rw [qblt_f h0] at h; cases h
theorem qd_X12_run_0 : (List.range 71).all (fun j => qckD (qc_X12_run (0 + j)) cX12_run (0 + j)) = true := by decide +kernel
theorem qd_X12_run {pc : Nat} {ins : Instr} {len : Nat} (h : qc_X12_run pc = some (ins, len)) : decode cX12_run pc = .ok (ins, len) ∧ qok pc ins len = true := by
  refine qckD_of ?_ h
  by_cases h0 : pc < 71
  · have := List.all_eq_true.mp qd_X12_run_0 (pc - 0) (List.mem_range.mpr (by omega))
    rwa [show 0 + (pc - 0) = pc by omega] at this
  exfalso; unfold qc_X12_run at h; rw [qblt_f h0] at h; cases h
theorem qd_X12_isMove_0 : (List.range 41).all (fun j => qckD (qc_X12_isMove (0 + j)) cX12_isMove (0 + j)) = true := by decide +kernel
theorem qd_X12_isMove {pc : Nat} {ins : Instr} {len : Nat} (h : qc_X12_isMove pc = some (ins, len)) : decode cX12_isMove pc = .ok (ins, len) ∧ qok pc ins len = true := by
  refine qckD_of ?_ h
  by_cases h0 : pc < 41
  · have := List.all_eq_true.mp qd_X12_isMove_0 (pc - 0) (List.mem_range.mpr (by omega))
    rwa [show 0 + (pc - 0) = pc by omega] at this
  exfalso; unfold qc_X12_isMove at h; rw [qblt_f h0] at h; cases h
theorem qd_X12_hides_0 : (List.range 60).all (fun j => qckD (qc_X12_hides (0 + j)) cX12_hides (0 + j)) = true := by decide +kernel
theorem qd_X12_hides_1 : (List.range 60).all (fun j => qckD (qc_X12_hides (60 + j)) cX12_hides (60 + j)) = true := by decide +kernel
theorem qd_X12_hides_2 : (List.range 60).all (fun j => qckD (qc_X12_hides (120 + j)) cX12_hides (120 + j)) = true := by decide +kernel
theorem qd_X12_hides_3 : (List.range 59).all (fun j => qckD (qc_X12_hides (180 + j)) cX12_hides (180 + j)) = true := by decide +kernel
theorem qd_X12_hides {pc : Nat} {ins : Instr} {len : Nat} (h : qc_X12_hides pc = some (ins, len)) : decode cX12_hides pc = .ok (ins, len) ∧ qok pc ins len = true := by
  refine qckD_of ?_ h
  by_cases h0 : pc < 60
  · have := List.all_eq_true.mp qd_X12_hides_0 (pc - 0) (List.mem_range.mpr (by omega))
    rwa [show 0 + (pc - 0) = pc by omega] at this
  by_cases h1 : pc < 120
  · have := List.all_eq_true.mp qd_X12_hides_1 (pc - 60) (List.mem_range.mpr (by omega))
    rwa [show 60 + (pc - 60) = pc by omega] at this
  by_cases h2 : pc < 180
  · have := List.all_eq_true.mp qd_X12_hides_2 (pc - 120) (List.mem_range.mpr (by omega))
    rwa [show 120 + (pc - 120) = pc by omega] at this
  by_cases h3 : pc < 239
  · have := List.all_eq_true.mp qd_X12_hides_3 (pc - 180) (List.mem_range.mpr (by omega))
    rwa [show 180 + (pc - 180) = pc by omega] at this
  exfalso; unfold qc_X12_hides at h; rw [qblt_f h3] at h; cases h
theorem qd_X12_hide_0 : (List.range 81).all (fun j => qckD (qc_X12_hide (0 + j)) cX12_hide (0 + j)) = true := by decide +kernel
theorem qd_X12_hide {pc : Nat} {ins : Instr} {len : Nat} (h : qc_X12_hide pc = some (ins, len)) : decode cX12_hide pc = .ok (ins, len) ∧ qok pc ins len = true := by
  refine qckD_of ?_ h
  by_cases h0 : pc < 81
  · have := List.all_eq_true.mp qd_X12_hide_0 (pc - 0) (List.mem_range.mpr (by omega))
    rwa [show 0 + (pc - 0) = pc by omega] at this
  exfalso; unfold qc_X12_hide at h; rw [qblt_f h0] at h; cases h
theorem qd_X12_isGoing_0 : (List.range 31).all (fun j => qckD (qc_X12_isGoing (0 + j)) cX12_isGoing (0 + j)) = true := by decide +kernel
theorem qd_X12_isGoing {pc : Nat} {ins : Instr} {len : Nat} (h : qc_X12_isGoing pc = some (ins, len)) : decode cX12_isGoing pc = .ok (ins, len) ∧ qok pc ins len = true := by
  refine qckD_of ?_ h
  by_cases h0 : pc < 31
  · have := List.all_eq_true.mp qd_X12_isGoing_0 (pc - 0) (List.mem_range.mpr (by omega))
    rwa [show 0 + (pc - 0) = pc by omega] at this
  exfalso; unfold qc_X12_isGoing at h; rw [qblt_f h0] at h; cases h
theorem qd_X12_leadsBack_0 : (List.range 60).all (fun j => qckD (qc_X12_leadsBack (0 + j)) cX12_leadsBack (0 + j)) = true := by decide +kernel
theorem qd_X12_leadsBack_1 : (List.range 60).all (fun j => qckD (qc_X12_leadsBack (60 + j)) cX12_leadsBack (60 + j)) = true := by decide +kernel
theorem qd_X12_leadsBack_2 : (List.range 58).all (fun j => qckD (qc_X12_leadsBack (120 + j)) cX12_leadsBack (120 + j)) = true := by decide +kernel
theorem qd_X12_leadsBack {pc : Nat} {ins : Instr} {len : Nat} (h : qc_X12_leadsBack pc = some (ins, len)) : decode cX12_leadsBack pc = .ok (ins, len) ∧ qok pc ins len = true := by
  refine qckD_of ?_ h
  by_cases h0 : pc < 60
  · have := List.all_eq_true.mp qd_X12_leadsBack_0 (pc - 0) (List.mem_range.mpr (by omega))
    rwa [show 0 + (pc - 0) = pc by omega] at this
  by_cases h1 : pc < 120
  · have := List.all_eq_true.mp qd_X12_leadsBack_1 (pc - 60) (List.mem_range.mpr (by omega))
    rwa [show 60 + (pc - 60) = pc by omega] at this
  by_cases h2 : pc < 178
  · have := List.all_eq_true.mp qd_X12_leadsBack_2 (pc - 120) (List.mem_range.mpr (by omega))
    rwa [show 120 + (pc - 120) = pc by omega] at this
  exfalso; unfold qc_X12_leadsBack at h; rw [qblt_f h2] at h; cases h
theorem qd_X12_way_0 : (List.range 60).all (fun j => qckD (qc_X12_way (0 + j)) cX12_way (0 + j)) = true := by decide +kernel
theorem qd_X12_way_1 : (List.range 60).all (fun j => qckD (qc_X12_way (60 + j)) cX12_way (60 + j)) = true := by decide +kernel
theorem qd_X12_way_2 : (List.range 57).all (fun j => qckD (qc_X12_way (120 + j)) cX12_way (120 + j)) = true := by decide +kernel
theorem qd_X12_way {pc : Nat} {ins : Instr} {len : Nat} (h : qc_X12_way pc = some (ins, len)) : decode cX12_way pc = .ok (ins, len) ∧ qok pc ins len = true := by
  refine qckD_of ?_ h
  by_cases h0 : pc < 60
  · have := List.all_eq_true.mp qd_X12_way_0 (pc - 0) (List.mem_range.mpr (by omega))
    rwa [show 0 + (pc - 0) = pc by omega] at this
  by_cases h1 : pc < 120
  · have := List.all_eq_true.mp qd_X12_way_1 (pc - 60) (List.mem_range.mpr (by omega))
    rwa [show 60 + (pc - 60) = pc by omega] at this
  by_cases h2 : pc < 177
  · have := List.all_eq_true.mp qd_X12_way_2 (pc - 120) (List.mem_range.mpr (by omega))
    rwa [show 120 + (pc - 120) = pc by omega] at this
  exfalso; unfold qc_X12_way at h; rw [qblt_f h2] at h; cases h
theorem qd_X12_tries_0 : (List.range 60).all (fun j => qckD (qc_X12_tries (0 + j)) cX12_tries (0 + j)) = true := by decide +kernel
theorem qd_X12_tries_1 : (List.range 60).all (fun j => qckD (qc_X12_tries (60 + j)) cX12_tries (60 + j)) = true := by decide +kernel
theorem qd_X12_tries_2 : (List.range 60).all (fun j => qckD (qc_X12_tries (120 + j)) cX12_tries (120 + j)) = true := by decide +kernel
theorem qd_X12_tries_3 : (List.range 57).all (fun j => qckD (qc_X12_tries (180 + j)) cX12_tries (180 + j)) = true := by decide +kernel
theorem qd_X12_tries {pc : Nat} {ins : Instr} {len : Nat} (h : qc_X12_tries pc = some (ins, len)) : decode cX12_tries pc = .ok (ins, len) ∧ qok pc ins len = true := by
  refine qckD_of ?_ h
  by_cases h0 : pc < 60
  · have := List.all_eq_true.mp qd_X12_tries_0 (pc - 0) (List.mem_range.mpr (by omega))
    rwa [show 0 + (pc - 0) = pc by omega] at this
  by_cases h1 : pc < 120
  · have := List.all_eq_true.mp qd_X12_tries_1 (pc - 60) (List.mem_range.mpr (by omega))
    rwa [show 60 + (pc - 60) = pc by omega] at this
  by_cases h2 : pc < 180
  · have := List.all_eq_true.mp qd_X12_tries_2 (pc - 120) (List.mem_range.mpr (by omega))
    rwa [show 120 + (pc - 120) = pc by omega] at this
  by_cases h3 : pc < 237
  · have := List.all_eq_true.mp qd_X12_tries_3 (pc - 180) (List.mem_range.mpr (by omega))
    rwa [show 180 + (pc - 180) = pc by omega] at this
  exfalso; unfold qc_X12_tries at h; rw [qblt_f h3] at h; cases h
theorem qd_X12_order_0 : (List.range 60).all (fun j => qckD (qc_X12_order (0 + j)) cX12_order (0 + j)) = true := by decide +kernel
theorem qd_X12_order_1 : (List.range 60).all (fun j => qckD (qc_X12_order (60 + j)) cX12_order (60 + j)) = true := by decide +kernel
theorem qd_X12_order_2 : (List.range 11).all (fun j => qckD (qc_X12_order (120 + j)) cX12_order (120 + j)) = true := by decide +kernel
theorem qd_X12_order {pc : Nat} {ins : Instr} {len : Nat} (h : qc_X12_order pc = some (ins, len)) : decode cX12_order pc = .ok (ins, len) ∧ qok pc ins len = true := by
  refine qckD_of ?_ h
  by_cases h0 : pc < 60
  · have := List.all_eq_true.mp qd_X12_order_0 (pc - 0) (List.mem_range.mpr (by omega))
    rwa [show 0 + (pc - 0) = pc by omega] at this
  by_cases h1 : pc < 120
  · have := List.all_eq_true.mp qd_X12_order_1 (pc - 60) (List.mem_range.mpr (by omega))
    rwa [show 60 + (pc - 60) = pc by omega] at this
  by_cases h2 : pc < 131
  · have := List.all_eq_true.mp qd_X12_order_2 (pc - 120) (List.mem_range.mpr (by omega))
    rwa [show 120 + (pc - 120) = pc by omega] at this
  exfalso; unfold qc_X12_order at h; rw [qblt_f h2] at h; cases h
theorem qd_X12_proof_0 : (List.range 60).all (fun j => qckD (qc_X12_proof (0 + j)) cX12_proof (0 + j)) = true := by decide +kernel
theorem qd_X12_proof_1 : (List.range 60).all (fun j => qckD (qc_X12_proof (60 + j)) cX12_proof (60 + j)) = true := by decide +kernel
theorem qd_X12_proof_2 : (List.range 60).all (fun j => qckD (qc_X12_proof (120 + j)) cX12_proof (120 + j)) = true := by decide +kernel
theorem qd_X12_proof_3 : (List.range 3).all (fun j => qckD (qc_X12_proof (180 + j)) cX12_proof (180 + j)) = true := by decide +kernel
theorem qd_X12_proof {pc : Nat} {ins : Instr} {len : Nat} (h : qc_X12_proof pc = some (ins, len)) : decode cX12_proof pc = .ok (ins, len) ∧ qok pc ins len = true := by
  refine qckD_of ?_ h
  by_cases h0 : pc < 60
  · have := List.all_eq_true.mp qd_X12_proof_0 (pc - 0) (List.mem_range.mpr (by omega))
    rwa [show 0 + (pc - 0) = pc by omega] at this
  by_cases h1 : pc < 120
  · have := List.all_eq_true.mp qd_X12_proof_1 (pc - 60) (List.mem_range.mpr (by omega))
    rwa [show 60 + (pc - 60) = pc by omega] at this
  by_cases h2 : pc < 180
  · have := List.all_eq_true.mp qd_X12_proof_2 (pc - 120) (List.mem_range.mpr (by omega))
    rwa [show 120 + (pc - 120) = pc by omega] at this
  by_cases h3 : pc < 183
  · have := List.all_eq_true.mp qd_X12_proof_3 (pc - 180) (List.mem_range.mpr (by omega))
    rwa [show 180 + (pc - 180) = pc by omega] at this
  exfalso; unfold qc_X12_proof at h; rw [qblt_f h3] at h; cases h
theorem qd_X12_fact_0 : (List.range 109).all (fun j => qckD (qc_X12_fact (0 + j)) cX12_fact (0 + j)) = true := by decide +kernel
theorem qd_X12_fact {pc : Nat} {ins : Instr} {len : Nat} (h : qc_X12_fact pc = some (ins, len)) : decode cX12_fact pc = .ok (ins, len) ∧ qok pc ins len = true := by
  refine qckD_of ?_ h
  by_cases h0 : pc < 109
  · have := List.all_eq_true.mp qd_X12_fact_0 (pc - 0) (List.mem_range.mpr (by omega))
    rwa [show 0 + (pc - 0) = pc by omega] at this
  exfalso; unfold qc_X12_fact at h; rw [qblt_f h0] at h; cases h
theorem qd_X12_both_0 : (List.range 105).all (fun j => qckD (qc_X12_both (0 + j)) cX12_both (0 + j)) = true := by decide +kernel
theorem qd_X12_both {pc : Nat} {ins : Instr} {len : Nat} (h : qc_X12_both pc = some (ins, len)) : decode cX12_both pc = .ok (ins, len) ∧ qok pc ins len = true := by
  refine qckD_of ?_ h
  by_cases h0 : pc < 105
  · have := List.all_eq_true.mp qd_X12_both_0 (pc - 0) (List.mem_range.mpr (by omega))
    rwa [show 0 + (pc - 0) = pc by omega] at this
  exfalso; unfold qc_X12_both at h; rw [qblt_f h0] at h; cases h
theorem qd_X12_comesTo_0 : (List.range 60).all (fun j => qckD (qc_X12_comesTo (0 + j)) cX12_comesTo (0 + j)) = true := by decide +kernel
theorem qd_X12_comesTo_1 : (List.range 60).all (fun j => qckD (qc_X12_comesTo (60 + j)) cX12_comesTo (60 + j)) = true := by decide +kernel
theorem qd_X12_comesTo_2 : (List.range 36).all (fun j => qckD (qc_X12_comesTo (120 + j)) cX12_comesTo (120 + j)) = true := by decide +kernel
theorem qd_X12_comesTo {pc : Nat} {ins : Instr} {len : Nat} (h : qc_X12_comesTo pc = some (ins, len)) : decode cX12_comesTo pc = .ok (ins, len) ∧ qok pc ins len = true := by
  refine qckD_of ?_ h
  by_cases h0 : pc < 60
  · have := List.all_eq_true.mp qd_X12_comesTo_0 (pc - 0) (List.mem_range.mpr (by omega))
    rwa [show 0 + (pc - 0) = pc by omega] at this
  by_cases h1 : pc < 120
  · have := List.all_eq_true.mp qd_X12_comesTo_1 (pc - 60) (List.mem_range.mpr (by omega))
    rwa [show 60 + (pc - 60) = pc by omega] at this
  by_cases h2 : pc < 156
  · have := List.all_eq_true.mp qd_X12_comesTo_2 (pc - 120) (List.mem_range.mpr (by omega))
    rwa [show 120 + (pc - 120) = pc by omega] at this
  exfalso; unfold qc_X12_comesTo at h; rw [qblt_f h2] at h; cases h
theorem qd_X12_isMan_0 : (List.range 21).all (fun j => qckD (qc_X12_isMan (0 + j)) cX12_isMan (0 + j)) = true := by decide +kernel
theorem qd_X12_isMan {pc : Nat} {ins : Instr} {len : Nat} (h : qc_X12_isMan pc = some (ins, len)) : decode cX12_isMan pc = .ok (ins, len) ∧ qok pc ins len = true := by
  refine qckD_of ?_ h
  by_cases h0 : pc < 21
  · have := List.all_eq_true.mp qd_X12_isMan_0 (pc - 0) (List.mem_range.mpr (by omega))
    rwa [show 0 + (pc - 0) = pc by omega] at this
  exfalso; unfold qc_X12_isMan at h; rw [qblt_f h0] at h; cases h
theorem qd_X12_weighs_0 : (List.range 48).all (fun j => qckD (qc_X12_weighs (0 + j)) cX12_weighs (0 + j)) = true := by decide +kernel
theorem qd_X12_weighs {pc : Nat} {ins : Instr} {len : Nat} (h : qc_X12_weighs pc = some (ins, len)) : decode cX12_weighs pc = .ok (ins, len) ∧ qok pc ins len = true := by
  refine qckD_of ?_ h
  by_cases h0 : pc < 48
  · have := List.all_eq_true.mp qd_X12_weighs_0 (pc - 0) (List.mem_range.mpr (by omega))
    rwa [show 0 + (pc - 0) = pc by omega] at this
  exfalso; unfold qc_X12_weighs at h; rw [qblt_f h0] at h; cases h
theorem qd_X12_reason_0 : (List.range 28).all (fun j => qckD (qc_X12_reason (0 + j)) cX12_reason (0 + j)) = true := by decide +kernel
theorem qd_X12_reason {pc : Nat} {ins : Instr} {len : Nat} (h : qc_X12_reason pc = some (ins, len)) : decode cX12_reason pc = .ok (ins, len) ∧ qok pc ins len = true := by
  refine qckD_of ?_ h
  by_cases h0 : pc < 28
  · have := List.all_eq_true.mp qd_X12_reason_0 (pc - 0) (List.mem_range.mpr (by omega))
    rwa [show 0 + (pc - 0) = pc by omega] at this
  exfalso; unfold qc_X12_reason at h; rw [qblt_f h0] at h; cases h
theorem qd_X12_pamphlet_0 : (List.range 74).all (fun j => qckD (qc_X12_pamphlet (0 + j)) cX12_pamphlet (0 + j)) = true := by decide +kernel
theorem qd_X12_pamphlet {pc : Nat} {ins : Instr} {len : Nat} (h : qc_X12_pamphlet pc = some (ins, len)) : decode cX12_pamphlet pc = .ok (ins, len) ∧ qok pc ins len = true := by
  refine qckD_of ?_ h
  by_cases h0 : pc < 74
  · have := List.all_eq_true.mp qd_X12_pamphlet_0 (pc - 0) (List.mem_range.mpr (by omega))
    rwa [show 0 + (pc - 0) = pc by omega] at this
  exfalso; unfold qc_X12_pamphlet at h; rw [qblt_f h0] at h; cases h
theorem qd_X12_airOf_0 : (List.range 16).all (fun j => qckD (qc_X12_airOf (0 + j)) cX12_airOf (0 + j)) = true := by decide +kernel
theorem qd_X12_airOf {pc : Nat} {ins : Instr} {len : Nat} (h : qc_X12_airOf pc = some (ins, len)) : decode cX12_airOf pc = .ok (ins, len) ∧ qok pc ins len = true := by
  refine qckD_of ?_ h
  by_cases h0 : pc < 16
  · have := List.all_eq_true.mp qd_X12_airOf_0 (pc - 0) (List.mem_range.mpr (by omega))
    rwa [show 0 + (pc - 0) = pc by omega] at this
  exfalso; unfold qc_X12_airOf at h; rw [qblt_f h0] at h; cases h
theorem qd_X12_air_0 : (List.range 60).all (fun j => qckD (qc_X12_air (0 + j)) cX12_air (0 + j)) = true := by decide +kernel
theorem qd_X12_air_1 : (List.range 60).all (fun j => qckD (qc_X12_air (60 + j)) cX12_air (60 + j)) = true := by decide +kernel
theorem qd_X12_air_2 : (List.range 18).all (fun j => qckD (qc_X12_air (120 + j)) cX12_air (120 + j)) = true := by decide +kernel
theorem qd_X12_air {pc : Nat} {ins : Instr} {len : Nat} (h : qc_X12_air pc = some (ins, len)) : decode cX12_air pc = .ok (ins, len) ∧ qok pc ins len = true := by
  refine qckD_of ?_ h
  by_cases h0 : pc < 60
  · have := List.all_eq_true.mp qd_X12_air_0 (pc - 0) (List.mem_range.mpr (by omega))
    rwa [show 0 + (pc - 0) = pc by omega] at this
  by_cases h1 : pc < 120
  · have := List.all_eq_true.mp qd_X12_air_1 (pc - 60) (List.mem_range.mpr (by omega))
    rwa [show 60 + (pc - 60) = pc by omega] at this
  by_cases h2 : pc < 138
  · have := List.all_eq_true.mp qd_X12_air_2 (pc - 120) (List.mem_range.mpr (by omega))
    rwa [show 120 + (pc - 120) = pc by omega] at this
  exfalso; unfold qc_X12_air at h; rw [qblt_f h2] at h; cases h
theorem qd_X12_isSquare_0 : (List.range 8).all (fun j => qckD (qc_X12_isSquare (0 + j)) cX12_isSquare (0 + j)) = true := by decide +kernel
theorem qd_X12_isSquare {pc : Nat} {ins : Instr} {len : Nat} (h : qc_X12_isSquare pc = some (ins, len)) : decode cX12_isSquare pc = .ok (ins, len) ∧ qok pc ins len = true := by
  refine qckD_of ?_ h
  by_cases h0 : pc < 8
  · have := List.all_eq_true.mp qd_X12_isSquare_0 (pc - 0) (List.mem_range.mpr (by omega))
    rwa [show 0 + (pc - 0) = pc by omega] at this
  exfalso; unfold qc_X12_isSquare at h; rw [qblt_f h0] at h; cases h
theorem qd_X12_piece_0 : (List.range 35).all (fun j => qckD (qc_X12_piece (0 + j)) cX12_piece (0 + j)) = true := by decide +kernel
theorem qd_X12_piece {pc : Nat} {ins : Instr} {len : Nat} (h : qc_X12_piece pc = some (ins, len)) : decode cX12_piece pc = .ok (ins, len) ∧ qok pc ins len = true := by
  refine qckD_of ?_ h
  by_cases h0 : pc < 35
  · have := List.all_eq_true.mp qd_X12_piece_0 (pc - 0) (List.mem_range.mpr (by omega))
    rwa [show 0 + (pc - 0) = pc by omega] at this
  exfalso; unfold qc_X12_piece at h; rw [qblt_f h0] at h; cases h
theorem qd_X12_stick_0 : (List.range 18).all (fun j => qckD (qc_X12_stick (0 + j)) cX12_stick (0 + j)) = true := by decide +kernel
theorem qd_X12_stick {pc : Nat} {ins : Instr} {len : Nat} (h : qc_X12_stick pc = some (ins, len)) : decode cX12_stick pc = .ok (ins, len) ∧ qok pc ins len = true := by
  refine qckD_of ?_ h
  by_cases h0 : pc < 18
  · have := List.all_eq_true.mp qd_X12_stick_0 (pc - 0) (List.mem_range.mpr (by omega))
    rwa [show 0 + (pc - 0) = pc by omega] at this
  exfalso; unfold qc_X12_stick at h; rw [qblt_f h0] at h; cases h
theorem qd_X12_move_0 : (List.range 60).all (fun j => qckD (qc_X12_move (0 + j)) cX12_move (0 + j)) = true := by decide +kernel
theorem qd_X12_move_1 : (List.range 60).all (fun j => qckD (qc_X12_move (60 + j)) cX12_move (60 + j)) = true := by decide +kernel
theorem qd_X12_move_2 : (List.range 19).all (fun j => qckD (qc_X12_move (120 + j)) cX12_move (120 + j)) = true := by decide +kernel
theorem qd_X12_move {pc : Nat} {ins : Instr} {len : Nat} (h : qc_X12_move pc = some (ins, len)) : decode cX12_move pc = .ok (ins, len) ∧ qok pc ins len = true := by
  refine qckD_of ?_ h
  by_cases h0 : pc < 60
  · have := List.all_eq_true.mp qd_X12_move_0 (pc - 0) (List.mem_range.mpr (by omega))
    rwa [show 0 + (pc - 0) = pc by omega] at this
  by_cases h1 : pc < 120
  · have := List.all_eq_true.mp qd_X12_move_1 (pc - 60) (List.mem_range.mpr (by omega))
    rwa [show 60 + (pc - 60) = pc by omega] at this
  by_cases h2 : pc < 139
  · have := List.all_eq_true.mp qd_X12_move_2 (pc - 120) (List.mem_range.mpr (by omega))
    rwa [show 120 + (pc - 120) = pc by omega] at this
  exfalso; unfold qc_X12_move at h; rw [qblt_f h2] at h; cases h
theorem qd_X12_board_0 : (List.range 60).all (fun j => qckD (qc_X12_board (0 + j)) cX12_board (0 + j)) = true := by decide +kernel
theorem qd_X12_board_1 : (List.range 60).all (fun j => qckD (qc_X12_board (60 + j)) cX12_board (60 + j)) = true := by decide +kernel
theorem qd_X12_board_2 : (List.range 10).all (fun j => qckD (qc_X12_board (120 + j)) cX12_board (120 + j)) = true := by decide +kernel
theorem qd_X12_board {pc : Nat} {ins : Instr} {len : Nat} (h : qc_X12_board pc = some (ins, len)) : decode cX12_board pc = .ok (ins, len) ∧ qok pc ins len = true := by
  refine qckD_of ?_ h
  by_cases h0 : pc < 60
  · have := List.all_eq_true.mp qd_X12_board_0 (pc - 0) (List.mem_range.mpr (by omega))
    rwa [show 0 + (pc - 0) = pc by omega] at this
  by_cases h1 : pc < 120
  · have := List.all_eq_true.mp qd_X12_board_1 (pc - 60) (List.mem_range.mpr (by omega))
    rwa [show 60 + (pc - 60) = pc by omega] at this
  by_cases h2 : pc < 130
  · have := List.all_eq_true.mp qd_X12_board_2 (pc - 120) (List.mem_range.mpr (by omega))
    rwa [show 120 + (pc - 120) = pc by omega] at this
  exfalso; unfold qc_X12_board at h; rw [qblt_f h2] at h; cases h
theorem qd_X12_isMaster_0 : (List.range 12).all (fun j => qckD (qc_X12_isMaster (0 + j)) cX12_isMaster (0 + j)) = true := by decide +kernel
theorem qd_X12_isMaster {pc : Nat} {ins : Instr} {len : Nat} (h : qc_X12_isMaster pc = some (ins, len)) : decode cX12_isMaster pc = .ok (ins, len) ∧ qok pc ins len = true := by
  refine qckD_of ?_ h
  by_cases h0 : pc < 12
  · have := List.all_eq_true.mp qd_X12_isMaster_0 (pc - 0) (List.mem_range.mpr (by omega))
    rwa [show 0 + (pc - 0) = pc by omega] at this
  exfalso; unfold qc_X12_isMaster at h; rw [qblt_f h0] at h; cases h
theorem qd_X12_master_0 : (List.range 60).all (fun j => qckD (qc_X12_master (0 + j)) cX12_master (0 + j)) = true := by decide +kernel
theorem qd_X12_master_1 : (List.range 60).all (fun j => qckD (qc_X12_master (60 + j)) cX12_master (60 + j)) = true := by decide +kernel
theorem qd_X12_master_2 : (List.range 7).all (fun j => qckD (qc_X12_master (120 + j)) cX12_master (120 + j)) = true := by decide +kernel
theorem qd_X12_master {pc : Nat} {ins : Instr} {len : Nat} (h : qc_X12_master pc = some (ins, len)) : decode cX12_master pc = .ok (ins, len) ∧ qok pc ins len = true := by
  refine qckD_of ?_ h
  by_cases h0 : pc < 60
  · have := List.all_eq_true.mp qd_X12_master_0 (pc - 0) (List.mem_range.mpr (by omega))
    rwa [show 0 + (pc - 0) = pc by omega] at this
  by_cases h1 : pc < 120
  · have := List.all_eq_true.mp qd_X12_master_1 (pc - 60) (List.mem_range.mpr (by omega))
    rwa [show 60 + (pc - 60) = pc by omega] at this
  by_cases h2 : pc < 127
  · have := List.all_eq_true.mp qd_X12_master_2 (pc - 120) (List.mem_range.mpr (by omega))
    rwa [show 120 + (pc - 120) = pc by omega] at this
  exfalso; unfold qc_X12_master at h; rw [qblt_f h2] at h; cases h
theorem qd_X12_was_0 : (List.range 60).all (fun j => qckD (qc_X12_was (0 + j)) cX12_was (0 + j)) = true := by decide +kernel
theorem qd_X12_was_1 : (List.range 60).all (fun j => qckD (qc_X12_was (60 + j)) cX12_was (60 + j)) = true := by decide +kernel
theorem qd_X12_was_2 : (List.range 15).all (fun j => qckD (qc_X12_was (120 + j)) cX12_was (120 + j)) = true := by decide +kernel
theorem qd_X12_was {pc : Nat} {ins : Instr} {len : Nat} (h : qc_X12_was pc = some (ins, len)) : decode cX12_was pc = .ok (ins, len) ∧ qok pc ins len = true := by
  refine qckD_of ?_ h
  by_cases h0 : pc < 60
  · have := List.all_eq_true.mp qd_X12_was_0 (pc - 0) (List.mem_range.mpr (by omega))
    rwa [show 0 + (pc - 0) = pc by omega] at this
  by_cases h1 : pc < 120
  · have := List.all_eq_true.mp qd_X12_was_1 (pc - 60) (List.mem_range.mpr (by omega))
    rwa [show 60 + (pc - 60) = pc by omega] at this
  by_cases h2 : pc < 135
  · have := List.all_eq_true.mp qd_X12_was_2 (pc - 120) (List.mem_range.mpr (by omega))
    rwa [show 120 + (pc - 120) = pc by omega] at this
  exfalso; unfold qc_X12_was at h; rw [qblt_f h2] at h; cases h
theorem qd_X12_habit_0 : (List.range 42).all (fun j => qckD (qc_X12_habit (0 + j)) cX12_habit (0 + j)) = true := by decide +kernel
theorem qd_X12_habit {pc : Nat} {ins : Instr} {len : Nat} (h : qc_X12_habit pc = some (ins, len)) : decode cX12_habit pc = .ok (ins, len) ∧ qok pc ins len = true := by
  refine qckD_of ?_ h
  by_cases h0 : pc < 42
  · have := List.all_eq_true.mp qd_X12_habit_0 (pc - 0) (List.mem_range.mpr (by omega))
    rwa [show 0 + (pc - 0) = pc by omega] at this
  exfalso; unfold qc_X12_habit at h; rw [qblt_f h0] at h; cases h
theorem qd_X12_night_0 : (List.range 60).all (fun j => qckD (qc_X12_night (0 + j)) cX12_night (0 + j)) = true := by decide +kernel
theorem qd_X12_night_1 : (List.range 60).all (fun j => qckD (qc_X12_night (60 + j)) cX12_night (60 + j)) = true := by decide +kernel
theorem qd_X12_night_2 : (List.range 10).all (fun j => qckD (qc_X12_night (120 + j)) cX12_night (120 + j)) = true := by decide +kernel
theorem qd_X12_night {pc : Nat} {ins : Instr} {len : Nat} (h : qc_X12_night pc = some (ins, len)) : decode cX12_night pc = .ok (ins, len) ∧ qok pc ins len = true := by
  refine qckD_of ?_ h
  by_cases h0 : pc < 60
  · have := List.all_eq_true.mp qd_X12_night_0 (pc - 0) (List.mem_range.mpr (by omega))
    rwa [show 0 + (pc - 0) = pc by omega] at this
  by_cases h1 : pc < 120
  · have := List.all_eq_true.mp qd_X12_night_1 (pc - 60) (List.mem_range.mpr (by omega))
    rwa [show 60 + (pc - 60) = pc by omega] at this
  by_cases h2 : pc < 130
  · have := List.all_eq_true.mp qd_X12_night_2 (pc - 120) (List.mem_range.mpr (by omega))
    rwa [show 120 + (pc - 120) = pc by omega] at this
  exfalso; unfold qc_X12_night at h; rw [qblt_f h2] at h; cases h
theorem qd_X12_mayBe_0 : (List.range 106).all (fun j => qckD (qc_X12_mayBe (0 + j)) cX12_mayBe (0 + j)) = true := by decide +kernel
theorem qd_X12_mayBe {pc : Nat} {ins : Instr} {len : Nat} (h : qc_X12_mayBe pc = some (ins, len)) : decode cX12_mayBe pc = .ok (ins, len) ∧ qok pc ins len = true := by
  refine qckD_of ?_ h
  by_cases h0 : pc < 106
  · have := List.all_eq_true.mp qd_X12_mayBe_0 (pc - 0) (List.mem_range.mpr (by omega))
    rwa [show 0 + (pc - 0) = pc by omega] at this
  exfalso; unfold qc_X12_mayBe at h; rw [qblt_f h0] at h; cases h
theorem qd_X12_weight_0 : (List.range 60).all (fun j => qckD (qc_X12_weight (0 + j)) cX12_weight (0 + j)) = true := by decide +kernel
theorem qd_X12_weight_1 : (List.range 60).all (fun j => qckD (qc_X12_weight (60 + j)) cX12_weight (60 + j)) = true := by decide +kernel
theorem qd_X12_weight_2 : (List.range 24).all (fun j => qckD (qc_X12_weight (120 + j)) cX12_weight (120 + j)) = true := by decide +kernel
theorem qd_X12_weight {pc : Nat} {ins : Instr} {len : Nat} (h : qc_X12_weight pc = some (ins, len)) : decode cX12_weight pc = .ok (ins, len) ∧ qok pc ins len = true := by
  refine qckD_of ?_ h
  by_cases h0 : pc < 60
  · have := List.all_eq_true.mp qd_X12_weight_0 (pc - 0) (List.mem_range.mpr (by omega))
    rwa [show 0 + (pc - 0) = pc by omega] at this
  by_cases h1 : pc < 120
  · have := List.all_eq_true.mp qd_X12_weight_1 (pc - 60) (List.mem_range.mpr (by omega))
    rwa [show 60 + (pc - 60) = pc by omega] at this
  by_cases h2 : pc < 144
  · have := List.all_eq_true.mp qd_X12_weight_2 (pc - 120) (List.mem_range.mpr (by omega))
    rwa [show 120 + (pc - 120) = pc by omega] at this
  exfalso; unfold qc_X12_weight at h; rw [qblt_f h2] at h; cases h
theorem qd_X12_who_0 : (List.range 101).all (fun j => qckD (qc_X12_who (0 + j)) cX12_who (0 + j)) = true := by decide +kernel
theorem qd_X12_who {pc : Nat} {ins : Instr} {len : Nat} (h : qc_X12_who pc = some (ins, len)) : decode cX12_who pc = .ok (ins, len) ∧ qok pc ins len = true := by
  refine qckD_of ?_ h
  by_cases h0 : pc < 101
  · have := List.all_eq_true.mp qd_X12_who_0 (pc - 0) (List.mem_range.mpr (by omega))
    rwa [show 0 + (pc - 0) = pc by omega] at this
  exfalso; unfold qc_X12_who at h; rw [qblt_f h0] at h; cases h
theorem qd_X12_all_0 : (List.range 60).all (fun j => qckD (qc_X12_all (0 + j)) cX12_all (0 + j)) = true := by decide +kernel
theorem qd_X12_all_1 : (List.range 60).all (fun j => qckD (qc_X12_all (60 + j)) cX12_all (60 + j)) = true := by decide +kernel
theorem qd_X12_all_2 : (List.range 60).all (fun j => qckD (qc_X12_all (120 + j)) cX12_all (120 + j)) = true := by decide +kernel
theorem qd_X12_all_3 : (List.range 60).all (fun j => qckD (qc_X12_all (180 + j)) cX12_all (180 + j)) = true := by decide +kernel
theorem qd_X12_all_4 : (List.range 32).all (fun j => qckD (qc_X12_all (240 + j)) cX12_all (240 + j)) = true := by decide +kernel
theorem qd_X12_all {pc : Nat} {ins : Instr} {len : Nat} (h : qc_X12_all pc = some (ins, len)) : decode cX12_all pc = .ok (ins, len) ∧ qok pc ins len = true := by
  refine qckD_of ?_ h
  by_cases h0 : pc < 60
  · have := List.all_eq_true.mp qd_X12_all_0 (pc - 0) (List.mem_range.mpr (by omega))
    rwa [show 0 + (pc - 0) = pc by omega] at this
  by_cases h1 : pc < 120
  · have := List.all_eq_true.mp qd_X12_all_1 (pc - 60) (List.mem_range.mpr (by omega))
    rwa [show 60 + (pc - 60) = pc by omega] at this
  by_cases h2 : pc < 180
  · have := List.all_eq_true.mp qd_X12_all_2 (pc - 120) (List.mem_range.mpr (by omega))
    rwa [show 120 + (pc - 120) = pc by omega] at this
  by_cases h3 : pc < 240
  · have := List.all_eq_true.mp qd_X12_all_3 (pc - 180) (List.mem_range.mpr (by omega))
    rwa [show 180 + (pc - 180) = pc by omega] at this
  by_cases h4 : pc < 272
  · have := List.all_eq_true.mp qd_X12_all_4 (pc - 240) (List.mem_range.mpr (by omega))
    rwa [show 240 + (pc - 240) = pc by omega] at this
  exfalso; unfold qc_X12_all at h; rw [qblt_f h4] at h; cases h
theorem qd_X12_cam_0 : (List.range 97).all (fun j => qckD (qc_X12_cam (0 + j)) cX12_cam (0 + j)) = true := by decide +kernel
theorem qd_X12_cam {pc : Nat} {ins : Instr} {len : Nat} (h : qc_X12_cam pc = some (ins, len)) : decode cX12_cam pc = .ok (ins, len) ∧ qok pc ins len = true := by
  refine qckD_of ?_ h
  by_cases h0 : pc < 97
  · have := List.all_eq_true.mp qd_X12_cam_0 (pc - 0) (List.mem_range.mpr (by omega))
    rwa [show 0 + (pc - 0) = pc by omega] at this
  exfalso; unfold qc_X12_cam at h; rw [qblt_f h0] at h; cases h
theorem qd_X12_game_0 : (List.range 60).all (fun j => qckD (qc_X12_game (0 + j)) cX12_game (0 + j)) = true := by decide +kernel
theorem qd_X12_game {pc : Nat} {ins : Instr} {len : Nat} (h : qc_X12_game pc = some (ins, len)) : decode cX12_game pc = .ok (ins, len) ∧ qok pc ins len = true := by
  refine qckD_of ?_ h
  by_cases h0 : pc < 60
  · have := List.all_eq_true.mp qd_X12_game_0 (pc - 0) (List.mem_range.mpr (by omega))
    rwa [show 0 + (pc - 0) = pc by omega] at this
  exfalso; unfold qc_X12_game at h; rw [qblt_f h0] at h; cases h
theorem qd_X12_answer_0 : (List.range 37).all (fun j => qckD (qc_X12_answer (0 + j)) cX12_answer (0 + j)) = true := by decide +kernel
theorem qd_X12_answer {pc : Nat} {ins : Instr} {len : Nat} (h : qc_X12_answer pc = some (ins, len)) : decode cX12_answer pc = .ok (ins, len) ∧ qok pc ins len = true := by
  refine qckD_of ?_ h
  by_cases h0 : pc < 37
  · have := List.all_eq_true.mp qd_X12_answer_0 (pc - 0) (List.mem_range.mpr (by omega))
    rwa [show 0 + (pc - 0) = pc by omega] at this
  exfalso; unfold qc_X12_answer at h; rw [qblt_f h0] at h; cases h
theorem qd_X12_alone_0 : (List.range 95).all (fun j => qckD (qc_X12_alone (0 + j)) cX12_alone (0 + j)) = true := by decide +kernel
theorem qd_X12_alone {pc : Nat} {ins : Instr} {len : Nat} (h : qc_X12_alone pc = some (ins, len)) : decode cX12_alone pc = .ok (ins, len) ∧ qok pc ins len = true := by
  refine qckD_of ?_ h
  by_cases h0 : pc < 95
  · have := List.all_eq_true.mp qd_X12_alone_0 (pc - 0) (List.mem_range.mpr (by omega))
    rwa [show 0 + (pc - 0) = pc by omega] at this
  exfalso; unfold qc_X12_alone at h; rw [qblt_f h0] at h; cases h
theorem qd_X12_areClaims_0 : (List.range 9).all (fun j => qckD (qc_X12_areClaims (0 + j)) cX12_areClaims (0 + j)) = true := by decide +kernel
theorem qd_X12_areClaims {pc : Nat} {ins : Instr} {len : Nat} (h : qc_X12_areClaims pc = some (ins, len)) : decode cX12_areClaims pc = .ok (ins, len) ∧ qok pc ins len = true := by
  refine qckD_of ?_ h
  by_cases h0 : pc < 9
  · have := List.all_eq_true.mp qd_X12_areClaims_0 (pc - 0) (List.mem_range.mpr (by omega))
    rwa [show 0 + (pc - 0) = pc by omega] at this
  exfalso; unfold qc_X12_areClaims at h; rw [qblt_f h0] at h; cases h
theorem qd_X12_many_0 : (List.range 26).all (fun j => qckD (qc_X12_many (0 + j)) cX12_many (0 + j)) = true := by decide +kernel
theorem qd_X12_many {pc : Nat} {ins : Instr} {len : Nat} (h : qc_X12_many pc = some (ins, len)) : decode cX12_many pc = .ok (ins, len) ∧ qok pc ins len = true := by
  refine qckD_of ?_ h
  by_cases h0 : pc < 26
  · have := List.all_eq_true.mp qd_X12_many_0 (pc - 0) (List.mem_range.mpr (by omega))
    rwa [show 0 + (pc - 0) = pc by omega] at this
  exfalso; unfold qc_X12_many at h; rw [qblt_f h0] at h; cases h
theorem qd_X12_writer_0 : (List.range 65).all (fun j => qckD (qc_X12_writer (0 + j)) cX12_writer (0 + j)) = true := by decide +kernel
theorem qd_X12_writer {pc : Nat} {ins : Instr} {len : Nat} (h : qc_X12_writer pc = some (ins, len)) : decode cX12_writer pc = .ok (ins, len) ∧ qok pc ins len = true := by
  refine qckD_of ?_ h
  by_cases h0 : pc < 65
  · have := List.all_eq_true.mp qd_X12_writer_0 (pc - 0) (List.mem_range.mpr (by omega))
    rwa [show 0 + (pc - 0) = pc by omega] at this
  exfalso; unfold qc_X12_writer at h; rw [qblt_f h0] at h; cases h
theorem qd_X12_truth_0 : (List.range 16).all (fun j => qckD (qc_X12_truth (0 + j)) cX12_truth (0 + j)) = true := by decide +kernel
theorem qd_X12_truth {pc : Nat} {ins : Instr} {len : Nat} (h : qc_X12_truth pc = some (ins, len)) : decode cX12_truth pc = .ok (ins, len) ∧ qok pc ins len = true := by
  refine qckD_of ?_ h
  by_cases h0 : pc < 16
  · have := List.all_eq_true.mp qd_X12_truth_0 (pc - 0) (List.mem_range.mpr (by omega))
    rwa [show 0 + (pc - 0) = pc by omega] at this
  exfalso; unfold qc_X12_truth at h; rw [qblt_f h0] at h; cases h
theorem qd_X12_isAhead_0 : (List.range 41).all (fun j => qckD (qc_X12_isAhead (0 + j)) cX12_isAhead (0 + j)) = true := by decide +kernel
theorem qd_X12_isAhead {pc : Nat} {ins : Instr} {len : Nat} (h : qc_X12_isAhead pc = some (ins, len)) : decode cX12_isAhead pc = .ok (ins, len) ∧ qok pc ins len = true := by
  refine qckD_of ?_ h
  by_cases h0 : pc < 41
  · have := List.all_eq_true.mp qd_X12_isAhead_0 (pc - 0) (List.mem_range.mpr (by omega))
    rwa [show 0 + (pc - 0) = pc by omega] at this
  exfalso; unfold qc_X12_isAhead at h; rw [qblt_f h0] at h; cases h
theorem qd_X12_first_0 : (List.range 62).all (fun j => qckD (qc_X12_first (0 + j)) cX12_first (0 + j)) = true := by decide +kernel
theorem qd_X12_first {pc : Nat} {ins : Instr} {len : Nat} (h : qc_X12_first pc = some (ins, len)) : decode cX12_first pc = .ok (ins, len) ∧ qok pc ins len = true := by
  refine qckD_of ?_ h
  by_cases h0 : pc < 62
  · have := List.all_eq_true.mp qd_X12_first_0 (pc - 0) (List.mem_range.mpr (by omega))
    rwa [show 0 + (pc - 0) = pc by omega] at this
  exfalso; unfold qc_X12_first at h; rw [qblt_f h0] at h; cases h
theorem qd_X12_copied_0 : (List.range 100).all (fun j => qckD (qc_X12_copied (0 + j)) cX12_copied (0 + j)) = true := by decide +kernel
theorem qd_X12_copied {pc : Nat} {ins : Instr} {len : Nat} (h : qc_X12_copied pc = some (ins, len)) : decode cX12_copied pc = .ok (ins, len) ∧ qok pc ins len = true := by
  refine qckD_of ?_ h
  by_cases h0 : pc < 100
  · have := List.all_eq_true.mp qd_X12_copied_0 (pc - 0) (List.mem_range.mpr (by omega))
    rwa [show 0 + (pc - 0) = pc by omega] at this
  exfalso; unfold qc_X12_copied at h; rw [qblt_f h0] at h; cases h
theorem qd_X12_story_0 : (List.range 60).all (fun j => qckD (qc_X12_story (0 + j)) cX12_story (0 + j)) = true := by decide +kernel
theorem qd_X12_story_1 : (List.range 60).all (fun j => qckD (qc_X12_story (60 + j)) cX12_story (60 + j)) = true := by decide +kernel
theorem qd_X12_story_2 : (List.range 11).all (fun j => qckD (qc_X12_story (120 + j)) cX12_story (120 + j)) = true := by decide +kernel
theorem qd_X12_story {pc : Nat} {ins : Instr} {len : Nat} (h : qc_X12_story pc = some (ins, len)) : decode cX12_story pc = .ok (ins, len) ∧ qok pc ins len = true := by
  refine qckD_of ?_ h
  by_cases h0 : pc < 60
  · have := List.all_eq_true.mp qd_X12_story_0 (pc - 0) (List.mem_range.mpr (by omega))
    rwa [show 0 + (pc - 0) = pc by omega] at this
  by_cases h1 : pc < 120
  · have := List.all_eq_true.mp qd_X12_story_1 (pc - 60) (List.mem_range.mpr (by omega))
    rwa [show 60 + (pc - 60) = pc by omega] at this
  by_cases h2 : pc < 131
  · have := List.all_eq_true.mp qd_X12_story_2 (pc - 120) (List.mem_range.mpr (by omega))
    rwa [show 120 + (pc - 120) = pc by omega] at this
  exfalso; unfold qc_X12_story at h; rw [qblt_f h2] at h; cases h
theorem qd_J6_lowestOneBit_0f7a4_0 : (List.range 5).all (fun j => qckD (qc_J6_lowestOneBit_0f7a4 (0 + j)) cJ6_lowestOneBit_0f7a4 (0 + j)) = true := by decide +kernel
theorem qd_J6_lowestOneBit_0f7a4 {pc : Nat} {ins : Instr} {len : Nat} (h : qc_J6_lowestOneBit_0f7a4 pc = some (ins, len)) : decode cJ6_lowestOneBit_0f7a4 pc = .ok (ins, len) ∧ qok pc ins len = true := by
  refine qckD_of ?_ h
  by_cases h0 : pc < 5
  · have := List.all_eq_true.mp qd_J6_lowestOneBit_0f7a4_0 (pc - 0) (List.mem_range.mpr (by omega))
    rwa [show 0 + (pc - 0) = pc by omega] at this
  exfalso; unfold qc_J6_lowestOneBit_0f7a4 at h; rw [qblt_f h0] at h; cases h
theorem qd_J6_numberOfTrailingZeros_0f7a4_0 : (List.range 80).all (fun j => qckD (qc_J6_numberOfTrailingZeros_0f7a4 (0 + j)) cJ6_numberOfTrailingZeros_0f7a4 (0 + j)) = true := by decide +kernel
theorem qd_J6_numberOfTrailingZeros_0f7a4 {pc : Nat} {ins : Instr} {len : Nat} (h : qc_J6_numberOfTrailingZeros_0f7a4 pc = some (ins, len)) : decode cJ6_numberOfTrailingZeros_0f7a4 pc = .ok (ins, len) ∧ qok pc ins len = true := by
  refine qckD_of ?_ h
  by_cases h0 : pc < 80
  · have := List.all_eq_true.mp qd_J6_numberOfTrailingZeros_0f7a4_0 (pc - 0) (List.mem_range.mpr (by omega))
    rwa [show 0 + (pc - 0) = pc by omega] at this
  exfalso; unfold qc_J6_numberOfTrailingZeros_0f7a4 at h; rw [qblt_f h0] at h; cases h
theorem qd_J6_bitCount_0f7a4_0 : (List.range 53).all (fun j => qckD (qc_J6_bitCount_0f7a4 (0 + j)) cJ6_bitCount_0f7a4 (0 + j)) = true := by decide +kernel
theorem qd_J6_bitCount_0f7a4 {pc : Nat} {ins : Instr} {len : Nat} (h : qc_J6_bitCount_0f7a4 pc = some (ins, len)) : decode cJ6_bitCount_0f7a4 pc = .ok (ins, len) ∧ qok pc ins len = true := by
  refine qckD_of ?_ h
  by_cases h0 : pc < 53
  · have := List.all_eq_true.mp qd_J6_bitCount_0f7a4_0 (pc - 0) (List.mem_range.mpr (by omega))
    rwa [show 0 + (pc - 0) = pc by omega] at this
  exfalso; unfold qc_J6_bitCount_0f7a4 at h; rw [qblt_f h0] at h; cases h
theorem qd_J13_numberOfTrailingZeros_95d88_0 : (List.range 26).all (fun j => qckD (qc_J13_numberOfTrailingZeros_95d88 (0 + j)) cJ13_numberOfTrailingZeros_95d88 (0 + j)) = true := by decide +kernel
theorem qd_J13_numberOfTrailingZeros_95d88 {pc : Nat} {ins : Instr} {len : Nat} (h : qc_J13_numberOfTrailingZeros_95d88 pc = some (ins, len)) : decode cJ13_numberOfTrailingZeros_95d88 pc = .ok (ins, len) ∧ qok pc ins len = true := by
  refine qckD_of ?_ h
  by_cases h0 : pc < 26
  · have := List.all_eq_true.mp qd_J13_numberOfTrailingZeros_95d88_0 (pc - 0) (List.mem_range.mpr (by omega))
    rwa [show 0 + (pc - 0) = pc by omega] at this
  exfalso; unfold qc_J13_numberOfTrailingZeros_95d88 at h; rw [qblt_f h0] at h; cases h
theorem qd_J13_bitCount_95d88_0 : (List.range 61).all (fun j => qckD (qc_J13_bitCount_95d88 (0 + j)) cJ13_bitCount_95d88 (0 + j)) = true := by decide +kernel
theorem qd_J13_bitCount_95d88 {pc : Nat} {ins : Instr} {len : Nat} (h : qc_J13_bitCount_95d88 pc = some (ins, len)) : decode cJ13_bitCount_95d88 pc = .ok (ins, len) ∧ qok pc ins len = true := by
  refine qckD_of ?_ h
  by_cases h0 : pc < 61
  · have := List.all_eq_true.mp qd_J13_bitCount_95d88_0 (pc - 0) (List.mem_range.mpr (by omega))
    rwa [show 0 + (pc - 0) = pc by omega] at this
  exfalso; unfold qc_J13_bitCount_95d88 at h; rw [qblt_f h0] at h; cases h
theorem qd_L_law_0 : (List.range 60).all (fun j => qckD (qc_L_law (0 + j)) cL_law (0 + j)) = true := by decide +kernel
theorem qd_L_law_1 : (List.range 60).all (fun j => qckD (qc_L_law (60 + j)) cL_law (60 + j)) = true := by decide +kernel
theorem qd_L_law_2 : (List.range 60).all (fun j => qckD (qc_L_law (120 + j)) cL_law (120 + j)) = true := by decide +kernel
theorem qd_L_law_3 : (List.range 60).all (fun j => qckD (qc_L_law (180 + j)) cL_law (180 + j)) = true := by decide +kernel
theorem qd_L_law_4 : (List.range 60).all (fun j => qckD (qc_L_law (240 + j)) cL_law (240 + j)) = true := by decide +kernel
theorem qd_L_law_5 : (List.range 60).all (fun j => qckD (qc_L_law (300 + j)) cL_law (300 + j)) = true := by decide +kernel
theorem qd_L_law_6 : (List.range 60).all (fun j => qckD (qc_L_law (360 + j)) cL_law (360 + j)) = true := by decide +kernel
theorem qd_L_law_7 : (List.range 60).all (fun j => qckD (qc_L_law (420 + j)) cL_law (420 + j)) = true := by decide +kernel
theorem qd_L_law_8 : (List.range 60).all (fun j => qckD (qc_L_law (480 + j)) cL_law (480 + j)) = true := by decide +kernel
theorem qd_L_law_9 : (List.range 60).all (fun j => qckD (qc_L_law (540 + j)) cL_law (540 + j)) = true := by decide +kernel
theorem qd_L_law_10 : (List.range 60).all (fun j => qckD (qc_L_law (600 + j)) cL_law (600 + j)) = true := by decide +kernel
theorem qd_L_law_11 : (List.range 60).all (fun j => qckD (qc_L_law (660 + j)) cL_law (660 + j)) = true := by decide +kernel
theorem qd_L_law_12 : (List.range 60).all (fun j => qckD (qc_L_law (720 + j)) cL_law (720 + j)) = true := by decide +kernel
theorem qd_L_law_13 : (List.range 60).all (fun j => qckD (qc_L_law (780 + j)) cL_law (780 + j)) = true := by decide +kernel
theorem qd_L_law_14 : (List.range 60).all (fun j => qckD (qc_L_law (840 + j)) cL_law (840 + j)) = true := by decide +kernel
theorem qd_L_law_15 : (List.range 60).all (fun j => qckD (qc_L_law (900 + j)) cL_law (900 + j)) = true := by decide +kernel
theorem qd_L_law_16 : (List.range 60).all (fun j => qckD (qc_L_law (960 + j)) cL_law (960 + j)) = true := by decide +kernel
theorem qd_L_law_17 : (List.range 60).all (fun j => qckD (qc_L_law (1020 + j)) cL_law (1020 + j)) = true := by decide +kernel
theorem qd_L_law_18 : (List.range 60).all (fun j => qckD (qc_L_law (1080 + j)) cL_law (1080 + j)) = true := by decide +kernel
theorem qd_L_law_19 : (List.range 60).all (fun j => qckD (qc_L_law (1140 + j)) cL_law (1140 + j)) = true := by decide +kernel
theorem qd_L_law_20 : (List.range 60).all (fun j => qckD (qc_L_law (1200 + j)) cL_law (1200 + j)) = true := by decide +kernel
theorem qd_L_law_21 : (List.range 60).all (fun j => qckD (qc_L_law (1260 + j)) cL_law (1260 + j)) = true := by decide +kernel
theorem qd_L_law_22 : (List.range 60).all (fun j => qckD (qc_L_law (1320 + j)) cL_law (1320 + j)) = true := by decide +kernel
theorem qd_L_law_23 : (List.range 60).all (fun j => qckD (qc_L_law (1380 + j)) cL_law (1380 + j)) = true := by decide +kernel
theorem qd_L_law_24 : (List.range 60).all (fun j => qckD (qc_L_law (1440 + j)) cL_law (1440 + j)) = true := by decide +kernel
theorem qd_L_law_25 : (List.range 60).all (fun j => qckD (qc_L_law (1500 + j)) cL_law (1500 + j)) = true := by decide +kernel
theorem qd_L_law_26 : (List.range 58).all (fun j => qckD (qc_L_law (1560 + j)) cL_law (1560 + j)) = true := by decide +kernel
theorem qd_L_law {pc : Nat} {ins : Instr} {len : Nat} (h : qc_L_law pc = some (ins, len)) : decode cL_law pc = .ok (ins, len) ∧ qok pc ins len = true := by
  refine qckD_of ?_ h
  by_cases h0 : pc < 60
  · have := List.all_eq_true.mp qd_L_law_0 (pc - 0) (List.mem_range.mpr (by omega))
    rwa [show 0 + (pc - 0) = pc by omega] at this
  by_cases h1 : pc < 120
  · have := List.all_eq_true.mp qd_L_law_1 (pc - 60) (List.mem_range.mpr (by omega))
    rwa [show 60 + (pc - 60) = pc by omega] at this
  by_cases h2 : pc < 180
  · have := List.all_eq_true.mp qd_L_law_2 (pc - 120) (List.mem_range.mpr (by omega))
    rwa [show 120 + (pc - 120) = pc by omega] at this
  by_cases h3 : pc < 240
  · have := List.all_eq_true.mp qd_L_law_3 (pc - 180) (List.mem_range.mpr (by omega))
    rwa [show 180 + (pc - 180) = pc by omega] at this
  by_cases h4 : pc < 300
  · have := List.all_eq_true.mp qd_L_law_4 (pc - 240) (List.mem_range.mpr (by omega))
    rwa [show 240 + (pc - 240) = pc by omega] at this
  by_cases h5 : pc < 360
  · have := List.all_eq_true.mp qd_L_law_5 (pc - 300) (List.mem_range.mpr (by omega))
    rwa [show 300 + (pc - 300) = pc by omega] at this
  by_cases h6 : pc < 420
  · have := List.all_eq_true.mp qd_L_law_6 (pc - 360) (List.mem_range.mpr (by omega))
    rwa [show 360 + (pc - 360) = pc by omega] at this
  by_cases h7 : pc < 480
  · have := List.all_eq_true.mp qd_L_law_7 (pc - 420) (List.mem_range.mpr (by omega))
    rwa [show 420 + (pc - 420) = pc by omega] at this
  by_cases h8 : pc < 540
  · have := List.all_eq_true.mp qd_L_law_8 (pc - 480) (List.mem_range.mpr (by omega))
    rwa [show 480 + (pc - 480) = pc by omega] at this
  by_cases h9 : pc < 600
  · have := List.all_eq_true.mp qd_L_law_9 (pc - 540) (List.mem_range.mpr (by omega))
    rwa [show 540 + (pc - 540) = pc by omega] at this
  by_cases h10 : pc < 660
  · have := List.all_eq_true.mp qd_L_law_10 (pc - 600) (List.mem_range.mpr (by omega))
    rwa [show 600 + (pc - 600) = pc by omega] at this
  by_cases h11 : pc < 720
  · have := List.all_eq_true.mp qd_L_law_11 (pc - 660) (List.mem_range.mpr (by omega))
    rwa [show 660 + (pc - 660) = pc by omega] at this
  by_cases h12 : pc < 780
  · have := List.all_eq_true.mp qd_L_law_12 (pc - 720) (List.mem_range.mpr (by omega))
    rwa [show 720 + (pc - 720) = pc by omega] at this
  by_cases h13 : pc < 840
  · have := List.all_eq_true.mp qd_L_law_13 (pc - 780) (List.mem_range.mpr (by omega))
    rwa [show 780 + (pc - 780) = pc by omega] at this
  by_cases h14 : pc < 900
  · have := List.all_eq_true.mp qd_L_law_14 (pc - 840) (List.mem_range.mpr (by omega))
    rwa [show 840 + (pc - 840) = pc by omega] at this
  by_cases h15 : pc < 960
  · have := List.all_eq_true.mp qd_L_law_15 (pc - 900) (List.mem_range.mpr (by omega))
    rwa [show 900 + (pc - 900) = pc by omega] at this
  by_cases h16 : pc < 1020
  · have := List.all_eq_true.mp qd_L_law_16 (pc - 960) (List.mem_range.mpr (by omega))
    rwa [show 960 + (pc - 960) = pc by omega] at this
  by_cases h17 : pc < 1080
  · have := List.all_eq_true.mp qd_L_law_17 (pc - 1020) (List.mem_range.mpr (by omega))
    rwa [show 1020 + (pc - 1020) = pc by omega] at this
  by_cases h18 : pc < 1140
  · have := List.all_eq_true.mp qd_L_law_18 (pc - 1080) (List.mem_range.mpr (by omega))
    rwa [show 1080 + (pc - 1080) = pc by omega] at this
  by_cases h19 : pc < 1200
  · have := List.all_eq_true.mp qd_L_law_19 (pc - 1140) (List.mem_range.mpr (by omega))
    rwa [show 1140 + (pc - 1140) = pc by omega] at this
  by_cases h20 : pc < 1260
  · have := List.all_eq_true.mp qd_L_law_20 (pc - 1200) (List.mem_range.mpr (by omega))
    rwa [show 1200 + (pc - 1200) = pc by omega] at this
  by_cases h21 : pc < 1320
  · have := List.all_eq_true.mp qd_L_law_21 (pc - 1260) (List.mem_range.mpr (by omega))
    rwa [show 1260 + (pc - 1260) = pc by omega] at this
  by_cases h22 : pc < 1380
  · have := List.all_eq_true.mp qd_L_law_22 (pc - 1320) (List.mem_range.mpr (by omega))
    rwa [show 1320 + (pc - 1320) = pc by omega] at this
  by_cases h23 : pc < 1440
  · have := List.all_eq_true.mp qd_L_law_23 (pc - 1380) (List.mem_range.mpr (by omega))
    rwa [show 1380 + (pc - 1380) = pc by omega] at this
  by_cases h24 : pc < 1500
  · have := List.all_eq_true.mp qd_L_law_24 (pc - 1440) (List.mem_range.mpr (by omega))
    rwa [show 1440 + (pc - 1440) = pc by omega] at this
  by_cases h25 : pc < 1560
  · have := List.all_eq_true.mp qd_L_law_25 (pc - 1500) (List.mem_range.mpr (by omega))
    rwa [show 1500 + (pc - 1500) = pc by omega] at this
  by_cases h26 : pc < 1618
  · have := List.all_eq_true.mp qd_L_law_26 (pc - 1560) (List.mem_range.mpr (by omega))
    rwa [show 1560 + (pc - 1560) = pc by omega] at this
  exfalso; unfold qc_L_law at h; rw [qblt_f h26] at h; cases h
theorem qcd_ok {k pc : Nat} {ins : Instr} {len : Nat} (hk : k < 306) (h : qcd k pc = some (ins, len)) : decode (qby k) pc = .ok (ins, len) ∧ qok pc ins len = true := by
  by_cases hk153 : k < 153
  · skip
    by_cases hk76 : k < 76
    · skip
      by_cases hk38 : k < 38
      · skip
        by_cases hk19 : k < 19
        · skip
          by_cases hk9 : k < 9
          · skip
            by_cases hk4 : k < 4
            · skip
              by_cases hk2 : k < 2
              · skip
                by_cases hk1 : k < 1
                · skip
                  have e : k = 0 := by omega
                  subst e; exact qd_X0_init h
                · skip
                  have e : k = 1 := by omega
                  subst e; exact qd_X0_moveCode h
              · skip
                by_cases hk3 : k < 3
                · skip
                  have e : k = 2 := by omega
                  subst e; exact qd_X0_tell h
                · skip
                  have e : k = 3 := by omega
                  subst e; exact qd_X0_play h
            · skip
              by_cases hk6 : k < 6
              · skip
                by_cases hk5 : k < 5
                · skip
                  have e : k = 4 := by omega
                  subst e; exact qd_X0_factOf h
                · skip
                  have e : k = 5 := by omega
                  subst e; exact qd_X0_emptyGame h
              · skip
                by_cases hk7 : k < 7
                · skip
                  have e : k = 6 := by omega
                  subst e; exact qd_X0_playedAlone h
                · skip
                  by_cases hk8 : k < 8
                  · skip
                    have e : k = 7 := by omega
                    subst e; exact qd_X0_answerTo h
                  · skip
                    have e : k = 8 := by omega
                    subst e; exact qd_X1_init h
          · skip
            by_cases hk14 : k < 14
            · skip
              by_cases hk11 : k < 11
              · skip
                by_cases hk10 : k < 10
                · skip
                  have e : k = 9 := by omega
                  subst e; exact qd_X1_isSquare h
                · skip
                  have e : k = 10 := by omega
                  subst e; exact qd_X1_isMove h
              · skip
                by_cases hk12 : k < 12
                · skip
                  have e : k = 11 := by omega
                  subst e; exact qd_X1_putPiece h
                · skip
                  by_cases hk13 : k < 13
                  · skip
                    have e : k = 12 := by omega
                    subst e; exact qd_X1_putStick h
                  · skip
                    have e : k = 13 := by omega
                    subst e; exact qd_X1_play h
            · skip
              by_cases hk16 : k < 16
              · skip
                by_cases hk15 : k < 15
                · skip
                  have e : k = 14 := by omega
                  subst e; exact qd_X1_factOf h
                · skip
                  have e : k = 15 := by omega
                  subst e; exact qd_X1_countWrong h
              · skip
                by_cases hk17 : k < 17
                · skip
                  have e : k = 16 := by omega
                  subst e; exact qd_X1_countOpen h
                · skip
                  by_cases hk18 : k < 18
                  · skip
                    have e : k = 17 := by omega
                    subst e; exact qd_X2_init h
                  · skip
                    have e : k = 18 := by omega
                    subst e; exact qd_X2_areNeighbours h
        · skip
          by_cases hk28 : k < 28
          · skip
            by_cases hk23 : k < 23
            · skip
              by_cases hk21 : k < 21
              · skip
                by_cases hk20 : k < 20
                · skip
                  have e : k = 19 := by omega
                  subst e; exact qd_X2_isSpace h
                · skip
                  have e : k = 20 := by omega
                  subst e; exact qd_X2_putWorks h
              · skip
                by_cases hk22 : k < 22
                · skip
                  have e : k = 21 := by omega
                  subst e; exact qd_X2_putWall h
                · skip
                  have e : k = 22 := by omega
                  subst e; exact qd_X2_putDoor h
            · skip
              by_cases hk25 : k < 25
              · skip
                by_cases hk24 : k < 24
                · skip
                  have e : k = 23 := by omega
                  subst e; exact qd_X2_shapeNumber h
                · skip
                  have e : k = 24 := by omega
                  subst e; exact qd_X2_worksNow h
              · skip
                by_cases hk26 : k < 26
                · skip
                  have e : k = 25 := by omega
                  subst e; exact qd_X2_freeSpaces h
                · skip
                  by_cases hk27 : k < 27
                  · skip
                    have e : k = 26 := by omega
                    subst e; exact qd_X2_sideOf h
                  · skip
                    have e : k = 27 := by omega
                    subst e; exact qd_X2_shownBy h
          · skip
            by_cases hk33 : k < 33
            · skip
              by_cases hk30 : k < 30
              · skip
                by_cases hk29 : k < 29
                · skip
                  have e : k = 28 := by omega
                  subst e; exact qd_X2_nextTo h
                · skip
                  have e : k = 29 := by omega
                  subst e; exact qd_X2_hangsTogether h
              · skip
                by_cases hk31 : k < 31
                · skip
                  have e : k = 30 := by omega
                  subst e; exact qd_X2_airAtFirst h
                · skip
                  by_cases hk32 : k < 32
                  · skip
                    have e : k = 31 := by omega
                    subst e; exact qd_X2_airLasts h
                  · skip
                    have e : k = 32 := by omega
                    subst e; exact qd_X2_airInAMinute h
            · skip
              by_cases hk35 : k < 35
              · skip
                by_cases hk34 : k < 34
                · skip
                  have e : k = 33 := by omega
                  subst e; exact qd_X3_init h
                · skip
                  have e : k = 34 := by omega
                  subst e; exact qd_X3_poseCount h
              · skip
                by_cases hk36 : k < 36
                · skip
                  have e : k = 35 := by omega
                  subst e; exact qd_X3_follow h
                · skip
                  by_cases hk37 : k < 37
                  · skip
                    have e : k = 36 := by omega
                    subst e; exact qd_X3_stayUnseen h
                  · skip
                    have e : k = 37 := by omega
                    subst e; exact qd_X3_outcome h
      · skip
        by_cases hk57 : k < 57
        · skip
          by_cases hk47 : k < 47
          · skip
            by_cases hk42 : k < 42
            · skip
              by_cases hk40 : k < 40
              · skip
                by_cases hk39 : k < 39
                · skip
                  have e : k = 38 := by omega
                  subst e; exact qd_X3_wayPose h
                · skip
                  have e : k = 39 := by omega
                  subst e; exact qd_X3_findGood h
              · skip
                by_cases hk41 : k < 41
                · skip
                  have e : k = 40 := by omega
                  subst e; exact qd_X3_writeGood h
                · skip
                  have e : k = 41 := by omega
                  subst e; exact qd_X3_readGood h
            · skip
              by_cases hk44 : k < 44
              · skip
                by_cases hk43 : k < 43
                · skip
                  have e : k = 42 := by omega
                  subst e; exact qd_X3_findRow h
                · skip
                  have e : k = 43 := by omega
                  subst e; exact qd_X3_rowFact h
              · skip
                by_cases hk45 : k < 45
                · skip
                  have e : k = 44 := by omega
                  subst e; exact qd_X3_tryRows h
                · skip
                  by_cases hk46 : k < 46
                  · skip
                    have e : k = 45 := by omega
                    subst e; exact qd_X3_tryDoor h
                  · skip
                    have e : k = 46 := by omega
                    subst e; exact qd_X3_keepIfBetter h
          · skip
            by_cases hk52 : k < 52
            · skip
              by_cases hk49 : k < 49
              · skip
                by_cases hk48 : k < 48
                · skip
                  have e : k = 47 := by omega
                  subst e; exact qd_X3_passesDoor h
                · skip
                  have e : k = 48 := by omega
                  subst e; exact qd_X3_findProof h
              · skip
                by_cases hk50 : k < 50
                · skip
                  have e : k = 49 := by omega
                  subst e; exact qd_X3_keepCommon h
                · skip
                  by_cases hk51 : k < 51
                  · skip
                    have e : k = 50 := by omega
                    subst e; exact qd_X3_isSame h
                  · skip
                    have e : k = 51 := by omega
                    subst e; exact qd_X3_isEmpty h
            · skip
              by_cases hk54 : k < 54
              · skip
                by_cases hk53 : k < 53
                · skip
                  have e : k = 52 := by omega
                  subst e; exact qd_X3_howMany h
                · skip
                  have e : k = 53 := by omega
                  subst e; exact qd_X3_least h
              · skip
                by_cases hk55 : k < 55
                · skip
                  have e : k = 54 := by omega
                  subst e; exact qd_X4_init h
                · skip
                  by_cases hk56 : k < 56
                  · skip
                    have e : k = 55 := by omega
                    subst e; exact qd_X4_isYear h
                  · skip
                    have e : k = 56 := by omega
                    subst e; exact qd_X4_isTown h
        · skip
          by_cases hk66 : k < 66
          · skip
            by_cases hk61 : k < 61
            · skip
              by_cases hk59 : k < 59
              · skip
                by_cases hk58 : k < 58
                · skip
                  have e : k = 57 := by omega
                  subst e; exact qd_X4_isStrength h
                · skip
                  have e : k = 58 := by omega
                  subst e; exact qd_X4_isAnswer h
              · skip
                by_cases hk60 : k < 60
                · skip
                  have e : k = 59 := by omega
                  subst e; exact qd_X4_isMaster h
                · skip
                  have e : k = 60 := by omega
                  subst e; exact qd_X4_isNight h
            · skip
              by_cases hk63 : k < 63
              · skip
                by_cases hk62 : k < 62
                · skip
                  have e : k = 61 := by omega
                  subst e; exact qd_X4_addMaster h
                · skip
                  have e : k = 62 := by omega
                  subst e; exact qd_X4_tellStay h
              · skip
                by_cases hk64 : k < 64
                · skip
                  have e : k = 63 := by omega
                  subst e; exact qd_X4_putHabit h
                · skip
                  by_cases hk65 : k < 65
                  · skip
                    have e : k = 64 := by omega
                    subst e; exact qd_X4_addNight h
                  · skip
                    have e : k = 65 := by omega
                    subst e; exact qd_X4_guessOne h
          · skip
            by_cases hk71 : k < 71
            · skip
              by_cases hk68 : k < 68
              · skip
                by_cases hk67 : k < 67
                · skip
                  have e : k = 66 := by omega
                  subst e; exact qd_X4_guessRun h
                · skip
                  have e : k = 67 := by omega
                  subst e; exact qd_X4_startWeights h
              · skip
                by_cases hk69 : k < 69
                · skip
                  have e : k = 68 := by omega
                  subst e; exact qd_X4_multiplyWeights h
                · skip
                  by_cases hk70 : k < 70
                  · skip
                    have e : k = 69 := by omega
                    subst e; exact qd_X4_shrinkWeights h
                  · skip
                    have e : k = 70 := by omega
                    subst e; exact qd_X4_oddsOf h
            · skip
              by_cases hk73 : k < 73
              · skip
                by_cases hk72 : k < 72
                · skip
                  have e : k = 71 := by omega
                  subst e; exact qd_X4_weightOf h
                · skip
                  have e : k = 72 := by omega
                  subst e; exact qd_X4_canHaveBeenThere h
              · skip
                by_cases hk74 : k < 74
                · skip
                  have e : k = 73 := by omega
                  subst e; exact qd_X4_gameWeight h
                · skip
                  by_cases hk75 : k < 75
                  · skip
                    have e : k = 74 := by omega
                    subst e; exact qd_X5_init h
                  · skip
                    have e : k = 75 := by omega
                    subst e; exact qd_X5_learn h
    · skip
      by_cases hk114 : k < 114
      · skip
        by_cases hk95 : k < 95
        · skip
          by_cases hk85 : k < 85
          · skip
            by_cases hk80 : k < 80
            · skip
              by_cases hk78 : k < 78
              · skip
                by_cases hk77 : k < 77
                · skip
                  have e : k = 76 := by omega
                  subst e; exact qd_X5_keep h
                · skip
                  have e : k = 77 := by omega
                  subst e; exact qd_X5_checkReason h
              · skip
                by_cases hk79 : k < 79
                · skip
                  have e : k = 78 := by omega
                  subst e; exact qd_X5_checkChoice h
                · skip
                  have e : k = 79 := by omega
                  subst e; exact qd_X5_checkCondition h
            · skip
              by_cases hk82 : k < 82
              · skip
                by_cases hk81 : k < 81
                · skip
                  have e : k = 80 := by omega
                  subst e; exact qd_X5_checkComparison h
                · skip
                  have e : k = 81 := by omega
                  subst e; exact qd_X5_checkSum h
              · skip
                by_cases hk83 : k < 83
                · skip
                  have e : k = 82 := by omega
                  subst e; exact qd_X5_checkUnit h
                · skip
                  by_cases hk84 : k < 84
                  · skip
                    have e : k = 83 := by omega
                    subst e; exact qd_X5_putFacts h
                  · skip
                    have e : k = 84 := by omega
                    subst e; exact qd_X5_reasonCount h
          · skip
            by_cases hk90 : k < 90
            · skip
              by_cases hk87 : k < 87
              · skip
                by_cases hk86 : k < 86
                · skip
                  have e : k = 85 := by omega
                  subst e; exact qd_X5_weigh h
                · skip
                  have e : k = 86 := by omega
                  subst e; exact qd_X5_code h
              · skip
                by_cases hk88 : k < 88
                · skip
                  have e : k = 87 := by omega
                  subst e; exact qd_X5_takes h
                · skip
                  by_cases hk89 : k < 89
                  · skip
                    have e : k = 88 := by omega
                    subst e; exact qd_X5_choiceHolds h
                  · skip
                    have e : k = 89 := by omega
                    subst e; exact qd_X5_conditionHolds h
            · skip
              by_cases hk92 : k < 92
              · skip
                by_cases hk91 : k < 91
                · skip
                  have e : k = 90 := by omega
                  subst e; exact qd_X5_comparisonHolds h
                · skip
                  have e : k = 91 := by omega
                  subst e; exact qd_X5_addUp h
              · skip
                by_cases hk93 : k < 93
                · skip
                  have e : k = 92 := by omega
                  subst e; exact qd_X5_takeUnit h
                · skip
                  by_cases hk94 : k < 94
                  · skip
                    have e : k = 93 := by omega
                    subst e; exact qd_X6_init h
                  · skip
                    have e : k = 94 := by omega
                    subst e; exact qd_X6_findFor h
        · skip
          by_cases hk104 : k < 104
          · skip
            by_cases hk99 : k < 99
            · skip
              by_cases hk97 : k < 97
              · skip
                by_cases hk96 : k < 96
                · skip
                  have e : k = 95 := by omega
                  subst e; exact qd_X6_findSets h
                · skip
                  have e : k = 96 := by omega
                  subst e; exact qd_X6_nextOfAsMany h
              · skip
                by_cases hk98 : k < 98
                · skip
                  have e : k = 97 := by omega
                  subst e; exact qd_X6_findMoves h
                · skip
                  have e : k = 98 := by omega
                  subst e; exact qd_X6_isMove h
            · skip
              by_cases hk101 : k < 101
              · skip
                by_cases hk100 : k < 100
                · skip
                  have e : k = 99 := by omega
                  subst e; exact qd_X6_howMany h
                · skip
                  have e : k = 100 := by omega
                  subst e; exact qd_X6_setOf h
              · skip
                by_cases hk102 : k < 102
                · skip
                  have e : k = 101 := by omega
                  subst e; exact qd_X6_spread h
                · skip
                  by_cases hk103 : k < 103
                  · skip
                    have e : k = 102 := by omega
                    subst e; exact qd_X6_spreadOne h
                  · skip
                    have e : k = 103 := by omega
                    subst e; exact qd_X6_findUnseen h
          · skip
            by_cases hk109 : k < 109
            · skip
              by_cases hk106 : k < 106
              · skip
                by_cases hk105 : k < 105
                · skip
                  have e : k = 104 := by omega
                  subst e; exact qd_X6_areAllSeen h
                · skip
                  have e : k = 105 := by omega
                  subst e; exact qd_X6_putRow h
              · skip
                by_cases hk107 : k < 107
                · skip
                  have e : k = 106 := by omega
                  subst e; exact qd_X7_init h
                · skip
                  by_cases hk108 : k < 108
                  · skip
                    have e : k = 107 := by omega
                    subst e; exact qd_X7_learn h
                  · skip
                    have e : k = 108 := by omega
                    subst e; exact qd_X7_learnStep h
            · skip
              by_cases hk111 : k < 111
              · skip
                by_cases hk110 : k < 110
                · skip
                  have e : k = 109 := by omega
                  subst e; exact qd_X7_isOfADoor h
                · skip
                  have e : k = 110 := by omega
                  subst e; exact qd_X7_stepCount h
              · skip
                by_cases hk112 : k < 112
                · skip
                  have e : k = 111 := by omega
                  subst e; exact qd_X7_perform h
                · skip
                  by_cases hk113 : k < 113
                  · skip
                    have e : k = 112 := by omega
                    subst e; exact qd_X7_takeStep h
                  · skip
                    have e : k = 113 := by omega
                    subst e; exact qd_X7_viewNow h
      · skip
        by_cases hk133 : k < 133
        · skip
          by_cases hk123 : k < 123
          · skip
            by_cases hk118 : k < 118
            · skip
              by_cases hk116 : k < 116
              · skip
                by_cases hk115 : k < 115
                · skip
                  have e : k = 114 := by omega
                  subst e; exact qd_X7_secondsOf h
                · skip
                  have e : k = 115 := by omega
                  subst e; exact qd_X7_viewOf h
              · skip
                by_cases hk117 : k < 117
                · skip
                  have e : k = 116 := by omega
                  subst e; exact qd_X7_allSeconds h
                · skip
                  have e : k = 117 := by omega
                  subst e; exact qd_X7_viewIn h
            · skip
              by_cases hk120 : k < 120
              · skip
                by_cases hk119 : k < 119
                · skip
                  have e : k = 118 := by omega
                  subst e; exact qd_X7_factOf h
                · skip
                  have e : k = 119 := by omega
                  subst e; exact qd_X8_init h
              · skip
                by_cases hk121 : k < 121
                · skip
                  have e : k = 120 := by omega
                  subst e; exact qd_X8_put h
                · skip
                  by_cases hk122 : k < 122
                  · skip
                    have e : k = 121 := by omega
                    subst e; exact qd_X8_append h
                  · skip
                    have e : k = 122 := by omega
                    subst e; exact qd_X8_multiplyBy h
          · skip
            by_cases hk128 : k < 128
            · skip
              by_cases hk125 : k < 125
              · skip
                by_cases hk124 : k < 124
                · skip
                  have e : k = 123 := by omega
                  subst e; exact qd_X8_divideBy h
                · skip
                  have e : k = 124 := by omega
                  subst e; exact qd_X8_dropEmptyParts h
              · skip
                by_cases hk126 : k < 126
                · skip
                  have e : k = 125 := by omega
                  subst e; exact qd_X8_add h
                · skip
                  by_cases hk127 : k < 127
                  · skip
                    have e : k = 126 := by omega
                    subst e; exact qd_X8_partAt h
                  · skip
                    have e : k = 127 := by omega
                    subst e; exact qd_X8_against h
            · skip
              by_cases hk130 : k < 130
              · skip
                by_cases hk129 : k < 129
                · skip
                  have e : k = 128 := by omega
                  subst e; exact qd_X9_init h
                · skip
                  have e : k = 129 := by omega
                  subst e; exact qd_X9_hasRoomFor h
              · skip
                by_cases hk131 : k < 131
                · skip
                  have e : k = 130 := by omega
                  subst e; exact qd_X9_append h
                · skip
                  by_cases hk132 : k < 132
                  · skip
                    have e : k = 131 := by omega
                    subst e; exact qd_X9_cutTo h
                  · skip
                    have e : k = 132 := by omega
                    subst e; exact qd_X9_forgetFault h
        · skip
          by_cases hk143 : k < 143
          · skip
            by_cases hk138 : k < 138
            · skip
              by_cases hk135 : k < 135
              · skip
                by_cases hk134 : k < 134
                · skip
                  have e : k = 133 := by omega
                  subst e; exact qd_X9_faultOf h
                · skip
                  have e : k = 134 := by omega
                  subst e; exact qd_X9_readTokens h
              · skip
                by_cases hk136 : k < 136
                · skip
                  have e : k = 135 := by omega
                  subst e; exact qd_X9_readToken h
                · skip
                  by_cases hk137 : k < 137
                  · skip
                    have e : k = 136 := by omega
                    subst e; exact qd_X9_signAt h
                  · skip
                    have e : k = 137 := by omega
                    subst e; exact qd_X9_isLetter h
            · skip
              by_cases hk140 : k < 140
              · skip
                by_cases hk139 : k < 139
                · skip
                  have e : k = 138 := by omega
                  subst e; exact qd_X9_isDigit h
                · skip
                  have e : k = 139 := by omega
                  subst e; exact qd_X9_letterEnd h
              · skip
                by_cases hk141 : k < 141
                · skip
                  have e : k = 140 := by omega
                  subst e; exact qd_X9_digitEnd h
                · skip
                  by_cases hk142 : k < 142
                  · skip
                    have e : k = 141 := by omega
                    subst e; exact qd_X9_numberCode h
                  · skip
                    have e : k = 142 := by omega
                    subst e; exact qd_X9_wordCode h
          · skip
            by_cases hk148 : k < 148
            · skip
              by_cases hk145 : k < 145
              · skip
                by_cases hk144 : k < 144
                · skip
                  have e : k = 143 := by omega
                  subst e; exact qd_X9_isSame h
                · skip
                  have e : k = 144 := by omega
                  subst e; exact qd_X9_addToken h
              · skip
                by_cases hk146 : k < 146
                · skip
                  have e : k = 145 := by omega
                  subst e; exact qd_X9_code h
                · skip
                  by_cases hk147 : k < 147
                  · skip
                    have e : k = 146 := by omega
                    subst e; exact qd_X9_tokenNumber h
                  · skip
                    have e : k = 147 := by omega
                    subst e; exact qd_X9_copyCodes h
            · skip
              by_cases hk150 : k < 150
              · skip
                by_cases hk149 : k < 149
                · skip
                  have e : k = 148 := by omega
                  subst e; exact qd_X9_word h
                · skip
                  have e : k = 149 := by omega
                  subst e; exact qd_X9_next h
              · skip
                by_cases hk151 : k < 151
                · skip
                  have e : k = 150 := by omega
                  subst e; exact qd_X9_takes h
                · skip
                  by_cases hk152 : k < 152
                  · skip
                    have e : k = 151 := by omega
                    subst e; exact qd_X9_needs h
                  · skip
                    have e : k = 152 := by omega
                    subst e; exact qd_X9_needsNumber h
  · skip
    by_cases hk229 : k < 229
    · skip
      by_cases hk191 : k < 191
      · skip
        by_cases hk172 : k < 172
        · skip
          by_cases hk162 : k < 162
          · skip
            by_cases hk157 : k < 157
            · skip
              by_cases hk155 : k < 155
              · skip
                by_cases hk154 : k < 154
                · skip
                  have e : k = 153 := by omega
                  subst e; exact qd_X9_fail h
                · skip
                  have e : k = 154 := by omega
                  subst e; exact qd_X10_init h
              · skip
                by_cases hk156 : k < 156
                · skip
                  have e : k = 155 := by omega
                  subst e; exact qd_X10_add h
                · skip
                  have e : k = 156 := by omega
                  subst e; exact qd_X10_putTruth h
            · skip
              by_cases hk159 : k < 159
              · skip
                by_cases hk158 : k < 158
                · skip
                  have e : k = 157 := by omega
                  subst e; exact qd_X10_firstWith h
                · skip
                  have e : k = 158 := by omega
                  subst e; exact qd_X10_factOf h
              · skip
                by_cases hk160 : k < 160
                · skip
                  have e : k = 159 := by omega
                  subst e; exact qd_X10_isWriter h
                · skip
                  by_cases hk161 : k < 161
                  · skip
                    have e : k = 160 := by omega
                    subst e; exact qd_X10_wroteBefore h
                  · skip
                    have e : k = 161 := by omega
                    subst e; exact qd_X10_copiedFrom h
          · skip
            by_cases hk167 : k < 167
            · skip
              by_cases hk164 : k < 164
              · skip
                by_cases hk163 : k < 163
                · skip
                  have e : k = 162 := by omega
                  subst e; exact qd_X10_walkLine h
                · skip
                  have e : k = 163 := by omega
                  subst e; exact qd_X11_init h
              · skip
                by_cases hk165 : k < 165
                · skip
                  have e : k = 164 := by omega
                  subst e; exact qd_X11_works h
                · skip
                  by_cases hk166 : k < 166
                  · skip
                    have e : k = 165 := by omega
                    subst e; exact qd_X11_wall h
                  · skip
                    have e : k = 166 := by omega
                    subst e; exact qd_X11_door h
            · skip
              by_cases hk169 : k < 169
              · skip
                by_cases hk168 : k < 168
                · skip
                  have e : k = 167 := by omega
                  subst e; exact qd_X11_feed h
                · skip
                  have e : k = 168 := by omega
                  subst e; exact qd_X11_end h
              · skip
                by_cases hk170 : k < 170
                · skip
                  have e : k = 169 := by omega
                  subst e; exact qd_X11_text h
                · skip
                  by_cases hk171 : k < 171
                  · skip
                    have e : k = 170 := by omega
                    subst e; exact qd_X11_fault h
                  · skip
                    have e : k = 171 := by omega
                    subst e; exact qd_X11_poses h
        · skip
          by_cases hk181 : k < 181
          · skip
            by_cases hk176 : k < 176
            · skip
              by_cases hk174 : k < 174
              · skip
                by_cases hk173 : k < 173
                · skip
                  have e : k = 172 := by omega
                  subst e; exact qd_X11_seen h
                · skip
                  have e : k = 173 := by omega
                  subst e; exact qd_X11_run h
              · skip
                by_cases hk175 : k < 175
                · skip
                  have e : k = 174 := by omega
                  subst e; exact qd_X11_hide h
                · skip
                  have e : k = 175 := by omega
                  subst e; exact qd_X11_way h
            · skip
              by_cases hk178 : k < 178
              · skip
                by_cases hk177 : k < 177
                · skip
                  have e : k = 176 := by omega
                  subst e; exact qd_X11_order h
                · skip
                  have e : k = 177 := by omega
                  subst e; exact qd_X11_proof h
              · skip
                by_cases hk179 : k < 179
                · skip
                  have e : k = 178 := by omega
                  subst e; exact qd_X11_reason h
                · skip
                  by_cases hk180 : k < 180
                  · skip
                    have e : k = 179 := by omega
                    subst e; exact qd_X11_pamphlet h
                  · skip
                    have e : k = 180 := by omega
                    subst e; exact qd_X11_air h
          · skip
            by_cases hk186 : k < 186
            · skip
              by_cases hk183 : k < 183
              · skip
                by_cases hk182 : k < 182
                · skip
                  have e : k = 181 := by omega
                  subst e; exact qd_X11_piece h
                · skip
                  have e : k = 182 := by omega
                  subst e; exact qd_X11_stick h
              · skip
                by_cases hk184 : k < 184
                · skip
                  have e : k = 183 := by omega
                  subst e; exact qd_X11_move h
                · skip
                  by_cases hk185 : k < 185
                  · skip
                    have e : k = 184 := by omega
                    subst e; exact qd_X11_board h
                  · skip
                    have e : k = 185 := by omega
                    subst e; exact qd_X11_master h
            · skip
              by_cases hk188 : k < 188
              · skip
                by_cases hk187 : k < 187
                · skip
                  have e : k = 186 := by omega
                  subst e; exact qd_X11_was h
                · skip
                  have e : k = 187 := by omega
                  subst e; exact qd_X11_habit h
              · skip
                by_cases hk189 : k < 189
                · skip
                  have e : k = 188 := by omega
                  subst e; exact qd_X11_night h
                · skip
                  by_cases hk190 : k < 190
                  · skip
                    have e : k = 189 := by omega
                    subst e; exact qd_X11_who h
                  · skip
                    have e : k = 190 := by omega
                    subst e; exact qd_X11_all h
      · skip
        by_cases hk210 : k < 210
        · skip
          by_cases hk200 : k < 200
          · skip
            by_cases hk195 : k < 195
            · skip
              by_cases hk193 : k < 193
              · skip
                by_cases hk192 : k < 192
                · skip
                  have e : k = 191 := by omega
                  subst e; exact qd_X11_cam h
                · skip
                  have e : k = 192 := by omega
                  subst e; exact qd_X11_game h
              · skip
                by_cases hk194 : k < 194
                · skip
                  have e : k = 193 := by omega
                  subst e; exact qd_X11_alone h
                · skip
                  have e : k = 194 := by omega
                  subst e; exact qd_X11_writer h
            · skip
              by_cases hk197 : k < 197
              · skip
                by_cases hk196 : k < 196
                · skip
                  have e : k = 195 := by omega
                  subst e; exact qd_X11_truth h
                · skip
                  have e : k = 196 := by omega
                  subst e; exact qd_X11_first h
              · skip
                by_cases hk198 : k < 198
                · skip
                  have e : k = 197 := by omega
                  subst e; exact qd_X11_story h
                · skip
                  by_cases hk199 : k < 199
                  · skip
                    have e : k = 198 := by omega
                    subst e; exact qd_X11_isChest h
                  · skip
                    have e : k = 199 := by omega
                    subst e; exact qd_X11_isShow h
          · skip
            by_cases hk205 : k < 205
            · skip
              by_cases hk202 : k < 202
              · skip
                by_cases hk201 : k < 201
                · skip
                  have e : k = 200 := by omega
                  subst e; exact qd_X11_isSize h
                · skip
                  have e : k = 201 := by omega
                  subst e; exact qd_X11_isDoorSet h
              · skip
                by_cases hk203 : k < 203
                · skip
                  have e : k = 202 := by omega
                  subst e; exact qd_X11_learnShow h
                · skip
                  by_cases hk204 : k < 204
                  · skip
                    have e : k = 203 := by omega
                    subst e; exact qd_X11_isManTrue h
                  · skip
                    have e : k = 204 := by omega
                    subst e; exact qd_X11_learnFacts h
            · skip
              by_cases hk207 : k < 207
              · skip
                by_cases hk206 : k < 206
                · skip
                  have e : k = 205 := by omega
                  subst e; exact qd_X12_init h
                · skip
                  have e : k = 206 := by omega
                  subst e; exact qd_X12_isIn h
              · skip
                by_cases hk208 : k < 208
                · skip
                  have e : k = 207 := by omega
                  subst e; exact qd_X12_isChest h
                · skip
                  by_cases hk209 : k < 209
                  · skip
                    have e : k = 208 := by omega
                    subst e; exact qd_X12_isSpace h
                  · skip
                    have e : k = 209 := by omega
                    subst e; exact qd_X12_isShow h
        · skip
          by_cases hk219 : k < 219
          · skip
            by_cases hk214 : k < 214
            · skip
              by_cases hk212 : k < 212
              · skip
                by_cases hk211 : k < 211
                · skip
                  have e : k = 210 := by omega
                  subst e; exact qd_X12_isSize h
                · skip
                  have e : k = 211 := by omega
                  subst e; exact qd_X12_bits h
              · skip
                by_cases hk213 : k < 213
                · skip
                  have e : k = 212 := by omega
                  subst e; exact qd_X12_apart h
                · skip
                  have e : k = 213 := by omega
                  subst e; exact qd_X12_areNeighbours h
            · skip
              by_cases hk216 : k < 216
              · skip
                by_cases hk215 : k < 215
                · skip
                  have e : k = 214 := by omega
                  subst e; exact qd_X12_works h
                · skip
                  have e : k = 215 := by omega
                  subst e; exact qd_X12_wall h
              · skip
                by_cases hk217 : k < 217
                · skip
                  have e : k = 216 := by omega
                  subst e; exact qd_X12_isSet h
                · skip
                  by_cases hk218 : k < 218
                  · skip
                    have e : k = 217 := by omega
                    subst e; exact qd_X12_door h
                  · skip
                    have e : k = 218 := by omega
                    subst e; exact qd_X12_isPassage h
          · skip
            by_cases hk224 : k < 224
            · skip
              by_cases hk221 : k < 221
              · skip
                by_cases hk220 : k < 220
                · skip
                  have e : k = 219 := by omega
                  subst e; exact qd_X12_hangs h
                · skip
                  have e : k = 220 := by omega
                  subst e; exact qd_X12_findsPoses h
              · skip
                by_cases hk222 : k < 222
                · skip
                  have e : k = 221 := by omega
                  subst e; exact qd_X12_poses h
                · skip
                  by_cases hk223 : k < 223
                  · skip
                    have e : k = 222 := by omega
                    subst e; exact qd_X12_feed h
                  · skip
                    have e : k = 223 := by omega
                    subst e; exact qd_X12_end h
            · skip
              by_cases hk226 : k < 226
              · skip
                by_cases hk225 : k < 225
                · skip
                  have e : k = 224 := by omega
                  subst e; exact qd_X12_see h
                · skip
                  have e : k = 225 := by omega
                  subst e; exact qd_X12_isLetter h
              · skip
                by_cases hk227 : k < 227
                · skip
                  have e : k = 226 := by omega
                  subst e; exact qd_X12_isDigit h
                · skip
                  by_cases hk228 : k < 228
                  · skip
                    have e : k = 227 := by omega
                    subst e; exact qd_X12_is h
                  · skip
                    have e : k = 228 := by omega
                    subst e; exact qd_X12_showWord h
    · skip
      by_cases hk267 : k < 267
      · skip
        by_cases hk248 : k < 248
        · skip
          by_cases hk238 : k < 238
          · skip
            by_cases hk233 : k < 233
            · skip
              by_cases hk231 : k < 231
              · skip
                by_cases hk230 : k < 230
                · skip
                  have e : k = 229 := by omega
                  subst e; exact qd_X12_word h
                · skip
                  have e : k = 230 := by omega
                  subst e; exact qd_X12_isSign h
              · skip
                by_cases hk232 : k < 232
                · skip
                  have e : k = 231 := by omega
                  subst e; exact qd_X12_next0 h
                · skip
                  have e : k = 232 := by omega
                  subst e; exact qd_X12_bad h
            · skip
              by_cases hk235 : k < 235
              · skip
                by_cases hk234 : k < 234
                · skip
                  have e : k = 233 := by omega
                  subst e; exact qd_X12_need h
                · skip
                  have e : k = 234 := by omega
                  subst e; exact qd_X12_number h
              · skip
                by_cases hk236 : k < 236
                · skip
                  have e : k = 235 := by omega
                  subst e; exact qd_X12_lay h
                · skip
                  by_cases hk237 : k < 237
                  · skip
                    have e : k = 236 := by omega
                    subst e; exact qd_X12_opens h
                  · skip
                    have e : k = 237 := by omega
                    subst e; exact qd_X12_sumUp h
          · skip
            by_cases hk243 : k < 243
            · skip
              by_cases hk240 : k < 240
              · skip
                by_cases hk239 : k < 239
                · skip
                  have e : k = 238 := by omega
                  subst e; exact qd_X12_product h
                · skip
                  have e : k = 239 := by omega
                  subst e; exact qd_X12_unit h
              · skip
                by_cases hk241 : k < 241
                · skip
                  have e : k = 240 := by omega
                  subst e; exact qd_X12_any h
                · skip
                  by_cases hk242 : k < 242
                  · skip
                    have e : k = 241 := by omega
                    subst e; exact qd_X12_every h
                  · skip
                    have e : k = 242 := by omega
                    subst e; exact qd_X12_one h
            · skip
              by_cases hk245 : k < 245
              · skip
                by_cases hk244 : k < 244
                · skip
                  have e : k = 243 := by omega
                  subst e; exact qd_X12_aStep h
                · skip
                  have e : k = 244 := by omega
                  subst e; exact qd_X12_aReason h
              · skip
                by_cases hk246 : k < 246
                · skip
                  have e : k = 245 := by omega
                  subst e; exact qd_X12_text h
                · skip
                  by_cases hk247 : k < 247
                  · skip
                    have e : k = 246 := by omega
                    subst e; exact qd_X12_keepsShow h
                  · skip
                    have e : k = 247 := by omega
                    subst e; exact qd_X12_keepsReasons h
        · skip
          by_cases hk257 : k < 257
          · skip
            by_cases hk252 : k < 252
            · skip
              by_cases hk250 : k < 250
              · skip
                by_cases hk249 : k < 249
                · skip
                  have e : k = 248 := by omega
                  subst e; exact qd_X12_fault h
                · skip
                  have e : k = 249 := by omega
                  subst e; exact qd_X12_sees h
              · skip
                by_cases hk251 : k < 251
                · skip
                  have e : k = 250 := by omega
                  subst e; exact qd_X12_through h
                · skip
                  have e : k = 251 := by omega
                  subst e; exact qd_X12_begins h
            · skip
              by_cases hk254 : k < 254
              · skip
                by_cases hk253 : k < 253
                · skip
                  have e : k = 252 := by omega
                  subst e; exact qd_X12_does h
                · skip
                  have e : k = 253 := by omega
                  subst e; exact qd_X12_shows h
              · skip
                by_cases hk255 : k < 255
                · skip
                  have e : k = 254 := by omega
                  subst e; exact qd_X12_seen h
                · skip
                  by_cases hk256 : k < 256
                  · skip
                    have e : k = 255 := by omega
                    subst e; exact qd_X12_run h
                  · skip
                    have e : k = 256 := by omega
                    subst e; exact qd_X12_isMove h
          · skip
            by_cases hk262 : k < 262
            · skip
              by_cases hk259 : k < 259
              · skip
                by_cases hk258 : k < 258
                · skip
                  have e : k = 257 := by omega
                  subst e; exact qd_X12_hides h
                · skip
                  have e : k = 258 := by omega
                  subst e; exact qd_X12_hide h
              · skip
                by_cases hk260 : k < 260
                · skip
                  have e : k = 259 := by omega
                  subst e; exact qd_X12_isGoing h
                · skip
                  by_cases hk261 : k < 261
                  · skip
                    have e : k = 260 := by omega
                    subst e; exact qd_X12_leadsBack h
                  · skip
                    have e : k = 261 := by omega
                    subst e; exact qd_X12_way h
            · skip
              by_cases hk264 : k < 264
              · skip
                by_cases hk263 : k < 263
                · skip
                  have e : k = 262 := by omega
                  subst e; exact qd_X12_tries h
                · skip
                  have e : k = 263 := by omega
                  subst e; exact qd_X12_order h
              · skip
                by_cases hk265 : k < 265
                · skip
                  have e : k = 264 := by omega
                  subst e; exact qd_X12_proof h
                · skip
                  by_cases hk266 : k < 266
                  · skip
                    have e : k = 265 := by omega
                    subst e; exact qd_X12_fact h
                  · skip
                    have e : k = 266 := by omega
                    subst e; exact qd_X12_both h
      · skip
        by_cases hk286 : k < 286
        · skip
          by_cases hk276 : k < 276
          · skip
            by_cases hk271 : k < 271
            · skip
              by_cases hk269 : k < 269
              · skip
                by_cases hk268 : k < 268
                · skip
                  have e : k = 267 := by omega
                  subst e; exact qd_X12_comesTo h
                · skip
                  have e : k = 268 := by omega
                  subst e; exact qd_X12_isMan h
              · skip
                by_cases hk270 : k < 270
                · skip
                  have e : k = 269 := by omega
                  subst e; exact qd_X12_weighs h
                · skip
                  have e : k = 270 := by omega
                  subst e; exact qd_X12_reason h
            · skip
              by_cases hk273 : k < 273
              · skip
                by_cases hk272 : k < 272
                · skip
                  have e : k = 271 := by omega
                  subst e; exact qd_X12_pamphlet h
                · skip
                  have e : k = 272 := by omega
                  subst e; exact qd_X12_airOf h
              · skip
                by_cases hk274 : k < 274
                · skip
                  have e : k = 273 := by omega
                  subst e; exact qd_X12_air h
                · skip
                  by_cases hk275 : k < 275
                  · skip
                    have e : k = 274 := by omega
                    subst e; exact qd_X12_isSquare h
                  · skip
                    have e : k = 275 := by omega
                    subst e; exact qd_X12_piece h
          · skip
            by_cases hk281 : k < 281
            · skip
              by_cases hk278 : k < 278
              · skip
                by_cases hk277 : k < 277
                · skip
                  have e : k = 276 := by omega
                  subst e; exact qd_X12_stick h
                · skip
                  have e : k = 277 := by omega
                  subst e; exact qd_X12_move h
              · skip
                by_cases hk279 : k < 279
                · skip
                  have e : k = 278 := by omega
                  subst e; exact qd_X12_board h
                · skip
                  by_cases hk280 : k < 280
                  · skip
                    have e : k = 279 := by omega
                    subst e; exact qd_X12_isMaster h
                  · skip
                    have e : k = 280 := by omega
                    subst e; exact qd_X12_master h
            · skip
              by_cases hk283 : k < 283
              · skip
                by_cases hk282 : k < 282
                · skip
                  have e : k = 281 := by omega
                  subst e; exact qd_X12_was h
                · skip
                  have e : k = 282 := by omega
                  subst e; exact qd_X12_habit h
              · skip
                by_cases hk284 : k < 284
                · skip
                  have e : k = 283 := by omega
                  subst e; exact qd_X12_night h
                · skip
                  by_cases hk285 : k < 285
                  · skip
                    have e : k = 284 := by omega
                    subst e; exact qd_X12_mayBe h
                  · skip
                    have e : k = 285 := by omega
                    subst e; exact qd_X12_weight h
        · skip
          by_cases hk296 : k < 296
          · skip
            by_cases hk291 : k < 291
            · skip
              by_cases hk288 : k < 288
              · skip
                by_cases hk287 : k < 287
                · skip
                  have e : k = 286 := by omega
                  subst e; exact qd_X12_who h
                · skip
                  have e : k = 287 := by omega
                  subst e; exact qd_X12_all h
              · skip
                by_cases hk289 : k < 289
                · skip
                  have e : k = 288 := by omega
                  subst e; exact qd_X12_cam h
                · skip
                  by_cases hk290 : k < 290
                  · skip
                    have e : k = 289 := by omega
                    subst e; exact qd_X12_game h
                  · skip
                    have e : k = 290 := by omega
                    subst e; exact qd_X12_answer h
            · skip
              by_cases hk293 : k < 293
              · skip
                by_cases hk292 : k < 292
                · skip
                  have e : k = 291 := by omega
                  subst e; exact qd_X12_alone h
                · skip
                  have e : k = 292 := by omega
                  subst e; exact qd_X12_areClaims h
              · skip
                by_cases hk294 : k < 294
                · skip
                  have e : k = 293 := by omega
                  subst e; exact qd_X12_many h
                · skip
                  by_cases hk295 : k < 295
                  · skip
                    have e : k = 294 := by omega
                    subst e; exact qd_X12_writer h
                  · skip
                    have e : k = 295 := by omega
                    subst e; exact qd_X12_truth h
          · skip
            by_cases hk301 : k < 301
            · skip
              by_cases hk298 : k < 298
              · skip
                by_cases hk297 : k < 297
                · skip
                  have e : k = 296 := by omega
                  subst e; exact qd_X12_isAhead h
                · skip
                  have e : k = 297 := by omega
                  subst e; exact qd_X12_first h
              · skip
                by_cases hk299 : k < 299
                · skip
                  have e : k = 298 := by omega
                  subst e; exact qd_X12_copied h
                · skip
                  by_cases hk300 : k < 300
                  · skip
                    have e : k = 299 := by omega
                    subst e; exact qd_X12_story h
                  · skip
                    have e : k = 300 := by omega
                    subst e; exact qd_J6_lowestOneBit_0f7a4 h
            · skip
              by_cases hk303 : k < 303
              · skip
                by_cases hk302 : k < 302
                · skip
                  have e : k = 301 := by omega
                  subst e; exact qd_J6_numberOfTrailingZeros_0f7a4 h
                · skip
                  have e : k = 302 := by omega
                  subst e; exact qd_J6_bitCount_0f7a4 h
              · skip
                by_cases hk304 : k < 304
                · skip
                  have e : k = 303 := by omega
                  subst e; exact qd_J13_numberOfTrailingZeros_95d88 h
                · skip
                  by_cases hk305 : k < 305
                  · skip
                    have e : k = 304 := by omega
                    subst e; exact qd_J13_bitCount_95d88 h
                  · skip
                    have e : k = 305 := by omega
                    subst e; exact qd_L_law h
