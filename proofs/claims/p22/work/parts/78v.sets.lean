/-! the class's sets of as many: all of them, in their order -/
noncomputable def gosN (m : Nat) : Nat := (gosF (m : Int)).toNat
noncomputable def gN (m : Nat) : Nat → Nat
  | 0 => m
  | i + 1 => gN (gosN m) i
/-- the first i sets that are poses -/
noncomputable def fpG (w : qW) (c k m i : Nat) : List Nat := ((List.range i).map (gN m)).filter (fpd w c k)
theorem fpG_y {w : qW} {c k m i : Nat} (h : fpd w c k (gN m i) = true) : fpG w c k m (i + 1) = fpG w c k m i ++ [gN m i] := by
  unfold fpG
  rw [List.range_succ, List.map_append, List.filter_append]
  show _ ++ List.filter (fpd w c k) [gN m i] = _
  rw [List.filter_cons_of_pos h]; rfl
theorem fpG_n {w : qW} {c k m i : Nat} (h : fpd w c k (gN m i) = false) : fpG w c k m (i + 1) = fpG w c k m i := by
  unfold fpG
  rw [List.range_succ, List.map_append, List.filter_append]
  show _ ++ List.filter (fpd w c k) [gN m i] = _
  rw [List.filter_cons_of_neg (by rw [h]; exact Bool.false_ne_true)]
  exact List.append_nil _
