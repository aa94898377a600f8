/-! the run of the plain program is the machine's -/
section QX
variable {p : Program} {l : Launch} {e : Env} {R : Room} {s : State} {m : MethodId} {args : Array Value} {below : List Frame} {meth : Method} {c : Code} {Q : State → Prop}
variable {D : va_G} {A : Nat → Prop} {H0 : Heap} {sa : Nat → Nat} {sc : Option (Nat × (Nat → Int))} {k : Nat}
theorem q_any (F : qFx p s m args meth c A H0 sa sc k) (ins : Instr) : qStep p l e R s m args below meth c Q D A H0 sa sc k ins := by
  cases ins
  case iload i => exact q_iload F
  case iload_n i => exact q_iload_n F
  case lload i => exact q_lload F
  case lload_n i => exact q_lload_n F
  case aload i => exact q_aload F
  case aload_n i => exact q_aload_n F
  case istore i => exact q_istore F
  case istore_n i => exact q_istore_n F
  case lstore i => exact q_lstore F
  case lstore_n i => exact q_lstore_n F
  case astore_n i => exact q_astore_n F
  case iinc i v => exact q_iinc F
  case iconst i => exact q_iconst F
  case bipush i => exact q_bipush F
  case sipush i => exact q_sipush F
  case lconst i => exact q_lconst F
  case aconst_null => exact q_aconst_null F
  case ldc i => exact q_ldc F
  case ldc_w i => exact q_ldc_w F
  case ldc2_w i => exact q_ldc2_w F
  case dup => exact q_dup F
  case dup2 => exact q_dup2 F
  case pop => exact q_pop F
  case iadd => exact q_iadd F
  case isub => exact q_isub F
  case imul => exact q_imul F
  case idiv => exact q_idiv F
  case irem => exact q_irem F
  case ineg => exact q_ineg F
  case iand => exact q_iand F
  case ior => exact q_ior F
  case ixor => exact q_ixor F
  case ishl => exact q_ishl F
  case ishr => exact q_ishr F
  case iushr => exact q_iushr F
  case ladd => exact q_ladd F
  case lsub => exact q_lsub F
  case lmul => exact q_lmul F
  case ldiv => exact q_ldiv F
  case land => exact q_land F
  case lor => exact q_lor F
  case lshl => exact q_lshl F
  case lushr => exact q_lushr F
  case lcmp => exact q_lcmp F
  case i2l => exact q_i2l F
  case l2i => exact q_l2i F
  case i2b => exact q_i2b F
  case i2c => exact q_i2c F
  case goto o => exact q_goto F
  case ifCond c o => exact q_ifCond F
  case if_icmp c o => exact q_if_icmp F
  case if_acmp c o => exact q_if_acmp F
  case tableswitch a b c d => exact q_tableswitch F
  case getfield i => exact q_getfield F
  case putfield i => exact q_putfield F
  case iaload => exact q_iaload F
  case baload => exact q_baload F
  case laload => exact q_laload F
  case aaload => exact q_aaload F
  case iastore => exact q_iastore F
  case bastore => exact q_bastore F
  case lastore => exact q_lastore F
  case aastore => exact q_aastore F
  case arraylength => exact q_arraylength F
  case new i => exact q_new F
  case newarray a => exact q_newarray F
  case anewarray i => exact q_anewarray F
  case multianewarray i d => exact q_multianewarray F
  all_goals
    intro len pc ls st w n pc' ls' st' w' n' ad ac arr H locs cells slots hd ho h X hr kk
    have h : (none : Option qC) = some (pc', ls', st', w', n') := h
    cases h
end QX
theorem qs1_mono {sc : Option (Nat × (Nat → Int))} {k len pc n pc' n' : Nat} {ins : Instr} {ls st ls' st' : List qV} {w w' : qW} (h : qs1 sc k ins len pc ls st w n = some (pc', ls', st', w', n')) : n ≤ n' := by
  cases ins
  case tableswitch d lo hi offs =>
    simp only [qs1] at h
    split at h
    · rcases qtsw_of _ _ h with ⟨j, o, h1, h2, h3⟩ | ⟨h1, h2⟩
      · cases h3; exact Nat.le_refl _
      · cases h2; exact Nat.le_refl _
    · cases h
  case ifCond cd off =>
    simp only [qs1] at h
    split at h
    · cases cd <;> simp only [qbr] at h <;> (split at h <;> (cases h; exact Nat.le_refl _))
    · cases h
  case if_icmp cd off =>
    simp only [qs1] at h
    split at h
    · cases cd <;> simp only [qbr] at h <;> (split at h <;> (cases h; exact Nat.le_refl _))
    · cases h
  all_goals
    first
      | (have h : (none : Option qC) = some (pc', ls', st', w', n') := h; cases h; done)
      | (simp only [qs1] at h <;> (repeat' split at h) <;> first | (cases h; omega) | cases h)
noncomputable def qMono (X : qXt) : Prop := ∀ sc d k pc ls st w n v w' n', X sc d k pc ls st w n = some (v, w', n') → n ≤ n' ∧ (v = (9, 0) ∨ ∃ x, v = (0, x))
theorem qac_n {pc n pc' n' : Nat} {ls st ls' st' : List qV} {w w' : qW} (h : qac pc ls st w n = some (pc', ls', st', w', n')) : n' = n := by
  unfold qac at h
  (repeat' split at h) <;> first | (cases h; rfl) | cases h
theorem qmt_n {t pc n pc' n' : Nat} {ls st ls' st' : List qV} {w w' : qW} (h : qmt t pc ls st w n = some (pc', ls', st', w', n')) : n' = n := by
  unfold qmt at h
  (repeat' split at h) <;> first | (cases h; rfl) | cases h
theorem qgo_mono {X : qXt} (hX : qMono X) {sc : Option (Nat × (Nat → Int))} {d k n : Nat} {o : Option qC} {v : qV} {w' : qW} {n' : Nat} (ho : ∀ pc' ls' st' w' n', o = some (pc', ls', st', w', n') → n ≤ n') (h : qgo X sc d k o = some (v, w', n')) : n ≤ n' ∧ (v = (9, 0) ∨ ∃ x, v = (0, x)) := by
  unfold qgo at h
  split at h
  · rename_i pc1 ls1 st1 w1 n1
    have a := ho _ _ _ _ _ rfl
    have b := hX _ _ _ _ _ _ _ _ _ _ _ h
    exact ⟨Nat.le_trans a b.1, b.2⟩
  · cases h
theorem qcl1_mono {X : qXt} (hX : qMono X) {sc : Option (Nat × (Nat → Int))} {d k t na sk md pc n : Nat} {ls st : List qV} {w w' : qW} {n' : Nat} {v : qV} (h : qcl1 X sc d k t na sk md pc ls st w n = some (v, w', n')) : n ≤ n' ∧ (v = (9, 0) ∨ ∃ x, v = (0, x)) := by
  unfold qcl1 at h
  split at h
  · cases h
  · split at h
    · split at h
      · rename_i v1 w1 n1 h1
        have a := hX _ _ _ _ _ _ _ _ _ _ _ h1
        have b := hX _ _ _ _ _ _ _ _ _ _ _ h
        exact ⟨Nat.le_trans a.1 b.1, b.2⟩
      · cases h
    · cases h
theorem qinv_mono {X : qXt} (hX : qMono X) {sc : Option (Nat × (Nat → Int))} {d k i md pc n : Nat} {ls st : List qV} {w w' : qW} {n' : Nat} {v : qV} (h : qinv X sc d k i md pc ls st w n = some (v, w', n')) : n ≤ n' ∧ (v = (9, 0) ∨ ∃ x, v = (0, x)) := by
  unfold qinv at h
  split at h
  · split at h
    · split at h
      · split at h
        · exact hX _ _ _ _ _ _ _ _ _ _ _ h
        · cases h
      · cases h
    · split at h
      · split at h
        · exact qgo_mono hX (fun _ _ _ _ _ z => Nat.le_of_eq (qac_n z).symm) h
        · cases h
      · split at h
        · split at h
          · exact qgo_mono hX (fun _ _ _ _ _ z => Nat.le_of_eq (qmt_n z).symm) h
          · cases h
        · exact qcl1_mono hX h
  · cases h
theorem qst1_mono {X : qXt} (hX : qMono X) {sc : Option (Nat × (Nat → Int))} {d k len pc n : Nat} {ins : Instr} {ls st : List qV} {w w' : qW} {n' : Nat} {v : qV} (h : qst1 X sc d k ins len pc ls st w n = some (v, w', n')) : n ≤ n' ∧ (v = (9, 0) ∨ ∃ x, v = (0, x)) := by
  unfold qst1 at h
  split at h
  · split at h
    · split at h
      · cases h; exact ⟨Nat.le_refl _, Or.inr ⟨_, rfl⟩⟩
      · cases h
    · cases h
  · split at h
    · split at h
      · cases h; exact ⟨Nat.le_refl _, Or.inl rfl⟩
      · cases h
    · cases h
  · exact qinv_mono hX h
  · exact qinv_mono hX h
  · exact qinv_mono hX h
  · exact qgo_mono hX (fun _ _ _ _ _ z => qs1_mono z) h
theorem q_mono : ∀ f, qMono (qex f)
  | 0 => fun sc d k pc ls st w n v w' n' h => by
    have h : (none : qR) = some (v, w', n') := h
    cases h
  | f + 1 => fun sc d k pc ls st w n v w' n' h => by
    have h : (match qcd k pc with
      | some (ins, len) => qst1 (qex f) sc d k ins len pc ls st w n
      | none => none) = some (v, w', n') := h
    split at h
    · exact qst1_mono (q_mono f) h
    · cases h
theorem qSz_mono {n n' : Nat} (h : n ≤ n') : qSz n ≤ qSz n' := by
  induction h with
  | refl => exact Nat.le_refl _
  | step h ih => rw [qSz_s]; omega
