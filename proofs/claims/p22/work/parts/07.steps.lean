/-! one instruction of the plain run, and the machine's: what neither makes nor writes cells -/
section QS
variable {p : Program} {l : Launch} {e : Env} {R : Room} {s : State} {m : MethodId} {args : Array Value} {below : List Frame} {meth : Method} {c : Code} {Q : State → Prop}
variable {D : va_G} {A : Nat → Prop} {H0 : Heap} {sa : Nat → Nat} {sc : Option (Nat × (Nat → Int))} {k : Nat}
noncomputable def qStep (p : Program) (l : Launch) (e : Env) (R : Room) (s : State) (m : MethodId) (args : Array Value) (below : List Frame) (meth : Method) (c : Code) (Q : State → Prop) (D : va_G) (A : Nat → Prop) (H0 : Heap) (sa : Nat → Nat) (sc : Option (Nat × (Nat → Int))) (k : Nat) (ins : Instr) : Prop :=
  ∀ (len pc : Nat) (ls st : List qV) (w : qW) (n pc' : Nat) (ls' st' : List qV) (w' : qW) (n' : Nat) (ad : Nat → Nat) (ac : Nat → ClassId) (arr : Array Slot) (H : Heap) (locs : List Loc) (cells slots : Nat),
    decode (qby k) pc = .ok (ins, len) → qok pc ins len = true → qs1 sc k ins len pc ls st w n = some (pc', ls', st', w', n') →
    qRel D A s H0 sa k ls st w n ad ac arr H locs → (cells + n' ≤ R.cells + n ∧ slots + qSz n' ≤ R.slots + qSz n) →
    (∀ (ad' : Nat → Nat) (ac' : Nat → ClassId) (arr' : Array Slot) (H' : Heap) (locs' : List Loc) (cells' slots' : Nat), (∀ i, i ≤ n → ad' i = ad i ∧ ac' i = ac i) → cells' + n = cells + n' → slots' + qSz n = slots + qSz n' →
      qRel D A s H0 sa k ls' st' w' n' ad' ac' arr' H' locs' → W p l e R s m args below meth c H' locs' cells' slots' Q (F0 m pc' arr' (st'.map (qcv ad' sa)))) →
    W p l e R s m args below meth c H locs cells slots Q (F0 m pc arr (st.map (qcv ad sa)))
theorem qSr.t {n : Nat} {v : qV} {r : List qV} (h : qSr n (v :: r)) : qSr n r := fun x hx => h x (List.mem_cons_of_mem _ hx)
theorem qSr.cn {n : Nat} {v : qV} {r : List qV} (h1 : v.1 < 4) (h2 : qrg n v) (h : qSr n r) : qSr n (v :: r) := fun x hx => by
  rcases List.mem_cons.mp hx with rfl | hx
  · exact ⟨h1, h2⟩
  · exact h x hx
theorem qSr.h {n : Nat} {v : qV} {r : List qV} (h : qSr n (v :: r)) : v.1 < 4 ∧ qrg n v := h v List.mem_cons_self
theorem qrg.i {n : Nat} {x : Int} (h : qrg n (0, x)) : qi32 x := h (Nat.le_of_ble_eq_true rfl)
theorem q4 {t : Nat} {x : Int} (h : Nat.blt t 4 = true) : ((t, x) : qV).1 < 4 := Nat.blt_eq.mp h
theorem qrg.lg {n : Nat} {x : Int} (h : qrg n (1, x)) : qi64 x := h (Nat.le_of_ble_eq_true rfl)
theorem qrg.mki {n : Nat} {x : Int} (h : qi32 x) : qrg n (0, x) := fun _ => h
theorem qrg.mkl {n : Nat} {x : Int} (h : qi64 x) : qrg n (1, x) := fun _ => h
theorem qrg.mk3 {n : Nat} {x : Int} : qrg n (3, x) := fun h => absurd (show (3 : Nat) < 3 from h) (by decide)
theorem qLr.at {ad sa : Nat → Nat} {n : Nat} {ls : List qV} {arr : Array Slot} (h : qLr ad sa n ls arr) {i : Nat} {v : qV} (hv : qnt ls i = v) (h4 : v.1 < 4) : arr[i]? = some (.val (qcv ad sa v)) ∧ qrg n v := by
  subst hv
  exact ⟨h.2.1 i h4, h.2.2 i⟩
theorem qn1 {t : Nat} {x : Int} (h : Nat.beq t 1 = false := by rfl) : ((t, x) : qV).1 ≠ 1 := fun q => by have q : t = 1 := q; rw [q] at h; cases h
theorem qtg_eq {pc : Nat} {off : Int} (h : 0 ≤ (pc : Int) + off) : (pc : Int) + off = (qtg pc off : Int) := by
  unfold qtg; omega
theorem va_rf_cat (r : Option Nat) : (va_rf r).category = 1 := by cases r <;> rfl

theorem q_iadd (F : qFx p s m args meth c A H0 sa sc k) : qStep p l e R s m args below meth c Q D A H0 sa sc k (.iadd) := by
  intro len pc ls st w n pc' ls' st' w' n' ad ac arr H locs cells slots hd ho h X hr kk
  obtain ⟨hx, hb, hml, hown, hts, hinit, hA, hsc, hst⟩ := F
  have hlen : len = 1 := by simpa [qok, qlen] using ho
  subst hlen
  simp only [qs1] at h
  split at h
  · rename_i y x r
    cases h
    obtain ⟨hW, hL, hn, hs, hS⟩ := X
    have hy := hs.h.2.i
    have hx' := hs.t.h.2.i
    refine lv_iadd hx hb hd ?_
    rw [e_add]
    exact kk ad ac arr H locs cells slots (fun _ _ => ⟨rfl, rfl⟩) rfl rfl ⟨hW, hL, hn, .cn (q4 rfl) (.mki (wrp_in _)) hs.t.t, hS⟩
  · cases h

theorem q_isub (F : qFx p s m args meth c A H0 sa sc k) : qStep p l e R s m args below meth c Q D A H0 sa sc k (.isub) := by
  intro len pc ls st w n pc' ls' st' w' n' ad ac arr H locs cells slots hd ho h X hr kk
  obtain ⟨hx, hb, hml, hown, hts, hinit, hA, hsc, hst⟩ := F
  have hlen : len = 1 := by simpa [qok, qlen] using ho
  subst hlen
  simp only [qs1] at h
  split at h
  · rename_i y x r
    cases h
    obtain ⟨hW, hL, hn, hs, hS⟩ := X
    have hy := hs.h.2.i
    have hx' := hs.t.h.2.i
    refine lv_isub hx hb hd ?_
    rw [e_sub]
    exact kk ad ac arr H locs cells slots (fun _ _ => ⟨rfl, rfl⟩) rfl rfl ⟨hW, hL, hn, .cn (q4 rfl) (.mki (wrp_in _)) hs.t.t, hS⟩
  · cases h

theorem q_imul (F : qFx p s m args meth c A H0 sa sc k) : qStep p l e R s m args below meth c Q D A H0 sa sc k (.imul) := by
  intro len pc ls st w n pc' ls' st' w' n' ad ac arr H locs cells slots hd ho h X hr kk
  obtain ⟨hx, hb, hml, hown, hts, hinit, hA, hsc, hst⟩ := F
  have hlen : len = 1 := by simpa [qok, qlen] using ho
  subst hlen
  simp only [qs1] at h
  split at h
  · rename_i y x r
    cases h
    obtain ⟨hW, hL, hn, hs, hS⟩ := X
    have hy := hs.h.2.i
    have hx' := hs.t.h.2.i
    refine lv_imul hx hb hd ?_
    rw [e_mul]
    exact kk ad ac arr H locs cells slots (fun _ _ => ⟨rfl, rfl⟩) rfl rfl ⟨hW, hL, hn, .cn (q4 rfl) (.mki (wrp_in _)) hs.t.t, hS⟩
  · cases h

theorem q_iand (F : qFx p s m args meth c A H0 sa sc k) : qStep p l e R s m args below meth c Q D A H0 sa sc k (.iand) := by
  intro len pc ls st w n pc' ls' st' w' n' ad ac arr H locs cells slots hd ho h X hr kk
  obtain ⟨hx, hb, hml, hown, hts, hinit, hA, hsc, hst⟩ := F
  have hlen : len = 1 := by simpa [qok, qlen] using ho
  subst hlen
  simp only [qs1] at h
  split at h
  · rename_i y x r
    cases h
    obtain ⟨hW, hL, hn, hs, hS⟩ := X
    have hy := hs.h.2.i
    have hx' := hs.t.h.2.i
    refine lv_iand hx hb hd ?_
    rw [e_and]
    exact kk ad ac arr H locs cells slots (fun _ _ => ⟨rfl, rfl⟩) rfl rfl ⟨hW, hL, hn, .cn (q4 rfl) (.mki (i32_in _)) hs.t.t, hS⟩
  · cases h

theorem q_ior (F : qFx p s m args meth c A H0 sa sc k) : qStep p l e R s m args below meth c Q D A H0 sa sc k (.ior) := by
  intro len pc ls st w n pc' ls' st' w' n' ad ac arr H locs cells slots hd ho h X hr kk
  obtain ⟨hx, hb, hml, hown, hts, hinit, hA, hsc, hst⟩ := F
  have hlen : len = 1 := by simpa [qok, qlen] using ho
  subst hlen
  simp only [qs1] at h
  split at h
  · rename_i y x r
    cases h
    obtain ⟨hW, hL, hn, hs, hS⟩ := X
    have hy := hs.h.2.i
    have hx' := hs.t.h.2.i
    refine lv_ior hx hb hd ?_
    rw [e_or]
    exact kk ad ac arr H locs cells slots (fun _ _ => ⟨rfl, rfl⟩) rfl rfl ⟨hW, hL, hn, .cn (q4 rfl) (.mki (i32_in _)) hs.t.t, hS⟩
  · cases h

theorem q_ixor (F : qFx p s m args meth c A H0 sa sc k) : qStep p l e R s m args below meth c Q D A H0 sa sc k (.ixor) := by
  intro len pc ls st w n pc' ls' st' w' n' ad ac arr H locs cells slots hd ho h X hr kk
  obtain ⟨hx, hb, hml, hown, hts, hinit, hA, hsc, hst⟩ := F
  have hlen : len = 1 := by simpa [qok, qlen] using ho
  subst hlen
  simp only [qs1] at h
  split at h
  · rename_i y x r
    cases h
    obtain ⟨hW, hL, hn, hs, hS⟩ := X
    have hy := hs.h.2.i
    have hx' := hs.t.h.2.i
    refine lv_ixor hx hb hd ?_
    rw [e_xor]
    exact kk ad ac arr H locs cells slots (fun _ _ => ⟨rfl, rfl⟩) rfl rfl ⟨hW, hL, hn, .cn (q4 rfl) (.mki (i32_in _)) hs.t.t, hS⟩
  · cases h

theorem q_ishl (F : qFx p s m args meth c A H0 sa sc k) : qStep p l e R s m args below meth c Q D A H0 sa sc k (.ishl) := by
  intro len pc ls st w n pc' ls' st' w' n' ad ac arr H locs cells slots hd ho h X hr kk
  obtain ⟨hx, hb, hml, hown, hts, hinit, hA, hsc, hst⟩ := F
  have hlen : len = 1 := by simpa [qok, qlen] using ho
  subst hlen
  simp only [qs1] at h
  split at h
  · rename_i y x r
    cases h
    obtain ⟨hW, hL, hn, hs, hS⟩ := X
    have hy := hs.h.2.i
    have hx' := hs.t.h.2.i
    refine lv_ishl hx hb hd ?_
    rw [e_shl]
    exact kk ad ac arr H locs cells slots (fun _ _ => ⟨rfl, rfl⟩) rfl rfl ⟨hW, hL, hn, .cn (q4 rfl) (.mki (i32_in _)) hs.t.t, hS⟩
  · cases h

theorem q_ishr (F : qFx p s m args meth c A H0 sa sc k) : qStep p l e R s m args below meth c Q D A H0 sa sc k (.ishr) := by
  intro len pc ls st w n pc' ls' st' w' n' ad ac arr H locs cells slots hd ho h X hr kk
  obtain ⟨hx, hb, hml, hown, hts, hinit, hA, hsc, hst⟩ := F
  have hlen : len = 1 := by simpa [qok, qlen] using ho
  subst hlen
  simp only [qs1] at h
  split at h
  · rename_i y x r
    cases h
    obtain ⟨hW, hL, hn, hs, hS⟩ := X
    have hy := hs.h.2.i
    have hx' := hs.t.h.2.i
    refine lv_ishr hx hb hd ?_
    rw [e_shr]
    exact kk ad ac arr H locs cells slots (fun _ _ => ⟨rfl, rfl⟩) rfl rfl ⟨hW, hL, hn, .cn (q4 rfl) (.mki (i32_in _)) hs.t.t, hS⟩
  · cases h

theorem q_iushr (F : qFx p s m args meth c A H0 sa sc k) : qStep p l e R s m args below meth c Q D A H0 sa sc k (.iushr) := by
  intro len pc ls st w n pc' ls' st' w' n' ad ac arr H locs cells slots hd ho h X hr kk
  obtain ⟨hx, hb, hml, hown, hts, hinit, hA, hsc, hst⟩ := F
  have hlen : len = 1 := by simpa [qok, qlen] using ho
  subst hlen
  simp only [qs1] at h
  split at h
  · rename_i y x r
    cases h
    obtain ⟨hW, hL, hn, hs, hS⟩ := X
    exact lv_iushr hx hb hd (e_ush x y) (kk ad ac arr H locs cells slots (fun _ _ => ⟨rfl, rfl⟩) rfl rfl ⟨hW, hL, hn, .cn (q4 rfl) (.mki (i32_in _)) hs.t.t, hS⟩)
  · cases h

theorem q_idiv (F : qFx p s m args meth c A H0 sa sc k) : qStep p l e R s m args below meth c Q D A H0 sa sc k (.idiv) := by
  intro len pc ls st w n pc' ls' st' w' n' ad ac arr H locs cells slots hd ho h X hr kk
  obtain ⟨hx, hb, hml, hown, hts, hinit, hA, hsc, hst⟩ := F
  have hlen : len = 1 := by simpa [qok, qlen] using ho
  subst hlen
  simp only [qs1] at h
  split at h
  · rename_i y x r
    split at h
    · cases h
    rename_i h0
    cases h
    obtain ⟨hW, hL, hn, hs, hS⟩ := X
    have hy9 := hs.h.2.i
    have hx9 := hs.t.h.2.i
    refine lv_idiv hx hb hd (fun q => h0 ((e_eq hy9 ⟨by decide, by decide⟩).mp q)) ?_
    rw [e_div hx9 hy9]
    exact kk ad ac arr H locs cells slots (fun _ _ => ⟨rfl, rfl⟩) rfl rfl ⟨hW, hL, hn, .cn (q4 rfl) (.mki (wrp_in _)) hs.t.t, hS⟩
  · cases h

theorem q_irem (F : qFx p s m args meth c A H0 sa sc k) : qStep p l e R s m args below meth c Q D A H0 sa sc k (.irem) := by
  intro len pc ls st w n pc' ls' st' w' n' ad ac arr H locs cells slots hd ho h X hr kk
  obtain ⟨hx, hb, hml, hown, hts, hinit, hA, hsc, hst⟩ := F
  have hlen : len = 1 := by simpa [qok, qlen] using ho
  subst hlen
  simp only [qs1] at h
  split at h
  · rename_i y x r
    split at h
    · cases h
    rename_i h0
    cases h
    obtain ⟨hW, hL, hn, hs, hS⟩ := X
    have hy9 := hs.h.2.i
    have hx9 := hs.t.h.2.i
    refine lv_irem hx hb hd (fun q => h0 ((e_eq hy9 ⟨by decide, by decide⟩).mp q)) ?_
    rw [e_rem hx9 hy9]
    exact kk ad ac arr H locs cells slots (fun _ _ => ⟨rfl, rfl⟩) rfl rfl ⟨hW, hL, hn, .cn (q4 rfl) (.mki (wrp_in _)) hs.t.t, hS⟩
  · cases h

theorem q_ineg (F : qFx p s m args meth c A H0 sa sc k) : qStep p l e R s m args below meth c Q D A H0 sa sc k (.ineg) := by
  intro len pc ls st w n pc' ls' st' w' n' ad ac arr H locs cells slots hd ho h X hr kk
  obtain ⟨hx, hb, hml, hown, hts, hinit, hA, hsc, hst⟩ := F
  have hlen : len = 1 := by simpa [qok, qlen] using ho
  subst hlen
  simp only [qs1] at h
  split at h
  · rename_i x r
    cases h
    obtain ⟨hW, hL, hn, hs, hS⟩ := X
    refine lv_ineg hx hb hd ?_
    rw [e_neg]
    exact kk ad ac arr H locs cells slots (fun _ _ => ⟨rfl, rfl⟩) rfl rfl ⟨hW, hL, hn, .cn (q4 rfl) (.mki (wrp_in _)) hs.t, hS⟩
  · cases h

theorem q_ladd (F : qFx p s m args meth c A H0 sa sc k) : qStep p l e R s m args below meth c Q D A H0 sa sc k (.ladd) := by
  intro len pc ls st w n pc' ls' st' w' n' ad ac arr H locs cells slots hd ho h X hr kk
  obtain ⟨hx, hb, hml, hown, hts, hinit, hA, hsc, hst⟩ := F
  have hlen : len = 1 := by simpa [qok, qlen] using ho
  subst hlen
  simp only [qs1] at h
  split at h
  · rename_i y x r
    cases h
    obtain ⟨hW, hL, hn, hs, hS⟩ := X
    refine lv_ladd hx hb hd ?_
    rw [e_ladd]
    exact kk ad ac arr H locs cells slots (fun _ _ => ⟨rfl, rfl⟩) rfl rfl ⟨hW, hL, hn, .cn (q4 rfl) (.mkl (wrl_in _)) hs.t.t, hS⟩
  · cases h

theorem q_lsub (F : qFx p s m args meth c A H0 sa sc k) : qStep p l e R s m args below meth c Q D A H0 sa sc k (.lsub) := by
  intro len pc ls st w n pc' ls' st' w' n' ad ac arr H locs cells slots hd ho h X hr kk
  obtain ⟨hx, hb, hml, hown, hts, hinit, hA, hsc, hst⟩ := F
  have hlen : len = 1 := by simpa [qok, qlen] using ho
  subst hlen
  simp only [qs1] at h
  split at h
  · rename_i y x r
    cases h
    obtain ⟨hW, hL, hn, hs, hS⟩ := X
    refine lv_lsub hx hb hd ?_
    rw [e_lsub]
    exact kk ad ac arr H locs cells slots (fun _ _ => ⟨rfl, rfl⟩) rfl rfl ⟨hW, hL, hn, .cn (q4 rfl) (.mkl (wrl_in _)) hs.t.t, hS⟩
  · cases h

theorem q_lmul (F : qFx p s m args meth c A H0 sa sc k) : qStep p l e R s m args below meth c Q D A H0 sa sc k (.lmul) := by
  intro len pc ls st w n pc' ls' st' w' n' ad ac arr H locs cells slots hd ho h X hr kk
  obtain ⟨hx, hb, hml, hown, hts, hinit, hA, hsc, hst⟩ := F
  have hlen : len = 1 := by simpa [qok, qlen] using ho
  subst hlen
  simp only [qs1] at h
  split at h
  · rename_i y x r
    cases h
    obtain ⟨hW, hL, hn, hs, hS⟩ := X
    refine lv_lmul hx hb hd ?_
    rw [e_lmul]
    exact kk ad ac arr H locs cells slots (fun _ _ => ⟨rfl, rfl⟩) rfl rfl ⟨hW, hL, hn, .cn (q4 rfl) (.mkl (wrl_in _)) hs.t.t, hS⟩
  · cases h

theorem q_land (F : qFx p s m args meth c A H0 sa sc k) : qStep p l e R s m args below meth c Q D A H0 sa sc k (.land) := by
  intro len pc ls st w n pc' ls' st' w' n' ad ac arr H locs cells slots hd ho h X hr kk
  obtain ⟨hx, hb, hml, hown, hts, hinit, hA, hsc, hst⟩ := F
  have hlen : len = 1 := by simpa [qok, qlen] using ho
  subst hlen
  simp only [qs1] at h
  split at h
  · rename_i y x r
    cases h
    obtain ⟨hW, hL, hn, hs, hS⟩ := X
    refine lv_land hx hb hd ?_
    rw [e_land]
    exact kk ad ac arr H locs cells slots (fun _ _ => ⟨rfl, rfl⟩) rfl rfl ⟨hW, hL, hn, .cn (q4 rfl) (.mkl (i64_in _)) hs.t.t, hS⟩
  · cases h

theorem q_lor (F : qFx p s m args meth c A H0 sa sc k) : qStep p l e R s m args below meth c Q D A H0 sa sc k (.lor) := by
  intro len pc ls st w n pc' ls' st' w' n' ad ac arr H locs cells slots hd ho h X hr kk
  obtain ⟨hx, hb, hml, hown, hts, hinit, hA, hsc, hst⟩ := F
  have hlen : len = 1 := by simpa [qok, qlen] using ho
  subst hlen
  simp only [qs1] at h
  split at h
  · rename_i y x r
    cases h
    obtain ⟨hW, hL, hn, hs, hS⟩ := X
    refine lv_lor hx hb hd ?_
    rw [e_lor]
    exact kk ad ac arr H locs cells slots (fun _ _ => ⟨rfl, rfl⟩) rfl rfl ⟨hW, hL, hn, .cn (q4 rfl) (.mkl (i64_in _)) hs.t.t, hS⟩
  · cases h

theorem q_lshl (F : qFx p s m args meth c A H0 sa sc k) : qStep p l e R s m args below meth c Q D A H0 sa sc k (.lshl) := by
  intro len pc ls st w n pc' ls' st' w' n' ad ac arr H locs cells slots hd ho h X hr kk
  obtain ⟨hx, hb, hml, hown, hts, hinit, hA, hsc, hst⟩ := F
  have hlen : len = 1 := by simpa [qok, qlen] using ho
  subst hlen
  simp only [qs1] at h
  split at h
  · rename_i y x r
    cases h
    obtain ⟨hW, hL, hn, hs, hS⟩ := X
    exact lv_lshl hx hb hd (e_lshl x y) (kk ad ac arr H locs cells slots (fun _ _ => ⟨rfl, rfl⟩) rfl rfl ⟨hW, hL, hn, .cn (q4 rfl) (.mkl (i64_in _)) hs.t.t, hS⟩)
  · cases h

theorem q_lushr (F : qFx p s m args meth c A H0 sa sc k) : qStep p l e R s m args below meth c Q D A H0 sa sc k (.lushr) := by
  intro len pc ls st w n pc' ls' st' w' n' ad ac arr H locs cells slots hd ho h X hr kk
  obtain ⟨hx, hb, hml, hown, hts, hinit, hA, hsc, hst⟩ := F
  have hlen : len = 1 := by simpa [qok, qlen] using ho
  subst hlen
  simp only [qs1] at h
  split at h
  · rename_i y x r
    cases h
    obtain ⟨hW, hL, hn, hs, hS⟩ := X
    exact lv_lushr hx hb hd (e_lush x y) (kk ad ac arr H locs cells slots (fun _ _ => ⟨rfl, rfl⟩) rfl rfl ⟨hW, hL, hn, .cn (q4 rfl) (.mkl (i64_in _)) hs.t.t, hS⟩)
  · cases h

theorem q_ldiv (F : qFx p s m args meth c A H0 sa sc k) : qStep p l e R s m args below meth c Q D A H0 sa sc k (.ldiv) := by
  intro len pc ls st w n pc' ls' st' w' n' ad ac arr H locs cells slots hd ho h X hr kk
  obtain ⟨hx, hb, hml, hown, hts, hinit, hA, hsc, hst⟩ := F
  have hlen : len = 1 := by simpa [qok, qlen] using ho
  subst hlen
  simp only [qs1] at h
  split at h
  · rename_i y x r
    split at h
    · cases h
    rename_i h0
    cases h
    obtain ⟨hW, hL, hn, hs, hS⟩ := X
    have hy9 := hs.h.2.lg
    have hx9 := hs.t.h.2.lg
    refine lv_ldiv hx hb hd (fun q => h0 ((e_leq hy9 ⟨by decide, by decide⟩).mp q)) ?_
    rw [e_ldiv hx9 hy9]
    exact kk ad ac arr H locs cells slots (fun _ _ => ⟨rfl, rfl⟩) rfl rfl ⟨hW, hL, hn, .cn (q4 rfl) (.mkl (wrl_in _)) hs.t.t, hS⟩
  · cases h

theorem q_lcmp (F : qFx p s m args meth c A H0 sa sc k) : qStep p l e R s m args below meth c Q D A H0 sa sc k (.lcmp) := by
  intro len pc ls st w n pc' ls' st' w' n' ad ac arr H locs cells slots hd ho h X hr kk
  obtain ⟨hx, hb, hml, hown, hts, hinit, hA, hsc, hst⟩ := F
  have hlen : len = 1 := by simpa [qok, qlen] using ho
  subst hlen
  simp only [qs1] at h
  split at h
  · rename_i y x r
    cases h
    obtain ⟨hW, hL, hn, hs, hS⟩ := X
    refine W.lcmp hx hb hd ?_
    rw [e_cmp hs.t.h.2.lg hs.h.2.lg]
    exact kk ad ac arr H locs cells slots (fun _ _ => ⟨rfl, rfl⟩) rfl rfl ⟨hW, hL, hn, .cn (q4 rfl) (.mki (by unfold qcmp qi32; repeat' split <;> omega)) hs.t.t, hS⟩
  · cases h

theorem q_i2l (F : qFx p s m args meth c A H0 sa sc k) : qStep p l e R s m args below meth c Q D A H0 sa sc k (.i2l) := by
  intro len pc ls st w n pc' ls' st' w' n' ad ac arr H locs cells slots hd ho h X hr kk
  obtain ⟨hx, hb, hml, hown, hts, hinit, hA, hsc, hst⟩ := F
  have hlen : len = 1 := by simpa [qok, qlen] using ho
  subst hlen
  simp only [qs1] at h
  split at h
  · rename_i x r
    cases h
    obtain ⟨hW, hL, hn, hs, hS⟩ := X
    exact lv_i2l hx hb hd (e_i2l hs.h.2.i) (kk ad ac arr H locs cells slots (fun _ _ => ⟨rfl, rfl⟩) rfl rfl ⟨hW, hL, hn, .cn (q4 rfl) (.mkl (by have := hs.h.2.i; unfold qi32 at this; unfold qi64; omega)) hs.t, hS⟩)
  · cases h

theorem q_l2i (F : qFx p s m args meth c A H0 sa sc k) : qStep p l e R s m args below meth c Q D A H0 sa sc k (.l2i) := by
  intro len pc ls st w n pc' ls' st' w' n' ad ac arr H locs cells slots hd ho h X hr kk
  obtain ⟨hx, hb, hml, hown, hts, hinit, hA, hsc, hst⟩ := F
  have hlen : len = 1 := by simpa [qok, qlen] using ho
  subst hlen
  simp only [qs1] at h
  split at h
  · rename_i x r
    cases h
    obtain ⟨hW, hL, hn, hs, hS⟩ := X
    exact lv_l2i hx hb hd (e_l2i x) (kk ad ac arr H locs cells slots (fun _ _ => ⟨rfl, rfl⟩) rfl rfl ⟨hW, hL, hn, .cn (q4 rfl) (.mki (wrp_in _)) hs.t, hS⟩)
  · cases h

theorem q_i2b (F : qFx p s m args meth c A H0 sa sc k) : qStep p l e R s m args below meth c Q D A H0 sa sc k (.i2b) := by
  intro len pc ls st w n pc' ls' st' w' n' ad ac arr H locs cells slots hd ho h X hr kk
  obtain ⟨hx, hb, hml, hown, hts, hinit, hA, hsc, hst⟩ := F
  have hlen : len = 1 := by simpa [qok, qlen] using ho
  subst hlen
  simp only [qs1] at h
  split at h
  · rename_i x r
    cases h
    obtain ⟨hW, hL, hn, hs, hS⟩ := X
    exact lv_i2b hx hb hd (e_i2b x) (kk ad ac arr H locs cells slots (fun _ _ => ⟨rfl, rfl⟩) rfl rfl ⟨hW, hL, hn, .cn (q4 rfl) (.mki (by unfold qi2b qi32; omega)) hs.t, hS⟩)
  · cases h

theorem q_i2c (F : qFx p s m args meth c A H0 sa sc k) : qStep p l e R s m args below meth c Q D A H0 sa sc k (.i2c) := by
  intro len pc ls st w n pc' ls' st' w' n' ad ac arr H locs cells slots hd ho h X hr kk
  obtain ⟨hx, hb, hml, hown, hts, hinit, hA, hsc, hst⟩ := F
  have hlen : len = 1 := by simpa [qok, qlen] using ho
  subst hlen
  simp only [qs1] at h
  split at h
  · rename_i x r
    cases h
    obtain ⟨hW, hL, hn, hs, hS⟩ := X
    exact lv_i2c hx hb hd (e_i2c x) (kk ad ac arr H locs cells slots (fun _ _ => ⟨rfl, rfl⟩) rfl rfl ⟨hW, hL, hn, .cn (q4 rfl) (.mki (by unfold qi32; omega)) hs.t, hS⟩)
  · cases h

theorem q_iconst {i : Int} (F : qFx p s m args meth c A H0 sa sc k) : qStep p l e R s m args below meth c Q D A H0 sa sc k (.iconst i) := by
  intro len pc ls st w n pc' ls' st' w' n' ad ac arr H locs cells slots hd ho h X hr kk
  obtain ⟨hx, hb, hml, hown, hts, hinit, hA, hsc, hst⟩ := F
  simp only [qok, Bool.and_eq_true, Nat.beq_eq_true_eq, decide_eq_true_eq] at ho
  obtain ⟨hlen, hi⟩ := ho
  have hlen := Nat.eq_of_beq_eq_true hlen
  subst hlen
  simp only [qs1] at h
  cases h
  obtain ⟨hW, hL, hn, hs, hS⟩ := X
  exact lv_iconst hx hb hd rfl (kk ad ac arr H locs cells slots (fun _ _ => ⟨rfl, rfl⟩) rfl rfl ⟨hW, hL, hn, .cn (q4 rfl) (.mki (by unfold qi32; omega)) hs, hS⟩)

theorem q_bipush {i : Int} (F : qFx p s m args meth c A H0 sa sc k) : qStep p l e R s m args below meth c Q D A H0 sa sc k (.bipush i) := by
  intro len pc ls st w n pc' ls' st' w' n' ad ac arr H locs cells slots hd ho h X hr kk
  obtain ⟨hx, hb, hml, hown, hts, hinit, hA, hsc, hst⟩ := F
  simp only [qok, Bool.and_eq_true, Nat.beq_eq_true_eq, decide_eq_true_eq] at ho
  obtain ⟨hlen, hi⟩ := ho
  have hlen := Nat.eq_of_beq_eq_true hlen
  subst hlen
  simp only [qs1] at h
  cases h
  obtain ⟨hW, hL, hn, hs, hS⟩ := X
  exact lv_bipush hx hb hd (e_bip hi.1 hi.2) (kk ad ac arr H locs cells slots (fun _ _ => ⟨rfl, rfl⟩) rfl rfl ⟨hW, hL, hn, .cn (q4 rfl) (.mki (by unfold qi32; omega)) hs, hS⟩)

theorem q_sipush {i : Int} (F : qFx p s m args meth c A H0 sa sc k) : qStep p l e R s m args below meth c Q D A H0 sa sc k (.sipush i) := by
  intro len pc ls st w n pc' ls' st' w' n' ad ac arr H locs cells slots hd ho h X hr kk
  obtain ⟨hx, hb, hml, hown, hts, hinit, hA, hsc, hst⟩ := F
  simp only [qok, Bool.and_eq_true, Nat.beq_eq_true_eq, decide_eq_true_eq] at ho
  obtain ⟨hlen, hi⟩ := ho
  have hlen := Nat.eq_of_beq_eq_true hlen
  subst hlen
  simp only [qs1] at h
  cases h
  obtain ⟨hW, hL, hn, hs, hS⟩ := X
  exact lv_sipush hx hb hd (e_sip hi.1 hi.2) (kk ad ac arr H locs cells slots (fun _ _ => ⟨rfl, rfl⟩) rfl rfl ⟨hW, hL, hn, .cn (q4 rfl) (.mki (by unfold qi32; omega)) hs, hS⟩)

theorem q_lconst {i : Fin 2} (F : qFx p s m args meth c A H0 sa sc k) : qStep p l e R s m args below meth c Q D A H0 sa sc k (.lconst i) := by
  intro len pc ls st w n pc' ls' st' w' n' ad ac arr H locs cells slots hd ho h X hr kk
  obtain ⟨hx, hb, hml, hown, hts, hinit, hA, hsc, hst⟩ := F
  have hlen : len = 1 := by simpa [qok, qlen] using ho
  subst hlen
  simp only [qs1] at h
  cases h
  obtain ⟨hW, hL, hn, hs, hS⟩ := X
  exact lv_lconst hx hb hd (by rfl) (kk ad ac arr H locs cells slots (fun _ _ => ⟨rfl, rfl⟩) rfl rfl ⟨hW, hL, hn, .cn (q4 rfl) (.mkl (by have := i.isLt; unfold qi64; omega)) hs, hS⟩)

theorem q_aconst_null (F : qFx p s m args meth c A H0 sa sc k) : qStep p l e R s m args below meth c Q D A H0 sa sc k (.aconst_null) := by
  intro len pc ls st w n pc' ls' st' w' n' ad ac arr H locs cells slots hd ho h X hr kk
  obtain ⟨hx, hb, hml, hown, hts, hinit, hA, hsc, hst⟩ := F
  have hlen : len = 1 := by simpa [qok, qlen] using ho
  subst hlen
  simp only [qs1] at h
  cases h
  obtain ⟨hW, hL, hn, hs, hS⟩ := X
  exact lv_null hx hb hd (kk ad ac arr H locs cells slots (fun _ _ => ⟨rfl, rfl⟩) rfl rfl ⟨hW, hL, hn, .cn (q4 rfl) (fun _ => ⟨by omega, by omega⟩) hs, hS⟩)

theorem q_iload {i : Nat} (F : qFx p s m args meth c A H0 sa sc k) : qStep p l e R s m args below meth c Q D A H0 sa sc k (.iload i) := by
  intro len pc ls st w n pc' ls' st' w' n' ad ac arr H locs cells slots hd ho h X hr kk
  obtain ⟨hx, hb, hml, hown, hts, hinit, hA, hsc, hst⟩ := F
  have hlen : len = 2 := by simpa [qok, qlen] using ho
  subst hlen
  simp only [qs1] at h
  split at h
  · rename_i x hq
    cases h
    obtain ⟨hW, hL, hn, hs, hS⟩ := X
    obtain ⟨h1, h2⟩ := hL.at hq (q4 rfl)
    exact lv_iload hx hb hd  h1 (kk ad ac arr H locs cells slots (fun _ _ => ⟨rfl, rfl⟩) rfl rfl ⟨hW, hL, hn, .cn (q4 rfl) h2 hs, hS⟩)
  · cases h

theorem q_lload {i : Nat} (F : qFx p s m args meth c A H0 sa sc k) : qStep p l e R s m args below meth c Q D A H0 sa sc k (.lload i) := by
  intro len pc ls st w n pc' ls' st' w' n' ad ac arr H locs cells slots hd ho h X hr kk
  obtain ⟨hx, hb, hml, hown, hts, hinit, hA, hsc, hst⟩ := F
  have hlen : len = 2 := by simpa [qok, qlen] using ho
  subst hlen
  simp only [qs1] at h
  split at h
  · rename_i x hq
    cases h
    obtain ⟨hW, hL, hn, hs, hS⟩ := X
    obtain ⟨h1, h2⟩ := hL.at hq (q4 rfl)
    exact lv_lload hx hb hd  h1 (kk ad ac arr H locs cells slots (fun _ _ => ⟨rfl, rfl⟩) rfl rfl ⟨hW, hL, hn, .cn (q4 rfl) h2 hs, hS⟩)
  · cases h

theorem q_iload_n {i : Fin 4} (F : qFx p s m args meth c A H0 sa sc k) : qStep p l e R s m args below meth c Q D A H0 sa sc k (.iload_n i) := by
  intro len pc ls st w n pc' ls' st' w' n' ad ac arr H locs cells slots hd ho h X hr kk
  obtain ⟨hx, hb, hml, hown, hts, hinit, hA, hsc, hst⟩ := F
  have hlen : len = 1 := by simpa [qok, qlen] using ho
  subst hlen
  simp only [qs1] at h
  split at h
  · rename_i x hq
    cases h
    obtain ⟨hW, hL, hn, hs, hS⟩ := X
    obtain ⟨h1, h2⟩ := hL.at hq (q4 rfl)
    exact lv_iload_n hx hb hd rfl  h1 (kk ad ac arr H locs cells slots (fun _ _ => ⟨rfl, rfl⟩) rfl rfl ⟨hW, hL, hn, .cn (q4 rfl) h2 hs, hS⟩)
  · cases h

theorem q_lload_n {i : Fin 4} (F : qFx p s m args meth c A H0 sa sc k) : qStep p l e R s m args below meth c Q D A H0 sa sc k (.lload_n i) := by
  intro len pc ls st w n pc' ls' st' w' n' ad ac arr H locs cells slots hd ho h X hr kk
  obtain ⟨hx, hb, hml, hown, hts, hinit, hA, hsc, hst⟩ := F
  have hlen : len = 1 := by simpa [qok, qlen] using ho
  subst hlen
  simp only [qs1] at h
  split at h
  · rename_i x hq
    cases h
    obtain ⟨hW, hL, hn, hs, hS⟩ := X
    obtain ⟨h1, h2⟩ := hL.at hq (q4 rfl)
    exact lv_lload_n hx hb hd rfl  h1 (kk ad ac arr H locs cells slots (fun _ _ => ⟨rfl, rfl⟩) rfl rfl ⟨hW, hL, hn, .cn (q4 rfl) h2 hs, hS⟩)
  · cases h

theorem q_aload {i : Nat} (F : qFx p s m args meth c A H0 sa sc k) : qStep p l e R s m args below meth c Q D A H0 sa sc k (.aload i) := by
  intro len pc ls st w n pc' ls' st' w' n' ad ac arr H locs cells slots hd ho h X hr kk
  obtain ⟨hx, hb, hml, hown, hts, hinit, hA, hsc, hst⟩ := F
  have hlen : len = 2 := by simpa [qok, qlen] using ho
  subst hlen
  simp only [qs1] at h
  split at h
  · rename_i x hq
    cases h
    obtain ⟨hW, hL, hn, hs, hS⟩ := X
    obtain ⟨h1, h2⟩ := hL.at hq (q4 rfl)
    have K := kk ad ac arr H locs cells slots (fun _ _ => ⟨rfl, rfl⟩) rfl rfl ⟨hW, hL, hn, .cn (q4 rfl) h2 hs, hS⟩
    have e1 : qcv ad sa (2, x) = va_rf (qrf ad x) := rfl
    rw [e1] at h1
    rw [List.map_cons, e1] at K
    cases hv : qrf ad x with
    | none =>
      rw [hv] at h1 K
      exact lv_aloadN hx hb hd  h1 K
    | some a =>
      rw [hv] at h1 K
      exact lv_aload hx hb hd  h1 K
  · rename_i x hq
    cases h
    obtain ⟨hW, hL, hn, hs, hS⟩ := X
    obtain ⟨h1, h2⟩ := hL.at hq (q4 rfl)
    exact lv_aload hx hb hd  h1 (kk ad ac arr H locs cells slots (fun _ _ => ⟨rfl, rfl⟩) rfl rfl ⟨hW, hL, hn, .cn (q4 rfl) h2 hs, hS⟩)
  · cases h

theorem q_aload_n {i : Fin 4} (F : qFx p s m args meth c A H0 sa sc k) : qStep p l e R s m args below meth c Q D A H0 sa sc k (.aload_n i) := by
  intro len pc ls st w n pc' ls' st' w' n' ad ac arr H locs cells slots hd ho h X hr kk
  obtain ⟨hx, hb, hml, hown, hts, hinit, hA, hsc, hst⟩ := F
  have hlen : len = 1 := by simpa [qok, qlen] using ho
  subst hlen
  simp only [qs1] at h
  split at h
  · rename_i x hq
    cases h
    obtain ⟨hW, hL, hn, hs, hS⟩ := X
    obtain ⟨h1, h2⟩ := hL.at hq (q4 rfl)
    have K := kk ad ac arr H locs cells slots (fun _ _ => ⟨rfl, rfl⟩) rfl rfl ⟨hW, hL, hn, .cn (q4 rfl) h2 hs, hS⟩
    have e1 : qcv ad sa (2, x) = va_rf (qrf ad x) := rfl
    rw [e1] at h1
    rw [List.map_cons, e1] at K
    cases hv : qrf ad x with
    | none =>
      rw [hv] at h1 K
      exact lv_aload_nN hx hb hd rfl  h1 K
    | some a =>
      rw [hv] at h1 K
      exact lv_aload_n hx hb hd rfl  h1 K
  · rename_i x hq
    cases h
    obtain ⟨hW, hL, hn, hs, hS⟩ := X
    obtain ⟨h1, h2⟩ := hL.at hq (q4 rfl)
    exact lv_aload_n hx hb hd rfl  h1 (kk ad ac arr H locs cells slots (fun _ _ => ⟨rfl, rfl⟩) rfl rfl ⟨hW, hL, hn, .cn (q4 rfl) h2 hs, hS⟩)
  · cases h

theorem q_istore {i : Nat} (F : qFx p s m args meth c A H0 sa sc k) : qStep p l e R s m args below meth c Q D A H0 sa sc k (.istore i) := by
  intro len pc ls st w n pc' ls' st' w' n' ad ac arr H locs cells slots hd ho h X hr kk
  obtain ⟨hx, hb, hml, hown, hts, hinit, hA, hsc, hst⟩ := F
  have hlen : len = 2 := by simpa [qok, qlen] using ho
  subst hlen
  simp only [qs1] at h
  split at h
  · rename_i x r
    split at h
    · rename_i hlt
      cases h
      have hlt := Nat.blt_eq.mp hlt
      obtain ⟨hW, hL, hn, hs, hS⟩ := X
      exact lv_istore hx hb hd  hL.has (by rw [hn]; omega) rfl (fun arr' h' => kk ad ac arr' H locs cells slots (fun _ _ => ⟨rfl, rfl⟩) rfl rfl ⟨hW, hL.put1 (by rw [hn]; omega) qn1 hs.h.2 h', by rw [qst_len]; exact hn, hs.t, hS⟩)
    · cases h
  · cases h

theorem q_istore_n {i : Fin 4} (F : qFx p s m args meth c A H0 sa sc k) : qStep p l e R s m args below meth c Q D A H0 sa sc k (.istore_n i) := by
  intro len pc ls st w n pc' ls' st' w' n' ad ac arr H locs cells slots hd ho h X hr kk
  obtain ⟨hx, hb, hml, hown, hts, hinit, hA, hsc, hst⟩ := F
  have hlen : len = 1 := by simpa [qok, qlen] using ho
  subst hlen
  simp only [qs1] at h
  split at h
  · rename_i x r
    split at h
    · rename_i hlt
      cases h
      have hlt := Nat.blt_eq.mp hlt
      obtain ⟨hW, hL, hn, hs, hS⟩ := X
      exact lv_istore_n hx hb hd rfl  hL.has (by rw [hn]; omega) rfl (fun arr' h' => kk ad ac arr' H locs cells slots (fun _ _ => ⟨rfl, rfl⟩) rfl rfl ⟨hW, hL.put1 (by rw [hn]; omega) qn1 hs.h.2 h', by rw [qst_len]; exact hn, hs.t, hS⟩)
    · cases h
  · cases h

theorem q_lstore {i : Nat} (F : qFx p s m args meth c A H0 sa sc k) : qStep p l e R s m args below meth c Q D A H0 sa sc k (.lstore i) := by
  intro len pc ls st w n pc' ls' st' w' n' ad ac arr H locs cells slots hd ho h X hr kk
  obtain ⟨hx, hb, hml, hown, hts, hinit, hA, hsc, hst⟩ := F
  have hlen : len = 2 := by simpa [qok, qlen] using ho
  subst hlen
  simp only [qs1] at h
  split at h
  · rename_i x r
    split at h
    · rename_i hlt
      cases h
      have hlt := Nat.blt_eq.mp hlt
      obtain ⟨hW, hL, hn, hs, hS⟩ := X
      exact lv_lstore hx hb hd  hL.has (by rw [hn]; omega) rfl (fun arr' h' => kk ad ac arr' H locs cells slots (fun _ _ => ⟨rfl, rfl⟩) rfl rfl ⟨hW, hL.put2 (by rw [hn]; omega) rfl hs.h.2 h', by rw [qst_len]; exact hn, hs.t, hS⟩)
    · cases h
  · cases h

theorem q_lstore_n {i : Fin 4} (F : qFx p s m args meth c A H0 sa sc k) : qStep p l e R s m args below meth c Q D A H0 sa sc k (.lstore_n i) := by
  intro len pc ls st w n pc' ls' st' w' n' ad ac arr H locs cells slots hd ho h X hr kk
  obtain ⟨hx, hb, hml, hown, hts, hinit, hA, hsc, hst⟩ := F
  have hlen : len = 1 := by simpa [qok, qlen] using ho
  subst hlen
  simp only [qs1] at h
  split at h
  · rename_i x r
    split at h
    · rename_i hlt
      cases h
      have hlt := Nat.blt_eq.mp hlt
      obtain ⟨hW, hL, hn, hs, hS⟩ := X
      exact lv_lstore_n hx hb hd rfl  hL.has (by rw [hn]; omega) rfl (fun arr' h' => kk ad ac arr' H locs cells slots (fun _ _ => ⟨rfl, rfl⟩) rfl rfl ⟨hW, hL.put2 (by rw [hn]; omega) rfl hs.h.2 h', by rw [qst_len]; exact hn, hs.t, hS⟩)
    · cases h
  · cases h

theorem q_astore_n {i : Fin 4} (F : qFx p s m args meth c A H0 sa sc k) : qStep p l e R s m args below meth c Q D A H0 sa sc k (.astore_n i) := by
  intro len pc ls st w n pc' ls' st' w' n' ad ac arr H locs cells slots hd ho h X hr kk
  obtain ⟨hx, hb, hml, hown, hts, hinit, hA, hsc, hst⟩ := F
  have hlen : len = 1 := by simpa [qok, qlen] using ho
  subst hlen
  simp only [qs1] at h
  split at h
  · rename_i x r
    split at h
    · rename_i hlt
      cases h
      have hlt := Nat.blt_eq.mp hlt
      obtain ⟨hW, hL, hn, hs, hS⟩ := X
      have K := fun arr' h' => kk ad ac arr' H locs cells slots (fun _ _ => ⟨rfl, rfl⟩) rfl rfl ⟨hW, hL.put1 (arr' := arr') (i := i.val) (by rw [hn]; omega) qn1 hs.h.2 h', by rw [qst_len]; exact hn, hs.t, hS⟩
      have e1 : qcv ad sa (2, x) = va_rf (qrf ad x) := rfl
      rw [e1] at K
      rw [List.map_cons, e1]
      cases hv : qrf ad x with
      | none =>
        rw [hv] at K
        exact lv_astore_nN hx hb hd rfl hL.has (by rw [hn]; omega) rfl K
      | some a =>
        rw [hv] at K
        exact lv_astore_n hx hb hd rfl hL.has (by rw [hn]; omega) rfl K
    · cases h
  · cases h

theorem q_iinc {i : Nat} {v : Int} (F : qFx p s m args meth c A H0 sa sc k) : qStep p l e R s m args below meth c Q D A H0 sa sc k (.iinc i v) := by
  intro len pc ls st w n pc' ls' st' w' n' ad ac arr H locs cells slots hd ho h X hr kk
  obtain ⟨hx, hb, hml, hown, hts, hinit, hA, hsc, hst⟩ := F
  simp only [qok, Bool.and_eq_true, Nat.beq_eq_true_eq, decide_eq_true_eq] at ho
  obtain ⟨hlen, hi⟩ := ho
  have hlen := Nat.eq_of_beq_eq_true hlen
  subst hlen
  simp only [qs1] at h
  split at h
  · rename_i x hq
    split at h
    · rename_i hlt
      cases h
      have hlt := Nat.blt_eq.mp hlt
      obtain ⟨hW, hL, hn, hs, hS⟩ := X
      have hm := qll_mem (ad := ad) (sa := sa) (ls := ls) (j := i) (by rw [hq]; exact q4 rfl)
      rw [hq] at hm
      obtain ⟨k9, hk9⟩ := List.getElem?_of_mem hm
      exact lv_iinc hx hb hd hL.has hk9 (e_add x v) (by rw [hn]; omega) rfl (fun arr' h' => kk ad ac arr' H locs cells slots (fun _ _ => ⟨rfl, rfl⟩) rfl rfl ⟨hW, hL.put1 (by rw [hn]; omega) qn1 (.mki (wrp_in _)) h', by rw [qst_len]; exact hn, hs, hS⟩)
    · cases h
  · cases h

theorem q_dup (F : qFx p s m args meth c A H0 sa sc k) : qStep p l e R s m args below meth c Q D A H0 sa sc k (.dup) := by
  intro len pc ls st w n pc' ls' st' w' n' ad ac arr H locs cells slots hd ho h X hr kk
  obtain ⟨hx, hb, hml, hown, hts, hinit, hA, hsc, hst⟩ := F
  have hlen : len = 1 := by simpa [qok, qlen] using ho
  subst hlen
  simp only [qs1] at h
  split at h
  · rename_i x r
    cases h
    obtain ⟨hW, hL, hn, hs, hS⟩ := X
    exact lv_dup hx hb hd rfl (kk ad ac arr H locs cells slots (fun _ _ => ⟨rfl, rfl⟩) rfl rfl ⟨hW, hL, hn, .cn hs.h.1 hs.h.2 hs, hS⟩)
  · rename_i x r
    cases h
    obtain ⟨hW, hL, hn, hs, hS⟩ := X
    exact lv_dup hx hb hd (va_rf_cat _) (kk ad ac arr H locs cells slots (fun _ _ => ⟨rfl, rfl⟩) rfl rfl ⟨hW, hL, hn, .cn hs.h.1 hs.h.2 hs, hS⟩)
  · cases h

theorem q_dup2 (F : qFx p s m args meth c A H0 sa sc k) : qStep p l e R s m args below meth c Q D A H0 sa sc k (.dup2) := by
  intro len pc ls st w n pc' ls' st' w' n' ad ac arr H locs cells slots hd ho h X hr kk
  obtain ⟨hx, hb, hml, hown, hts, hinit, hA, hsc, hst⟩ := F
  have hlen : len = 1 := by simpa [qok, qlen] using ho
  subst hlen
  simp only [qs1] at h
  split at h
  · rename_i x y r
    cases h
    obtain ⟨hW, hL, hn, hs, hS⟩ := X
    exact lv_dup2_11 hx hb hd rfl (va_rf_cat _) (kk ad ac arr H locs cells slots (fun _ _ => ⟨rfl, rfl⟩) rfl rfl ⟨hW, hL, hn, .cn hs.h.1 hs.h.2 (.cn hs.t.h.1 hs.t.h.2 hs), hS⟩)
  · cases h

theorem q_pop (F : qFx p s m args meth c A H0 sa sc k) : qStep p l e R s m args below meth c Q D A H0 sa sc k (.pop) := by
  intro len pc ls st w n pc' ls' st' w' n' ad ac arr H locs cells slots hd ho h X hr kk
  obtain ⟨hx, hb, hml, hown, hts, hinit, hA, hsc, hst⟩ := F
  have hlen : len = 1 := by simpa [qok, qlen] using ho
  subst hlen
  simp only [qs1] at h
  split at h
  · rename_i x r
    cases h
    obtain ⟨hW, hL, hn, hs, hS⟩ := X
    exact lv_pop hx hb hd rfl (kk ad ac arr H locs cells slots (fun _ _ => ⟨rfl, rfl⟩) rfl rfl ⟨hW, hL, hn, hs.t, hS⟩)
  · cases h

theorem q_goto {off : Int} (F : qFx p s m args meth c A H0 sa sc k) : qStep p l e R s m args below meth c Q D A H0 sa sc k (.goto off) := by
  intro len pc ls st w n pc' ls' st' w' n' ad ac arr H locs cells slots hd ho h X hr kk
  obtain ⟨hx, hb, hml, hown, hts, hinit, hA, hsc, hst⟩ := F
  simp only [qok, Bool.and_eq_true, Nat.beq_eq_true_eq, decide_eq_true_eq] at ho
  obtain ⟨hlen, hi⟩ := ho
  have hlen := Nat.eq_of_beq_eq_true hlen
  subst hlen
  simp only [qs1] at h
  cases h
  obtain ⟨hW, hL, hn, hs, hS⟩ := X
  exact lv_goto hx hb hd (qtg_eq hi) (kk ad ac arr H locs cells slots (fun _ _ => ⟨rfl, rfl⟩) rfl rfl ⟨hW, hL, hn, hs, hS⟩)

theorem e_ge {x y : Int} (hx : qi32 x) (hy : qi32 y) : Int32.ofInt y ≤ Int32.ofInt x ↔ ¬ x < y := by rw [e_le hy hx]; omega
theorem e_ne {x y : Int} (hx : qi32 x) (hy : qi32 y) : ¬ Int32.ofInt x = Int32.ofInt y ↔ ¬ x = y := by rw [e_eq hx hy]
theorem e_z : qi32 0 := ⟨by decide, by decide⟩
theorem q_ifCond {cd : Jvm.ClassFile.Cond} {off : Int} (F : qFx p s m args meth c A H0 sa sc k) : qStep p l e R s m args below meth c Q D A H0 sa sc k (.ifCond cd off) := by
  intro len pc ls st w n pc' ls' st' w' n' ad ac arr H locs cells slots hd ho h X hr kk
  obtain ⟨hx, hb, hml, hown, hts, hinit, hA, hsc, hst⟩ := F
  simp only [qok, Bool.and_eq_true, Nat.beq_eq_true_eq, decide_eq_true_eq] at ho
  obtain ⟨hlen, hi⟩ := ho
  have hlen := Nat.eq_of_beq_eq_true hlen
  subst hlen
  simp only [qs1] at h
  split at h
  · rename_i x r
    obtain ⟨hW, hL, hn, hs, hS⟩ := X
    have hx9 := hs.h.2.i
    have hy9 := e_z
    have K : ∀ q, some (q, ls, r, w, n) = some (pc', ls', st', w', n') → W p l e R s m args below meth c H locs cells slots Q (F0 m q arr (r.map (qcv ad sa))) := fun q hq => by
      cases hq
      exact kk ad ac arr H locs cells slots (fun _ _ => ⟨rfl, rfl⟩) rfl rfl ⟨hW, hL, hn, hs.t, hS⟩
    cases cd <;> simp only [qbr] at h
    · refine lv_if_eq hx hb hd (qtg_eq hi) (fun q => K _ ?_) (fun q => K _ ?_)
      · rw [if_pos ((e_eq hx9 hy9).mp q)] at h; exact h
      · rw [if_neg (fun z => q ((e_eq hx9 hy9).mpr z))] at h; exact h
    · refine lv_if_ne hx hb hd (qtg_eq hi) (fun q => K _ ?_) (fun q => K _ ?_)
      · rw [if_neg ((e_ne hx9 hy9).mp q)] at h; exact h
      · rw [if_pos ((e_eq hx9 hy9).mp q)] at h; exact h
    · refine lv_if_lt hx hb hd (qtg_eq hi) (fun q => K _ ?_) (fun q => K _ ?_)
      · rw [if_pos ((e_lt hx9 hy9).mp q)] at h; exact h
      · rw [if_neg (fun z => q ((e_lt hx9 hy9).mpr z))] at h; exact h
    · refine lv_if_ge hx hb hd (qtg_eq hi) (fun q => K _ ?_) (fun q => K _ ?_)
      · rw [if_neg ((e_ge hx9 hy9).mp q)] at h; exact h
      · rw [if_pos (Decidable.of_not_not (fun z => q ((e_ge hx9 hy9).mpr z)))] at h; exact h
    · refine lv_if_gt hx hb hd (qtg_eq hi) (fun q => K _ ?_) (fun q => K _ ?_)
      · rw [if_pos ((e_lt hy9 hx9).mp q)] at h; exact h
      · rw [if_neg (fun z => q ((e_lt hy9 hx9).mpr z))] at h; exact h
    · refine lv_if_le hx hb hd (qtg_eq hi) (fun q => K _ ?_) (fun q => K _ ?_)
      · rw [if_neg ((e_ge hy9 hx9).mp q)] at h; exact h
      · rw [if_pos (Decidable.of_not_not (fun z => q ((e_ge hy9 hx9).mpr z)))] at h; exact h
  · cases h

theorem q_if_icmp {cd : Jvm.ClassFile.Cond} {off : Int} (F : qFx p s m args meth c A H0 sa sc k) : qStep p l e R s m args below meth c Q D A H0 sa sc k (.if_icmp cd off) := by
  intro len pc ls st w n pc' ls' st' w' n' ad ac arr H locs cells slots hd ho h X hr kk
  obtain ⟨hx, hb, hml, hown, hts, hinit, hA, hsc, hst⟩ := F
  simp only [qok, Bool.and_eq_true, Nat.beq_eq_true_eq, decide_eq_true_eq] at ho
  obtain ⟨hlen, hi⟩ := ho
  have hlen := Nat.eq_of_beq_eq_true hlen
  subst hlen
  simp only [qs1] at h
  split at h
  · rename_i y x r
    obtain ⟨hW, hL, hn, hs, hS⟩ := X
    have hx9 := hs.t.h.2.i
    have hy9 := hs.h.2.i
    have K : ∀ q, some (q, ls, r, w, n) = some (pc', ls', st', w', n') → W p l e R s m args below meth c H locs cells slots Q (F0 m q arr (r.map (qcv ad sa))) := fun q hq => by
      cases hq
      exact kk ad ac arr H locs cells slots (fun _ _ => ⟨rfl, rfl⟩) rfl rfl ⟨hW, hL, hn, hs.t.t, hS⟩
    cases cd <;> simp only [qbr] at h
    · refine lv_icmp_eq hx hb hd (qtg_eq hi) (fun q => K _ ?_) (fun q => K _ ?_)
      · rw [if_pos ((e_eq hx9 hy9).mp q)] at h; exact h
      · rw [if_neg (fun z => q ((e_eq hx9 hy9).mpr z))] at h; exact h
    · refine lv_icmp_ne hx hb hd (qtg_eq hi) (fun q => K _ ?_) (fun q => K _ ?_)
      · rw [if_neg ((e_ne hx9 hy9).mp q)] at h; exact h
      · rw [if_pos ((e_eq hx9 hy9).mp q)] at h; exact h
    · refine lv_icmp_lt hx hb hd (qtg_eq hi) (fun q => K _ ?_) (fun q => K _ ?_)
      · rw [if_pos ((e_lt hx9 hy9).mp q)] at h; exact h
      · rw [if_neg (fun z => q ((e_lt hx9 hy9).mpr z))] at h; exact h
    · refine lv_icmp_ge hx hb hd (qtg_eq hi) (fun q => K _ ?_) (fun q => K _ ?_)
      · rw [if_neg ((e_ge hx9 hy9).mp q)] at h; exact h
      · rw [if_pos (Decidable.of_not_not (fun z => q ((e_ge hx9 hy9).mpr z)))] at h; exact h
    · refine lv_icmp_gt hx hb hd (qtg_eq hi) (fun q => K _ ?_) (fun q => K _ ?_)
      · rw [if_pos ((e_lt hy9 hx9).mp q)] at h; exact h
      · rw [if_neg (fun z => q ((e_lt hy9 hx9).mpr z))] at h; exact h
    · refine lv_icmp_le hx hb hd (qtg_eq hi) (fun q => K _ ?_) (fun q => K _ ?_)
      · rw [if_neg ((e_ge hy9 hx9).mp q)] at h; exact h
      · rw [if_pos (Decidable.of_not_not (fun z => q ((e_ge hy9 hx9).mpr z)))] at h; exact h
  · cases h

end QS
