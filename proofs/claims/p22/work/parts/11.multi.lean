/-! new long[n][k] -/
theorem qpl_27 : qpl 27 = (1, 1, 3, 0) := by decide +kernel
theorem qSz_rows (n m h : Nat) : (∀ i, i < m → (qpl (n + 1 + i)).2.2.1 = h) → qSz (n + m) = qSz n + m * h := by
  induction m with
  | zero => intro _; simp
  | succ m ih =>
    intro hh
    have := ih (fun i hi => hh i (by omega))
    have h1 := qSz_s (n + m)
    rw [show n + m + 1 = n + 1 + m by omega, hh m (by omega)] at h1
    rw [show n + (m + 1) = n + 1 + m by omega, h1, this, Nat.succ_mul]
    omega
section QM
variable {p : Program} {l : Launch} {e : Env} {R : Room} {s : State} {m : MethodId} {args : Array Value} {below : List Frame} {meth : Method} {c : Code} {Q : State → Prop}
variable {D : va_G} {A : Nat → Prop} {H0 : Heap} {sa : Nat → Nat} {sc : Option (Nat × (Nat → Int))} {k : Nat}
theorem q_multianewarray {i dd : Nat} (F : qFx p s m args meth c A H0 sa sc k) : qStep p l e R s m args below meth c Q D A H0 sa sc k (.multianewarray i dd) := by
  intro len pc ls st w n pc' ls' st' w' n' ad ac arr H locs cells slots hd ho h X hr kk
  obtain ⟨hx, hb, hml, hown, hts, hinit, hA, hsc, hst⟩ := F
  have hlen : len = 4 := by simpa [qok, qlen] using ho
  subst hlen
  obtain ⟨hW, hL, hn, hs, hS⟩ := X
  simp only [qs1] at h
  split at h
  · rename_i u v r m0 hq hpl
    split at h
    · rename_i hv
      split at h
      · rename_i hrows
        cases h
        have h9 := qpl_r hpl
        have h9 : 30 ≤ n + 1 ∧ m0 = 5 := by omega
        obtain ⟨h30, rfl⟩ := h9
        have hu9 := hs.h.2.i
        have hv9 := hs.t.h.2.i
        have hrow : ∀ j, j < 5 → ∃ x, qpl (n + 2 + j) = (1, 1, u.toNat, x) := by
          intro j hj
          have := List.all_eq_true.mp hrows j (List.mem_range.mpr hj)
          split at this
          · rename_i h0 x0 hq9
            simp only [decide_eq_true_eq] at this
            exact ⟨x0, by rw [hq9, show h0 = u.toNat by omega]⟩
          · cases this
        obtain ⟨x00, hr0⟩ := hrow 0 (by decide)
        have hu5 := (qpl_a hr0).2.1
        have hK27 := hW.2.2.2.1 27 1 3 0 (by omega) (by omega) qpl_27
        have hcy : s.vm.findClass (FieldType.array .long).toString = some (ac 27) := (hK27.2 0 _ rfl).2
        have hsz1 := qSz_s n
        rw [hpl] at hsz1
        have hsz1 : qSz (n + 1) = qSz n + 5 := hsz1
        have hsz2 := qSz_rows (n + 1) 5 u.toNat (fun j hj => by
          obtain ⟨x, hx⟩ := hrow j hj
          rw [show n + 1 + 1 + j = n + 2 + j by omega, hx])
        obtain ⟨hr1, hr2⟩ := hr
        refine va_mna (X := qws ad ac w n) (L := []) (f := fun _ => .inr (0, [])) (ty := .long) (cy := ac 27) (N' := 5) (K' := u.toNat) (z := (u.toNat, qca ad 1 (fun _ => 0))) hx hb hown (hts _ (qC_99 hq)) (va_AOA.of (hst.1.2.1 _ (by simp))) (hts _ qwA_long) hcy hW.2.2.1 (by rw [show va_pl [] _ = [] from rfl, List.append_nil]; exact hW.1) (by rw [show va_pl [] _ = [] from rfl, List.append_nil]; exact hW.2.1) hS hA (by rw [e_neg1 hv9]; omega) (by rw [e_neg1 hu9]; omega) (by rw [e_cl hv9]; omega) (by rw [e_cl hu9]) (by decide) (Nat.le_trans (Nat.mul_le_mul hu5 (show componentBytes .long ≤ 8 by decide)) (by decide)) (by omega) rfl rfl (by omega) (by omega) (fun c => ?_) hd (fun q r9 cA H1 hinj hnl hK1 h1 h2 h3 => ?_)
        · show _ = arrV c u.toNat (fun _ => .long (Int64.ofInt 0))
          rw [← arrV_new]; rfl
        · let ad' : Nat → Nat := fun p => if p = n + 1 then q else if n + 1 < p ∧ p ≤ n + 1 + 5 then r9 (p - (n + 2)) else ad p
          let ac' : Nat → ClassId := fun p => if p = n + 1 then cA else if n + 1 < p ∧ p ≤ n + 1 + 5 then ac 27 else ac p
          let w9 : qW := fun p => if p = n + 1 then (fun j => if j < 5 then ((n + 2 + j : Nat) : Int) else 0) else qclr w (n + 1) p
          have ha : ∀ i, i ≤ n → ad' i = ad i := fun i hi => by show (if _ then _ else _) = _; rw [if_neg (by omega), if_neg (by omega)]
          have hac : ∀ i, i ≤ n → ac' i = ac i := fun i hi => by show (if _ then _ else _) = _; rw [if_neg (by omega), if_neg (by omega)]
          have ha1 : ad' (n + 1) = q := if_pos rfl
          have hac1 : ac' (n + 1) = cA := if_pos rfl
          have ha2 : ∀ j, j < 5 → ad' (n + 2 + j) = r9 j := fun j hj => by
            show (if _ then _ else _) = _
            rw [if_neg (by omega), if_pos (by omega), show n + 2 + j - (n + 2) = j by omega]
          have hac2 : ∀ j, j < 5 → ac' (n + 2 + j) = ac 27 := fun j hj => by
            show (if _ then _ else _) = _
            rw [if_neg (by omega), if_pos (by omega)]
          have hw1 : w9 (n + 1) = (fun j => if j < 5 then ((n + 2 + j : Nat) : Int) else 0) := if_pos rfl
          have hwl : ∀ p, p ≤ n → w9 p = w p := fun p hp => by
            show (if _ then _ else _) = _
            rw [if_neg (by omega)]; exact qclr_lo (by omega)
          have hwr : ∀ j, w9 (n + 2 + j) = fun _ => 0 := fun j => by
            show (if _ then _ else _) = _
            rw [if_neg (by omega)]; exact qclr_hi (by omega)
          have cases3 : ∀ p, 0 < p → p ≤ n + 1 + 5 → p ≤ n ∨ p = n + 1 ∨ ∃ j, j < 5 ∧ p = n + 2 + j := fun p h0 h1 => by
            by_cases c1 : p ≤ n
            · exact Or.inl c1
            · by_cases c2 : p = n + 1
              · exact Or.inr (Or.inl c2)
              · exact Or.inr (Or.inr ⟨p - (n + 2), by omega, by omega⟩)
          have hWn : qWr D A s H1 ad' ac' w9 (n + 1 + 5) := by
            refine ⟨qP_of fun p h0 h5 => ?_, va_D_fst ?_ h2, hW.2.2.1, fun p e m c h0 h5 hq9 => ?_, fun p h0 h5 j hj => ?_⟩
            · rcases cases3 p h0 h5 with hp | rfl | ⟨j, hj, rfl⟩
              · rw [ha p hp]
                refine q_atcg (hW.2.2.2.2 p h0 hp) ha (hac p hp) (hwl p hp) (h1 (p - 1) _ ?_)
                rw [List.getElem?_append_left (by rw [List.length_append, qws_len]; omega), List.getElem?_append_left (by rw [qws_len]; omega)]
                exact qws_at h0 hp
              · have hz := h1 n (q, .inl (cA, 5, .inr (.inr (.inr (.inr (fun i => if i < 5 then some (r9 i) else none)))))) (by
                  rw [List.getElem?_append_left (by rw [List.length_append, qws_len]; exact Nat.lt_succ_self n), List.getElem?_append_right (by rw [qws_len]; omega), qws_len, Nat.sub_self]; rfl)
                rw [ha1, qce_a hpl, hac1, hw1]
                have e1 : vp_cell cA (5, qca ad' 2 (fun j => if j < 5 then ((n + 2 + j : Nat) : Int) else 0)) = vp_cell cA (5, .inr (.inr (.inr (.inr (fun i => if i < 5 then some (r9 i) else none))))) := by
                  show vp_cell cA (5, .inr (.inr (.inr (.inr (fun j => qrf ad' (if j < 5 then ((n + 2 + j : Nat) : Int) else 0)))))) = _
                  rw [vp_cell_q, vp_cell_q]
                  refine arrV_cg _ _ (fun j hj => ?_)
                  rw [if_pos hj, if_pos hj]
                  unfold qrf
                  rw [if_neg (by omega), show ((n + 2 + j : Nat) : Int).toNat = n + 2 + j by omega, ha2 j hj]
                show H1[q]? = some (vp_cell cA (5, qca ad' 2 _))
                rw [e1]
                exact hz
              · obtain ⟨x, hx9⟩ := hrow j hj
                have hz := h1 (n + 1 + j) (r9 j, .inl (ac 27, (u.toNat, qca ad 1 (fun _ => 0)))) (by
                  rw [List.getElem?_append_right (by rw [List.length_append, qws_len]; exact Nat.le_add_right _ _), List.length_append, qws_len]
                  show (va_pl _ _)[n + 1 + j - (n + 1)]? = _
                  rw [show n + 1 + j - (n + 1) = j by omega]
                  unfold va_pl
                  rw [List.getElem?_map, List.nil_append, List.getElem?_map, List.getElem?_range hj]
                  show some (r9 j, vr_up _ _ _ (r9 j)) = _
                  rw [vr_up_in (List.mem_map.mpr ⟨j, List.mem_range.mpr hj, rfl⟩)])
                rw [ha2 j hj, qce_a hx9, hac2 j hj, hwr j]
                exact hz
            · rw [qws_fst]
              apply List.ext_getElem?
              intro i
              rw [List.map_append, List.map_append, qws_fst]
              by_cases c1 : i < n
              · rw [List.getElem?_append_left (by simp; omega), List.getElem?_append_left (by simp; omega), List.getElem?_map, List.getElem?_map, List.getElem?_range c1, List.getElem?_range (by omega)]
                show some (ad' (i + 1)) = some (ad (i + 1))
                rw [ha _ (by omega)]
              · by_cases c2 : i = n
                · subst c2
                  rw [List.getElem?_append_left (by simp), List.getElem?_append_right (by simp), List.getElem?_map, List.getElem?_range (by omega)]
                  simp [ha1]
                · rw [List.getElem?_append_right (by simp; omega)]
                  by_cases c3 : i < n + 1 + 5
                  · rw [List.getElem?_map, List.getElem?_range c3]
                    unfold va_pl
                    rw [List.map_map, List.nil_append, List.getElem?_map, List.getElem?_map]
                    have e1 : i - (List.map (fun i => ad (i + 1)) (List.range n) ++ List.map Prod.fst [((q, .inl (cA, 5, .inr (.inr (.inr (.inr (fun i => if i < 5 then some (r9 i) else none)))))) : Nat × va_E)]).length = i - (n + 1) := by simp
                    rw [e1, List.getElem?_range (by omega)]
                    show some (ad' (i + 1)) = some (r9 (i - (n + 1)))
                    have := ha2 (i - (n + 1)) (by omega)
                    rw [show n + 2 + (i - (n + 1)) = i + 1 by omega] at this
                    rw [this]
                  · rw [List.getElem?_eq_none (by simp; omega), List.getElem?_eq_none (by simp [va_pl]; omega)]
            · rcases cases3 p h0 h5 with hp | rfl | ⟨j, hj, rfl⟩
              · rw [hac p hp]; exact hW.2.2.2.1 p e m c h0 hp hq9
              · rw [hpl] at hq9
                cases hq9
                rw [hac1]; exact hK1
              · obtain ⟨x, hx9⟩ := hrow j hj
                rw [hx9] at hq9
                cases hq9
                rw [hac2 j hj]; exact hK27
            · rcases cases3 p h0 h5 with hp | rfl | ⟨j9, hj9, rfl⟩
              · rw [hwl p hp]; exact qrx_mono (by omega) (hW.2.2.2.2 p h0 hp j hj)
              · rw [hpl] at hj
                rw [hw1, qkd_a hpl]
                have hj : j < 5 := hj
                show qrx 2 _ (if j < 5 then ((n + 2 + j : Nat) : Int) else 0)
                rw [if_pos hj]
                exact ⟨by omega, by omega⟩
              · rw [hwr]; exact qrx_0 _ _
          have K := kk ad' ac' arr H1 locs (cells + 1 + 5) (slots + 5 + 5 * u.toNat) (fun i hi => ⟨ha i hi, hac i hi⟩) (by omega) (by omega)
            ⟨hWn, hL.up ha (by omega), hn, .cn (q4 rfl) (fun _ => ⟨by omega, by omega⟩) (hs.t.t.up (by omega)), h3⟩
          rw [List.map_cons, qcv_ref (by omega), q_stk hs.t.t ha, show ((n : Int) + 1).toNat = n + 1 by omega, ha1] at K
          exact K
      · cases h
    · cases h
  · cases h
end QM
