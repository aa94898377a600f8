/-! what holds between the law's calls -/
noncomputable def SP (w : qW) : Prop := yInv zgf zga zra zSp w ∧ Sp1 w ∧ Sp2 w ∧ S3 w
noncomputable def spo (m : List Nat) (p : Nat) : Bool := m.all (fun e => !Nat.beq (e % 1000) p)
noncomputable def spm2 (m : List Nat) : Bool := spo m 104 && (spo m 105 && (spo m 111 && (spo m 112 && !ymo 95 22 m)))
noncomputable def spm (m : List Nat) : Bool := spm2 m && (spo m 102 && (spo m 103 && !ymo 95 8 m))
theorem SP.aw2 {m : List Nat} {w w1 : qW} (h : SP w) (a : AW m w w1) (hm : spm2 m = true) (hS : S3 w1) : SP w1 := by
  unfold spm2 at hm
  simp only [Bool.and_eq_true, Bool.not_eq_true'] at hm
  obtain ⟨m1, m2, m3, m4, m5⟩ := hm
  exact ⟨a.1, h.2.1.aw a m1 m2, h.2.2.1.aw a m5 m3 m4, hS⟩
theorem SP.aw {m : List Nat} {w w1 : qW} (h : SP w) (a : AW m w w1) (hm : spm m = true) : SP w1 := by
  unfold spm at hm
  simp only [Bool.and_eq_true, Bool.not_eq_true'] at hm
  obtain ⟨m1, m2, m3, m4⟩ := hm
  exact h.aw2 a m1 (h.2.2.2.aw a m4 m2 m3)
theorem SP.sq {m : List Nat} {w w1 : qW} {r : qV} {n1 : Nat} (h : SP w) (q : SQ m w r w1 n1) (hm : spm2 m = true) : SP w1 := h.aw2 q.2.2.1 hm q.2.2.2
theorem SP.tx {w w1 : qW} {r : qV} {n1 : Nat} (h : SP w) (q : TXQ w r w1 n1) : SP w1 := ⟨q.2.2.1.1, q.2.2.2.1 h.2.1, q.2.2.2.2 h.2.2.1, h.2.2.2.aw q.2.2.1 rfl (by decide) (by decide)⟩
/-- a call by its contract -/
theorem SP.use {t : Nat} {c : yC} {w : qW} {d : Nat} {as : List qV} (T : yCOK w zgf zga zra zSp zgh t c) (h : SP w) (hd : c.1 ≤ d) (ha : yamc c.2.1 as) (hn : c.2.2.2.2.1 = []) (hp : c.2.2.2.2.2.1 = []) (hs : spm c.2.2.2.1 = true) : qG none d t 0 (qini t as) [] w 142 (fun v w' n' => ∃ x, v = (c.2.2.1.1, x) ∧ c.2.2.1.2.1 ≤ x ∧ x ≤ c.2.2.1.2.2 ∧ SP w' ∧ n' = 142) := by
  refine qG.mono (T d as w hd ha h.1 (fun p hp => by rw [hn] at hp; cases hp) (fun e he => by rw [hp] at he; cases he)) (fun v w' n' hh => ?_)
  obtain ⟨⟨h1, h2, h3⟩, h4, h5, h6, -, -⟩ := hh
  exact ⟨v.2, Prod.ext h1 rfl, h2, h3, h.aw (m := c.2.2.2.1) ⟨h4, h6⟩ hs, h5⟩
