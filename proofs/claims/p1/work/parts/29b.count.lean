/-! the class's poses on a fresh pair, counted -/
def Pf (s : Nat) : Int := qW0 65 s
theorem args2 {as : List qV} {a b : Int} (h : yamc [(2, a, a), (2, b, b)] as) : as = [(2, a), (2, b)] := by
  match as, h with
  | [(a1, a2), (b1, b2)], h =>
    obtain ⟨⟨x1, x2, x3⟩, ⟨y1, y2, y3⟩, -⟩ := h
    have x1 : a1 = 2 := x1
    have y1 : b1 = 2 := y1
    have x2 : a ≤ a2 := x2
    have x3 : a2 ≤ a := x3
    have y2 : b ≤ b2 := y2
    have y3 : b2 ≤ b := y3
    rw [x1, y1, show a2 = a by omega, show b2 = b by omega]
theorem Pf_16 : ∀ s, s < 16 → qW0 65 s = Pf s ∧ qW0 70 s = Pf s ∧ qW0 75 s = Pf s := fun s hs => ⟨rfl, by have := nbp_16 s hs; show qW0 70 s = qW0 65 s; rw [← this.2.1, ← this.1], by have := nbp_16 s hs; show qW0 75 s = qW0 65 s; rw [← this.2.2, ← this.1]⟩
theorem fr_0 : qand 65535 (qxor 0 (-1)) = 65535 := by decide +kernel
theorem fc_1 : fcnt Pf 65535 1820 1 0 = 16 := by decide +kernel
theorem fd_1 : fsd Pf 65535 1 = true := by decide +kernel
theorem fv_1 : wrp (qshl 1 ((1 : Nat) : Int) - 1) = 1 := by decide +kernel
theorem fc_2 : fcnt Pf 65535 1820 3 0 = 28 := by decide +kernel
theorem fd_2 : fsd Pf 65535 3 = true := by decide +kernel
theorem fv_2 : wrp (qshl 1 ((2 : Nat) : Int) - 1) = 3 := by decide +kernel
theorem fc_3 : fcnt Pf 65535 1820 7 0 = 72 := by decide +kernel
theorem fd_3 : fsd Pf 65535 7 = true := by decide +kernel
theorem fv_3 : wrp (qshl 1 ((3 : Nat) : Int) - 1) = 7 := by decide +kernel
theorem fc_4 : fcnt Pf 65535 1820 15 0 = 180 := by decide +kernel
theorem fd_4 : fsd Pf 65535 15 = true := by decide +kernel
theorem fv_4 : wrp (qshl 1 ((4 : Nat) : Int) - 1) = 15 := by decide +kernel
def C_fsF_64_1 : Nat × yC := (95, (2, [(2, 24, 24), (2, 64, 64)], (9, 0, 0), [25, 4024], [64, 65], [(24, 1, 1)], [(24, 3, 16), (25, 0, 1)], 0, []))
theorem T_fsF_64_1 {w0 : qW} (hF : zF w0) : yCOK w0 zgf zga zra zSp zgh C_fsF_64_1.1 C_fsF_64_1.2 := by
  intro d as w hd hm hI hn hp
  obtain rfl := args2 hm
  have hk0 : w 24 1 = ((1 : Nat) : Int) := hp (24, 1, 1) List.mem_cons_self (by decide)
  have hP : ∀ j, j < 16 → (fun s => w 65 s) j = Pf j := fun j hj => by
    show w 65 j = Pf j
    rw [hn 65 rfl j, hF 65 j (by decide) (by decide)]
    exact (Pf_16 j hj).1
  have h0 : w 64 0 = 0 := by rw [hn 64 rfl 0, hF 64 0 (by decide) (by decide)]; rfl
  have h := K_findSets_64 (d := d) hd 1 (by decide) (by decide) w hI hk0 65535 (by rw [h0]; exact fr_0) 1 fv_1 (by decide) 16 (by rw [fcnt_c hP]; exact fc_1) ⟨by decide, by decide⟩ (by decide) (by rw [fsd_c hP]; exact fd_1)
  refine qG.mono h (fun v w1 n1 hh => ?_)
  obtain ⟨rfl, rfl, h1, h2, h3, h4⟩ := hh
  refine ⟨⟨rfl, Int.le_refl 0, Int.le_refl 0⟩, h4, rfl, fun p j hpj => ?_, fun e he => ?_, fun z => (by cases z)⟩
  · by_cases hq : p < 1000
    · have hpj := hpj hq
      exact h3 p j (fun z => (by rw [z] at hpj; cases hpj)) (fun z => (by obtain ⟨rfl, rfl⟩ := z; cases hpj))
    · exact h3 p j (by omega) (fun z => by omega)
  · rcases List.mem_cons.mp he with rfl | he
    · exact ⟨by decide, h1⟩
    · rcases List.mem_cons.mp he with rfl | he
      · exact ⟨by decide, h2 (by decide)⟩
      · cases he
def C_fsF_64_2 : Nat × yC := (95, (2, [(2, 24, 24), (2, 64, 64)], (9, 0, 0), [25, 4024], [64, 65], [(24, 1, 2)], [(24, 3, 28), (25, 0, 3)], 0, []))
theorem T_fsF_64_2 {w0 : qW} (hF : zF w0) : yCOK w0 zgf zga zra zSp zgh C_fsF_64_2.1 C_fsF_64_2.2 := by
  intro d as w hd hm hI hn hp
  obtain rfl := args2 hm
  have hk0 : w 24 1 = ((2 : Nat) : Int) := hp (24, 1, 2) List.mem_cons_self (by decide)
  have hP : ∀ j, j < 16 → (fun s => w 65 s) j = Pf j := fun j hj => by
    show w 65 j = Pf j
    rw [hn 65 rfl j, hF 65 j (by decide) (by decide)]
    exact (Pf_16 j hj).1
  have h0 : w 64 0 = 0 := by rw [hn 64 rfl 0, hF 64 0 (by decide) (by decide)]; rfl
  have h := K_findSets_64 (d := d) hd 2 (by decide) (by decide) w hI hk0 65535 (by rw [h0]; exact fr_0) 3 fv_2 (by decide) 28 (by rw [fcnt_c hP]; exact fc_2) ⟨by decide, by decide⟩ (by decide) (by rw [fsd_c hP]; exact fd_2)
  refine qG.mono h (fun v w1 n1 hh => ?_)
  obtain ⟨rfl, rfl, h1, h2, h3, h4⟩ := hh
  refine ⟨⟨rfl, Int.le_refl 0, Int.le_refl 0⟩, h4, rfl, fun p j hpj => ?_, fun e he => ?_, fun z => (by cases z)⟩
  · by_cases hq : p < 1000
    · have hpj := hpj hq
      exact h3 p j (fun z => (by rw [z] at hpj; cases hpj)) (fun z => (by obtain ⟨rfl, rfl⟩ := z; cases hpj))
    · exact h3 p j (by omega) (fun z => by omega)
  · rcases List.mem_cons.mp he with rfl | he
    · exact ⟨by decide, h1⟩
    · rcases List.mem_cons.mp he with rfl | he
      · exact ⟨by decide, h2 (by decide)⟩
      · cases he
def C_fsF_64_3 : Nat × yC := (95, (2, [(2, 24, 24), (2, 64, 64)], (9, 0, 0), [25, 4024], [64, 65], [(24, 1, 3)], [(24, 3, 72), (25, 0, 7)], 0, []))
theorem T_fsF_64_3 {w0 : qW} (hF : zF w0) : yCOK w0 zgf zga zra zSp zgh C_fsF_64_3.1 C_fsF_64_3.2 := by
  intro d as w hd hm hI hn hp
  obtain rfl := args2 hm
  have hk0 : w 24 1 = ((3 : Nat) : Int) := hp (24, 1, 3) List.mem_cons_self (by decide)
  have hP : ∀ j, j < 16 → (fun s => w 65 s) j = Pf j := fun j hj => by
    show w 65 j = Pf j
    rw [hn 65 rfl j, hF 65 j (by decide) (by decide)]
    exact (Pf_16 j hj).1
  have h0 : w 64 0 = 0 := by rw [hn 64 rfl 0, hF 64 0 (by decide) (by decide)]; rfl
  have h := K_findSets_64 (d := d) hd 3 (by decide) (by decide) w hI hk0 65535 (by rw [h0]; exact fr_0) 7 fv_3 (by decide) 72 (by rw [fcnt_c hP]; exact fc_3) ⟨by decide, by decide⟩ (by decide) (by rw [fsd_c hP]; exact fd_3)
  refine qG.mono h (fun v w1 n1 hh => ?_)
  obtain ⟨rfl, rfl, h1, h2, h3, h4⟩ := hh
  refine ⟨⟨rfl, Int.le_refl 0, Int.le_refl 0⟩, h4, rfl, fun p j hpj => ?_, fun e he => ?_, fun z => (by cases z)⟩
  · by_cases hq : p < 1000
    · have hpj := hpj hq
      exact h3 p j (fun z => (by rw [z] at hpj; cases hpj)) (fun z => (by obtain ⟨rfl, rfl⟩ := z; cases hpj))
    · exact h3 p j (by omega) (fun z => by omega)
  · rcases List.mem_cons.mp he with rfl | he
    · exact ⟨by decide, h1⟩
    · rcases List.mem_cons.mp he with rfl | he
      · exact ⟨by decide, h2 (by decide)⟩
      · cases he
def C_fsF_64_4 : Nat × yC := (95, (2, [(2, 24, 24), (2, 64, 64)], (9, 0, 0), [25, 4024], [64, 65], [(24, 1, 4)], [(24, 3, 180), (25, 0, 15)], 0, []))
theorem T_fsF_64_4 {w0 : qW} (hF : zF w0) : yCOK w0 zgf zga zra zSp zgh C_fsF_64_4.1 C_fsF_64_4.2 := by
  intro d as w hd hm hI hn hp
  obtain rfl := args2 hm
  have hk0 : w 24 1 = ((4 : Nat) : Int) := hp (24, 1, 4) List.mem_cons_self (by decide)
  have hP : ∀ j, j < 16 → (fun s => w 65 s) j = Pf j := fun j hj => by
    show w 65 j = Pf j
    rw [hn 65 rfl j, hF 65 j (by decide) (by decide)]
    exact (Pf_16 j hj).1
  have h0 : w 64 0 = 0 := by rw [hn 64 rfl 0, hF 64 0 (by decide) (by decide)]; rfl
  have h := K_findSets_64 (d := d) hd 4 (by decide) (by decide) w hI hk0 65535 (by rw [h0]; exact fr_0) 15 fv_4 (by decide) 180 (by rw [fcnt_c hP]; exact fc_4) ⟨by decide, by decide⟩ (by decide) (by rw [fsd_c hP]; exact fd_4)
  refine qG.mono h (fun v w1 n1 hh => ?_)
  obtain ⟨rfl, rfl, h1, h2, h3, h4⟩ := hh
  refine ⟨⟨rfl, Int.le_refl 0, Int.le_refl 0⟩, h4, rfl, fun p j hpj => ?_, fun e he => ?_, fun z => (by cases z)⟩
  · by_cases hq : p < 1000
    · have hpj := hpj hq
      exact h3 p j (fun z => (by rw [z] at hpj; cases hpj)) (fun z => (by obtain ⟨rfl, rfl⟩ := z; cases hpj))
    · exact h3 p j (by omega) (fun z => by omega)
  · rcases List.mem_cons.mp he with rfl | he
    · exact ⟨by decide, h1⟩
    · rcases List.mem_cons.mp he with rfl | he
      · exact ⟨by decide, h2 (by decide)⟩
      · cases he
def C_fsF_69_1 : Nat × yC := (95, (2, [(2, 24, 24), (2, 69, 69)], (9, 0, 0), [25, 4024], [69, 70], [(24, 1, 1)], [(24, 3, 16), (25, 0, 1)], 0, []))
theorem T_fsF_69_1 {w0 : qW} (hF : zF w0) : yCOK w0 zgf zga zra zSp zgh C_fsF_69_1.1 C_fsF_69_1.2 := by
  intro d as w hd hm hI hn hp
  obtain rfl := args2 hm
  have hk0 : w 24 1 = ((1 : Nat) : Int) := hp (24, 1, 1) List.mem_cons_self (by decide)
  have hP : ∀ j, j < 16 → (fun s => w 70 s) j = Pf j := fun j hj => by
    show w 70 j = Pf j
    rw [hn 70 rfl j, hF 70 j (by decide) (by decide)]
    exact (Pf_16 j hj).2.1
  have h0 : w 69 0 = 0 := by rw [hn 69 rfl 0, hF 69 0 (by decide) (by decide)]; rfl
  have h := K_findSets_69 (d := d) hd 1 (by decide) (by decide) w hI hk0 65535 (by rw [h0]; exact fr_0) 1 fv_1 (by decide) 16 (by rw [fcnt_c hP]; exact fc_1) ⟨by decide, by decide⟩ (by decide) (by rw [fsd_c hP]; exact fd_1)
  refine qG.mono h (fun v w1 n1 hh => ?_)
  obtain ⟨rfl, rfl, h1, h2, h3, h4⟩ := hh
  refine ⟨⟨rfl, Int.le_refl 0, Int.le_refl 0⟩, h4, rfl, fun p j hpj => ?_, fun e he => ?_, fun z => (by cases z)⟩
  · by_cases hq : p < 1000
    · have hpj := hpj hq
      exact h3 p j (fun z => (by rw [z] at hpj; cases hpj)) (fun z => (by obtain ⟨rfl, rfl⟩ := z; cases hpj))
    · exact h3 p j (by omega) (fun z => by omega)
  · rcases List.mem_cons.mp he with rfl | he
    · exact ⟨by decide, h1⟩
    · rcases List.mem_cons.mp he with rfl | he
      · exact ⟨by decide, h2 (by decide)⟩
      · cases he
def C_fsF_69_2 : Nat × yC := (95, (2, [(2, 24, 24), (2, 69, 69)], (9, 0, 0), [25, 4024], [69, 70], [(24, 1, 2)], [(24, 3, 28), (25, 0, 3)], 0, []))
theorem T_fsF_69_2 {w0 : qW} (hF : zF w0) : yCOK w0 zgf zga zra zSp zgh C_fsF_69_2.1 C_fsF_69_2.2 := by
  intro d as w hd hm hI hn hp
  obtain rfl := args2 hm
  have hk0 : w 24 1 = ((2 : Nat) : Int) := hp (24, 1, 2) List.mem_cons_self (by decide)
  have hP : ∀ j, j < 16 → (fun s => w 70 s) j = Pf j := fun j hj => by
    show w 70 j = Pf j
    rw [hn 70 rfl j, hF 70 j (by decide) (by decide)]
    exact (Pf_16 j hj).2.1
  have h0 : w 69 0 = 0 := by rw [hn 69 rfl 0, hF 69 0 (by decide) (by decide)]; rfl
  have h := K_findSets_69 (d := d) hd 2 (by decide) (by decide) w hI hk0 65535 (by rw [h0]; exact fr_0) 3 fv_2 (by decide) 28 (by rw [fcnt_c hP]; exact fc_2) ⟨by decide, by decide⟩ (by decide) (by rw [fsd_c hP]; exact fd_2)
  refine qG.mono h (fun v w1 n1 hh => ?_)
  obtain ⟨rfl, rfl, h1, h2, h3, h4⟩ := hh
  refine ⟨⟨rfl, Int.le_refl 0, Int.le_refl 0⟩, h4, rfl, fun p j hpj => ?_, fun e he => ?_, fun z => (by cases z)⟩
  · by_cases hq : p < 1000
    · have hpj := hpj hq
      exact h3 p j (fun z => (by rw [z] at hpj; cases hpj)) (fun z => (by obtain ⟨rfl, rfl⟩ := z; cases hpj))
    · exact h3 p j (by omega) (fun z => by omega)
  · rcases List.mem_cons.mp he with rfl | he
    · exact ⟨by decide, h1⟩
    · rcases List.mem_cons.mp he with rfl | he
      · exact ⟨by decide, h2 (by decide)⟩
      · cases he
def C_fsF_69_3 : Nat × yC := (95, (2, [(2, 24, 24), (2, 69, 69)], (9, 0, 0), [25, 4024], [69, 70], [(24, 1, 3)], [(24, 3, 72), (25, 0, 7)], 0, []))
theorem T_fsF_69_3 {w0 : qW} (hF : zF w0) : yCOK w0 zgf zga zra zSp zgh C_fsF_69_3.1 C_fsF_69_3.2 := by
  intro d as w hd hm hI hn hp
  obtain rfl := args2 hm
  have hk0 : w 24 1 = ((3 : Nat) : Int) := hp (24, 1, 3) List.mem_cons_self (by decide)
  have hP : ∀ j, j < 16 → (fun s => w 70 s) j = Pf j := fun j hj => by
    show w 70 j = Pf j
    rw [hn 70 rfl j, hF 70 j (by decide) (by decide)]
    exact (Pf_16 j hj).2.1
  have h0 : w 69 0 = 0 := by rw [hn 69 rfl 0, hF 69 0 (by decide) (by decide)]; rfl
  have h := K_findSets_69 (d := d) hd 3 (by decide) (by decide) w hI hk0 65535 (by rw [h0]; exact fr_0) 7 fv_3 (by decide) 72 (by rw [fcnt_c hP]; exact fc_3) ⟨by decide, by decide⟩ (by decide) (by rw [fsd_c hP]; exact fd_3)
  refine qG.mono h (fun v w1 n1 hh => ?_)
  obtain ⟨rfl, rfl, h1, h2, h3, h4⟩ := hh
  refine ⟨⟨rfl, Int.le_refl 0, Int.le_refl 0⟩, h4, rfl, fun p j hpj => ?_, fun e he => ?_, fun z => (by cases z)⟩
  · by_cases hq : p < 1000
    · have hpj := hpj hq
      exact h3 p j (fun z => (by rw [z] at hpj; cases hpj)) (fun z => (by obtain ⟨rfl, rfl⟩ := z; cases hpj))
    · exact h3 p j (by omega) (fun z => by omega)
  · rcases List.mem_cons.mp he with rfl | he
    · exact ⟨by decide, h1⟩
    · rcases List.mem_cons.mp he with rfl | he
      · exact ⟨by decide, h2 (by decide)⟩
      · cases he
def C_fsF_69_4 : Nat × yC := (95, (2, [(2, 24, 24), (2, 69, 69)], (9, 0, 0), [25, 4024], [69, 70], [(24, 1, 4)], [(24, 3, 180), (25, 0, 15)], 0, []))
theorem T_fsF_69_4 {w0 : qW} (hF : zF w0) : yCOK w0 zgf zga zra zSp zgh C_fsF_69_4.1 C_fsF_69_4.2 := by
  intro d as w hd hm hI hn hp
  obtain rfl := args2 hm
  have hk0 : w 24 1 = ((4 : Nat) : Int) := hp (24, 1, 4) List.mem_cons_self (by decide)
  have hP : ∀ j, j < 16 → (fun s => w 70 s) j = Pf j := fun j hj => by
    show w 70 j = Pf j
    rw [hn 70 rfl j, hF 70 j (by decide) (by decide)]
    exact (Pf_16 j hj).2.1
  have h0 : w 69 0 = 0 := by rw [hn 69 rfl 0, hF 69 0 (by decide) (by decide)]; rfl
  have h := K_findSets_69 (d := d) hd 4 (by decide) (by decide) w hI hk0 65535 (by rw [h0]; exact fr_0) 15 fv_4 (by decide) 180 (by rw [fcnt_c hP]; exact fc_4) ⟨by decide, by decide⟩ (by decide) (by rw [fsd_c hP]; exact fd_4)
  refine qG.mono h (fun v w1 n1 hh => ?_)
  obtain ⟨rfl, rfl, h1, h2, h3, h4⟩ := hh
  refine ⟨⟨rfl, Int.le_refl 0, Int.le_refl 0⟩, h4, rfl, fun p j hpj => ?_, fun e he => ?_, fun z => (by cases z)⟩
  · by_cases hq : p < 1000
    · have hpj := hpj hq
      exact h3 p j (fun z => (by rw [z] at hpj; cases hpj)) (fun z => (by obtain ⟨rfl, rfl⟩ := z; cases hpj))
    · exact h3 p j (by omega) (fun z => by omega)
  · rcases List.mem_cons.mp he with rfl | he
    · exact ⟨by decide, h1⟩
    · rcases List.mem_cons.mp he with rfl | he
      · exact ⟨by decide, h2 (by decide)⟩
      · cases he
def C_fsF_74_1 : Nat × yC := (95, (2, [(2, 24, 24), (2, 74, 74)], (9, 0, 0), [25, 4024], [74, 75], [(24, 1, 1)], [(24, 3, 16), (25, 0, 1)], 0, []))
theorem T_fsF_74_1 {w0 : qW} (hF : zF w0) : yCOK w0 zgf zga zra zSp zgh C_fsF_74_1.1 C_fsF_74_1.2 := by
  intro d as w hd hm hI hn hp
  obtain rfl := args2 hm
  have hk0 : w 24 1 = ((1 : Nat) : Int) := hp (24, 1, 1) List.mem_cons_self (by decide)
  have hP : ∀ j, j < 16 → (fun s => w 75 s) j = Pf j := fun j hj => by
    show w 75 j = Pf j
    rw [hn 75 rfl j, hF 75 j (by decide) (by decide)]
    exact (Pf_16 j hj).2.2
  have h0 : w 74 0 = 0 := by rw [hn 74 rfl 0, hF 74 0 (by decide) (by decide)]; rfl
  have h := K_findSets_74 (d := d) hd 1 (by decide) (by decide) w hI hk0 65535 (by rw [h0]; exact fr_0) 1 fv_1 (by decide) 16 (by rw [fcnt_c hP]; exact fc_1) ⟨by decide, by decide⟩ (by decide) (by rw [fsd_c hP]; exact fd_1)
  refine qG.mono h (fun v w1 n1 hh => ?_)
  obtain ⟨rfl, rfl, h1, h2, h3, h4⟩ := hh
  refine ⟨⟨rfl, Int.le_refl 0, Int.le_refl 0⟩, h4, rfl, fun p j hpj => ?_, fun e he => ?_, fun z => (by cases z)⟩
  · by_cases hq : p < 1000
    · have hpj := hpj hq
      exact h3 p j (fun z => (by rw [z] at hpj; cases hpj)) (fun z => (by obtain ⟨rfl, rfl⟩ := z; cases hpj))
    · exact h3 p j (by omega) (fun z => by omega)
  · rcases List.mem_cons.mp he with rfl | he
    · exact ⟨by decide, h1⟩
    · rcases List.mem_cons.mp he with rfl | he
      · exact ⟨by decide, h2 (by decide)⟩
      · cases he
def C_fsF_74_2 : Nat × yC := (95, (2, [(2, 24, 24), (2, 74, 74)], (9, 0, 0), [25, 4024], [74, 75], [(24, 1, 2)], [(24, 3, 28), (25, 0, 3)], 0, []))
theorem T_fsF_74_2 {w0 : qW} (hF : zF w0) : yCOK w0 zgf zga zra zSp zgh C_fsF_74_2.1 C_fsF_74_2.2 := by
  intro d as w hd hm hI hn hp
  obtain rfl := args2 hm
  have hk0 : w 24 1 = ((2 : Nat) : Int) := hp (24, 1, 2) List.mem_cons_self (by decide)
  have hP : ∀ j, j < 16 → (fun s => w 75 s) j = Pf j := fun j hj => by
    show w 75 j = Pf j
    rw [hn 75 rfl j, hF 75 j (by decide) (by decide)]
    exact (Pf_16 j hj).2.2
  have h0 : w 74 0 = 0 := by rw [hn 74 rfl 0, hF 74 0 (by decide) (by decide)]; rfl
  have h := K_findSets_74 (d := d) hd 2 (by decide) (by decide) w hI hk0 65535 (by rw [h0]; exact fr_0) 3 fv_2 (by decide) 28 (by rw [fcnt_c hP]; exact fc_2) ⟨by decide, by decide⟩ (by decide) (by rw [fsd_c hP]; exact fd_2)
  refine qG.mono h (fun v w1 n1 hh => ?_)
  obtain ⟨rfl, rfl, h1, h2, h3, h4⟩ := hh
  refine ⟨⟨rfl, Int.le_refl 0, Int.le_refl 0⟩, h4, rfl, fun p j hpj => ?_, fun e he => ?_, fun z => (by cases z)⟩
  · by_cases hq : p < 1000
    · have hpj := hpj hq
      exact h3 p j (fun z => (by rw [z] at hpj; cases hpj)) (fun z => (by obtain ⟨rfl, rfl⟩ := z; cases hpj))
    · exact h3 p j (by omega) (fun z => by omega)
  · rcases List.mem_cons.mp he with rfl | he
    · exact ⟨by decide, h1⟩
    · rcases List.mem_cons.mp he with rfl | he
      · exact ⟨by decide, h2 (by decide)⟩
      · cases he
def C_fsF_74_3 : Nat × yC := (95, (2, [(2, 24, 24), (2, 74, 74)], (9, 0, 0), [25, 4024], [74, 75], [(24, 1, 3)], [(24, 3, 72), (25, 0, 7)], 0, []))
theorem T_fsF_74_3 {w0 : qW} (hF : zF w0) : yCOK w0 zgf zga zra zSp zgh C_fsF_74_3.1 C_fsF_74_3.2 := by
  intro d as w hd hm hI hn hp
  obtain rfl := args2 hm
  have hk0 : w 24 1 = ((3 : Nat) : Int) := hp (24, 1, 3) List.mem_cons_self (by decide)
  have hP : ∀ j, j < 16 → (fun s => w 75 s) j = Pf j := fun j hj => by
    show w 75 j = Pf j
    rw [hn 75 rfl j, hF 75 j (by decide) (by decide)]
    exact (Pf_16 j hj).2.2
  have h0 : w 74 0 = 0 := by rw [hn 74 rfl 0, hF 74 0 (by decide) (by decide)]; rfl
  have h := K_findSets_74 (d := d) hd 3 (by decide) (by decide) w hI hk0 65535 (by rw [h0]; exact fr_0) 7 fv_3 (by decide) 72 (by rw [fcnt_c hP]; exact fc_3) ⟨by decide, by decide⟩ (by decide) (by rw [fsd_c hP]; exact fd_3)
  refine qG.mono h (fun v w1 n1 hh => ?_)
  obtain ⟨rfl, rfl, h1, h2, h3, h4⟩ := hh
  refine ⟨⟨rfl, Int.le_refl 0, Int.le_refl 0⟩, h4, rfl, fun p j hpj => ?_, fun e he => ?_, fun z => (by cases z)⟩
  · by_cases hq : p < 1000
    · have hpj := hpj hq
      exact h3 p j (fun z => (by rw [z] at hpj; cases hpj)) (fun z => (by obtain ⟨rfl, rfl⟩ := z; cases hpj))
    · exact h3 p j (by omega) (fun z => by omega)
  · rcases List.mem_cons.mp he with rfl | he
    · exact ⟨by decide, h1⟩
    · rcases List.mem_cons.mp he with rfl | he
      · exact ⟨by decide, h2 (by decide)⟩
      · cases he
def C_fsF_74_4 : Nat × yC := (95, (2, [(2, 24, 24), (2, 74, 74)], (9, 0, 0), [25, 4024], [74, 75], [(24, 1, 4)], [(24, 3, 180), (25, 0, 15)], 0, []))
theorem T_fsF_74_4 {w0 : qW} (hF : zF w0) : yCOK w0 zgf zga zra zSp zgh C_fsF_74_4.1 C_fsF_74_4.2 := by
  intro d as w hd hm hI hn hp
  obtain rfl := args2 hm
  have hk0 : w 24 1 = ((4 : Nat) : Int) := hp (24, 1, 4) List.mem_cons_self (by decide)
  have hP : ∀ j, j < 16 → (fun s => w 75 s) j = Pf j := fun j hj => by
    show w 75 j = Pf j
    rw [hn 75 rfl j, hF 75 j (by decide) (by decide)]
    exact (Pf_16 j hj).2.2
  have h0 : w 74 0 = 0 := by rw [hn 74 rfl 0, hF 74 0 (by decide) (by decide)]; rfl
  have h := K_findSets_74 (d := d) hd 4 (by decide) (by decide) w hI hk0 65535 (by rw [h0]; exact fr_0) 15 fv_4 (by decide) 180 (by rw [fcnt_c hP]; exact fc_4) ⟨by decide, by decide⟩ (by decide) (by rw [fsd_c hP]; exact fd_4)
  refine qG.mono h (fun v w1 n1 hh => ?_)
  obtain ⟨rfl, rfl, h1, h2, h3, h4⟩ := hh
  refine ⟨⟨rfl, Int.le_refl 0, Int.le_refl 0⟩, h4, rfl, fun p j hpj => ?_, fun e he => ?_, fun z => (by cases z)⟩
  · by_cases hq : p < 1000
    · have hpj := hpj hq
      exact h3 p j (fun z => (by rw [z] at hpj; cases hpj)) (fun z => (by obtain ⟨rfl, rfl⟩ := z; cases hpj))
    · exact h3 p j (by omega) (fun z => by omega)
  · rcases List.mem_cons.mp he with rfl | he
    · exact ⟨by decide, h1⟩
    · rcases List.mem_cons.mp he with rfl | he
      · exact ⟨by decide, h2 (by decide)⟩
      · cases he
