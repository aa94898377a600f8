/-! the law's call for the best order on the fresh pair -/
def zgh9 (i : Nat) (l : List Int) : Int := bif Nat.beq i 9 then (match l with
  | [c, D, W, k, v] => ordV c D W k v
  | _ => 0) else zgh i l
theorem zgh9_0 : ∀ x c, zgh9 1000 [x, c] = qand x c := fun _ _ => rfl
theorem ordV_in (c D W k v : Int) : -1 ≤ ordV c D W k v ∧ ordV c D W k v ≤ 0 := by
  unfold ordV
  split <;> exact ⟨by decide, by decide⟩
def C_ox : Nat × yC := (176, (22, [(2, 1, 1), (0, (-2147483648), 2147483647), (0, (-2147483648), 2147483647), (0, (-2147483648), 2147483647), (0, (-2147483648), 2147483647), (0, (-2147483648), 2147483647)], (0, (-1), 0), [25, 26, 27, 28, 29, 31, 32, 34, 35, 36, 37, 38, 39, 1024, 2024, 3024, 4024, 8023, 9023, 14023, 15023], [24, 31, 64, 65, 66, 67, 68, 69, 70, 71, 72, 73, 74, 75, 76, 77, 78], [], [], 9, [1, 2, 3, 4, 5]))
theorem T_ox {w0 : qW} (hF : zF w0) : yCOK w0 zgf zga zra zSp zgh9 C_ox.1 C_ox.2 := by
  intro d as w hd hm hI hn hp
  match as, hm with
  | [(a0, b0), (a1, c), (a2, D), (a3, W), (a4, k), (a5, v)], hm =>
    obtain ⟨⟨x0, y0, z0⟩, ⟨x1, -, -⟩, ⟨x2, -, -⟩, ⟨x3, -, -⟩, ⟨x4, -, -⟩, ⟨x5, y5, z5⟩, -⟩ := hm
    have x0 : a0 = 2 := x0
    have x1 : a1 = 0 := x1
    have x2 : a2 = 0 := x2
    have x3 : a3 = 0 := x3
    have x4 : a4 = 0 := x4
    have x5 : a5 = 0 := x5
    have y0 : (1 : Int) ≤ b0 := y0
    have z0 : b0 ≤ (1 : Int) := z0
    have z5 : v ≤ 2147483647 := z5
    have hb : b0 = 1 := by omega
    subst x0 x1 x2 x3 x4 x5 hb
    refine qG.mono (K_order_x hd hF c D W k v z5 w hI (fun p hp j => hn p hp j)) (fun r w1 n1 hh => ?_)
    obtain ⟨rfl, rfl, h1, h2⟩ := hh
    exact ⟨⟨rfl, (ordV_in c D W k v).1, (ordV_in c D W k v).2⟩, h1, rfl, h2, fun e he => (by cases he), fun _ => rfl⟩
def C_om : Nat × yC := (263, (22, [(2, 95, 95), (0, (-2147483648), 2147483647), (0, (-2147483648), 2147483647), (0, (-2147483648), 2147483647), (0, (-2147483648), 2147483647), (0, (-2147483648), 2147483647)], (0, (-1), 0), [120, 116, 38095, 39095, 40095, 41095, 42095, 43095, 44095, 101, 102, 103, 117, 118, 119, 9095, 10095, 47095, 51095, 52095], [96, 97, 98, 99, 100], [(95, 9, (-1))], [], 9, [1, 2, 3, 4, 5]))
theorem T_om {w0 : qW} (hF : zF w0) : yCOK w0 zgf zga zra zSp zgh9 C_om.1 C_om.2 := by
  intro d as w hd hm hI hn hp
  match as, hm with
  | [(a0, b0), (a1, c), (a2, D), (a3, W), (a4, k), (a5, v)], hm =>
    obtain ⟨⟨x0, y0, z0⟩, ⟨x1, -, -⟩, ⟨x2, -, -⟩, ⟨x3, -, -⟩, ⟨x4, -, -⟩, ⟨x5, y5, z5⟩, -⟩ := hm
    have x0 : a0 = 2 := x0
    have x1 : a1 = 0 := x1
    have x2 : a2 = 0 := x2
    have x3 : a3 = 0 := x3
    have x4 : a4 = 0 := x4
    have x5 : a5 = 0 := x5
    have y0 : (95 : Int) ≤ b0 := y0
    have z0 : b0 ≤ (95 : Int) := z0
    have z5 : v ≤ 2147483647 := z5
    have hb : b0 = 95 := by omega
    subst x0 x1 x2 x3 x4 x5 hb
    refine qG.mono (K_order_m hd hF c D W k v w hI (fun p hp j => hn p hp j) (hp (95, 9, -1) List.mem_cons_self (by decide))) (fun r w1 n1 hh => ?_)
    obtain ⟨rfl, rfl, h1, h2⟩ := hh
    exact ⟨⟨rfl, (ordV_in c D W k v).1, (ordV_in c D W k v).2⟩, h1, rfl, fun p j hp => h2 p j (ymds_ok hp (by decide +kernel)), fun e he => (by cases he), fun _ => rfl⟩
theorem O_12 {xs : Nat → Int} (hxs : ∀ j, qi32 (xs j)) {w : qW} (hF : zF w) : qG (some (6, xs)) 200 305 33 [(3, 0), (2, 1), (2, 95), (0, 0)] [(0, 12)] w 142 (fun v _ n' => v = (0, 1) ∧ n' ≤ 142) := zlawx (ex := [(95, 9, (-1))]) (gf := zgf) (ga := zga) (ra := zra) (gh := zgh9) (ct := yctl [C_ox, C_om]) (an := fun _ _ => none) (fk := fun _ _ => none) (f := 100000) (by decide +kernel) hxs hF (zinv1 hF) zgh9_0 (yctl_ok (P := fun t c => yCOK w zgf zga zra zSp zgh9 t c) (ylcons (T_ox hF : yCOK w zgf zga zra zSp zgh9 C_ox.1 C_ox.2) (ylcons (T_om hF : yCOK w zgf zga zra zSp zgh9 C_om.1 C_om.2) ylnil))) (by decide +kernel)
