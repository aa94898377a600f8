section
/-! what a fresh pair of objects is -/
noncomputable def qW0 (p j : Nat) : Int := bif Nat.ble 49 p then (bif Nat.ble 74 p then (bif Nat.ble 83 p then (bif Nat.ble 91 p then (bif Nat.ble 95 p then (bif Nat.beq p 95 then bif Nat.ble 45 j then (bif Nat.ble 63 j then (bif Nat.ble 69 j then (bif Nat.ble 74 j then (bif Nat.ble 78 j then (bif Nat.ble 79 j then (bif Nat.beq j 79 then 142 else 0) else (bif Nat.beq j 78 then 141 else 0)) else (bif Nat.ble 75 j then (bif Nat.beq j 75 then 140 else 0) else (bif Nat.beq j 74 then 139 else 0))) else (bif Nat.ble 70 j then (bif Nat.ble 73 j then (bif Nat.beq j 73 then 138 else 0) else (bif Nat.beq j 70 then 137 else 0)) else (bif Nat.beq j 69 then 136 else 0))) else (bif Nat.ble 66 j then (bif Nat.ble 67 j then (bif Nat.ble 68 j then (bif Nat.beq j 68 then 135 else 0) else (bif Nat.beq j 67 then 134 else 0)) else (bif Nat.beq j 66 then 133 else 0)) else (bif Nat.ble 64 j then (bif Nat.ble 65 j then (bif Nat.beq j 65 then 132 else 0) else (bif Nat.beq j 64 then 131 else 0)) else (bif Nat.beq j 63 then 130 else 0)))) else (bif Nat.ble 54 j then (bif Nat.ble 60 j then (bif Nat.ble 61 j then (bif Nat.ble 62 j then (bif Nat.beq j 62 then 129 else 0) else (bif Nat.beq j 61 then 128 else 0)) else (bif Nat.beq j 60 then 127 else 0)) else (bif Nat.ble 58 j then (bif Nat.ble 59 j then (bif Nat.beq j 59 then 126 else 0) else (bif Nat.beq j 58 then 125 else 0)) else (bif Nat.beq j 54 then 124 else 0))) else (bif Nat.ble 49 j then (bif Nat.ble 52 j then (bif Nat.ble 53 j then (bif Nat.beq j 53 then 123 else 0) else (bif Nat.beq j 52 then 122 else 0)) else (bif Nat.beq j 49 then 121 else 0)) else (bif Nat.ble 47 j then (bif Nat.ble 48 j then (bif Nat.beq j 48 then 120 else 0) else (bif Nat.beq j 47 then 119 else 0)) else (bif Nat.beq j 45 then 118 else 0))))) else (bif Nat.ble 13 j then (bif Nat.ble 19 j then (bif Nat.ble 34 j then (bif Nat.ble 36 j then (bif Nat.ble 44 j then (bif Nat.beq j 44 then 117 else 0) else (bif Nat.beq j 36 then 116 else 0)) else (bif Nat.beq j 34 then (-1) else 0)) else (bif Nat.ble 20 j then (bif Nat.ble 21 j then (bif Nat.beq j 21 then 115 else 0) else (bif Nat.beq j 20 then 114 else 0)) else (bif Nat.beq j 19 then 113 else 0))) else (bif Nat.ble 16 j then (bif Nat.ble 17 j then (bif Nat.ble 18 j then (bif Nat.beq j 18 then 112 else 0) else (bif Nat.beq j 17 then 111 else 0)) else (bif Nat.beq j 16 then 110 else 0)) else (bif Nat.ble 14 j then (bif Nat.ble 15 j then (bif Nat.beq j 15 then 109 else 0) else (bif Nat.beq j 14 then 108 else 0)) else (bif Nat.beq j 13 then 107 else 0)))) else (bif Nat.ble 6 j then (bif Nat.ble 10 j then (bif Nat.ble 11 j then (bif Nat.ble 12 j then (bif Nat.beq j 12 then 106 else 0) else (bif Nat.beq j 11 then 105 else 0)) else (bif Nat.beq j 10 then 104 else 0)) else (bif Nat.ble 7 j then (bif Nat.ble 9 j then (bif Nat.beq j 9 then (-1) else 0) else (bif Nat.beq j 7 then 103 else 0)) else (bif Nat.beq j 6 then 102 else 0))) else (bif Nat.ble 3 j then (bif Nat.ble 4 j then (bif Nat.ble 5 j then (bif Nat.beq j 5 then 101 else 0) else (bif Nat.beq j 4 then 100 else 0)) else (bif Nat.beq j 3 then 99 else 0)) else (bif Nat.ble 1 j then (bif Nat.ble 2 j then (bif Nat.beq j 2 then 98 else 0) else (bif Nat.beq j 1 then 97 else 0)) else (bif Nat.beq j 0 then 96 else 0))))) else 0) else (bif Nat.beq p 91 then bif Nat.ble 3 j then (bif Nat.ble 5 j then (bif Nat.beq j 5 then (-1) else 0) else (bif Nat.beq j 3 then 94 else 0)) else (bif Nat.ble 1 j then (bif Nat.beq j 1 then 93 else 0) else (bif Nat.beq j 0 then 92 else 0)) else 0)) else (bif Nat.ble 87 p then (bif Nat.beq p 87 then bif Nat.ble 3 j then (bif Nat.ble 5 j then (bif Nat.beq j 5 then (-1) else 0) else (bif Nat.beq j 3 then 90 else 0)) else (bif Nat.ble 1 j then (bif Nat.beq j 1 then 89 else 0) else (bif Nat.beq j 0 then 88 else 0)) else 0) else (bif Nat.beq p 83 then bif Nat.ble 3 j then (bif Nat.ble 5 j then (bif Nat.beq j 5 then (-1) else 0) else (bif Nat.beq j 3 then 86 else 0)) else (bif Nat.ble 1 j then (bif Nat.beq j 1 then 85 else 0) else (bif Nat.beq j 0 then 84 else 0)) else 0))) else (bif Nat.ble 75 p then (bif Nat.ble 79 p then (bif Nat.beq p 79 then bif Nat.ble 3 j then (bif Nat.ble 5 j then (bif Nat.beq j 5 then (-1) else 0) else (bif Nat.beq j 3 then 82 else 0)) else (bif Nat.ble 1 j then (bif Nat.beq j 1 then 81 else 0) else (bif Nat.beq j 0 then 80 else 0)) else 0) else (bif Nat.beq p 75 then bif Nat.ble 8 j then (bif Nat.ble 12 j then (bif Nat.ble 14 j then (bif Nat.ble 15 j then (bif Nat.beq j 15 then 18560 else 0) else (bif Nat.beq j 14 then 42048 else 0)) else (bif Nat.ble 13 j then (bif Nat.beq j 13 then 21024 else 0) else (bif Nat.beq j 12 then 8464 else 0))) else (bif Nat.ble 10 j then (bif Nat.ble 11 j then (bif Nat.beq j 11 then 33800 else 0) else (bif Nat.beq j 10 then 18948 else 0)) else (bif Nat.ble 9 j then (bif Nat.beq j 9 then 9474 else 0) else (bif Nat.beq j 8 then 4609 else 0)))) else (bif Nat.ble 4 j then (bif Nat.ble 6 j then (bif Nat.ble 7 j then (bif Nat.beq j 7 then 32840 else 0) else (bif Nat.beq j 6 then 16548 else 0)) else (bif Nat.ble 5 j then (bif Nat.beq j 5 then 8274 else 0) else (bif Nat.beq j 4 then 4129 else 0))) else (bif Nat.ble 2 j then (bif Nat.ble 3 j then (bif Nat.beq j 3 then 2180 else 0) else (bif Nat.beq j 2 then 1098 else 0)) else (bif Nat.ble 1 j then (bif Nat.beq j 1 then 549 else 0) else (bif Nat.beq j 0 then 274 else 0)))) else 0)) else (bif Nat.beq p 74 then bif Nat.ble 4 j then (bif Nat.ble 5 j then (bif Nat.beq j 5 then 78 else 0) else (bif Nat.beq j 4 then 77 else 0)) else (bif Nat.ble 3 j then (bif Nat.beq j 3 then 76 else 0) else (bif Nat.beq j 2 then 75 else 0)) else 0))) else (bif Nat.ble 64 p then (bif Nat.ble 69 p then (bif Nat.ble 70 p then (bif Nat.beq p 70 then bif Nat.ble 8 j then (bif Nat.ble 12 j then (bif Nat.ble 14 j then (bif Nat.ble 15 j then (bif Nat.beq j 15 then 18560 else 0) else (bif Nat.beq j 14 then 42048 else 0)) else (bif Nat.ble 13 j then (bif Nat.beq j 13 then 21024 else 0) else (bif Nat.beq j 12 then 8464 else 0))) else (bif Nat.ble 10 j then (bif Nat.ble 11 j then (bif Nat.beq j 11 then 33800 else 0) else (bif Nat.beq j 10 then 18948 else 0)) else (bif Nat.ble 9 j then (bif Nat.beq j 9 then 9474 else 0) else (bif Nat.beq j 8 then 4609 else 0)))) else (bif Nat.ble 4 j then (bif Nat.ble 6 j then (bif Nat.ble 7 j then (bif Nat.beq j 7 then 32840 else 0) else (bif Nat.beq j 6 then 16548 else 0)) else (bif Nat.ble 5 j then (bif Nat.beq j 5 then 8274 else 0) else (bif Nat.beq j 4 then 4129 else 0))) else (bif Nat.ble 2 j then (bif Nat.ble 3 j then (bif Nat.beq j 3 then 2180 else 0) else (bif Nat.beq j 2 then 1098 else 0)) else (bif Nat.ble 1 j then (bif Nat.beq j 1 then 549 else 0) else (bif Nat.beq j 0 then 274 else 0)))) else 0) else (bif Nat.beq p 69 then bif Nat.ble 4 j then (bif Nat.ble 5 j then (bif Nat.beq j 5 then 73 else 0) else (bif Nat.beq j 4 then 72 else 0)) else (bif Nat.ble 3 j then (bif Nat.beq j 3 then 71 else 0) else (bif Nat.beq j 2 then 70 else 0)) else 0)) else (bif Nat.ble 65 p then (bif Nat.beq p 65 then bif Nat.ble 8 j then (bif Nat.ble 12 j then (bif Nat.ble 14 j then (bif Nat.ble 15 j then (bif Nat.beq j 15 then 18560 else 0) else (bif Nat.beq j 14 then 42048 else 0)) else (bif Nat.ble 13 j then (bif Nat.beq j 13 then 21024 else 0) else (bif Nat.beq j 12 then 8464 else 0))) else (bif Nat.ble 10 j then (bif Nat.ble 11 j then (bif Nat.beq j 11 then 33800 else 0) else (bif Nat.beq j 10 then 18948 else 0)) else (bif Nat.ble 9 j then (bif Nat.beq j 9 then 9474 else 0) else (bif Nat.beq j 8 then 4609 else 0)))) else (bif Nat.ble 4 j then (bif Nat.ble 6 j then (bif Nat.ble 7 j then (bif Nat.beq j 7 then 32840 else 0) else (bif Nat.beq j 6 then 16548 else 0)) else (bif Nat.ble 5 j then (bif Nat.beq j 5 then 8274 else 0) else (bif Nat.beq j 4 then 4129 else 0))) else (bif Nat.ble 2 j then (bif Nat.ble 3 j then (bif Nat.beq j 3 then 2180 else 0) else (bif Nat.beq j 2 then 1098 else 0)) else (bif Nat.ble 1 j then (bif Nat.beq j 1 then 549 else 0) else (bif Nat.beq j 0 then 274 else 0)))) else 0) else (bif Nat.beq p 64 then bif Nat.ble 4 j then (bif Nat.ble 5 j then (bif Nat.beq j 5 then 68 else 0) else (bif Nat.beq j 4 then 67 else 0)) else (bif Nat.ble 3 j then (bif Nat.beq j 3 then 66 else 0) else (bif Nat.beq j 2 then 65 else 0)) else 0))) else (bif Nat.ble 57 p then (bif Nat.ble 61 p then (bif Nat.beq p 61 then bif Nat.ble 1 j then (bif Nat.beq j 1 then 63 else 0) else (bif Nat.beq j 0 then 62 else 0) else 0) else (bif Nat.beq p 57 then bif Nat.ble 1 j then (bif Nat.ble 3 j then (bif Nat.beq j 3 then 60 else 0) else (bif Nat.beq j 1 then 59 else 0)) else (bif Nat.beq j 0 then 58 else 0) else 0)) else (bif Nat.beq p 49 then bif Nat.blt j 36 then 1 else 0 else 0)))) else (bif Nat.ble 19 p then (bif Nat.ble 24 p then (bif Nat.ble 41 p then (bif Nat.ble 45 p then (bif Nat.beq p 45 then bif Nat.ble 8 j then (bif Nat.ble 11 j then (bif Nat.ble 12 j then (bif Nat.ble 13 j then (bif Nat.beq j 13 then 56 else 0) else (bif Nat.beq j 12 then 55 else 0)) else (bif Nat.beq j 11 then 54 else 0)) else (bif Nat.ble 9 j then (bif Nat.ble 10 j then (bif Nat.beq j 10 then 53 else 0) else (bif Nat.beq j 9 then 52 else 0)) else (bif Nat.beq j 8 then 51 else 0))) else (bif Nat.ble 3 j then (bif Nat.ble 4 j then (bif Nat.ble 5 j then (bif Nat.beq j 5 then 50 else 0) else (bif Nat.beq j 4 then 49 else 0)) else (bif Nat.beq j 3 then 48 else 0)) else (bif Nat.ble 2 j then (bif Nat.beq j 2 then 47 else 0) else (bif Nat.beq j 1 then 46 else 0))) else 0) else (bif Nat.beq p 41 then bif Nat.ble 1 j then (bif Nat.ble 2 j then (bif Nat.beq j 2 then 44 else 0) else (bif Nat.beq j 1 then 43 else 0)) else (bif Nat.beq j 0 then 42 else 0) else 0)) else (bif Nat.ble 33 p then (bif Nat.beq p 33 then bif Nat.ble 2 j then (bif Nat.ble 3 j then (bif Nat.ble 4 j then (bif Nat.beq j 4 then 38 else 0) else (bif Nat.beq j 3 then 37 else 0)) else (bif Nat.beq j 2 then 36 else 0)) else (bif Nat.ble 1 j then (bif Nat.beq j 1 then 35 else 0) else (bif Nat.beq j 0 then 34 else 0)) else 0) else (bif Nat.beq p 24 then bif Nat.ble 5 j then (bif Nat.beq j 5 then 26 else 0) else (bif Nat.beq j 4 then 25 else 0) else 0))) else (bif Nat.ble 21 p then (bif Nat.ble 23 p then (bif Nat.beq p 23 then bif Nat.ble 9 j then (bif Nat.ble 12 j then (bif Nat.ble 13 j then (bif Nat.ble 15 j then (bif Nat.beq j 15 then 40 else 0) else (bif Nat.beq j 13 then (-1) else 0)) else (bif Nat.beq j 12 then 39 else 0)) else (bif Nat.ble 10 j then (bif Nat.ble 11 j then (bif Nat.beq j 11 then 33 else 0) else (bif Nat.beq j 10 then 32 else 0)) else (bif Nat.beq j 9 then 31 else 0))) else (bif Nat.ble 3 j then (bif Nat.ble 4 j then (bif Nat.ble 6 j then (bif Nat.beq j 6 then 30 else 0) else (bif Nat.beq j 4 then (-1) else 0)) else (bif Nat.beq j 3 then 29 else 0)) else (bif Nat.ble 1 j then (bif Nat.ble 2 j then (bif Nat.beq j 2 then 28 else 0) else (bif Nat.beq j 1 then 27 else 0)) else (bif Nat.beq j 0 then 24 else 0))) else 0) else (bif Nat.beq p 21 then bif Nat.beq j 0 then 22 else 0 else 0)) else (bif Nat.beq p 19 then bif Nat.beq j 0 then 20 else 0 else 0))) else (bif Nat.ble 4 p then (bif Nat.ble 12 p then (bif Nat.ble 17 p then (bif Nat.beq p 17 then bif Nat.beq j 0 then 18 else 0 else 0) else (bif Nat.beq p 12 then bif Nat.ble 7 j then (bif Nat.ble 9 j then (bif Nat.ble 10 j then (bif Nat.beq j 10 then 21 else 0) else (bif Nat.beq j 9 then 19 else 0)) else (bif Nat.ble 8 j then (bif Nat.beq j 8 then 17 else 0) else (bif Nat.beq j 7 then 16 else 0))) else (bif Nat.ble 1 j then (bif Nat.ble 2 j then (bif Nat.beq j 2 then 15 else 0) else (bif Nat.beq j 1 then 14 else 0)) else (bif Nat.beq j 0 then 13 else 0)) else 0)) else (bif Nat.ble 8 p then (bif Nat.beq p 8 then bif Nat.ble 3 j then (bif Nat.ble 7 j then (bif Nat.beq j 7 then (-1) else 0) else (bif Nat.beq j 3 then 11 else 0)) else (bif Nat.ble 2 j then (bif Nat.beq j 2 then 10 else 0) else (bif Nat.beq j 0 then 9 else 0)) else 0) else (bif Nat.beq p 4 then bif Nat.ble 3 j then (bif Nat.ble 5 j then (bif Nat.beq j 5 then (-1) else 0) else (bif Nat.beq j 3 then 7 else 0)) else (bif Nat.ble 1 j then (bif Nat.beq j 1 then 6 else 0) else (bif Nat.beq j 0 then 5 else 0)) else 0))) else (bif Nat.ble 2 p then (bif Nat.ble 3 p then (bif Nat.beq p 3 then bif Nat.ble 2 j then (bif Nat.ble 3 j then (bif Nat.beq j 3 then 91 else 0) else (bif Nat.beq j 2 then 87 else 0)) else (bif Nat.ble 1 j then (bif Nat.beq j 1 then 83 else 0) else (bif Nat.beq j 0 then 79 else 0)) else 0) else (bif Nat.beq p 2 then bif Nat.ble 1 j then (bif Nat.ble 2 j then (bif Nat.beq j 2 then 74 else 0) else (bif Nat.beq j 1 then 69 else 0)) else (bif Nat.beq j 0 then 64 else 0) else 0)) else (bif Nat.beq p 1 then bif Nat.ble 5 j then (bif Nat.ble 7 j then (bif Nat.ble 8 j then (bif Nat.ble 9 j then (bif Nat.beq j 9 then 61 else 0) else (bif Nat.beq j 8 then 57 else 0)) else (bif Nat.beq j 7 then 45 else 0)) else (bif Nat.ble 6 j then (bif Nat.beq j 6 then 41 else 0) else (bif Nat.beq j 5 then 23 else 0))) else (bif Nat.ble 2 j then (bif Nat.ble 3 j then (bif Nat.ble 4 j then (bif Nat.beq j 4 then 12 else 0) else (bif Nat.beq j 3 then 8 else 0)) else (bif Nat.beq j 2 then 4 else 0)) else (bif Nat.ble 1 j then (bif Nat.beq j 1 then 3 else 0) else (bif Nat.beq j 0 then 2 else 0))) else 0))))
theorem qG.br {sc : Option (Nat × (Nat → Int))} {d k pc n : Nat} {ls st : List qV} {w : qW} {Q : qV → qW → Nat → Prop} {P : Prop} [Decidable P] {pc1 pc2 : Nat} {st1 : List qV} (h : qone sc k pc ls st w n = if P then some (pc1, ls, st1, w, n) else some (pc2, ls, st1, w, n)) (hp : P → qG sc d k pc1 ls st1 w n Q) (hn : ¬ P → qG sc d k pc2 ls st1 w n Q) : qG sc d k pc ls st w n Q := qG.ite h hp hn
theorem qup_j {w : qW} {p k j : Nat} {v : Int} (h : j ≠ k) : qup w p k v p j = w p j := by rw [qup_p]; exact if_neg h
theorem qup_k {w : qW} {p k : Nat} {v : Int} : qup w p k v p k = v := by rw [qup_p]; exact if_pos rfl
theorem qclr_at {w : qW} {a p : Nat} (h : a ≤ p) (j : Nat) : qclr w a p j = 0 := by rw [qclr_hi h]
noncomputable def qmul (w : qW) (n m : Nat) : qW := fun p => if p = n + 1 then (fun j => if j < m then ((n + 2 + j : Nat) : Int) else 0) else qclr w (n + 1) p
theorem qmul_lo {w : qW} {n m p : Nat} (h : p < n + 1) : qmul w n m p = w p := by unfold qmul; rw [if_neg (by omega)]; exact qclr_lo h
theorem qmul_hi {w : qW} {n m p : Nat} (h : n + 1 < p) (j : Nat) : qmul w n m p j = 0 := by unfold qmul; rw [if_neg (by omega)]; exact congrFun (qclr_hi (by omega)) j
theorem qmul_at {w : qW} {n m p j : Nat} (h : p = n + 1) (hj : m ≤ j) : qmul w n m p j = 0 := by unfold qmul; rw [if_pos h]; exact if_neg (by omega)
/-- a constructor's end: cells below a as they were, from a on fresh ones -/
noncomputable def qFr (w w1 : qW) (a n1 : Nat) : Prop := ∀ p j, w1 p j = if p < a then w p j else if p ≤ n1 then qW0 p j else 0
theorem qFr.lo {w w1 : qW} {a n1 p : Nat} (h : qFr w w1 a n1) (hp : p < a) : w1 p = w p := funext fun j => by rw [h, if_pos hp]
theorem qFr.mid {w w1 : qW} {a n1 p : Nat} (h : qFr w w1 a n1) (h1 : a ≤ p) (h2 : p ≤ n1) : w1 p = qW0 p := funext fun j => by rw [h, if_neg (by omega), if_pos h2]
theorem qFr.hi {w w1 : qW} {a n1 p : Nat} (h : qFr w w1 a n1) (h1 : a ≤ p) (h2 : n1 < p) (j : Nat) : w1 p j = 0 := by rw [h, if_neg (by omega), if_neg (by omega)]
theorem qbeq_f {a b : Nat} (h : a ≠ b) : Nat.beq a b = false := by
  cases hq : Nat.beq a b
  · rfl
  · exact absurd (Nat.eq_of_beq_eq_true hq) h
theorem qble_t {a b : Nat} (h : a ≤ b) : Nat.ble a b = true := Nat.ble_eq_true_of_le h
theorem K_X8_init_17 {d : Nat} (hd : 1 ≤ d) (w : qW) (hz : ∀ j, w 17 j = 0) : qG none d 119 0 [(2, 17)] [] w 17 (fun (r : qV) (w1 : qW) (n1 : Nat) => r = (9, 0) ∧ qFr w w1 17 18 ∧ n1 = 18) := by
  generalize hQ9 : (fun (r : qV) (w1 : qW) (n1 : Nat) => r = (9, 0) ∧ qFr w w1 17 18 ∧ n1 = 18) = Q9
  obtain ⟨d, rfl⟩ : ∃ d9, d = d9 + 1 := ⟨d - 1, by omega⟩
  refine qG.blk 1 (pc' := 1) (ls' := [(2, 17)]) (st' := [(2, 17)]) (w' := w) (n' := 17) rfl ?_
  refine qG.oin rfl rfl (by decide) ?_
  refine qG.blk 2 (pc' := 8) (ls' := [(2, 17)]) (st' := [(0, 160), (2, 17)]) (w' := w) (n' := 17) rfl ?_
  refine qG.blk 1 (pc' := 10) (ls' := [(2, 17)]) (st' := [(2, 18), (2, 17)]) (w' := (qclr w 18)) (n' := 18) rfl ?_
  refine qG.blk 4 (pc' := 18) (ls' := [(2, 17)]) (st' := []) (w' := (qup (qup (qclr w 18) 17 0 18) 17 1 0)) (n' := 18) rfl ?_
  refine qG.retv rfl rfl ?_
  subst hQ9
  refine ⟨rfl, fun p j => ?_, rfl⟩
  by_cases c1 : p < 17
  · rw [if_pos c1]; simp (disch := first | decide | omega) only [qup_ne, qup_j, qclr_lo, qmul_lo]
  rw [if_neg c1]
  by_cases c2 : 18 < p
  · rw [if_neg (by omega)]; simp (disch := first | decide | omega) only [qup_ne, qup_j, qclr_lo, qmul_lo, qclr_at, qmul_hi]
  rw [if_pos (by omega)]
  rcases (show p = 17 ∨ p = 18 by omega) with rfl | rfl
  · by_cases c3 : j < 2
    · rcases (show j = 0 ∨ j = 1 by omega) with rfl | rfl <;> first | rfl | exact hz _ | (simp (disch := first | decide | omega) only [qup_ne, qup_j, qclr_lo, qmul_lo, qup_k, qclr_at, qmul_hi]; done) | (simp (disch := first | decide | omega) only [qup_ne, qup_j, qclr_lo, qmul_lo, qup_k, qclr_at, qmul_hi]; rfl) | (simp (disch := first | decide | omega) only [qup_ne, qup_j, qclr_lo, qmul_lo, qup_k, qclr_at, hz]; rfl)
    · first | (simp (disch := first | decide | omega) only [qup_ne, qup_j, qclr_lo, qmul_lo, hz]; unfold qW0; simp (disch := first | decide | omega) only [qbeq_f, qble_t]; rfl) | (simp (disch := first | decide | omega) only [qup_ne, qup_j, qclr_lo, qmul_lo, qclr_at]; unfold qW0; simp (disch := first | decide | omega) only [qbeq_f, qble_t]; rfl) | (simp (disch := first | decide | omega) only [qup_ne, qup_j, qclr_lo, qmul_lo, qclr_at]; done)
  · first | rfl | (simp (disch := first | decide | omega) only [qup_ne, qup_j, qclr_lo, qmul_lo, qup_k, qclr_at, qmul_hi]; done) | (simp (disch := first | decide | omega) only [qup_ne, qup_j, qclr_lo, qmul_lo, qup_k, qclr_at, qmul_hi]; rfl)
theorem K_X8_init_19 {d : Nat} (hd : 1 ≤ d) (w : qW) (hz : ∀ j, w 19 j = 0) : qG none d 119 0 [(2, 19)] [] w 19 (fun (r : qV) (w1 : qW) (n1 : Nat) => r = (9, 0) ∧ qFr w w1 19 20 ∧ n1 = 20) := by
  generalize hQ9 : (fun (r : qV) (w1 : qW) (n1 : Nat) => r = (9, 0) ∧ qFr w w1 19 20 ∧ n1 = 20) = Q9
  obtain ⟨d, rfl⟩ : ∃ d9, d = d9 + 1 := ⟨d - 1, by omega⟩
  refine qG.blk 1 (pc' := 1) (ls' := [(2, 19)]) (st' := [(2, 19)]) (w' := w) (n' := 19) rfl ?_
  refine qG.oin rfl rfl (by decide) ?_
  refine qG.blk 2 (pc' := 8) (ls' := [(2, 19)]) (st' := [(0, 160), (2, 19)]) (w' := w) (n' := 19) rfl ?_
  refine qG.blk 1 (pc' := 10) (ls' := [(2, 19)]) (st' := [(2, 20), (2, 19)]) (w' := (qclr w 20)) (n' := 20) rfl ?_
  refine qG.blk 4 (pc' := 18) (ls' := [(2, 19)]) (st' := []) (w' := (qup (qup (qclr w 20) 19 0 20) 19 1 0)) (n' := 20) rfl ?_
  refine qG.retv rfl rfl ?_
  subst hQ9
  refine ⟨rfl, fun p j => ?_, rfl⟩
  by_cases c1 : p < 19
  · rw [if_pos c1]; simp (disch := first | decide | omega) only [qup_ne, qup_j, qclr_lo, qmul_lo]
  rw [if_neg c1]
  by_cases c2 : 20 < p
  · rw [if_neg (by omega)]; simp (disch := first | decide | omega) only [qup_ne, qup_j, qclr_lo, qmul_lo, qclr_at, qmul_hi]
  rw [if_pos (by omega)]
  rcases (show p = 19 ∨ p = 20 by omega) with rfl | rfl
  · by_cases c3 : j < 2
    · rcases (show j = 0 ∨ j = 1 by omega) with rfl | rfl <;> first | rfl | exact hz _ | (simp (disch := first | decide | omega) only [qup_ne, qup_j, qclr_lo, qmul_lo, qup_k, qclr_at, qmul_hi]; done) | (simp (disch := first | decide | omega) only [qup_ne, qup_j, qclr_lo, qmul_lo, qup_k, qclr_at, qmul_hi]; rfl) | (simp (disch := first | decide | omega) only [qup_ne, qup_j, qclr_lo, qmul_lo, qup_k, qclr_at, hz]; rfl)
    · first | (simp (disch := first | decide | omega) only [qup_ne, qup_j, qclr_lo, qmul_lo, hz]; unfold qW0; simp (disch := first | decide | omega) only [qbeq_f, qble_t]; rfl) | (simp (disch := first | decide | omega) only [qup_ne, qup_j, qclr_lo, qmul_lo, qclr_at]; unfold qW0; simp (disch := first | decide | omega) only [qbeq_f, qble_t]; rfl) | (simp (disch := first | decide | omega) only [qup_ne, qup_j, qclr_lo, qmul_lo, qclr_at]; done)
  · first | rfl | (simp (disch := first | decide | omega) only [qup_ne, qup_j, qclr_lo, qmul_lo, qup_k, qclr_at, qmul_hi]; done) | (simp (disch := first | decide | omega) only [qup_ne, qup_j, qclr_lo, qmul_lo, qup_k, qclr_at, qmul_hi]; rfl)
theorem K_X8_init_21 {d : Nat} (hd : 1 ≤ d) (w : qW) (hz : ∀ j, w 21 j = 0) : qG none d 119 0 [(2, 21)] [] w 21 (fun (r : qV) (w1 : qW) (n1 : Nat) => r = (9, 0) ∧ qFr w w1 21 22 ∧ n1 = 22) := by
  generalize hQ9 : (fun (r : qV) (w1 : qW) (n1 : Nat) => r = (9, 0) ∧ qFr w w1 21 22 ∧ n1 = 22) = Q9
  obtain ⟨d, rfl⟩ : ∃ d9, d = d9 + 1 := ⟨d - 1, by omega⟩
  refine qG.blk 1 (pc' := 1) (ls' := [(2, 21)]) (st' := [(2, 21)]) (w' := w) (n' := 21) rfl ?_
  refine qG.oin rfl rfl (by decide) ?_
  refine qG.blk 2 (pc' := 8) (ls' := [(2, 21)]) (st' := [(0, 160), (2, 21)]) (w' := w) (n' := 21) rfl ?_
  refine qG.blk 1 (pc' := 10) (ls' := [(2, 21)]) (st' := [(2, 22), (2, 21)]) (w' := (qclr w 22)) (n' := 22) rfl ?_
  refine qG.blk 4 (pc' := 18) (ls' := [(2, 21)]) (st' := []) (w' := (qup (qup (qclr w 22) 21 0 22) 21 1 0)) (n' := 22) rfl ?_
  refine qG.retv rfl rfl ?_
  subst hQ9
  refine ⟨rfl, fun p j => ?_, rfl⟩
  by_cases c1 : p < 21
  · rw [if_pos c1]; simp (disch := first | decide | omega) only [qup_ne, qup_j, qclr_lo, qmul_lo]
  rw [if_neg c1]
  by_cases c2 : 22 < p
  · rw [if_neg (by omega)]; simp (disch := first | decide | omega) only [qup_ne, qup_j, qclr_lo, qmul_lo, qclr_at, qmul_hi]
  rw [if_pos (by omega)]
  rcases (show p = 21 ∨ p = 22 by omega) with rfl | rfl
  · by_cases c3 : j < 2
    · rcases (show j = 0 ∨ j = 1 by omega) with rfl | rfl <;> first | rfl | exact hz _ | (simp (disch := first | decide | omega) only [qup_ne, qup_j, qclr_lo, qmul_lo, qup_k, qclr_at, qmul_hi]; done) | (simp (disch := first | decide | omega) only [qup_ne, qup_j, qclr_lo, qmul_lo, qup_k, qclr_at, qmul_hi]; rfl) | (simp (disch := first | decide | omega) only [qup_ne, qup_j, qclr_lo, qmul_lo, qup_k, qclr_at, hz]; rfl)
    · first | (simp (disch := first | decide | omega) only [qup_ne, qup_j, qclr_lo, qmul_lo, hz]; unfold qW0; simp (disch := first | decide | omega) only [qbeq_f, qble_t]; rfl) | (simp (disch := first | decide | omega) only [qup_ne, qup_j, qclr_lo, qmul_lo, qclr_at]; unfold qW0; simp (disch := first | decide | omega) only [qbeq_f, qble_t]; rfl) | (simp (disch := first | decide | omega) only [qup_ne, qup_j, qclr_lo, qmul_lo, qclr_at]; done)
  · first | rfl | (simp (disch := first | decide | omega) only [qup_ne, qup_j, qclr_lo, qmul_lo, qup_k, qclr_at, qmul_hi]; done) | (simp (disch := first | decide | omega) only [qup_ne, qup_j, qclr_lo, qmul_lo, qup_k, qclr_at, qmul_hi]; rfl)
theorem K_X7_init_4 {d : Nat} (hd : 1 ≤ d) (w : qW) (hz : ∀ j, w 4 j = 0) : qG none d 106 0 [(2, 4)] [] w 4 (fun (r : qV) (w1 : qW) (n1 : Nat) => r = (9, 0) ∧ qFr w w1 4 7 ∧ n1 = 7) := by
  generalize hQ9 : (fun (r : qV) (w1 : qW) (n1 : Nat) => r = (9, 0) ∧ qFr w w1 4 7 ∧ n1 = 7) = Q9
  obtain ⟨d, rfl⟩ : ∃ d9, d = d9 + 1 := ⟨d - 1, by omega⟩
  refine qG.blk 1 (pc' := 1) (ls' := [(2, 4)]) (st' := [(2, 4)]) (w' := w) (n' := 4) rfl ?_
  refine qG.oin rfl rfl (by decide) ?_
  refine qG.blk 2 (pc' := 7) (ls' := [(2, 4)]) (st' := [(0, 40), (2, 4)]) (w' := w) (n' := 4) rfl ?_
  refine qG.blk 1 (pc' := 9) (ls' := [(2, 4)]) (st' := [(2, 5), (2, 4)]) (w' := (qclr w 5)) (n' := 5) rfl ?_
  refine qG.blk 3 (pc' := 15) (ls' := [(2, 4)]) (st' := [(0, 40), (2, 4)]) (w' := (qup (qclr w 5) 4 0 5)) (n' := 5) rfl ?_
  refine qG.blk 1 (pc' := 17) (ls' := [(2, 4)]) (st' := [(2, 6), (2, 4)]) (w' := (qclr (qup (qclr w 5) 4 0 5) 6)) (n' := 6) rfl ?_
  refine qG.blk 6 (pc' := 28) (ls' := [(2, 4)]) (st' := [(0, 40), (2, 4)]) (w' := (qup (qup (qclr (qup (qclr w 5) 4 0 5) 6) 4 1 6) 4 2 0)) (n' := 6) rfl ?_
  refine qG.blk 1 (pc' := 30) (ls' := [(2, 4)]) (st' := [(2, 7), (2, 4)]) (w' := (qclr (qup (qup (qclr (qup (qclr w 5) 4 0 5) 6) 4 1 6) 4 2 0) 7)) (n' := 7) rfl ?_
  refine qG.blk 12 (pc' := 50) (ls' := [(2, 4)]) (st' := [(0, 0), (2, 4)]) (w' := (qup (qup (qup (qup (qclr (qup (qup (qclr (qup (qclr w 5) 4 0 5) 6) 4 1 6) 4 2 0) 7) 4 3 7) 4 4 0) 4 5 (-1)) 4 6 0)) (n' := 7) rfl ?_
  refine qG.blk 7 (pc' := 63) (ls' := [(2, 4)]) (st' := []) (w' := (qup (qup (qup (qup (qup (qup (qup (qclr (qup (qup (qclr (qup (qclr w 5) 4 0 5) 6) 4 1 6) 4 2 0) 7) 4 3 7) 4 4 0) 4 5 (-1)) 4 6 0) 4 7 0) 4 8 0) 4 9 0)) (n' := 7) rfl ?_
  refine qG.retv rfl rfl ?_
  subst hQ9
  refine ⟨rfl, fun p j => ?_, rfl⟩
  by_cases c1 : p < 4
  · rw [if_pos c1]; simp (disch := first | decide | omega) only [qup_ne, qup_j, qclr_lo, qmul_lo]
  rw [if_neg c1]
  by_cases c2 : 7 < p
  · rw [if_neg (by omega)]; simp (disch := first | decide | omega) only [qup_ne, qup_j, qclr_lo, qmul_lo, qclr_at, qmul_hi]
  rw [if_pos (by omega)]
  rcases (show p = 4 ∨ p = 5 ∨ p = 6 ∨ p = 7 by omega) with rfl | rfl | rfl | rfl
  · by_cases c3 : j < 10
    · rcases (show j = 0 ∨ j = 1 ∨ j = 2 ∨ j = 3 ∨ j = 4 ∨ j = 5 ∨ j = 6 ∨ j = 7 ∨ j = 8 ∨ j = 9 by omega) with rfl | rfl | rfl | rfl | rfl | rfl | rfl | rfl | rfl | rfl <;> first | rfl | exact hz _ | (simp (disch := first | decide | omega) only [qup_ne, qup_j, qclr_lo, qmul_lo, qup_k, qclr_at, qmul_hi]; done) | (simp (disch := first | decide | omega) only [qup_ne, qup_j, qclr_lo, qmul_lo, qup_k, qclr_at, qmul_hi]; rfl) | (simp (disch := first | decide | omega) only [qup_ne, qup_j, qclr_lo, qmul_lo, qup_k, qclr_at, hz]; rfl)
    · first | (simp (disch := first | decide | omega) only [qup_ne, qup_j, qclr_lo, qmul_lo, hz]; unfold qW0; simp (disch := first | decide | omega) only [qbeq_f, qble_t]; rfl) | (simp (disch := first | decide | omega) only [qup_ne, qup_j, qclr_lo, qmul_lo, qclr_at]; unfold qW0; simp (disch := first | decide | omega) only [qbeq_f, qble_t]; rfl) | (simp (disch := first | decide | omega) only [qup_ne, qup_j, qclr_lo, qmul_lo, qclr_at]; done)
  · first | rfl | (simp (disch := first | decide | omega) only [qup_ne, qup_j, qclr_lo, qmul_lo, qup_k, qclr_at, qmul_hi]; done) | (simp (disch := first | decide | omega) only [qup_ne, qup_j, qclr_lo, qmul_lo, qup_k, qclr_at, qmul_hi]; rfl)
  · first | rfl | (simp (disch := first | decide | omega) only [qup_ne, qup_j, qclr_lo, qmul_lo, qup_k, qclr_at, qmul_hi]; done) | (simp (disch := first | decide | omega) only [qup_ne, qup_j, qclr_lo, qmul_lo, qup_k, qclr_at, qmul_hi]; rfl)
  · first | rfl | (simp (disch := first | decide | omega) only [qup_ne, qup_j, qclr_lo, qmul_lo, qup_k, qclr_at, qmul_hi]; done) | (simp (disch := first | decide | omega) only [qup_ne, qup_j, qclr_lo, qmul_lo, qup_k, qclr_at, qmul_hi]; rfl)
theorem K_X7_init_79 {d : Nat} (hd : 1 ≤ d) (w : qW) (hz : ∀ j, w 79 j = 0) : qG none d 106 0 [(2, 79)] [] w 79 (fun (r : qV) (w1 : qW) (n1 : Nat) => r = (9, 0) ∧ qFr w w1 79 82 ∧ n1 = 82) := by
  generalize hQ9 : (fun (r : qV) (w1 : qW) (n1 : Nat) => r = (9, 0) ∧ qFr w w1 79 82 ∧ n1 = 82) = Q9
  obtain ⟨d, rfl⟩ : ∃ d9, d = d9 + 1 := ⟨d - 1, by omega⟩
  refine qG.blk 1 (pc' := 1) (ls' := [(2, 79)]) (st' := [(2, 79)]) (w' := w) (n' := 79) rfl ?_
  refine qG.oin rfl rfl (by decide) ?_
  refine qG.blk 2 (pc' := 7) (ls' := [(2, 79)]) (st' := [(0, 40), (2, 79)]) (w' := w) (n' := 79) rfl ?_
  refine qG.blk 1 (pc' := 9) (ls' := [(2, 79)]) (st' := [(2, 80), (2, 79)]) (w' := (qclr w 80)) (n' := 80) rfl ?_
  refine qG.blk 3 (pc' := 15) (ls' := [(2, 79)]) (st' := [(0, 40), (2, 79)]) (w' := (qup (qclr w 80) 79 0 80)) (n' := 80) rfl ?_
  refine qG.blk 1 (pc' := 17) (ls' := [(2, 79)]) (st' := [(2, 81), (2, 79)]) (w' := (qclr (qup (qclr w 80) 79 0 80) 81)) (n' := 81) rfl ?_
  refine qG.blk 6 (pc' := 28) (ls' := [(2, 79)]) (st' := [(0, 40), (2, 79)]) (w' := (qup (qup (qclr (qup (qclr w 80) 79 0 80) 81) 79 1 81) 79 2 0)) (n' := 81) rfl ?_
  refine qG.blk 1 (pc' := 30) (ls' := [(2, 79)]) (st' := [(2, 82), (2, 79)]) (w' := (qclr (qup (qup (qclr (qup (qclr w 80) 79 0 80) 81) 79 1 81) 79 2 0) 82)) (n' := 82) rfl ?_
  refine qG.blk 12 (pc' := 50) (ls' := [(2, 79)]) (st' := [(0, 0), (2, 79)]) (w' := (qup (qup (qup (qup (qclr (qup (qup (qclr (qup (qclr w 80) 79 0 80) 81) 79 1 81) 79 2 0) 82) 79 3 82) 79 4 0) 79 5 (-1)) 79 6 0)) (n' := 82) rfl ?_
  refine qG.blk 7 (pc' := 63) (ls' := [(2, 79)]) (st' := []) (w' := (qup (qup (qup (qup (qup (qup (qup (qclr (qup (qup (qclr (qup (qclr w 80) 79 0 80) 81) 79 1 81) 79 2 0) 82) 79 3 82) 79 4 0) 79 5 (-1)) 79 6 0) 79 7 0) 79 8 0) 79 9 0)) (n' := 82) rfl ?_
  refine qG.retv rfl rfl ?_
  subst hQ9
  refine ⟨rfl, fun p j => ?_, rfl⟩
  by_cases c1 : p < 79
  · rw [if_pos c1]; simp (disch := first | decide | omega) only [qup_ne, qup_j, qclr_lo, qmul_lo]
  rw [if_neg c1]
  by_cases c2 : 82 < p
  · rw [if_neg (by omega)]; simp (disch := first | decide | omega) only [qup_ne, qup_j, qclr_lo, qmul_lo, qclr_at, qmul_hi]
  rw [if_pos (by omega)]
  rcases (show p = 79 ∨ p = 80 ∨ p = 81 ∨ p = 82 by omega) with rfl | rfl | rfl | rfl
  · by_cases c3 : j < 10
    · rcases (show j = 0 ∨ j = 1 ∨ j = 2 ∨ j = 3 ∨ j = 4 ∨ j = 5 ∨ j = 6 ∨ j = 7 ∨ j = 8 ∨ j = 9 by omega) with rfl | rfl | rfl | rfl | rfl | rfl | rfl | rfl | rfl | rfl <;> first | rfl | exact hz _ | (simp (disch := first | decide | omega) only [qup_ne, qup_j, qclr_lo, qmul_lo, qup_k, qclr_at, qmul_hi]; done) | (simp (disch := first | decide | omega) only [qup_ne, qup_j, qclr_lo, qmul_lo, qup_k, qclr_at, qmul_hi]; rfl) | (simp (disch := first | decide | omega) only [qup_ne, qup_j, qclr_lo, qmul_lo, qup_k, qclr_at, hz]; rfl)
    · first | (simp (disch := first | decide | omega) only [qup_ne, qup_j, qclr_lo, qmul_lo, hz]; unfold qW0; simp (disch := first | decide | omega) only [qbeq_f, qble_t]; rfl) | (simp (disch := first | decide | omega) only [qup_ne, qup_j, qclr_lo, qmul_lo, qclr_at]; unfold qW0; simp (disch := first | decide | omega) only [qbeq_f, qble_t]; rfl) | (simp (disch := first | decide | omega) only [qup_ne, qup_j, qclr_lo, qmul_lo, qclr_at]; done)
  · first | rfl | (simp (disch := first | decide | omega) only [qup_ne, qup_j, qclr_lo, qmul_lo, qup_k, qclr_at, qmul_hi]; done) | (simp (disch := first | decide | omega) only [qup_ne, qup_j, qclr_lo, qmul_lo, qup_k, qclr_at, qmul_hi]; rfl)
  · first | rfl | (simp (disch := first | decide | omega) only [qup_ne, qup_j, qclr_lo, qmul_lo, qup_k, qclr_at, qmul_hi]; done) | (simp (disch := first | decide | omega) only [qup_ne, qup_j, qclr_lo, qmul_lo, qup_k, qclr_at, qmul_hi]; rfl)
  · first | rfl | (simp (disch := first | decide | omega) only [qup_ne, qup_j, qclr_lo, qmul_lo, qup_k, qclr_at, qmul_hi]; done) | (simp (disch := first | decide | omega) only [qup_ne, qup_j, qclr_lo, qmul_lo, qup_k, qclr_at, qmul_hi]; rfl)
theorem K_X7_init_83 {d : Nat} (hd : 1 ≤ d) (w : qW) (hz : ∀ j, w 83 j = 0) : qG none d 106 0 [(2, 83)] [] w 83 (fun (r : qV) (w1 : qW) (n1 : Nat) => r = (9, 0) ∧ qFr w w1 83 86 ∧ n1 = 86) := by
  generalize hQ9 : (fun (r : qV) (w1 : qW) (n1 : Nat) => r = (9, 0) ∧ qFr w w1 83 86 ∧ n1 = 86) = Q9
  obtain ⟨d, rfl⟩ : ∃ d9, d = d9 + 1 := ⟨d - 1, by omega⟩
  refine qG.blk 1 (pc' := 1) (ls' := [(2, 83)]) (st' := [(2, 83)]) (w' := w) (n' := 83) rfl ?_
  refine qG.oin rfl rfl (by decide) ?_
  refine qG.blk 2 (pc' := 7) (ls' := [(2, 83)]) (st' := [(0, 40), (2, 83)]) (w' := w) (n' := 83) rfl ?_
  refine qG.blk 1 (pc' := 9) (ls' := [(2, 83)]) (st' := [(2, 84), (2, 83)]) (w' := (qclr w 84)) (n' := 84) rfl ?_
  refine qG.blk 3 (pc' := 15) (ls' := [(2, 83)]) (st' := [(0, 40), (2, 83)]) (w' := (qup (qclr w 84) 83 0 84)) (n' := 84) rfl ?_
  refine qG.blk 1 (pc' := 17) (ls' := [(2, 83)]) (st' := [(2, 85), (2, 83)]) (w' := (qclr (qup (qclr w 84) 83 0 84) 85)) (n' := 85) rfl ?_
  refine qG.blk 6 (pc' := 28) (ls' := [(2, 83)]) (st' := [(0, 40), (2, 83)]) (w' := (qup (qup (qclr (qup (qclr w 84) 83 0 84) 85) 83 1 85) 83 2 0)) (n' := 85) rfl ?_
  refine qG.blk 1 (pc' := 30) (ls' := [(2, 83)]) (st' := [(2, 86), (2, 83)]) (w' := (qclr (qup (qup (qclr (qup (qclr w 84) 83 0 84) 85) 83 1 85) 83 2 0) 86)) (n' := 86) rfl ?_
  refine qG.blk 12 (pc' := 50) (ls' := [(2, 83)]) (st' := [(0, 0), (2, 83)]) (w' := (qup (qup (qup (qup (qclr (qup (qup (qclr (qup (qclr w 84) 83 0 84) 85) 83 1 85) 83 2 0) 86) 83 3 86) 83 4 0) 83 5 (-1)) 83 6 0)) (n' := 86) rfl ?_
  refine qG.blk 7 (pc' := 63) (ls' := [(2, 83)]) (st' := []) (w' := (qup (qup (qup (qup (qup (qup (qup (qclr (qup (qup (qclr (qup (qclr w 84) 83 0 84) 85) 83 1 85) 83 2 0) 86) 83 3 86) 83 4 0) 83 5 (-1)) 83 6 0) 83 7 0) 83 8 0) 83 9 0)) (n' := 86) rfl ?_
  refine qG.retv rfl rfl ?_
  subst hQ9
  refine ⟨rfl, fun p j => ?_, rfl⟩
  by_cases c1 : p < 83
  · rw [if_pos c1]; simp (disch := first | decide | omega) only [qup_ne, qup_j, qclr_lo, qmul_lo]
  rw [if_neg c1]
  by_cases c2 : 86 < p
  · rw [if_neg (by omega)]; simp (disch := first | decide | omega) only [qup_ne, qup_j, qclr_lo, qmul_lo, qclr_at, qmul_hi]
  rw [if_pos (by omega)]
  rcases (show p = 83 ∨ p = 84 ∨ p = 85 ∨ p = 86 by omega) with rfl | rfl | rfl | rfl
  · by_cases c3 : j < 10
    · rcases (show j = 0 ∨ j = 1 ∨ j = 2 ∨ j = 3 ∨ j = 4 ∨ j = 5 ∨ j = 6 ∨ j = 7 ∨ j = 8 ∨ j = 9 by omega) with rfl | rfl | rfl | rfl | rfl | rfl | rfl | rfl | rfl | rfl <;> first | rfl | exact hz _ | (simp (disch := first | decide | omega) only [qup_ne, qup_j, qclr_lo, qmul_lo, qup_k, qclr_at, qmul_hi]; done) | (simp (disch := first | decide | omega) only [qup_ne, qup_j, qclr_lo, qmul_lo, qup_k, qclr_at, qmul_hi]; rfl) | (simp (disch := first | decide | omega) only [qup_ne, qup_j, qclr_lo, qmul_lo, qup_k, qclr_at, hz]; rfl)
    · first | (simp (disch := first | decide | omega) only [qup_ne, qup_j, qclr_lo, qmul_lo, hz]; unfold qW0; simp (disch := first | decide | omega) only [qbeq_f, qble_t]; rfl) | (simp (disch := first | decide | omega) only [qup_ne, qup_j, qclr_lo, qmul_lo, qclr_at]; unfold qW0; simp (disch := first | decide | omega) only [qbeq_f, qble_t]; rfl) | (simp (disch := first | decide | omega) only [qup_ne, qup_j, qclr_lo, qmul_lo, qclr_at]; done)
  · first | rfl | (simp (disch := first | decide | omega) only [qup_ne, qup_j, qclr_lo, qmul_lo, qup_k, qclr_at, qmul_hi]; done) | (simp (disch := first | decide | omega) only [qup_ne, qup_j, qclr_lo, qmul_lo, qup_k, qclr_at, qmul_hi]; rfl)
  · first | rfl | (simp (disch := first | decide | omega) only [qup_ne, qup_j, qclr_lo, qmul_lo, qup_k, qclr_at, qmul_hi]; done) | (simp (disch := first | decide | omega) only [qup_ne, qup_j, qclr_lo, qmul_lo, qup_k, qclr_at, qmul_hi]; rfl)
  · first | rfl | (simp (disch := first | decide | omega) only [qup_ne, qup_j, qclr_lo, qmul_lo, qup_k, qclr_at, qmul_hi]; done) | (simp (disch := first | decide | omega) only [qup_ne, qup_j, qclr_lo, qmul_lo, qup_k, qclr_at, qmul_hi]; rfl)
theorem K_X7_init_87 {d : Nat} (hd : 1 ≤ d) (w : qW) (hz : ∀ j, w 87 j = 0) : qG none d 106 0 [(2, 87)] [] w 87 (fun (r : qV) (w1 : qW) (n1 : Nat) => r = (9, 0) ∧ qFr w w1 87 90 ∧ n1 = 90) := by
  generalize hQ9 : (fun (r : qV) (w1 : qW) (n1 : Nat) => r = (9, 0) ∧ qFr w w1 87 90 ∧ n1 = 90) = Q9
  obtain ⟨d, rfl⟩ : ∃ d9, d = d9 + 1 := ⟨d - 1, by omega⟩
  refine qG.blk 1 (pc' := 1) (ls' := [(2, 87)]) (st' := [(2, 87)]) (w' := w) (n' := 87) rfl ?_
  refine qG.oin rfl rfl (by decide) ?_
  refine qG.blk 2 (pc' := 7) (ls' := [(2, 87)]) (st' := [(0, 40), (2, 87)]) (w' := w) (n' := 87) rfl ?_
  refine qG.blk 1 (pc' := 9) (ls' := [(2, 87)]) (st' := [(2, 88), (2, 87)]) (w' := (qclr w 88)) (n' := 88) rfl ?_
  refine qG.blk 3 (pc' := 15) (ls' := [(2, 87)]) (st' := [(0, 40), (2, 87)]) (w' := (qup (qclr w 88) 87 0 88)) (n' := 88) rfl ?_
  refine qG.blk 1 (pc' := 17) (ls' := [(2, 87)]) (st' := [(2, 89), (2, 87)]) (w' := (qclr (qup (qclr w 88) 87 0 88) 89)) (n' := 89) rfl ?_
  refine qG.blk 6 (pc' := 28) (ls' := [(2, 87)]) (st' := [(0, 40), (2, 87)]) (w' := (qup (qup (qclr (qup (qclr w 88) 87 0 88) 89) 87 1 89) 87 2 0)) (n' := 89) rfl ?_
  refine qG.blk 1 (pc' := 30) (ls' := [(2, 87)]) (st' := [(2, 90), (2, 87)]) (w' := (qclr (qup (qup (qclr (qup (qclr w 88) 87 0 88) 89) 87 1 89) 87 2 0) 90)) (n' := 90) rfl ?_
  refine qG.blk 12 (pc' := 50) (ls' := [(2, 87)]) (st' := [(0, 0), (2, 87)]) (w' := (qup (qup (qup (qup (qclr (qup (qup (qclr (qup (qclr w 88) 87 0 88) 89) 87 1 89) 87 2 0) 90) 87 3 90) 87 4 0) 87 5 (-1)) 87 6 0)) (n' := 90) rfl ?_
  refine qG.blk 7 (pc' := 63) (ls' := [(2, 87)]) (st' := []) (w' := (qup (qup (qup (qup (qup (qup (qup (qclr (qup (qup (qclr (qup (qclr w 88) 87 0 88) 89) 87 1 89) 87 2 0) 90) 87 3 90) 87 4 0) 87 5 (-1)) 87 6 0) 87 7 0) 87 8 0) 87 9 0)) (n' := 90) rfl ?_
  refine qG.retv rfl rfl ?_
  subst hQ9
  refine ⟨rfl, fun p j => ?_, rfl⟩
  by_cases c1 : p < 87
  · rw [if_pos c1]; simp (disch := first | decide | omega) only [qup_ne, qup_j, qclr_lo, qmul_lo]
  rw [if_neg c1]
  by_cases c2 : 90 < p
  · rw [if_neg (by omega)]; simp (disch := first | decide | omega) only [qup_ne, qup_j, qclr_lo, qmul_lo, qclr_at, qmul_hi]
  rw [if_pos (by omega)]
  rcases (show p = 87 ∨ p = 88 ∨ p = 89 ∨ p = 90 by omega) with rfl | rfl | rfl | rfl
  · by_cases c3 : j < 10
    · rcases (show j = 0 ∨ j = 1 ∨ j = 2 ∨ j = 3 ∨ j = 4 ∨ j = 5 ∨ j = 6 ∨ j = 7 ∨ j = 8 ∨ j = 9 by omega) with rfl | rfl | rfl | rfl | rfl | rfl | rfl | rfl | rfl | rfl <;> first | rfl | exact hz _ | (simp (disch := first | decide | omega) only [qup_ne, qup_j, qclr_lo, qmul_lo, qup_k, qclr_at, qmul_hi]; done) | (simp (disch := first | decide | omega) only [qup_ne, qup_j, qclr_lo, qmul_lo, qup_k, qclr_at, qmul_hi]; rfl) | (simp (disch := first | decide | omega) only [qup_ne, qup_j, qclr_lo, qmul_lo, qup_k, qclr_at, hz]; rfl)
    · first | (simp (disch := first | decide | omega) only [qup_ne, qup_j, qclr_lo, qmul_lo, hz]; unfold qW0; simp (disch := first | decide | omega) only [qbeq_f, qble_t]; rfl) | (simp (disch := first | decide | omega) only [qup_ne, qup_j, qclr_lo, qmul_lo, qclr_at]; unfold qW0; simp (disch := first | decide | omega) only [qbeq_f, qble_t]; rfl) | (simp (disch := first | decide | omega) only [qup_ne, qup_j, qclr_lo, qmul_lo, qclr_at]; done)
  · first | rfl | (simp (disch := first | decide | omega) only [qup_ne, qup_j, qclr_lo, qmul_lo, qup_k, qclr_at, qmul_hi]; done) | (simp (disch := first | decide | omega) only [qup_ne, qup_j, qclr_lo, qmul_lo, qup_k, qclr_at, qmul_hi]; rfl)
  · first | rfl | (simp (disch := first | decide | omega) only [qup_ne, qup_j, qclr_lo, qmul_lo, qup_k, qclr_at, qmul_hi]; done) | (simp (disch := first | decide | omega) only [qup_ne, qup_j, qclr_lo, qmul_lo, qup_k, qclr_at, qmul_hi]; rfl)
  · first | rfl | (simp (disch := first | decide | omega) only [qup_ne, qup_j, qclr_lo, qmul_lo, qup_k, qclr_at, qmul_hi]; done) | (simp (disch := first | decide | omega) only [qup_ne, qup_j, qclr_lo, qmul_lo, qup_k, qclr_at, qmul_hi]; rfl)
theorem K_X7_init_91 {d : Nat} (hd : 1 ≤ d) (w : qW) (hz : ∀ j, w 91 j = 0) : qG none d 106 0 [(2, 91)] [] w 91 (fun (r : qV) (w1 : qW) (n1 : Nat) => r = (9, 0) ∧ qFr w w1 91 94 ∧ n1 = 94) := by
  generalize hQ9 : (fun (r : qV) (w1 : qW) (n1 : Nat) => r = (9, 0) ∧ qFr w w1 91 94 ∧ n1 = 94) = Q9
  obtain ⟨d, rfl⟩ : ∃ d9, d = d9 + 1 := ⟨d - 1, by omega⟩
  refine qG.blk 1 (pc' := 1) (ls' := [(2, 91)]) (st' := [(2, 91)]) (w' := w) (n' := 91) rfl ?_
  refine qG.oin rfl rfl (by decide) ?_
  refine qG.blk 2 (pc' := 7) (ls' := [(2, 91)]) (st' := [(0, 40), (2, 91)]) (w' := w) (n' := 91) rfl ?_
  refine qG.blk 1 (pc' := 9) (ls' := [(2, 91)]) (st' := [(2, 92), (2, 91)]) (w' := (qclr w 92)) (n' := 92) rfl ?_
  refine qG.blk 3 (pc' := 15) (ls' := [(2, 91)]) (st' := [(0, 40), (2, 91)]) (w' := (qup (qclr w 92) 91 0 92)) (n' := 92) rfl ?_
  refine qG.blk 1 (pc' := 17) (ls' := [(2, 91)]) (st' := [(2, 93), (2, 91)]) (w' := (qclr (qup (qclr w 92) 91 0 92) 93)) (n' := 93) rfl ?_
  refine qG.blk 6 (pc' := 28) (ls' := [(2, 91)]) (st' := [(0, 40), (2, 91)]) (w' := (qup (qup (qclr (qup (qclr w 92) 91 0 92) 93) 91 1 93) 91 2 0)) (n' := 93) rfl ?_
  refine qG.blk 1 (pc' := 30) (ls' := [(2, 91)]) (st' := [(2, 94), (2, 91)]) (w' := (qclr (qup (qup (qclr (qup (qclr w 92) 91 0 92) 93) 91 1 93) 91 2 0) 94)) (n' := 94) rfl ?_
  refine qG.blk 12 (pc' := 50) (ls' := [(2, 91)]) (st' := [(0, 0), (2, 91)]) (w' := (qup (qup (qup (qup (qclr (qup (qup (qclr (qup (qclr w 92) 91 0 92) 93) 91 1 93) 91 2 0) 94) 91 3 94) 91 4 0) 91 5 (-1)) 91 6 0)) (n' := 94) rfl ?_
  refine qG.blk 7 (pc' := 63) (ls' := [(2, 91)]) (st' := []) (w' := (qup (qup (qup (qup (qup (qup (qup (qclr (qup (qup (qclr (qup (qclr w 92) 91 0 92) 93) 91 1 93) 91 2 0) 94) 91 3 94) 91 4 0) 91 5 (-1)) 91 6 0) 91 7 0) 91 8 0) 91 9 0)) (n' := 94) rfl ?_
  refine qG.retv rfl rfl ?_
  subst hQ9
  refine ⟨rfl, fun p j => ?_, rfl⟩
  by_cases c1 : p < 91
  · rw [if_pos c1]; simp (disch := first | decide | omega) only [qup_ne, qup_j, qclr_lo, qmul_lo]
  rw [if_neg c1]
  by_cases c2 : 94 < p
  · rw [if_neg (by omega)]; simp (disch := first | decide | omega) only [qup_ne, qup_j, qclr_lo, qmul_lo, qclr_at, qmul_hi]
  rw [if_pos (by omega)]
  rcases (show p = 91 ∨ p = 92 ∨ p = 93 ∨ p = 94 by omega) with rfl | rfl | rfl | rfl
  · by_cases c3 : j < 10
    · rcases (show j = 0 ∨ j = 1 ∨ j = 2 ∨ j = 3 ∨ j = 4 ∨ j = 5 ∨ j = 6 ∨ j = 7 ∨ j = 8 ∨ j = 9 by omega) with rfl | rfl | rfl | rfl | rfl | rfl | rfl | rfl | rfl | rfl <;> first | rfl | exact hz _ | (simp (disch := first | decide | omega) only [qup_ne, qup_j, qclr_lo, qmul_lo, qup_k, qclr_at, qmul_hi]; done) | (simp (disch := first | decide | omega) only [qup_ne, qup_j, qclr_lo, qmul_lo, qup_k, qclr_at, qmul_hi]; rfl) | (simp (disch := first | decide | omega) only [qup_ne, qup_j, qclr_lo, qmul_lo, qup_k, qclr_at, hz]; rfl)
    · first | (simp (disch := first | decide | omega) only [qup_ne, qup_j, qclr_lo, qmul_lo, hz]; unfold qW0; simp (disch := first | decide | omega) only [qbeq_f, qble_t]; rfl) | (simp (disch := first | decide | omega) only [qup_ne, qup_j, qclr_lo, qmul_lo, qclr_at]; unfold qW0; simp (disch := first | decide | omega) only [qbeq_f, qble_t]; rfl) | (simp (disch := first | decide | omega) only [qup_ne, qup_j, qclr_lo, qmul_lo, qclr_at]; done)
  · first | rfl | (simp (disch := first | decide | omega) only [qup_ne, qup_j, qclr_lo, qmul_lo, qup_k, qclr_at, qmul_hi]; done) | (simp (disch := first | decide | omega) only [qup_ne, qup_j, qclr_lo, qmul_lo, qup_k, qclr_at, qmul_hi]; rfl)
  · first | rfl | (simp (disch := first | decide | omega) only [qup_ne, qup_j, qclr_lo, qmul_lo, qup_k, qclr_at, qmul_hi]; done) | (simp (disch := first | decide | omega) only [qup_ne, qup_j, qclr_lo, qmul_lo, qup_k, qclr_at, qmul_hi]; rfl)
  · first | rfl | (simp (disch := first | decide | omega) only [qup_ne, qup_j, qclr_lo, qmul_lo, qup_k, qclr_at, qmul_hi]; done) | (simp (disch := first | decide | omega) only [qup_ne, qup_j, qclr_lo, qmul_lo, qup_k, qclr_at, qmul_hi]; rfl)
theorem K_X9_init_8 {d : Nat} (hd : 1 ≤ d) (w : qW) (hz : ∀ j, w 8 j = 0) : qG none d 128 0 [(2, 8)] [] w 8 (fun (r : qV) (w1 : qW) (n1 : Nat) => r = (9, 0) ∧ qFr w w1 8 11 ∧ n1 = 11) := by
  generalize hQ9 : (fun (r : qV) (w1 : qW) (n1 : Nat) => r = (9, 0) ∧ qFr w w1 8 11 ∧ n1 = 11) = Q9
  obtain ⟨d, rfl⟩ : ∃ d9, d = d9 + 1 := ⟨d - 1, by omega⟩
  refine qG.blk 1 (pc' := 1) (ls' := [(2, 8)]) (st' := [(2, 8)]) (w' := w) (n' := 8) rfl ?_
  refine qG.oin rfl rfl (by decide) ?_
  refine qG.blk 2 (pc' := 8) (ls' := [(2, 8)]) (st' := [(0, 600), (2, 8)]) (w' := w) (n' := 8) rfl ?_
  refine qG.blk 1 (pc' := 10) (ls' := [(2, 8)]) (st' := [(2, 9), (2, 8)]) (w' := (qclr w 9)) (n' := 9) rfl ?_
  refine qG.blk 6 (pc' := 22) (ls' := [(2, 8)]) (st' := [(0, 601), (2, 8)]) (w' := (qup (qup (qclr w 9) 8 0 9) 8 1 0)) (n' := 9) rfl ?_
  refine qG.blk 1 (pc' := 24) (ls' := [(2, 8)]) (st' := [(2, 10), (2, 8)]) (w' := (qclr (qup (qup (qclr w 9) 8 0 9) 8 1 0) 10)) (n' := 10) rfl ?_
  refine qG.blk 3 (pc' := 31) (ls' := [(2, 8)]) (st' := [(0, 601), (2, 8)]) (w' := (qup (qclr (qup (qup (qclr w 9) 8 0 9) 8 1 0) 10) 8 2 10)) (n' := 10) rfl ?_
  refine qG.blk 1 (pc' := 33) (ls' := [(2, 8)]) (st' := [(2, 11), (2, 8)]) (w' := (qclr (qup (qclr (qup (qup (qclr w 9) 8 0 9) 8 1 0) 10) 8 2 10) 11)) (n' := 11) rfl ?_
  refine qG.blk 12 (pc' := 53) (ls' := [(2, 8)]) (st' := [(0, (-1)), (2, 8)]) (w' := (qup (qup (qup (qup (qclr (qup (qclr (qup (qup (qclr w 9) 8 0 9) 8 1 0) 10) 8 2 10) 11) 8 3 11) 8 4 0) 8 5 0) 8 6 0)) (n' := 11) rfl ?_
  refine qG.blk 1 (pc' := 56) (ls' := [(2, 8)]) (st' := []) (w' := (qup (qup (qup (qup (qup (qclr (qup (qclr (qup (qup (qclr w 9) 8 0 9) 8 1 0) 10) 8 2 10) 11) 8 3 11) 8 4 0) 8 5 0) 8 6 0) 8 7 (-1))) (n' := 11) rfl ?_
  refine qG.retv rfl rfl ?_
  subst hQ9
  refine ⟨rfl, fun p j => ?_, rfl⟩
  by_cases c1 : p < 8
  · rw [if_pos c1]; simp (disch := first | decide | omega) only [qup_ne, qup_j, qclr_lo, qmul_lo]
  rw [if_neg c1]
  by_cases c2 : 11 < p
  · rw [if_neg (by omega)]; simp (disch := first | decide | omega) only [qup_ne, qup_j, qclr_lo, qmul_lo, qclr_at, qmul_hi]
  rw [if_pos (by omega)]
  rcases (show p = 8 ∨ p = 9 ∨ p = 10 ∨ p = 11 by omega) with rfl | rfl | rfl | rfl
  · by_cases c3 : j < 8
    · rcases (show j = 0 ∨ j = 1 ∨ j = 2 ∨ j = 3 ∨ j = 4 ∨ j = 5 ∨ j = 6 ∨ j = 7 by omega) with rfl | rfl | rfl | rfl | rfl | rfl | rfl | rfl <;> first | rfl | exact hz _ | (simp (disch := first | decide | omega) only [qup_ne, qup_j, qclr_lo, qmul_lo, qup_k, qclr_at, qmul_hi]; done) | (simp (disch := first | decide | omega) only [qup_ne, qup_j, qclr_lo, qmul_lo, qup_k, qclr_at, qmul_hi]; rfl) | (simp (disch := first | decide | omega) only [qup_ne, qup_j, qclr_lo, qmul_lo, qup_k, qclr_at, hz]; rfl)
    · first | (simp (disch := first | decide | omega) only [qup_ne, qup_j, qclr_lo, qmul_lo, hz]; unfold qW0; simp (disch := first | decide | omega) only [qbeq_f, qble_t]; rfl) | (simp (disch := first | decide | omega) only [qup_ne, qup_j, qclr_lo, qmul_lo, qclr_at]; unfold qW0; simp (disch := first | decide | omega) only [qbeq_f, qble_t]; rfl) | (simp (disch := first | decide | omega) only [qup_ne, qup_j, qclr_lo, qmul_lo, qclr_at]; done)
  · first | rfl | (simp (disch := first | decide | omega) only [qup_ne, qup_j, qclr_lo, qmul_lo, qup_k, qclr_at, qmul_hi]; done) | (simp (disch := first | decide | omega) only [qup_ne, qup_j, qclr_lo, qmul_lo, qup_k, qclr_at, qmul_hi]; rfl)
  · first | rfl | (simp (disch := first | decide | omega) only [qup_ne, qup_j, qclr_lo, qmul_lo, qup_k, qclr_at, qmul_hi]; done) | (simp (disch := first | decide | omega) only [qup_ne, qup_j, qclr_lo, qmul_lo, qup_k, qclr_at, qmul_hi]; rfl)
  · first | rfl | (simp (disch := first | decide | omega) only [qup_ne, qup_j, qclr_lo, qmul_lo, qup_k, qclr_at, qmul_hi]; done) | (simp (disch := first | decide | omega) only [qup_ne, qup_j, qclr_lo, qmul_lo, qup_k, qclr_at, qmul_hi]; rfl)
theorem K_X6_init_24 {d : Nat} (hd : 1 ≤ d) (w : qW) (hz : ∀ j, w 24 j = 0) : qG none d 93 0 [(2, 24)] [] w 24 (fun (r : qV) (w1 : qW) (n1 : Nat) => r = (9, 0) ∧ qFr w w1 24 26 ∧ n1 = 26) := by
  generalize hQ9 : (fun (r : qV) (w1 : qW) (n1 : Nat) => r = (9, 0) ∧ qFr w w1 24 26 ∧ n1 = 26) = Q9
  obtain ⟨d, rfl⟩ : ∃ d9, d = d9 + 1 := ⟨d - 1, by omega⟩
  refine qG.blk 1 (pc' := 1) (ls' := [(2, 24)]) (st' := [(2, 24)]) (w' := w) (n' := 24) rfl ?_
  refine qG.oin rfl rfl (by decide) ?_
  refine qG.blk 12 (pc' := 24) (ls' := [(2, 24)]) (st' := []) (w' := (qup (qup (qup (qup w 24 0 0) 24 1 0) 24 2 0) 24 3 0)) (n' := 24) rfl ?_
  refine qG.blk 2 (pc' := 28) (ls' := [(2, 24)]) (st' := [(0, 180), (2, 24)]) (w' := (qup (qup (qup (qup w 24 0 0) 24 1 0) 24 2 0) 24 3 0)) (n' := 24) rfl ?_
  refine qG.blk 1 (pc' := 30) (ls' := [(2, 24)]) (st' := [(2, 25), (2, 24)]) (w' := (qclr (qup (qup (qup (qup w 24 0 0) 24 1 0) 24 2 0) 24 3 0) 25)) (n' := 25) rfl ?_
  refine qG.blk 3 (pc' := 37) (ls' := [(2, 24)]) (st' := [(0, 540), (2, 24)]) (w' := (qup (qclr (qup (qup (qup (qup w 24 0 0) 24 1 0) 24 2 0) 24 3 0) 25) 24 4 25)) (n' := 25) rfl ?_
  refine qG.blk 1 (pc' := 39) (ls' := [(2, 24)]) (st' := [(2, 26), (2, 24)]) (w' := (qclr (qup (qclr (qup (qup (qup (qup w 24 0 0) 24 1 0) 24 2 0) 24 3 0) 25) 24 4 25) 26)) (n' := 26) rfl ?_
  refine qG.blk 1 (pc' := 42) (ls' := [(2, 24)]) (st' := []) (w' := (qup (qclr (qup (qclr (qup (qup (qup (qup w 24 0 0) 24 1 0) 24 2 0) 24 3 0) 25) 24 4 25) 26) 24 5 26)) (n' := 26) rfl ?_
  refine qG.retv rfl rfl ?_
  subst hQ9
  refine ⟨rfl, fun p j => ?_, rfl⟩
  by_cases c1 : p < 24
  · rw [if_pos c1]; simp (disch := first | decide | omega) only [qup_ne, qup_j, qclr_lo, qmul_lo]
  rw [if_neg c1]
  by_cases c2 : 26 < p
  · rw [if_neg (by omega)]; simp (disch := first | decide | omega) only [qup_ne, qup_j, qclr_lo, qmul_lo, qclr_at, qmul_hi]
  rw [if_pos (by omega)]
  rcases (show p = 24 ∨ p = 25 ∨ p = 26 by omega) with rfl | rfl | rfl
  · by_cases c3 : j < 6
    · rcases (show j = 0 ∨ j = 1 ∨ j = 2 ∨ j = 3 ∨ j = 4 ∨ j = 5 by omega) with rfl | rfl | rfl | rfl | rfl | rfl <;> first | rfl | exact hz _ | (simp (disch := first | decide | omega) only [qup_ne, qup_j, qclr_lo, qmul_lo, qup_k, qclr_at, qmul_hi]; done) | (simp (disch := first | decide | omega) only [qup_ne, qup_j, qclr_lo, qmul_lo, qup_k, qclr_at, qmul_hi]; rfl) | (simp (disch := first | decide | omega) only [qup_ne, qup_j, qclr_lo, qmul_lo, qup_k, qclr_at, hz]; rfl)
    · first | (simp (disch := first | decide | omega) only [qup_ne, qup_j, qclr_lo, qmul_lo, hz]; unfold qW0; simp (disch := first | decide | omega) only [qbeq_f, qble_t]; rfl) | (simp (disch := first | decide | omega) only [qup_ne, qup_j, qclr_lo, qmul_lo, qclr_at]; unfold qW0; simp (disch := first | decide | omega) only [qbeq_f, qble_t]; rfl) | (simp (disch := first | decide | omega) only [qup_ne, qup_j, qclr_lo, qmul_lo, qclr_at]; done)
  · first | rfl | (simp (disch := first | decide | omega) only [qup_ne, qup_j, qclr_lo, qmul_lo, qup_k, qclr_at, qmul_hi]; done) | (simp (disch := first | decide | omega) only [qup_ne, qup_j, qclr_lo, qmul_lo, qup_k, qclr_at, qmul_hi]; rfl)
  · first | rfl | (simp (disch := first | decide | omega) only [qup_ne, qup_j, qclr_lo, qmul_lo, qup_k, qclr_at, qmul_hi]; done) | (simp (disch := first | decide | omega) only [qup_ne, qup_j, qclr_lo, qmul_lo, qup_k, qclr_at, qmul_hi]; rfl)
theorem K_X1_init_41 {d : Nat} (hd : 1 ≤ d) (w : qW) (hz : ∀ j, w 41 j = 0) : qG none d 8 0 [(2, 41)] [] w 41 (fun (r : qV) (w1 : qW) (n1 : Nat) => r = (9, 0) ∧ qFr w w1 41 44 ∧ n1 = 44) := by
  generalize hQ9 : (fun (r : qV) (w1 : qW) (n1 : Nat) => r = (9, 0) ∧ qFr w w1 41 44 ∧ n1 = 44) = Q9
  obtain ⟨d, rfl⟩ : ∃ d9, d = d9 + 1 := ⟨d - 1, by omega⟩
  refine qG.blk 1 (pc' := 1) (ls' := [(2, 41)]) (st' := [(2, 41)]) (w' := w) (n' := 41) rfl ?_
  refine qG.oin rfl rfl (by decide) ?_
  refine qG.blk 2 (pc' := 7) (ls' := [(2, 41)]) (st' := [(0, 64), (2, 41)]) (w' := w) (n' := 41) rfl ?_
  refine qG.blk 1 (pc' := 9) (ls' := [(2, 41)]) (st' := [(2, 42), (2, 41)]) (w' := (qclr w 42)) (n' := 42) rfl ?_
  refine qG.blk 3 (pc' := 15) (ls' := [(2, 41)]) (st' := [(0, 64), (2, 41)]) (w' := (qup (qclr w 42) 41 0 42)) (n' := 42) rfl ?_
  refine qG.blk 1 (pc' := 17) (ls' := [(2, 41)]) (st' := [(2, 43), (2, 41)]) (w' := (qclr (qup (qclr w 42) 41 0 42) 43)) (n' := 43) rfl ?_
  refine qG.blk 3 (pc' := 23) (ls' := [(2, 41)]) (st' := [(0, 64), (2, 41)]) (w' := (qup (qclr (qup (qclr w 42) 41 0 42) 43) 41 1 43)) (n' := 43) rfl ?_
  refine qG.blk 1 (pc' := 25) (ls' := [(2, 41)]) (st' := [(2, 44), (2, 41)]) (w' := (qclr (qup (qclr (qup (qclr w 42) 41 0 42) 43) 41 1 43) 44)) (n' := 44) rfl ?_
  refine qG.blk 1 (pc' := 28) (ls' := [(2, 41)]) (st' := []) (w' := (qup (qclr (qup (qclr (qup (qclr w 42) 41 0 42) 43) 41 1 43) 44) 41 2 44)) (n' := 44) rfl ?_
  refine qG.retv rfl rfl ?_
  subst hQ9
  refine ⟨rfl, fun p j => ?_, rfl⟩
  by_cases c1 : p < 41
  · rw [if_pos c1]; simp (disch := first | decide | omega) only [qup_ne, qup_j, qclr_lo, qmul_lo]
  rw [if_neg c1]
  by_cases c2 : 44 < p
  · rw [if_neg (by omega)]; simp (disch := first | decide | omega) only [qup_ne, qup_j, qclr_lo, qmul_lo, qclr_at, qmul_hi]
  rw [if_pos (by omega)]
  rcases (show p = 41 ∨ p = 42 ∨ p = 43 ∨ p = 44 by omega) with rfl | rfl | rfl | rfl
  · by_cases c3 : j < 3
    · rcases (show j = 0 ∨ j = 1 ∨ j = 2 by omega) with rfl | rfl | rfl <;> first | rfl | exact hz _ | (simp (disch := first | decide | omega) only [qup_ne, qup_j, qclr_lo, qmul_lo, qup_k, qclr_at, qmul_hi]; done) | (simp (disch := first | decide | omega) only [qup_ne, qup_j, qclr_lo, qmul_lo, qup_k, qclr_at, qmul_hi]; rfl) | (simp (disch := first | decide | omega) only [qup_ne, qup_j, qclr_lo, qmul_lo, qup_k, qclr_at, hz]; rfl)
    · first | (simp (disch := first | decide | omega) only [qup_ne, qup_j, qclr_lo, qmul_lo, hz]; unfold qW0; simp (disch := first | decide | omega) only [qbeq_f, qble_t]; rfl) | (simp (disch := first | decide | omega) only [qup_ne, qup_j, qclr_lo, qmul_lo, qclr_at]; unfold qW0; simp (disch := first | decide | omega) only [qbeq_f, qble_t]; rfl) | (simp (disch := first | decide | omega) only [qup_ne, qup_j, qclr_lo, qmul_lo, qclr_at]; done)
  · first | rfl | (simp (disch := first | decide | omega) only [qup_ne, qup_j, qclr_lo, qmul_lo, qup_k, qclr_at, qmul_hi]; done) | (simp (disch := first | decide | omega) only [qup_ne, qup_j, qclr_lo, qmul_lo, qup_k, qclr_at, qmul_hi]; rfl)
  · first | rfl | (simp (disch := first | decide | omega) only [qup_ne, qup_j, qclr_lo, qmul_lo, qup_k, qclr_at, qmul_hi]; done) | (simp (disch := first | decide | omega) only [qup_ne, qup_j, qclr_lo, qmul_lo, qup_k, qclr_at, qmul_hi]; rfl)
  · first | rfl | (simp (disch := first | decide | omega) only [qup_ne, qup_j, qclr_lo, qmul_lo, qup_k, qclr_at, qmul_hi]; done) | (simp (disch := first | decide | omega) only [qup_ne, qup_j, qclr_lo, qmul_lo, qup_k, qclr_at, qmul_hi]; rfl)
theorem K_X0_init_57 {d : Nat} (hd : 1 ≤ d) (w : qW) (hz : ∀ j, w 57 j = 0) : qG none d 0 0 [(2, 57)] [] w 57 (fun (r : qV) (w1 : qW) (n1 : Nat) => r = (9, 0) ∧ qFr w w1 57 60 ∧ n1 = 60) := by
  generalize hQ9 : (fun (r : qV) (w1 : qW) (n1 : Nat) => r = (9, 0) ∧ qFr w w1 57 60 ∧ n1 = 60) = Q9
  obtain ⟨d, rfl⟩ : ∃ d9, d = d9 + 1 := ⟨d - 1, by omega⟩
  refine qG.blk 1 (pc' := 1) (ls' := [(2, 57)]) (st' := [(2, 57)]) (w' := w) (n' := 57) rfl ?_
  refine qG.oin rfl rfl (by decide) ?_
  refine qG.blk 2 (pc' := 7) (ls' := [(2, 57)]) (st' := [(0, 60), (2, 57)]) (w' := w) (n' := 57) rfl ?_
  refine qG.blk 1 (pc' := 9) (ls' := [(2, 57)]) (st' := [(2, 58), (2, 57)]) (w' := (qclr w 58)) (n' := 58) rfl ?_
  refine qG.blk 3 (pc' := 15) (ls' := [(2, 57)]) (st' := [(0, 60), (2, 57)]) (w' := (qup (qclr w 58) 57 0 58)) (n' := 58) rfl ?_
  refine qG.blk 1 (pc' := 17) (ls' := [(2, 57)]) (st' := [(2, 59), (2, 57)]) (w' := (qclr (qup (qclr w 58) 57 0 58) 59)) (n' := 59) rfl ?_
  refine qG.blk 6 (pc' := 28) (ls' := [(2, 57)]) (st' := [(0, 40), (2, 57)]) (w' := (qup (qup (qclr (qup (qclr w 58) 57 0 58) 59) 57 1 59) 57 2 0)) (n' := 59) rfl ?_
  refine qG.blk 1 (pc' := 30) (ls' := [(2, 57)]) (st' := [(2, 60), (2, 57)]) (w' := (qclr (qup (qup (qclr (qup (qclr w 58) 57 0 58) 59) 57 1 59) 57 2 0) 60)) (n' := 60) rfl ?_
  refine qG.blk 4 (pc' := 38) (ls' := [(2, 57)]) (st' := []) (w' := (qup (qup (qclr (qup (qup (qclr (qup (qclr w 58) 57 0 58) 59) 57 1 59) 57 2 0) 60) 57 3 60) 57 4 0)) (n' := 60) rfl ?_
  refine qG.retv rfl rfl ?_
  subst hQ9
  refine ⟨rfl, fun p j => ?_, rfl⟩
  by_cases c1 : p < 57
  · rw [if_pos c1]; simp (disch := first | decide | omega) only [qup_ne, qup_j, qclr_lo, qmul_lo]
  rw [if_neg c1]
  by_cases c2 : 60 < p
  · rw [if_neg (by omega)]; simp (disch := first | decide | omega) only [qup_ne, qup_j, qclr_lo, qmul_lo, qclr_at, qmul_hi]
  rw [if_pos (by omega)]
  rcases (show p = 57 ∨ p = 58 ∨ p = 59 ∨ p = 60 by omega) with rfl | rfl | rfl | rfl
  · by_cases c3 : j < 5
    · rcases (show j = 0 ∨ j = 1 ∨ j = 2 ∨ j = 3 ∨ j = 4 by omega) with rfl | rfl | rfl | rfl | rfl <;> first | rfl | exact hz _ | (simp (disch := first | decide | omega) only [qup_ne, qup_j, qclr_lo, qmul_lo, qup_k, qclr_at, qmul_hi]; done) | (simp (disch := first | decide | omega) only [qup_ne, qup_j, qclr_lo, qmul_lo, qup_k, qclr_at, qmul_hi]; rfl) | (simp (disch := first | decide | omega) only [qup_ne, qup_j, qclr_lo, qmul_lo, qup_k, qclr_at, hz]; rfl)
    · first | (simp (disch := first | decide | omega) only [qup_ne, qup_j, qclr_lo, qmul_lo, hz]; unfold qW0; simp (disch := first | decide | omega) only [qbeq_f, qble_t]; rfl) | (simp (disch := first | decide | omega) only [qup_ne, qup_j, qclr_lo, qmul_lo, qclr_at]; unfold qW0; simp (disch := first | decide | omega) only [qbeq_f, qble_t]; rfl) | (simp (disch := first | decide | omega) only [qup_ne, qup_j, qclr_lo, qmul_lo, qclr_at]; done)
  · first | rfl | (simp (disch := first | decide | omega) only [qup_ne, qup_j, qclr_lo, qmul_lo, qup_k, qclr_at, qmul_hi]; done) | (simp (disch := first | decide | omega) only [qup_ne, qup_j, qclr_lo, qmul_lo, qup_k, qclr_at, qmul_hi]; rfl)
  · first | rfl | (simp (disch := first | decide | omega) only [qup_ne, qup_j, qclr_lo, qmul_lo, qup_k, qclr_at, qmul_hi]; done) | (simp (disch := first | decide | omega) only [qup_ne, qup_j, qclr_lo, qmul_lo, qup_k, qclr_at, qmul_hi]; rfl)
  · first | rfl | (simp (disch := first | decide | omega) only [qup_ne, qup_j, qclr_lo, qmul_lo, qup_k, qclr_at, qmul_hi]; done) | (simp (disch := first | decide | omega) only [qup_ne, qup_j, qclr_lo, qmul_lo, qup_k, qclr_at, qmul_hi]; rfl)
theorem K_X10_init_61 {d : Nat} (hd : 1 ≤ d) (w : qW) (hz : ∀ j, w 61 j = 0) : qG none d 154 0 [(2, 61)] [] w 61 (fun (r : qV) (w1 : qW) (n1 : Nat) => r = (9, 0) ∧ qFr w w1 61 63 ∧ n1 = 63) := by
  generalize hQ9 : (fun (r : qV) (w1 : qW) (n1 : Nat) => r = (9, 0) ∧ qFr w w1 61 63 ∧ n1 = 63) = Q9
  obtain ⟨d, rfl⟩ : ∃ d9, d = d9 + 1 := ⟨d - 1, by omega⟩
  refine qG.blk 1 (pc' := 1) (ls' := [(2, 61)]) (st' := [(2, 61)]) (w' := w) (n' := 61) rfl ?_
  refine qG.oin rfl rfl (by decide) ?_
  refine qG.blk 2 (pc' := 7) (ls' := [(2, 61)]) (st' := [(0, 20), (2, 61)]) (w' := w) (n' := 61) rfl ?_
  refine qG.blk 1 (pc' := 9) (ls' := [(2, 61)]) (st' := [(2, 62), (2, 61)]) (w' := (qclr w 62)) (n' := 62) rfl ?_
  refine qG.blk 3 (pc' := 15) (ls' := [(2, 61)]) (st' := [(0, 20), (2, 61)]) (w' := (qup (qclr w 62) 61 0 62)) (n' := 62) rfl ?_
  refine qG.blk 1 (pc' := 17) (ls' := [(2, 61)]) (st' := [(2, 63), (2, 61)]) (w' := (qclr (qup (qclr w 62) 61 0 62) 63)) (n' := 63) rfl ?_
  refine qG.blk 7 (pc' := 30) (ls' := [(2, 61)]) (st' := []) (w' := (qup (qup (qup (qclr (qup (qclr w 62) 61 0 62) 63) 61 1 63) 61 2 0) 61 3 0)) (n' := 63) rfl ?_
  refine qG.retv rfl rfl ?_
  subst hQ9
  refine ⟨rfl, fun p j => ?_, rfl⟩
  by_cases c1 : p < 61
  · rw [if_pos c1]; simp (disch := first | decide | omega) only [qup_ne, qup_j, qclr_lo, qmul_lo]
  rw [if_neg c1]
  by_cases c2 : 63 < p
  · rw [if_neg (by omega)]; simp (disch := first | decide | omega) only [qup_ne, qup_j, qclr_lo, qmul_lo, qclr_at, qmul_hi]
  rw [if_pos (by omega)]
  rcases (show p = 61 ∨ p = 62 ∨ p = 63 by omega) with rfl | rfl | rfl
  · by_cases c3 : j < 4
    · rcases (show j = 0 ∨ j = 1 ∨ j = 2 ∨ j = 3 by omega) with rfl | rfl | rfl | rfl <;> first | rfl | exact hz _ | (simp (disch := first | decide | omega) only [qup_ne, qup_j, qclr_lo, qmul_lo, qup_k, qclr_at, qmul_hi]; done) | (simp (disch := first | decide | omega) only [qup_ne, qup_j, qclr_lo, qmul_lo, qup_k, qclr_at, qmul_hi]; rfl) | (simp (disch := first | decide | omega) only [qup_ne, qup_j, qclr_lo, qmul_lo, qup_k, qclr_at, hz]; rfl)
    · first | (simp (disch := first | decide | omega) only [qup_ne, qup_j, qclr_lo, qmul_lo, hz]; unfold qW0; simp (disch := first | decide | omega) only [qbeq_f, qble_t]; rfl) | (simp (disch := first | decide | omega) only [qup_ne, qup_j, qclr_lo, qmul_lo, qclr_at]; unfold qW0; simp (disch := first | decide | omega) only [qbeq_f, qble_t]; rfl) | (simp (disch := first | decide | omega) only [qup_ne, qup_j, qclr_lo, qmul_lo, qclr_at]; done)
  · first | rfl | (simp (disch := first | decide | omega) only [qup_ne, qup_j, qclr_lo, qmul_lo, qup_k, qclr_at, qmul_hi]; done) | (simp (disch := first | decide | omega) only [qup_ne, qup_j, qclr_lo, qmul_lo, qup_k, qclr_at, qmul_hi]; rfl)
  · first | rfl | (simp (disch := first | decide | omega) only [qup_ne, qup_j, qclr_lo, qmul_lo, qup_k, qclr_at, qmul_hi]; done) | (simp (disch := first | decide | omega) only [qup_ne, qup_j, qclr_lo, qmul_lo, qup_k, qclr_at, qmul_hi]; rfl)
theorem K_X5_init_12 {d : Nat} (hd : 2 ≤ d) (w : qW) (hz : ∀ j, w 12 j = 0) : qG none d 74 0 [(2, 12)] [] w 12 (fun (r : qV) (w1 : qW) (n1 : Nat) => r = (9, 0) ∧ qFr w w1 12 22 ∧ n1 = 22) := by
  generalize hQ9 : (fun (r : qV) (w1 : qW) (n1 : Nat) => r = (9, 0) ∧ qFr w w1 12 22 ∧ n1 = 22) = Q9
  obtain ⟨d, rfl⟩ : ∃ d9, d = d9 + 1 := ⟨d - 1, by omega⟩
  refine qG.blk 1 (pc' := 1) (ls' := [(2, 12)]) (st' := [(2, 12)]) (w' := w) (n' := 12) rfl ?_
  refine qG.oin rfl rfl (by decide) ?_
  refine qG.blk 2 (pc' := 8) (ls' := [(2, 12)]) (st' := [(0, 601), (2, 12)]) (w' := w) (n' := 12) rfl ?_
  refine qG.blk 1 (pc' := 10) (ls' := [(2, 12)]) (st' := [(2, 13), (2, 12)]) (w' := (qclr w 13)) (n' := 13) rfl ?_
  refine qG.blk 3 (pc' := 16) (ls' := [(2, 12)]) (st' := [(0, 20), (2, 12)]) (w' := (qup (qclr w 13) 12 0 13)) (n' := 13) rfl ?_
  refine qG.blk 1 (pc' := 18) (ls' := [(2, 12)]) (st' := [(2, 14), (2, 12)]) (w' := (qclr (qup (qclr w 13) 12 0 13) 14)) (n' := 14) rfl ?_
  refine qG.blk 3 (pc' := 24) (ls' := [(2, 12)]) (st' := [(0, 20), (2, 12)]) (w' := (qup (qclr (qup (qclr w 13) 12 0 13) 14) 12 1 14)) (n' := 14) rfl ?_
  refine qG.blk 1 (pc' := 26) (ls' := [(2, 12)]) (st' := [(2, 15), (2, 12)]) (w' := (qclr (qup (qclr (qup (qclr w 13) 12 0 13) 14) 12 1 14) 15)) (n' := 15) rfl ?_
  refine qG.blk 12 (pc' := 46) (ls' := [(2, 12)]) (st' := [(0, 0), (2, 12)]) (w' := (qup (qup (qup (qup (qclr (qup (qclr (qup (qclr w 13) 12 0 13) 14) 12 1 14) 15) 12 2 15) 12 3 0) 12 4 0) 12 5 0)) (n' := 15) rfl ?_
  refine qG.blk 3 (pc' := 52) (ls' := [(2, 12)]) (st' := [(0, 13), (2, 12)]) (w' := (qup (qup (qup (qup (qup (qclr (qup (qclr (qup (qclr w 13) 12 0 13) 14) 12 1 14) 15) 12 2 15) 12 3 0) 12 4 0) 12 5 0) 12 6 0)) (n' := 15) rfl ?_
  refine qG.blk 1 (pc' := 54) (ls' := [(2, 12)]) (st' := [(2, 16), (2, 12)]) (w' := (qclr (qup (qup (qup (qup (qup (qclr (qup (qclr (qup (qclr w 13) 12 0 13) 14) 12 1 14) 15) 12 2 15) 12 3 0) 12 4 0) 12 5 0) 12 6 0) 16)) (n' := 16) rfl ?_
  refine qG.blk 2 (pc' := 58) (ls' := [(2, 12)]) (st' := [(2, 12)]) (w' := (qup (qclr (qup (qup (qup (qup (qup (qclr (qup (qclr (qup (qclr w 13) 12 0 13) 14) 12 1 14) 15) 12 2 15) 12 3 0) 12 4 0) 12 5 0) 12 6 0) 16) 12 7 16)) (n' := 16) rfl ?_
  refine qG.blk 1 (pc' := 61) (ls' := [(2, 12)]) (st' := [(2, 17), (2, 12)]) (w' := (qclr (qup (qclr (qup (qup (qup (qup (qup (qclr (qup (qclr (qup (qclr w 13) 12 0 13) 14) 12 1 14) 15) 12 2 15) 12 3 0) 12 4 0) 12 5 0) 12 6 0) 16) 12 7 16) 17)) (n' := 17) rfl ?_
  refine qG.blk 1 (pc' := 62) (ls' := [(2, 12)]) (st' := [(2, 17), (2, 17), (2, 12)]) (w' := (qclr (qup (qclr (qup (qup (qup (qup (qup (qclr (qup (qclr (qup (qclr w 13) 12 0 13) 14) 12 1 14) 15) 12 2 15) 12 3 0) 12 4 0) 12 5 0) 12 6 0) 16) 12 7 16) 17)) (n' := 17) rfl ?_
  refine qG.call (t := 119) (na := 1) (sk := 2) (md := 2) (ls1 := [(2, 17)]) (r1 := [(2, 17), (2, 12)]) rfl rfl rfl rfl rfl (K_X8_init_17 (by omega) _ (fun j => by first | rfl | simp (disch := first | decide | omega) only [qup_ne, qup_j, qclr_lo, qclr_at])) ?_
  rintro _ u17 _ ⟨rfl, hF17, rfl⟩
  show qG none (d + 1) 74 65 [(2, 12)] [(2, 17), (2, 12)] u17 18 Q9
  refine qG.blk 2 (pc' := 69) (ls' := [(2, 12)]) (st' := [(2, 12)]) (w' := (qup u17 12 8 17)) (n' := 18) rfl ?_
  refine qG.blk 1 (pc' := 72) (ls' := [(2, 12)]) (st' := [(2, 19), (2, 12)]) (w' := (qclr (qup u17 12 8 17) 19)) (n' := 19) rfl ?_
  refine qG.blk 1 (pc' := 73) (ls' := [(2, 12)]) (st' := [(2, 19), (2, 19), (2, 12)]) (w' := (qclr (qup u17 12 8 17) 19)) (n' := 19) rfl ?_
  refine qG.call (t := 119) (na := 1) (sk := 2) (md := 2) (ls1 := [(2, 19)]) (r1 := [(2, 19), (2, 12)]) rfl rfl rfl rfl rfl (K_X8_init_19 (by omega) _ (fun j => by first | rfl | simp (disch := first | decide | omega) only [qup_ne, qup_j, qclr_lo, qclr_at])) ?_
  rintro _ u19 _ ⟨rfl, hF19, rfl⟩
  show qG none (d + 1) 74 76 [(2, 12)] [(2, 19), (2, 12)] u19 20 Q9
  refine qG.blk 2 (pc' := 80) (ls' := [(2, 12)]) (st' := [(2, 12)]) (w' := (qup u19 12 9 19)) (n' := 20) rfl ?_
  refine qG.blk 1 (pc' := 83) (ls' := [(2, 12)]) (st' := [(2, 21), (2, 12)]) (w' := (qclr (qup u19 12 9 19) 21)) (n' := 21) rfl ?_
  refine qG.blk 1 (pc' := 84) (ls' := [(2, 12)]) (st' := [(2, 21), (2, 21), (2, 12)]) (w' := (qclr (qup u19 12 9 19) 21)) (n' := 21) rfl ?_
  refine qG.call (t := 119) (na := 1) (sk := 2) (md := 2) (ls1 := [(2, 21)]) (r1 := [(2, 21), (2, 12)]) rfl rfl rfl rfl rfl (K_X8_init_21 (by omega) _ (fun j => by first | rfl | simp (disch := first | decide | omega) only [qup_ne, qup_j, qclr_lo, qclr_at])) ?_
  rintro _ u21 _ ⟨rfl, hF21, rfl⟩
  show qG none (d + 1) 74 87 [(2, 12)] [(2, 21), (2, 12)] u21 22 Q9
  refine qG.blk 1 (pc' := 90) (ls' := [(2, 12)]) (st' := []) (w' := (qup u21 12 10 21)) (n' := 22) rfl ?_
  refine qG.retv rfl rfl ?_
  subst hQ9
  refine ⟨rfl, fun p j => ?_, rfl⟩
  by_cases c1 : p < 12
  · rw [if_pos c1]; simp (disch := first | decide | omega) only [qup_ne, qup_j, qclr_lo, qmul_lo, hF17.lo, hF17.mid, hF17.hi, hF19.lo, hF19.mid, hF19.hi, hF21.lo, hF21.mid, hF21.hi]
  rw [if_neg c1]
  by_cases c2 : 22 < p
  · rw [if_neg (by omega)]; simp (disch := first | decide | omega) only [qup_ne, qup_j, qclr_lo, qmul_lo, hF17.lo, hF17.mid, hF17.hi, hF19.lo, hF19.mid, hF19.hi, hF21.lo, hF21.mid, hF21.hi, qclr_at, qmul_hi]
  rw [if_pos (by omega)]
  rcases (show p = 12 ∨ p = 13 ∨ p = 14 ∨ p = 15 ∨ p = 16 ∨ p = 17 ∨ p = 18 ∨ p = 19 ∨ p = 20 ∨ p = 21 ∨ p = 22 by omega) with rfl | rfl | rfl | rfl | rfl | rfl | rfl | rfl | rfl | rfl | rfl
  · by_cases c3 : j < 11
    · rcases (show j = 0 ∨ j = 1 ∨ j = 2 ∨ j = 3 ∨ j = 4 ∨ j = 5 ∨ j = 6 ∨ j = 7 ∨ j = 8 ∨ j = 9 ∨ j = 10 by omega) with rfl | rfl | rfl | rfl | rfl | rfl | rfl | rfl | rfl | rfl | rfl <;> first | rfl | exact hz _ | (simp (disch := first | decide | omega) only [qup_ne, qup_j, qclr_lo, qmul_lo, hF17.lo, hF17.mid, hF17.hi, hF19.lo, hF19.mid, hF19.hi, hF21.lo, hF21.mid, hF21.hi, qup_k, qclr_at, qmul_hi]; done) | (simp (disch := first | decide | omega) only [qup_ne, qup_j, qclr_lo, qmul_lo, hF17.lo, hF17.mid, hF17.hi, hF19.lo, hF19.mid, hF19.hi, hF21.lo, hF21.mid, hF21.hi, qup_k, qclr_at, qmul_hi]; rfl) | (simp (disch := first | decide | omega) only [qup_ne, qup_j, qclr_lo, qmul_lo, hF17.lo, hF17.mid, hF17.hi, hF19.lo, hF19.mid, hF19.hi, hF21.lo, hF21.mid, hF21.hi, qup_k, qclr_at, hz]; rfl)
    · first | (simp (disch := first | decide | omega) only [qup_ne, qup_j, qclr_lo, qmul_lo, hF17.lo, hF17.mid, hF17.hi, hF19.lo, hF19.mid, hF19.hi, hF21.lo, hF21.mid, hF21.hi, hz]; unfold qW0; simp (disch := first | decide | omega) only [qbeq_f, qble_t]; rfl) | (simp (disch := first | decide | omega) only [qup_ne, qup_j, qclr_lo, qmul_lo, hF17.lo, hF17.mid, hF17.hi, hF19.lo, hF19.mid, hF19.hi, hF21.lo, hF21.mid, hF21.hi, qclr_at]; unfold qW0; simp (disch := first | decide | omega) only [qbeq_f, qble_t]; rfl) | (simp (disch := first | decide | omega) only [qup_ne, qup_j, qclr_lo, qmul_lo, hF17.lo, hF17.mid, hF17.hi, hF19.lo, hF19.mid, hF19.hi, hF21.lo, hF21.mid, hF21.hi, qclr_at]; done)
  · first | rfl | (simp (disch := first | decide | omega) only [qup_ne, qup_j, qclr_lo, qmul_lo, hF17.lo, hF17.mid, hF17.hi, hF19.lo, hF19.mid, hF19.hi, hF21.lo, hF21.mid, hF21.hi, qup_k, qclr_at, qmul_hi]; done) | (simp (disch := first | decide | omega) only [qup_ne, qup_j, qclr_lo, qmul_lo, hF17.lo, hF17.mid, hF17.hi, hF19.lo, hF19.mid, hF19.hi, hF21.lo, hF21.mid, hF21.hi, qup_k, qclr_at, qmul_hi]; rfl)
  · first | rfl | (simp (disch := first | decide | omega) only [qup_ne, qup_j, qclr_lo, qmul_lo, hF17.lo, hF17.mid, hF17.hi, hF19.lo, hF19.mid, hF19.hi, hF21.lo, hF21.mid, hF21.hi, qup_k, qclr_at, qmul_hi]; done) | (simp (disch := first | decide | omega) only [qup_ne, qup_j, qclr_lo, qmul_lo, hF17.lo, hF17.mid, hF17.hi, hF19.lo, hF19.mid, hF19.hi, hF21.lo, hF21.mid, hF21.hi, qup_k, qclr_at, qmul_hi]; rfl)
  · first | rfl | (simp (disch := first | decide | omega) only [qup_ne, qup_j, qclr_lo, qmul_lo, hF17.lo, hF17.mid, hF17.hi, hF19.lo, hF19.mid, hF19.hi, hF21.lo, hF21.mid, hF21.hi, qup_k, qclr_at, qmul_hi]; done) | (simp (disch := first | decide | omega) only [qup_ne, qup_j, qclr_lo, qmul_lo, hF17.lo, hF17.mid, hF17.hi, hF19.lo, hF19.mid, hF19.hi, hF21.lo, hF21.mid, hF21.hi, qup_k, qclr_at, qmul_hi]; rfl)
  · first | rfl | (simp (disch := first | decide | omega) only [qup_ne, qup_j, qclr_lo, qmul_lo, hF17.lo, hF17.mid, hF17.hi, hF19.lo, hF19.mid, hF19.hi, hF21.lo, hF21.mid, hF21.hi, qup_k, qclr_at, qmul_hi]; done) | (simp (disch := first | decide | omega) only [qup_ne, qup_j, qclr_lo, qmul_lo, hF17.lo, hF17.mid, hF17.hi, hF19.lo, hF19.mid, hF19.hi, hF21.lo, hF21.mid, hF21.hi, qup_k, qclr_at, qmul_hi]; rfl)
  · by_cases c3 : j < 2
    · rcases (show j = 0 ∨ j = 1 by omega) with rfl | rfl <;> first | rfl | exact hz _ | (simp (disch := first | decide | omega) only [qup_ne, qup_j, qclr_lo, qmul_lo, hF17.lo, hF17.mid, hF17.hi, hF19.lo, hF19.mid, hF19.hi, hF21.lo, hF21.mid, hF21.hi, qup_k, qclr_at, qmul_hi]; done) | (simp (disch := first | decide | omega) only [qup_ne, qup_j, qclr_lo, qmul_lo, hF17.lo, hF17.mid, hF17.hi, hF19.lo, hF19.mid, hF19.hi, hF21.lo, hF21.mid, hF21.hi, qup_k, qclr_at, qmul_hi]; rfl) | (simp (disch := first | decide | omega) only [qup_ne, qup_j, qclr_lo, qmul_lo, hF17.lo, hF17.mid, hF17.hi, hF19.lo, hF19.mid, hF19.hi, hF21.lo, hF21.mid, hF21.hi, qup_k, qclr_at, hz]; rfl)
    · first | (simp (disch := first | decide | omega) only [qup_ne, qup_j, qclr_lo, qmul_lo, hF17.lo, hF17.mid, hF17.hi, hF19.lo, hF19.mid, hF19.hi, hF21.lo, hF21.mid, hF21.hi, hz]; unfold qW0; simp (disch := first | decide | omega) only [qbeq_f, qble_t]; rfl) | (simp (disch := first | decide | omega) only [qup_ne, qup_j, qclr_lo, qmul_lo, hF17.lo, hF17.mid, hF17.hi, hF19.lo, hF19.mid, hF19.hi, hF21.lo, hF21.mid, hF21.hi, qclr_at]; unfold qW0; simp (disch := first | decide | omega) only [qbeq_f, qble_t]; rfl) | (simp (disch := first | decide | omega) only [qup_ne, qup_j, qclr_lo, qmul_lo, hF17.lo, hF17.mid, hF17.hi, hF19.lo, hF19.mid, hF19.hi, hF21.lo, hF21.mid, hF21.hi, qclr_at]; done)
  · first | rfl | (simp (disch := first | decide | omega) only [qup_ne, qup_j, qclr_lo, qmul_lo, hF17.lo, hF17.mid, hF17.hi, hF19.lo, hF19.mid, hF19.hi, hF21.lo, hF21.mid, hF21.hi, qup_k, qclr_at, qmul_hi]; done) | (simp (disch := first | decide | omega) only [qup_ne, qup_j, qclr_lo, qmul_lo, hF17.lo, hF17.mid, hF17.hi, hF19.lo, hF19.mid, hF19.hi, hF21.lo, hF21.mid, hF21.hi, qup_k, qclr_at, qmul_hi]; rfl)
  · by_cases c3 : j < 2
    · rcases (show j = 0 ∨ j = 1 by omega) with rfl | rfl <;> first | rfl | exact hz _ | (simp (disch := first | decide | omega) only [qup_ne, qup_j, qclr_lo, qmul_lo, hF17.lo, hF17.mid, hF17.hi, hF19.lo, hF19.mid, hF19.hi, hF21.lo, hF21.mid, hF21.hi, qup_k, qclr_at, qmul_hi]; done) | (simp (disch := first | decide | omega) only [qup_ne, qup_j, qclr_lo, qmul_lo, hF17.lo, hF17.mid, hF17.hi, hF19.lo, hF19.mid, hF19.hi, hF21.lo, hF21.mid, hF21.hi, qup_k, qclr_at, qmul_hi]; rfl) | (simp (disch := first | decide | omega) only [qup_ne, qup_j, qclr_lo, qmul_lo, hF17.lo, hF17.mid, hF17.hi, hF19.lo, hF19.mid, hF19.hi, hF21.lo, hF21.mid, hF21.hi, qup_k, qclr_at, hz]; rfl)
    · first | (simp (disch := first | decide | omega) only [qup_ne, qup_j, qclr_lo, qmul_lo, hF17.lo, hF17.mid, hF17.hi, hF19.lo, hF19.mid, hF19.hi, hF21.lo, hF21.mid, hF21.hi, hz]; unfold qW0; simp (disch := first | decide | omega) only [qbeq_f, qble_t]; rfl) | (simp (disch := first | decide | omega) only [qup_ne, qup_j, qclr_lo, qmul_lo, hF17.lo, hF17.mid, hF17.hi, hF19.lo, hF19.mid, hF19.hi, hF21.lo, hF21.mid, hF21.hi, qclr_at]; unfold qW0; simp (disch := first | decide | omega) only [qbeq_f, qble_t]; rfl) | (simp (disch := first | decide | omega) only [qup_ne, qup_j, qclr_lo, qmul_lo, hF17.lo, hF17.mid, hF17.hi, hF19.lo, hF19.mid, hF19.hi, hF21.lo, hF21.mid, hF21.hi, qclr_at]; done)
  · first | rfl | (simp (disch := first | decide | omega) only [qup_ne, qup_j, qclr_lo, qmul_lo, hF17.lo, hF17.mid, hF17.hi, hF19.lo, hF19.mid, hF19.hi, hF21.lo, hF21.mid, hF21.hi, qup_k, qclr_at, qmul_hi]; done) | (simp (disch := first | decide | omega) only [qup_ne, qup_j, qclr_lo, qmul_lo, hF17.lo, hF17.mid, hF17.hi, hF19.lo, hF19.mid, hF19.hi, hF21.lo, hF21.mid, hF21.hi, qup_k, qclr_at, qmul_hi]; rfl)
  · by_cases c3 : j < 2
    · rcases (show j = 0 ∨ j = 1 by omega) with rfl | rfl <;> first | rfl | exact hz _ | (simp (disch := first | decide | omega) only [qup_ne, qup_j, qclr_lo, qmul_lo, hF17.lo, hF17.mid, hF17.hi, hF19.lo, hF19.mid, hF19.hi, hF21.lo, hF21.mid, hF21.hi, qup_k, qclr_at, qmul_hi]; done) | (simp (disch := first | decide | omega) only [qup_ne, qup_j, qclr_lo, qmul_lo, hF17.lo, hF17.mid, hF17.hi, hF19.lo, hF19.mid, hF19.hi, hF21.lo, hF21.mid, hF21.hi, qup_k, qclr_at, qmul_hi]; rfl) | (simp (disch := first | decide | omega) only [qup_ne, qup_j, qclr_lo, qmul_lo, hF17.lo, hF17.mid, hF17.hi, hF19.lo, hF19.mid, hF19.hi, hF21.lo, hF21.mid, hF21.hi, qup_k, qclr_at, hz]; rfl)
    · first | (simp (disch := first | decide | omega) only [qup_ne, qup_j, qclr_lo, qmul_lo, hF17.lo, hF17.mid, hF17.hi, hF19.lo, hF19.mid, hF19.hi, hF21.lo, hF21.mid, hF21.hi, hz]; unfold qW0; simp (disch := first | decide | omega) only [qbeq_f, qble_t]; rfl) | (simp (disch := first | decide | omega) only [qup_ne, qup_j, qclr_lo, qmul_lo, hF17.lo, hF17.mid, hF17.hi, hF19.lo, hF19.mid, hF19.hi, hF21.lo, hF21.mid, hF21.hi, qclr_at]; unfold qW0; simp (disch := first | decide | omega) only [qbeq_f, qble_t]; rfl) | (simp (disch := first | decide | omega) only [qup_ne, qup_j, qclr_lo, qmul_lo, hF17.lo, hF17.mid, hF17.hi, hF19.lo, hF19.mid, hF19.hi, hF21.lo, hF21.mid, hF21.hi, qclr_at]; done)
  · first | rfl | (simp (disch := first | decide | omega) only [qup_ne, qup_j, qclr_lo, qmul_lo, hF17.lo, hF17.mid, hF17.hi, hF19.lo, hF19.mid, hF19.hi, hF21.lo, hF21.mid, hF21.hi, qup_k, qclr_at, qmul_hi]; done) | (simp (disch := first | decide | omega) only [qup_ne, qup_j, qclr_lo, qmul_lo, hF17.lo, hF17.mid, hF17.hi, hF19.lo, hF19.mid, hF19.hi, hF21.lo, hF21.mid, hF21.hi, qup_k, qclr_at, qmul_hi]; rfl)
theorem K_X3_init_23 {d : Nat} (hd : 2 ≤ d) (w : qW) (hz : ∀ j, w 23 j = 0) : qG none d 33 0 [(2, 23)] [] w 23 (fun (r : qV) (w1 : qW) (n1 : Nat) => r = (9, 0) ∧ qFr w w1 23 40 ∧ n1 = 40) := by
  generalize hQ9 : (fun (r : qV) (w1 : qW) (n1 : Nat) => r = (9, 0) ∧ qFr w w1 23 40 ∧ n1 = 40) = Q9
  obtain ⟨d, rfl⟩ : ∃ d9, d = d9 + 1 := ⟨d - 1, by omega⟩
  refine qG.blk 1 (pc' := 1) (ls' := [(2, 23)]) (st' := [(2, 23)]) (w' := w) (n' := 23) rfl ?_
  refine qG.oin rfl rfl (by decide) ?_
  refine qG.blk 1 (pc' := 5) (ls' := [(2, 23)]) (st' := [(2, 23)]) (w' := w) (n' := 23) rfl ?_
  refine qG.blk 1 (pc' := 8) (ls' := [(2, 23)]) (st' := [(2, 24), (2, 23)]) (w' := (qclr w 24)) (n' := 24) rfl ?_
  refine qG.blk 1 (pc' := 9) (ls' := [(2, 23)]) (st' := [(2, 24), (2, 24), (2, 23)]) (w' := (qclr w 24)) (n' := 24) rfl ?_
  refine qG.call (t := 93) (na := 1) (sk := 2) (md := 2) (ls1 := [(2, 24)]) (r1 := [(2, 24), (2, 23)]) rfl rfl rfl rfl rfl (K_X6_init_24 (by omega) _ (fun j => by first | rfl | simp (disch := first | decide | omega) only [qup_ne, qup_j, qclr_lo, qclr_at])) ?_
  rintro _ u24 _ ⟨rfl, hF24, rfl⟩
  show qG none (d + 1) 33 12 [(2, 23)] [(2, 24), (2, 23)] u24 26 Q9
  refine qG.blk 3 (pc' := 17) (ls' := [(2, 23)]) (st' := [(0, 3), (2, 23)]) (w' := (qup u24 23 0 24)) (n' := 26) rfl ?_
  refine qG.blk 1 (pc' := 19) (ls' := [(2, 23)]) (st' := [(2, 27), (2, 23)]) (w' := (qclr (qup u24 23 0 24) 27)) (n' := 27) rfl ?_
  refine qG.blk 3 (pc' := 24) (ls' := [(2, 23)]) (st' := [(0, 3), (2, 23)]) (w' := (qup (qclr (qup u24 23 0 24) 27) 23 1 27)) (n' := 27) rfl ?_
  refine qG.blk 1 (pc' := 26) (ls' := [(2, 23)]) (st' := [(2, 28), (2, 23)]) (w' := (qclr (qup (qclr (qup u24 23 0 24) 27) 23 1 27) 28)) (n' := 28) rfl ?_
  refine qG.blk 3 (pc' := 31) (ls' := [(2, 23)]) (st' := [(0, 3), (2, 23)]) (w' := (qup (qclr (qup (qclr (qup u24 23 0 24) 27) 23 1 27) 28) 23 2 28)) (n' := 28) rfl ?_
  refine qG.blk 1 (pc' := 33) (ls' := [(2, 23)]) (st' := [(2, 29), (2, 23)]) (w' := (qclr (qup (qclr (qup (qclr (qup u24 23 0 24) 27) 23 1 27) 28) 23 2 28) 29)) (n' := 29) rfl ?_
  refine qG.blk 9 (pc' := 50) (ls' := [(2, 23)]) (st' := [(0, 2400), (2, 23)]) (w' := (qup (qup (qup (qclr (qup (qclr (qup (qclr (qup u24 23 0 24) 27) 23 1 27) 28) 23 2 28) 29) 23 3 29) 23 4 (-1)) 23 5 0)) (n' := 29) rfl ?_
  refine qG.blk 1 (pc' := 52) (ls' := [(2, 23)]) (st' := [(2, 30), (2, 23)]) (w' := (qclr (qup (qup (qup (qclr (qup (qclr (qup (qclr (qup u24 23 0 24) 27) 23 1 27) 28) 23 2 28) 29) 23 3 29) 23 4 (-1)) 23 5 0) 30)) (n' := 30) rfl ?_
  refine qG.blk 9 (pc' := 68) (ls' := [(2, 23)]) (st' := [(0, 10), (2, 23)]) (w' := (qup (qup (qup (qclr (qup (qup (qup (qclr (qup (qclr (qup (qclr (qup u24 23 0 24) 27) 23 1 27) 28) 23 2 28) 29) 23 3 29) 23 4 (-1)) 23 5 0) 30) 23 6 30) 23 7 0) 23 8 0)) (n' := 30) rfl ?_
  refine qG.blk 1 (pc' := 70) (ls' := [(2, 23)]) (st' := [(2, 31), (2, 23)]) (w' := (qclr (qup (qup (qup (qclr (qup (qup (qup (qclr (qup (qclr (qup (qclr (qup u24 23 0 24) 27) 23 1 27) 28) 23 2 28) 29) 23 3 29) 23 4 (-1)) 23 5 0) 30) 23 6 30) 23 7 0) 23 8 0) 31)) (n' := 31) rfl ?_
  refine qG.blk 3 (pc' := 75) (ls' := [(2, 23)]) (st' := [(0, 4), (2, 23)]) (w' := (qup (qclr (qup (qup (qup (qclr (qup (qup (qup (qclr (qup (qclr (qup (qclr (qup u24 23 0 24) 27) 23 1 27) 28) 23 2 28) 29) 23 3 29) 23 4 (-1)) 23 5 0) 30) 23 6 30) 23 7 0) 23 8 0) 31) 23 9 31)) (n' := 31) rfl ?_
  refine qG.blk 1 (pc' := 77) (ls' := [(2, 23)]) (st' := [(2, 32), (2, 23)]) (w' := (qclr (qup (qclr (qup (qup (qup (qclr (qup (qup (qup (qclr (qup (qclr (qup (qclr (qup u24 23 0 24) 27) 23 1 27) 28) 23 2 28) 29) 23 3 29) 23 4 (-1)) 23 5 0) 30) 23 6 30) 23 7 0) 23 8 0) 31) 23 9 31) 32)) (n' := 32) rfl ?_
  refine qG.blk 4 (pc' := 83) (ls' := [(2, 23)]) (st' := [(0, 3), (0, 5), (2, 23)]) (w' := (qup (qclr (qup (qclr (qup (qup (qup (qclr (qup (qup (qup (qclr (qup (qclr (qup (qclr (qup u24 23 0 24) 27) 23 1 27) 28) 23 2 28) 29) 23 3 29) 23 4 (-1)) 23 5 0) 30) 23 6 30) 23 7 0) 23 8 0) 31) 23 9 31) 32) 23 10 32)) (n' := 32) rfl ?_
  refine qG.blk 1 (pc' := 87) (ls' := [(2, 23)]) (st' := [(2, 33), (2, 23)]) (w' := (qmul (qup (qclr (qup (qclr (qup (qup (qup (qclr (qup (qup (qup (qclr (qup (qclr (qup (qclr (qup u24 23 0 24) 27) 23 1 27) 28) 23 2 28) 29) 23 3 29) 23 4 (-1)) 23 5 0) 30) 23 6 30) 23 7 0) 23 8 0) 31) 23 9 31) 32) 23 10 32) 32 5)) (n' := 38) rfl ?_
  refine qG.blk 3 (pc' := 92) (ls' := [(2, 23)]) (st' := [(0, 4), (2, 23)]) (w' := (qup (qmul (qup (qclr (qup (qclr (qup (qup (qup (qclr (qup (qup (qup (qclr (qup (qclr (qup (qclr (qup u24 23 0 24) 27) 23 1 27) 28) 23 2 28) 29) 23 3 29) 23 4 (-1)) 23 5 0) 30) 23 6 30) 23 7 0) 23 8 0) 31) 23 9 31) 32) 23 10 32) 32 5) 23 11 33)) (n' := 38) rfl ?_
  refine qG.blk 1 (pc' := 94) (ls' := [(2, 23)]) (st' := [(2, 39), (2, 23)]) (w' := (qclr (qup (qmul (qup (qclr (qup (qclr (qup (qup (qup (qclr (qup (qup (qup (qclr (qup (qclr (qup (qclr (qup u24 23 0 24) 27) 23 1 27) 28) 23 2 28) 29) 23 3 29) 23 4 (-1)) 23 5 0) 30) 23 6 30) 23 7 0) 23 8 0) 31) 23 9 31) 32) 23 10 32) 32 5) 23 11 33) 39)) (n' := 39) rfl ?_
  refine qG.blk 9 (pc' := 111) (ls' := [(2, 23)]) (st' := [(0, 1024), (2, 23)]) (w' := (qup (qup (qup (qclr (qup (qmul (qup (qclr (qup (qclr (qup (qup (qup (qclr (qup (qup (qup (qclr (qup (qclr (qup (qclr (qup u24 23 0 24) 27) 23 1 27) 28) 23 2 28) 29) 23 3 29) 23 4 (-1)) 23 5 0) 30) 23 6 30) 23 7 0) 23 8 0) 31) 23 9 31) 32) 23 10 32) 32 5) 23 11 33) 39) 23 12 39) 23 13 (-1)) 23 14 0)) (n' := 39) rfl ?_
  refine qG.blk 1 (pc' := 113) (ls' := [(2, 23)]) (st' := [(2, 40), (2, 23)]) (w' := (qclr (qup (qup (qup (qclr (qup (qmul (qup (qclr (qup (qclr (qup (qup (qup (qclr (qup (qup (qup (qclr (qup (qclr (qup (qclr (qup u24 23 0 24) 27) 23 1 27) 28) 23 2 28) 29) 23 3 29) 23 4 (-1)) 23 5 0) 30) 23 6 30) 23 7 0) 23 8 0) 31) 23 9 31) 32) 23 10 32) 32 5) 23 11 33) 39) 23 12 39) 23 13 (-1)) 23 14 0) 40)) (n' := 40) rfl ?_
  refine qG.blk 1 (pc' := 116) (ls' := [(2, 23)]) (st' := []) (w' := (qup (qclr (qup (qup (qup (qclr (qup (qmul (qup (qclr (qup (qclr (qup (qup (qup (qclr (qup (qup (qup (qclr (qup (qclr (qup (qclr (qup u24 23 0 24) 27) 23 1 27) 28) 23 2 28) 29) 23 3 29) 23 4 (-1)) 23 5 0) 30) 23 6 30) 23 7 0) 23 8 0) 31) 23 9 31) 32) 23 10 32) 32 5) 23 11 33) 39) 23 12 39) 23 13 (-1)) 23 14 0) 40) 23 15 40)) (n' := 40) rfl ?_
  refine qG.retv rfl rfl ?_
  subst hQ9
  refine ⟨rfl, fun p j => ?_, rfl⟩
  by_cases c1 : p < 23
  · rw [if_pos c1]; simp (disch := first | decide | omega) only [qup_ne, qup_j, qclr_lo, qmul_lo, hF24.lo, hF24.mid, hF24.hi]
  rw [if_neg c1]
  by_cases c2 : 40 < p
  · rw [if_neg (by omega)]; simp (disch := first | decide | omega) only [qup_ne, qup_j, qclr_lo, qmul_lo, hF24.lo, hF24.mid, hF24.hi, qclr_at, qmul_hi]
  rw [if_pos (by omega)]
  rcases (show p = 23 ∨ p = 24 ∨ p = 25 ∨ p = 26 ∨ p = 27 ∨ p = 28 ∨ p = 29 ∨ p = 30 ∨ p = 31 ∨ p = 32 ∨ p = 33 ∨ p = 34 ∨ p = 35 ∨ p = 36 ∨ p = 37 ∨ p = 38 ∨ p = 39 ∨ p = 40 by omega) with rfl | rfl | rfl | rfl | rfl | rfl | rfl | rfl | rfl | rfl | rfl | rfl | rfl | rfl | rfl | rfl | rfl | rfl
  · by_cases c3 : j < 16
    · rcases (show j = 0 ∨ j = 1 ∨ j = 2 ∨ j = 3 ∨ j = 4 ∨ j = 5 ∨ j = 6 ∨ j = 7 ∨ j = 8 ∨ j = 9 ∨ j = 10 ∨ j = 11 ∨ j = 12 ∨ j = 13 ∨ j = 14 ∨ j = 15 by omega) with rfl | rfl | rfl | rfl | rfl | rfl | rfl | rfl | rfl | rfl | rfl | rfl | rfl | rfl | rfl | rfl <;> first | rfl | exact hz _ | (simp (disch := first | decide | omega) only [qup_ne, qup_j, qclr_lo, qmul_lo, hF24.lo, hF24.mid, hF24.hi, qup_k, qclr_at, qmul_hi]; done) | (simp (disch := first | decide | omega) only [qup_ne, qup_j, qclr_lo, qmul_lo, hF24.lo, hF24.mid, hF24.hi, qup_k, qclr_at, qmul_hi]; rfl) | (simp (disch := first | decide | omega) only [qup_ne, qup_j, qclr_lo, qmul_lo, hF24.lo, hF24.mid, hF24.hi, qup_k, qclr_at, hz]; rfl)
    · first | (simp (disch := first | decide | omega) only [qup_ne, qup_j, qclr_lo, qmul_lo, hF24.lo, hF24.mid, hF24.hi, hz]; unfold qW0; simp (disch := first | decide | omega) only [qbeq_f, qble_t]; rfl) | (simp (disch := first | decide | omega) only [qup_ne, qup_j, qclr_lo, qmul_lo, hF24.lo, hF24.mid, hF24.hi, qclr_at]; unfold qW0; simp (disch := first | decide | omega) only [qbeq_f, qble_t]; rfl) | (simp (disch := first | decide | omega) only [qup_ne, qup_j, qclr_lo, qmul_lo, hF24.lo, hF24.mid, hF24.hi, qclr_at]; done)
  · by_cases c3 : j < 6
    · rcases (show j = 0 ∨ j = 1 ∨ j = 2 ∨ j = 3 ∨ j = 4 ∨ j = 5 by omega) with rfl | rfl | rfl | rfl | rfl | rfl <;> first | rfl | exact hz _ | (simp (disch := first | decide | omega) only [qup_ne, qup_j, qclr_lo, qmul_lo, hF24.lo, hF24.mid, hF24.hi, qup_k, qclr_at, qmul_hi]; done) | (simp (disch := first | decide | omega) only [qup_ne, qup_j, qclr_lo, qmul_lo, hF24.lo, hF24.mid, hF24.hi, qup_k, qclr_at, qmul_hi]; rfl) | (simp (disch := first | decide | omega) only [qup_ne, qup_j, qclr_lo, qmul_lo, hF24.lo, hF24.mid, hF24.hi, qup_k, qclr_at, hz]; rfl)
    · first | (simp (disch := first | decide | omega) only [qup_ne, qup_j, qclr_lo, qmul_lo, hF24.lo, hF24.mid, hF24.hi, hz]; unfold qW0; simp (disch := first | decide | omega) only [qbeq_f, qble_t]; rfl) | (simp (disch := first | decide | omega) only [qup_ne, qup_j, qclr_lo, qmul_lo, hF24.lo, hF24.mid, hF24.hi, qclr_at]; unfold qW0; simp (disch := first | decide | omega) only [qbeq_f, qble_t]; rfl) | (simp (disch := first | decide | omega) only [qup_ne, qup_j, qclr_lo, qmul_lo, hF24.lo, hF24.mid, hF24.hi, qclr_at]; done)
  · first | rfl | (simp (disch := first | decide | omega) only [qup_ne, qup_j, qclr_lo, qmul_lo, hF24.lo, hF24.mid, hF24.hi, qup_k, qclr_at, qmul_hi]; done) | (simp (disch := first | decide | omega) only [qup_ne, qup_j, qclr_lo, qmul_lo, hF24.lo, hF24.mid, hF24.hi, qup_k, qclr_at, qmul_hi]; rfl)
  · first | rfl | (simp (disch := first | decide | omega) only [qup_ne, qup_j, qclr_lo, qmul_lo, hF24.lo, hF24.mid, hF24.hi, qup_k, qclr_at, qmul_hi]; done) | (simp (disch := first | decide | omega) only [qup_ne, qup_j, qclr_lo, qmul_lo, hF24.lo, hF24.mid, hF24.hi, qup_k, qclr_at, qmul_hi]; rfl)
  · first | rfl | (simp (disch := first | decide | omega) only [qup_ne, qup_j, qclr_lo, qmul_lo, hF24.lo, hF24.mid, hF24.hi, qup_k, qclr_at, qmul_hi]; done) | (simp (disch := first | decide | omega) only [qup_ne, qup_j, qclr_lo, qmul_lo, hF24.lo, hF24.mid, hF24.hi, qup_k, qclr_at, qmul_hi]; rfl)
  · first | rfl | (simp (disch := first | decide | omega) only [qup_ne, qup_j, qclr_lo, qmul_lo, hF24.lo, hF24.mid, hF24.hi, qup_k, qclr_at, qmul_hi]; done) | (simp (disch := first | decide | omega) only [qup_ne, qup_j, qclr_lo, qmul_lo, hF24.lo, hF24.mid, hF24.hi, qup_k, qclr_at, qmul_hi]; rfl)
  · first | rfl | (simp (disch := first | decide | omega) only [qup_ne, qup_j, qclr_lo, qmul_lo, hF24.lo, hF24.mid, hF24.hi, qup_k, qclr_at, qmul_hi]; done) | (simp (disch := first | decide | omega) only [qup_ne, qup_j, qclr_lo, qmul_lo, hF24.lo, hF24.mid, hF24.hi, qup_k, qclr_at, qmul_hi]; rfl)
  · first | rfl | (simp (disch := first | decide | omega) only [qup_ne, qup_j, qclr_lo, qmul_lo, hF24.lo, hF24.mid, hF24.hi, qup_k, qclr_at, qmul_hi]; done) | (simp (disch := first | decide | omega) only [qup_ne, qup_j, qclr_lo, qmul_lo, hF24.lo, hF24.mid, hF24.hi, qup_k, qclr_at, qmul_hi]; rfl)
  · first | rfl | (simp (disch := first | decide | omega) only [qup_ne, qup_j, qclr_lo, qmul_lo, hF24.lo, hF24.mid, hF24.hi, qup_k, qclr_at, qmul_hi]; done) | (simp (disch := first | decide | omega) only [qup_ne, qup_j, qclr_lo, qmul_lo, hF24.lo, hF24.mid, hF24.hi, qup_k, qclr_at, qmul_hi]; rfl)
  · first | rfl | (simp (disch := first | decide | omega) only [qup_ne, qup_j, qclr_lo, qmul_lo, hF24.lo, hF24.mid, hF24.hi, qup_k, qclr_at, qmul_hi]; done) | (simp (disch := first | decide | omega) only [qup_ne, qup_j, qclr_lo, qmul_lo, hF24.lo, hF24.mid, hF24.hi, qup_k, qclr_at, qmul_hi]; rfl)
  · by_cases c3 : j < 5
    · rcases (show j = 0 ∨ j = 1 ∨ j = 2 ∨ j = 3 ∨ j = 4 by omega) with rfl | rfl | rfl | rfl | rfl <;> first | rfl | (simp (disch := first | decide | omega) only [qup_ne, qup_j, qclr_lo, qmul_lo, hF24.lo, hF24.mid, hF24.hi, qup_k, qclr_at, qmul_hi]; done) | (simp (disch := first | decide | omega) only [qup_ne, qup_j, qclr_lo, qmul_lo, hF24.lo, hF24.mid, hF24.hi, qup_k, qclr_at, qmul_hi]; rfl)
    · simp (disch := first | decide | omega) only [qup_ne, qup_j, qclr_lo, qmul_lo, hF24.lo, hF24.mid, hF24.hi, qclr_at, qmul_hi, qmul_at]; unfold qW0; simp (disch := first | decide | omega) only [qbeq_f, qble_t]; rfl
  · first | rfl | (simp (disch := first | decide | omega) only [qup_ne, qup_j, qclr_lo, qmul_lo, hF24.lo, hF24.mid, hF24.hi, qup_k, qclr_at, qmul_hi]; done) | (simp (disch := first | decide | omega) only [qup_ne, qup_j, qclr_lo, qmul_lo, hF24.lo, hF24.mid, hF24.hi, qup_k, qclr_at, qmul_hi]; rfl)
  · first | rfl | (simp (disch := first | decide | omega) only [qup_ne, qup_j, qclr_lo, qmul_lo, hF24.lo, hF24.mid, hF24.hi, qup_k, qclr_at, qmul_hi]; done) | (simp (disch := first | decide | omega) only [qup_ne, qup_j, qclr_lo, qmul_lo, hF24.lo, hF24.mid, hF24.hi, qup_k, qclr_at, qmul_hi]; rfl)
  · first | rfl | (simp (disch := first | decide | omega) only [qup_ne, qup_j, qclr_lo, qmul_lo, hF24.lo, hF24.mid, hF24.hi, qup_k, qclr_at, qmul_hi]; done) | (simp (disch := first | decide | omega) only [qup_ne, qup_j, qclr_lo, qmul_lo, hF24.lo, hF24.mid, hF24.hi, qup_k, qclr_at, qmul_hi]; rfl)
  · first | rfl | (simp (disch := first | decide | omega) only [qup_ne, qup_j, qclr_lo, qmul_lo, hF24.lo, hF24.mid, hF24.hi, qup_k, qclr_at, qmul_hi]; done) | (simp (disch := first | decide | omega) only [qup_ne, qup_j, qclr_lo, qmul_lo, hF24.lo, hF24.mid, hF24.hi, qup_k, qclr_at, qmul_hi]; rfl)
  · first | rfl | (simp (disch := first | decide | omega) only [qup_ne, qup_j, qclr_lo, qmul_lo, hF24.lo, hF24.mid, hF24.hi, qup_k, qclr_at, qmul_hi]; done) | (simp (disch := first | decide | omega) only [qup_ne, qup_j, qclr_lo, qmul_lo, hF24.lo, hF24.mid, hF24.hi, qup_k, qclr_at, qmul_hi]; rfl)
  · first | rfl | (simp (disch := first | decide | omega) only [qup_ne, qup_j, qclr_lo, qmul_lo, hF24.lo, hF24.mid, hF24.hi, qup_k, qclr_at, qmul_hi]; done) | (simp (disch := first | decide | omega) only [qup_ne, qup_j, qclr_lo, qmul_lo, hF24.lo, hF24.mid, hF24.hi, qup_k, qclr_at, qmul_hi]; rfl)
  · first | rfl | (simp (disch := first | decide | omega) only [qup_ne, qup_j, qclr_lo, qmul_lo, hF24.lo, hF24.mid, hF24.hi, qup_k, qclr_at, qmul_hi]; done) | (simp (disch := first | decide | omega) only [qup_ne, qup_j, qclr_lo, qmul_lo, hF24.lo, hF24.mid, hF24.hi, qup_k, qclr_at, qmul_hi]; rfl)
theorem K_X12_init_95 {d : Nat} (hd : 1 ≤ d) (w : qW) (hz : ∀ j, w 95 j = 0) : qG none d 205 0 [(2, 95)] [] w 95 (fun (r : qV) (w1 : qW) (n1 : Nat) => r = (9, 0) ∧ qFr w w1 95 142 ∧ n1 = 142) := by
  generalize hQ9 : (fun (r : qV) (w1 : qW) (n1 : Nat) => r = (9, 0) ∧ qFr w w1 95 142 ∧ n1 = 142) = Q9
  obtain ⟨d, rfl⟩ : ∃ d9, d = d9 + 1 := ⟨d - 1, by omega⟩
  refine qG.blk 1 (pc' := 1) (ls' := [(2, 95)]) (st' := [(2, 95)]) (w' := w) (n' := 95) rfl ?_
  refine qG.oin rfl rfl (by decide) ?_
  refine qG.blk 2 (pc' := 6) (ls' := [(2, 95)]) (st' := [(0, 3), (2, 95)]) (w' := w) (n' := 95) rfl ?_
  refine qG.blk 1 (pc' := 8) (ls' := [(2, 95)]) (st' := [(2, 96), (2, 95)]) (w' := (qclr w 96)) (n' := 96) rfl ?_
  refine qG.blk 3 (pc' := 14) (ls' := [(2, 95)]) (st' := [(0, 30), (2, 95)]) (w' := (qup (qclr w 96) 95 0 96)) (n' := 96) rfl ?_
  refine qG.blk 1 (pc' := 16) (ls' := [(2, 95)]) (st' := [(2, 97), (2, 95)]) (w' := (qclr (qup (qclr w 96) 95 0 96) 97)) (n' := 97) rfl ?_
  refine qG.blk 3 (pc' := 22) (ls' := [(2, 95)]) (st' := [(0, 30), (2, 95)]) (w' := (qup (qclr (qup (qclr w 96) 95 0 96) 97) 95 1 97)) (n' := 97) rfl ?_
  refine qG.blk 1 (pc' := 24) (ls' := [(2, 95)]) (st' := [(2, 98), (2, 95)]) (w' := (qclr (qup (qclr (qup (qclr w 96) 95 0 96) 97) 95 1 97) 98)) (n' := 98) rfl ?_
  refine qG.blk 3 (pc' := 30) (ls' := [(2, 95)]) (st' := [(0, 48), (2, 95)]) (w' := (qup (qclr (qup (qclr (qup (qclr w 96) 95 0 96) 97) 95 1 97) 98) 95 2 98)) (n' := 98) rfl ?_
  refine qG.blk 1 (pc' := 32) (ls' := [(2, 95)]) (st' := [(2, 99), (2, 95)]) (w' := (qclr (qup (qclr (qup (qclr (qup (qclr w 96) 95 0 96) 97) 95 1 97) 98) 95 2 98) 99)) (n' := 99) rfl ?_
  refine qG.blk 3 (pc' := 38) (ls' := [(2, 95)]) (st' := [(0, 30), (2, 95)]) (w' := (qup (qclr (qup (qclr (qup (qclr (qup (qclr w 96) 95 0 96) 97) 95 1 97) 98) 95 2 98) 99) 95 3 99)) (n' := 99) rfl ?_
  refine qG.blk 1 (pc' := 40) (ls' := [(2, 95)]) (st' := [(2, 100), (2, 95)]) (w' := (qclr (qup (qclr (qup (qclr (qup (qclr (qup (qclr w 96) 95 0 96) 97) 95 1 97) 98) 95 2 98) 99) 95 3 99) 100)) (n' := 100) rfl ?_
  refine qG.blk 3 (pc' := 47) (ls' := [(2, 95)]) (st' := [(0, 1820), (2, 95)]) (w' := (qup (qclr (qup (qclr (qup (qclr (qup (qclr (qup (qclr w 96) 95 0 96) 97) 95 1 97) 98) 95 2 98) 99) 95 3 99) 100) 95 4 100)) (n' := 100) rfl ?_
  refine qG.blk 1 (pc' := 49) (ls' := [(2, 95)]) (st' := [(2, 101), (2, 95)]) (w' := (qclr (qup (qclr (qup (qclr (qup (qclr (qup (qclr (qup (qclr w 96) 95 0 96) 97) 95 1 97) 98) 95 2 98) 99) 95 3 99) 100) 95 4 100) 101)) (n' := 101) rfl ?_
  refine qG.blk 3 (pc' := 56) (ls' := [(2, 95)]) (st' := [(0, 1820), (2, 95)]) (w' := (qup (qclr (qup (qclr (qup (qclr (qup (qclr (qup (qclr (qup (qclr w 96) 95 0 96) 97) 95 1 97) 98) 95 2 98) 99) 95 3 99) 100) 95 4 100) 101) 95 5 101)) (n' := 101) rfl ?_
  refine qG.blk 1 (pc' := 58) (ls' := [(2, 95)]) (st' := [(2, 102), (2, 95)]) (w' := (qclr (qup (qclr (qup (qclr (qup (qclr (qup (qclr (qup (qclr (qup (qclr w 96) 95 0 96) 97) 95 1 97) 98) 95 2 98) 99) 95 3 99) 100) 95 4 100) 101) 95 5 101) 102)) (n' := 102) rfl ?_
  refine qG.blk 3 (pc' := 64) (ls' := [(2, 95)]) (st' := [(0, 91000), (2, 95)]) (w' := (qup (qclr (qup (qclr (qup (qclr (qup (qclr (qup (qclr (qup (qclr (qup (qclr w 96) 95 0 96) 97) 95 1 97) 98) 95 2 98) 99) 95 3 99) 100) 95 4 100) 101) 95 5 101) 102) 95 6 102)) (n' := 102) rfl ?_
  refine qG.blk 1 (pc' := 66) (ls' := [(2, 95)]) (st' := [(2, 103), (2, 95)]) (w' := (qclr (qup (qclr (qup (qclr (qup (qclr (qup (qclr (qup (qclr (qup (qclr (qup (qclr w 96) 95 0 96) 97) 95 1 97) 98) 95 2 98) 99) 95 3 99) 100) 95 4 100) 101) 95 5 101) 102) 95 6 102) 103)) (n' := 103) rfl ?_
  refine qG.blk 6 (pc' := 78) (ls' := [(2, 95)]) (st' := [(0, 160), (2, 95)]) (w' := (qup (qup (qclr (qup (qclr (qup (qclr (qup (qclr (qup (qclr (qup (qclr (qup (qclr (qup (qclr w 96) 95 0 96) 97) 95 1 97) 98) 95 2 98) 99) 95 3 99) 100) 95 4 100) 101) 95 5 101) 102) 95 6 102) 103) 95 7 103) 95 9 (-1))) (n' := 103) rfl ?_
  refine qG.blk 1 (pc' := 80) (ls' := [(2, 95)]) (st' := [(2, 104), (2, 95)]) (w' := (qclr (qup (qup (qclr (qup (qclr (qup (qclr (qup (qclr (qup (qclr (qup (qclr (qup (qclr (qup (qclr w 96) 95 0 96) 97) 95 1 97) 98) 95 2 98) 99) 95 3 99) 100) 95 4 100) 101) 95 5 101) 102) 95 6 102) 103) 95 7 103) 95 9 (-1)) 104)) (n' := 104) rfl ?_
  refine qG.blk 3 (pc' := 87) (ls' := [(2, 95)]) (st' := [(0, 160), (2, 95)]) (w' := (qup (qclr (qup (qup (qclr (qup (qclr (qup (qclr (qup (qclr (qup (qclr (qup (qclr (qup (qclr (qup (qclr w 96) 95 0 96) 97) 95 1 97) 98) 95 2 98) 99) 95 3 99) 100) 95 4 100) 101) 95 5 101) 102) 95 6 102) 103) 95 7 103) 95 9 (-1)) 104) 95 10 104)) (n' := 104) rfl ?_
  refine qG.blk 1 (pc' := 89) (ls' := [(2, 95)]) (st' := [(2, 105), (2, 95)]) (w' := (qclr (qup (qclr (qup (qup (qclr (qup (qclr (qup (qclr (qup (qclr (qup (qclr (qup (qclr (qup (qclr (qup (qclr w 96) 95 0 96) 97) 95 1 97) 98) 95 2 98) 99) 95 3 99) 100) 95 4 100) 101) 95 5 101) 102) 95 6 102) 103) 95 7 103) 95 9 (-1)) 104) 95 10 104) 105)) (n' := 105) rfl ?_
  refine qG.blk 3 (pc' := 94) (ls' := [(2, 95)]) (st' := [(0, 4), (2, 95)]) (w' := (qup (qclr (qup (qclr (qup (qup (qclr (qup (qclr (qup (qclr (qup (qclr (qup (qclr (qup (qclr (qup (qclr (qup (qclr w 96) 95 0 96) 97) 95 1 97) 98) 95 2 98) 99) 95 3 99) 100) 95 4 100) 101) 95 5 101) 102) 95 6 102) 103) 95 7 103) 95 9 (-1)) 104) 95 10 104) 105) 95 11 105)) (n' := 105) rfl ?_
  refine qG.blk 1 (pc' := 96) (ls' := [(2, 95)]) (st' := [(2, 106), (2, 95)]) (w' := (qclr (qup (qclr (qup (qclr (qup (qup (qclr (qup (qclr (qup (qclr (qup (qclr (qup (qclr (qup (qclr (qup (qclr (qup (qclr w 96) 95 0 96) 97) 95 1 97) 98) 95 2 98) 99) 95 3 99) 100) 95 4 100) 101) 95 5 101) 102) 95 6 102) 103) 95 7 103) 95 9 (-1)) 104) 95 10 104) 105) 95 11 105) 106)) (n' := 106) rfl ?_
  refine qG.blk 3 (pc' := 102) (ls' := [(2, 95)]) (st' := [(0, 40), (2, 95)]) (w' := (qup (qclr (qup (qclr (qup (qclr (qup (qup (qclr (qup (qclr (qup (qclr (qup (qclr (qup (qclr (qup (qclr (qup (qclr (qup (qclr w 96) 95 0 96) 97) 95 1 97) 98) 95 2 98) 99) 95 3 99) 100) 95 4 100) 101) 95 5 101) 102) 95 6 102) 103) 95 7 103) 95 9 (-1)) 104) 95 10 104) 105) 95 11 105) 106) 95 12 106)) (n' := 106) rfl ?_
  refine qG.blk 1 (pc' := 104) (ls' := [(2, 95)]) (st' := [(2, 107), (2, 95)]) (w' := (qclr (qup (qclr (qup (qclr (qup (qclr (qup (qup (qclr (qup (qclr (qup (qclr (qup (qclr (qup (qclr (qup (qclr (qup (qclr (qup (qclr w 96) 95 0 96) 97) 95 1 97) 98) 95 2 98) 99) 95 3 99) 100) 95 4 100) 101) 95 5 101) 102) 95 6 102) 103) 95 7 103) 95 9 (-1)) 104) 95 10 104) 105) 95 11 105) 106) 95 12 106) 107)) (n' := 107) rfl ?_
  refine qG.blk 3 (pc' := 110) (ls' := [(2, 95)]) (st' := [(0, 40), (2, 95)]) (w' := (qup (qclr (qup (qclr (qup (qclr (qup (qclr (qup (qup (qclr (qup (qclr (qup (qclr (qup (qclr (qup (qclr (qup (qclr (qup (qclr (qup (qclr w 96) 95 0 96) 97) 95 1 97) 98) 95 2 98) 99) 95 3 99) 100) 95 4 100) 101) 95 5 101) 102) 95 6 102) 103) 95 7 103) 95 9 (-1)) 104) 95 10 104) 105) 95 11 105) 106) 95 12 106) 107) 95 13 107)) (n' := 107) rfl ?_
  refine qG.blk 1 (pc' := 112) (ls' := [(2, 95)]) (st' := [(2, 108), (2, 95)]) (w' := (qclr (qup (qclr (qup (qclr (qup (qclr (qup (qclr (qup (qup (qclr (qup (qclr (qup (qclr (qup (qclr (qup (qclr (qup (qclr (qup (qclr (qup (qclr w 96) 95 0 96) 97) 95 1 97) 98) 95 2 98) 99) 95 3 99) 100) 95 4 100) 101) 95 5 101) 102) 95 6 102) 103) 95 7 103) 95 9 (-1)) 104) 95 10 104) 105) 95 11 105) 106) 95 12 106) 107) 95 13 107) 108)) (n' := 108) rfl ?_
  refine qG.blk 3 (pc' := 118) (ls' := [(2, 95)]) (st' := [(0, 21), (2, 95)]) (w' := (qup (qclr (qup (qclr (qup (qclr (qup (qclr (qup (qclr (qup (qup (qclr (qup (qclr (qup (qclr (qup (qclr (qup (qclr (qup (qclr (qup (qclr (qup (qclr w 96) 95 0 96) 97) 95 1 97) 98) 95 2 98) 99) 95 3 99) 100) 95 4 100) 101) 95 5 101) 102) 95 6 102) 103) 95 7 103) 95 9 (-1)) 104) 95 10 104) 105) 95 11 105) 106) 95 12 106) 107) 95 13 107) 108) 95 14 108)) (n' := 108) rfl ?_
  refine qG.blk 1 (pc' := 120) (ls' := [(2, 95)]) (st' := [(2, 109), (2, 95)]) (w' := (qclr (qup (qclr (qup (qclr (qup (qclr (qup (qclr (qup (qclr (qup (qup (qclr (qup (qclr (qup (qclr (qup (qclr (qup (qclr (qup (qclr (qup (qclr (qup (qclr w 96) 95 0 96) 97) 95 1 97) 98) 95 2 98) 99) 95 3 99) 100) 95 4 100) 101) 95 5 101) 102) 95 6 102) 103) 95 7 103) 95 9 (-1)) 104) 95 10 104) 105) 95 11 105) 106) 95 12 106) 107) 95 13 107) 108) 95 14 108) 109)) (n' := 109) rfl ?_
  refine qG.blk 3 (pc' := 126) (ls' := [(2, 95)]) (st' := [(0, 20), (2, 95)]) (w' := (qup (qclr (qup (qclr (qup (qclr (qup (qclr (qup (qclr (qup (qclr (qup (qup (qclr (qup (qclr (qup (qclr (qup (qclr (qup (qclr (qup (qclr (qup (qclr (qup (qclr w 96) 95 0 96) 97) 95 1 97) 98) 95 2 98) 99) 95 3 99) 100) 95 4 100) 101) 95 5 101) 102) 95 6 102) 103) 95 7 103) 95 9 (-1)) 104) 95 10 104) 105) 95 11 105) 106) 95 12 106) 107) 95 13 107) 108) 95 14 108) 109) 95 15 109)) (n' := 109) rfl ?_
  refine qG.blk 1 (pc' := 128) (ls' := [(2, 95)]) (st' := [(2, 110), (2, 95)]) (w' := (qclr (qup (qclr (qup (qclr (qup (qclr (qup (qclr (qup (qclr (qup (qclr (qup (qup (qclr (qup (qclr (qup (qclr (qup (qclr (qup (qclr (qup (qclr (qup (qclr (qup (qclr w 96) 95 0 96) 97) 95 1 97) 98) 95 2 98) 99) 95 3 99) 100) 95 4 100) 101) 95 5 101) 102) 95 6 102) 103) 95 7 103) 95 9 (-1)) 104) 95 10 104) 105) 95 11 105) 106) 95 12 106) 107) 95 13 107) 108) 95 14 108) 109) 95 15 109) 110)) (n' := 110) rfl ?_
  refine qG.blk 3 (pc' := 134) (ls' := [(2, 95)]) (st' := [(0, 21), (2, 95)]) (w' := (qup (qclr (qup (qclr (qup (qclr (qup (qclr (qup (qclr (qup (qclr (qup (qclr (qup (qup (qclr (qup (qclr (qup (qclr (qup (qclr (qup (qclr (qup (qclr (qup (qclr (qup (qclr w 96) 95 0 96) 97) 95 1 97) 98) 95 2 98) 99) 95 3 99) 100) 95 4 100) 101) 95 5 101) 102) 95 6 102) 103) 95 7 103) 95 9 (-1)) 104) 95 10 104) 105) 95 11 105) 106) 95 12 106) 107) 95 13 107) 108) 95 14 108) 109) 95 15 109) 110) 95 16 110)) (n' := 110) rfl ?_
  refine qG.blk 1 (pc' := 136) (ls' := [(2, 95)]) (st' := [(2, 111), (2, 95)]) (w' := (qclr (qup (qclr (qup (qclr (qup (qclr (qup (qclr (qup (qclr (qup (qclr (qup (qclr (qup (qup (qclr (qup (qclr (qup (qclr (qup (qclr (qup (qclr (qup (qclr (qup (qclr (qup (qclr w 96) 95 0 96) 97) 95 1 97) 98) 95 2 98) 99) 95 3 99) 100) 95 4 100) 101) 95 5 101) 102) 95 6 102) 103) 95 7 103) 95 9 (-1)) 104) 95 10 104) 105) 95 11 105) 106) 95 12 106) 107) 95 13 107) 108) 95 14 108) 109) 95 15 109) 110) 95 16 110) 111)) (n' := 111) rfl ?_
  refine qG.blk 3 (pc' := 143) (ls' := [(2, 95)]) (st' := [(0, 1220), (2, 95)]) (w' := (qup (qclr (qup (qclr (qup (qclr (qup (qclr (qup (qclr (qup (qclr (qup (qclr (qup (qclr (qup (qup (qclr (qup (qclr (qup (qclr (qup (qclr (qup (qclr (qup (qclr (qup (qclr (qup (qclr w 96) 95 0 96) 97) 95 1 97) 98) 95 2 98) 99) 95 3 99) 100) 95 4 100) 101) 95 5 101) 102) 95 6 102) 103) 95 7 103) 95 9 (-1)) 104) 95 10 104) 105) 95 11 105) 106) 95 12 106) 107) 95 13 107) 108) 95 14 108) 109) 95 15 109) 110) 95 16 110) 111) 95 17 111)) (n' := 111) rfl ?_
  refine qG.blk 1 (pc' := 145) (ls' := [(2, 95)]) (st' := [(2, 112), (2, 95)]) (w' := (qclr (qup (qclr (qup (qclr (qup (qclr (qup (qclr (qup (qclr (qup (qclr (qup (qclr (qup (qclr (qup (qup (qclr (qup (qclr (qup (qclr (qup (qclr (qup (qclr (qup (qclr (qup (qclr (qup (qclr w 96) 95 0 96) 97) 95 1 97) 98) 95 2 98) 99) 95 3 99) 100) 95 4 100) 101) 95 5 101) 102) 95 6 102) 103) 95 7 103) 95 9 (-1)) 104) 95 10 104) 105) 95 11 105) 106) 95 12 106) 107) 95 13 107) 108) 95 14 108) 109) 95 15 109) 110) 95 16 110) 111) 95 17 111) 112)) (n' := 112) rfl ?_
  refine qG.blk 3 (pc' := 152) (ls' := [(2, 95)]) (st' := [(0, 1220), (2, 95)]) (w' := (qup (qclr (qup (qclr (qup (qclr (qup (qclr (qup (qclr (qup (qclr (qup (qclr (qup (qclr (qup (qclr (qup (qup (qclr (qup (qclr (qup (qclr (qup (qclr (qup (qclr (qup (qclr (qup (qclr (qup (qclr w 96) 95 0 96) 97) 95 1 97) 98) 95 2 98) 99) 95 3 99) 100) 95 4 100) 101) 95 5 101) 102) 95 6 102) 103) 95 7 103) 95 9 (-1)) 104) 95 10 104) 105) 95 11 105) 106) 95 12 106) 107) 95 13 107) 108) 95 14 108) 109) 95 15 109) 110) 95 16 110) 111) 95 17 111) 112) 95 18 112)) (n' := 112) rfl ?_
  refine qG.blk 1 (pc' := 154) (ls' := [(2, 95)]) (st' := [(2, 113), (2, 95)]) (w' := (qclr (qup (qclr (qup (qclr (qup (qclr (qup (qclr (qup (qclr (qup (qclr (qup (qclr (qup (qclr (qup (qclr (qup (qup (qclr (qup (qclr (qup (qclr (qup (qclr (qup (qclr (qup (qclr (qup (qclr (qup (qclr w 96) 95 0 96) 97) 95 1 97) 98) 95 2 98) 99) 95 3 99) 100) 95 4 100) 101) 95 5 101) 102) 95 6 102) 103) 95 7 103) 95 9 (-1)) 104) 95 10 104) 105) 95 11 105) 106) 95 12 106) 107) 95 13 107) 108) 95 14 108) 109) 95 15 109) 110) 95 16 110) 111) 95 17 111) 112) 95 18 112) 113)) (n' := 113) rfl ?_
  refine qG.blk 3 (pc' := 161) (ls' := [(2, 95)]) (st' := [(0, 600), (2, 95)]) (w' := (qup (qclr (qup (qclr (qup (qclr (qup (qclr (qup (qclr (qup (qclr (qup (qclr (qup (qclr (qup (qclr (qup (qclr (qup (qup (qclr (qup (qclr (qup (qclr (qup (qclr (qup (qclr (qup (qclr (qup (qclr (qup (qclr w 96) 95 0 96) 97) 95 1 97) 98) 95 2 98) 99) 95 3 99) 100) 95 4 100) 101) 95 5 101) 102) 95 6 102) 103) 95 7 103) 95 9 (-1)) 104) 95 10 104) 105) 95 11 105) 106) 95 12 106) 107) 95 13 107) 108) 95 14 108) 109) 95 15 109) 110) 95 16 110) 111) 95 17 111) 112) 95 18 112) 113) 95 19 113)) (n' := 113) rfl ?_
  refine qG.blk 1 (pc' := 163) (ls' := [(2, 95)]) (st' := [(2, 114), (2, 95)]) (w' := (qclr (qup (qclr (qup (qclr (qup (qclr (qup (qclr (qup (qclr (qup (qclr (qup (qclr (qup (qclr (qup (qclr (qup (qclr (qup (qup (qclr (qup (qclr (qup (qclr (qup (qclr (qup (qclr (qup (qclr (qup (qclr (qup (qclr w 96) 95 0 96) 97) 95 1 97) 98) 95 2 98) 99) 95 3 99) 100) 95 4 100) 101) 95 5 101) 102) 95 6 102) 103) 95 7 103) 95 9 (-1)) 104) 95 10 104) 105) 95 11 105) 106) 95 12 106) 107) 95 13 107) 108) 95 14 108) 109) 95 15 109) 110) 95 16 110) 111) 95 17 111) 112) 95 18 112) 113) 95 19 113) 114)) (n' := 114) rfl ?_
  refine qG.blk 3 (pc' := 170) (ls' := [(2, 95)]) (st' := [(0, 620), (2, 95)]) (w' := (qup (qclr (qup (qclr (qup (qclr (qup (qclr (qup (qclr (qup (qclr (qup (qclr (qup (qclr (qup (qclr (qup (qclr (qup (qclr (qup (qup (qclr (qup (qclr (qup (qclr (qup (qclr (qup (qclr (qup (qclr (qup (qclr (qup (qclr w 96) 95 0 96) 97) 95 1 97) 98) 95 2 98) 99) 95 3 99) 100) 95 4 100) 101) 95 5 101) 102) 95 6 102) 103) 95 7 103) 95 9 (-1)) 104) 95 10 104) 105) 95 11 105) 106) 95 12 106) 107) 95 13 107) 108) 95 14 108) 109) 95 15 109) 110) 95 16 110) 111) 95 17 111) 112) 95 18 112) 113) 95 19 113) 114) 95 20 114)) (n' := 114) rfl ?_
  refine qG.blk 1 (pc' := 172) (ls' := [(2, 95)]) (st' := [(2, 115), (2, 95)]) (w' := (qclr (qup (qclr (qup (qclr (qup (qclr (qup (qclr (qup (qclr (qup (qclr (qup (qclr (qup (qclr (qup (qclr (qup (qclr (qup (qclr (qup (qup (qclr (qup (qclr (qup (qclr (qup (qclr (qup (qclr (qup (qclr (qup (qclr (qup (qclr w 96) 95 0 96) 97) 95 1 97) 98) 95 2 98) 99) 95 3 99) 100) 95 4 100) 101) 95 5 101) 102) 95 6 102) 103) 95 7 103) 95 9 (-1)) 104) 95 10 104) 105) 95 11 105) 106) 95 12 106) 107) 95 13 107) 108) 95 14 108) 109) 95 15 109) 110) 95 16 110) 111) 95 17 111) 112) 95 18 112) 113) 95 19 113) 114) 95 20 114) 115)) (n' := 115) rfl ?_
  refine qG.blk 6 (pc' := 184) (ls' := [(2, 95)]) (st' := [(0, 900), (2, 95)]) (w' := (qup (qup (qclr (qup (qclr (qup (qclr (qup (qclr (qup (qclr (qup (qclr (qup (qclr (qup (qclr (qup (qclr (qup (qclr (qup (qclr (qup (qclr (qup (qup (qclr (qup (qclr (qup (qclr (qup (qclr (qup (qclr (qup (qclr (qup (qclr (qup (qclr w 96) 95 0 96) 97) 95 1 97) 98) 95 2 98) 99) 95 3 99) 100) 95 4 100) 101) 95 5 101) 102) 95 6 102) 103) 95 7 103) 95 9 (-1)) 104) 95 10 104) 105) 95 11 105) 106) 95 12 106) 107) 95 13 107) 108) 95 14 108) 109) 95 15 109) 110) 95 16 110) 111) 95 17 111) 112) 95 18 112) 113) 95 19 113) 114) 95 20 114) 115) 95 21 115) 95 34 (-1))) (n' := 115) rfl ?_
  refine qG.blk 1 (pc' := 186) (ls' := [(2, 95)]) (st' := [(2, 116), (2, 95)]) (w' := (qclr (qup (qup (qclr (qup (qclr (qup (qclr (qup (qclr (qup (qclr (qup (qclr (qup (qclr (qup (qclr (qup (qclr (qup (qclr (qup (qclr (qup (qclr (qup (qup (qclr (qup (qclr (qup (qclr (qup (qclr (qup (qclr (qup (qclr (qup (qclr (qup (qclr w 96) 95 0 96) 97) 95 1 97) 98) 95 2 98) 99) 95 3 99) 100) 95 4 100) 101) 95 5 101) 102) 95 6 102) 103) 95 7 103) 95 9 (-1)) 104) 95 10 104) 105) 95 11 105) 106) 95 12 106) 107) 95 13 107) 108) 95 14 108) 109) 95 15 109) 110) 95 16 110) 111) 95 17 111) 112) 95 18 112) 113) 95 19 113) 114) 95 20 114) 115) 95 21 115) 95 34 (-1)) 116)) (n' := 116) rfl ?_
  refine qG.blk 3 (pc' := 193) (ls' := [(2, 95)]) (st' := [(0, 1820), (2, 95)]) (w' := (qup (qclr (qup (qup (qclr (qup (qclr (qup (qclr (qup (qclr (qup (qclr (qup (qclr (qup (qclr (qup (qclr (qup (qclr (qup (qclr (qup (qclr (qup (qclr (qup (qup (qclr (qup (qclr (qup (qclr (qup (qclr (qup (qclr (qup (qclr (qup (qclr (qup (qclr w 96) 95 0 96) 97) 95 1 97) 98) 95 2 98) 99) 95 3 99) 100) 95 4 100) 101) 95 5 101) 102) 95 6 102) 103) 95 7 103) 95 9 (-1)) 104) 95 10 104) 105) 95 11 105) 106) 95 12 106) 107) 95 13 107) 108) 95 14 108) 109) 95 15 109) 110) 95 16 110) 111) 95 17 111) 112) 95 18 112) 113) 95 19 113) 114) 95 20 114) 115) 95 21 115) 95 34 (-1)) 116) 95 36 116)) (n' := 116) rfl ?_
  refine qG.blk 1 (pc' := 195) (ls' := [(2, 95)]) (st' := [(2, 117), (2, 95)]) (w' := (qclr (qup (qclr (qup (qup (qclr (qup (qclr (qup (qclr (qup (qclr (qup (qclr (qup (qclr (qup (qclr (qup (qclr (qup (qclr (qup (qclr (qup (qclr (qup (qclr (qup (qup (qclr (qup (qclr (qup (qclr (qup (qclr (qup (qclr (qup (qclr (qup (qclr (qup (qclr w 96) 95 0 96) 97) 95 1 97) 98) 95 2 98) 99) 95 3 99) 100) 95 4 100) 101) 95 5 101) 102) 95 6 102) 103) 95 7 103) 95 9 (-1)) 104) 95 10 104) 105) 95 11 105) 106) 95 12 106) 107) 95 13 107) 108) 95 14 108) 109) 95 15 109) 110) 95 16 110) 111) 95 17 111) 112) 95 18 112) 113) 95 19 113) 114) 95 20 114) 115) 95 21 115) 95 34 (-1)) 116) 95 36 116) 117)) (n' := 117) rfl ?_
  refine qG.blk 3 (pc' := 202) (ls' := [(2, 95)]) (st' := [(0, 1820), (2, 95)]) (w' := (qup (qclr (qup (qclr (qup (qup (qclr (qup (qclr (qup (qclr (qup (qclr (qup (qclr (qup (qclr (qup (qclr (qup (qclr (qup (qclr (qup (qclr (qup (qclr (qup (qclr (qup (qup (qclr (qup (qclr (qup (qclr (qup (qclr (qup (qclr (qup (qclr (qup (qclr (qup (qclr w 96) 95 0 96) 97) 95 1 97) 98) 95 2 98) 99) 95 3 99) 100) 95 4 100) 101) 95 5 101) 102) 95 6 102) 103) 95 7 103) 95 9 (-1)) 104) 95 10 104) 105) 95 11 105) 106) 95 12 106) 107) 95 13 107) 108) 95 14 108) 109) 95 15 109) 110) 95 16 110) 111) 95 17 111) 112) 95 18 112) 113) 95 19 113) 114) 95 20 114) 115) 95 21 115) 95 34 (-1)) 116) 95 36 116) 117) 95 44 117)) (n' := 117) rfl ?_
  refine qG.blk 1 (pc' := 204) (ls' := [(2, 95)]) (st' := [(2, 118), (2, 95)]) (w' := (qclr (qup (qclr (qup (qclr (qup (qup (qclr (qup (qclr (qup (qclr (qup (qclr (qup (qclr (qup (qclr (qup (qclr (qup (qclr (qup (qclr (qup (qclr (qup (qclr (qup (qclr (qup (qup (qclr (qup (qclr (qup (qclr (qup (qclr (qup (qclr (qup (qclr (qup (qclr (qup (qclr w 96) 95 0 96) 97) 95 1 97) 98) 95 2 98) 99) 95 3 99) 100) 95 4 100) 101) 95 5 101) 102) 95 6 102) 103) 95 7 103) 95 9 (-1)) 104) 95 10 104) 105) 95 11 105) 106) 95 12 106) 107) 95 13 107) 108) 95 14 108) 109) 95 15 109) 110) 95 16 110) 111) 95 17 111) 112) 95 18 112) 113) 95 19 113) 114) 95 20 114) 115) 95 21 115) 95 34 (-1)) 116) 95 36 116) 117) 95 44 117) 118)) (n' := 118) rfl ?_
  refine qG.blk 3 (pc' := 210) (ls' := [(2, 95)]) (st' := [(0, 51300), (2, 95)]) (w' := (qup (qclr (qup (qclr (qup (qclr (qup (qup (qclr (qup (qclr (qup (qclr (qup (qclr (qup (qclr (qup (qclr (qup (qclr (qup (qclr (qup (qclr (qup (qclr (qup (qclr (qup (qclr (qup (qup (qclr (qup (qclr (qup (qclr (qup (qclr (qup (qclr (qup (qclr (qup (qclr (qup (qclr w 96) 95 0 96) 97) 95 1 97) 98) 95 2 98) 99) 95 3 99) 100) 95 4 100) 101) 95 5 101) 102) 95 6 102) 103) 95 7 103) 95 9 (-1)) 104) 95 10 104) 105) 95 11 105) 106) 95 12 106) 107) 95 13 107) 108) 95 14 108) 109) 95 15 109) 110) 95 16 110) 111) 95 17 111) 112) 95 18 112) 113) 95 19 113) 114) 95 20 114) 115) 95 21 115) 95 34 (-1)) 116) 95 36 116) 117) 95 44 117) 118) 95 45 118)) (n' := 118) rfl ?_
  refine qG.blk 1 (pc' := 212) (ls' := [(2, 95)]) (st' := [(2, 119), (2, 95)]) (w' := (qclr (qup (qclr (qup (qclr (qup (qclr (qup (qup (qclr (qup (qclr (qup (qclr (qup (qclr (qup (qclr (qup (qclr (qup (qclr (qup (qclr (qup (qclr (qup (qclr (qup (qclr (qup (qclr (qup (qup (qclr (qup (qclr (qup (qclr (qup (qclr (qup (qclr (qup (qclr (qup (qclr (qup (qclr w 96) 95 0 96) 97) 95 1 97) 98) 95 2 98) 99) 95 3 99) 100) 95 4 100) 101) 95 5 101) 102) 95 6 102) 103) 95 7 103) 95 9 (-1)) 104) 95 10 104) 105) 95 11 105) 106) 95 12 106) 107) 95 13 107) 108) 95 14 108) 109) 95 15 109) 110) 95 16 110) 111) 95 17 111) 112) 95 18 112) 113) 95 19 113) 114) 95 20 114) 115) 95 21 115) 95 34 (-1)) 116) 95 36 116) 117) 95 44 117) 118) 95 45 118) 119)) (n' := 119) rfl ?_
  refine qG.blk 3 (pc' := 217) (ls' := [(2, 95)]) (st' := [(0, 4), (2, 95)]) (w' := (qup (qclr (qup (qclr (qup (qclr (qup (qclr (qup (qup (qclr (qup (qclr (qup (qclr (qup (qclr (qup (qclr (qup (qclr (qup (qclr (qup (qclr (qup (qclr (qup (qclr (qup (qclr (qup (qclr (qup (qup (qclr (qup (qclr (qup (qclr (qup (qclr (qup (qclr (qup (qclr (qup (qclr (qup (qclr w 96) 95 0 96) 97) 95 1 97) 98) 95 2 98) 99) 95 3 99) 100) 95 4 100) 101) 95 5 101) 102) 95 6 102) 103) 95 7 103) 95 9 (-1)) 104) 95 10 104) 105) 95 11 105) 106) 95 12 106) 107) 95 13 107) 108) 95 14 108) 109) 95 15 109) 110) 95 16 110) 111) 95 17 111) 112) 95 18 112) 113) 95 19 113) 114) 95 20 114) 115) 95 21 115) 95 34 (-1)) 116) 95 36 116) 117) 95 44 117) 118) 95 45 118) 119) 95 47 119)) (n' := 119) rfl ?_
  refine qG.blk 1 (pc' := 219) (ls' := [(2, 95)]) (st' := [(2, 120), (2, 95)]) (w' := (qclr (qup (qclr (qup (qclr (qup (qclr (qup (qclr (qup (qup (qclr (qup (qclr (qup (qclr (qup (qclr (qup (qclr (qup (qclr (qup (qclr (qup (qclr (qup (qclr (qup (qclr (qup (qclr (qup (qclr (qup (qup (qclr (qup (qclr (qup (qclr (qup (qclr (qup (qclr (qup (qclr (qup (qclr (qup (qclr w 96) 95 0 96) 97) 95 1 97) 98) 95 2 98) 99) 95 3 99) 100) 95 4 100) 101) 95 5 101) 102) 95 6 102) 103) 95 7 103) 95 9 (-1)) 104) 95 10 104) 105) 95 11 105) 106) 95 12 106) 107) 95 13 107) 108) 95 14 108) 109) 95 15 109) 110) 95 16 110) 111) 95 17 111) 112) 95 18 112) 113) 95 19 113) 114) 95 20 114) 115) 95 21 115) 95 34 (-1)) 116) 95 36 116) 117) 95 44 117) 118) 95 45 118) 119) 95 47 119) 120)) (n' := 120) rfl ?_
  refine qG.blk 3 (pc' := 224) (ls' := [(2, 95)]) (st' := [(0, 4), (2, 95)]) (w' := (qup (qclr (qup (qclr (qup (qclr (qup (qclr (qup (qclr (qup (qup (qclr (qup (qclr (qup (qclr (qup (qclr (qup (qclr (qup (qclr (qup (qclr (qup (qclr (qup (qclr (qup (qclr (qup (qclr (qup (qclr (qup (qup (qclr (qup (qclr (qup (qclr (qup (qclr (qup (qclr (qup (qclr (qup (qclr (qup (qclr w 96) 95 0 96) 97) 95 1 97) 98) 95 2 98) 99) 95 3 99) 100) 95 4 100) 101) 95 5 101) 102) 95 6 102) 103) 95 7 103) 95 9 (-1)) 104) 95 10 104) 105) 95 11 105) 106) 95 12 106) 107) 95 13 107) 108) 95 14 108) 109) 95 15 109) 110) 95 16 110) 111) 95 17 111) 112) 95 18 112) 113) 95 19 113) 114) 95 20 114) 115) 95 21 115) 95 34 (-1)) 116) 95 36 116) 117) 95 44 117) 118) 95 45 118) 119) 95 47 119) 120) 95 48 120)) (n' := 120) rfl ?_
  refine qG.blk 1 (pc' := 226) (ls' := [(2, 95)]) (st' := [(2, 121), (2, 95)]) (w' := (qclr (qup (qclr (qup (qclr (qup (qclr (qup (qclr (qup (qclr (qup (qup (qclr (qup (qclr (qup (qclr (qup (qclr (qup (qclr (qup (qclr (qup (qclr (qup (qclr (qup (qclr (qup (qclr (qup (qclr (qup (qclr (qup (qup (qclr (qup (qclr (qup (qclr (qup (qclr (qup (qclr (qup (qclr (qup (qclr (qup (qclr w 96) 95 0 96) 97) 95 1 97) 98) 95 2 98) 99) 95 3 99) 100) 95 4 100) 101) 95 5 101) 102) 95 6 102) 103) 95 7 103) 95 9 (-1)) 104) 95 10 104) 105) 95 11 105) 106) 95 12 106) 107) 95 13 107) 108) 95 14 108) 109) 95 15 109) 110) 95 16 110) 111) 95 17 111) 112) 95 18 112) 113) 95 19 113) 114) 95 20 114) 115) 95 21 115) 95 34 (-1)) 116) 95 36 116) 117) 95 44 117) 118) 95 45 118) 119) 95 47 119) 120) 95 48 120) 121)) (n' := 121) rfl ?_
  refine qG.blk 3 (pc' := 232) (ls' := [(2, 95)]) (st' := [(0, 64), (2, 95)]) (w' := (qup (qclr (qup (qclr (qup (qclr (qup (qclr (qup (qclr (qup (qclr (qup (qup (qclr (qup (qclr (qup (qclr (qup (qclr (qup (qclr (qup (qclr (qup (qclr (qup (qclr (qup (qclr (qup (qclr (qup (qclr (qup (qclr (qup (qup (qclr (qup (qclr (qup (qclr (qup (qclr (qup (qclr (qup (qclr (qup (qclr (qup (qclr w 96) 95 0 96) 97) 95 1 97) 98) 95 2 98) 99) 95 3 99) 100) 95 4 100) 101) 95 5 101) 102) 95 6 102) 103) 95 7 103) 95 9 (-1)) 104) 95 10 104) 105) 95 11 105) 106) 95 12 106) 107) 95 13 107) 108) 95 14 108) 109) 95 15 109) 110) 95 16 110) 111) 95 17 111) 112) 95 18 112) 113) 95 19 113) 114) 95 20 114) 115) 95 21 115) 95 34 (-1)) 116) 95 36 116) 117) 95 44 117) 118) 95 45 118) 119) 95 47 119) 120) 95 48 120) 121) 95 49 121)) (n' := 121) rfl ?_
  refine qG.blk 1 (pc' := 234) (ls' := [(2, 95)]) (st' := [(2, 122), (2, 95)]) (w' := (qclr (qup (qclr (qup (qclr (qup (qclr (qup (qclr (qup (qclr (qup (qclr (qup (qup (qclr (qup (qclr (qup (qclr (qup (qclr (qup (qclr (qup (qclr (qup (qclr (qup (qclr (qup (qclr (qup (qclr (qup (qclr (qup (qclr (qup (qup (qclr (qup (qclr (qup (qclr (qup (qclr (qup (qclr (qup (qclr (qup (qclr (qup (qclr w 96) 95 0 96) 97) 95 1 97) 98) 95 2 98) 99) 95 3 99) 100) 95 4 100) 101) 95 5 101) 102) 95 6 102) 103) 95 7 103) 95 9 (-1)) 104) 95 10 104) 105) 95 11 105) 106) 95 12 106) 107) 95 13 107) 108) 95 14 108) 109) 95 15 109) 110) 95 16 110) 111) 95 17 111) 112) 95 18 112) 113) 95 19 113) 114) 95 20 114) 115) 95 21 115) 95 34 (-1)) 116) 95 36 116) 117) 95 44 117) 118) 95 45 118) 119) 95 47 119) 120) 95 48 120) 121) 95 49 121) 122)) (n' := 122) rfl ?_
  refine qG.blk 3 (pc' := 240) (ls' := [(2, 95)]) (st' := [(0, 64), (2, 95)]) (w' := (qup (qclr (qup (qclr (qup (qclr (qup (qclr (qup (qclr (qup (qclr (qup (qclr (qup (qup (qclr (qup (qclr (qup (qclr (qup (qclr (qup (qclr (qup (qclr (qup (qclr (qup (qclr (qup (qclr (qup (qclr (qup (qclr (qup (qclr (qup (qup (qclr (qup (qclr (qup (qclr (qup (qclr (qup (qclr (qup (qclr (qup (qclr (qup (qclr w 96) 95 0 96) 97) 95 1 97) 98) 95 2 98) 99) 95 3 99) 100) 95 4 100) 101) 95 5 101) 102) 95 6 102) 103) 95 7 103) 95 9 (-1)) 104) 95 10 104) 105) 95 11 105) 106) 95 12 106) 107) 95 13 107) 108) 95 14 108) 109) 95 15 109) 110) 95 16 110) 111) 95 17 111) 112) 95 18 112) 113) 95 19 113) 114) 95 20 114) 115) 95 21 115) 95 34 (-1)) 116) 95 36 116) 117) 95 44 117) 118) 95 45 118) 119) 95 47 119) 120) 95 48 120) 121) 95 49 121) 122) 95 52 122)) (n' := 122) rfl ?_
  refine qG.blk 1 (pc' := 242) (ls' := [(2, 95)]) (st' := [(2, 123), (2, 95)]) (w' := (qclr (qup (qclr (qup (qclr (qup (qclr (qup (qclr (qup (qclr (qup (qclr (qup (qclr (qup (qup (qclr (qup (qclr (qup (qclr (qup (qclr (qup (qclr (qup (qclr (qup (qclr (qup (qclr (qup (qclr (qup (qclr (qup (qclr (qup (qclr (qup (qup (qclr (qup (qclr (qup (qclr (qup (qclr (qup (qclr (qup (qclr (qup (qclr (qup (qclr w 96) 95 0 96) 97) 95 1 97) 98) 95 2 98) 99) 95 3 99) 100) 95 4 100) 101) 95 5 101) 102) 95 6 102) 103) 95 7 103) 95 9 (-1)) 104) 95 10 104) 105) 95 11 105) 106) 95 12 106) 107) 95 13 107) 108) 95 14 108) 109) 95 15 109) 110) 95 16 110) 111) 95 17 111) 112) 95 18 112) 113) 95 19 113) 114) 95 20 114) 115) 95 21 115) 95 34 (-1)) 116) 95 36 116) 117) 95 44 117) 118) 95 45 118) 119) 95 47 119) 120) 95 48 120) 121) 95 49 121) 122) 95 52 122) 123)) (n' := 123) rfl ?_
  refine qG.blk 3 (pc' := 248) (ls' := [(2, 95)]) (st' := [(0, 64), (2, 95)]) (w' := (qup (qclr (qup (qclr (qup (qclr (qup (qclr (qup (qclr (qup (qclr (qup (qclr (qup (qclr (qup (qup (qclr (qup (qclr (qup (qclr (qup (qclr (qup (qclr (qup (qclr (qup (qclr (qup (qclr (qup (qclr (qup (qclr (qup (qclr (qup (qclr (qup (qup (qclr (qup (qclr (qup (qclr (qup (qclr (qup (qclr (qup (qclr (qup (qclr (qup (qclr w 96) 95 0 96) 97) 95 1 97) 98) 95 2 98) 99) 95 3 99) 100) 95 4 100) 101) 95 5 101) 102) 95 6 102) 103) 95 7 103) 95 9 (-1)) 104) 95 10 104) 105) 95 11 105) 106) 95 12 106) 107) 95 13 107) 108) 95 14 108) 109) 95 15 109) 110) 95 16 110) 111) 95 17 111) 112) 95 18 112) 113) 95 19 113) 114) 95 20 114) 115) 95 21 115) 95 34 (-1)) 116) 95 36 116) 117) 95 44 117) 118) 95 45 118) 119) 95 47 119) 120) 95 48 120) 121) 95 49 121) 122) 95 52 122) 123) 95 53 123)) (n' := 123) rfl ?_
  refine qG.blk 1 (pc' := 250) (ls' := [(2, 95)]) (st' := [(2, 124), (2, 95)]) (w' := (qclr (qup (qclr (qup (qclr (qup (qclr (qup (qclr (qup (qclr (qup (qclr (qup (qclr (qup (qclr (qup (qup (qclr (qup (qclr (qup (qclr (qup (qclr (qup (qclr (qup (qclr (qup (qclr (qup (qclr (qup (qclr (qup (qclr (qup (qclr (qup (qclr (qup (qup (qclr (qup (qclr (qup (qclr (qup (qclr (qup (qclr (qup (qclr (qup (qclr (qup (qclr w 96) 95 0 96) 97) 95 1 97) 98) 95 2 98) 99) 95 3 99) 100) 95 4 100) 101) 95 5 101) 102) 95 6 102) 103) 95 7 103) 95 9 (-1)) 104) 95 10 104) 105) 95 11 105) 106) 95 12 106) 107) 95 13 107) 108) 95 14 108) 109) 95 15 109) 110) 95 16 110) 111) 95 17 111) 112) 95 18 112) 113) 95 19 113) 114) 95 20 114) 115) 95 21 115) 95 34 (-1)) 116) 95 36 116) 117) 95 44 117) 118) 95 45 118) 119) 95 47 119) 120) 95 48 120) 121) 95 49 121) 122) 95 52 122) 123) 95 53 123) 124)) (n' := 124) rfl ?_
  refine qG.blk 3 (pc' := 256) (ls' := [(2, 95)]) (st' := [(0, 12), (2, 95)]) (w' := (qup (qclr (qup (qclr (qup (qclr (qup (qclr (qup (qclr (qup (qclr (qup (qclr (qup (qclr (qup (qclr (qup (qup (qclr (qup (qclr (qup (qclr (qup (qclr (qup (qclr (qup (qclr (qup (qclr (qup (qclr (qup (qclr (qup (qclr (qup (qclr (qup (qclr (qup (qup (qclr (qup (qclr (qup (qclr (qup (qclr (qup (qclr (qup (qclr (qup (qclr (qup (qclr w 96) 95 0 96) 97) 95 1 97) 98) 95 2 98) 99) 95 3 99) 100) 95 4 100) 101) 95 5 101) 102) 95 6 102) 103) 95 7 103) 95 9 (-1)) 104) 95 10 104) 105) 95 11 105) 106) 95 12 106) 107) 95 13 107) 108) 95 14 108) 109) 95 15 109) 110) 95 16 110) 111) 95 17 111) 112) 95 18 112) 113) 95 19 113) 114) 95 20 114) 115) 95 21 115) 95 34 (-1)) 116) 95 36 116) 117) 95 44 117) 118) 95 45 118) 119) 95 47 119) 120) 95 48 120) 121) 95 49 121) 122) 95 52 122) 123) 95 53 123) 124) 95 54 124)) (n' := 124) rfl ?_
  refine qG.blk 1 (pc' := 258) (ls' := [(2, 95)]) (st' := [(2, 125), (2, 95)]) (w' := (qclr (qup (qclr (qup (qclr (qup (qclr (qup (qclr (qup (qclr (qup (qclr (qup (qclr (qup (qclr (qup (qclr (qup (qup (qclr (qup (qclr (qup (qclr (qup (qclr (qup (qclr (qup (qclr (qup (qclr (qup (qclr (qup (qclr (qup (qclr (qup (qclr (qup (qclr (qup (qup (qclr (qup (qclr (qup (qclr (qup (qclr (qup (qclr (qup (qclr (qup (qclr (qup (qclr w 96) 95 0 96) 97) 95 1 97) 98) 95 2 98) 99) 95 3 99) 100) 95 4 100) 101) 95 5 101) 102) 95 6 102) 103) 95 7 103) 95 9 (-1)) 104) 95 10 104) 105) 95 11 105) 106) 95 12 106) 107) 95 13 107) 108) 95 14 108) 109) 95 15 109) 110) 95 16 110) 111) 95 17 111) 112) 95 18 112) 113) 95 19 113) 114) 95 20 114) 115) 95 21 115) 95 34 (-1)) 116) 95 36 116) 117) 95 44 117) 118) 95 45 118) 119) 95 47 119) 120) 95 48 120) 121) 95 49 121) 122) 95 52 122) 123) 95 53 123) 124) 95 54 124) 125)) (n' := 125) rfl ?_
  refine qG.blk 3 (pc' := 264) (ls' := [(2, 95)]) (st' := [(0, 12), (2, 95)]) (w' := (qup (qclr (qup (qclr (qup (qclr (qup (qclr (qup (qclr (qup (qclr (qup (qclr (qup (qclr (qup (qclr (qup (qclr (qup (qup (qclr (qup (qclr (qup (qclr (qup (qclr (qup (qclr (qup (qclr (qup (qclr (qup (qclr (qup (qclr (qup (qclr (qup (qclr (qup (qclr (qup (qup (qclr (qup (qclr (qup (qclr (qup (qclr (qup (qclr (qup (qclr (qup (qclr (qup (qclr w 96) 95 0 96) 97) 95 1 97) 98) 95 2 98) 99) 95 3 99) 100) 95 4 100) 101) 95 5 101) 102) 95 6 102) 103) 95 7 103) 95 9 (-1)) 104) 95 10 104) 105) 95 11 105) 106) 95 12 106) 107) 95 13 107) 108) 95 14 108) 109) 95 15 109) 110) 95 16 110) 111) 95 17 111) 112) 95 18 112) 113) 95 19 113) 114) 95 20 114) 115) 95 21 115) 95 34 (-1)) 116) 95 36 116) 117) 95 44 117) 118) 95 45 118) 119) 95 47 119) 120) 95 48 120) 121) 95 49 121) 122) 95 52 122) 123) 95 53 123) 124) 95 54 124) 125) 95 58 125)) (n' := 125) rfl ?_
  refine qG.blk 1 (pc' := 266) (ls' := [(2, 95)]) (st' := [(2, 126), (2, 95)]) (w' := (qclr (qup (qclr (qup (qclr (qup (qclr (qup (qclr (qup (qclr (qup (qclr (qup (qclr (qup (qclr (qup (qclr (qup (qclr (qup (qup (qclr (qup (qclr (qup (qclr (qup (qclr (qup (qclr (qup (qclr (qup (qclr (qup (qclr (qup (qclr (qup (qclr (qup (qclr (qup (qclr (qup (qup (qclr (qup (qclr (qup (qclr (qup (qclr (qup (qclr (qup (qclr (qup (qclr (qup (qclr w 96) 95 0 96) 97) 95 1 97) 98) 95 2 98) 99) 95 3 99) 100) 95 4 100) 101) 95 5 101) 102) 95 6 102) 103) 95 7 103) 95 9 (-1)) 104) 95 10 104) 105) 95 11 105) 106) 95 12 106) 107) 95 13 107) 108) 95 14 108) 109) 95 15 109) 110) 95 16 110) 111) 95 17 111) 112) 95 18 112) 113) 95 19 113) 114) 95 20 114) 115) 95 21 115) 95 34 (-1)) 116) 95 36 116) 117) 95 44 117) 118) 95 45 118) 119) 95 47 119) 120) 95 48 120) 121) 95 49 121) 122) 95 52 122) 123) 95 53 123) 124) 95 54 124) 125) 95 58 125) 126)) (n' := 126) rfl ?_
  refine qG.blk 3 (pc' := 272) (ls' := [(2, 95)]) (st' := [(0, 12), (2, 95)]) (w' := (qup (qclr (qup (qclr (qup (qclr (qup (qclr (qup (qclr (qup (qclr (qup (qclr (qup (qclr (qup (qclr (qup (qclr (qup (qclr (qup (qup (qclr (qup (qclr (qup (qclr (qup (qclr (qup (qclr (qup (qclr (qup (qclr (qup (qclr (qup (qclr (qup (qclr (qup (qclr (qup (qclr (qup (qup (qclr (qup (qclr (qup (qclr (qup (qclr (qup (qclr (qup (qclr (qup (qclr (qup (qclr w 96) 95 0 96) 97) 95 1 97) 98) 95 2 98) 99) 95 3 99) 100) 95 4 100) 101) 95 5 101) 102) 95 6 102) 103) 95 7 103) 95 9 (-1)) 104) 95 10 104) 105) 95 11 105) 106) 95 12 106) 107) 95 13 107) 108) 95 14 108) 109) 95 15 109) 110) 95 16 110) 111) 95 17 111) 112) 95 18 112) 113) 95 19 113) 114) 95 20 114) 115) 95 21 115) 95 34 (-1)) 116) 95 36 116) 117) 95 44 117) 118) 95 45 118) 119) 95 47 119) 120) 95 48 120) 121) 95 49 121) 122) 95 52 122) 123) 95 53 123) 124) 95 54 124) 125) 95 58 125) 126) 95 59 126)) (n' := 126) rfl ?_
  refine qG.blk 1 (pc' := 274) (ls' := [(2, 95)]) (st' := [(2, 127), (2, 95)]) (w' := (qclr (qup (qclr (qup (qclr (qup (qclr (qup (qclr (qup (qclr (qup (qclr (qup (qclr (qup (qclr (qup (qclr (qup (qclr (qup (qclr (qup (qup (qclr (qup (qclr (qup (qclr (qup (qclr (qup (qclr (qup (qclr (qup (qclr (qup (qclr (qup (qclr (qup (qclr (qup (qclr (qup (qclr (qup (qup (qclr (qup (qclr (qup (qclr (qup (qclr (qup (qclr (qup (qclr (qup (qclr (qup (qclr w 96) 95 0 96) 97) 95 1 97) 98) 95 2 98) 99) 95 3 99) 100) 95 4 100) 101) 95 5 101) 102) 95 6 102) 103) 95 7 103) 95 9 (-1)) 104) 95 10 104) 105) 95 11 105) 106) 95 12 106) 107) 95 13 107) 108) 95 14 108) 109) 95 15 109) 110) 95 16 110) 111) 95 17 111) 112) 95 18 112) 113) 95 19 113) 114) 95 20 114) 115) 95 21 115) 95 34 (-1)) 116) 95 36 116) 117) 95 44 117) 118) 95 45 118) 119) 95 47 119) 120) 95 48 120) 121) 95 49 121) 122) 95 52 122) 123) 95 53 123) 124) 95 54 124) 125) 95 58 125) 126) 95 59 126) 127)) (n' := 127) rfl ?_
  refine qG.blk 3 (pc' := 280) (ls' := [(2, 95)]) (st' := [(0, 36), (2, 95)]) (w' := (qup (qclr (qup (qclr (qup (qclr (qup (qclr (qup (qclr (qup (qclr (qup (qclr (qup (qclr (qup (qclr (qup (qclr (qup (qclr (qup (qclr (qup (qup (qclr (qup (qclr (qup (qclr (qup (qclr (qup (qclr (qup (qclr (qup (qclr (qup (qclr (qup (qclr (qup (qclr (qup (qclr (qup (qclr (qup (qup (qclr (qup (qclr (qup (qclr (qup (qclr (qup (qclr (qup (qclr (qup (qclr (qup (qclr w 96) 95 0 96) 97) 95 1 97) 98) 95 2 98) 99) 95 3 99) 100) 95 4 100) 101) 95 5 101) 102) 95 6 102) 103) 95 7 103) 95 9 (-1)) 104) 95 10 104) 105) 95 11 105) 106) 95 12 106) 107) 95 13 107) 108) 95 14 108) 109) 95 15 109) 110) 95 16 110) 111) 95 17 111) 112) 95 18 112) 113) 95 19 113) 114) 95 20 114) 115) 95 21 115) 95 34 (-1)) 116) 95 36 116) 117) 95 44 117) 118) 95 45 118) 119) 95 47 119) 120) 95 48 120) 121) 95 49 121) 122) 95 52 122) 123) 95 53 123) 124) 95 54 124) 125) 95 58 125) 126) 95 59 126) 127) 95 60 127)) (n' := 127) rfl ?_
  refine qG.blk 1 (pc' := 282) (ls' := [(2, 95)]) (st' := [(2, 128), (2, 95)]) (w' := (qclr (qup (qclr (qup (qclr (qup (qclr (qup (qclr (qup (qclr (qup (qclr (qup (qclr (qup (qclr (qup (qclr (qup (qclr (qup (qclr (qup (qclr (qup (qup (qclr (qup (qclr (qup (qclr (qup (qclr (qup (qclr (qup (qclr (qup (qclr (qup (qclr (qup (qclr (qup (qclr (qup (qclr (qup (qclr (qup (qup (qclr (qup (qclr (qup (qclr (qup (qclr (qup (qclr (qup (qclr (qup (qclr (qup (qclr w 96) 95 0 96) 97) 95 1 97) 98) 95 2 98) 99) 95 3 99) 100) 95 4 100) 101) 95 5 101) 102) 95 6 102) 103) 95 7 103) 95 9 (-1)) 104) 95 10 104) 105) 95 11 105) 106) 95 12 106) 107) 95 13 107) 108) 95 14 108) 109) 95 15 109) 110) 95 16 110) 111) 95 17 111) 112) 95 18 112) 113) 95 19 113) 114) 95 20 114) 115) 95 21 115) 95 34 (-1)) 116) 95 36 116) 117) 95 44 117) 118) 95 45 118) 119) 95 47 119) 120) 95 48 120) 121) 95 49 121) 122) 95 52 122) 123) 95 53 123) 124) 95 54 124) 125) 95 58 125) 126) 95 59 126) 127) 95 60 127) 128)) (n' := 128) rfl ?_
  refine qG.blk 3 (pc' := 289) (ls' := [(2, 95)]) (st' := [(0, 200), (2, 95)]) (w' := (qup (qclr (qup (qclr (qup (qclr (qup (qclr (qup (qclr (qup (qclr (qup (qclr (qup (qclr (qup (qclr (qup (qclr (qup (qclr (qup (qclr (qup (qclr (qup (qup (qclr (qup (qclr (qup (qclr (qup (qclr (qup (qclr (qup (qclr (qup (qclr (qup (qclr (qup (qclr (qup (qclr (qup (qclr (qup (qclr (qup (qup (qclr (qup (qclr (qup (qclr (qup (qclr (qup (qclr (qup (qclr (qup (qclr (qup (qclr w 96) 95 0 96) 97) 95 1 97) 98) 95 2 98) 99) 95 3 99) 100) 95 4 100) 101) 95 5 101) 102) 95 6 102) 103) 95 7 103) 95 9 (-1)) 104) 95 10 104) 105) 95 11 105) 106) 95 12 106) 107) 95 13 107) 108) 95 14 108) 109) 95 15 109) 110) 95 16 110) 111) 95 17 111) 112) 95 18 112) 113) 95 19 113) 114) 95 20 114) 115) 95 21 115) 95 34 (-1)) 116) 95 36 116) 117) 95 44 117) 118) 95 45 118) 119) 95 47 119) 120) 95 48 120) 121) 95 49 121) 122) 95 52 122) 123) 95 53 123) 124) 95 54 124) 125) 95 58 125) 126) 95 59 126) 127) 95 60 127) 128) 95 61 128)) (n' := 128) rfl ?_
  refine qG.blk 1 (pc' := 291) (ls' := [(2, 95)]) (st' := [(2, 129), (2, 95)]) (w' := (qclr (qup (qclr (qup (qclr (qup (qclr (qup (qclr (qup (qclr (qup (qclr (qup (qclr (qup (qclr (qup (qclr (qup (qclr (qup (qclr (qup (qclr (qup (qclr (qup (qup (qclr (qup (qclr (qup (qclr (qup (qclr (qup (qclr (qup (qclr (qup (qclr (qup (qclr (qup (qclr (qup (qclr (qup (qclr (qup (qclr (qup (qup (qclr (qup (qclr (qup (qclr (qup (qclr (qup (qclr (qup (qclr (qup (qclr (qup (qclr w 96) 95 0 96) 97) 95 1 97) 98) 95 2 98) 99) 95 3 99) 100) 95 4 100) 101) 95 5 101) 102) 95 6 102) 103) 95 7 103) 95 9 (-1)) 104) 95 10 104) 105) 95 11 105) 106) 95 12 106) 107) 95 13 107) 108) 95 14 108) 109) 95 15 109) 110) 95 16 110) 111) 95 17 111) 112) 95 18 112) 113) 95 19 113) 114) 95 20 114) 115) 95 21 115) 95 34 (-1)) 116) 95 36 116) 117) 95 44 117) 118) 95 45 118) 119) 95 47 119) 120) 95 48 120) 121) 95 49 121) 122) 95 52 122) 123) 95 53 123) 124) 95 54 124) 125) 95 58 125) 126) 95 59 126) 127) 95 60 127) 128) 95 61 128) 129)) (n' := 129) rfl ?_
  refine qG.blk 3 (pc' := 298) (ls' := [(2, 95)]) (st' := [(0, 200), (2, 95)]) (w' := (qup (qclr (qup (qclr (qup (qclr (qup (qclr (qup (qclr (qup (qclr (qup (qclr (qup (qclr (qup (qclr (qup (qclr (qup (qclr (qup (qclr (qup (qclr (qup (qclr (qup (qup (qclr (qup (qclr (qup (qclr (qup (qclr (qup (qclr (qup (qclr (qup (qclr (qup (qclr (qup (qclr (qup (qclr (qup (qclr (qup (qclr (qup (qup (qclr (qup (qclr (qup (qclr (qup (qclr (qup (qclr (qup (qclr (qup (qclr (qup (qclr w 96) 95 0 96) 97) 95 1 97) 98) 95 2 98) 99) 95 3 99) 100) 95 4 100) 101) 95 5 101) 102) 95 6 102) 103) 95 7 103) 95 9 (-1)) 104) 95 10 104) 105) 95 11 105) 106) 95 12 106) 107) 95 13 107) 108) 95 14 108) 109) 95 15 109) 110) 95 16 110) 111) 95 17 111) 112) 95 18 112) 113) 95 19 113) 114) 95 20 114) 115) 95 21 115) 95 34 (-1)) 116) 95 36 116) 117) 95 44 117) 118) 95 45 118) 119) 95 47 119) 120) 95 48 120) 121) 95 49 121) 122) 95 52 122) 123) 95 53 123) 124) 95 54 124) 125) 95 58 125) 126) 95 59 126) 127) 95 60 127) 128) 95 61 128) 129) 95 62 129)) (n' := 129) rfl ?_
  refine qG.blk 1 (pc' := 300) (ls' := [(2, 95)]) (st' := [(2, 130), (2, 95)]) (w' := (qclr (qup (qclr (qup (qclr (qup (qclr (qup (qclr (qup (qclr (qup (qclr (qup (qclr (qup (qclr (qup (qclr (qup (qclr (qup (qclr (qup (qclr (qup (qclr (qup (qclr (qup (qup (qclr (qup (qclr (qup (qclr (qup (qclr (qup (qclr (qup (qclr (qup (qclr (qup (qclr (qup (qclr (qup (qclr (qup (qclr (qup (qclr (qup (qup (qclr (qup (qclr (qup (qclr (qup (qclr (qup (qclr (qup (qclr (qup (qclr (qup (qclr w 96) 95 0 96) 97) 95 1 97) 98) 95 2 98) 99) 95 3 99) 100) 95 4 100) 101) 95 5 101) 102) 95 6 102) 103) 95 7 103) 95 9 (-1)) 104) 95 10 104) 105) 95 11 105) 106) 95 12 106) 107) 95 13 107) 108) 95 14 108) 109) 95 15 109) 110) 95 16 110) 111) 95 17 111) 112) 95 18 112) 113) 95 19 113) 114) 95 20 114) 115) 95 21 115) 95 34 (-1)) 116) 95 36 116) 117) 95 44 117) 118) 95 45 118) 119) 95 47 119) 120) 95 48 120) 121) 95 49 121) 122) 95 52 122) 123) 95 53 123) 124) 95 54 124) 125) 95 58 125) 126) 95 59 126) 127) 95 60 127) 128) 95 61 128) 129) 95 62 129) 130)) (n' := 130) rfl ?_
  refine qG.blk 3 (pc' := 307) (ls' := [(2, 95)]) (st' := [(0, 200), (2, 95)]) (w' := (qup (qclr (qup (qclr (qup (qclr (qup (qclr (qup (qclr (qup (qclr (qup (qclr (qup (qclr (qup (qclr (qup (qclr (qup (qclr (qup (qclr (qup (qclr (qup (qclr (qup (qclr (qup (qup (qclr (qup (qclr (qup (qclr (qup (qclr (qup (qclr (qup (qclr (qup (qclr (qup (qclr (qup (qclr (qup (qclr (qup (qclr (qup (qclr (qup (qup (qclr (qup (qclr (qup (qclr (qup (qclr (qup (qclr (qup (qclr (qup (qclr (qup (qclr w 96) 95 0 96) 97) 95 1 97) 98) 95 2 98) 99) 95 3 99) 100) 95 4 100) 101) 95 5 101) 102) 95 6 102) 103) 95 7 103) 95 9 (-1)) 104) 95 10 104) 105) 95 11 105) 106) 95 12 106) 107) 95 13 107) 108) 95 14 108) 109) 95 15 109) 110) 95 16 110) 111) 95 17 111) 112) 95 18 112) 113) 95 19 113) 114) 95 20 114) 115) 95 21 115) 95 34 (-1)) 116) 95 36 116) 117) 95 44 117) 118) 95 45 118) 119) 95 47 119) 120) 95 48 120) 121) 95 49 121) 122) 95 52 122) 123) 95 53 123) 124) 95 54 124) 125) 95 58 125) 126) 95 59 126) 127) 95 60 127) 128) 95 61 128) 129) 95 62 129) 130) 95 63 130)) (n' := 130) rfl ?_
  refine qG.blk 1 (pc' := 309) (ls' := [(2, 95)]) (st' := [(2, 131), (2, 95)]) (w' := (qclr (qup (qclr (qup (qclr (qup (qclr (qup (qclr (qup (qclr (qup (qclr (qup (qclr (qup (qclr (qup (qclr (qup (qclr (qup (qclr (qup (qclr (qup (qclr (qup (qclr (qup (qclr (qup (qup (qclr (qup (qclr (qup (qclr (qup (qclr (qup (qclr (qup (qclr (qup (qclr (qup (qclr (qup (qclr (qup (qclr (qup (qclr (qup (qclr (qup (qup (qclr (qup (qclr (qup (qclr (qup (qclr (qup (qclr (qup (qclr (qup (qclr (qup (qclr w 96) 95 0 96) 97) 95 1 97) 98) 95 2 98) 99) 95 3 99) 100) 95 4 100) 101) 95 5 101) 102) 95 6 102) 103) 95 7 103) 95 9 (-1)) 104) 95 10 104) 105) 95 11 105) 106) 95 12 106) 107) 95 13 107) 108) 95 14 108) 109) 95 15 109) 110) 95 16 110) 111) 95 17 111) 112) 95 18 112) 113) 95 19 113) 114) 95 20 114) 115) 95 21 115) 95 34 (-1)) 116) 95 36 116) 117) 95 44 117) 118) 95 45 118) 119) 95 47 119) 120) 95 48 120) 121) 95 49 121) 122) 95 52 122) 123) 95 53 123) 124) 95 54 124) 125) 95 58 125) 126) 95 59 126) 127) 95 60 127) 128) 95 61 128) 129) 95 62 129) 130) 95 63 130) 131)) (n' := 131) rfl ?_
  refine qG.blk 3 (pc' := 315) (ls' := [(2, 95)]) (st' := [(0, 60), (2, 95)]) (w' := (qup (qclr (qup (qclr (qup (qclr (qup (qclr (qup (qclr (qup (qclr (qup (qclr (qup (qclr (qup (qclr (qup (qclr (qup (qclr (qup (qclr (qup (qclr (qup (qclr (qup (qclr (qup (qclr (qup (qup (qclr (qup (qclr (qup (qclr (qup (qclr (qup (qclr (qup (qclr (qup (qclr (qup (qclr (qup (qclr (qup (qclr (qup (qclr (qup (qclr (qup (qup (qclr (qup (qclr (qup (qclr (qup (qclr (qup (qclr (qup (qclr (qup (qclr (qup (qclr w 96) 95 0 96) 97) 95 1 97) 98) 95 2 98) 99) 95 3 99) 100) 95 4 100) 101) 95 5 101) 102) 95 6 102) 103) 95 7 103) 95 9 (-1)) 104) 95 10 104) 105) 95 11 105) 106) 95 12 106) 107) 95 13 107) 108) 95 14 108) 109) 95 15 109) 110) 95 16 110) 111) 95 17 111) 112) 95 18 112) 113) 95 19 113) 114) 95 20 114) 115) 95 21 115) 95 34 (-1)) 116) 95 36 116) 117) 95 44 117) 118) 95 45 118) 119) 95 47 119) 120) 95 48 120) 121) 95 49 121) 122) 95 52 122) 123) 95 53 123) 124) 95 54 124) 125) 95 58 125) 126) 95 59 126) 127) 95 60 127) 128) 95 61 128) 129) 95 62 129) 130) 95 63 130) 131) 95 64 131)) (n' := 131) rfl ?_
  refine qG.blk 1 (pc' := 317) (ls' := [(2, 95)]) (st' := [(2, 132), (2, 95)]) (w' := (qclr (qup (qclr (qup (qclr (qup (qclr (qup (qclr (qup (qclr (qup (qclr (qup (qclr (qup (qclr (qup (qclr (qup (qclr (qup (qclr (qup (qclr (qup (qclr (qup (qclr (qup (qclr (qup (qclr (qup (qup (qclr (qup (qclr (qup (qclr (qup (qclr (qup (qclr (qup (qclr (qup (qclr (qup (qclr (qup (qclr (qup (qclr (qup (qclr (qup (qclr (qup (qup (qclr (qup (qclr (qup (qclr (qup (qclr (qup (qclr (qup (qclr (qup (qclr (qup (qclr w 96) 95 0 96) 97) 95 1 97) 98) 95 2 98) 99) 95 3 99) 100) 95 4 100) 101) 95 5 101) 102) 95 6 102) 103) 95 7 103) 95 9 (-1)) 104) 95 10 104) 105) 95 11 105) 106) 95 12 106) 107) 95 13 107) 108) 95 14 108) 109) 95 15 109) 110) 95 16 110) 111) 95 17 111) 112) 95 18 112) 113) 95 19 113) 114) 95 20 114) 115) 95 21 115) 95 34 (-1)) 116) 95 36 116) 117) 95 44 117) 118) 95 45 118) 119) 95 47 119) 120) 95 48 120) 121) 95 49 121) 122) 95 52 122) 123) 95 53 123) 124) 95 54 124) 125) 95 58 125) 126) 95 59 126) 127) 95 60 127) 128) 95 61 128) 129) 95 62 129) 130) 95 63 130) 131) 95 64 131) 132)) (n' := 132) rfl ?_
  refine qG.blk 3 (pc' := 323) (ls' := [(2, 95)]) (st' := [(0, 60), (2, 95)]) (w' := (qup (qclr (qup (qclr (qup (qclr (qup (qclr (qup (qclr (qup (qclr (qup (qclr (qup (qclr (qup (qclr (qup (qclr (qup (qclr (qup (qclr (qup (qclr (qup (qclr (qup (qclr (qup (qclr (qup (qclr (qup (qup (qclr (qup (qclr (qup (qclr (qup (qclr (qup (qclr (qup (qclr (qup (qclr (qup (qclr (qup (qclr (qup (qclr (qup (qclr (qup (qclr (qup (qup (qclr (qup (qclr (qup (qclr (qup (qclr (qup (qclr (qup (qclr (qup (qclr (qup (qclr w 96) 95 0 96) 97) 95 1 97) 98) 95 2 98) 99) 95 3 99) 100) 95 4 100) 101) 95 5 101) 102) 95 6 102) 103) 95 7 103) 95 9 (-1)) 104) 95 10 104) 105) 95 11 105) 106) 95 12 106) 107) 95 13 107) 108) 95 14 108) 109) 95 15 109) 110) 95 16 110) 111) 95 17 111) 112) 95 18 112) 113) 95 19 113) 114) 95 20 114) 115) 95 21 115) 95 34 (-1)) 116) 95 36 116) 117) 95 44 117) 118) 95 45 118) 119) 95 47 119) 120) 95 48 120) 121) 95 49 121) 122) 95 52 122) 123) 95 53 123) 124) 95 54 124) 125) 95 58 125) 126) 95 59 126) 127) 95 60 127) 128) 95 61 128) 129) 95 62 129) 130) 95 63 130) 131) 95 64 131) 132) 95 65 132)) (n' := 132) rfl ?_
  refine qG.blk 1 (pc' := 325) (ls' := [(2, 95)]) (st' := [(2, 133), (2, 95)]) (w' := (qclr (qup (qclr (qup (qclr (qup (qclr (qup (qclr (qup (qclr (qup (qclr (qup (qclr (qup (qclr (qup (qclr (qup (qclr (qup (qclr (qup (qclr (qup (qclr (qup (qclr (qup (qclr (qup (qclr (qup (qclr (qup (qup (qclr (qup (qclr (qup (qclr (qup (qclr (qup (qclr (qup (qclr (qup (qclr (qup (qclr (qup (qclr (qup (qclr (qup (qclr (qup (qclr (qup (qup (qclr (qup (qclr (qup (qclr (qup (qclr (qup (qclr (qup (qclr (qup (qclr (qup (qclr w 96) 95 0 96) 97) 95 1 97) 98) 95 2 98) 99) 95 3 99) 100) 95 4 100) 101) 95 5 101) 102) 95 6 102) 103) 95 7 103) 95 9 (-1)) 104) 95 10 104) 105) 95 11 105) 106) 95 12 106) 107) 95 13 107) 108) 95 14 108) 109) 95 15 109) 110) 95 16 110) 111) 95 17 111) 112) 95 18 112) 113) 95 19 113) 114) 95 20 114) 115) 95 21 115) 95 34 (-1)) 116) 95 36 116) 117) 95 44 117) 118) 95 45 118) 119) 95 47 119) 120) 95 48 120) 121) 95 49 121) 122) 95 52 122) 123) 95 53 123) 124) 95 54 124) 125) 95 58 125) 126) 95 59 126) 127) 95 60 127) 128) 95 61 128) 129) 95 62 129) 130) 95 63 130) 131) 95 64 131) 132) 95 65 132) 133)) (n' := 133) rfl ?_
  refine qG.blk 3 (pc' := 331) (ls' := [(2, 95)]) (st' := [(0, 60), (2, 95)]) (w' := (qup (qclr (qup (qclr (qup (qclr (qup (qclr (qup (qclr (qup (qclr (qup (qclr (qup (qclr (qup (qclr (qup (qclr (qup (qclr (qup (qclr (qup (qclr (qup (qclr (qup (qclr (qup (qclr (qup (qclr (qup (qclr (qup (qup (qclr (qup (qclr (qup (qclr (qup (qclr (qup (qclr (qup (qclr (qup (qclr (qup (qclr (qup (qclr (qup (qclr (qup (qclr (qup (qclr (qup (qup (qclr (qup (qclr (qup (qclr (qup (qclr (qup (qclr (qup (qclr (qup (qclr (qup (qclr w 96) 95 0 96) 97) 95 1 97) 98) 95 2 98) 99) 95 3 99) 100) 95 4 100) 101) 95 5 101) 102) 95 6 102) 103) 95 7 103) 95 9 (-1)) 104) 95 10 104) 105) 95 11 105) 106) 95 12 106) 107) 95 13 107) 108) 95 14 108) 109) 95 15 109) 110) 95 16 110) 111) 95 17 111) 112) 95 18 112) 113) 95 19 113) 114) 95 20 114) 115) 95 21 115) 95 34 (-1)) 116) 95 36 116) 117) 95 44 117) 118) 95 45 118) 119) 95 47 119) 120) 95 48 120) 121) 95 49 121) 122) 95 52 122) 123) 95 53 123) 124) 95 54 124) 125) 95 58 125) 126) 95 59 126) 127) 95 60 127) 128) 95 61 128) 129) 95 62 129) 130) 95 63 130) 131) 95 64 131) 132) 95 65 132) 133) 95 66 133)) (n' := 133) rfl ?_
  refine qG.blk 1 (pc' := 333) (ls' := [(2, 95)]) (st' := [(2, 134), (2, 95)]) (w' := (qclr (qup (qclr (qup (qclr (qup (qclr (qup (qclr (qup (qclr (qup (qclr (qup (qclr (qup (qclr (qup (qclr (qup (qclr (qup (qclr (qup (qclr (qup (qclr (qup (qclr (qup (qclr (qup (qclr (qup (qclr (qup (qclr (qup (qup (qclr (qup (qclr (qup (qclr (qup (qclr (qup (qclr (qup (qclr (qup (qclr (qup (qclr (qup (qclr (qup (qclr (qup (qclr (qup (qclr (qup (qup (qclr (qup (qclr (qup (qclr (qup (qclr (qup (qclr (qup (qclr (qup (qclr (qup (qclr w 96) 95 0 96) 97) 95 1 97) 98) 95 2 98) 99) 95 3 99) 100) 95 4 100) 101) 95 5 101) 102) 95 6 102) 103) 95 7 103) 95 9 (-1)) 104) 95 10 104) 105) 95 11 105) 106) 95 12 106) 107) 95 13 107) 108) 95 14 108) 109) 95 15 109) 110) 95 16 110) 111) 95 17 111) 112) 95 18 112) 113) 95 19 113) 114) 95 20 114) 115) 95 21 115) 95 34 (-1)) 116) 95 36 116) 117) 95 44 117) 118) 95 45 118) 119) 95 47 119) 120) 95 48 120) 121) 95 49 121) 122) 95 52 122) 123) 95 53 123) 124) 95 54 124) 125) 95 58 125) 126) 95 59 126) 127) 95 60 127) 128) 95 61 128) 129) 95 62 129) 130) 95 63 130) 131) 95 64 131) 132) 95 65 132) 133) 95 66 133) 134)) (n' := 134) rfl ?_
  refine qG.blk 3 (pc' := 339) (ls' := [(2, 95)]) (st' := [(0, 60), (2, 95)]) (w' := (qup (qclr (qup (qclr (qup (qclr (qup (qclr (qup (qclr (qup (qclr (qup (qclr (qup (qclr (qup (qclr (qup (qclr (qup (qclr (qup (qclr (qup (qclr (qup (qclr (qup (qclr (qup (qclr (qup (qclr (qup (qclr (qup (qclr (qup (qup (qclr (qup (qclr (qup (qclr (qup (qclr (qup (qclr (qup (qclr (qup (qclr (qup (qclr (qup (qclr (qup (qclr (qup (qclr (qup (qclr (qup (qup (qclr (qup (qclr (qup (qclr (qup (qclr (qup (qclr (qup (qclr (qup (qclr (qup (qclr w 96) 95 0 96) 97) 95 1 97) 98) 95 2 98) 99) 95 3 99) 100) 95 4 100) 101) 95 5 101) 102) 95 6 102) 103) 95 7 103) 95 9 (-1)) 104) 95 10 104) 105) 95 11 105) 106) 95 12 106) 107) 95 13 107) 108) 95 14 108) 109) 95 15 109) 110) 95 16 110) 111) 95 17 111) 112) 95 18 112) 113) 95 19 113) 114) 95 20 114) 115) 95 21 115) 95 34 (-1)) 116) 95 36 116) 117) 95 44 117) 118) 95 45 118) 119) 95 47 119) 120) 95 48 120) 121) 95 49 121) 122) 95 52 122) 123) 95 53 123) 124) 95 54 124) 125) 95 58 125) 126) 95 59 126) 127) 95 60 127) 128) 95 61 128) 129) 95 62 129) 130) 95 63 130) 131) 95 64 131) 132) 95 65 132) 133) 95 66 133) 134) 95 67 134)) (n' := 134) rfl ?_
  refine qG.blk 1 (pc' := 341) (ls' := [(2, 95)]) (st' := [(2, 135), (2, 95)]) (w' := (qclr (qup (qclr (qup (qclr (qup (qclr (qup (qclr (qup (qclr (qup (qclr (qup (qclr (qup (qclr (qup (qclr (qup (qclr (qup (qclr (qup (qclr (qup (qclr (qup (qclr (qup (qclr (qup (qclr (qup (qclr (qup (qclr (qup (qclr (qup (qup (qclr (qup (qclr (qup (qclr (qup (qclr (qup (qclr (qup (qclr (qup (qclr (qup (qclr (qup (qclr (qup (qclr (qup (qclr (qup (qclr (qup (qup (qclr (qup (qclr (qup (qclr (qup (qclr (qup (qclr (qup (qclr (qup (qclr (qup (qclr w 96) 95 0 96) 97) 95 1 97) 98) 95 2 98) 99) 95 3 99) 100) 95 4 100) 101) 95 5 101) 102) 95 6 102) 103) 95 7 103) 95 9 (-1)) 104) 95 10 104) 105) 95 11 105) 106) 95 12 106) 107) 95 13 107) 108) 95 14 108) 109) 95 15 109) 110) 95 16 110) 111) 95 17 111) 112) 95 18 112) 113) 95 19 113) 114) 95 20 114) 115) 95 21 115) 95 34 (-1)) 116) 95 36 116) 117) 95 44 117) 118) 95 45 118) 119) 95 47 119) 120) 95 48 120) 121) 95 49 121) 122) 95 52 122) 123) 95 53 123) 124) 95 54 124) 125) 95 58 125) 126) 95 59 126) 127) 95 60 127) 128) 95 61 128) 129) 95 62 129) 130) 95 63 130) 131) 95 64 131) 132) 95 65 132) 133) 95 66 133) 134) 95 67 134) 135)) (n' := 135) rfl ?_
  refine qG.blk 3 (pc' := 347) (ls' := [(2, 95)]) (st' := [(0, 60), (2, 95)]) (w' := (qup (qclr (qup (qclr (qup (qclr (qup (qclr (qup (qclr (qup (qclr (qup (qclr (qup (qclr (qup (qclr (qup (qclr (qup (qclr (qup (qclr (qup (qclr (qup (qclr (qup (qclr (qup (qclr (qup (qclr (qup (qclr (qup (qclr (qup (qclr (qup (qup (qclr (qup (qclr (qup (qclr (qup (qclr (qup (qclr (qup (qclr (qup (qclr (qup (qclr (qup (qclr (qup (qclr (qup (qclr (qup (qclr (qup (qup (qclr (qup (qclr (qup (qclr (qup (qclr (qup (qclr (qup (qclr (qup (qclr (qup (qclr w 96) 95 0 96) 97) 95 1 97) 98) 95 2 98) 99) 95 3 99) 100) 95 4 100) 101) 95 5 101) 102) 95 6 102) 103) 95 7 103) 95 9 (-1)) 104) 95 10 104) 105) 95 11 105) 106) 95 12 106) 107) 95 13 107) 108) 95 14 108) 109) 95 15 109) 110) 95 16 110) 111) 95 17 111) 112) 95 18 112) 113) 95 19 113) 114) 95 20 114) 115) 95 21 115) 95 34 (-1)) 116) 95 36 116) 117) 95 44 117) 118) 95 45 118) 119) 95 47 119) 120) 95 48 120) 121) 95 49 121) 122) 95 52 122) 123) 95 53 123) 124) 95 54 124) 125) 95 58 125) 126) 95 59 126) 127) 95 60 127) 128) 95 61 128) 129) 95 62 129) 130) 95 63 130) 131) 95 64 131) 132) 95 65 132) 133) 95 66 133) 134) 95 67 134) 135) 95 68 135)) (n' := 135) rfl ?_
  refine qG.blk 1 (pc' := 349) (ls' := [(2, 95)]) (st' := [(2, 136), (2, 95)]) (w' := (qclr (qup (qclr (qup (qclr (qup (qclr (qup (qclr (qup (qclr (qup (qclr (qup (qclr (qup (qclr (qup (qclr (qup (qclr (qup (qclr (qup (qclr (qup (qclr (qup (qclr (qup (qclr (qup (qclr (qup (qclr (qup (qclr (qup (qclr (qup (qclr (qup (qup (qclr (qup (qclr (qup (qclr (qup (qclr (qup (qclr (qup (qclr (qup (qclr (qup (qclr (qup (qclr (qup (qclr (qup (qclr (qup (qclr (qup (qup (qclr (qup (qclr (qup (qclr (qup (qclr (qup (qclr (qup (qclr (qup (qclr (qup (qclr w 96) 95 0 96) 97) 95 1 97) 98) 95 2 98) 99) 95 3 99) 100) 95 4 100) 101) 95 5 101) 102) 95 6 102) 103) 95 7 103) 95 9 (-1)) 104) 95 10 104) 105) 95 11 105) 106) 95 12 106) 107) 95 13 107) 108) 95 14 108) 109) 95 15 109) 110) 95 16 110) 111) 95 17 111) 112) 95 18 112) 113) 95 19 113) 114) 95 20 114) 115) 95 21 115) 95 34 (-1)) 116) 95 36 116) 117) 95 44 117) 118) 95 45 118) 119) 95 47 119) 120) 95 48 120) 121) 95 49 121) 122) 95 52 122) 123) 95 53 123) 124) 95 54 124) 125) 95 58 125) 126) 95 59 126) 127) 95 60 127) 128) 95 61 128) 129) 95 62 129) 130) 95 63 130) 131) 95 64 131) 132) 95 65 132) 133) 95 66 133) 134) 95 67 134) 135) 95 68 135) 136)) (n' := 136) rfl ?_
  refine qG.blk 3 (pc' := 355) (ls' := [(2, 95)]) (st' := [(0, 12), (2, 95)]) (w' := (qup (qclr (qup (qclr (qup (qclr (qup (qclr (qup (qclr (qup (qclr (qup (qclr (qup (qclr (qup (qclr (qup (qclr (qup (qclr (qup (qclr (qup (qclr (qup (qclr (qup (qclr (qup (qclr (qup (qclr (qup (qclr (qup (qclr (qup (qclr (qup (qclr (qup (qup (qclr (qup (qclr (qup (qclr (qup (qclr (qup (qclr (qup (qclr (qup (qclr (qup (qclr (qup (qclr (qup (qclr (qup (qclr (qup (qclr (qup (qup (qclr (qup (qclr (qup (qclr (qup (qclr (qup (qclr (qup (qclr (qup (qclr (qup (qclr w 96) 95 0 96) 97) 95 1 97) 98) 95 2 98) 99) 95 3 99) 100) 95 4 100) 101) 95 5 101) 102) 95 6 102) 103) 95 7 103) 95 9 (-1)) 104) 95 10 104) 105) 95 11 105) 106) 95 12 106) 107) 95 13 107) 108) 95 14 108) 109) 95 15 109) 110) 95 16 110) 111) 95 17 111) 112) 95 18 112) 113) 95 19 113) 114) 95 20 114) 115) 95 21 115) 95 34 (-1)) 116) 95 36 116) 117) 95 44 117) 118) 95 45 118) 119) 95 47 119) 120) 95 48 120) 121) 95 49 121) 122) 95 52 122) 123) 95 53 123) 124) 95 54 124) 125) 95 58 125) 126) 95 59 126) 127) 95 60 127) 128) 95 61 128) 129) 95 62 129) 130) 95 63 130) 131) 95 64 131) 132) 95 65 132) 133) 95 66 133) 134) 95 67 134) 135) 95 68 135) 136) 95 69 136)) (n' := 136) rfl ?_
  refine qG.blk 1 (pc' := 357) (ls' := [(2, 95)]) (st' := [(2, 137), (2, 95)]) (w' := (qclr (qup (qclr (qup (qclr (qup (qclr (qup (qclr (qup (qclr (qup (qclr (qup (qclr (qup (qclr (qup (qclr (qup (qclr (qup (qclr (qup (qclr (qup (qclr (qup (qclr (qup (qclr (qup (qclr (qup (qclr (qup (qclr (qup (qclr (qup (qclr (qup (qclr (qup (qup (qclr (qup (qclr (qup (qclr (qup (qclr (qup (qclr (qup (qclr (qup (qclr (qup (qclr (qup (qclr (qup (qclr (qup (qclr (qup (qclr (qup (qup (qclr (qup (qclr (qup (qclr (qup (qclr (qup (qclr (qup (qclr (qup (qclr (qup (qclr w 96) 95 0 96) 97) 95 1 97) 98) 95 2 98) 99) 95 3 99) 100) 95 4 100) 101) 95 5 101) 102) 95 6 102) 103) 95 7 103) 95 9 (-1)) 104) 95 10 104) 105) 95 11 105) 106) 95 12 106) 107) 95 13 107) 108) 95 14 108) 109) 95 15 109) 110) 95 16 110) 111) 95 17 111) 112) 95 18 112) 113) 95 19 113) 114) 95 20 114) 115) 95 21 115) 95 34 (-1)) 116) 95 36 116) 117) 95 44 117) 118) 95 45 118) 119) 95 47 119) 120) 95 48 120) 121) 95 49 121) 122) 95 52 122) 123) 95 53 123) 124) 95 54 124) 125) 95 58 125) 126) 95 59 126) 127) 95 60 127) 128) 95 61 128) 129) 95 62 129) 130) 95 63 130) 131) 95 64 131) 132) 95 65 132) 133) 95 66 133) 134) 95 67 134) 135) 95 68 135) 136) 95 69 136) 137)) (n' := 137) rfl ?_
  refine qG.blk 3 (pc' := 363) (ls' := [(2, 95)]) (st' := [(0, 60), (2, 95)]) (w' := (qup (qclr (qup (qclr (qup (qclr (qup (qclr (qup (qclr (qup (qclr (qup (qclr (qup (qclr (qup (qclr (qup (qclr (qup (qclr (qup (qclr (qup (qclr (qup (qclr (qup (qclr (qup (qclr (qup (qclr (qup (qclr (qup (qclr (qup (qclr (qup (qclr (qup (qclr (qup (qup (qclr (qup (qclr (qup (qclr (qup (qclr (qup (qclr (qup (qclr (qup (qclr (qup (qclr (qup (qclr (qup (qclr (qup (qclr (qup (qclr (qup (qup (qclr (qup (qclr (qup (qclr (qup (qclr (qup (qclr (qup (qclr (qup (qclr (qup (qclr w 96) 95 0 96) 97) 95 1 97) 98) 95 2 98) 99) 95 3 99) 100) 95 4 100) 101) 95 5 101) 102) 95 6 102) 103) 95 7 103) 95 9 (-1)) 104) 95 10 104) 105) 95 11 105) 106) 95 12 106) 107) 95 13 107) 108) 95 14 108) 109) 95 15 109) 110) 95 16 110) 111) 95 17 111) 112) 95 18 112) 113) 95 19 113) 114) 95 20 114) 115) 95 21 115) 95 34 (-1)) 116) 95 36 116) 117) 95 44 117) 118) 95 45 118) 119) 95 47 119) 120) 95 48 120) 121) 95 49 121) 122) 95 52 122) 123) 95 53 123) 124) 95 54 124) 125) 95 58 125) 126) 95 59 126) 127) 95 60 127) 128) 95 61 128) 129) 95 62 129) 130) 95 63 130) 131) 95 64 131) 132) 95 65 132) 133) 95 66 133) 134) 95 67 134) 135) 95 68 135) 136) 95 69 136) 137) 95 70 137)) (n' := 137) rfl ?_
  refine qG.blk 1 (pc' := 365) (ls' := [(2, 95)]) (st' := [(2, 138), (2, 95)]) (w' := (qclr (qup (qclr (qup (qclr (qup (qclr (qup (qclr (qup (qclr (qup (qclr (qup (qclr (qup (qclr (qup (qclr (qup (qclr (qup (qclr (qup (qclr (qup (qclr (qup (qclr (qup (qclr (qup (qclr (qup (qclr (qup (qclr (qup (qclr (qup (qclr (qup (qclr (qup (qclr (qup (qup (qclr (qup (qclr (qup (qclr (qup (qclr (qup (qclr (qup (qclr (qup (qclr (qup (qclr (qup (qclr (qup (qclr (qup (qclr (qup (qclr (qup (qup (qclr (qup (qclr (qup (qclr (qup (qclr (qup (qclr (qup (qclr (qup (qclr (qup (qclr w 96) 95 0 96) 97) 95 1 97) 98) 95 2 98) 99) 95 3 99) 100) 95 4 100) 101) 95 5 101) 102) 95 6 102) 103) 95 7 103) 95 9 (-1)) 104) 95 10 104) 105) 95 11 105) 106) 95 12 106) 107) 95 13 107) 108) 95 14 108) 109) 95 15 109) 110) 95 16 110) 111) 95 17 111) 112) 95 18 112) 113) 95 19 113) 114) 95 20 114) 115) 95 21 115) 95 34 (-1)) 116) 95 36 116) 117) 95 44 117) 118) 95 45 118) 119) 95 47 119) 120) 95 48 120) 121) 95 49 121) 122) 95 52 122) 123) 95 53 123) 124) 95 54 124) 125) 95 58 125) 126) 95 59 126) 127) 95 60 127) 128) 95 61 128) 129) 95 62 129) 130) 95 63 130) 131) 95 64 131) 132) 95 65 132) 133) 95 66 133) 134) 95 67 134) 135) 95 68 135) 136) 95 69 136) 137) 95 70 137) 138)) (n' := 138) rfl ?_
  refine qG.blk 3 (pc' := 371) (ls' := [(2, 95)]) (st' := [(0, 60), (2, 95)]) (w' := (qup (qclr (qup (qclr (qup (qclr (qup (qclr (qup (qclr (qup (qclr (qup (qclr (qup (qclr (qup (qclr (qup (qclr (qup (qclr (qup (qclr (qup (qclr (qup (qclr (qup (qclr (qup (qclr (qup (qclr (qup (qclr (qup (qclr (qup (qclr (qup (qclr (qup (qclr (qup (qclr (qup (qup (qclr (qup (qclr (qup (qclr (qup (qclr (qup (qclr (qup (qclr (qup (qclr (qup (qclr (qup (qclr (qup (qclr (qup (qclr (qup (qclr (qup (qup (qclr (qup (qclr (qup (qclr (qup (qclr (qup (qclr (qup (qclr (qup (qclr (qup (qclr w 96) 95 0 96) 97) 95 1 97) 98) 95 2 98) 99) 95 3 99) 100) 95 4 100) 101) 95 5 101) 102) 95 6 102) 103) 95 7 103) 95 9 (-1)) 104) 95 10 104) 105) 95 11 105) 106) 95 12 106) 107) 95 13 107) 108) 95 14 108) 109) 95 15 109) 110) 95 16 110) 111) 95 17 111) 112) 95 18 112) 113) 95 19 113) 114) 95 20 114) 115) 95 21 115) 95 34 (-1)) 116) 95 36 116) 117) 95 44 117) 118) 95 45 118) 119) 95 47 119) 120) 95 48 120) 121) 95 49 121) 122) 95 52 122) 123) 95 53 123) 124) 95 54 124) 125) 95 58 125) 126) 95 59 126) 127) 95 60 127) 128) 95 61 128) 129) 95 62 129) 130) 95 63 130) 131) 95 64 131) 132) 95 65 132) 133) 95 66 133) 134) 95 67 134) 135) 95 68 135) 136) 95 69 136) 137) 95 70 137) 138) 95 73 138)) (n' := 138) rfl ?_
  refine qG.blk 1 (pc' := 373) (ls' := [(2, 95)]) (st' := [(2, 139), (2, 95)]) (w' := (qclr (qup (qclr (qup (qclr (qup (qclr (qup (qclr (qup (qclr (qup (qclr (qup (qclr (qup (qclr (qup (qclr (qup (qclr (qup (qclr (qup (qclr (qup (qclr (qup (qclr (qup (qclr (qup (qclr (qup (qclr (qup (qclr (qup (qclr (qup (qclr (qup (qclr (qup (qclr (qup (qclr (qup (qup (qclr (qup (qclr (qup (qclr (qup (qclr (qup (qclr (qup (qclr (qup (qclr (qup (qclr (qup (qclr (qup (qclr (qup (qclr (qup (qclr (qup (qup (qclr (qup (qclr (qup (qclr (qup (qclr (qup (qclr (qup (qclr (qup (qclr (qup (qclr w 96) 95 0 96) 97) 95 1 97) 98) 95 2 98) 99) 95 3 99) 100) 95 4 100) 101) 95 5 101) 102) 95 6 102) 103) 95 7 103) 95 9 (-1)) 104) 95 10 104) 105) 95 11 105) 106) 95 12 106) 107) 95 13 107) 108) 95 14 108) 109) 95 15 109) 110) 95 16 110) 111) 95 17 111) 112) 95 18 112) 113) 95 19 113) 114) 95 20 114) 115) 95 21 115) 95 34 (-1)) 116) 95 36 116) 117) 95 44 117) 118) 95 45 118) 119) 95 47 119) 120) 95 48 120) 121) 95 49 121) 122) 95 52 122) 123) 95 53 123) 124) 95 54 124) 125) 95 58 125) 126) 95 59 126) 127) 95 60 127) 128) 95 61 128) 129) 95 62 129) 130) 95 63 130) 131) 95 64 131) 132) 95 65 132) 133) 95 66 133) 134) 95 67 134) 135) 95 68 135) 136) 95 69 136) 137) 95 70 137) 138) 95 73 138) 139)) (n' := 139) rfl ?_
  refine qG.blk 3 (pc' := 379) (ls' := [(2, 95)]) (st' := [(0, 40), (2, 95)]) (w' := (qup (qclr (qup (qclr (qup (qclr (qup (qclr (qup (qclr (qup (qclr (qup (qclr (qup (qclr (qup (qclr (qup (qclr (qup (qclr (qup (qclr (qup (qclr (qup (qclr (qup (qclr (qup (qclr (qup (qclr (qup (qclr (qup (qclr (qup (qclr (qup (qclr (qup (qclr (qup (qclr (qup (qclr (qup (qup (qclr (qup (qclr (qup (qclr (qup (qclr (qup (qclr (qup (qclr (qup (qclr (qup (qclr (qup (qclr (qup (qclr (qup (qclr (qup (qclr (qup (qup (qclr (qup (qclr (qup (qclr (qup (qclr (qup (qclr (qup (qclr (qup (qclr (qup (qclr w 96) 95 0 96) 97) 95 1 97) 98) 95 2 98) 99) 95 3 99) 100) 95 4 100) 101) 95 5 101) 102) 95 6 102) 103) 95 7 103) 95 9 (-1)) 104) 95 10 104) 105) 95 11 105) 106) 95 12 106) 107) 95 13 107) 108) 95 14 108) 109) 95 15 109) 110) 95 16 110) 111) 95 17 111) 112) 95 18 112) 113) 95 19 113) 114) 95 20 114) 115) 95 21 115) 95 34 (-1)) 116) 95 36 116) 117) 95 44 117) 118) 95 45 118) 119) 95 47 119) 120) 95 48 120) 121) 95 49 121) 122) 95 52 122) 123) 95 53 123) 124) 95 54 124) 125) 95 58 125) 126) 95 59 126) 127) 95 60 127) 128) 95 61 128) 129) 95 62 129) 130) 95 63 130) 131) 95 64 131) 132) 95 65 132) 133) 95 66 133) 134) 95 67 134) 135) 95 68 135) 136) 95 69 136) 137) 95 70 137) 138) 95 73 138) 139) 95 74 139)) (n' := 139) rfl ?_
  refine qG.blk 1 (pc' := 381) (ls' := [(2, 95)]) (st' := [(2, 140), (2, 95)]) (w' := (qclr (qup (qclr (qup (qclr (qup (qclr (qup (qclr (qup (qclr (qup (qclr (qup (qclr (qup (qclr (qup (qclr (qup (qclr (qup (qclr (qup (qclr (qup (qclr (qup (qclr (qup (qclr (qup (qclr (qup (qclr (qup (qclr (qup (qclr (qup (qclr (qup (qclr (qup (qclr (qup (qclr (qup (qclr (qup (qup (qclr (qup (qclr (qup (qclr (qup (qclr (qup (qclr (qup (qclr (qup (qclr (qup (qclr (qup (qclr (qup (qclr (qup (qclr (qup (qclr (qup (qup (qclr (qup (qclr (qup (qclr (qup (qclr (qup (qclr (qup (qclr (qup (qclr (qup (qclr w 96) 95 0 96) 97) 95 1 97) 98) 95 2 98) 99) 95 3 99) 100) 95 4 100) 101) 95 5 101) 102) 95 6 102) 103) 95 7 103) 95 9 (-1)) 104) 95 10 104) 105) 95 11 105) 106) 95 12 106) 107) 95 13 107) 108) 95 14 108) 109) 95 15 109) 110) 95 16 110) 111) 95 17 111) 112) 95 18 112) 113) 95 19 113) 114) 95 20 114) 115) 95 21 115) 95 34 (-1)) 116) 95 36 116) 117) 95 44 117) 118) 95 45 118) 119) 95 47 119) 120) 95 48 120) 121) 95 49 121) 122) 95 52 122) 123) 95 53 123) 124) 95 54 124) 125) 95 58 125) 126) 95 59 126) 127) 95 60 127) 128) 95 61 128) 129) 95 62 129) 130) 95 63 130) 131) 95 64 131) 132) 95 65 132) 133) 95 66 133) 134) 95 67 134) 135) 95 68 135) 136) 95 69 136) 137) 95 70 137) 138) 95 73 138) 139) 95 74 139) 140)) (n' := 140) rfl ?_
  refine qG.blk 3 (pc' := 387) (ls' := [(2, 95)]) (st' := [(0, 20), (2, 95)]) (w' := (qup (qclr (qup (qclr (qup (qclr (qup (qclr (qup (qclr (qup (qclr (qup (qclr (qup (qclr (qup (qclr (qup (qclr (qup (qclr (qup (qclr (qup (qclr (qup (qclr (qup (qclr (qup (qclr (qup (qclr (qup (qclr (qup (qclr (qup (qclr (qup (qclr (qup (qclr (qup (qclr (qup (qclr (qup (qclr (qup (qup (qclr (qup (qclr (qup (qclr (qup (qclr (qup (qclr (qup (qclr (qup (qclr (qup (qclr (qup (qclr (qup (qclr (qup (qclr (qup (qclr (qup (qup (qclr (qup (qclr (qup (qclr (qup (qclr (qup (qclr (qup (qclr (qup (qclr (qup (qclr w 96) 95 0 96) 97) 95 1 97) 98) 95 2 98) 99) 95 3 99) 100) 95 4 100) 101) 95 5 101) 102) 95 6 102) 103) 95 7 103) 95 9 (-1)) 104) 95 10 104) 105) 95 11 105) 106) 95 12 106) 107) 95 13 107) 108) 95 14 108) 109) 95 15 109) 110) 95 16 110) 111) 95 17 111) 112) 95 18 112) 113) 95 19 113) 114) 95 20 114) 115) 95 21 115) 95 34 (-1)) 116) 95 36 116) 117) 95 44 117) 118) 95 45 118) 119) 95 47 119) 120) 95 48 120) 121) 95 49 121) 122) 95 52 122) 123) 95 53 123) 124) 95 54 124) 125) 95 58 125) 126) 95 59 126) 127) 95 60 127) 128) 95 61 128) 129) 95 62 129) 130) 95 63 130) 131) 95 64 131) 132) 95 65 132) 133) 95 66 133) 134) 95 67 134) 135) 95 68 135) 136) 95 69 136) 137) 95 70 137) 138) 95 73 138) 139) 95 74 139) 140) 95 75 140)) (n' := 140) rfl ?_
  refine qG.blk 1 (pc' := 389) (ls' := [(2, 95)]) (st' := [(2, 141), (2, 95)]) (w' := (qclr (qup (qclr (qup (qclr (qup (qclr (qup (qclr (qup (qclr (qup (qclr (qup (qclr (qup (qclr (qup (qclr (qup (qclr (qup (qclr (qup (qclr (qup (qclr (qup (qclr (qup (qclr (qup (qclr (qup (qclr (qup (qclr (qup (qclr (qup (qclr (qup (qclr (qup (qclr (qup (qclr (qup (qclr (qup (qclr (qup (qup (qclr (qup (qclr (qup (qclr (qup (qclr (qup (qclr (qup (qclr (qup (qclr (qup (qclr (qup (qclr (qup (qclr (qup (qclr (qup (qclr (qup (qup (qclr (qup (qclr (qup (qclr (qup (qclr (qup (qclr (qup (qclr (qup (qclr (qup (qclr w 96) 95 0 96) 97) 95 1 97) 98) 95 2 98) 99) 95 3 99) 100) 95 4 100) 101) 95 5 101) 102) 95 6 102) 103) 95 7 103) 95 9 (-1)) 104) 95 10 104) 105) 95 11 105) 106) 95 12 106) 107) 95 13 107) 108) 95 14 108) 109) 95 15 109) 110) 95 16 110) 111) 95 17 111) 112) 95 18 112) 113) 95 19 113) 114) 95 20 114) 115) 95 21 115) 95 34 (-1)) 116) 95 36 116) 117) 95 44 117) 118) 95 45 118) 119) 95 47 119) 120) 95 48 120) 121) 95 49 121) 122) 95 52 122) 123) 95 53 123) 124) 95 54 124) 125) 95 58 125) 126) 95 59 126) 127) 95 60 127) 128) 95 61 128) 129) 95 62 129) 130) 95 63 130) 131) 95 64 131) 132) 95 65 132) 133) 95 66 133) 134) 95 67 134) 135) 95 68 135) 136) 95 69 136) 137) 95 70 137) 138) 95 73 138) 139) 95 74 139) 140) 95 75 140) 141)) (n' := 141) rfl ?_
  refine qG.blk 3 (pc' := 395) (ls' := [(2, 95)]) (st' := [(0, 20), (2, 95)]) (w' := (qup (qclr (qup (qclr (qup (qclr (qup (qclr (qup (qclr (qup (qclr (qup (qclr (qup (qclr (qup (qclr (qup (qclr (qup (qclr (qup (qclr (qup (qclr (qup (qclr (qup (qclr (qup (qclr (qup (qclr (qup (qclr (qup (qclr (qup (qclr (qup (qclr (qup (qclr (qup (qclr (qup (qclr (qup (qclr (qup (qclr (qup (qup (qclr (qup (qclr (qup (qclr (qup (qclr (qup (qclr (qup (qclr (qup (qclr (qup (qclr (qup (qclr (qup (qclr (qup (qclr (qup (qclr (qup (qup (qclr (qup (qclr (qup (qclr (qup (qclr (qup (qclr (qup (qclr (qup (qclr (qup (qclr w 96) 95 0 96) 97) 95 1 97) 98) 95 2 98) 99) 95 3 99) 100) 95 4 100) 101) 95 5 101) 102) 95 6 102) 103) 95 7 103) 95 9 (-1)) 104) 95 10 104) 105) 95 11 105) 106) 95 12 106) 107) 95 13 107) 108) 95 14 108) 109) 95 15 109) 110) 95 16 110) 111) 95 17 111) 112) 95 18 112) 113) 95 19 113) 114) 95 20 114) 115) 95 21 115) 95 34 (-1)) 116) 95 36 116) 117) 95 44 117) 118) 95 45 118) 119) 95 47 119) 120) 95 48 120) 121) 95 49 121) 122) 95 52 122) 123) 95 53 123) 124) 95 54 124) 125) 95 58 125) 126) 95 59 126) 127) 95 60 127) 128) 95 61 128) 129) 95 62 129) 130) 95 63 130) 131) 95 64 131) 132) 95 65 132) 133) 95 66 133) 134) 95 67 134) 135) 95 68 135) 136) 95 69 136) 137) 95 70 137) 138) 95 73 138) 139) 95 74 139) 140) 95 75 140) 141) 95 78 141)) (n' := 141) rfl ?_
  refine qG.blk 1 (pc' := 397) (ls' := [(2, 95)]) (st' := [(2, 142), (2, 95)]) (w' := (qclr (qup (qclr (qup (qclr (qup (qclr (qup (qclr (qup (qclr (qup (qclr (qup (qclr (qup (qclr (qup (qclr (qup (qclr (qup (qclr (qup (qclr (qup (qclr (qup (qclr (qup (qclr (qup (qclr (qup (qclr (qup (qclr (qup (qclr (qup (qclr (qup (qclr (qup (qclr (qup (qclr (qup (qclr (qup (qclr (qup (qclr (qup (qup (qclr (qup (qclr (qup (qclr (qup (qclr (qup (qclr (qup (qclr (qup (qclr (qup (qclr (qup (qclr (qup (qclr (qup (qclr (qup (qclr (qup (qup (qclr (qup (qclr (qup (qclr (qup (qclr (qup (qclr (qup (qclr (qup (qclr (qup (qclr w 96) 95 0 96) 97) 95 1 97) 98) 95 2 98) 99) 95 3 99) 100) 95 4 100) 101) 95 5 101) 102) 95 6 102) 103) 95 7 103) 95 9 (-1)) 104) 95 10 104) 105) 95 11 105) 106) 95 12 106) 107) 95 13 107) 108) 95 14 108) 109) 95 15 109) 110) 95 16 110) 111) 95 17 111) 112) 95 18 112) 113) 95 19 113) 114) 95 20 114) 115) 95 21 115) 95 34 (-1)) 116) 95 36 116) 117) 95 44 117) 118) 95 45 118) 119) 95 47 119) 120) 95 48 120) 121) 95 49 121) 122) 95 52 122) 123) 95 53 123) 124) 95 54 124) 125) 95 58 125) 126) 95 59 126) 127) 95 60 127) 128) 95 61 128) 129) 95 62 129) 130) 95 63 130) 131) 95 64 131) 132) 95 65 132) 133) 95 66 133) 134) 95 67 134) 135) 95 68 135) 136) 95 69 136) 137) 95 70 137) 138) 95 73 138) 139) 95 74 139) 140) 95 75 140) 141) 95 78 141) 142)) (n' := 142) rfl ?_
  refine qG.blk 1 (pc' := 400) (ls' := [(2, 95)]) (st' := []) (w' := (qup (qclr (qup (qclr (qup (qclr (qup (qclr (qup (qclr (qup (qclr (qup (qclr (qup (qclr (qup (qclr (qup (qclr (qup (qclr (qup (qclr (qup (qclr (qup (qclr (qup (qclr (qup (qclr (qup (qclr (qup (qclr (qup (qclr (qup (qclr (qup (qclr (qup (qclr (qup (qclr (qup (qclr (qup (qclr (qup (qclr (qup (qclr (qup (qup (qclr (qup (qclr (qup (qclr (qup (qclr (qup (qclr (qup (qclr (qup (qclr (qup (qclr (qup (qclr (qup (qclr (qup (qclr (qup (qclr (qup (qup (qclr (qup (qclr (qup (qclr (qup (qclr (qup (qclr (qup (qclr (qup (qclr (qup (qclr w 96) 95 0 96) 97) 95 1 97) 98) 95 2 98) 99) 95 3 99) 100) 95 4 100) 101) 95 5 101) 102) 95 6 102) 103) 95 7 103) 95 9 (-1)) 104) 95 10 104) 105) 95 11 105) 106) 95 12 106) 107) 95 13 107) 108) 95 14 108) 109) 95 15 109) 110) 95 16 110) 111) 95 17 111) 112) 95 18 112) 113) 95 19 113) 114) 95 20 114) 115) 95 21 115) 95 34 (-1)) 116) 95 36 116) 117) 95 44 117) 118) 95 45 118) 119) 95 47 119) 120) 95 48 120) 121) 95 49 121) 122) 95 52 122) 123) 95 53 123) 124) 95 54 124) 125) 95 58 125) 126) 95 59 126) 127) 95 60 127) 128) 95 61 128) 129) 95 62 129) 130) 95 63 130) 131) 95 64 131) 132) 95 65 132) 133) 95 66 133) 134) 95 67 134) 135) 95 68 135) 136) 95 69 136) 137) 95 70 137) 138) 95 73 138) 139) 95 74 139) 140) 95 75 140) 141) 95 78 141) 142) 95 79 142)) (n' := 142) rfl ?_
  refine qG.retv rfl rfl ?_
  subst hQ9
  refine ⟨rfl, fun p j => ?_, rfl⟩
  by_cases c1 : p < 95
  · rw [if_pos c1]; simp (disch := first | decide | omega) only [qup_ne, qup_j, qclr_lo, qmul_lo]
  rw [if_neg c1]
  by_cases c2 : 142 < p
  · rw [if_neg (by omega)]; simp (disch := first | decide | omega) only [qup_ne, qup_j, qclr_lo, qmul_lo, qclr_at, qmul_hi]
  rw [if_pos (by omega)]
  rcases (show p = 95 ∨ p = 96 ∨ p = 97 ∨ p = 98 ∨ p = 99 ∨ p = 100 ∨ p = 101 ∨ p = 102 ∨ p = 103 ∨ p = 104 ∨ p = 105 ∨ p = 106 ∨ p = 107 ∨ p = 108 ∨ p = 109 ∨ p = 110 ∨ p = 111 ∨ p = 112 ∨ p = 113 ∨ p = 114 ∨ p = 115 ∨ p = 116 ∨ p = 117 ∨ p = 118 ∨ p = 119 ∨ p = 120 ∨ p = 121 ∨ p = 122 ∨ p = 123 ∨ p = 124 ∨ p = 125 ∨ p = 126 ∨ p = 127 ∨ p = 128 ∨ p = 129 ∨ p = 130 ∨ p = 131 ∨ p = 132 ∨ p = 133 ∨ p = 134 ∨ p = 135 ∨ p = 136 ∨ p = 137 ∨ p = 138 ∨ p = 139 ∨ p = 140 ∨ p = 141 ∨ p = 142 by omega) with rfl | rfl | rfl | rfl | rfl | rfl | rfl | rfl | rfl | rfl | rfl | rfl | rfl | rfl | rfl | rfl | rfl | rfl | rfl | rfl | rfl | rfl | rfl | rfl | rfl | rfl | rfl | rfl | rfl | rfl | rfl | rfl | rfl | rfl | rfl | rfl | rfl | rfl | rfl | rfl | rfl | rfl | rfl | rfl | rfl | rfl | rfl | rfl
  · by_cases c3 : j < 80
    · rcases (show j = 0 ∨ j = 1 ∨ j = 2 ∨ j = 3 ∨ j = 4 ∨ j = 5 ∨ j = 6 ∨ j = 7 ∨ j = 8 ∨ j = 9 ∨ j = 10 ∨ j = 11 ∨ j = 12 ∨ j = 13 ∨ j = 14 ∨ j = 15 ∨ j = 16 ∨ j = 17 ∨ j = 18 ∨ j = 19 ∨ j = 20 ∨ j = 21 ∨ j = 22 ∨ j = 23 ∨ j = 24 ∨ j = 25 ∨ j = 26 ∨ j = 27 ∨ j = 28 ∨ j = 29 ∨ j = 30 ∨ j = 31 ∨ j = 32 ∨ j = 33 ∨ j = 34 ∨ j = 35 ∨ j = 36 ∨ j = 37 ∨ j = 38 ∨ j = 39 ∨ j = 40 ∨ j = 41 ∨ j = 42 ∨ j = 43 ∨ j = 44 ∨ j = 45 ∨ j = 46 ∨ j = 47 ∨ j = 48 ∨ j = 49 ∨ j = 50 ∨ j = 51 ∨ j = 52 ∨ j = 53 ∨ j = 54 ∨ j = 55 ∨ j = 56 ∨ j = 57 ∨ j = 58 ∨ j = 59 ∨ j = 60 ∨ j = 61 ∨ j = 62 ∨ j = 63 ∨ j = 64 ∨ j = 65 ∨ j = 66 ∨ j = 67 ∨ j = 68 ∨ j = 69 ∨ j = 70 ∨ j = 71 ∨ j = 72 ∨ j = 73 ∨ j = 74 ∨ j = 75 ∨ j = 76 ∨ j = 77 ∨ j = 78 ∨ j = 79 by omega) with rfl | rfl | rfl | rfl | rfl | rfl | rfl | rfl | rfl | rfl | rfl | rfl | rfl | rfl | rfl | rfl | rfl | rfl | rfl | rfl | rfl | rfl | rfl | rfl | rfl | rfl | rfl | rfl | rfl | rfl | rfl | rfl | rfl | rfl | rfl | rfl | rfl | rfl | rfl | rfl | rfl | rfl | rfl | rfl | rfl | rfl | rfl | rfl | rfl | rfl | rfl | rfl | rfl | rfl | rfl | rfl | rfl | rfl | rfl | rfl | rfl | rfl | rfl | rfl | rfl | rfl | rfl | rfl | rfl | rfl | rfl | rfl | rfl | rfl | rfl | rfl | rfl | rfl | rfl | rfl <;> first | rfl | exact hz _ | (simp (disch := first | decide | omega) only [qup_ne, qup_j, qclr_lo, qmul_lo, qup_k, qclr_at, qmul_hi]; done) | (simp (disch := first | decide | omega) only [qup_ne, qup_j, qclr_lo, qmul_lo, qup_k, qclr_at, qmul_hi]; rfl) | (simp (disch := first | decide | omega) only [qup_ne, qup_j, qclr_lo, qmul_lo, qup_k, qclr_at, hz]; rfl)
    · first | (simp (disch := first | decide | omega) only [qup_ne, qup_j, qclr_lo, qmul_lo, hz]; unfold qW0; simp (disch := first | decide | omega) only [qbeq_f, qble_t]; rfl) | (simp (disch := first | decide | omega) only [qup_ne, qup_j, qclr_lo, qmul_lo, qclr_at]; unfold qW0; simp (disch := first | decide | omega) only [qbeq_f, qble_t]; rfl) | (simp (disch := first | decide | omega) only [qup_ne, qup_j, qclr_lo, qmul_lo, qclr_at]; done)
  · first | rfl | (simp (disch := first | decide | omega) only [qup_ne, qup_j, qclr_lo, qmul_lo, qup_k, qclr_at, qmul_hi]; done) | (simp (disch := first | decide | omega) only [qup_ne, qup_j, qclr_lo, qmul_lo, qup_k, qclr_at, qmul_hi]; rfl)
  · first | rfl | (simp (disch := first | decide | omega) only [qup_ne, qup_j, qclr_lo, qmul_lo, qup_k, qclr_at, qmul_hi]; done) | (simp (disch := first | decide | omega) only [qup_ne, qup_j, qclr_lo, qmul_lo, qup_k, qclr_at, qmul_hi]; rfl)
  · first | rfl | (simp (disch := first | decide | omega) only [qup_ne, qup_j, qclr_lo, qmul_lo, qup_k, qclr_at, qmul_hi]; done) | (simp (disch := first | decide | omega) only [qup_ne, qup_j, qclr_lo, qmul_lo, qup_k, qclr_at, qmul_hi]; rfl)
  · first | rfl | (simp (disch := first | decide | omega) only [qup_ne, qup_j, qclr_lo, qmul_lo, qup_k, qclr_at, qmul_hi]; done) | (simp (disch := first | decide | omega) only [qup_ne, qup_j, qclr_lo, qmul_lo, qup_k, qclr_at, qmul_hi]; rfl)
  · first | rfl | (simp (disch := first | decide | omega) only [qup_ne, qup_j, qclr_lo, qmul_lo, qup_k, qclr_at, qmul_hi]; done) | (simp (disch := first | decide | omega) only [qup_ne, qup_j, qclr_lo, qmul_lo, qup_k, qclr_at, qmul_hi]; rfl)
  · first | rfl | (simp (disch := first | decide | omega) only [qup_ne, qup_j, qclr_lo, qmul_lo, qup_k, qclr_at, qmul_hi]; done) | (simp (disch := first | decide | omega) only [qup_ne, qup_j, qclr_lo, qmul_lo, qup_k, qclr_at, qmul_hi]; rfl)
  · first | rfl | (simp (disch := first | decide | omega) only [qup_ne, qup_j, qclr_lo, qmul_lo, qup_k, qclr_at, qmul_hi]; done) | (simp (disch := first | decide | omega) only [qup_ne, qup_j, qclr_lo, qmul_lo, qup_k, qclr_at, qmul_hi]; rfl)
  · first | rfl | (simp (disch := first | decide | omega) only [qup_ne, qup_j, qclr_lo, qmul_lo, qup_k, qclr_at, qmul_hi]; done) | (simp (disch := first | decide | omega) only [qup_ne, qup_j, qclr_lo, qmul_lo, qup_k, qclr_at, qmul_hi]; rfl)
  · first | rfl | (simp (disch := first | decide | omega) only [qup_ne, qup_j, qclr_lo, qmul_lo, qup_k, qclr_at, qmul_hi]; done) | (simp (disch := first | decide | omega) only [qup_ne, qup_j, qclr_lo, qmul_lo, qup_k, qclr_at, qmul_hi]; rfl)
  · first | rfl | (simp (disch := first | decide | omega) only [qup_ne, qup_j, qclr_lo, qmul_lo, qup_k, qclr_at, qmul_hi]; done) | (simp (disch := first | decide | omega) only [qup_ne, qup_j, qclr_lo, qmul_lo, qup_k, qclr_at, qmul_hi]; rfl)
  · first | rfl | (simp (disch := first | decide | omega) only [qup_ne, qup_j, qclr_lo, qmul_lo, qup_k, qclr_at, qmul_hi]; done) | (simp (disch := first | decide | omega) only [qup_ne, qup_j, qclr_lo, qmul_lo, qup_k, qclr_at, qmul_hi]; rfl)
  · first | rfl | (simp (disch := first | decide | omega) only [qup_ne, qup_j, qclr_lo, qmul_lo, qup_k, qclr_at, qmul_hi]; done) | (simp (disch := first | decide | omega) only [qup_ne, qup_j, qclr_lo, qmul_lo, qup_k, qclr_at, qmul_hi]; rfl)
  · first | rfl | (simp (disch := first | decide | omega) only [qup_ne, qup_j, qclr_lo, qmul_lo, qup_k, qclr_at, qmul_hi]; done) | (simp (disch := first | decide | omega) only [qup_ne, qup_j, qclr_lo, qmul_lo, qup_k, qclr_at, qmul_hi]; rfl)
  · first | rfl | (simp (disch := first | decide | omega) only [qup_ne, qup_j, qclr_lo, qmul_lo, qup_k, qclr_at, qmul_hi]; done) | (simp (disch := first | decide | omega) only [qup_ne, qup_j, qclr_lo, qmul_lo, qup_k, qclr_at, qmul_hi]; rfl)
  · first | rfl | (simp (disch := first | decide | omega) only [qup_ne, qup_j, qclr_lo, qmul_lo, qup_k, qclr_at, qmul_hi]; done) | (simp (disch := first | decide | omega) only [qup_ne, qup_j, qclr_lo, qmul_lo, qup_k, qclr_at, qmul_hi]; rfl)
  · first | rfl | (simp (disch := first | decide | omega) only [qup_ne, qup_j, qclr_lo, qmul_lo, qup_k, qclr_at, qmul_hi]; done) | (simp (disch := first | decide | omega) only [qup_ne, qup_j, qclr_lo, qmul_lo, qup_k, qclr_at, qmul_hi]; rfl)
  · first | rfl | (simp (disch := first | decide | omega) only [qup_ne, qup_j, qclr_lo, qmul_lo, qup_k, qclr_at, qmul_hi]; done) | (simp (disch := first | decide | omega) only [qup_ne, qup_j, qclr_lo, qmul_lo, qup_k, qclr_at, qmul_hi]; rfl)
  · first | rfl | (simp (disch := first | decide | omega) only [qup_ne, qup_j, qclr_lo, qmul_lo, qup_k, qclr_at, qmul_hi]; done) | (simp (disch := first | decide | omega) only [qup_ne, qup_j, qclr_lo, qmul_lo, qup_k, qclr_at, qmul_hi]; rfl)
  · first | rfl | (simp (disch := first | decide | omega) only [qup_ne, qup_j, qclr_lo, qmul_lo, qup_k, qclr_at, qmul_hi]; done) | (simp (disch := first | decide | omega) only [qup_ne, qup_j, qclr_lo, qmul_lo, qup_k, qclr_at, qmul_hi]; rfl)
  · first | rfl | (simp (disch := first | decide | omega) only [qup_ne, qup_j, qclr_lo, qmul_lo, qup_k, qclr_at, qmul_hi]; done) | (simp (disch := first | decide | omega) only [qup_ne, qup_j, qclr_lo, qmul_lo, qup_k, qclr_at, qmul_hi]; rfl)
  · first | rfl | (simp (disch := first | decide | omega) only [qup_ne, qup_j, qclr_lo, qmul_lo, qup_k, qclr_at, qmul_hi]; done) | (simp (disch := first | decide | omega) only [qup_ne, qup_j, qclr_lo, qmul_lo, qup_k, qclr_at, qmul_hi]; rfl)
  · first | rfl | (simp (disch := first | decide | omega) only [qup_ne, qup_j, qclr_lo, qmul_lo, qup_k, qclr_at, qmul_hi]; done) | (simp (disch := first | decide | omega) only [qup_ne, qup_j, qclr_lo, qmul_lo, qup_k, qclr_at, qmul_hi]; rfl)
  · first | rfl | (simp (disch := first | decide | omega) only [qup_ne, qup_j, qclr_lo, qmul_lo, qup_k, qclr_at, qmul_hi]; done) | (simp (disch := first | decide | omega) only [qup_ne, qup_j, qclr_lo, qmul_lo, qup_k, qclr_at, qmul_hi]; rfl)
  · first | rfl | (simp (disch := first | decide | omega) only [qup_ne, qup_j, qclr_lo, qmul_lo, qup_k, qclr_at, qmul_hi]; done) | (simp (disch := first | decide | omega) only [qup_ne, qup_j, qclr_lo, qmul_lo, qup_k, qclr_at, qmul_hi]; rfl)
  · first | rfl | (simp (disch := first | decide | omega) only [qup_ne, qup_j, qclr_lo, qmul_lo, qup_k, qclr_at, qmul_hi]; done) | (simp (disch := first | decide | omega) only [qup_ne, qup_j, qclr_lo, qmul_lo, qup_k, qclr_at, qmul_hi]; rfl)
  · first | rfl | (simp (disch := first | decide | omega) only [qup_ne, qup_j, qclr_lo, qmul_lo, qup_k, qclr_at, qmul_hi]; done) | (simp (disch := first | decide | omega) only [qup_ne, qup_j, qclr_lo, qmul_lo, qup_k, qclr_at, qmul_hi]; rfl)
  · first | rfl | (simp (disch := first | decide | omega) only [qup_ne, qup_j, qclr_lo, qmul_lo, qup_k, qclr_at, qmul_hi]; done) | (simp (disch := first | decide | omega) only [qup_ne, qup_j, qclr_lo, qmul_lo, qup_k, qclr_at, qmul_hi]; rfl)
  · first | rfl | (simp (disch := first | decide | omega) only [qup_ne, qup_j, qclr_lo, qmul_lo, qup_k, qclr_at, qmul_hi]; done) | (simp (disch := first | decide | omega) only [qup_ne, qup_j, qclr_lo, qmul_lo, qup_k, qclr_at, qmul_hi]; rfl)
  · first | rfl | (simp (disch := first | decide | omega) only [qup_ne, qup_j, qclr_lo, qmul_lo, qup_k, qclr_at, qmul_hi]; done) | (simp (disch := first | decide | omega) only [qup_ne, qup_j, qclr_lo, qmul_lo, qup_k, qclr_at, qmul_hi]; rfl)
  · first | rfl | (simp (disch := first | decide | omega) only [qup_ne, qup_j, qclr_lo, qmul_lo, qup_k, qclr_at, qmul_hi]; done) | (simp (disch := first | decide | omega) only [qup_ne, qup_j, qclr_lo, qmul_lo, qup_k, qclr_at, qmul_hi]; rfl)
  · first | rfl | (simp (disch := first | decide | omega) only [qup_ne, qup_j, qclr_lo, qmul_lo, qup_k, qclr_at, qmul_hi]; done) | (simp (disch := first | decide | omega) only [qup_ne, qup_j, qclr_lo, qmul_lo, qup_k, qclr_at, qmul_hi]; rfl)
  · first | rfl | (simp (disch := first | decide | omega) only [qup_ne, qup_j, qclr_lo, qmul_lo, qup_k, qclr_at, qmul_hi]; done) | (simp (disch := first | decide | omega) only [qup_ne, qup_j, qclr_lo, qmul_lo, qup_k, qclr_at, qmul_hi]; rfl)
  · first | rfl | (simp (disch := first | decide | omega) only [qup_ne, qup_j, qclr_lo, qmul_lo, qup_k, qclr_at, qmul_hi]; done) | (simp (disch := first | decide | omega) only [qup_ne, qup_j, qclr_lo, qmul_lo, qup_k, qclr_at, qmul_hi]; rfl)
  · first | rfl | (simp (disch := first | decide | omega) only [qup_ne, qup_j, qclr_lo, qmul_lo, qup_k, qclr_at, qmul_hi]; done) | (simp (disch := first | decide | omega) only [qup_ne, qup_j, qclr_lo, qmul_lo, qup_k, qclr_at, qmul_hi]; rfl)
  · first | rfl | (simp (disch := first | decide | omega) only [qup_ne, qup_j, qclr_lo, qmul_lo, qup_k, qclr_at, qmul_hi]; done) | (simp (disch := first | decide | omega) only [qup_ne, qup_j, qclr_lo, qmul_lo, qup_k, qclr_at, qmul_hi]; rfl)
  · first | rfl | (simp (disch := first | decide | omega) only [qup_ne, qup_j, qclr_lo, qmul_lo, qup_k, qclr_at, qmul_hi]; done) | (simp (disch := first | decide | omega) only [qup_ne, qup_j, qclr_lo, qmul_lo, qup_k, qclr_at, qmul_hi]; rfl)
  · first | rfl | (simp (disch := first | decide | omega) only [qup_ne, qup_j, qclr_lo, qmul_lo, qup_k, qclr_at, qmul_hi]; done) | (simp (disch := first | decide | omega) only [qup_ne, qup_j, qclr_lo, qmul_lo, qup_k, qclr_at, qmul_hi]; rfl)
  · first | rfl | (simp (disch := first | decide | omega) only [qup_ne, qup_j, qclr_lo, qmul_lo, qup_k, qclr_at, qmul_hi]; done) | (simp (disch := first | decide | omega) only [qup_ne, qup_j, qclr_lo, qmul_lo, qup_k, qclr_at, qmul_hi]; rfl)
  · first | rfl | (simp (disch := first | decide | omega) only [qup_ne, qup_j, qclr_lo, qmul_lo, qup_k, qclr_at, qmul_hi]; done) | (simp (disch := first | decide | omega) only [qup_ne, qup_j, qclr_lo, qmul_lo, qup_k, qclr_at, qmul_hi]; rfl)
  · first | rfl | (simp (disch := first | decide | omega) only [qup_ne, qup_j, qclr_lo, qmul_lo, qup_k, qclr_at, qmul_hi]; done) | (simp (disch := first | decide | omega) only [qup_ne, qup_j, qclr_lo, qmul_lo, qup_k, qclr_at, qmul_hi]; rfl)
  · first | rfl | (simp (disch := first | decide | omega) only [qup_ne, qup_j, qclr_lo, qmul_lo, qup_k, qclr_at, qmul_hi]; done) | (simp (disch := first | decide | omega) only [qup_ne, qup_j, qclr_lo, qmul_lo, qup_k, qclr_at, qmul_hi]; rfl)
  · first | rfl | (simp (disch := first | decide | omega) only [qup_ne, qup_j, qclr_lo, qmul_lo, qup_k, qclr_at, qmul_hi]; done) | (simp (disch := first | decide | omega) only [qup_ne, qup_j, qclr_lo, qmul_lo, qup_k, qclr_at, qmul_hi]; rfl)
  · first | rfl | (simp (disch := first | decide | omega) only [qup_ne, qup_j, qclr_lo, qmul_lo, qup_k, qclr_at, qmul_hi]; done) | (simp (disch := first | decide | omega) only [qup_ne, qup_j, qclr_lo, qmul_lo, qup_k, qclr_at, qmul_hi]; rfl)
  · first | rfl | (simp (disch := first | decide | omega) only [qup_ne, qup_j, qclr_lo, qmul_lo, qup_k, qclr_at, qmul_hi]; done) | (simp (disch := first | decide | omega) only [qup_ne, qup_j, qclr_lo, qmul_lo, qup_k, qclr_at, qmul_hi]; rfl)
  · first | rfl | (simp (disch := first | decide | omega) only [qup_ne, qup_j, qclr_lo, qmul_lo, qup_k, qclr_at, qmul_hi]; done) | (simp (disch := first | decide | omega) only [qup_ne, qup_j, qclr_lo, qmul_lo, qup_k, qclr_at, qmul_hi]; rfl)
  · first | rfl | (simp (disch := first | decide | omega) only [qup_ne, qup_j, qclr_lo, qmul_lo, qup_k, qclr_at, qmul_hi]; done) | (simp (disch := first | decide | omega) only [qup_ne, qup_j, qclr_lo, qmul_lo, qup_k, qclr_at, qmul_hi]; rfl)
  · first | rfl | (simp (disch := first | decide | omega) only [qup_ne, qup_j, qclr_lo, qmul_lo, qup_k, qclr_at, qmul_hi]; done) | (simp (disch := first | decide | omega) only [qup_ne, qup_j, qclr_lo, qmul_lo, qup_k, qclr_at, qmul_hi]; rfl)
end
section
/-! constructors with loops -/
theorem qdiv_n {s m : Nat} (hs : s < 2147483648) : qdiv (s : Int) (m : Int) = ((s / m : Nat) : Int) := by
  unfold qdiv
  have h1 : (s : Int).tdiv (m : Int) = ((s / m : Nat) : Int) := rfl
  have h2 : s / m ≤ s := Nat.div_le_self _ _
  rw [h1]
  generalize s / m = q at h2 ⊢
  exact wrp_id (by omega) (by omega)
theorem qrem_n {s m : Nat} (hs : s < 2147483648) : qrem (s : Int) (m : Int) = ((s % m : Nat) : Int) := by
  have h0 := qdiv_n (m := m) hs
  unfold qdiv at h0
  unfold qrem
  rw [h0]
  have h : (m : Int) * ((s / m : Nat) : Int) + ((s % m : Nat) : Int) = (s : Int) := by exact_mod_cast Nat.div_add_mod s m
  have h3 : s % m ≤ s := Nat.mod_le _ _
  rw [Int.mul_comm]
  generalize (m : Int) * ((s / m : Nat) : Int) = z at h ⊢
  generalize s % m = r at h h3 ⊢
  rw [show (s : Int) - z = (r : Int) by omega]
  exact wrp_id (by omega) (by omega)
noncomputable def dd (a b : Nat) : Nat := if a ≤ b then b - a else a - b
theorem dd_abs {a b : Nat} (ha : a < 1000) (hb : b < 1000) : (if 0 ≤ (a : Int) - (b : Int) then (a : Int) - (b : Int) else wrp (0 - ((a : Int) - (b : Int)))) = ((dd a b : Nat) : Int) := by
  unfold dd
  by_cases h : a ≤ b
  · rw [if_pos h]
    by_cases h2 : (0 : Int) ≤ (a : Int) - (b : Int)
    · rw [if_pos h2]; omega
    · rw [if_neg h2, wrp_id (by omega) (by omega)]; omega
  · rw [if_neg h, if_pos (by omega)]; omega
theorem dd_lt {a b n : Nat} (ha : a < n) (hb : b < n) : dd a b < n := by unfold dd; split <;> omega
/-- neighbours -/
noncomputable def nbB (s t : Nat) : Bool := Nat.beq (dd (s % 4) (t % 4) + dd (s / 4 % 2) (t / 4 % 2) + dd (s / 8) (t / 8)) 1
noncomputable def nbp (s : Nat) : Nat → Int
  | 0 => 0
  | t + 1 => if nbB s t = true then qor (nbp s t) (qshl 1 (t : Int)) else nbp s t
theorem nbp_16 : ∀ s, s < 16 → nbp s 16 = qW0 65 s ∧ nbp s 16 = qW0 70 s ∧ nbp s 16 = qW0 75 s := by decide +kernel
theorem K_X2_areN {d : Nat} (hd : 1 ≤ d) (s t : Nat) (hs : s < 16) (ht : t < 16) (w : qW) (n : Nat) : qG none d 18 0 [(0, ((s : Nat) : Int)), (0, ((t : Nat) : Int)), (9, 0), (9, 0), (9, 0)] [] w n (fun (r : qV) (w1 : qW) (n1 : Nat) => r = (0, if nbB s t = true then 1 else 0) ∧ w1 = w ∧ n1 = n) := by
  generalize hQ9 : (fun (r : qV) (w1 : qW) (n1 : Nat) => r = (0, if nbB s t = true then 1 else 0) ∧ w1 = w ∧ n1 = n) = Q9
  have e1 := dd_lt (n := 4) (a := s % 4) (b := t % 4) (by omega) (by omega)
  have e2 := dd_lt (n := 2) (a := s / 4 % 2) (b := t / 4 % 2) (by omega) (by omega)
  have e3 := dd_lt (n := 2) (a := s / 8) (b := t / 8) (by omega) (by omega)
  obtain ⟨d, rfl⟩ : ∃ d9, d = d9 + 1 := ⟨d - 1, by omega⟩
  refine qG.blk 2 (pc' := 2) (ls' := [(0, ((s : Nat) : Int)), (0, ((t : Nat) : Int)), (9, 0), (9, 0), (9, 0)]) (st' := [(0, 4), (0, ((s : Nat) : Int))]) (w' := w) (n' := n) rfl ?_
  refine qG.gn (P := 4 = 0) (pc' := 3) (ls' := [(0, ((s : Nat) : Int)), (0, ((t : Nat) : Int)), (9, 0), (9, 0), (9, 0)]) (st' := [(0, qrem ((s : Nat) : Int) 4)]) (w' := w) (n' := n) rfl (by decide) ?_
  rw [show qrem ((s : Nat) : Int) 4 = ((s % 4 : Nat) : Int) from qrem_n (m := 4) (by omega)]
  refine qG.blk 2 (pc' := 5) (ls' := [(0, ((s : Nat) : Int)), (0, ((t : Nat) : Int)), (9, 0), (9, 0), (9, 0)]) (st' := [(0, 4), (0, ((t : Nat) : Int)), (0, ((s % 4 : Nat) : Int))]) (w' := w) (n' := n) rfl ?_
  refine qG.gn (P := 4 = 0) (pc' := 6) (ls' := [(0, ((s : Nat) : Int)), (0, ((t : Nat) : Int)), (9, 0), (9, 0), (9, 0)]) (st' := [(0, qrem ((t : Nat) : Int) 4), (0, ((s % 4 : Nat) : Int))]) (w' := w) (n' := n) rfl (by decide) ?_
  rw [show qrem ((t : Nat) : Int) 4 = ((t % 4 : Nat) : Int) from qrem_n (m := 4) (by omega)]
  refine qG.blk 1 (pc' := 7) (ls' := [(0, ((s : Nat) : Int)), (0, ((t : Nat) : Int)), (9, 0), (9, 0), (9, 0)]) (st' := [(0, wrp (((s % 4 : Nat) : Int) - ((t % 4 : Nat) : Int)))]) (w' := w) (n' := n) rfl ?_
  rw [show wrp (((s % 4 : Nat) : Int) - ((t % 4 : Nat) : Int)) = ((s % 4 : Nat) : Int) - ((t % 4 : Nat) : Int) from wrp_id (by omega) (by omega)]
  refine qG.mth rfl rfl rfl rfl (pc' := 10) (ls' := [(0, ((s : Nat) : Int)), (0, ((t : Nat) : Int)), (9, 0), (9, 0), (9, 0)]) (st' := [(0, (if 0 ≤ ((s % 4 : Nat) : Int) - ((t % 4 : Nat) : Int) then ((s % 4 : Nat) : Int) - ((t % 4 : Nat) : Int) else wrp (0 - (((s % 4 : Nat) : Int) - ((t % 4 : Nat) : Int)))))]) (w' := w) (n' := n) rfl ?_
  rw [show (if 0 ≤ ((s % 4 : Nat) : Int) - ((t % 4 : Nat) : Int) then ((s % 4 : Nat) : Int) - ((t % 4 : Nat) : Int) else wrp (0 - (((s % 4 : Nat) : Int) - ((t % 4 : Nat) : Int)))) = ((dd (s % 4) (t % 4) : Nat) : Int) from dd_abs (by omega) (by omega)]
  refine qG.blk 3 (pc' := 13) (ls' := [(0, ((s : Nat) : Int)), (0, ((t : Nat) : Int)), (0, ((dd (s % 4) (t % 4) : Nat) : Int)), (9, 0), (9, 0)]) (st' := [(0, 4), (0, ((s : Nat) : Int))]) (w' := w) (n' := n) rfl ?_
  refine qG.gn (P := 4 = 0) (pc' := 14) (ls' := [(0, ((s : Nat) : Int)), (0, ((t : Nat) : Int)), (0, ((dd (s % 4) (t % 4) : Nat) : Int)), (9, 0), (9, 0)]) (st' := [(0, qdiv ((s : Nat) : Int) 4)]) (w' := w) (n' := n) rfl (by decide) ?_
  rw [show qdiv ((s : Nat) : Int) 4 = ((s / 4 : Nat) : Int) from qdiv_n (m := 4) (by omega)]
  refine qG.blk 1 (pc' := 15) (ls' := [(0, ((s : Nat) : Int)), (0, ((t : Nat) : Int)), (0, ((dd (s % 4) (t % 4) : Nat) : Int)), (9, 0), (9, 0)]) (st' := [(0, 2), (0, ((s / 4 : Nat) : Int))]) (w' := w) (n' := n) rfl ?_
  refine qG.gn (P := 2 = 0) (pc' := 16) (ls' := [(0, ((s : Nat) : Int)), (0, ((t : Nat) : Int)), (0, ((dd (s % 4) (t % 4) : Nat) : Int)), (9, 0), (9, 0)]) (st' := [(0, qrem ((s / 4 : Nat) : Int) 2)]) (w' := w) (n' := n) rfl (by decide) ?_
  rw [show qrem ((s / 4 : Nat) : Int) 2 = ((s / 4 % 2 : Nat) : Int) from qrem_n (m := 2) (by omega)]
  refine qG.blk 2 (pc' := 18) (ls' := [(0, ((s : Nat) : Int)), (0, ((t : Nat) : Int)), (0, ((dd (s % 4) (t % 4) : Nat) : Int)), (9, 0), (9, 0)]) (st' := [(0, 4), (0, ((t : Nat) : Int)), (0, ((s / 4 % 2 : Nat) : Int))]) (w' := w) (n' := n) rfl ?_
  refine qG.gn (P := 4 = 0) (pc' := 19) (ls' := [(0, ((s : Nat) : Int)), (0, ((t : Nat) : Int)), (0, ((dd (s % 4) (t % 4) : Nat) : Int)), (9, 0), (9, 0)]) (st' := [(0, qdiv ((t : Nat) : Int) 4), (0, ((s / 4 % 2 : Nat) : Int))]) (w' := w) (n' := n) rfl (by decide) ?_
  rw [show qdiv ((t : Nat) : Int) 4 = ((t / 4 : Nat) : Int) from qdiv_n (m := 4) (by omega)]
  refine qG.blk 1 (pc' := 20) (ls' := [(0, ((s : Nat) : Int)), (0, ((t : Nat) : Int)), (0, ((dd (s % 4) (t % 4) : Nat) : Int)), (9, 0), (9, 0)]) (st' := [(0, 2), (0, ((t / 4 : Nat) : Int)), (0, ((s / 4 % 2 : Nat) : Int))]) (w' := w) (n' := n) rfl ?_
  refine qG.gn (P := 2 = 0) (pc' := 21) (ls' := [(0, ((s : Nat) : Int)), (0, ((t : Nat) : Int)), (0, ((dd (s % 4) (t % 4) : Nat) : Int)), (9, 0), (9, 0)]) (st' := [(0, qrem ((t / 4 : Nat) : Int) 2), (0, ((s / 4 % 2 : Nat) : Int))]) (w' := w) (n' := n) rfl (by decide) ?_
  rw [show qrem ((t / 4 : Nat) : Int) 2 = ((t / 4 % 2 : Nat) : Int) from qrem_n (m := 2) (by omega)]
  refine qG.blk 1 (pc' := 22) (ls' := [(0, ((s : Nat) : Int)), (0, ((t : Nat) : Int)), (0, ((dd (s % 4) (t % 4) : Nat) : Int)), (9, 0), (9, 0)]) (st' := [(0, wrp (((s / 4 % 2 : Nat) : Int) - ((t / 4 % 2 : Nat) : Int)))]) (w' := w) (n' := n) rfl ?_
  rw [show wrp (((s / 4 % 2 : Nat) : Int) - ((t / 4 % 2 : Nat) : Int)) = ((s / 4 % 2 : Nat) : Int) - ((t / 4 % 2 : Nat) : Int) from wrp_id (by omega) (by omega)]
  refine qG.mth rfl rfl rfl rfl (pc' := 25) (ls' := [(0, ((s : Nat) : Int)), (0, ((t : Nat) : Int)), (0, ((dd (s % 4) (t % 4) : Nat) : Int)), (9, 0), (9, 0)]) (st' := [(0, (if 0 ≤ ((s / 4 % 2 : Nat) : Int) - ((t / 4 % 2 : Nat) : Int) then ((s / 4 % 2 : Nat) : Int) - ((t / 4 % 2 : Nat) : Int) else wrp (0 - (((s / 4 % 2 : Nat) : Int) - ((t / 4 % 2 : Nat) : Int)))))]) (w' := w) (n' := n) rfl ?_
  rw [show (if 0 ≤ ((s / 4 % 2 : Nat) : Int) - ((t / 4 % 2 : Nat) : Int) then ((s / 4 % 2 : Nat) : Int) - ((t / 4 % 2 : Nat) : Int) else wrp (0 - (((s / 4 % 2 : Nat) : Int) - ((t / 4 % 2 : Nat) : Int)))) = ((dd (s / 4 % 2) (t / 4 % 2) : Nat) : Int) from dd_abs (by omega) (by omega)]
  refine qG.blk 3 (pc' := 29) (ls' := [(0, ((s : Nat) : Int)), (0, ((t : Nat) : Int)), (0, ((dd (s % 4) (t % 4) : Nat) : Int)), (0, ((dd (s / 4 % 2) (t / 4 % 2) : Nat) : Int)), (9, 0)]) (st' := [(0, 8), (0, ((s : Nat) : Int))]) (w' := w) (n' := n) rfl ?_
  refine qG.gn (P := 8 = 0) (pc' := 30) (ls' := [(0, ((s : Nat) : Int)), (0, ((t : Nat) : Int)), (0, ((dd (s % 4) (t % 4) : Nat) : Int)), (0, ((dd (s / 4 % 2) (t / 4 % 2) : Nat) : Int)), (9, 0)]) (st' := [(0, qdiv ((s : Nat) : Int) 8)]) (w' := w) (n' := n) rfl (by decide) ?_
  rw [show qdiv ((s : Nat) : Int) 8 = ((s / 8 : Nat) : Int) from qdiv_n (m := 8) (by omega)]
  refine qG.blk 2 (pc' := 33) (ls' := [(0, ((s : Nat) : Int)), (0, ((t : Nat) : Int)), (0, ((dd (s % 4) (t % 4) : Nat) : Int)), (0, ((dd (s / 4 % 2) (t / 4 % 2) : Nat) : Int)), (9, 0)]) (st' := [(0, 8), (0, ((t : Nat) : Int)), (0, ((s / 8 : Nat) : Int))]) (w' := w) (n' := n) rfl ?_
  refine qG.gn (P := 8 = 0) (pc' := 34) (ls' := [(0, ((s : Nat) : Int)), (0, ((t : Nat) : Int)), (0, ((dd (s % 4) (t % 4) : Nat) : Int)), (0, ((dd (s / 4 % 2) (t / 4 % 2) : Nat) : Int)), (9, 0)]) (st' := [(0, qdiv ((t : Nat) : Int) 8), (0, ((s / 8 : Nat) : Int))]) (w' := w) (n' := n) rfl (by decide) ?_
  rw [show qdiv ((t : Nat) : Int) 8 = ((t / 8 : Nat) : Int) from qdiv_n (m := 8) (by omega)]
  refine qG.blk 1 (pc' := 35) (ls' := [(0, ((s : Nat) : Int)), (0, ((t : Nat) : Int)), (0, ((dd (s % 4) (t % 4) : Nat) : Int)), (0, ((dd (s / 4 % 2) (t / 4 % 2) : Nat) : Int)), (9, 0)]) (st' := [(0, wrp (((s / 8 : Nat) : Int) - ((t / 8 : Nat) : Int)))]) (w' := w) (n' := n) rfl ?_
  rw [show wrp (((s / 8 : Nat) : Int) - ((t / 8 : Nat) : Int)) = ((s / 8 : Nat) : Int) - ((t / 8 : Nat) : Int) from wrp_id (by omega) (by omega)]
  refine qG.mth rfl rfl rfl rfl (pc' := 38) (ls' := [(0, ((s : Nat) : Int)), (0, ((t : Nat) : Int)), (0, ((dd (s % 4) (t % 4) : Nat) : Int)), (0, ((dd (s / 4 % 2) (t / 4 % 2) : Nat) : Int)), (9, 0)]) (st' := [(0, (if 0 ≤ ((s / 8 : Nat) : Int) - ((t / 8 : Nat) : Int) then ((s / 8 : Nat) : Int) - ((t / 8 : Nat) : Int) else wrp (0 - (((s / 8 : Nat) : Int) - ((t / 8 : Nat) : Int)))))]) (w' := w) (n' := n) rfl ?_
  rw [show (if 0 ≤ ((s / 8 : Nat) : Int) - ((t / 8 : Nat) : Int) then ((s / 8 : Nat) : Int) - ((t / 8 : Nat) : Int) else wrp (0 - (((s / 8 : Nat) : Int) - ((t / 8 : Nat) : Int)))) = ((dd (s / 8) (t / 8) : Nat) : Int) from dd_abs (by omega) (by omega)]
  refine qG.blk 4 (pc' := 44) (ls' := [(0, ((s : Nat) : Int)), (0, ((t : Nat) : Int)), (0, ((dd (s % 4) (t % 4) : Nat) : Int)), (0, ((dd (s / 4 % 2) (t / 4 % 2) : Nat) : Int)), (0, ((dd (s / 8) (t / 8) : Nat) : Int))]) (st' := [(0, wrp (((dd (s % 4) (t % 4) : Nat) : Int) + ((dd (s / 8) (t / 8) : Nat) : Int)))]) (w' := w) (n' := n) rfl ?_
  rw [show wrp (((dd (s % 4) (t % 4) : Nat) : Int) + ((dd (s / 8) (t / 8) : Nat) : Int)) = ((dd (s % 4) (t % 4) + dd (s / 8) (t / 8) : Nat) : Int) from wrp_id (by omega) (by omega)]
  refine qG.blk 2 (pc' := 46) (ls' := [(0, ((s : Nat) : Int)), (0, ((t : Nat) : Int)), (0, ((dd (s % 4) (t % 4) : Nat) : Int)), (0, ((dd (s / 4 % 2) (t / 4 % 2) : Nat) : Int)), (0, ((dd (s / 8) (t / 8) : Nat) : Int))]) (st' := [(0, wrp (((dd (s % 4) (t % 4) + dd (s / 8) (t / 8) : Nat) : Int) + ((dd (s / 4 % 2) (t / 4 % 2) : Nat) : Int)))]) (w' := w) (n' := n) rfl ?_
  rw [show wrp (((dd (s % 4) (t % 4) + dd (s / 8) (t / 8) : Nat) : Int) + ((dd (s / 4 % 2) (t / 4 % 2) : Nat) : Int)) = ((dd (s % 4) (t % 4) + dd (s / 8) (t / 8) + dd (s / 4 % 2) (t / 4 % 2) : Nat) : Int) from wrp_id (by omega) (by omega)]
  refine qG.blk 1 (pc' := 47) (ls' := [(0, ((s : Nat) : Int)), (0, ((t : Nat) : Int)), (0, ((dd (s % 4) (t % 4) : Nat) : Int)), (0, ((dd (s / 4 % 2) (t / 4 % 2) : Nat) : Int)), (0, ((dd (s / 8) (t / 8) : Nat) : Int))]) (st' := [(0, 1), (0, ((dd (s % 4) (t % 4) + dd (s / 8) (t / 8) + dd (s / 4 % 2) (t / 4 % 2) : Nat) : Int))]) (w' := w) (n' := n) rfl ?_
  refine qG.br (P := ((dd (s % 4) (t % 4) + dd (s / 8) (t / 8) + dd (s / 4 % 2) (t / 4 % 2) : Nat) : Int) = 1) (pc1 := 50) (pc2 := 54) (st1 := []) rfl (fun h1 => ?_) (fun h1 => ?_)
  · skip
    refine qG.blk 2 (pc' := 55) (ls' := [(0, ((s : Nat) : Int)), (0, ((t : Nat) : Int)), (0, ((dd (s % 4) (t % 4) : Nat) : Int)), (0, ((dd (s / 4 % 2) (t / 4 % 2) : Nat) : Int)), (0, ((dd (s / 8) (t / 8) : Nat) : Int))]) (st' := [(0, 1)]) (w' := w) (n' := n) rfl ?_
    refine qG.ret rfl (by first | rfl | exact decide_eq_true (by omega)) ?_
    subst hQ9
    have hb : nbB s t = true ↔ dd (s % 4) (t % 4) + dd (s / 4 % 2) (t / 4 % 2) + dd (s / 8) (t / 8) = 1 := Nat.beq_eq ▸ Iff.rfl
    exact ⟨by first | (rw [if_pos (hb.mpr (by omega))]; done) | rw [if_neg (fun z => by have := hb.mp z; omega)], rfl, rfl⟩
  · skip
    refine qG.blk 1 (pc' := 55) (ls' := [(0, ((s : Nat) : Int)), (0, ((t : Nat) : Int)), (0, ((dd (s % 4) (t % 4) : Nat) : Int)), (0, ((dd (s / 4 % 2) (t / 4 % 2) : Nat) : Int)), (0, ((dd (s / 8) (t / 8) : Nat) : Int))]) (st' := [(0, 0)]) (w' := w) (n' := n) rfl ?_
    refine qG.ret rfl (by first | rfl | exact decide_eq_true (by omega)) ?_
    subst hQ9
    have hb : nbB s t = true ↔ dd (s % 4) (t % 4) + dd (s / 4 % 2) (t / 4 % 2) + dd (s / 8) (t / 8) = 1 := Nat.beq_eq ▸ Iff.rfl
    exact ⟨by first | (rw [if_pos (hb.mpr (by omega))]; done) | rw [if_neg (fun z => by have := hb.mp z; omega)], rfl, rfl⟩
noncomputable def nbI (w9 E : qW) (a s : Nat) : Prop := ∀ p j, w9 p j = if p = a then (if j < s then nbp j 16 else 0) else E p j
noncomputable def nbJ (w8 E : qW) (a s t : Nat) : Prop := ∀ p j, w8 p j = if p = a then (if j < s then nbp j 16 else if j = s then nbp s t else 0) else E p j
theorem nbI.z {E : qW} {a : Nat} (h : ∀ j, E a j = 0) : nbI E E a 0 := fun p j => by
  by_cases h1 : p = a
  · rw [if_pos h1, if_neg (by omega), h1, h]
  · rw [if_neg h1]
theorem nbI.in {w9 E : qW} {a s : Nat} (h : nbI w9 E a s) : nbJ w9 E a s 0 := fun p j => by
  rw [h p j]
  by_cases h1 : p = a
  · rw [if_pos h1, if_pos h1]
    by_cases h2 : j < s
    · rw [if_pos h2, if_pos h2]
    · rw [if_neg h2, if_neg h2]
      by_cases h3 : j = s
      · rw [if_pos h3]; rfl
      · rw [if_neg h3]
  · rw [if_neg h1, if_neg h1]
theorem nbJ.out {w8 E : qW} {a s t p : Nat} (h : nbJ w8 E a s t) (hp : p ≠ a) (j : Nat) : w8 p j = E p j := by rw [h, if_neg hp]
theorem nbJ.at {w8 E : qW} {a s t : Nat} (h : nbJ w8 E a s t) : w8 a s = nbp s t := by rw [h, if_pos rfl, if_neg (by omega), if_pos rfl]
theorem nbp_s {s t : Nat} : nbp s (t + 1) = if nbB s t = true then qor (nbp s t) (qshl 1 (t : Int)) else nbp s t := rfl
theorem nbJ.yes {w8 E : qW} {a s t : Nat} (h : nbJ w8 E a s t) (hb : nbB s t = true) : nbJ (qup w8 a s (qor (nbp s t) (qshl 1 (t : Int)))) E a s (t + 1) := fun p j => by
  by_cases h1 : p = a
  · subst h1
    rw [if_pos rfl]
    by_cases h3 : j = s
    · subst h3
      rw [qup_k, if_neg (by omega), if_pos rfl, nbp_s, if_pos hb]
    · rw [qup_j h3, h, if_pos rfl, if_neg h3, if_neg h3]
  · rw [qup_ne h1, h, if_neg h1, if_neg h1]
theorem nbJ.no {w8 E : qW} {a s t : Nat} (h : nbJ w8 E a s t) (hb : ¬ nbB s t = true) : nbJ w8 E a s (t + 1) := fun p j => by
  rw [h p j, show nbp s (t + 1) = nbp s t from by rw [nbp_s, if_neg hb]]
theorem nbJ.end {w8 E : qW} {a s t : Nat} (h : nbJ w8 E a s t) (ht : t = 16) : nbI w8 E a (s + 1) := fun p j => by
  subst ht
  rw [h p j]
  by_cases h1 : p = a
  · rw [if_pos h1, if_pos h1]
    by_cases h2 : j < s
    · rw [if_pos h2, if_pos (by omega)]
    · rw [if_neg h2]
      by_cases h3 : j = s
      · rw [if_pos h3, if_pos (by omega), h3]
      · rw [if_neg h3, if_neg (by omega)]
  · rw [if_neg h1, if_neg h1]
theorem nbI.fin {w9 E X : qW} {a s : Nat} (h : nbI w9 E a s) (hs : s = 16) (hE : ∀ p j, p ≠ a → E p j = X p j) (ha : ∀ j, X a j = if j < 16 then nbp j 16 else 0) (p j : Nat) : w9 p j = X p j := by
  subst hs
  rw [h p j]
  by_cases h1 : p = a
  · rw [if_pos h1, h1, ha]
  · rw [if_neg h1, hE p j h1]
theorem ite01 {P : Prop} [Decidable P] : ((if P then (1 : Int) else 0) = 0) ↔ ¬ P := by
  by_cases h : P
  · rw [if_pos h]; exact ⟨fun z => absurd z (by decide), fun z => absurd h z⟩
  · rw [if_neg h]; exact ⟨fun _ => h, fun _ => rfl⟩
theorem K_X2_init_64 {d : Nat} (hd : 2 ≤ d) (w : qW) (hz : ∀ j, w 64 j = 0) : qG none d 17 0 [(2, 64), (9, 0), (9, 0)] [] w 64 (fun (r : qV) (w1 : qW) (n1 : Nat) => r = (9, 0) ∧ qFr w w1 64 68 ∧ n1 = 68) := by
  generalize hQ9 : (fun (r : qV) (w1 : qW) (n1 : Nat) => r = (9, 0) ∧ qFr w w1 64 68 ∧ n1 = 68) = Q9
  obtain ⟨d, rfl⟩ : ∃ d9, d = d9 + 1 := ⟨d - 1, by omega⟩
  refine qG.blk 1 (pc' := 1) (ls' := [(2, 64), (9, 0), (9, 0)]) (st' := [(2, 64)]) (w' := w) (n' := 64) rfl ?_
  refine qG.oin rfl rfl (by decide) ?_
  refine qG.blk 8 (pc' := 17) (ls' := [(2, 64), (9, 0), (9, 0)]) (st' := [(0, 16), (2, 64)]) (w' := (qup (qup w 64 0 0) 64 1 0)) (n' := 64) rfl ?_
  refine qG.blk 1 (pc' := 19) (ls' := [(2, 64), (9, 0), (9, 0)]) (st' := [(2, 65), (2, 64)]) (w' := (qclr (qup (qup w 64 0 0) 64 1 0) 65)) (n' := 65) rfl ?_
  refine qG.blk 3 (pc' := 25) (ls' := [(2, 64), (9, 0), (9, 0)]) (st' := [(0, 10), (2, 64)]) (w' := (qup (qclr (qup (qup w 64 0 0) 64 1 0) 65) 64 2 65)) (n' := 65) rfl ?_
  refine qG.blk 1 (pc' := 27) (ls' := [(2, 64), (9, 0), (9, 0)]) (st' := [(2, 66), (2, 64)]) (w' := (qclr (qup (qclr (qup (qup w 64 0 0) 64 1 0) 65) 64 2 65) 66)) (n' := 66) rfl ?_
  refine qG.blk 3 (pc' := 33) (ls' := [(2, 64), (9, 0), (9, 0)]) (st' := [(0, 10), (2, 64)]) (w' := (qup (qclr (qup (qclr (qup (qup w 64 0 0) 64 1 0) 65) 64 2 65) 66) 64 3 66)) (n' := 66) rfl ?_
  refine qG.blk 1 (pc' := 35) (ls' := [(2, 64), (9, 0), (9, 0)]) (st' := [(2, 67), (2, 64)]) (w' := (qclr (qup (qclr (qup (qclr (qup (qup w 64 0 0) 64 1 0) 65) 64 2 65) 66) 64 3 66) 67)) (n' := 67) rfl ?_
  refine qG.blk 3 (pc' := 41) (ls' := [(2, 64), (9, 0), (9, 0)]) (st' := [(0, 10), (2, 64)]) (w' := (qup (qclr (qup (qclr (qup (qclr (qup (qup w 64 0 0) 64 1 0) 65) 64 2 65) 66) 64 3 66) 67) 64 4 67)) (n' := 67) rfl ?_
  refine qG.blk 1 (pc' := 43) (ls' := [(2, 64), (9, 0), (9, 0)]) (st' := [(2, 68), (2, 64)]) (w' := (qclr (qup (qclr (qup (qclr (qup (qclr (qup (qup w 64 0 0) 64 1 0) 65) 64 2 65) 66) 64 3 66) 67) 64 4 67) 68)) (n' := 68) rfl ?_
  refine qG.blk 3 (pc' := 48) (ls' := [(2, 64), (0, 0), (9, 0)]) (st' := []) (w' := (qup (qclr (qup (qclr (qup (qclr (qup (qclr (qup (qup w 64 0 0) 64 1 0) 65) 64 2 65) 66) 64 3 66) 67) 64 4 67) 68) 64 5 68)) (n' := 68) rfl ?_
  have L48 : ∀ (m9 : Nat) (s : Nat) (w9 : qW) (z : qV), 16 - s = m9 → (s ≤ 16 ∧ nbI w9 (qup (qclr (qup (qclr (qup (qclr (qup (qclr (qup (qup w 64 0 0) 64 1 0) 65) 64 2 65) 66) 64 3 66) 67) 64 4 67) 68) 64 5 68) 65 s) → qG none (d + 1) 17 48 [(2, 64), (0, ((s : Nat) : Int)), z] [] w9 68 Q9 := by
    intro m9
    induction m9 using Nat.strongRecOn with
    | ind m9 ih48 =>
    intro s w9 z hm48 hI48
    refine qG.blk 2 (pc' := 51) (ls' := [(2, 64), (0, ((s : Nat) : Int)), z]) (st' := [(0, 16), (0, ((s : Nat) : Int))]) (w' := w9) (n' := 68) rfl ?_
    refine qG.br (P := ((s : Nat) : Int) < 16) (pc1 := 54) (pc2 := 94) (st1 := []) rfl (fun h1 => ?_) (fun h1 => ?_)
    · skip
      refine qG.blk 2 (pc' := 56) (ls' := [(2, 64), (0, ((s : Nat) : Int)), (0, 0)]) (st' := []) (w' := w9) (n' := 68) rfl ?_
      have L56 : ∀ (m9 : Nat) (t : Nat) (w8 : qW), 16 - t = m9 → (t ≤ 16 ∧ nbJ w8 (qup (qclr (qup (qclr (qup (qclr (qup (qclr (qup (qup w 64 0 0) 64 1 0) 65) 64 2 65) 66) 64 3 66) 67) 64 4 67) 68) 64 5 68) 65 s t) → qG none (d + 1) 17 56 [(2, 64), (0, ((s : Nat) : Int)), (0, ((t : Nat) : Int))] [] w8 68 Q9 := by
        intro m9
        induction m9 using Nat.strongRecOn with
        | ind m9 ih56 =>
        intro t w8 hm56 hI56
        refine qG.blk 2 (pc' := 59) (ls' := [(2, 64), (0, ((s : Nat) : Int)), (0, ((t : Nat) : Int))]) (st' := [(0, 16), (0, ((t : Nat) : Int))]) (w' := w8) (n' := 68) rfl ?_
        refine qG.br (P := ((t : Nat) : Int) < 16) (pc1 := 62) (pc2 := 88) (st1 := []) rfl (fun h2 => ?_) (fun h2 => ?_)
        · skip
          refine qG.blk 2 (pc' := 64) (ls' := [(2, 64), (0, ((s : Nat) : Int)), (0, ((t : Nat) : Int))]) (st' := [(0, ((t : Nat) : Int)), (0, ((s : Nat) : Int))]) (w' := w8) (n' := 68) rfl ?_
          refine qG.call (t := 18) (na := 2) (sk := 0) (md := 0) (ls1 := [(0, ((s : Nat) : Int)), (0, ((t : Nat) : Int)), (9, 0), (9, 0), (9, 0)]) (r1 := []) rfl rfl rfl rfl rfl (K_X2_areN (by omega) s t (by omega) (by omega) _ _) ?_
          rintro _ w7 _ ⟨rfl, hw7, rfl⟩
          rw [hw7]
          show qG none (d + 1) 17 67 [(2, 64), (0, ((s : Nat) : Int)), (0, ((t : Nat) : Int))] [(0, (if nbB s t = true then 1 else 0))] w8 68 Q9
          refine qG.br (P := (if nbB s t = true then 1 else 0) = 0) (pc1 := 82) (pc2 := 70) (st1 := []) rfl (fun hnb => ?_) (fun hnb => ?_)
          · skip
            refine qG.blk 1 (pc' := 85) (ls' := [(2, 64), (0, ((s : Nat) : Int)), (0, wrp (((t : Nat) : Int) + 1))]) (st' := []) (w' := w8) (n' := 68) rfl ?_
            rw [show wrp (((t : Nat) : Int) + 1) = ((t + 1 : Nat) : Int) from wrp_id (by omega) (by omega)]
            refine qG.blk 1 (pc' := 56) (ls' := [(2, 64), (0, ((s : Nat) : Int)), (0, ((t + 1 : Nat) : Int))]) (st' := []) (w' := w8) (n' := 68) rfl ?_
            exact ih56 _ (by omega) (t + 1) (w8) rfl (⟨by omega, hI56.2.no (ite01.mp hnb)⟩)
          · skip
            refine qG.blk 2 (pc' := 74) (ls' := [(2, 64), (0, ((s : Nat) : Int)), (0, ((t : Nat) : Int))]) (st' := [(2, w8 64 2)]) (w' := w8) (n' := 68) rfl ?_
            rw [show w8 64 2 = 65 from by rw [hI56.2.out (by decide)]; rfl]
            refine qG.blk 2 (pc' := 76) (ls' := [(2, 64), (0, ((s : Nat) : Int)), (0, ((t : Nat) : Int))]) (st' := [(0, ((s : Nat) : Int)), (2, 65), (0, ((s : Nat) : Int)), (2, 65)]) (w' := w8) (n' := 68) rfl ?_
            refine qG.ar (P := 0 ≤ ((s : Nat) : Int) ∧ ((s : Nat) : Int) < ((16 : Nat) : Int)) (P2 := 0 < (65 : Int) ∧ (65 : Int) ≤ ((68 : Nat) : Int)) (pc' := 77) (ls' := [(2, 64), (0, ((s : Nat) : Int)), (0, ((t : Nat) : Int))]) (st' := [(0, w8 65 s), (0, ((s : Nat) : Int)), (2, 65)]) (w' := w8) (n' := 68) rfl (by omega) (by decide) ?_
            rw [show w8 65 s = nbp s t from hI56.2.at]
            refine qG.blk 4 (pc' := 81) (ls' := [(2, 64), (0, ((s : Nat) : Int)), (0, ((t : Nat) : Int))]) (st' := [(0, qor (nbp s t) (qshl 1 ((t : Nat) : Int))), (0, ((s : Nat) : Int)), (2, 65)]) (w' := w8) (n' := 68) rfl ?_
            refine qG.ar (P := 0 ≤ ((s : Nat) : Int) ∧ ((s : Nat) : Int) < ((16 : Nat) : Int)) (P2 := 0 < (65 : Int) ∧ (65 : Int) ≤ ((68 : Nat) : Int)) (pc' := 82) (ls' := [(2, 64), (0, ((s : Nat) : Int)), (0, ((t : Nat) : Int))]) (st' := []) (w' := (qup w8 65 s (qor (nbp s t) (qshl 1 ((t : Nat) : Int))))) (n' := 68) rfl (by omega) (by decide) ?_
            refine qG.blk 1 (pc' := 85) (ls' := [(2, 64), (0, ((s : Nat) : Int)), (0, wrp (((t : Nat) : Int) + 1))]) (st' := []) (w' := (qup w8 65 s (qor (nbp s t) (qshl 1 ((t : Nat) : Int))))) (n' := 68) rfl ?_
            rw [show wrp (((t : Nat) : Int) + 1) = ((t + 1 : Nat) : Int) from wrp_id (by omega) (by omega)]
            refine qG.blk 1 (pc' := 56) (ls' := [(2, 64), (0, ((s : Nat) : Int)), (0, ((t + 1 : Nat) : Int))]) (st' := []) (w' := (qup w8 65 s (qor (nbp s t) (qshl 1 ((t : Nat) : Int))))) (n' := 68) rfl ?_
            exact ih56 _ (by omega) (t + 1) ((qup w8 65 s (qor (nbp s t) (qshl 1 ((t : Nat) : Int))))) rfl (⟨by omega, hI56.2.yes (Decidable.of_not_not (fun z => hnb (ite01.mpr z)))⟩)
        · skip
          refine qG.blk 1 (pc' := 91) (ls' := [(2, 64), (0, wrp (((s : Nat) : Int) + 1)), (0, ((t : Nat) : Int))]) (st' := []) (w' := w8) (n' := 68) rfl ?_
          rw [show wrp (((s : Nat) : Int) + 1) = ((s + 1 : Nat) : Int) from wrp_id (by omega) (by omega)]
          refine qG.blk 1 (pc' := 48) (ls' := [(2, 64), (0, ((s + 1 : Nat) : Int)), (0, ((t : Nat) : Int))]) (st' := []) (w' := w8) (n' := 68) rfl ?_
          exact ih48 _ (by omega) (s + 1) (w8) ((0, ((t : Nat) : Int))) rfl (⟨by omega, hI56.2.end (by omega)⟩)
      exact L56 _ (0) (w9) rfl (⟨by omega, hI48.2.in⟩)
    · skip
      refine qG.retv rfl rfl ?_
      subst hQ9
      refine ⟨rfl, nbI.fin hI48.2 (by omega) (X := fun p j => if p < 64 then w p j else if p ≤ 68 then qW0 p j else 0) (fun p j hp => ?_) (fun j => ?_), rfl⟩
      · show _ = if p < 64 then w p j else if p ≤ 68 then qW0 p j else 0
        by_cases c1 : p < 64
        · rw [if_pos c1]; simp (disch := omega) only [qup_ne, qup_j, qclr_lo, qmul_lo]
        rw [if_neg c1]
        by_cases c2 : 68 < p
        · rw [if_neg (by omega)]; simp (disch := omega) only [qup_ne, qup_j, qclr_lo, qmul_lo, qclr_at, qmul_hi]
        rw [if_pos (by omega)]
        rcases (show p = 64 ∨ p = 65 ∨ p = 66 ∨ p = 67 ∨ p = 68 by omega) with rfl | rfl | rfl | rfl | rfl
        · by_cases c3 : j < 6
          · rcases (show j = 0 ∨ j = 1 ∨ j = 2 ∨ j = 3 ∨ j = 4 ∨ j = 5 by omega) with rfl | rfl | rfl | rfl | rfl | rfl <;> first | rfl | exact hz _ | (simp (disch := omega) only [qup_ne, qup_j, qclr_lo, qmul_lo, qup_k, qclr_at, qmul_hi]; done) | (simp (disch := omega) only [qup_ne, qup_j, qclr_lo, qmul_lo, qup_k, qclr_at, qmul_hi]; rfl) | (simp (disch := omega) only [qup_ne, qup_j, qclr_lo, qmul_lo, qup_k, qclr_at, hz]; rfl)
          · first | (simp (disch := omega) only [qup_ne, qup_j, qclr_lo, qmul_lo, hz]; unfold qW0; simp (disch := omega) only [qbeq_f, qble_t]; rfl) | (simp (disch := omega) only [qup_ne, qup_j, qclr_lo, qmul_lo, qclr_at]; unfold qW0; simp (disch := omega) only [qbeq_f, qble_t]; rfl) | (simp (disch := omega) only [qup_ne, qup_j, qclr_lo, qmul_lo, qclr_at]; done)
        · exact absurd rfl hp
        · first | rfl | (simp (disch := omega) only [qup_ne, qup_j, qclr_lo, qmul_lo, qup_k, qclr_at, qmul_hi]; done) | (simp (disch := omega) only [qup_ne, qup_j, qclr_lo, qmul_lo, qup_k, qclr_at, qmul_hi]; rfl)
        · first | rfl | (simp (disch := omega) only [qup_ne, qup_j, qclr_lo, qmul_lo, qup_k, qclr_at, qmul_hi]; done) | (simp (disch := omega) only [qup_ne, qup_j, qclr_lo, qmul_lo, qup_k, qclr_at, qmul_hi]; rfl)
        · first | rfl | (simp (disch := omega) only [qup_ne, qup_j, qclr_lo, qmul_lo, qup_k, qclr_at, qmul_hi]; done) | (simp (disch := omega) only [qup_ne, qup_j, qclr_lo, qmul_lo, qup_k, qclr_at, qmul_hi]; rfl)
      · show (if 65 < 64 then _ else if 65 ≤ 68 then qW0 65 j else 0) = _
        rw [if_neg (by decide), if_pos (by decide)]
        by_cases c3 : j < 16
        · rw [if_pos c3, (nbp_16 j c3).1]
        · rw [if_neg c3]; unfold qW0; simp (disch := omega) only [qbeq_f, qble_t]; rfl
  exact L48 _ (0) ((qup (qclr (qup (qclr (qup (qclr (qup (qclr (qup (qup w 64 0 0) 64 1 0) 65) 64 2 65) 66) 64 3 66) 67) 64 4 67) 68) 64 5 68)) ((9, 0)) rfl (⟨by omega, nbI.z (fun j => rfl)⟩)
theorem K_X2_init_69 {d : Nat} (hd : 2 ≤ d) (w : qW) (hz : ∀ j, w 69 j = 0) : qG none d 17 0 [(2, 69), (9, 0), (9, 0)] [] w 69 (fun (r : qV) (w1 : qW) (n1 : Nat) => r = (9, 0) ∧ qFr w w1 69 73 ∧ n1 = 73) := by
  generalize hQ9 : (fun (r : qV) (w1 : qW) (n1 : Nat) => r = (9, 0) ∧ qFr w w1 69 73 ∧ n1 = 73) = Q9
  obtain ⟨d, rfl⟩ : ∃ d9, d = d9 + 1 := ⟨d - 1, by omega⟩
  refine qG.blk 1 (pc' := 1) (ls' := [(2, 69), (9, 0), (9, 0)]) (st' := [(2, 69)]) (w' := w) (n' := 69) rfl ?_
  refine qG.oin rfl rfl (by decide) ?_
  refine qG.blk 8 (pc' := 17) (ls' := [(2, 69), (9, 0), (9, 0)]) (st' := [(0, 16), (2, 69)]) (w' := (qup (qup w 69 0 0) 69 1 0)) (n' := 69) rfl ?_
  refine qG.blk 1 (pc' := 19) (ls' := [(2, 69), (9, 0), (9, 0)]) (st' := [(2, 70), (2, 69)]) (w' := (qclr (qup (qup w 69 0 0) 69 1 0) 70)) (n' := 70) rfl ?_
  refine qG.blk 3 (pc' := 25) (ls' := [(2, 69), (9, 0), (9, 0)]) (st' := [(0, 10), (2, 69)]) (w' := (qup (qclr (qup (qup w 69 0 0) 69 1 0) 70) 69 2 70)) (n' := 70) rfl ?_
  refine qG.blk 1 (pc' := 27) (ls' := [(2, 69), (9, 0), (9, 0)]) (st' := [(2, 71), (2, 69)]) (w' := (qclr (qup (qclr (qup (qup w 69 0 0) 69 1 0) 70) 69 2 70) 71)) (n' := 71) rfl ?_
  refine qG.blk 3 (pc' := 33) (ls' := [(2, 69), (9, 0), (9, 0)]) (st' := [(0, 10), (2, 69)]) (w' := (qup (qclr (qup (qclr (qup (qup w 69 0 0) 69 1 0) 70) 69 2 70) 71) 69 3 71)) (n' := 71) rfl ?_
  refine qG.blk 1 (pc' := 35) (ls' := [(2, 69), (9, 0), (9, 0)]) (st' := [(2, 72), (2, 69)]) (w' := (qclr (qup (qclr (qup (qclr (qup (qup w 69 0 0) 69 1 0) 70) 69 2 70) 71) 69 3 71) 72)) (n' := 72) rfl ?_
  refine qG.blk 3 (pc' := 41) (ls' := [(2, 69), (9, 0), (9, 0)]) (st' := [(0, 10), (2, 69)]) (w' := (qup (qclr (qup (qclr (qup (qclr (qup (qup w 69 0 0) 69 1 0) 70) 69 2 70) 71) 69 3 71) 72) 69 4 72)) (n' := 72) rfl ?_
  refine qG.blk 1 (pc' := 43) (ls' := [(2, 69), (9, 0), (9, 0)]) (st' := [(2, 73), (2, 69)]) (w' := (qclr (qup (qclr (qup (qclr (qup (qclr (qup (qup w 69 0 0) 69 1 0) 70) 69 2 70) 71) 69 3 71) 72) 69 4 72) 73)) (n' := 73) rfl ?_
  refine qG.blk 3 (pc' := 48) (ls' := [(2, 69), (0, 0), (9, 0)]) (st' := []) (w' := (qup (qclr (qup (qclr (qup (qclr (qup (qclr (qup (qup w 69 0 0) 69 1 0) 70) 69 2 70) 71) 69 3 71) 72) 69 4 72) 73) 69 5 73)) (n' := 73) rfl ?_
  have L48 : ∀ (m9 : Nat) (s : Nat) (w9 : qW) (z : qV), 16 - s = m9 → (s ≤ 16 ∧ nbI w9 (qup (qclr (qup (qclr (qup (qclr (qup (qclr (qup (qup w 69 0 0) 69 1 0) 70) 69 2 70) 71) 69 3 71) 72) 69 4 72) 73) 69 5 73) 70 s) → qG none (d + 1) 17 48 [(2, 69), (0, ((s : Nat) : Int)), z] [] w9 73 Q9 := by
    intro m9
    induction m9 using Nat.strongRecOn with
    | ind m9 ih48 =>
    intro s w9 z hm48 hI48
    refine qG.blk 2 (pc' := 51) (ls' := [(2, 69), (0, ((s : Nat) : Int)), z]) (st' := [(0, 16), (0, ((s : Nat) : Int))]) (w' := w9) (n' := 73) rfl ?_
    refine qG.br (P := ((s : Nat) : Int) < 16) (pc1 := 54) (pc2 := 94) (st1 := []) rfl (fun h1 => ?_) (fun h1 => ?_)
    · skip
      refine qG.blk 2 (pc' := 56) (ls' := [(2, 69), (0, ((s : Nat) : Int)), (0, 0)]) (st' := []) (w' := w9) (n' := 73) rfl ?_
      have L56 : ∀ (m9 : Nat) (t : Nat) (w8 : qW), 16 - t = m9 → (t ≤ 16 ∧ nbJ w8 (qup (qclr (qup (qclr (qup (qclr (qup (qclr (qup (qup w 69 0 0) 69 1 0) 70) 69 2 70) 71) 69 3 71) 72) 69 4 72) 73) 69 5 73) 70 s t) → qG none (d + 1) 17 56 [(2, 69), (0, ((s : Nat) : Int)), (0, ((t : Nat) : Int))] [] w8 73 Q9 := by
        intro m9
        induction m9 using Nat.strongRecOn with
        | ind m9 ih56 =>
        intro t w8 hm56 hI56
        refine qG.blk 2 (pc' := 59) (ls' := [(2, 69), (0, ((s : Nat) : Int)), (0, ((t : Nat) : Int))]) (st' := [(0, 16), (0, ((t : Nat) : Int))]) (w' := w8) (n' := 73) rfl ?_
        refine qG.br (P := ((t : Nat) : Int) < 16) (pc1 := 62) (pc2 := 88) (st1 := []) rfl (fun h2 => ?_) (fun h2 => ?_)
        · skip
          refine qG.blk 2 (pc' := 64) (ls' := [(2, 69), (0, ((s : Nat) : Int)), (0, ((t : Nat) : Int))]) (st' := [(0, ((t : Nat) : Int)), (0, ((s : Nat) : Int))]) (w' := w8) (n' := 73) rfl ?_
          refine qG.call (t := 18) (na := 2) (sk := 0) (md := 0) (ls1 := [(0, ((s : Nat) : Int)), (0, ((t : Nat) : Int)), (9, 0), (9, 0), (9, 0)]) (r1 := []) rfl rfl rfl rfl rfl (K_X2_areN (by omega) s t (by omega) (by omega) _ _) ?_
          rintro _ w7 _ ⟨rfl, hw7, rfl⟩
          rw [hw7]
          show qG none (d + 1) 17 67 [(2, 69), (0, ((s : Nat) : Int)), (0, ((t : Nat) : Int))] [(0, (if nbB s t = true then 1 else 0))] w8 73 Q9
          refine qG.br (P := (if nbB s t = true then 1 else 0) = 0) (pc1 := 82) (pc2 := 70) (st1 := []) rfl (fun hnb => ?_) (fun hnb => ?_)
          · skip
            refine qG.blk 1 (pc' := 85) (ls' := [(2, 69), (0, ((s : Nat) : Int)), (0, wrp (((t : Nat) : Int) + 1))]) (st' := []) (w' := w8) (n' := 73) rfl ?_
            rw [show wrp (((t : Nat) : Int) + 1) = ((t + 1 : Nat) : Int) from wrp_id (by omega) (by omega)]
            refine qG.blk 1 (pc' := 56) (ls' := [(2, 69), (0, ((s : Nat) : Int)), (0, ((t + 1 : Nat) : Int))]) (st' := []) (w' := w8) (n' := 73) rfl ?_
            exact ih56 _ (by omega) (t + 1) (w8) rfl (⟨by omega, hI56.2.no (ite01.mp hnb)⟩)
          · skip
            refine qG.blk 2 (pc' := 74) (ls' := [(2, 69), (0, ((s : Nat) : Int)), (0, ((t : Nat) : Int))]) (st' := [(2, w8 69 2)]) (w' := w8) (n' := 73) rfl ?_
            rw [show w8 69 2 = 70 from by rw [hI56.2.out (by decide)]; rfl]
            refine qG.blk 2 (pc' := 76) (ls' := [(2, 69), (0, ((s : Nat) : Int)), (0, ((t : Nat) : Int))]) (st' := [(0, ((s : Nat) : Int)), (2, 70), (0, ((s : Nat) : Int)), (2, 70)]) (w' := w8) (n' := 73) rfl ?_
            refine qG.ar (P := 0 ≤ ((s : Nat) : Int) ∧ ((s : Nat) : Int) < ((16 : Nat) : Int)) (P2 := 0 < (70 : Int) ∧ (70 : Int) ≤ ((73 : Nat) : Int)) (pc' := 77) (ls' := [(2, 69), (0, ((s : Nat) : Int)), (0, ((t : Nat) : Int))]) (st' := [(0, w8 70 s), (0, ((s : Nat) : Int)), (2, 70)]) (w' := w8) (n' := 73) rfl (by omega) (by decide) ?_
            rw [show w8 70 s = nbp s t from hI56.2.at]
            refine qG.blk 4 (pc' := 81) (ls' := [(2, 69), (0, ((s : Nat) : Int)), (0, ((t : Nat) : Int))]) (st' := [(0, qor (nbp s t) (qshl 1 ((t : Nat) : Int))), (0, ((s : Nat) : Int)), (2, 70)]) (w' := w8) (n' := 73) rfl ?_
            refine qG.ar (P := 0 ≤ ((s : Nat) : Int) ∧ ((s : Nat) : Int) < ((16 : Nat) : Int)) (P2 := 0 < (70 : Int) ∧ (70 : Int) ≤ ((73 : Nat) : Int)) (pc' := 82) (ls' := [(2, 69), (0, ((s : Nat) : Int)), (0, ((t : Nat) : Int))]) (st' := []) (w' := (qup w8 70 s (qor (nbp s t) (qshl 1 ((t : Nat) : Int))))) (n' := 73) rfl (by omega) (by decide) ?_
            refine qG.blk 1 (pc' := 85) (ls' := [(2, 69), (0, ((s : Nat) : Int)), (0, wrp (((t : Nat) : Int) + 1))]) (st' := []) (w' := (qup w8 70 s (qor (nbp s t) (qshl 1 ((t : Nat) : Int))))) (n' := 73) rfl ?_
            rw [show wrp (((t : Nat) : Int) + 1) = ((t + 1 : Nat) : Int) from wrp_id (by omega) (by omega)]
            refine qG.blk 1 (pc' := 56) (ls' := [(2, 69), (0, ((s : Nat) : Int)), (0, ((t + 1 : Nat) : Int))]) (st' := []) (w' := (qup w8 70 s (qor (nbp s t) (qshl 1 ((t : Nat) : Int))))) (n' := 73) rfl ?_
            exact ih56 _ (by omega) (t + 1) ((qup w8 70 s (qor (nbp s t) (qshl 1 ((t : Nat) : Int))))) rfl (⟨by omega, hI56.2.yes (Decidable.of_not_not (fun z => hnb (ite01.mpr z)))⟩)
        · skip
          refine qG.blk 1 (pc' := 91) (ls' := [(2, 69), (0, wrp (((s : Nat) : Int) + 1)), (0, ((t : Nat) : Int))]) (st' := []) (w' := w8) (n' := 73) rfl ?_
          rw [show wrp (((s : Nat) : Int) + 1) = ((s + 1 : Nat) : Int) from wrp_id (by omega) (by omega)]
          refine qG.blk 1 (pc' := 48) (ls' := [(2, 69), (0, ((s + 1 : Nat) : Int)), (0, ((t : Nat) : Int))]) (st' := []) (w' := w8) (n' := 73) rfl ?_
          exact ih48 _ (by omega) (s + 1) (w8) ((0, ((t : Nat) : Int))) rfl (⟨by omega, hI56.2.end (by omega)⟩)
      exact L56 _ (0) (w9) rfl (⟨by omega, hI48.2.in⟩)
    · skip
      refine qG.retv rfl rfl ?_
      subst hQ9
      refine ⟨rfl, nbI.fin hI48.2 (by omega) (X := fun p j => if p < 69 then w p j else if p ≤ 73 then qW0 p j else 0) (fun p j hp => ?_) (fun j => ?_), rfl⟩
      · show _ = if p < 69 then w p j else if p ≤ 73 then qW0 p j else 0
        by_cases c1 : p < 69
        · rw [if_pos c1]; simp (disch := omega) only [qup_ne, qup_j, qclr_lo, qmul_lo]
        rw [if_neg c1]
        by_cases c2 : 73 < p
        · rw [if_neg (by omega)]; simp (disch := omega) only [qup_ne, qup_j, qclr_lo, qmul_lo, qclr_at, qmul_hi]
        rw [if_pos (by omega)]
        rcases (show p = 69 ∨ p = 70 ∨ p = 71 ∨ p = 72 ∨ p = 73 by omega) with rfl | rfl | rfl | rfl | rfl
        · by_cases c3 : j < 6
          · rcases (show j = 0 ∨ j = 1 ∨ j = 2 ∨ j = 3 ∨ j = 4 ∨ j = 5 by omega) with rfl | rfl | rfl | rfl | rfl | rfl <;> first | rfl | exact hz _ | (simp (disch := omega) only [qup_ne, qup_j, qclr_lo, qmul_lo, qup_k, qclr_at, qmul_hi]; done) | (simp (disch := omega) only [qup_ne, qup_j, qclr_lo, qmul_lo, qup_k, qclr_at, qmul_hi]; rfl) | (simp (disch := omega) only [qup_ne, qup_j, qclr_lo, qmul_lo, qup_k, qclr_at, hz]; rfl)
          · first | (simp (disch := omega) only [qup_ne, qup_j, qclr_lo, qmul_lo, hz]; unfold qW0; simp (disch := omega) only [qbeq_f, qble_t]; rfl) | (simp (disch := omega) only [qup_ne, qup_j, qclr_lo, qmul_lo, qclr_at]; unfold qW0; simp (disch := omega) only [qbeq_f, qble_t]; rfl) | (simp (disch := omega) only [qup_ne, qup_j, qclr_lo, qmul_lo, qclr_at]; done)
        · exact absurd rfl hp
        · first | rfl | (simp (disch := omega) only [qup_ne, qup_j, qclr_lo, qmul_lo, qup_k, qclr_at, qmul_hi]; done) | (simp (disch := omega) only [qup_ne, qup_j, qclr_lo, qmul_lo, qup_k, qclr_at, qmul_hi]; rfl)
        · first | rfl | (simp (disch := omega) only [qup_ne, qup_j, qclr_lo, qmul_lo, qup_k, qclr_at, qmul_hi]; done) | (simp (disch := omega) only [qup_ne, qup_j, qclr_lo, qmul_lo, qup_k, qclr_at, qmul_hi]; rfl)
        · first | rfl | (simp (disch := omega) only [qup_ne, qup_j, qclr_lo, qmul_lo, qup_k, qclr_at, qmul_hi]; done) | (simp (disch := omega) only [qup_ne, qup_j, qclr_lo, qmul_lo, qup_k, qclr_at, qmul_hi]; rfl)
      · show (if 70 < 69 then _ else if 70 ≤ 73 then qW0 70 j else 0) = _
        rw [if_neg (by decide), if_pos (by decide)]
        by_cases c3 : j < 16
        · rw [if_pos c3, (nbp_16 j c3).2.1]
        · rw [if_neg c3]; unfold qW0; simp (disch := omega) only [qbeq_f, qble_t]; rfl
  exact L48 _ (0) ((qup (qclr (qup (qclr (qup (qclr (qup (qclr (qup (qup w 69 0 0) 69 1 0) 70) 69 2 70) 71) 69 3 71) 72) 69 4 72) 73) 69 5 73)) ((9, 0)) rfl (⟨by omega, nbI.z (fun j => rfl)⟩)
theorem K_X2_init_74 {d : Nat} (hd : 2 ≤ d) (w : qW) (hz : ∀ j, w 74 j = 0) : qG none d 17 0 [(2, 74), (9, 0), (9, 0)] [] w 74 (fun (r : qV) (w1 : qW) (n1 : Nat) => r = (9, 0) ∧ qFr w w1 74 78 ∧ n1 = 78) := by
  generalize hQ9 : (fun (r : qV) (w1 : qW) (n1 : Nat) => r = (9, 0) ∧ qFr w w1 74 78 ∧ n1 = 78) = Q9
  obtain ⟨d, rfl⟩ : ∃ d9, d = d9 + 1 := ⟨d - 1, by omega⟩
  refine qG.blk 1 (pc' := 1) (ls' := [(2, 74), (9, 0), (9, 0)]) (st' := [(2, 74)]) (w' := w) (n' := 74) rfl ?_
  refine qG.oin rfl rfl (by decide) ?_
  refine qG.blk 8 (pc' := 17) (ls' := [(2, 74), (9, 0), (9, 0)]) (st' := [(0, 16), (2, 74)]) (w' := (qup (qup w 74 0 0) 74 1 0)) (n' := 74) rfl ?_
  refine qG.blk 1 (pc' := 19) (ls' := [(2, 74), (9, 0), (9, 0)]) (st' := [(2, 75), (2, 74)]) (w' := (qclr (qup (qup w 74 0 0) 74 1 0) 75)) (n' := 75) rfl ?_
  refine qG.blk 3 (pc' := 25) (ls' := [(2, 74), (9, 0), (9, 0)]) (st' := [(0, 10), (2, 74)]) (w' := (qup (qclr (qup (qup w 74 0 0) 74 1 0) 75) 74 2 75)) (n' := 75) rfl ?_
  refine qG.blk 1 (pc' := 27) (ls' := [(2, 74), (9, 0), (9, 0)]) (st' := [(2, 76), (2, 74)]) (w' := (qclr (qup (qclr (qup (qup w 74 0 0) 74 1 0) 75) 74 2 75) 76)) (n' := 76) rfl ?_
  refine qG.blk 3 (pc' := 33) (ls' := [(2, 74), (9, 0), (9, 0)]) (st' := [(0, 10), (2, 74)]) (w' := (qup (qclr (qup (qclr (qup (qup w 74 0 0) 74 1 0) 75) 74 2 75) 76) 74 3 76)) (n' := 76) rfl ?_
  refine qG.blk 1 (pc' := 35) (ls' := [(2, 74), (9, 0), (9, 0)]) (st' := [(2, 77), (2, 74)]) (w' := (qclr (qup (qclr (qup (qclr (qup (qup w 74 0 0) 74 1 0) 75) 74 2 75) 76) 74 3 76) 77)) (n' := 77) rfl ?_
  refine qG.blk 3 (pc' := 41) (ls' := [(2, 74), (9, 0), (9, 0)]) (st' := [(0, 10), (2, 74)]) (w' := (qup (qclr (qup (qclr (qup (qclr (qup (qup w 74 0 0) 74 1 0) 75) 74 2 75) 76) 74 3 76) 77) 74 4 77)) (n' := 77) rfl ?_
  refine qG.blk 1 (pc' := 43) (ls' := [(2, 74), (9, 0), (9, 0)]) (st' := [(2, 78), (2, 74)]) (w' := (qclr (qup (qclr (qup (qclr (qup (qclr (qup (qup w 74 0 0) 74 1 0) 75) 74 2 75) 76) 74 3 76) 77) 74 4 77) 78)) (n' := 78) rfl ?_
  refine qG.blk 3 (pc' := 48) (ls' := [(2, 74), (0, 0), (9, 0)]) (st' := []) (w' := (qup (qclr (qup (qclr (qup (qclr (qup (qclr (qup (qup w 74 0 0) 74 1 0) 75) 74 2 75) 76) 74 3 76) 77) 74 4 77) 78) 74 5 78)) (n' := 78) rfl ?_
  have L48 : ∀ (m9 : Nat) (s : Nat) (w9 : qW) (z : qV), 16 - s = m9 → (s ≤ 16 ∧ nbI w9 (qup (qclr (qup (qclr (qup (qclr (qup (qclr (qup (qup w 74 0 0) 74 1 0) 75) 74 2 75) 76) 74 3 76) 77) 74 4 77) 78) 74 5 78) 75 s) → qG none (d + 1) 17 48 [(2, 74), (0, ((s : Nat) : Int)), z] [] w9 78 Q9 := by
    intro m9
    induction m9 using Nat.strongRecOn with
    | ind m9 ih48 =>
    intro s w9 z hm48 hI48
    refine qG.blk 2 (pc' := 51) (ls' := [(2, 74), (0, ((s : Nat) : Int)), z]) (st' := [(0, 16), (0, ((s : Nat) : Int))]) (w' := w9) (n' := 78) rfl ?_
    refine qG.br (P := ((s : Nat) : Int) < 16) (pc1 := 54) (pc2 := 94) (st1 := []) rfl (fun h1 => ?_) (fun h1 => ?_)
    · skip
      refine qG.blk 2 (pc' := 56) (ls' := [(2, 74), (0, ((s : Nat) : Int)), (0, 0)]) (st' := []) (w' := w9) (n' := 78) rfl ?_
      have L56 : ∀ (m9 : Nat) (t : Nat) (w8 : qW), 16 - t = m9 → (t ≤ 16 ∧ nbJ w8 (qup (qclr (qup (qclr (qup (qclr (qup (qclr (qup (qup w 74 0 0) 74 1 0) 75) 74 2 75) 76) 74 3 76) 77) 74 4 77) 78) 74 5 78) 75 s t) → qG none (d + 1) 17 56 [(2, 74), (0, ((s : Nat) : Int)), (0, ((t : Nat) : Int))] [] w8 78 Q9 := by
        intro m9
        induction m9 using Nat.strongRecOn with
        | ind m9 ih56 =>
        intro t w8 hm56 hI56
        refine qG.blk 2 (pc' := 59) (ls' := [(2, 74), (0, ((s : Nat) : Int)), (0, ((t : Nat) : Int))]) (st' := [(0, 16), (0, ((t : Nat) : Int))]) (w' := w8) (n' := 78) rfl ?_
        refine qG.br (P := ((t : Nat) : Int) < 16) (pc1 := 62) (pc2 := 88) (st1 := []) rfl (fun h2 => ?_) (fun h2 => ?_)
        · skip
          refine qG.blk 2 (pc' := 64) (ls' := [(2, 74), (0, ((s : Nat) : Int)), (0, ((t : Nat) : Int))]) (st' := [(0, ((t : Nat) : Int)), (0, ((s : Nat) : Int))]) (w' := w8) (n' := 78) rfl ?_
          refine qG.call (t := 18) (na := 2) (sk := 0) (md := 0) (ls1 := [(0, ((s : Nat) : Int)), (0, ((t : Nat) : Int)), (9, 0), (9, 0), (9, 0)]) (r1 := []) rfl rfl rfl rfl rfl (K_X2_areN (by omega) s t (by omega) (by omega) _ _) ?_
          rintro _ w7 _ ⟨rfl, hw7, rfl⟩
          rw [hw7]
          show qG none (d + 1) 17 67 [(2, 74), (0, ((s : Nat) : Int)), (0, ((t : Nat) : Int))] [(0, (if nbB s t = true then 1 else 0))] w8 78 Q9
          refine qG.br (P := (if nbB s t = true then 1 else 0) = 0) (pc1 := 82) (pc2 := 70) (st1 := []) rfl (fun hnb => ?_) (fun hnb => ?_)
          · skip
            refine qG.blk 1 (pc' := 85) (ls' := [(2, 74), (0, ((s : Nat) : Int)), (0, wrp (((t : Nat) : Int) + 1))]) (st' := []) (w' := w8) (n' := 78) rfl ?_
            rw [show wrp (((t : Nat) : Int) + 1) = ((t + 1 : Nat) : Int) from wrp_id (by omega) (by omega)]
            refine qG.blk 1 (pc' := 56) (ls' := [(2, 74), (0, ((s : Nat) : Int)), (0, ((t + 1 : Nat) : Int))]) (st' := []) (w' := w8) (n' := 78) rfl ?_
            exact ih56 _ (by omega) (t + 1) (w8) rfl (⟨by omega, hI56.2.no (ite01.mp hnb)⟩)
          · skip
            refine qG.blk 2 (pc' := 74) (ls' := [(2, 74), (0, ((s : Nat) : Int)), (0, ((t : Nat) : Int))]) (st' := [(2, w8 74 2)]) (w' := w8) (n' := 78) rfl ?_
            rw [show w8 74 2 = 75 from by rw [hI56.2.out (by decide)]; rfl]
            refine qG.blk 2 (pc' := 76) (ls' := [(2, 74), (0, ((s : Nat) : Int)), (0, ((t : Nat) : Int))]) (st' := [(0, ((s : Nat) : Int)), (2, 75), (0, ((s : Nat) : Int)), (2, 75)]) (w' := w8) (n' := 78) rfl ?_
            refine qG.ar (P := 0 ≤ ((s : Nat) : Int) ∧ ((s : Nat) : Int) < ((16 : Nat) : Int)) (P2 := 0 < (75 : Int) ∧ (75 : Int) ≤ ((78 : Nat) : Int)) (pc' := 77) (ls' := [(2, 74), (0, ((s : Nat) : Int)), (0, ((t : Nat) : Int))]) (st' := [(0, w8 75 s), (0, ((s : Nat) : Int)), (2, 75)]) (w' := w8) (n' := 78) rfl (by omega) (by decide) ?_
            rw [show w8 75 s = nbp s t from hI56.2.at]
            refine qG.blk 4 (pc' := 81) (ls' := [(2, 74), (0, ((s : Nat) : Int)), (0, ((t : Nat) : Int))]) (st' := [(0, qor (nbp s t) (qshl 1 ((t : Nat) : Int))), (0, ((s : Nat) : Int)), (2, 75)]) (w' := w8) (n' := 78) rfl ?_
            refine qG.ar (P := 0 ≤ ((s : Nat) : Int) ∧ ((s : Nat) : Int) < ((16 : Nat) : Int)) (P2 := 0 < (75 : Int) ∧ (75 : Int) ≤ ((78 : Nat) : Int)) (pc' := 82) (ls' := [(2, 74), (0, ((s : Nat) : Int)), (0, ((t : Nat) : Int))]) (st' := []) (w' := (qup w8 75 s (qor (nbp s t) (qshl 1 ((t : Nat) : Int))))) (n' := 78) rfl (by omega) (by decide) ?_
            refine qG.blk 1 (pc' := 85) (ls' := [(2, 74), (0, ((s : Nat) : Int)), (0, wrp (((t : Nat) : Int) + 1))]) (st' := []) (w' := (qup w8 75 s (qor (nbp s t) (qshl 1 ((t : Nat) : Int))))) (n' := 78) rfl ?_
            rw [show wrp (((t : Nat) : Int) + 1) = ((t + 1 : Nat) : Int) from wrp_id (by omega) (by omega)]
            refine qG.blk 1 (pc' := 56) (ls' := [(2, 74), (0, ((s : Nat) : Int)), (0, ((t + 1 : Nat) : Int))]) (st' := []) (w' := (qup w8 75 s (qor (nbp s t) (qshl 1 ((t : Nat) : Int))))) (n' := 78) rfl ?_
            exact ih56 _ (by omega) (t + 1) ((qup w8 75 s (qor (nbp s t) (qshl 1 ((t : Nat) : Int))))) rfl (⟨by omega, hI56.2.yes (Decidable.of_not_not (fun z => hnb (ite01.mpr z)))⟩)
        · skip
          refine qG.blk 1 (pc' := 91) (ls' := [(2, 74), (0, wrp (((s : Nat) : Int) + 1)), (0, ((t : Nat) : Int))]) (st' := []) (w' := w8) (n' := 78) rfl ?_
          rw [show wrp (((s : Nat) : Int) + 1) = ((s + 1 : Nat) : Int) from wrp_id (by omega) (by omega)]
          refine qG.blk 1 (pc' := 48) (ls' := [(2, 74), (0, ((s + 1 : Nat) : Int)), (0, ((t : Nat) : Int))]) (st' := []) (w' := w8) (n' := 78) rfl ?_
          exact ih48 _ (by omega) (s + 1) (w8) ((0, ((t : Nat) : Int))) rfl (⟨by omega, hI56.2.end (by omega)⟩)
      exact L56 _ (0) (w9) rfl (⟨by omega, hI48.2.in⟩)
    · skip
      refine qG.retv rfl rfl ?_
      subst hQ9
      refine ⟨rfl, nbI.fin hI48.2 (by omega) (X := fun p j => if p < 74 then w p j else if p ≤ 78 then qW0 p j else 0) (fun p j hp => ?_) (fun j => ?_), rfl⟩
      · show _ = if p < 74 then w p j else if p ≤ 78 then qW0 p j else 0
        by_cases c1 : p < 74
        · rw [if_pos c1]; simp (disch := omega) only [qup_ne, qup_j, qclr_lo, qmul_lo]
        rw [if_neg c1]
        by_cases c2 : 78 < p
        · rw [if_neg (by omega)]; simp (disch := omega) only [qup_ne, qup_j, qclr_lo, qmul_lo, qclr_at, qmul_hi]
        rw [if_pos (by omega)]
        rcases (show p = 74 ∨ p = 75 ∨ p = 76 ∨ p = 77 ∨ p = 78 by omega) with rfl | rfl | rfl | rfl | rfl
        · by_cases c3 : j < 6
          · rcases (show j = 0 ∨ j = 1 ∨ j = 2 ∨ j = 3 ∨ j = 4 ∨ j = 5 by omega) with rfl | rfl | rfl | rfl | rfl | rfl <;> first | rfl | exact hz _ | (simp (disch := omega) only [qup_ne, qup_j, qclr_lo, qmul_lo, qup_k, qclr_at, qmul_hi]; done) | (simp (disch := omega) only [qup_ne, qup_j, qclr_lo, qmul_lo, qup_k, qclr_at, qmul_hi]; rfl) | (simp (disch := omega) only [qup_ne, qup_j, qclr_lo, qmul_lo, qup_k, qclr_at, hz]; rfl)
          · first | (simp (disch := omega) only [qup_ne, qup_j, qclr_lo, qmul_lo, hz]; unfold qW0; simp (disch := omega) only [qbeq_f, qble_t]; rfl) | (simp (disch := omega) only [qup_ne, qup_j, qclr_lo, qmul_lo, qclr_at]; unfold qW0; simp (disch := omega) only [qbeq_f, qble_t]; rfl) | (simp (disch := omega) only [qup_ne, qup_j, qclr_lo, qmul_lo, qclr_at]; done)
        · exact absurd rfl hp
        · first | rfl | (simp (disch := omega) only [qup_ne, qup_j, qclr_lo, qmul_lo, qup_k, qclr_at, qmul_hi]; done) | (simp (disch := omega) only [qup_ne, qup_j, qclr_lo, qmul_lo, qup_k, qclr_at, qmul_hi]; rfl)
        · first | rfl | (simp (disch := omega) only [qup_ne, qup_j, qclr_lo, qmul_lo, qup_k, qclr_at, qmul_hi]; done) | (simp (disch := omega) only [qup_ne, qup_j, qclr_lo, qmul_lo, qup_k, qclr_at, qmul_hi]; rfl)
        · first | rfl | (simp (disch := omega) only [qup_ne, qup_j, qclr_lo, qmul_lo, qup_k, qclr_at, qmul_hi]; done) | (simp (disch := omega) only [qup_ne, qup_j, qclr_lo, qmul_lo, qup_k, qclr_at, qmul_hi]; rfl)
      · show (if 75 < 74 then _ else if 75 ≤ 78 then qW0 75 j else 0) = _
        rw [if_neg (by decide), if_pos (by decide)]
        by_cases c3 : j < 16
        · rw [if_pos c3, (nbp_16 j c3).2.2]
        · rw [if_neg c3]; unfold qW0; simp (disch := omega) only [qbeq_f, qble_t]; rfl
  exact L48 _ (0) ((qup (qclr (qup (qclr (qup (qclr (qup (qclr (qup (qup w 74 0 0) 74 1 0) 75) 74 2 75) 76) 74 3 76) 77) 74 4 77) 78) 74 5 78)) ((9, 0)) rfl (⟨by omega, nbI.z (fun j => rfl)⟩)
end
section
/-! the two outer constructors -/
noncomputable def hbI (w9 E : qW) (a s : Nat) : Prop := ∀ p j, w9 p j = if p = a then (if j < s then 1 else 0) else E p j
theorem hbI.z {E : qW} {a : Nat} (h : ∀ j, E a j = 0) : hbI E E a 0 := fun p j => by
  by_cases h1 : p = a
  · rw [if_pos h1, if_neg (by omega), h1, h]
  · rw [if_neg h1]
theorem hbI.out {w8 E : qW} {a s p : Nat} (h : hbI w8 E a s) (hp : p ≠ a) (j : Nat) : w8 p j = E p j := by rw [h, if_neg hp]
theorem hbI.yes {w8 E : qW} {a s : Nat} (h : hbI w8 E a s) : hbI (qup w8 a s 1) E a (s + 1) := fun p j => by
  by_cases h1 : p = a
  · subst h1
    rw [if_pos rfl]
    by_cases h3 : j = s
    · subst h3
      rw [qup_k, if_pos (by omega)]
    · rw [qup_j h3, h, if_pos rfl]
      by_cases h4 : j < s
      · rw [if_pos h4, if_pos (by omega)]
      · rw [if_neg h4, if_neg (by omega)]
  · rw [qup_ne h1, h, if_neg h1, if_neg h1]
theorem hbI.fin {w9 E X : qW} {a s : Nat} (h : hbI w9 E a s) (hs : s = 36) (hE : ∀ p j, p ≠ a → E p j = X p j) (ha : ∀ j, X a j = if j < 36 then 1 else 0) (p j : Nat) : w9 p j = X p j := by
  subst hs
  rw [h p j]
  by_cases h1 : p = a
  · rw [if_pos h1, h1, ha]
  · rw [if_neg h1, hE p j h1]
theorem K_X4_init_45 {d : Nat} (hd : 1 ≤ d) (w : qW) (hz : ∀ j, w 45 j = 0) : qG none d 54 0 [(2, 45), (9, 0)] [] w 45 (fun (r : qV) (w1 : qW) (n1 : Nat) => r = (9, 0) ∧ qFr w w1 45 56 ∧ n1 = 56) := by
  generalize hQ9 : (fun (r : qV) (w1 : qW) (n1 : Nat) => r = (9, 0) ∧ qFr w w1 45 56 ∧ n1 = 56) = Q9
  obtain ⟨d, rfl⟩ : ∃ d9, d = d9 + 1 := ⟨d - 1, by omega⟩
  refine qG.blk 1 (pc' := 1) (ls' := [(2, 45), (9, 0)]) (st' := [(2, 45)]) (w' := w) (n' := 45) rfl ?_
  refine qG.oin rfl rfl (by decide) ?_
  refine qG.blk 5 (pc' := 12) (ls' := [(2, 45), (9, 0)]) (st' := [(0, 12), (2, 45)]) (w' := (qup w 45 0 0)) (n' := 45) rfl ?_
  refine qG.blk 1 (pc' := 14) (ls' := [(2, 45), (9, 0)]) (st' := [(2, 46), (2, 45)]) (w' := (qclr (qup w 45 0 0) 46)) (n' := 46) rfl ?_
  refine qG.blk 3 (pc' := 20) (ls' := [(2, 45), (9, 0)]) (st' := [(0, 12), (2, 45)]) (w' := (qup (qclr (qup w 45 0 0) 46) 45 1 46)) (n' := 46) rfl ?_
  refine qG.blk 1 (pc' := 22) (ls' := [(2, 45), (9, 0)]) (st' := [(2, 47), (2, 45)]) (w' := (qclr (qup (qclr (qup w 45 0 0) 46) 45 1 46) 47)) (n' := 47) rfl ?_
  refine qG.blk 3 (pc' := 28) (ls' := [(2, 45), (9, 0)]) (st' := [(0, 12), (2, 45)]) (w' := (qup (qclr (qup (qclr (qup w 45 0 0) 46) 45 1 46) 47) 45 2 47)) (n' := 47) rfl ?_
  refine qG.blk 1 (pc' := 30) (ls' := [(2, 45), (9, 0)]) (st' := [(2, 48), (2, 45)]) (w' := (qclr (qup (qclr (qup (qclr (qup w 45 0 0) 46) 45 1 46) 47) 45 2 47) 48)) (n' := 48) rfl ?_
  refine qG.blk 3 (pc' := 36) (ls' := [(2, 45), (9, 0)]) (st' := [(0, 36), (2, 45)]) (w' := (qup (qclr (qup (qclr (qup (qclr (qup w 45 0 0) 46) 45 1 46) 47) 45 2 47) 48) 45 3 48)) (n' := 48) rfl ?_
  refine qG.blk 1 (pc' := 38) (ls' := [(2, 45), (9, 0)]) (st' := [(2, 49), (2, 45)]) (w' := (qclr (qup (qclr (qup (qclr (qup (qclr (qup w 45 0 0) 46) 45 1 46) 47) 45 2 47) 48) 45 3 48) 49)) (n' := 49) rfl ?_
  refine qG.blk 3 (pc' := 45) (ls' := [(2, 45), (9, 0)]) (st' := [(0, 1200), (2, 45)]) (w' := (qup (qclr (qup (qclr (qup (qclr (qup (qclr (qup w 45 0 0) 46) 45 1 46) 47) 45 2 47) 48) 45 3 48) 49) 45 4 49)) (n' := 49) rfl ?_
  refine qG.blk 1 (pc' := 47) (ls' := [(2, 45), (9, 0)]) (st' := [(2, 50), (2, 45)]) (w' := (qclr (qup (qclr (qup (qclr (qup (qclr (qup (qclr (qup w 45 0 0) 46) 45 1 46) 47) 45 2 47) 48) 45 3 48) 49) 45 4 49) 50)) (n' := 50) rfl ?_
  refine qG.blk 9 (pc' := 63) (ls' := [(2, 45), (9, 0)]) (st' := [(0, 60), (2, 45)]) (w' := (qup (qup (qup (qclr (qup (qclr (qup (qclr (qup (qclr (qup (qclr (qup w 45 0 0) 46) 45 1 46) 47) 45 2 47) 48) 45 3 48) 49) 45 4 49) 50) 45 5 50) 45 6 0) 45 7 0)) (n' := 50) rfl ?_
  refine qG.blk 1 (pc' := 65) (ls' := [(2, 45), (9, 0)]) (st' := [(2, 51), (2, 45)]) (w' := (qclr (qup (qup (qup (qclr (qup (qclr (qup (qclr (qup (qclr (qup (qclr (qup w 45 0 0) 46) 45 1 46) 47) 45 2 47) 48) 45 3 48) 49) 45 4 49) 50) 45 5 50) 45 6 0) 45 7 0) 51)) (n' := 51) rfl ?_
  refine qG.blk 3 (pc' := 71) (ls' := [(2, 45), (9, 0)]) (st' := [(0, 60), (2, 45)]) (w' := (qup (qclr (qup (qup (qup (qclr (qup (qclr (qup (qclr (qup (qclr (qup (qclr (qup w 45 0 0) 46) 45 1 46) 47) 45 2 47) 48) 45 3 48) 49) 45 4 49) 50) 45 5 50) 45 6 0) 45 7 0) 51) 45 8 51)) (n' := 51) rfl ?_
  refine qG.blk 1 (pc' := 73) (ls' := [(2, 45), (9, 0)]) (st' := [(2, 52), (2, 45)]) (w' := (qclr (qup (qclr (qup (qup (qup (qclr (qup (qclr (qup (qclr (qup (qclr (qup (qclr (qup w 45 0 0) 46) 45 1 46) 47) 45 2 47) 48) 45 3 48) 49) 45 4 49) 50) 45 5 50) 45 6 0) 45 7 0) 51) 45 8 51) 52)) (n' := 52) rfl ?_
  refine qG.blk 3 (pc' := 79) (ls' := [(2, 45), (9, 0)]) (st' := [(0, 60), (2, 45)]) (w' := (qup (qclr (qup (qclr (qup (qup (qup (qclr (qup (qclr (qup (qclr (qup (qclr (qup (qclr (qup w 45 0 0) 46) 45 1 46) 47) 45 2 47) 48) 45 3 48) 49) 45 4 49) 50) 45 5 50) 45 6 0) 45 7 0) 51) 45 8 51) 52) 45 9 52)) (n' := 52) rfl ?_
  refine qG.blk 1 (pc' := 81) (ls' := [(2, 45), (9, 0)]) (st' := [(2, 53), (2, 45)]) (w' := (qclr (qup (qclr (qup (qclr (qup (qup (qup (qclr (qup (qclr (qup (qclr (qup (qclr (qup (qclr (qup w 45 0 0) 46) 45 1 46) 47) 45 2 47) 48) 45 3 48) 49) 45 4 49) 50) 45 5 50) 45 6 0) 45 7 0) 51) 45 8 51) 52) 45 9 52) 53)) (n' := 53) rfl ?_
  refine qG.blk 3 (pc' := 87) (ls' := [(2, 45), (9, 0)]) (st' := [(0, 60), (2, 45)]) (w' := (qup (qclr (qup (qclr (qup (qclr (qup (qup (qup (qclr (qup (qclr (qup (qclr (qup (qclr (qup (qclr (qup w 45 0 0) 46) 45 1 46) 47) 45 2 47) 48) 45 3 48) 49) 45 4 49) 50) 45 5 50) 45 6 0) 45 7 0) 51) 45 8 51) 52) 45 9 52) 53) 45 10 53)) (n' := 53) rfl ?_
  refine qG.blk 1 (pc' := 89) (ls' := [(2, 45), (9, 0)]) (st' := [(2, 54), (2, 45)]) (w' := (qclr (qup (qclr (qup (qclr (qup (qclr (qup (qup (qup (qclr (qup (qclr (qup (qclr (qup (qclr (qup (qclr (qup w 45 0 0) 46) 45 1 46) 47) 45 2 47) 48) 45 3 48) 49) 45 4 49) 50) 45 5 50) 45 6 0) 45 7 0) 51) 45 8 51) 52) 45 9 52) 53) 45 10 53) 54)) (n' := 54) rfl ?_
  refine qG.blk 3 (pc' := 95) (ls' := [(2, 45), (9, 0)]) (st' := [(0, 60), (2, 45)]) (w' := (qup (qclr (qup (qclr (qup (qclr (qup (qclr (qup (qup (qup (qclr (qup (qclr (qup (qclr (qup (qclr (qup (qclr (qup w 45 0 0) 46) 45 1 46) 47) 45 2 47) 48) 45 3 48) 49) 45 4 49) 50) 45 5 50) 45 6 0) 45 7 0) 51) 45 8 51) 52) 45 9 52) 53) 45 10 53) 54) 45 11 54)) (n' := 54) rfl ?_
  refine qG.blk 1 (pc' := 97) (ls' := [(2, 45), (9, 0)]) (st' := [(2, 55), (2, 45)]) (w' := (qclr (qup (qclr (qup (qclr (qup (qclr (qup (qclr (qup (qup (qup (qclr (qup (qclr (qup (qclr (qup (qclr (qup (qclr (qup w 45 0 0) 46) 45 1 46) 47) 45 2 47) 48) 45 3 48) 49) 45 4 49) 50) 45 5 50) 45 6 0) 45 7 0) 51) 45 8 51) 52) 45 9 52) 53) 45 10 53) 54) 45 11 54) 55)) (n' := 55) rfl ?_
  refine qG.blk 3 (pc' := 103) (ls' := [(2, 45), (9, 0)]) (st' := [(0, 12), (2, 45)]) (w' := (qup (qclr (qup (qclr (qup (qclr (qup (qclr (qup (qclr (qup (qup (qup (qclr (qup (qclr (qup (qclr (qup (qclr (qup (qclr (qup w 45 0 0) 46) 45 1 46) 47) 45 2 47) 48) 45 3 48) 49) 45 4 49) 50) 45 5 50) 45 6 0) 45 7 0) 51) 45 8 51) 52) 45 9 52) 53) 45 10 53) 54) 45 11 54) 55) 45 12 55)) (n' := 55) rfl ?_
  refine qG.blk 1 (pc' := 105) (ls' := [(2, 45), (9, 0)]) (st' := [(2, 56), (2, 45)]) (w' := (qclr (qup (qclr (qup (qclr (qup (qclr (qup (qclr (qup (qclr (qup (qup (qup (qclr (qup (qclr (qup (qclr (qup (qclr (qup (qclr (qup w 45 0 0) 46) 45 1 46) 47) 45 2 47) 48) 45 3 48) 49) 45 4 49) 50) 45 5 50) 45 6 0) 45 7 0) 51) 45 8 51) 52) 45 9 52) 53) 45 10 53) 54) 45 11 54) 55) 45 12 55) 56)) (n' := 56) rfl ?_
  refine qG.blk 3 (pc' := 110) (ls' := [(2, 45), (0, 0)]) (st' := []) (w' := (qup (qclr (qup (qclr (qup (qclr (qup (qclr (qup (qclr (qup (qclr (qup (qup (qup (qclr (qup (qclr (qup (qclr (qup (qclr (qup (qclr (qup w 45 0 0) 46) 45 1 46) 47) 45 2 47) 48) 45 3 48) 49) 45 4 49) 50) 45 5 50) 45 6 0) 45 7 0) 51) 45 8 51) 52) 45 9 52) 53) 45 10 53) 54) 45 11 54) 55) 45 12 55) 56) 45 13 56)) (n' := 56) rfl ?_
  have L110 : ∀ (m9 : Nat) (s : Nat) (w9 : qW), 36 - s = m9 → (s ≤ 36 ∧ hbI w9 (qup (qclr (qup (qclr (qup (qclr (qup (qclr (qup (qclr (qup (qclr (qup (qup (qup (qclr (qup (qclr (qup (qclr (qup (qclr (qup (qclr (qup w 45 0 0) 46) 45 1 46) 47) 45 2 47) 48) 45 3 48) 49) 45 4 49) 50) 45 5 50) 45 6 0) 45 7 0) 51) 45 8 51) 52) 45 9 52) 53) 45 10 53) 54) 45 11 54) 55) 45 12 55) 56) 45 13 56) 49 s) → qG none (d + 1) 54 110 [(2, 45), (0, ((s : Nat) : Int))] [] w9 56 Q9 := by
    intro m9
    induction m9 using Nat.strongRecOn with
    | ind m9 ih110 =>
    intro s w9 hm110 hI110
    refine qG.blk 3 (pc' := 115) (ls' := [(2, 45), (0, ((s : Nat) : Int))]) (st' := [(2, w9 45 4), (0, ((s : Nat) : Int))]) (w' := w9) (n' := 56) rfl ?_
    rw [show w9 45 4 = 49 from by rw [show w9 45 4 = (qup (qclr (qup (qclr (qup (qclr (qup (qclr (qup (qclr (qup (qclr (qup (qup (qup (qclr (qup (qclr (qup (qclr (qup (qclr (qup (qclr (qup w 45 0 0) 46) 45 1 46) 47) 45 2 47) 48) 45 3 48) 49) 45 4 49) 50) 45 5 50) 45 6 0) 45 7 0) 51) 45 8 51) 52) 45 9 52) 53) 45 10 53) 54) 45 11 54) 55) 45 12 55) 56) 45 13 56) 45 4 from hI110.2.out (by decide) 4]; rfl]
    refine qG.blk 1 (pc' := 116) (ls' := [(2, 45), (0, ((s : Nat) : Int))]) (st' := [(0, 36), (0, ((s : Nat) : Int))]) (w' := w9) (n' := 56) rfl ?_
    refine qG.br (P := ((s : Nat) : Int) < 36) (pc1 := 119) (pc2 := 132) (st1 := []) rfl (fun h1 => ?_) (fun h1 => ?_)
    · skip
      refine qG.blk 2 (pc' := 123) (ls' := [(2, 45), (0, ((s : Nat) : Int))]) (st' := [(2, w9 45 4)]) (w' := w9) (n' := 56) rfl ?_
      rw [show w9 45 4 = 49 from by rw [show w9 45 4 = (qup (qclr (qup (qclr (qup (qclr (qup (qclr (qup (qclr (qup (qclr (qup (qup (qup (qclr (qup (qclr (qup (qclr (qup (qclr (qup (qclr (qup w 45 0 0) 46) 45 1 46) 47) 45 2 47) 48) 45 3 48) 49) 45 4 49) 50) 45 5 50) 45 6 0) 45 7 0) 51) 45 8 51) 52) 45 9 52) 53) 45 10 53) 54) 45 11 54) 55) 45 12 55) 56) 45 13 56) 45 4 from hI110.2.out (by decide) 4]; rfl]
      refine qG.blk 2 (pc' := 125) (ls' := [(2, 45), (0, ((s : Nat) : Int))]) (st' := [(0, 1), (0, ((s : Nat) : Int)), (2, 49)]) (w' := w9) (n' := 56) rfl ?_
      refine qG.ar (P := 0 ≤ ((s : Nat) : Int) ∧ ((s : Nat) : Int) < ((36 : Nat) : Int)) (P2 := 0 < (49 : Int) ∧ (49 : Int) ≤ ((56 : Nat) : Int)) (pc' := 126) (ls' := [(2, 45), (0, ((s : Nat) : Int))]) (st' := []) (w' := (qup w9 49 s 1)) (n' := 56) rfl (by omega) (by decide) ?_
      refine qG.blk 1 (pc' := 129) (ls' := [(2, 45), (0, wrp (((s : Nat) : Int) + 1))]) (st' := []) (w' := (qup w9 49 s 1)) (n' := 56) rfl ?_
      rw [show wrp (((s : Nat) : Int) + 1) = ((s + 1 : Nat) : Int) from wrp_id (by omega) (by omega)]
      refine qG.blk 1 (pc' := 110) (ls' := [(2, 45), (0, ((s + 1 : Nat) : Int))]) (st' := []) (w' := (qup w9 49 s 1)) (n' := 56) rfl ?_
      exact ih110 _ (by omega) (s + 1) ((qup w9 49 s 1)) rfl (⟨by omega, hI110.2.yes⟩)
    · skip
      refine qG.retv rfl rfl ?_
      subst hQ9
      refine ⟨rfl, hbI.fin hI110.2 (by omega) (X := fun p j => if p < 45 then w p j else if p ≤ 56 then qW0 p j else 0) (fun p j hp => ?_) (fun j => ?_), rfl⟩
      · show _ = if p < 45 then w p j else if p ≤ 56 then qW0 p j else 0
        by_cases c1 : p < 45
        · rw [if_pos c1]; simp (disch := first | decide | omega) only [qup_ne, qup_j, qclr_lo, qmul_lo]
        rw [if_neg c1]
        by_cases c2 : 56 < p
        · rw [if_neg (by omega)]; simp (disch := first | decide | omega) only [qup_ne, qup_j, qclr_lo, qmul_lo, qclr_at, qmul_hi]
        rw [if_pos (by omega)]
        rcases (show p = 45 ∨ p = 46 ∨ p = 47 ∨ p = 48 ∨ p = 49 ∨ p = 50 ∨ p = 51 ∨ p = 52 ∨ p = 53 ∨ p = 54 ∨ p = 55 ∨ p = 56 by omega) with rfl | rfl | rfl | rfl | rfl | rfl | rfl | rfl | rfl | rfl | rfl | rfl
        · by_cases c3 : j < 14
          · rcases (show j = 0 ∨ j = 1 ∨ j = 2 ∨ j = 3 ∨ j = 4 ∨ j = 5 ∨ j = 6 ∨ j = 7 ∨ j = 8 ∨ j = 9 ∨ j = 10 ∨ j = 11 ∨ j = 12 ∨ j = 13 by omega) with rfl | rfl | rfl | rfl | rfl | rfl | rfl | rfl | rfl | rfl | rfl | rfl | rfl | rfl <;> first | rfl | exact hz _ | (simp (disch := first | decide | omega) only [qup_ne, qup_j, qclr_lo, qmul_lo, qup_k, qclr_at, qmul_hi]; done) | (simp (disch := first | decide | omega) only [qup_ne, qup_j, qclr_lo, qmul_lo, qup_k, qclr_at, qmul_hi]; rfl) | (simp (disch := first | decide | omega) only [qup_ne, qup_j, qclr_lo, qmul_lo, qup_k, qclr_at, hz]; rfl)
          · first | (simp (disch := first | decide | omega) only [qup_ne, qup_j, qclr_lo, qmul_lo, hz]; unfold qW0; simp (disch := first | decide | omega) only [qbeq_f, qble_t]; rfl) | (simp (disch := first | decide | omega) only [qup_ne, qup_j, qclr_lo, qmul_lo, qclr_at]; unfold qW0; simp (disch := first | decide | omega) only [qbeq_f, qble_t]; rfl) | (simp (disch := first | decide | omega) only [qup_ne, qup_j, qclr_lo, qmul_lo, qclr_at]; done)
        · first | rfl | (simp (disch := first | decide | omega) only [qup_ne, qup_j, qclr_lo, qmul_lo, qup_k, qclr_at, qmul_hi]; done) | (simp (disch := first | decide | omega) only [qup_ne, qup_j, qclr_lo, qmul_lo, qup_k, qclr_at, qmul_hi]; rfl)
        · first | rfl | (simp (disch := first | decide | omega) only [qup_ne, qup_j, qclr_lo, qmul_lo, qup_k, qclr_at, qmul_hi]; done) | (simp (disch := first | decide | omega) only [qup_ne, qup_j, qclr_lo, qmul_lo, qup_k, qclr_at, qmul_hi]; rfl)
        · first | rfl | (simp (disch := first | decide | omega) only [qup_ne, qup_j, qclr_lo, qmul_lo, qup_k, qclr_at, qmul_hi]; done) | (simp (disch := first | decide | omega) only [qup_ne, qup_j, qclr_lo, qmul_lo, qup_k, qclr_at, qmul_hi]; rfl)
        · exact absurd rfl hp
        · first | rfl | (simp (disch := first | decide | omega) only [qup_ne, qup_j, qclr_lo, qmul_lo, qup_k, qclr_at, qmul_hi]; done) | (simp (disch := first | decide | omega) only [qup_ne, qup_j, qclr_lo, qmul_lo, qup_k, qclr_at, qmul_hi]; rfl)
        · first | rfl | (simp (disch := first | decide | omega) only [qup_ne, qup_j, qclr_lo, qmul_lo, qup_k, qclr_at, qmul_hi]; done) | (simp (disch := first | decide | omega) only [qup_ne, qup_j, qclr_lo, qmul_lo, qup_k, qclr_at, qmul_hi]; rfl)
        · first | rfl | (simp (disch := first | decide | omega) only [qup_ne, qup_j, qclr_lo, qmul_lo, qup_k, qclr_at, qmul_hi]; done) | (simp (disch := first | decide | omega) only [qup_ne, qup_j, qclr_lo, qmul_lo, qup_k, qclr_at, qmul_hi]; rfl)
        · first | rfl | (simp (disch := first | decide | omega) only [qup_ne, qup_j, qclr_lo, qmul_lo, qup_k, qclr_at, qmul_hi]; done) | (simp (disch := first | decide | omega) only [qup_ne, qup_j, qclr_lo, qmul_lo, qup_k, qclr_at, qmul_hi]; rfl)
        · first | rfl | (simp (disch := first | decide | omega) only [qup_ne, qup_j, qclr_lo, qmul_lo, qup_k, qclr_at, qmul_hi]; done) | (simp (disch := first | decide | omega) only [qup_ne, qup_j, qclr_lo, qmul_lo, qup_k, qclr_at, qmul_hi]; rfl)
        · first | rfl | (simp (disch := first | decide | omega) only [qup_ne, qup_j, qclr_lo, qmul_lo, qup_k, qclr_at, qmul_hi]; done) | (simp (disch := first | decide | omega) only [qup_ne, qup_j, qclr_lo, qmul_lo, qup_k, qclr_at, qmul_hi]; rfl)
        · first | rfl | (simp (disch := first | decide | omega) only [qup_ne, qup_j, qclr_lo, qmul_lo, qup_k, qclr_at, qmul_hi]; done) | (simp (disch := first | decide | omega) only [qup_ne, qup_j, qclr_lo, qmul_lo, qup_k, qclr_at, qmul_hi]; rfl)
      · show (if 49 < 45 then _ else if 49 ≤ 56 then qW0 49 j else 0) = _
        rw [if_neg (by decide), if_pos (by decide)]
        show (bif Nat.blt j 36 then (1 : Int) else 0) = _
        by_cases c3 : j < 36
        · rw [if_pos c3, show Nat.blt j 36 = true from Nat.ble_eq_true_of_le c3]; rfl
        · rw [if_neg c3, show Nat.blt j 36 = false from by cases hq : Nat.blt j 36; rfl; exact absurd (Nat.le_of_ble_eq_true hq) c3]; rfl
  exact L110 _ (0) ((qup (qclr (qup (qclr (qup (qclr (qup (qclr (qup (qclr (qup (qclr (qup (qup (qup (qclr (qup (qclr (qup (qclr (qup (qclr (qup (qclr (qup w 45 0 0) 46) 45 1 46) 47) 45 2 47) 48) 45 3 48) 49) 45 4 49) 50) 45 5 50) 45 6 0) 45 7 0) 51) 45 8 51) 52) 45 9 52) 53) 45 10 53) 54) 45 11 54) 55) 45 12 55) 56) 45 13 56)) rfl (⟨by omega, hbI.z (fun j => rfl)⟩)
theorem K_X11_init_1 {d : Nat} (hd : 3 ≤ d) (w : qW) (hz : ∀ j, w 1 j = 0) : qG none d 163 0 [(2, 1), (9, 0)] [] w 1 (fun (r : qV) (w1 : qW) (n1 : Nat) => r = (9, 0) ∧ qFr w w1 1 94 ∧ n1 = 94) := by
  generalize hQ9 : (fun (r : qV) (w1 : qW) (n1 : Nat) => r = (9, 0) ∧ qFr w w1 1 94 ∧ n1 = 94) = Q9
  obtain ⟨d, rfl⟩ : ∃ d9, d = d9 + 1 := ⟨d - 1, by omega⟩
  refine qG.blk 1 (pc' := 1) (ls' := [(2, 1), (9, 0)]) (st' := [(2, 1)]) (w' := w) (n' := 1) rfl ?_
  refine qG.oin rfl rfl (by decide) ?_
  refine qG.blk 2 (pc' := 6) (ls' := [(2, 1), (9, 0)]) (st' := [(0, 3), (2, 1)]) (w' := w) (n' := 1) rfl ?_
  refine qG.blk 1 (pc' := 9) (ls' := [(2, 1), (9, 0)]) (st' := [(2, 2), (2, 1)]) (w' := (qclr w 2)) (n' := 2) rfl ?_
  refine qG.blk 3 (pc' := 14) (ls' := [(2, 1), (9, 0)]) (st' := [(0, 4), (2, 1)]) (w' := (qup (qclr w 2) 1 0 2)) (n' := 2) rfl ?_
  refine qG.blk 1 (pc' := 17) (ls' := [(2, 1), (9, 0)]) (st' := [(2, 3), (2, 1)]) (w' := (qclr (qup (qclr w 2) 1 0 2) 3)) (n' := 3) rfl ?_
  refine qG.blk 2 (pc' := 21) (ls' := [(2, 1), (9, 0)]) (st' := [(2, 1)]) (w' := (qup (qclr (qup (qclr w 2) 1 0 2) 3) 1 1 3)) (n' := 3) rfl ?_
  refine qG.blk 1 (pc' := 24) (ls' := [(2, 1), (9, 0)]) (st' := [(2, 4), (2, 1)]) (w' := (qclr (qup (qclr (qup (qclr w 2) 1 0 2) 3) 1 1 3) 4)) (n' := 4) rfl ?_
  refine qG.blk 1 (pc' := 25) (ls' := [(2, 1), (9, 0)]) (st' := [(2, 4), (2, 4), (2, 1)]) (w' := (qclr (qup (qclr (qup (qclr w 2) 1 0 2) 3) 1 1 3) 4)) (n' := 4) rfl ?_
  refine qG.call (t := 106) (na := 1) (sk := 2) (md := 2) (ls1 := [(2, 4)]) (r1 := [(2, 4), (2, 1)]) rfl rfl rfl rfl rfl (K_X7_init_4 (by omega) _ (fun j => by first | rfl | simp (disch := first | decide | omega) only [qup_ne, qup_j, qclr_lo, qclr_at])) ?_
  rintro _ u4 _ ⟨rfl, hF4, rfl⟩
  show qG none (d + 1) 163 28 [(2, 1), (9, 0)] [(2, 4), (2, 1)] u4 7 Q9
  refine qG.blk 2 (pc' := 32) (ls' := [(2, 1), (9, 0)]) (st' := [(2, 1)]) (w' := (qup u4 1 2 4)) (n' := 7) rfl ?_
  refine qG.blk 1 (pc' := 35) (ls' := [(2, 1), (9, 0)]) (st' := [(2, 8), (2, 1)]) (w' := (qclr (qup u4 1 2 4) 8)) (n' := 8) rfl ?_
  refine qG.blk 1 (pc' := 36) (ls' := [(2, 1), (9, 0)]) (st' := [(2, 8), (2, 8), (2, 1)]) (w' := (qclr (qup u4 1 2 4) 8)) (n' := 8) rfl ?_
  refine qG.call (t := 128) (na := 1) (sk := 2) (md := 2) (ls1 := [(2, 8)]) (r1 := [(2, 8), (2, 1)]) rfl rfl rfl rfl rfl (K_X9_init_8 (by omega) _ (fun j => by first | rfl | simp (disch := first | decide | omega) only [qup_ne, qup_j, qclr_lo, qclr_at])) ?_
  rintro _ u8 _ ⟨rfl, hF8, rfl⟩
  show qG none (d + 1) 163 39 [(2, 1), (9, 0)] [(2, 8), (2, 1)] u8 11 Q9
  refine qG.blk 2 (pc' := 43) (ls' := [(2, 1), (9, 0)]) (st' := [(2, 1)]) (w' := (qup u8 1 3 8)) (n' := 11) rfl ?_
  refine qG.blk 1 (pc' := 46) (ls' := [(2, 1), (9, 0)]) (st' := [(2, 12), (2, 1)]) (w' := (qclr (qup u8 1 3 8) 12)) (n' := 12) rfl ?_
  refine qG.blk 1 (pc' := 47) (ls' := [(2, 1), (9, 0)]) (st' := [(2, 12), (2, 12), (2, 1)]) (w' := (qclr (qup u8 1 3 8) 12)) (n' := 12) rfl ?_
  refine qG.call (t := 74) (na := 1) (sk := 2) (md := 2) (ls1 := [(2, 12)]) (r1 := [(2, 12), (2, 1)]) rfl rfl rfl rfl rfl (K_X5_init_12 (by omega) _ (fun j => by first | rfl | simp (disch := first | decide | omega) only [qup_ne, qup_j, qclr_lo, qclr_at])) ?_
  rintro _ u12 _ ⟨rfl, hF12, rfl⟩
  show qG none (d + 1) 163 50 [(2, 1), (9, 0)] [(2, 12), (2, 1)] u12 22 Q9
  refine qG.blk 2 (pc' := 54) (ls' := [(2, 1), (9, 0)]) (st' := [(2, 1)]) (w' := (qup u12 1 4 12)) (n' := 22) rfl ?_
  refine qG.blk 1 (pc' := 57) (ls' := [(2, 1), (9, 0)]) (st' := [(2, 23), (2, 1)]) (w' := (qclr (qup u12 1 4 12) 23)) (n' := 23) rfl ?_
  refine qG.blk 1 (pc' := 58) (ls' := [(2, 1), (9, 0)]) (st' := [(2, 23), (2, 23), (2, 1)]) (w' := (qclr (qup u12 1 4 12) 23)) (n' := 23) rfl ?_
  refine qG.call (t := 33) (na := 1) (sk := 2) (md := 2) (ls1 := [(2, 23)]) (r1 := [(2, 23), (2, 1)]) rfl rfl rfl rfl rfl (K_X3_init_23 (by omega) _ (fun j => by first | rfl | simp (disch := first | decide | omega) only [qup_ne, qup_j, qclr_lo, qclr_at])) ?_
  rintro _ u23 _ ⟨rfl, hF23, rfl⟩
  show qG none (d + 1) 163 61 [(2, 1), (9, 0)] [(2, 23), (2, 1)] u23 40 Q9
  refine qG.blk 2 (pc' := 65) (ls' := [(2, 1), (9, 0)]) (st' := [(2, 1)]) (w' := (qup u23 1 5 23)) (n' := 40) rfl ?_
  refine qG.blk 1 (pc' := 68) (ls' := [(2, 1), (9, 0)]) (st' := [(2, 41), (2, 1)]) (w' := (qclr (qup u23 1 5 23) 41)) (n' := 41) rfl ?_
  refine qG.blk 1 (pc' := 69) (ls' := [(2, 1), (9, 0)]) (st' := [(2, 41), (2, 41), (2, 1)]) (w' := (qclr (qup u23 1 5 23) 41)) (n' := 41) rfl ?_
  refine qG.call (t := 8) (na := 1) (sk := 2) (md := 2) (ls1 := [(2, 41)]) (r1 := [(2, 41), (2, 1)]) rfl rfl rfl rfl rfl (K_X1_init_41 (by omega) _ (fun j => by first | rfl | simp (disch := first | decide | omega) only [qup_ne, qup_j, qclr_lo, qclr_at])) ?_
  rintro _ u41 _ ⟨rfl, hF41, rfl⟩
  show qG none (d + 1) 163 72 [(2, 1), (9, 0)] [(2, 41), (2, 1)] u41 44 Q9
  refine qG.blk 2 (pc' := 76) (ls' := [(2, 1), (9, 0)]) (st' := [(2, 1)]) (w' := (qup u41 1 6 41)) (n' := 44) rfl ?_
  refine qG.blk 1 (pc' := 79) (ls' := [(2, 1), (9, 0)]) (st' := [(2, 45), (2, 1)]) (w' := (qclr (qup u41 1 6 41) 45)) (n' := 45) rfl ?_
  refine qG.blk 1 (pc' := 80) (ls' := [(2, 1), (9, 0)]) (st' := [(2, 45), (2, 45), (2, 1)]) (w' := (qclr (qup u41 1 6 41) 45)) (n' := 45) rfl ?_
  refine qG.call (t := 54) (na := 1) (sk := 1) (md := 2) (ls1 := [(2, 45), (9, 0)]) (r1 := [(2, 45), (2, 1)]) rfl rfl rfl rfl rfl (K_X4_init_45 (by omega) _ (fun j => by first | rfl | simp (disch := first | decide | omega) only [qup_ne, qup_j, qclr_lo, qclr_at])) ?_
  rintro _ u45 _ ⟨rfl, hF45, rfl⟩
  show qG none (d + 1) 163 83 [(2, 1), (9, 0)] [(2, 45), (2, 1)] u45 56 Q9
  refine qG.blk 2 (pc' := 87) (ls' := [(2, 1), (9, 0)]) (st' := [(2, 1)]) (w' := (qup u45 1 7 45)) (n' := 56) rfl ?_
  refine qG.blk 1 (pc' := 90) (ls' := [(2, 1), (9, 0)]) (st' := [(2, 57), (2, 1)]) (w' := (qclr (qup u45 1 7 45) 57)) (n' := 57) rfl ?_
  refine qG.blk 1 (pc' := 91) (ls' := [(2, 1), (9, 0)]) (st' := [(2, 57), (2, 57), (2, 1)]) (w' := (qclr (qup u45 1 7 45) 57)) (n' := 57) rfl ?_
  refine qG.call (t := 0) (na := 1) (sk := 2) (md := 2) (ls1 := [(2, 57)]) (r1 := [(2, 57), (2, 1)]) rfl rfl rfl rfl rfl (K_X0_init_57 (by omega) _ (fun j => by first | rfl | simp (disch := first | decide | omega) only [qup_ne, qup_j, qclr_lo, qclr_at])) ?_
  rintro _ u57 _ ⟨rfl, hF57, rfl⟩
  show qG none (d + 1) 163 94 [(2, 1), (9, 0)] [(2, 57), (2, 1)] u57 60 Q9
  refine qG.blk 2 (pc' := 98) (ls' := [(2, 1), (9, 0)]) (st' := [(2, 1)]) (w' := (qup u57 1 8 57)) (n' := 60) rfl ?_
  refine qG.blk 1 (pc' := 101) (ls' := [(2, 1), (9, 0)]) (st' := [(2, 61), (2, 1)]) (w' := (qclr (qup u57 1 8 57) 61)) (n' := 61) rfl ?_
  refine qG.blk 1 (pc' := 102) (ls' := [(2, 1), (9, 0)]) (st' := [(2, 61), (2, 61), (2, 1)]) (w' := (qclr (qup u57 1 8 57) 61)) (n' := 61) rfl ?_
  refine qG.call (t := 154) (na := 1) (sk := 2) (md := 2) (ls1 := [(2, 61)]) (r1 := [(2, 61), (2, 1)]) rfl rfl rfl rfl rfl (K_X10_init_61 (by omega) _ (fun j => by first | rfl | simp (disch := first | decide | omega) only [qup_ne, qup_j, qclr_lo, qclr_at])) ?_
  rintro _ u61 _ ⟨rfl, hF61, rfl⟩
  show qG none (d + 1) 163 105 [(2, 1), (9, 0)] [(2, 61), (2, 1)] u61 63 Q9
  refine qG.blk 5 (pc' := 112) (ls' := [(2, 1), (0, 0)]) (st' := [(0, 3), (0, 0)]) (w' := (qup u61 1 9 61)) (n' := 63) rfl ?_
  refine qG.br (P := (0 : Int) < 3) (pc1 := 115) (pc2 := 134) (st1 := []) rfl (fun h1 => ?_) (fun h1 => ?_)
  · skip
    refine qG.blk 2 (pc' := 119) (ls' := [(2, 1), (0, 0)]) (st' := [(2, u61 1 0)]) (w' := (qup u61 1 9 61)) (n' := 63) rfl ?_
    rw [show u61 1 0 = 2 from by simp (disch := first | decide | omega) only [hF4.lo, hF8.lo, hF12.lo, hF23.lo, hF41.lo, hF45.lo, hF57.lo, hF61.lo, qup_ne, qup_j, qup_k, qclr_lo, qclr_at]]
    refine qG.blk 1 (pc' := 120) (ls' := [(2, 1), (0, 0)]) (st' := [(0, 0), (2, 2)]) (w' := (qup u61 1 9 61)) (n' := 63) rfl ?_
    refine qG.blk 1 (pc' := 123) (ls' := [(2, 1), (0, 0)]) (st' := [(2, 64), (0, 0), (2, 2)]) (w' := (qclr (qup u61 1 9 61) 64)) (n' := 64) rfl ?_
    refine qG.blk 1 (pc' := 124) (ls' := [(2, 1), (0, 0)]) (st' := [(2, 64), (2, 64), (0, 0), (2, 2)]) (w' := (qclr (qup u61 1 9 61) 64)) (n' := 64) rfl ?_
    refine qG.call (t := 17) (na := 1) (sk := 1) (md := 2) (ls1 := [(2, 64), (9, 0), (9, 0)]) (r1 := [(2, 64), (0, 0), (2, 2)]) rfl rfl rfl rfl rfl (K_X2_init_64 (by omega) _ (fun j => by first | rfl | simp (disch := first | decide | omega) only [qup_ne, qup_j, qclr_lo, qclr_at])) ?_
    rintro _ u64 _ ⟨rfl, hF64, rfl⟩
    show qG none (d + 1) 163 127 [(2, 1), (0, 0)] [(2, 64), (0, 0), (2, 2)] u64 68 Q9
    refine qG.ar (P := 0 ≤ 0 ∧ 0 < ((3 : Nat) : Int)) (P2 := (0 < (2 : Int) ∧ (2 : Int) ≤ ((68 : Nat) : Int)) ∧ 0 < 64 ∧ 64 ≤ ((68 : Nat) : Int)) (pc' := 128) (ls' := [(2, 1), (0, 0)]) (st' := []) (w' := (qup u64 2 0 64)) (n' := 68) rfl (by omega) (by omega) ?_
    refine qG.blk 1 (pc' := 131) (ls' := [(2, 1), (0, wrp (0 + 1))]) (st' := []) (w' := (qup u64 2 0 64)) (n' := 68) rfl ?_
    rw [show wrp (0 + 1) = 1 from wrp_id (by omega) (by omega)]
    refine qG.blk 3 (pc' := 112) (ls' := [(2, 1), (0, 1)]) (st' := [(0, 3), (0, 1)]) (w' := (qup u64 2 0 64)) (n' := 68) rfl ?_
    refine qG.br (P := (1 : Int) < 3) (pc1 := 115) (pc2 := 134) (st1 := []) rfl (fun h2 => ?_) (fun h2 => ?_)
    · skip
      refine qG.blk 2 (pc' := 119) (ls' := [(2, 1), (0, 1)]) (st' := [(2, u64 1 0)]) (w' := (qup u64 2 0 64)) (n' := 68) rfl ?_
      rw [show u64 1 0 = 2 from by simp (disch := first | decide | omega) only [hF4.lo, hF8.lo, hF12.lo, hF23.lo, hF41.lo, hF45.lo, hF57.lo, hF61.lo, hF64.lo, qup_ne, qup_j, qup_k, qclr_lo, qclr_at]]
      refine qG.blk 1 (pc' := 120) (ls' := [(2, 1), (0, 1)]) (st' := [(0, 1), (2, 2)]) (w' := (qup u64 2 0 64)) (n' := 68) rfl ?_
      refine qG.blk 1 (pc' := 123) (ls' := [(2, 1), (0, 1)]) (st' := [(2, 69), (0, 1), (2, 2)]) (w' := (qclr (qup u64 2 0 64) 69)) (n' := 69) rfl ?_
      refine qG.blk 1 (pc' := 124) (ls' := [(2, 1), (0, 1)]) (st' := [(2, 69), (2, 69), (0, 1), (2, 2)]) (w' := (qclr (qup u64 2 0 64) 69)) (n' := 69) rfl ?_
      refine qG.call (t := 17) (na := 1) (sk := 1) (md := 2) (ls1 := [(2, 69), (9, 0), (9, 0)]) (r1 := [(2, 69), (0, 1), (2, 2)]) rfl rfl rfl rfl rfl (K_X2_init_69 (by omega) _ (fun j => by first | rfl | simp (disch := first | decide | omega) only [qup_ne, qup_j, qclr_lo, qclr_at])) ?_
      rintro _ u69 _ ⟨rfl, hF69, rfl⟩
      show qG none (d + 1) 163 127 [(2, 1), (0, 1)] [(2, 69), (0, 1), (2, 2)] u69 73 Q9
      refine qG.ar (P := 0 ≤ 1 ∧ 1 < ((3 : Nat) : Int)) (P2 := (0 < (2 : Int) ∧ (2 : Int) ≤ ((73 : Nat) : Int)) ∧ 0 < 69 ∧ 69 ≤ ((73 : Nat) : Int)) (pc' := 128) (ls' := [(2, 1), (0, 1)]) (st' := []) (w' := (qup u69 2 1 69)) (n' := 73) rfl (by omega) (by omega) ?_
      refine qG.blk 1 (pc' := 131) (ls' := [(2, 1), (0, wrp (1 + 1))]) (st' := []) (w' := (qup u69 2 1 69)) (n' := 73) rfl ?_
      rw [show wrp (1 + 1) = 2 from wrp_id (by omega) (by omega)]
      refine qG.blk 3 (pc' := 112) (ls' := [(2, 1), (0, 2)]) (st' := [(0, 3), (0, 2)]) (w' := (qup u69 2 1 69)) (n' := 73) rfl ?_
      refine qG.br (P := (2 : Int) < 3) (pc1 := 115) (pc2 := 134) (st1 := []) rfl (fun h3 => ?_) (fun h3 => ?_)
      · skip
        refine qG.blk 2 (pc' := 119) (ls' := [(2, 1), (0, 2)]) (st' := [(2, u69 1 0)]) (w' := (qup u69 2 1 69)) (n' := 73) rfl ?_
        rw [show u69 1 0 = 2 from by simp (disch := first | decide | omega) only [hF4.lo, hF8.lo, hF12.lo, hF23.lo, hF41.lo, hF45.lo, hF57.lo, hF61.lo, hF64.lo, hF69.lo, qup_ne, qup_j, qup_k, qclr_lo, qclr_at]]
        refine qG.blk 1 (pc' := 120) (ls' := [(2, 1), (0, 2)]) (st' := [(0, 2), (2, 2)]) (w' := (qup u69 2 1 69)) (n' := 73) rfl ?_
        refine qG.blk 1 (pc' := 123) (ls' := [(2, 1), (0, 2)]) (st' := [(2, 74), (0, 2), (2, 2)]) (w' := (qclr (qup u69 2 1 69) 74)) (n' := 74) rfl ?_
        refine qG.blk 1 (pc' := 124) (ls' := [(2, 1), (0, 2)]) (st' := [(2, 74), (2, 74), (0, 2), (2, 2)]) (w' := (qclr (qup u69 2 1 69) 74)) (n' := 74) rfl ?_
        refine qG.call (t := 17) (na := 1) (sk := 1) (md := 2) (ls1 := [(2, 74), (9, 0), (9, 0)]) (r1 := [(2, 74), (0, 2), (2, 2)]) rfl rfl rfl rfl rfl (K_X2_init_74 (by omega) _ (fun j => by first | rfl | simp (disch := first | decide | omega) only [qup_ne, qup_j, qclr_lo, qclr_at])) ?_
        rintro _ u74 _ ⟨rfl, hF74, rfl⟩
        show qG none (d + 1) 163 127 [(2, 1), (0, 2)] [(2, 74), (0, 2), (2, 2)] u74 78 Q9
        refine qG.ar (P := 0 ≤ 2 ∧ 2 < ((3 : Nat) : Int)) (P2 := (0 < (2 : Int) ∧ (2 : Int) ≤ ((78 : Nat) : Int)) ∧ 0 < 74 ∧ 74 ≤ ((78 : Nat) : Int)) (pc' := 128) (ls' := [(2, 1), (0, 2)]) (st' := []) (w' := (qup u74 2 2 74)) (n' := 78) rfl (by omega) (by omega) ?_
        refine qG.blk 1 (pc' := 131) (ls' := [(2, 1), (0, wrp (2 + 1))]) (st' := []) (w' := (qup u74 2 2 74)) (n' := 78) rfl ?_
        rw [show wrp (2 + 1) = 3 from wrp_id (by omega) (by omega)]
        refine qG.blk 3 (pc' := 112) (ls' := [(2, 1), (0, 3)]) (st' := [(0, 3), (0, 3)]) (w' := (qup u74 2 2 74)) (n' := 78) rfl ?_
        refine qG.br (P := (3 : Int) < 3) (pc1 := 115) (pc2 := 134) (st1 := []) rfl (fun h4 => ?_) (fun h4 => ?_)
        · exact absurd h4 (by decide)
        · skip
          refine qG.blk 4 (pc' := 138) (ls' := [(2, 1), (0, 0)]) (st' := [(0, 4), (0, 0)]) (w' := (qup u74 2 2 74)) (n' := 78) rfl ?_
          refine qG.br (P := (0 : Int) < 4) (pc1 := 141) (pc2 := 160) (st1 := []) rfl (fun h5 => ?_) (fun h5 => ?_)
          · skip
            refine qG.blk 2 (pc' := 145) (ls' := [(2, 1), (0, 0)]) (st' := [(2, u74 1 1)]) (w' := (qup u74 2 2 74)) (n' := 78) rfl ?_
            rw [show u74 1 1 = 3 from by simp (disch := first | decide | omega) only [hF4.lo, hF8.lo, hF12.lo, hF23.lo, hF41.lo, hF45.lo, hF57.lo, hF61.lo, hF64.lo, hF69.lo, hF74.lo, qup_ne, qup_j, qup_k, qclr_lo, qclr_at]]
            refine qG.blk 1 (pc' := 146) (ls' := [(2, 1), (0, 0)]) (st' := [(0, 0), (2, 3)]) (w' := (qup u74 2 2 74)) (n' := 78) rfl ?_
            refine qG.blk 1 (pc' := 149) (ls' := [(2, 1), (0, 0)]) (st' := [(2, 79), (0, 0), (2, 3)]) (w' := (qclr (qup u74 2 2 74) 79)) (n' := 79) rfl ?_
            refine qG.blk 1 (pc' := 150) (ls' := [(2, 1), (0, 0)]) (st' := [(2, 79), (2, 79), (0, 0), (2, 3)]) (w' := (qclr (qup u74 2 2 74) 79)) (n' := 79) rfl ?_
            refine qG.call (t := 106) (na := 1) (sk := 2) (md := 2) (ls1 := [(2, 79)]) (r1 := [(2, 79), (0, 0), (2, 3)]) rfl rfl rfl rfl rfl (K_X7_init_79 (by omega) _ (fun j => by first | rfl | simp (disch := first | decide | omega) only [qup_ne, qup_j, qclr_lo, qclr_at])) ?_
            rintro _ u79 _ ⟨rfl, hF79, rfl⟩
            show qG none (d + 1) 163 153 [(2, 1), (0, 0)] [(2, 79), (0, 0), (2, 3)] u79 82 Q9
            refine qG.ar (P := 0 ≤ 0 ∧ 0 < ((4 : Nat) : Int)) (P2 := (0 < (3 : Int) ∧ (3 : Int) ≤ ((82 : Nat) : Int)) ∧ 0 < 79 ∧ 79 ≤ ((82 : Nat) : Int)) (pc' := 154) (ls' := [(2, 1), (0, 0)]) (st' := []) (w' := (qup u79 3 0 79)) (n' := 82) rfl (by omega) (by omega) ?_
            refine qG.blk 1 (pc' := 157) (ls' := [(2, 1), (0, wrp (0 + 1))]) (st' := []) (w' := (qup u79 3 0 79)) (n' := 82) rfl ?_
            rw [show wrp (0 + 1) = 1 from wrp_id (by omega) (by omega)]
            refine qG.blk 3 (pc' := 138) (ls' := [(2, 1), (0, 1)]) (st' := [(0, 4), (0, 1)]) (w' := (qup u79 3 0 79)) (n' := 82) rfl ?_
            refine qG.br (P := (1 : Int) < 4) (pc1 := 141) (pc2 := 160) (st1 := []) rfl (fun h6 => ?_) (fun h6 => ?_)
            · skip
              refine qG.blk 2 (pc' := 145) (ls' := [(2, 1), (0, 1)]) (st' := [(2, u79 1 1)]) (w' := (qup u79 3 0 79)) (n' := 82) rfl ?_
              rw [show u79 1 1 = 3 from by simp (disch := first | decide | omega) only [hF4.lo, hF8.lo, hF12.lo, hF23.lo, hF41.lo, hF45.lo, hF57.lo, hF61.lo, hF64.lo, hF69.lo, hF74.lo, hF79.lo, qup_ne, qup_j, qup_k, qclr_lo, qclr_at]]
              refine qG.blk 1 (pc' := 146) (ls' := [(2, 1), (0, 1)]) (st' := [(0, 1), (2, 3)]) (w' := (qup u79 3 0 79)) (n' := 82) rfl ?_
              refine qG.blk 1 (pc' := 149) (ls' := [(2, 1), (0, 1)]) (st' := [(2, 83), (0, 1), (2, 3)]) (w' := (qclr (qup u79 3 0 79) 83)) (n' := 83) rfl ?_
              refine qG.blk 1 (pc' := 150) (ls' := [(2, 1), (0, 1)]) (st' := [(2, 83), (2, 83), (0, 1), (2, 3)]) (w' := (qclr (qup u79 3 0 79) 83)) (n' := 83) rfl ?_
              refine qG.call (t := 106) (na := 1) (sk := 2) (md := 2) (ls1 := [(2, 83)]) (r1 := [(2, 83), (0, 1), (2, 3)]) rfl rfl rfl rfl rfl (K_X7_init_83 (by omega) _ (fun j => by first | rfl | simp (disch := first | decide | omega) only [qup_ne, qup_j, qclr_lo, qclr_at])) ?_
              rintro _ u83 _ ⟨rfl, hF83, rfl⟩
              show qG none (d + 1) 163 153 [(2, 1), (0, 1)] [(2, 83), (0, 1), (2, 3)] u83 86 Q9
              refine qG.ar (P := 0 ≤ 1 ∧ 1 < ((4 : Nat) : Int)) (P2 := (0 < (3 : Int) ∧ (3 : Int) ≤ ((86 : Nat) : Int)) ∧ 0 < 83 ∧ 83 ≤ ((86 : Nat) : Int)) (pc' := 154) (ls' := [(2, 1), (0, 1)]) (st' := []) (w' := (qup u83 3 1 83)) (n' := 86) rfl (by omega) (by omega) ?_
              refine qG.blk 1 (pc' := 157) (ls' := [(2, 1), (0, wrp (1 + 1))]) (st' := []) (w' := (qup u83 3 1 83)) (n' := 86) rfl ?_
              rw [show wrp (1 + 1) = 2 from wrp_id (by omega) (by omega)]
              refine qG.blk 3 (pc' := 138) (ls' := [(2, 1), (0, 2)]) (st' := [(0, 4), (0, 2)]) (w' := (qup u83 3 1 83)) (n' := 86) rfl ?_
              refine qG.br (P := (2 : Int) < 4) (pc1 := 141) (pc2 := 160) (st1 := []) rfl (fun h7 => ?_) (fun h7 => ?_)
              · skip
                refine qG.blk 2 (pc' := 145) (ls' := [(2, 1), (0, 2)]) (st' := [(2, u83 1 1)]) (w' := (qup u83 3 1 83)) (n' := 86) rfl ?_
                rw [show u83 1 1 = 3 from by simp (disch := first | decide | omega) only [hF4.lo, hF8.lo, hF12.lo, hF23.lo, hF41.lo, hF45.lo, hF57.lo, hF61.lo, hF64.lo, hF69.lo, hF74.lo, hF79.lo, hF83.lo, qup_ne, qup_j, qup_k, qclr_lo, qclr_at]]
                refine qG.blk 1 (pc' := 146) (ls' := [(2, 1), (0, 2)]) (st' := [(0, 2), (2, 3)]) (w' := (qup u83 3 1 83)) (n' := 86) rfl ?_
                refine qG.blk 1 (pc' := 149) (ls' := [(2, 1), (0, 2)]) (st' := [(2, 87), (0, 2), (2, 3)]) (w' := (qclr (qup u83 3 1 83) 87)) (n' := 87) rfl ?_
                refine qG.blk 1 (pc' := 150) (ls' := [(2, 1), (0, 2)]) (st' := [(2, 87), (2, 87), (0, 2), (2, 3)]) (w' := (qclr (qup u83 3 1 83) 87)) (n' := 87) rfl ?_
                refine qG.call (t := 106) (na := 1) (sk := 2) (md := 2) (ls1 := [(2, 87)]) (r1 := [(2, 87), (0, 2), (2, 3)]) rfl rfl rfl rfl rfl (K_X7_init_87 (by omega) _ (fun j => by first | rfl | simp (disch := first | decide | omega) only [qup_ne, qup_j, qclr_lo, qclr_at])) ?_
                rintro _ u87 _ ⟨rfl, hF87, rfl⟩
                show qG none (d + 1) 163 153 [(2, 1), (0, 2)] [(2, 87), (0, 2), (2, 3)] u87 90 Q9
                refine qG.ar (P := 0 ≤ 2 ∧ 2 < ((4 : Nat) : Int)) (P2 := (0 < (3 : Int) ∧ (3 : Int) ≤ ((90 : Nat) : Int)) ∧ 0 < 87 ∧ 87 ≤ ((90 : Nat) : Int)) (pc' := 154) (ls' := [(2, 1), (0, 2)]) (st' := []) (w' := (qup u87 3 2 87)) (n' := 90) rfl (by omega) (by omega) ?_
                refine qG.blk 1 (pc' := 157) (ls' := [(2, 1), (0, wrp (2 + 1))]) (st' := []) (w' := (qup u87 3 2 87)) (n' := 90) rfl ?_
                rw [show wrp (2 + 1) = 3 from wrp_id (by omega) (by omega)]
                refine qG.blk 3 (pc' := 138) (ls' := [(2, 1), (0, 3)]) (st' := [(0, 4), (0, 3)]) (w' := (qup u87 3 2 87)) (n' := 90) rfl ?_
                refine qG.br (P := (3 : Int) < 4) (pc1 := 141) (pc2 := 160) (st1 := []) rfl (fun h8 => ?_) (fun h8 => ?_)
                · skip
                  refine qG.blk 2 (pc' := 145) (ls' := [(2, 1), (0, 3)]) (st' := [(2, u87 1 1)]) (w' := (qup u87 3 2 87)) (n' := 90) rfl ?_
                  rw [show u87 1 1 = 3 from by simp (disch := first | decide | omega) only [hF4.lo, hF8.lo, hF12.lo, hF23.lo, hF41.lo, hF45.lo, hF57.lo, hF61.lo, hF64.lo, hF69.lo, hF74.lo, hF79.lo, hF83.lo, hF87.lo, qup_ne, qup_j, qup_k, qclr_lo, qclr_at]]
                  refine qG.blk 1 (pc' := 146) (ls' := [(2, 1), (0, 3)]) (st' := [(0, 3), (2, 3)]) (w' := (qup u87 3 2 87)) (n' := 90) rfl ?_
                  refine qG.blk 1 (pc' := 149) (ls' := [(2, 1), (0, 3)]) (st' := [(2, 91), (0, 3), (2, 3)]) (w' := (qclr (qup u87 3 2 87) 91)) (n' := 91) rfl ?_
                  refine qG.blk 1 (pc' := 150) (ls' := [(2, 1), (0, 3)]) (st' := [(2, 91), (2, 91), (0, 3), (2, 3)]) (w' := (qclr (qup u87 3 2 87) 91)) (n' := 91) rfl ?_
                  refine qG.call (t := 106) (na := 1) (sk := 2) (md := 2) (ls1 := [(2, 91)]) (r1 := [(2, 91), (0, 3), (2, 3)]) rfl rfl rfl rfl rfl (K_X7_init_91 (by omega) _ (fun j => by first | rfl | simp (disch := first | decide | omega) only [qup_ne, qup_j, qclr_lo, qclr_at])) ?_
                  rintro _ u91 _ ⟨rfl, hF91, rfl⟩
                  show qG none (d + 1) 163 153 [(2, 1), (0, 3)] [(2, 91), (0, 3), (2, 3)] u91 94 Q9
                  refine qG.ar (P := 0 ≤ 3 ∧ 3 < ((4 : Nat) : Int)) (P2 := (0 < (3 : Int) ∧ (3 : Int) ≤ ((94 : Nat) : Int)) ∧ 0 < 91 ∧ 91 ≤ ((94 : Nat) : Int)) (pc' := 154) (ls' := [(2, 1), (0, 3)]) (st' := []) (w' := (qup u91 3 3 91)) (n' := 94) rfl (by omega) (by omega) ?_
                  refine qG.blk 1 (pc' := 157) (ls' := [(2, 1), (0, wrp (3 + 1))]) (st' := []) (w' := (qup u91 3 3 91)) (n' := 94) rfl ?_
                  rw [show wrp (3 + 1) = 4 from wrp_id (by omega) (by omega)]
                  refine qG.blk 3 (pc' := 138) (ls' := [(2, 1), (0, 4)]) (st' := [(0, 4), (0, 4)]) (w' := (qup u91 3 3 91)) (n' := 94) rfl ?_
                  refine qG.br (P := (4 : Int) < 4) (pc1 := 141) (pc2 := 160) (st1 := []) rfl (fun h9 => ?_) (fun h9 => ?_)
                  · exact absurd h9 (by decide)
                  · skip
                    refine qG.retv rfl rfl ?_
                    subst hQ9
                    refine ⟨rfl, fun p j => ?_, rfl⟩
                    by_cases c1 : p < 1
                    · rw [if_pos c1]; simp (disch := first | decide | omega) only [qup_ne, qup_j, qclr_lo, qmul_lo, hF4.lo, hF4.mid, hF4.hi, hF8.lo, hF8.mid, hF8.hi, hF12.lo, hF12.mid, hF12.hi, hF23.lo, hF23.mid, hF23.hi, hF41.lo, hF41.mid, hF41.hi, hF45.lo, hF45.mid, hF45.hi, hF57.lo, hF57.mid, hF57.hi, hF61.lo, hF61.mid, hF61.hi, hF64.lo, hF64.mid, hF64.hi, hF69.lo, hF69.mid, hF69.hi, hF74.lo, hF74.mid, hF74.hi, hF79.lo, hF79.mid, hF79.hi, hF83.lo, hF83.mid, hF83.hi, hF87.lo, hF87.mid, hF87.hi, hF91.lo, hF91.mid, hF91.hi]
                    rw [if_neg c1]
                    by_cases c2 : 94 < p
                    · rw [if_neg (by omega)]; simp (disch := first | decide | omega) only [qup_ne, qup_j, qclr_lo, qmul_lo, hF4.lo, hF4.mid, hF4.hi, hF8.lo, hF8.mid, hF8.hi, hF12.lo, hF12.mid, hF12.hi, hF23.lo, hF23.mid, hF23.hi, hF41.lo, hF41.mid, hF41.hi, hF45.lo, hF45.mid, hF45.hi, hF57.lo, hF57.mid, hF57.hi, hF61.lo, hF61.mid, hF61.hi, hF64.lo, hF64.mid, hF64.hi, hF69.lo, hF69.mid, hF69.hi, hF74.lo, hF74.mid, hF74.hi, hF79.lo, hF79.mid, hF79.hi, hF83.lo, hF83.mid, hF83.hi, hF87.lo, hF87.mid, hF87.hi, hF91.lo, hF91.mid, hF91.hi, qclr_at, qmul_hi]
                    rw [if_pos (by omega)]
                    rcases (show p = 1 ∨ p = 2 ∨ p = 3 ∨ (4 ≤ p ∧ p ≤ 94) by omega) with rfl | rfl | rfl | ⟨g1, g2⟩
                    · by_cases c3 : j < 10
                      · rcases (show j = 0 ∨ j = 1 ∨ j = 2 ∨ j = 3 ∨ j = 4 ∨ j = 5 ∨ j = 6 ∨ j = 7 ∨ j = 8 ∨ j = 9 by omega) with rfl | rfl | rfl | rfl | rfl | rfl | rfl | rfl | rfl | rfl <;> first | rfl | exact hz _ | (simp (disch := first | decide | omega) only [qup_ne, qup_j, qclr_lo, qmul_lo, hF4.lo, hF4.mid, hF4.hi, hF8.lo, hF8.mid, hF8.hi, hF12.lo, hF12.mid, hF12.hi, hF23.lo, hF23.mid, hF23.hi, hF41.lo, hF41.mid, hF41.hi, hF45.lo, hF45.mid, hF45.hi, hF57.lo, hF57.mid, hF57.hi, hF61.lo, hF61.mid, hF61.hi, hF64.lo, hF64.mid, hF64.hi, hF69.lo, hF69.mid, hF69.hi, hF74.lo, hF74.mid, hF74.hi, hF79.lo, hF79.mid, hF79.hi, hF83.lo, hF83.mid, hF83.hi, hF87.lo, hF87.mid, hF87.hi, hF91.lo, hF91.mid, hF91.hi, qup_k, qclr_at, qmul_hi]; done) | (simp (disch := first | decide | omega) only [qup_ne, qup_j, qclr_lo, qmul_lo, hF4.lo, hF4.mid, hF4.hi, hF8.lo, hF8.mid, hF8.hi, hF12.lo, hF12.mid, hF12.hi, hF23.lo, hF23.mid, hF23.hi, hF41.lo, hF41.mid, hF41.hi, hF45.lo, hF45.mid, hF45.hi, hF57.lo, hF57.mid, hF57.hi, hF61.lo, hF61.mid, hF61.hi, hF64.lo, hF64.mid, hF64.hi, hF69.lo, hF69.mid, hF69.hi, hF74.lo, hF74.mid, hF74.hi, hF79.lo, hF79.mid, hF79.hi, hF83.lo, hF83.mid, hF83.hi, hF87.lo, hF87.mid, hF87.hi, hF91.lo, hF91.mid, hF91.hi, qup_k, qclr_at, qmul_hi]; rfl) | (simp (disch := first | decide | omega) only [qup_ne, qup_j, qclr_lo, qmul_lo, hF4.lo, hF4.mid, hF4.hi, hF8.lo, hF8.mid, hF8.hi, hF12.lo, hF12.mid, hF12.hi, hF23.lo, hF23.mid, hF23.hi, hF41.lo, hF41.mid, hF41.hi, hF45.lo, hF45.mid, hF45.hi, hF57.lo, hF57.mid, hF57.hi, hF61.lo, hF61.mid, hF61.hi, hF64.lo, hF64.mid, hF64.hi, hF69.lo, hF69.mid, hF69.hi, hF74.lo, hF74.mid, hF74.hi, hF79.lo, hF79.mid, hF79.hi, hF83.lo, hF83.mid, hF83.hi, hF87.lo, hF87.mid, hF87.hi, hF91.lo, hF91.mid, hF91.hi, qup_k, qclr_at, hz]; rfl)
                      · first | (simp (disch := first | decide | omega) only [qup_ne, qup_j, qclr_lo, qmul_lo, hF4.lo, hF4.mid, hF4.hi, hF8.lo, hF8.mid, hF8.hi, hF12.lo, hF12.mid, hF12.hi, hF23.lo, hF23.mid, hF23.hi, hF41.lo, hF41.mid, hF41.hi, hF45.lo, hF45.mid, hF45.hi, hF57.lo, hF57.mid, hF57.hi, hF61.lo, hF61.mid, hF61.hi, hF64.lo, hF64.mid, hF64.hi, hF69.lo, hF69.mid, hF69.hi, hF74.lo, hF74.mid, hF74.hi, hF79.lo, hF79.mid, hF79.hi, hF83.lo, hF83.mid, hF83.hi, hF87.lo, hF87.mid, hF87.hi, hF91.lo, hF91.mid, hF91.hi, hz]; unfold qW0; simp (disch := first | decide | omega) only [qbeq_f, qble_t]; rfl) | (simp (disch := first | decide | omega) only [qup_ne, qup_j, qclr_lo, qmul_lo, hF4.lo, hF4.mid, hF4.hi, hF8.lo, hF8.mid, hF8.hi, hF12.lo, hF12.mid, hF12.hi, hF23.lo, hF23.mid, hF23.hi, hF41.lo, hF41.mid, hF41.hi, hF45.lo, hF45.mid, hF45.hi, hF57.lo, hF57.mid, hF57.hi, hF61.lo, hF61.mid, hF61.hi, hF64.lo, hF64.mid, hF64.hi, hF69.lo, hF69.mid, hF69.hi, hF74.lo, hF74.mid, hF74.hi, hF79.lo, hF79.mid, hF79.hi, hF83.lo, hF83.mid, hF83.hi, hF87.lo, hF87.mid, hF87.hi, hF91.lo, hF91.mid, hF91.hi, qclr_at]; unfold qW0; simp (disch := first | decide | omega) only [qbeq_f, qble_t]; rfl) | (simp (disch := first | decide | omega) only [qup_ne, qup_j, qclr_lo, qmul_lo, hF4.lo, hF4.mid, hF4.hi, hF8.lo, hF8.mid, hF8.hi, hF12.lo, hF12.mid, hF12.hi, hF23.lo, hF23.mid, hF23.hi, hF41.lo, hF41.mid, hF41.hi, hF45.lo, hF45.mid, hF45.hi, hF57.lo, hF57.mid, hF57.hi, hF61.lo, hF61.mid, hF61.hi, hF64.lo, hF64.mid, hF64.hi, hF69.lo, hF69.mid, hF69.hi, hF74.lo, hF74.mid, hF74.hi, hF79.lo, hF79.mid, hF79.hi, hF83.lo, hF83.mid, hF83.hi, hF87.lo, hF87.mid, hF87.hi, hF91.lo, hF91.mid, hF91.hi, qclr_at]; done)
                    · by_cases c3 : j < 3
                      · rcases (show j = 0 ∨ j = 1 ∨ j = 2 by omega) with rfl | rfl | rfl <;> first | rfl | (simp (disch := first | decide | omega) only [qup_ne, qup_j, qclr_lo, qmul_lo, hF4.lo, hF4.mid, hF4.hi, hF8.lo, hF8.mid, hF8.hi, hF12.lo, hF12.mid, hF12.hi, hF23.lo, hF23.mid, hF23.hi, hF41.lo, hF41.mid, hF41.hi, hF45.lo, hF45.mid, hF45.hi, hF57.lo, hF57.mid, hF57.hi, hF61.lo, hF61.mid, hF61.hi, hF64.lo, hF64.mid, hF64.hi, hF69.lo, hF69.mid, hF69.hi, hF74.lo, hF74.mid, hF74.hi, hF79.lo, hF79.mid, hF79.hi, hF83.lo, hF83.mid, hF83.hi, hF87.lo, hF87.mid, hF87.hi, hF91.lo, hF91.mid, hF91.hi, qup_k, qclr_at, qmul_hi]; done) | (simp (disch := first | decide | omega) only [qup_ne, qup_j, qclr_lo, qmul_lo, hF4.lo, hF4.mid, hF4.hi, hF8.lo, hF8.mid, hF8.hi, hF12.lo, hF12.mid, hF12.hi, hF23.lo, hF23.mid, hF23.hi, hF41.lo, hF41.mid, hF41.hi, hF45.lo, hF45.mid, hF45.hi, hF57.lo, hF57.mid, hF57.hi, hF61.lo, hF61.mid, hF61.hi, hF64.lo, hF64.mid, hF64.hi, hF69.lo, hF69.mid, hF69.hi, hF74.lo, hF74.mid, hF74.hi, hF79.lo, hF79.mid, hF79.hi, hF83.lo, hF83.mid, hF83.hi, hF87.lo, hF87.mid, hF87.hi, hF91.lo, hF91.mid, hF91.hi, qup_k, qclr_at, qmul_hi]; rfl)
                      · first | (simp (disch := first | decide | omega) only [qup_ne, qup_j, qclr_lo, qmul_lo, hF4.lo, hF4.mid, hF4.hi, hF8.lo, hF8.mid, hF8.hi, hF12.lo, hF12.mid, hF12.hi, hF23.lo, hF23.mid, hF23.hi, hF41.lo, hF41.mid, hF41.hi, hF45.lo, hF45.mid, hF45.hi, hF57.lo, hF57.mid, hF57.hi, hF61.lo, hF61.mid, hF61.hi, hF64.lo, hF64.mid, hF64.hi, hF69.lo, hF69.mid, hF69.hi, hF74.lo, hF74.mid, hF74.hi, hF79.lo, hF79.mid, hF79.hi, hF83.lo, hF83.mid, hF83.hi, hF87.lo, hF87.mid, hF87.hi, hF91.lo, hF91.mid, hF91.hi, qclr_at, qmul_hi, qmul_at]; unfold qW0; simp (disch := first | decide | omega) only [qbeq_f, qble_t]; rfl) | (simp (disch := first | decide | omega) only [qup_ne, qup_j, qclr_lo, qmul_lo, hF4.lo, hF4.mid, hF4.hi, hF8.lo, hF8.mid, hF8.hi, hF12.lo, hF12.mid, hF12.hi, hF23.lo, hF23.mid, hF23.hi, hF41.lo, hF41.mid, hF41.hi, hF45.lo, hF45.mid, hF45.hi, hF57.lo, hF57.mid, hF57.hi, hF61.lo, hF61.mid, hF61.hi, hF64.lo, hF64.mid, hF64.hi, hF69.lo, hF69.mid, hF69.hi, hF74.lo, hF74.mid, hF74.hi, hF79.lo, hF79.mid, hF79.hi, hF83.lo, hF83.mid, hF83.hi, hF87.lo, hF87.mid, hF87.hi, hF91.lo, hF91.mid, hF91.hi, qclr_at, qmul_hi, qmul_at]; done)
                    · by_cases c3 : j < 4
                      · rcases (show j = 0 ∨ j = 1 ∨ j = 2 ∨ j = 3 by omega) with rfl | rfl | rfl | rfl <;> first | rfl | (simp (disch := first | decide | omega) only [qup_ne, qup_j, qclr_lo, qmul_lo, hF4.lo, hF4.mid, hF4.hi, hF8.lo, hF8.mid, hF8.hi, hF12.lo, hF12.mid, hF12.hi, hF23.lo, hF23.mid, hF23.hi, hF41.lo, hF41.mid, hF41.hi, hF45.lo, hF45.mid, hF45.hi, hF57.lo, hF57.mid, hF57.hi, hF61.lo, hF61.mid, hF61.hi, hF64.lo, hF64.mid, hF64.hi, hF69.lo, hF69.mid, hF69.hi, hF74.lo, hF74.mid, hF74.hi, hF79.lo, hF79.mid, hF79.hi, hF83.lo, hF83.mid, hF83.hi, hF87.lo, hF87.mid, hF87.hi, hF91.lo, hF91.mid, hF91.hi, qup_k, qclr_at, qmul_hi]; done) | (simp (disch := first | decide | omega) only [qup_ne, qup_j, qclr_lo, qmul_lo, hF4.lo, hF4.mid, hF4.hi, hF8.lo, hF8.mid, hF8.hi, hF12.lo, hF12.mid, hF12.hi, hF23.lo, hF23.mid, hF23.hi, hF41.lo, hF41.mid, hF41.hi, hF45.lo, hF45.mid, hF45.hi, hF57.lo, hF57.mid, hF57.hi, hF61.lo, hF61.mid, hF61.hi, hF64.lo, hF64.mid, hF64.hi, hF69.lo, hF69.mid, hF69.hi, hF74.lo, hF74.mid, hF74.hi, hF79.lo, hF79.mid, hF79.hi, hF83.lo, hF83.mid, hF83.hi, hF87.lo, hF87.mid, hF87.hi, hF91.lo, hF91.mid, hF91.hi, qup_k, qclr_at, qmul_hi]; rfl)
                      · first | (simp (disch := first | decide | omega) only [qup_ne, qup_j, qclr_lo, qmul_lo, hF4.lo, hF4.mid, hF4.hi, hF8.lo, hF8.mid, hF8.hi, hF12.lo, hF12.mid, hF12.hi, hF23.lo, hF23.mid, hF23.hi, hF41.lo, hF41.mid, hF41.hi, hF45.lo, hF45.mid, hF45.hi, hF57.lo, hF57.mid, hF57.hi, hF61.lo, hF61.mid, hF61.hi, hF64.lo, hF64.mid, hF64.hi, hF69.lo, hF69.mid, hF69.hi, hF74.lo, hF74.mid, hF74.hi, hF79.lo, hF79.mid, hF79.hi, hF83.lo, hF83.mid, hF83.hi, hF87.lo, hF87.mid, hF87.hi, hF91.lo, hF91.mid, hF91.hi, qclr_at, qmul_hi, qmul_at]; unfold qW0; simp (disch := first | decide | omega) only [qbeq_f, qble_t]; rfl) | (simp (disch := first | decide | omega) only [qup_ne, qup_j, qclr_lo, qmul_lo, hF4.lo, hF4.mid, hF4.hi, hF8.lo, hF8.mid, hF8.hi, hF12.lo, hF12.mid, hF12.hi, hF23.lo, hF23.mid, hF23.hi, hF41.lo, hF41.mid, hF41.hi, hF45.lo, hF45.mid, hF45.hi, hF57.lo, hF57.mid, hF57.hi, hF61.lo, hF61.mid, hF61.hi, hF64.lo, hF64.mid, hF64.hi, hF69.lo, hF69.mid, hF69.hi, hF74.lo, hF74.mid, hF74.hi, hF79.lo, hF79.mid, hF79.hi, hF83.lo, hF83.mid, hF83.hi, hF87.lo, hF87.mid, hF87.hi, hF91.lo, hF91.mid, hF91.hi, qclr_at, qmul_hi, qmul_at]; done)
                    · have e91 : (qup u91 3 3 91) p = u91 p := by simp (disch := first | decide | omega) only [qup_ne]
                      have e87 : p ≤ 90 → (qup u91 3 3 91) p = u87 p := fun g => (e91).trans (by rw [hF91.lo (p := p) (by omega)]; simp (disch := first | decide | omega) only [qup_ne, qclr_lo, qmul_lo])
                      have e83 : p ≤ 86 → (qup u91 3 3 91) p = u83 p := fun g => (e87 (by omega)).trans (by rw [hF87.lo (p := p) (by omega)]; simp (disch := first | decide | omega) only [qup_ne, qclr_lo, qmul_lo])
                      have e79 : p ≤ 82 → (qup u91 3 3 91) p = u79 p := fun g => (e83 (by omega)).trans (by rw [hF83.lo (p := p) (by omega)]; simp (disch := first | decide | omega) only [qup_ne, qclr_lo, qmul_lo])
                      have e74 : p ≤ 78 → (qup u91 3 3 91) p = u74 p := fun g => (e79 (by omega)).trans (by rw [hF79.lo (p := p) (by omega)]; simp (disch := first | decide | omega) only [qup_ne, qclr_lo, qmul_lo])
                      have e69 : p ≤ 73 → (qup u91 3 3 91) p = u69 p := fun g => (e74 (by omega)).trans (by rw [hF74.lo (p := p) (by omega)]; simp (disch := first | decide | omega) only [qup_ne, qclr_lo, qmul_lo])
                      have e64 : p ≤ 68 → (qup u91 3 3 91) p = u64 p := fun g => (e69 (by omega)).trans (by rw [hF69.lo (p := p) (by omega)]; simp (disch := first | decide | omega) only [qup_ne, qclr_lo, qmul_lo])
                      have e61 : p ≤ 63 → (qup u91 3 3 91) p = u61 p := fun g => (e64 (by omega)).trans (by rw [hF64.lo (p := p) (by omega)]; simp (disch := first | decide | omega) only [qup_ne, qclr_lo, qmul_lo])
                      have e57 : p ≤ 60 → (qup u91 3 3 91) p = u57 p := fun g => (e61 (by omega)).trans (by rw [hF61.lo (p := p) (by omega)]; simp (disch := first | decide | omega) only [qup_ne, qclr_lo, qmul_lo])
                      have e45 : p ≤ 56 → (qup u91 3 3 91) p = u45 p := fun g => (e57 (by omega)).trans (by rw [hF57.lo (p := p) (by omega)]; simp (disch := first | decide | omega) only [qup_ne, qclr_lo, qmul_lo])
                      have e41 : p ≤ 44 → (qup u91 3 3 91) p = u41 p := fun g => (e45 (by omega)).trans (by rw [hF45.lo (p := p) (by omega)]; simp (disch := first | decide | omega) only [qup_ne, qclr_lo, qmul_lo])
                      have e23 : p ≤ 40 → (qup u91 3 3 91) p = u23 p := fun g => (e41 (by omega)).trans (by rw [hF41.lo (p := p) (by omega)]; simp (disch := first | decide | omega) only [qup_ne, qclr_lo, qmul_lo])
                      have e12 : p ≤ 22 → (qup u91 3 3 91) p = u12 p := fun g => (e23 (by omega)).trans (by rw [hF23.lo (p := p) (by omega)]; simp (disch := first | decide | omega) only [qup_ne, qclr_lo, qmul_lo])
                      have e8 : p ≤ 11 → (qup u91 3 3 91) p = u8 p := fun g => (e12 (by omega)).trans (by rw [hF12.lo (p := p) (by omega)]; simp (disch := first | decide | omega) only [qup_ne, qclr_lo, qmul_lo])
                      have e4 : p ≤ 7 → (qup u91 3 3 91) p = u4 p := fun g => (e8 (by omega)).trans (by rw [hF8.lo (p := p) (by omega)]; simp (disch := first | decide | omega) only [qup_ne, qclr_lo, qmul_lo])
                      rcases (show (4 ≤ p ∧ p ≤ 7) ∨ (8 ≤ p ∧ p ≤ 11) ∨ (12 ≤ p ∧ p ≤ 22) ∨ (23 ≤ p ∧ p ≤ 40) ∨ (41 ≤ p ∧ p ≤ 44) ∨ (45 ≤ p ∧ p ≤ 56) ∨ (57 ≤ p ∧ p ≤ 60) ∨ (61 ≤ p ∧ p ≤ 63) ∨ (64 ≤ p ∧ p ≤ 68) ∨ (69 ≤ p ∧ p ≤ 73) ∨ (74 ≤ p ∧ p ≤ 78) ∨ (79 ≤ p ∧ p ≤ 82) ∨ (83 ≤ p ∧ p ≤ 86) ∨ (87 ≤ p ∧ p ≤ 90) ∨ (91 ≤ p ∧ p ≤ 94) by omega) with ⟨g3, g4⟩ | ⟨g3, g4⟩ | ⟨g3, g4⟩ | ⟨g3, g4⟩ | ⟨g3, g4⟩ | ⟨g3, g4⟩ | ⟨g3, g4⟩ | ⟨g3, g4⟩ | ⟨g3, g4⟩ | ⟨g3, g4⟩ | ⟨g3, g4⟩ | ⟨g3, g4⟩ | ⟨g3, g4⟩ | ⟨g3, g4⟩ | ⟨g3, g4⟩
                      · rw [e4 g4, hF4.mid (p := p) g3 g4]
                      · rw [e8 g4, hF8.mid (p := p) g3 g4]
                      · rw [e12 g4, hF12.mid (p := p) g3 g4]
                      · rw [e23 g4, hF23.mid (p := p) g3 g4]
                      · rw [e41 g4, hF41.mid (p := p) g3 g4]
                      · rw [e45 g4, hF45.mid (p := p) g3 g4]
                      · rw [e57 g4, hF57.mid (p := p) g3 g4]
                      · rw [e61 g4, hF61.mid (p := p) g3 g4]
                      · rw [e64 g4, hF64.mid (p := p) g3 g4]
                      · rw [e69 g4, hF69.mid (p := p) g3 g4]
                      · rw [e74 g4, hF74.mid (p := p) g3 g4]
                      · rw [e79 g4, hF79.mid (p := p) g3 g4]
                      · rw [e83 g4, hF83.mid (p := p) g3 g4]
                      · rw [e87 g4, hF87.mid (p := p) g3 g4]
                      · rw [e91, hF91.mid (p := p) g3 g4]
                · exact absurd h8 (by decide)
              · exact absurd h7 (by decide)
            · exact absurd h6 (by decide)
          · exact absurd h5 (by decide)
      · exact absurd h3 (by decide)
    · exact absurd h2 (by decide)
  · exact absurd h1 (by decide)
end
