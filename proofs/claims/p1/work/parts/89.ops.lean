theorem zops {xs : Nat → Int} (hxs : ∀ j, qi32 (xs j)) {w : qW} (hF : zF w) {x : Int} (h0 : 0 ≤ x) (h1 : x ≤ 63) : qG (some (6, xs)) 200 305 33 [(3, 0), (2, 1), (2, 95), (0, 0)] [(0, x)] w 142 (fun v _ n' => v = (0, 1) ∧ n' ≤ 142) := by
  sorry
