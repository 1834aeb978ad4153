/-! the law, for every script (the reading of texts and the beginning are still to be proved) -/
theorem law_all (l : Launch) {L : Nat} (hL : L ≤ 2560) (xs : Nat → Int32) : E_L_law l (some (L, xs)) (fun r _ => r = 1) 0 [(0, rV (some 8))] [] o_M0 0 0 := by
  sorry
