/-! THE LAW HOLDS: what the functions answer -/
theorem law_true (L : Nat) (xs : Nat → Int32) (hL : L ≤ 260) : f_La_law L xs eNil (fun _ _ => 0) = some 1 := by
  sorry
