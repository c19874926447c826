/-! THE LAW HOLDS: what the functions answer -/
theorem law_true (L : Nat) (xs : Nat → Int32) (hL : L ≤ 260) : f_La_law L xs eNil (fun _ _ => 0) = some 1 := by
  obtain ⟨a, e, h⟩ := law_asm (TC := TC) TC_keeps (fun _ _ _ _ _ _ _ _ _ h => transferable_ok h) (fun _ _ _ _ _ _ _ _ h1 h2 h3 h4 h5 => errors_ok h1 h2 h3 h4 h5) (L := L) (xs := xs) hL
  rw [e, h]
