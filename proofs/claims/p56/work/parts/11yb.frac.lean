/-- in lowest terms -/
theorem frac_ok {a d g y : Int} (h : GC a d g) (hd : 0 < d) (ha : 0 ≤ a) (e : a * 840 = y * d) : 840 % (d / g) = 0 ∧ a / g * (840 / (d / g)) = y ∧ 0 < d / g := by
  obtain ⟨gp, ⟨u, rfl⟩, ⟨l, rfl⟩, hc⟩ := h
  have lp : 0 < l := by
    rcases Int.lt_or_le 0 l with w | w
    · exact w
    · have := Int.mul_le_mul_of_nonneg_left w (Int.le_of_lt gp)
      omega
  have up : 0 ≤ u := by
    rcases Int.lt_or_le u 0 with w | w
    · have := Int.mul_lt_mul_of_pos_left w gp
      omega
    · exact w
  rw [Int.mul_ediv_cancel_left _ (show g ≠ 0 by omega), Int.mul_ediv_cancel_left _ (show g ≠ 0 by omega)]
  have e2 : u * 840 = y * l := by
    have : g * (u * 840) = g * (y * l) := by grind
    exact Int.eq_of_mul_eq_mul_left (show g ≠ 0 by omega) this
  obtain ⟨L, rfl⟩ : ∃ L : Nat, l = (L : Int) := ⟨l.toNat, by omega⟩
  obtain ⟨U, rfl⟩ : ∃ U : Nat, u = (U : Int) := ⟨u.toNat, by omega⟩
  have cop : Nat.Coprime L U := by
    have h1 : ((Nat.gcd L U : Nat) : Int) ∣ (U : Int) := Int.natCast_dvd_natCast.mpr (Nat.gcd_dvd_right L U)
    have h2 : ((Nat.gcd L U : Nat) : Int) ∣ (L : Int) := Int.natCast_dvd_natCast.mpr (Nat.gcd_dvd_left L U)
    obtain ⟨z, hz⟩ := hc (g * ((Nat.gcd L U : Nat) : Int)) (Int.mul_dvd_mul_left g h1) (Int.mul_dvd_mul_left g h2)
    have h3 : g * 1 = g * (((Nat.gcd L U : Nat) : Int) * z) := by grind
    have h4 := Int.eq_of_mul_eq_mul_left (show g ≠ 0 by omega) h3
    have h5 : ((Nat.gcd L U : Nat) : Int) ∣ 1 := ⟨z, h4⟩
    have h6 : Nat.gcd L U ∣ 1 := by
      have : ((Nat.gcd L U : Nat) : Int) ∣ ((1 : Nat) : Int) := h5
      exact Int.natCast_dvd_natCast.mp this
    exact Nat.dvd_one.mp h6
  have dv : L ∣ 840 := by
    have h1 : (L : Int) ∣ ((840 * U : Nat) : Int) := ⟨y, by rw [Int.natCast_mul]; show (840 : Int) * (U : Int) = (L : Int) * y; grind⟩
    exact cop.dvd_of_dvd_mul_right (Int.natCast_dvd_natCast.mp h1)
  obtain ⟨k, hk⟩ := dv
  have hk2 : (840 : Int) = (L : Int) * (k : Int) := by
    have : ((840 : Nat) : Int) = ((L * k : Nat) : Int) := congrArg _ hk
    rw [Int.natCast_mul] at this
    exact this
  refine ⟨?_, ?_, lp⟩
  · rw [hk2]; exact Int.mul_emod_right _ _
  · rw [hk2, Int.mul_ediv_cancel_left _ (show (L : Int) ≠ 0 by omega)]
    rw [hk2] at e2
    have : (L : Int) * ((U : Int) * (k : Int)) = (L : Int) * y := by grind
    exact Int.eq_of_mul_eq_mul_left (show (L : Int) ≠ 0 by omega) this
theorem out_len {M : Mm} {len : Nat} {u l : Int} (h : OUT M len u l) (hu : u < 100000000) (hl : l < 1000) : len ≤ 16 := by
  obtain ⟨-, -, m, m1, -, -, h2, hc⟩ := h
  have pw : ∀ (k j : Nat) (x : Int), (2 ≤ k → ((10 ^ (k - 1) : Nat) : Int) ≤ x) → x < ((10 ^ j : Nat) : Int) → 1 ≤ j → k ≤ j := fun k j x a b c => by
    rcases Nat.lt_or_ge j k with w | w
    · have p := Nat.pow_le_pow_right (n := 10) (by decide) (show j ≤ k - 1 by omega)
      have q : ((10 ^ j : Nat) : Int) ≤ ((10 ^ (k - 1) : Nat) : Int) := Int.ofNat_le.mpr p
      have := a (by omega)
      omega
    · exact w
  have a := pw m 8 u h2 hu (by decide)
  rcases hc with ⟨-, e⟩ | ⟨-, -, n, n1, e, -, -, h3⟩
  · omega
  · have b := pw n 3 l h3 hl (by decide)
    omega
