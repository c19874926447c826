/-! LOWEST TERMS -/
theorem isOne_ok {E : Ev} {M : Mm} {q : Nat} {v : Int} (hq : isNa E q) (h : NatAt M q v) : Ok (f_Na_isOne E M q) (fun r => (r = 1 ∧ v = 1) ∨ (r = 0 ∧ v ≠ 1)) := by
  obtain ⟨s, hs⟩ := h
  have hS := hs
  obtain ⟨h1, h2, h3, h4, h5⟩ := hs
  unfold f_Na_isOne
  rw [h1]
  refine ok_ck hq (ok_ck (rgN (by omega)) (ok_if (fun e => ?_) (fun e => ok_some (Or.inr ⟨rfl, fun e1 => e ?_⟩))))
  · have e : s = 1 := by omega
    subst e
    have b := h3 0 (by decide)
    have e1 : Sg (M (q + 1)) 1 = M (q + 1) 0 := by
      rw [Sg_succ]
      show (0 : Int) + M (q + 1) 0 * 1 = _
      omega
    rw [e1] at h5
    exact ok_ck ⟨by omega, by omega⟩ (ok_if (fun w => ok_some (Or.inl ⟨rfl, by omega⟩)) (fun w => ok_some (Or.inr ⟨rfl, by omega⟩)))
  · have a := hS.size_le (m := 1) (by rw [e1]; decide)
    have b := hS.zero
    omega
def is195 (q1 q2 : Nat) : Prop := (q1 = 193 ∧ q2 = 195) ∨ (q1 = 195 ∧ q2 = 193)
/-- a number that divides both, and all that divide both divide it -/
def GC (a d g : Int) : Prop := 0 < g ∧ g ∣ a ∧ g ∣ d ∧ ∀ x, x ∣ a → x ∣ d → x ∣ g
def p2k : Nat → Int
  | 0 => 1
  | n + 1 => p2k n * 2
theorem p2k_pos : ∀ n, 0 < p2k n
  | 0 => by decide
  | n + 1 => by
    have := p2k_pos n
    show 0 < p2k n * 2
    omega
theorem p2k_up {m : Nat} : ∀ d, p2k m ≤ p2k (m + d)
  | 0 => Int.le_refl _
  | d + 1 => by
    have := p2k_up (m := m) d
    have := p2k_pos (m + d)
    show p2k m ≤ p2k (m + d) * 2
    omega
theorem pB_sq : pB 11 * pB 11 ≤ p2k 660 := by decide +kernel
theorem gcd_ok {E : Ev} {M : Mm} {a d : Int} (hL : Lay E) (h193 : NatAt M 193 d) (h195 : NatAt M 195 a) (hd : 0 < d) (ha : 0 ≤ a) (hd11 : d < pB 11) (ha11 : a < pB 11) : Ok (l_Co_reduce_28 E FU M 193 195 0) (fun r => r.1 = 1 ∧ ∃ g, GC a d g ∧ g ≤ d ∧ (r.2.1 = 193 ∨ r.2.1 = 195) ∧ NatAt r.2.2.2.2 r.2.1 g ∧ Off (fun i => 193 ≤ i ∧ i ≤ 200) M r.2.2.2.2) := by
  refine L_Co_reduce_28 E (I := fun N q1 q2 x3 => is195 q1 q2 ∧ ∃ k : Nat, x3 = (k : Int) ∧ k ≤ 1000 ∧ ∃ u v : Int, NatAt N q1 u ∧ NatAt N q2 v ∧ 0 ≤ u ∧ 0 ≤ v ∧ u < pB 11 ∧ v < pB 11 ∧ (∀ x, (x ∣ a ∧ x ∣ d) ↔ (x ∣ u ∧ x ∣ v)) ∧ (k = 0 → u = d ∧ v = a) ∧ (1 ≤ k → v < u ∧ u * v * p2k (k - 1) < p2k 660) ∧ Off (fun i => 193 ≤ i ∧ i ≤ 200) M N) (μ := fun _ _ _ x3 => 1000 - x3.toNat) ?_ FU M 193 195 0 ⟨Or.inl ⟨rfl, rfl⟩, 0, rfl, by decide, d, a, h193, h195, by omega, ha, hd11, ha11, fun x => ⟨fun h => ⟨h.2, h.1⟩, fun h => ⟨h.2, h.1⟩⟩, fun _ => ⟨rfl, rfl⟩, fun z => absurd z (by decide), Off.refl⟩ (by decide)
  rintro N q1 q2 x3 ⟨hq, k, rfl, hk, u, v, hu, hv, u0, v0, u11, v11, hdiv, hz, hb, oN⟩
  have na1 : isNa E q1 := by rcases hq with ⟨rfl, rfl⟩ | ⟨rfl, rfl⟩ <;> first | exact yo_193 hL | exact yo_195 hL
  have na2 : isNa E q2 := by rcases hq with ⟨rfl, rfl⟩ | ⟨rfl, rfl⟩ <;> first | exact yo_193 hL | exact yo_195 hL
  have q1c : q1 = 193 ∨ q1 = 195 := by rcases hq with ⟨w, -⟩ | ⟨w, -⟩ <;> omega
  have gcd : v = 0 → Ok (some (1, q1, q2, (k : Int), N) : Option (Nat × Nat × Nat × Int × Mm)) (fun r => (r.1 = 0 → (is195 r.2.1 r.2.2.1 ∧ ∃ k : Nat, r.2.2.2.1 = (k : Int) ∧ k ≤ 1000 ∧ ∃ u v : Int, NatAt r.2.2.2.2 r.2.1 u ∧ NatAt r.2.2.2.2 r.2.2.1 v ∧ 0 ≤ u ∧ 0 ≤ v ∧ u < pB 11 ∧ v < pB 11 ∧ (∀ x, (x ∣ a ∧ x ∣ d) ↔ (x ∣ u ∧ x ∣ v)) ∧ (k = 0 → u = d ∧ v = a) ∧ (1 ≤ k → v < u ∧ u * v * p2k (k - 1) < p2k 660) ∧ Off (fun i => 193 ≤ i ∧ i ≤ 200) M r.2.2.2.2) ∧ 1000 - r.2.2.2.1.toNat < 1000 - (k : Int).toNat) ∧ (r.1 ≠ 0 → r.1 = 1 ∧ ∃ g, GC a d g ∧ g ≤ d ∧ (r.2.1 = 193 ∨ r.2.1 = 195) ∧ NatAt r.2.2.2.2 r.2.1 g ∧ Off (fun i => 193 ≤ i ∧ i ≤ 200) M r.2.2.2.2)) := fun e => by
    subst e
    have g1 := (hdiv u).mpr ⟨Int.dvd_refl u, Int.dvd_zero u⟩
    have gp : 0 < u := by
      rcases Int.lt_or_eq_of_le u0 with w | w
      · exact w
      · rw [← w] at g1
        have := Int.zero_dvd.mp g1.2
        omega
    exact ok_some (ok_out ne0 ⟨rfl, u, ⟨gp, g1.1, g1.2, fun x x1 x2 => ((hdiv x).mp ⟨x1, x2⟩).1⟩, Int.le_of_dvd hd g1.2, q1c, hu, oN⟩)
  obtain ⟨s2, hs2⟩ := hv
  have hv' : NatAt N q2 v := ⟨s2, hs2⟩
  unfold Co_reduce_28b
  rw [hs2.1]
  refine ok_ck na1 (ok_ck na2 (ok_ck (rgN (by omega)) (ok_if (fun z => ?_) (fun z => ok_ck (rgN (by have := hs2.2.1; omega)) (ok_if (fun w => gcd (hs2.zero.mp (by omega))) (fun w => ?_))))))
  · have e : k = 1000 := by omega
    subst e
    obtain ⟨b1, b2⟩ := hb (by decide)
    refine gcd ?_
    rcases Int.lt_or_eq_of_le v0 with w | w
    · exfalso
      have c1' : p2k 660 ≤ p2k (1000 - 1) := p2k_up (m := 660) 339
      have c2 : 1 ≤ u * v := Int.mul_pos (by omega) w
      have c3 := p2k_pos (1000 - 1)
      have c4 := Int.mul_le_mul_of_nonneg_right c2 (Int.le_of_lt c3)
      omega
    · exact w.symm
  · have vp : 0 < v := by
      rcases Int.lt_or_eq_of_le v0 with y | y
      · exact y
      · have := hs2.zero.mpr y.symm
        omega
    have a1 : ap q1 q2 := by rcases hq with ⟨rfl, rfl⟩ | ⟨rfl, rfl⟩ <;> unfold ap <;> omega
    have a2 : ap q1 197 := by rcases hq with ⟨rfl, rfl⟩ | ⟨rfl, rfl⟩ <;> unfold ap <;> omega
    have a3 : ap q1 199 := by rcases hq with ⟨rfl, rfl⟩ | ⟨rfl, rfl⟩ <;> unfold ap <;> omega
    have a4 : ap q2 197 := by rcases hq with ⟨rfl, rfl⟩ | ⟨rfl, rfl⟩ <;> unfold ap <;> omega
    have a5 : ap q2 199 := by rcases hq with ⟨rfl, rfl⟩ | ⟨rfl, rfl⟩ <;> unfold ap <;> omega
    have qq : 193 ≤ q1 ∧ q1 ≤ 195 ∧ 193 ≤ q2 ∧ q2 ≤ 195 := by rcases hq with ⟨rfl, rfl⟩ | ⟨rfl, rfl⟩ <;> decide
    refine ok_bm (ok_divide na1 na2 (yo_197 hL) (yo_199 hL) a1 a2 a3 a4 a5 (Or.inl (by decide)) hu hv' vp u11) ?_
    rintro K ⟨k1, -, k3⟩
    have m0 := Int.emod_nonneg u (show v ≠ 0 by omega)
    have m1 := Int.emod_lt_of_pos u vp
    have md := Int.emod_add_mul_ediv u v
    have mle : u % v ≤ u := by
      have q0 : 0 ≤ u / v := Int.ediv_nonneg u0 v0
      have := Int.mul_nonneg v0 q0
      omega
    have e2 : NatAt K q2 v := hv'.off k3 (by unfold n3 nn; have := a1; unfold ap at this; omega) (by unfold n3 nn; have := a1; unfold ap at this; omega)
    have is2 : is195 q2 q1 := by rcases hq with ⟨w, z⟩ | ⟨w, z⟩; exact Or.inr ⟨z, w⟩; exact Or.inl ⟨z, w⟩
    refine ok_some (ok_go rfl ⟨⟨is2, k + 1, c1 k, by omega, v, u % v, e2, k1, v0, m0, v11, by omega, fun x => (hdiv x).trans ⟨fun ⟨x1, x2⟩ => ⟨x2, ?_⟩, fun ⟨x1, x2⟩ => ⟨?_, x1⟩⟩, fun z => absurd z (by omega), fun _ => ⟨m1, ?_⟩, oN.trans (k3.mono fun i hi => by unfold n3 nn at hi; omega)⟩, ?_⟩)
    · have : u % v = u - v * (u / v) := by omega
      rw [this]
      exact Int.dvd_sub x1 (Int.dvd_mul_of_dvd_left x2)
    · rw [← md]
      exact Int.dvd_add x2 (Int.dvd_mul_of_dvd_left x1)
    · rw [Nat.add_sub_cancel]
      by_cases ek : k = 0
      · subst ek
        show v * (u % v) * 1 < p2k 660
        rw [Int.mul_one]
        have b1 : v * (u % v) < v * v := Int.mul_lt_mul_of_pos_left m1 vp
        have b2 : v * v ≤ pB 11 * pB 11 := Int.mul_le_mul (by omega) (by omega) v0 (by omega)
        have b3 := pB_sq
        omega
      · obtain ⟨b1, b2⟩ := hb (by omega)
        have h2 : 2 * (u % v) ≤ u := by
          have q1' : 1 ≤ u / v := (Int.le_ediv_iff_mul_le vp).mpr (by omega)
          have := Int.mul_le_mul_of_nonneg_left q1' v0
          omega
        have ep : p2k k = p2k (k - 1) * 2 := by
          obtain ⟨l, rfl⟩ : ∃ l, k = l + 1 := ⟨k - 1, by omega⟩
          rfl
        have pp := p2k_pos (k - 1)
        rw [ep]
        have c1' : v * (2 * (u % v)) ≤ v * u := Int.mul_le_mul_of_nonneg_left h2 v0
        have c2 := Int.mul_le_mul_of_nonneg_right c1' (Int.le_of_lt pp)
        have c3 : v * (u % v) * (p2k (k - 1) * 2) = v * (2 * (u % v)) * p2k (k - 1) := by grind
        have c4 : v * u * p2k (k - 1) = u * v * p2k (k - 1) := by rw [Int.mul_comm v u]
        omega
    · show 1000 - ((k : Int) + 1).toNat < 1000 - (k : Int).toNat
      omega
