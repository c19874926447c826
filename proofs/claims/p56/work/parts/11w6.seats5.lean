/-! WHOLE QUOTAS AND REMAINDERS -/
def qI (v : Nat → Int) (K T : Int) (i : Nat) : Int := v i * K / T
def rI (v : Nat → Int) (K T : Int) (i : Nat) : Int := v i * K % T
theorem qr_sum (v : Nat → Int) (K T : Int) : ∀ k, T * sN (qI v K T) k + sN (rI v K T) k = K * sN v k
  | 0 => by show T * 0 + 0 = K * 0; rw [Int.mul_zero, Int.mul_zero]; rfl
  | k + 1 => by
    have ih := qr_sum v K T k
    have e : rI v K T k = v k * K - T * qI v K T k := Int.emod_def _ _
    rw [sN_succ, sN_succ, sN_succ, Int.mul_add, Int.mul_add, e, Int.mul_comm (v k) K]
    omega
theorem qI_nonneg {v : Nat → Int} {K T : Int} (hv : ∀ i, 0 ≤ v i) (hK : 0 ≤ K) (hT : 0 ≤ T) (i : Nat) : 0 ≤ qI v K T i := Int.ediv_nonneg (Int.mul_nonneg (hv i) hK) hT
theorem rI_bounds {v : Nat → Int} {K T : Int} (hT : 0 < T) (i : Nat) : 0 ≤ rI v K T i ∧ rI v K T i < T := ⟨Int.emod_nonneg _ (by omega), Int.emod_lt_of_pos _ hT⟩
theorem q_le {v : Nat → Int} {K T : Int} {k : Nat} (hT : 0 < T) (hK : 0 ≤ K) (h : sN v k ≤ T) : sN (qI v K T) k ≤ K := by
  have h1 := qr_sum v K T k
  have h2 : 0 ≤ sN (rI v K T) k := sN_nonneg (fun i _ => (rI_bounds hT i).1)
  have h3 : K * sN v k ≤ K * T := Int.mul_le_mul_of_nonneg_left h hK
  have h4 : T * sN (qI v K T) k ≤ T * K := by rw [Int.mul_comm T K]; omega
  exact Int.le_of_mul_le_mul_left h4 hT
/-- of all the votes: fewer seats are left than there are takers -/
theorem q_left {v : Nat → Int} {K T : Int} {m : Nat} (hT : 0 < T) (hm : 1 ≤ m) (h : sN v m = T) : K < sN (qI v K T) m + (m : Int) := by
  have h1 := qr_sum v K T m
  have h2 : ∀ k : Nat, sN (rI v K T) k ≤ (k : Int) * (T - 1) := fun k => by
    induction k with
    | zero => show (0 : Int) ≤ 0 * _; omega
    | succ k ih =>
      have := (rI_bounds (v := v) (K := K) hT k).2
      rw [sN_succ, show ((k + 1 : Nat) : Int) = (k : Int) + 1 by omega, Int.add_mul]
      omega
  have h3 := h2 m
  rw [h] at h1
  have h4 : (m : Int) * (T - 1) < (m : Int) * T := Int.mul_lt_mul_of_pos_left (by omega) (by omega)
  have h5 : T * K < T * (sN (qI v K T) m + (m : Int)) := by
    rw [Int.mul_add, Int.mul_comm T K, Int.mul_comm T (m : Int)]
    omega
  exact Int.lt_of_mul_lt_mul_left h5 (by omega)
/-- more votes, never fewer seats -/
theorem more_votes {v s : Nat → Int} {K T : Int} {i j : Nat} (hT : 0 < T) (hK : 0 < K) (hv : v j < v i) (hi : s i = qI v K T i ∨ s i = qI v K T i + 1) (hj : s j = qI v K T j ∨ s j = qI v K T j + 1) (hg : s i = qI v K T i → s j = qI v K T j + 1 → rI v K T i ≤ rI v K T j) : s j ≤ s i := by
  have e1 : rI v K T i = v i * K - T * qI v K T i := Int.emod_def _ _
  have e2 : rI v K T j = v j * K - T * qI v K T j := Int.emod_def _ _
  have e3 : v j * K < v i * K := Int.mul_lt_mul_of_pos_right hv hK
  have e4 : qI v K T j ≤ qI v K T i := Int.ediv_le_ediv hT (by omega)
  by_cases c : qI v K T j = qI v K T i
  · rw [c] at e2
    rcases hi with a | a
    · rcases hj with b | b
      · omega
      · have := hg a b
        omega
    · omega
  · omega
