/-! SUMS OVER NUMBERS, SETS AS NUMBERS -/
def sN (f : Nat → Int) : Nat → Int
  | 0 => 0
  | n + 1 => sN f n + f n
theorem sN_succ (f : Nat → Int) (n : Nat) : sN f (n + 1) = sN f n + f n := rfl
theorem sN_congr {f g : Nat → Int} : ∀ {n : Nat}, (∀ i, i < n → f i = g i) → sN f n = sN g n
  | 0, _ => rfl
  | n + 1, h => by rw [sN_succ, sN_succ, sN_congr (fun i hi => h i (Nat.lt_succ_of_lt hi)), h n (Nat.lt_succ_self n)]
theorem sN_add (f g : Nat → Int) : ∀ n, sN (fun i => f i + g i) n = sN f n + sN g n
  | 0 => rfl
  | n + 1 => by rw [sN_succ, sN_succ, sN_succ, sN_add f g n]; omega
theorem sN_sub (f g : Nat → Int) : ∀ n, sN (fun i => f i - g i) n = sN f n - sN g n
  | 0 => rfl
  | n + 1 => by rw [sN_succ, sN_succ, sN_succ, sN_sub f g n]; omega
theorem sN_mul (c : Int) (f : Nat → Int) : ∀ n, sN (fun i => c * f i) n = c * sN f n
  | 0 => by show (0 : Int) = c * 0; omega
  | n + 1 => by rw [sN_succ, sN_succ, sN_mul c f n, Int.mul_add]
theorem sN_zero : ∀ n, sN (fun _ => 0) n = 0
  | 0 => rfl
  | n + 1 => by rw [sN_succ, sN_zero n]; rfl
theorem sN_nonneg {f : Nat → Int} : ∀ {n : Nat}, (∀ i, i < n → 0 ≤ f i) → 0 ≤ sN f n
  | 0, _ => Int.le_refl 0
  | n + 1, h => by
    have h1 := sN_nonneg (fun i hi => h i (Nat.lt_succ_of_lt hi))
    have h2 := h n (Nat.lt_succ_self n)
    rw [sN_succ]; omega
theorem sN_le {f g : Nat → Int} : ∀ {n : Nat}, (∀ i, i < n → f i ≤ g i) → sN f n ≤ sN g n
  | 0, _ => Int.le_refl 0
  | n + 1, h => by
    have h1 := sN_le (fun i hi => h i (Nat.lt_succ_of_lt hi))
    have h2 := h n (Nat.lt_succ_self n)
    rw [sN_succ, sN_succ]; omega
theorem sN_pos {f : Nat → Int} : ∀ {n : Nat}, (∀ i, i < n → 0 ≤ f i) → (0 < sN f n ↔ ∃ i, i < n ∧ 0 < f i)
  | 0, _ => ⟨fun h => absurd h (show ¬ (0 : Int) < 0 by decide), fun ⟨i, hi, _⟩ => absurd hi (Nat.not_lt_zero i)⟩
  | n + 1, h => by
    have ih := sN_pos (fun i hi => h i (Nat.lt_succ_of_lt hi))
    have h0 := sN_nonneg (fun i hi => h i (Nat.lt_succ_of_lt hi))
    have h2 := h n (Nat.lt_succ_self n)
    rw [sN_succ]
    constructor
    · intro q
      rcases Int.lt_or_le 0 (f n) with c | c
      · exact ⟨n, Nat.lt_succ_self n, c⟩
      · obtain ⟨i, hi, g⟩ := ih.mp (by omega)
        exact ⟨i, Nat.lt_succ_of_lt hi, g⟩
    · rintro ⟨i, hi, g⟩
      by_cases e : i = n
      · subst e; omega
      · have := ih.mpr ⟨i, by omega, g⟩
        omega
theorem sN_comm (f : Nat → Nat → Int) (m : Nat) : ∀ n, sN (fun i => sN (fun j => f i j) m) n = sN (fun j => sN (fun i => f i j) n) m
  | 0 => (sN_zero m).symm
  | n + 1 => by
    rw [sN_succ, sN_comm f m n, ← sN_add]
    rfl
theorem sN_split (f : Nat → Int) (m : Nat) : ∀ n, sN f (m + n) = sN f m + sN (fun i => f (m + i)) n
  | 0 => by show sN f m = sN f m + 0; omega
  | n + 1 => by
    show sN f (m + n) + f (m + n) = sN f m + (sN (fun i => f (m + i)) n + f (m + n))
    rw [sN_split f m n]; omega
/-- one place alone -/
theorem sN_one {f : Nat → Int} {k : Nat} : ∀ {n : Nat}, k < n → (∀ i, i < n → i ≠ k → f i = 0) → sN f n = f k
  | 0, h, _ => absurd h (Nat.not_lt_zero k)
  | n + 1, h, hz => by
    rw [sN_succ]
    by_cases e : k = n
    · subst e
      rw [sN_congr (g := fun _ => 0) (fun i hi => hz i (by omega) (by omega)), sN_zero]; omega
    · rw [sN_one (show k < n by omega) (fun i hi => hz i (by omega)), hz n (Nat.lt_succ_self n) (Ne.symm e)]; omega
def bt (S k : Nat) : Nat := S / 2 ^ k % 2
theorem bt_01 (S k : Nat) : bt S k = 0 ∨ bt S k = 1 := by
  unfold bt
  have := Nat.mod_lt (S / 2 ^ k) (show 2 > 0 by decide)
  omega
theorem bt_int (S k : Nat) : ((S : Int) / 2 ^ k) % 2 = (bt S k : Int) := by
  unfold bt
  rw [Int.natCast_emod, Int.natCast_ediv, Int.natCast_pow]
  rfl
theorem bt_lt {S k : Nat} (h : S < 2 ^ k) : bt S k = 0 := by unfold bt; rw [Nat.div_eq_of_lt h]
theorem bt_hi {S k : Nat} (h : S < 2 ^ k) : bt (2 ^ k + S) k = 1 := by
  unfold bt
  rw [Nat.add_div_left _ (Nat.two_pow_pos k), Nat.div_eq_of_lt h]
theorem bt_add {S k m : Nat} (h : k < m) : bt (2 ^ m + S) k = bt S k := by
  unfold bt
  obtain ⟨d, rfl⟩ : ∃ d, m = k + (d + 1) := ⟨m - k - 1, by omega⟩
  have e : 2 ^ (k + (d + 1)) + S = S + 2 ^ k * (2 * 2 ^ d) := by rw [Nat.pow_add, Nat.pow_succ, Nat.mul_comm (2 ^ d) 2]; omega
  rw [e, Nat.add_mul_div_left _ _ (Nat.two_pow_pos k), Nat.add_mod, Nat.mul_mod_right, Nat.add_zero, Nat.mod_mod]
/-- the sum of weights of a set -/
def wS (w : Nat → Int) (S n : Nat) : Int := sN (fun k => (bt S k : Int) * w k) n
theorem wS_lo (w : Nat → Int) {S n : Nat} (h : S < 2 ^ n) : wS w S (n + 1) = wS w S n := by
  unfold wS
  rw [sN_succ, bt_lt h]
  show _ + (0 : Int) * _ = _
  omega
theorem wS_hi (w : Nat → Int) {S n : Nat} (h : S < 2 ^ n) : wS w (2 ^ n + S) (n + 1) = wS w S n + w n := by
  unfold wS
  rw [sN_succ, bt_hi h, sN_congr (g := fun k => (bt S k : Int) * w k) (fun i hi => by rw [bt_add hi])]
  show _ + (1 : Int) * _ = _
  omega
def pc (S n : Nat) : Int := wS (fun _ => 1) S n
theorem or_pow {S n : Nat} (h : S < 2 ^ n) : S ||| 2 ^ n = 2 ^ n + S := by
  have := Nat.two_pow_add_eq_or_of_lt h 1
  rw [Nat.mul_one] at this
  rw [this, Nat.or_comm]
/-- pairs of sets with and without a member -/
theorem pairS {m : Nat} : ∀ {n : Nat}, m < n → ∀ G : Nat → Int, sN G (2 ^ n) = sN (fun S => if bt S m = 0 then G S + G (2 ^ m + S) else 0) (2 ^ n)
  | 0, h, _ => absurd h (Nat.not_lt_zero m)
  | n + 1, h, G => by
    have e2 : 2 ^ (n + 1) = 2 ^ n + 2 ^ n := by rw [Nat.pow_succ]; omega
    rw [e2, sN_split, sN_split]
    by_cases e : m = n
    · subst e
      rw [sN_congr (f := fun S => if bt S m = 0 then G S + G (2 ^ m + S) else 0) (g := fun S => G S + G (2 ^ m + S)) (fun i hi => by rw [bt_lt hi, if_pos rfl]),
        sN_congr (f := fun i => if bt (2 ^ m + i) m = 0 then G (2 ^ m + i) + G (2 ^ m + (2 ^ m + i)) else 0) (g := fun _ => 0) (fun i hi => by rw [bt_hi hi, if_neg (by decide)]), sN_zero, sN_add]
      omega
    · have hm : m < n := by omega
      rw [pairS hm G, pairS hm (fun i => G (2 ^ n + i))]
      congr 1
      refine sN_congr fun i _ => ?_
      rw [bt_add hm]
      by_cases c : bt i m = 0
      · rw [if_pos c, if_pos c, show 2 ^ n + (2 ^ m + i) = 2 ^ m + (2 ^ n + i) by omega]
      · rw [if_neg c, if_neg c]
theorem bt_with {S m n : Nat} (hm : m < n) (hS : S < 2 ^ n) (h : bt S m = 0) : bt (2 ^ m + S) m = 1 ∧ (∀ k, k ≠ m → bt (2 ^ m + S) k = bt S k) ∧ 2 ^ m + S < 2 ^ n := by
  -- S = a + 2^(m+1) b with a < 2^m
  obtain ⟨a, ha⟩ : ∃ a, a = S % 2 ^ m := ⟨_, rfl⟩
  obtain ⟨b, hb⟩ : ∃ b, b = S / 2 ^ m / 2 := ⟨_, rfl⟩
  have h1 : a < 2 ^ m := by rw [ha]; exact Nat.mod_lt _ (Nat.two_pow_pos m)
  have h2 : S / 2 ^ m = 2 * b := by unfold bt at h; omega
  have h3 : S = a + 2 ^ m * (2 * b) := by rw [ha, ← h2]; exact (Nat.mod_add_div S (2 ^ m)).symm
  have h4 : 2 ^ m + S = a + 2 ^ m * (2 * b + 1) := by rw [h3, Nat.mul_add]; omega
  have hd : ∀ c, (a + 2 ^ m * c) / 2 ^ m = c := fun c => by rw [Nat.add_mul_div_left _ _ (Nat.two_pow_pos m), Nat.div_eq_of_lt h1, Nat.zero_add]
  refine ⟨by unfold bt; rw [h4, hd]; omega, fun k hk => ?_, ?_⟩
  · rcases Nat.lt_or_gt_of_ne hk with g | g
    · exact bt_add g
    · unfold bt
      obtain ⟨d, rfl⟩ : ∃ d, k = m + (d + 1) := ⟨k - m - 1, by omega⟩
      have e : ∀ x, x / 2 ^ (m + (d + 1)) = x / 2 ^ m / 2 / 2 ^ d := fun x => by rw [Nat.div_div_eq_div_mul, Nat.div_div_eq_div_mul, Nat.pow_add, Nat.pow_succ, Nat.mul_comm (2 ^ d) 2]
      rw [e, e, h4, hd]
      conv => rhs; rw [h3, hd]
      congr 2
      omega
  · obtain ⟨d, rfl⟩ : ∃ d, n = m + (d + 1) := ⟨n - m - 1, by omega⟩
    have e : 2 ^ (m + (d + 1)) = 2 ^ m * (2 * 2 ^ d) := by rw [Nat.pow_add, Nat.pow_succ, Nat.mul_comm (2 ^ d) 2]
    rw [e] at hS ⊢
    have h5 : 2 * b < 2 * 2 ^ d := by
      have h6 : 2 ^ m * (2 * b) < 2 ^ m * (2 * 2 ^ d) := by omega
      exact Nat.lt_of_mul_lt_mul_left h6
    have h7 : 2 ^ m * (2 * b + 2) ≤ 2 ^ m * (2 * 2 ^ d) := Nat.mul_le_mul_left _ (by omega)
    rw [h4]
    rw [Nat.mul_add] at h7 ⊢
    omega
theorem wS_with (w : Nat → Int) {S m n : Nat} (hm : m < n) (hS : S < 2 ^ n) (h : bt S m = 0) : wS w (2 ^ m + S) n = wS w S n + w m := by
  obtain ⟨h1, h2, -⟩ := bt_with hm hS h
  unfold wS
  have e : sN (fun k => (bt (2 ^ m + S) k : Int) * w k) n = sN (fun k => (bt S k : Int) * w k + (if k = m then w m else 0)) n := sN_congr fun k _ => by
    by_cases c : k = m
    · subst c
      rw [h1, h, if_pos rfl]
      show (1 : Int) * _ = (0 : Int) * _ + _
      omega
    · rw [h2 k c, if_neg c]; omega
  rw [e, sN_add, sN_one hm (fun i _ c => if_neg c), if_pos rfl]
/-- bits counted by the library -/
def bcF (x : Int) : Option Int := f_In_bitCount eNil (fun _ _ => 0) x
set_option maxRecDepth 100000 in
theorem bc_all : (List.range 4096).all (fun x => bcF (x : Int) == some (pc x 12)) = true := by decide +kernel
theorem bitCount_eq (E : Ev) (M : Mm) {x : Nat} (h : x < 4096) : f_In_bitCount E M (x : Int) = some (pc x 12) := by
  have := List.all_eq_true.mp bc_all x (List.mem_range.mpr h)
  have e : f_In_bitCount E M (x : Int) = bcF (x : Int) := rfl
  rw [e]
  simpa using this
theorem pc_more {S n : Nat} (h : S < 2 ^ n) : ∀ d, pc S (n + d) = pc S n
  | 0 => rfl
  | d + 1 => by
    unfold pc
    rw [show n + (d + 1) = (n + d) + 1 by omega, wS_lo _ (Nat.lt_of_lt_of_le h (Nat.pow_le_pow_right (by decide) (by omega)))]
    exact pc_more h d
theorem pc_bounds (S : Nat) : ∀ n, 0 ≤ pc S n ∧ pc S n ≤ n
  | 0 => ⟨Int.le_refl 0, Int.le_refl 0⟩
  | n + 1 => by
    have h := pc_bounds S n
    have e : pc S (n + 1) = pc S n + (bt S n : Int) * 1 := rfl
    rcases bt_01 S n with g | g <;> rw [e, g] <;> omega
