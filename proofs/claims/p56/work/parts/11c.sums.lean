/-! SUMS IN LIMBS -/
def pB : Nat → Int
  | 0 => 1
  | n + 1 => pB n * 1073741824
theorem pB_pos : ∀ n, 0 < pB n
  | 0 => by decide
  | n + 1 => by
    have := pB_pos n
    show 0 < pB n * 1073741824
    omega
theorem pB_succ (n : Nat) : pB (n + 1) = pB n * 1073741824 := rfl
theorem pB_add (m : Nat) : ∀ n, pB (m + n) = pB m * pB n
  | 0 => by show pB m = pB m * 1; omega
  | n + 1 => by
    have h := pB_add m n
    show pB (m + n) * 1073741824 = pB m * (pB n * 1073741824)
    rw [h, Int.mul_assoc]
theorem pB_le {m n : Nat} (h : m ≤ n) : pB m ≤ pB n := by
  obtain ⟨k, rfl⟩ := Nat.exists_eq_add_of_le h
  rw [pB_add]
  have h1 := pB_pos m
  have h2 := pB_pos k
  have := Int.mul_le_mul_of_nonneg_left (show (1 : Int) ≤ pB k by omega) (show 0 ≤ pB m by omega)
  omega
def Sg (x : Nat → Int) : Nat → Int
  | 0 => 0
  | n + 1 => Sg x n + x n * pB n
theorem Sg_succ (x : Nat → Int) (n : Nat) : Sg x (n + 1) = Sg x n + x n * pB n := rfl
theorem Sg_congr {x y : Nat → Int} : ∀ {n : Nat}, (∀ i, i < n → x i = y i) → Sg x n = Sg y n
  | 0, _ => rfl
  | n + 1, h => by
    rw [Sg_succ, Sg_succ, Sg_congr (fun i hi => h i (Nat.lt_succ_of_lt hi)), h n (Nat.lt_succ_self n)]
theorem Sg_add (x y : Nat → Int) : ∀ n, Sg (fun i => x i + y i) n = Sg x n + Sg y n
  | 0 => rfl
  | n + 1 => by
    rw [Sg_succ, Sg_succ, Sg_succ, Sg_add x y n, Int.add_mul]
    omega
theorem Sg_sub (x y : Nat → Int) : ∀ n, Sg (fun i => x i - y i) n = Sg x n - Sg y n
  | 0 => rfl
  | n + 1 => by
    rw [Sg_succ, Sg_succ, Sg_succ, Sg_sub x y n, Int.sub_mul]
    omega
theorem Sg_mul (f : Int) (x : Nat → Int) : ∀ n, Sg (fun i => f * x i) n = f * Sg x n
  | 0 => by show (0 : Int) = f * 0; omega
  | n + 1 => by
    rw [Sg_succ, Sg_succ, Sg_mul f x n, Int.mul_add, Int.mul_assoc]
theorem Sg_nonneg {x : Nat → Int} : ∀ {n : Nat}, (∀ i, i < n → 0 ≤ x i) → 0 ≤ Sg x n
  | 0, _ => Int.le_refl 0
  | n + 1, h => by
    rw [Sg_succ]
    have h1 := Sg_nonneg (fun i hi => h i (Nat.lt_succ_of_lt hi))
    have h2 := Int.mul_nonneg (h n (Nat.lt_succ_self n)) (Int.le_of_lt (pB_pos n))
    omega
theorem Sg_lt {x : Nat → Int} : ∀ {n : Nat}, (∀ i, i < n → x i < 1073741824) → Sg x n < pB n
  | 0, _ => by show (0 : Int) < 1; decide
  | n + 1, h => by
    rw [Sg_succ, pB_succ]
    have h1 := Sg_lt (fun i hi => h i (Nat.lt_succ_of_lt hi))
    have h2 := Int.mul_le_mul_of_nonneg_right (show x n ≤ 1073741823 from by have := h n (Nat.lt_succ_self n); omega) (Int.le_of_lt (pB_pos n))
    omega
theorem Sg_zeros {x : Nat → Int} {m : Nat} : ∀ {n : Nat}, m ≤ n → (∀ i, m ≤ i → i < n → x i = 0) → Sg x n = Sg x m
  | 0, h, _ => by have : m = 0 := by omega
                  rw [this]
  | n + 1, h, hz => by
    by_cases e : m = n + 1
    · rw [e]
    · rw [Sg_succ, hz n (by omega) (Nat.lt_succ_self n), Sg_zeros (by omega) (fun i h1 h2 => hz i h1 (by omega))]
      omega
theorem Sg_shift (x : Nat → Int) (p : Nat) : ∀ n, Sg x (p + n) = Sg x p + pB p * Sg (fun i => x (p + i)) n
  | 0 => by show Sg x p = Sg x p + pB p * 0; omega
  | n + 1 => by
    show Sg x (p + n) + x (p + n) * pB (p + n) = Sg x p + pB p * (Sg (fun i => x (p + i)) n + x (p + n) * pB n)
    rw [Sg_shift x p n, pB_add]
    grind
theorem Sg_le {x y : Nat → Int} : ∀ {n : Nat}, (∀ i, i < n → x i ≤ y i) → Sg x n ≤ Sg y n
  | 0, _ => Int.le_refl 0
  | n + 1, h => by
    rw [Sg_succ, Sg_succ]
    have h1 := Sg_le (fun i hi => h i (Nat.lt_succ_of_lt hi))
    have h2 := Int.mul_le_mul_of_nonneg_right (h n (Nat.lt_succ_self n)) (Int.le_of_lt (pB_pos n))
    omega
/-- limbs in their range -/
def Lr (x : Nat → Int) (n : Nat) : Prop := ∀ i, i < n → 0 ≤ x i ∧ x i < 1073741824
theorem Lr.lo {x : Nat → Int} {n : Nat} (h : Lr x n) : 0 ≤ Sg x n := Sg_nonneg fun i hi => (h i hi).1
theorem Lr.hi {x : Nat → Int} {n : Nat} (h : Lr x n) : Sg x n < pB n := Sg_lt fun i hi => (h i hi).2
theorem Lr.mono {x : Nat → Int} {m n : Nat} (h : Lr x n) (hm : m ≤ n) : Lr x m := fun i hi => h i (Nat.lt_of_lt_of_le hi hm)
/-- the first limb that differs decides -/
theorem Sg_cmp {x y : Nat → Int} {i n : Nat} (hx : Lr x n) (hy : Lr y n) (hi : i < n) (h : x i < y i) (he : ∀ j, i < j → j < n → x j = y j) : Sg x n < Sg y n := by
  have key : ∀ k, i + 1 + k ≤ n → Sg x (i + 1 + k) < Sg y (i + 1 + k) := by
    intro k
    induction k with
    | zero =>
      intro _
      show Sg x i + x i * pB i < Sg y i + y i * pB i
      have h1 := (hx.mono (show i ≤ n by omega)).hi
      have h2 := (hy.mono (show i ≤ n by omega)).lo
      have h3 := Int.mul_le_mul_of_nonneg_right (show x i + 1 ≤ y i by omega) (Int.le_of_lt (pB_pos i))
      rw [Int.add_mul] at h3
      omega
    | succ k ih =>
      intro hk
      have h1 := ih (by omega)
      show Sg x (i + 1 + k) + x (i + 1 + k) * pB (i + 1 + k) < Sg y (i + 1 + k) + y (i + 1 + k) * pB (i + 1 + k)
      rw [he (i + 1 + k) (by omega) (by omega)]
      omega
  have := key (n - (i + 1)) (by omega)
  rw [show i + 1 + (n - (i + 1)) = n by omega] at this
  exact this
/-- a carry that is left must be none -/
theorem carry0 {X r c P : Int} (h : r + c * P = X) (h1 : 0 ≤ r) (h2 : r < P) (h3 : 0 ≤ X) (h4 : X < P) : c = 0 := by
  have hP : 0 < P := by omega
  rcases Int.lt_trichotomy c 0 with q | q | q
  · have := Int.mul_le_mul_of_nonneg_right (show c ≤ -1 by omega) (Int.le_of_lt hP)
    omega
  · exact q
  · have := Int.mul_le_mul_of_nonneg_right (show 1 ≤ c by omega) (Int.le_of_lt hP)
    omega
/-- X = Q * D + R -/
theorem qr_unique {D Q R Q' R' : Int} (h : Q * D + R = Q' * D + R') (h1 : 0 ≤ R) (h2 : R < D) (h3 : 0 ≤ R') (h4 : R' < D) : Q = Q' ∧ R = R' := by
  have e : Q - Q' = 0 := by
    refine carry0 (X := R') (r := R) (P := D) ?_ h1 h2 h3 h4
    rw [Int.sub_mul]
    omega
  have e2 : Q = Q' := by omega
  subst e2
  exact ⟨rfl, by omega⟩
