/-! EVERY DIVISION IS A MASK -/
/-- the ends that a mask sets among the last r wards -/
def mE (S n : Nat) : Nat → List Nat
  | 0 => []
  | r + 1 => if n - (r + 1) + 1 = n ∨ bt S (n - (r + 1)) = 1 then (n - (r + 1)) :: mE S n r else mE S n r
theorem mE_1 (S : Nat) {n : Nat} (h : 1 ≤ n) : mE S n 1 = [n - 1] := by
  show (if n - 1 + 1 = n ∨ bt S (n - 1) = 1 then (n - 1) :: mE S n 0 else mE S n 0) = _
  rw [if_pos (Or.inl (by omega))]
  rfl
theorem mE_step (S : Nat) {n k : Nat} (h : k < n) : mE S n (n - k) = if k + 1 = n ∨ bt S k = 1 then k :: mE S n (n - k - 1) else mE S n (n - k - 1) := by
  obtain ⟨r, rfl⟩ : ∃ r, n = k + (r + 1) := ⟨n - k - 1, by omega⟩
  rw [show k + (r + 1) - k = r + 1 by omega, show r + 1 - 1 = r by omega]
  show (if k + (r + 1) - (r + 1) + 1 = k + (r + 1) ∨ bt S (k + (r + 1) - (r + 1)) = 1 then (k + (r + 1) - (r + 1)) :: mE S (k + (r + 1)) r else mE S (k + (r + 1)) r) = _
  rw [show k + (r + 1) - (r + 1) = k by omega]
theorem mE_DV (S n : Nat) : ∀ {r s : Nat}, 1 ≤ r → r ≤ n → s ≤ n - r → DV n s (mE S n r)
  | 0, _, h, _, _ => absurd h (by decide)
  | 1, s, _, h2, h3 => by
    have e : mE S n 1 = [n - 1] := mE_1 S h2
    rw [e]
    exact ⟨h3, by omega, show n - 1 + 1 = n by omega⟩
  | r + 2, s, _, h2, h3 => by
    unfold mE
    by_cases c : n - (r + 1 + 1) + 1 = n ∨ bt S (n - (r + 1 + 1)) = 1
    · rw [if_pos c]
      exact ⟨h3, by omega, mE_DV S n (r := r + 1) (by omega) (by omega) (by omega)⟩
    · rw [if_neg c]
      exact mE_DV S n (r := r + 1) (by omega) (by omega) (by omega)
theorem mE_len (S n : Nat) : ∀ {r : Nat}, 1 ≤ r → r ≤ n → pc S (n - r) + ((mE S n r).length : Int) = pc S (n - 1) + 1
  | 0, h, _ => absurd h (by decide)
  | 1, _, h2 => by
    have e : mE S n 1 = [n - 1] := mE_1 S h2
    rw [e]; rfl
  | r + 2, _, h2 => by
    have ih := mE_len S n (r := r + 1) (by omega) (by omega)
    have e : n - (r + 1) = n - (r + 2) + 1 := by omega
    rw [e] at ih
    have e2 : pc S (n - (r + 2) + 1) = pc S (n - (r + 2)) + (bt S (n - (r + 2)) : Int) * 1 := rfl
    rw [e2] at ih
    unfold mE
    rcases bt_01 S (n - (r + 2)) with g | g
    · rw [if_neg (show ¬ (n - (r + 1 + 1) + 1 = n ∨ bt S (n - (r + 1 + 1)) = 1) from fun q => by
        rcases q with q | q
        · omega
        · have q : bt S (n - (r + 2)) = 1 := q
          omega)]
      rw [g] at ih
      omega
    · rw [if_pos (show n - (r + 1 + 1) + 1 = n ∨ bt S (n - (r + 1 + 1)) = 1 from Or.inr g)]
      rw [g] at ih
      rw [List.length_cons]
      omega
theorem DV_mem {n : Nat} : ∀ {l : List Nat} {s : Nat}, DV n s l → ∀ x, x ∈ l → s ≤ x ∧ x < n
  | [], _, _, x, h => absurd h (List.not_mem_nil)
  | e :: l, s, h, x, hx => by
    obtain ⟨h1, h2, h3⟩ := h
    rcases List.mem_cons.mp hx with g | g
    · rw [g]; exact ⟨h1, h2⟩
    · have := DV_mem h3 x g
      omega
theorem bits_of (f : Nat → Bool) : ∀ m : Nat, ∃ S, S < 2 ^ m ∧ ∀ k, k < m → (bt S k = 1 ↔ f k = true)
  | 0 => ⟨0, by decide, fun k hk => absurd hk (Nat.not_lt_zero k)⟩
  | m + 1 => by
    obtain ⟨S, h1, h2⟩ := bits_of f m
    by_cases c : f m = true
    · refine ⟨2 ^ m + S, by rw [Nat.pow_succ]; omega, fun k hk => ?_⟩
      by_cases e : k = m
      · subst e
        rw [bt_hi h1]
        exact ⟨fun _ => c, fun _ => rfl⟩
      · rw [bt_add (by omega)]
        exact h2 k (by omega)
    · refine ⟨S, by rw [Nat.pow_succ]; omega, fun k hk => ?_⟩
      by_cases e : k = m
      · subst e
        rw [bt_lt h1]
        exact ⟨fun q => absurd q (by decide), fun q => absurd q c⟩
      · exact h2 k (by omega)
theorem mE_eq (S n : Nat) : ∀ {r s : Nat} {l : List Nat}, 1 ≤ r → r ≤ n → DV n s l → s ≤ n - r → (∀ x, x ∈ l → n - r ≤ x) → (∀ k, n - r ≤ k → k + 1 < n → (bt S k = 1 ↔ k ∈ l)) → mE S n r = l
  | 0, _, _, h, _, _, _, _, _ => absurd h (by decide)
  | 1, s, l, _, h2, h3, h4, h5, _ => by
    have e : mE S n 1 = [n - 1] := mE_1 S h2
    rw [e]
    cases l with
    | nil => have h3 : s = n := h3; omega
    | cons a l =>
      obtain ⟨a1, a2, a3⟩ := h3
      have a4 := h5 a (List.mem_cons_self)
      have a5 := DV_len a3
      have a6 : l = [] := List.length_eq_zero_iff.mp (by omega)
      rw [a6, show a = n - 1 by omega]
  | r + 2, s, l, _, h2, h3, h4, h5, h6 => by
    unfold mE
    by_cases c : bt S (n - (r + 2)) = 1
    · rw [if_pos (show n - (r + 1 + 1) + 1 = n ∨ bt S (n - (r + 1 + 1)) = 1 from Or.inr c)]
      have hm := (h6 (n - (r + 2)) (Nat.le_refl _) (by omega)).mp c
      cases l with
      | nil => exact absurd hm (List.not_mem_nil)
      | cons a l =>
        obtain ⟨a1, a2, a3⟩ := h3
        have a4 := h5 a (List.mem_cons_self)
        have a5 : n - (r + 2) = a := by
          rcases List.mem_cons.mp hm with g | g
          · exact g
          · have := DV_mem a3 _ g
            omega
        have ih := mE_eq S n (r := r + 1) (s := a + 1) (l := l) (by omega) (by omega) a3 (by omega) (fun x hx => by have := DV_mem a3 x hx; omega) (fun k k1 k2 => by
          rw [h6 k (by omega) k2]
          constructor
          · intro q
            rcases List.mem_cons.mp q with g | g
            · omega
            · exact g
          · exact fun q => List.mem_cons_of_mem _ q)
        show (n - (r + 2)) :: mE S n (r + 1) = _
        rw [ih, a5]
    · rw [if_neg (show ¬ (n - (r + 1 + 1) + 1 = n ∨ bt S (n - (r + 1 + 1)) = 1) from fun q => by
        rcases q with q | q
        · omega
        · exact c q)]
      refine mE_eq S n (r := r + 1) (by omega) (by omega) h3 (by omega) (fun x hx => ?_) (fun k k1 k2 => h6 k (by omega) k2)
      have b1 := h5 x hx
      by_cases e : x = n - (r + 2)
      · exact absurd ((h6 (n - (r + 2)) (Nat.le_refl _) (by omega)).mpr (by rw [← e]; exact hx)) c
      · omega
theorem mE_surj {n : Nat} {l : List Nat} (hn : 1 ≤ n) (h : DV n 0 l) : ∃ S, S < 2 ^ (n - 1) ∧ mE S n n = l := by
  obtain ⟨S, h1, h2⟩ := bits_of (fun k => decide (k ∈ l)) (n - 1)
  refine ⟨S, h1, mE_eq S n hn (Nat.le_refl n) h (Nat.zero_le _) (fun x _ => by omega) (fun k _ k2 => ?_)⟩
  rw [h2 k (by omega)]
  exact decide_eq_true_iff
/-- the first place where two divisions differ -/
theorem lx_first : ∀ {a b : List Nat} {i : Nat}, a.length = b.length → i < a.length → (∀ j, j < i → a.getD j 0 = b.getD j 0) → (i + 1 = a.length ∨ a.getD i 0 ≠ b.getD i 0) → a.getD i 0 ≤ b.getD i 0 → lx a b
  | [], _, i, _, h, _, _, _ => absurd h (Nat.not_lt_zero i)
  | _ :: _, [], _, h, _, _, _, _ => absurd h (by show ¬ _ + 1 = 0; omega)
  | x :: a, y :: b, 0, hl, _, _, h, hle => by
    have hle : x ≤ y := hle
    have hl : a.length + 1 = b.length + 1 := hl
    by_cases e : x = y
    · refine Or.inr ⟨e, ?_⟩
      rcases h with h | h
      · have h : 0 + 1 = a.length + 1 := h
        have e1 : a = [] := List.length_eq_zero_iff.mp (by omega)
        rw [e1]; exact True.intro
      · exact absurd e h
    · exact Or.inl (by omega)
  | x :: a, y :: b, i + 1, hl, hi, h, h2, hle => by
    have hl : a.length + 1 = b.length + 1 := hl
    have hi : i + 1 < a.length + 1 := hi
    have e : x = y := h 0 (by omega)
    refine Or.inr ⟨e, lx_first (i := i) (by omega) (by omega) (fun j hj => h (j + 1) (by omega)) ?_ hle⟩
    rcases h2 with h2 | h2
    · have h2 : i + 1 + 1 = a.length + 1 := h2
      exact Or.inl (by omega)
    · exact Or.inr h2
