/-! THE COUNCIL -/
/-- small methods -/
theorem needIndex_ok {E : Ev} {M : Mm} {a b : Int} (h0 : 0 ≤ a) (h1 : a < b) (h2 : b ≤ 2147483647) : f_B_needIndex E M a b = some () := by
  unfold f_B_needIndex
  rw [ck_i ⟨by omega, by omega⟩, if_neg (by omega), ck_i ⟨by omega, by omega⟩, if_pos h1]
theorem needRange_ok {E : Ev} {M : Mm} {a b c : Int} (h0 : -2147483648 ≤ b) (h1 : b ≤ a) (h2 : a ≤ c) (h3 : c ≤ 2147483647) : f_B_needRange E M a b c = some () := by
  unfold f_B_needRange
  rw [ck_i ⟨by omega, by omega⟩, ck_i ⟨by omega, by omega⟩, if_neg (by omega), ck_i ⟨by omega, by omega⟩, if_pos h2]
theorem needRoom_ok {E : Ev} {M : Mm} {a b : Int} (h0 : 0 ≤ a) (h1 : a ≤ b) (h2 : b ≤ 2147483647) : f_B_needRoom E M a b = some () := by
  unfold f_B_needRoom
  rw [ck_i ⟨by omega, by omega⟩, ck_i ⟨by omega, by omega⟩, if_pos h1]
/-- the ring of changes: where the newest stands, how many -/
def Ring (M : Mm) : Prop := 0 ≤ M 1 10 ∧ M 1 10 < 20 ∧ 0 ≤ M 1 11 ∧ M 1 11 ≤ 20
theorem remember_ok {E : Ev} {M : Mm} (x y w : Int) (h : Ring M) : Ok (f_B_remember E M x y w) (fun N => Off (fun i => i = 1 ∨ i = 246 ∨ i = 247 ∨ i = 248) M N ∧ Ring N ∧ (∀ k, k ≠ 10 → k ≠ 11 → N 1 k = M 1 k) ∧ N 1 10 = (M 1 10 + 1) % 20 ∧ N 1 11 = min (M 1 11 + 1) 20 ∧ N 246 (N 1 10).toNat = x ∧ N 247 (N 1 10).toNat = y ∧ N 248 (N 1 10).toNat = w ∧ ∀ k, k ≠ (N 1 10).toNat → N 246 k = M 246 k ∧ N 247 k = M 247 k ∧ N 248 k = M 248 k) := by
  obtain ⟨a1, a2, a3, a4⟩ := h
  unfold f_B_remember
  obtain ⟨p, hp⟩ : ∃ p, p = (M 1 10 + 1) % 20 := ⟨_, rfl⟩
  have p0 : 0 ≤ p := by omega
  have p1 : p < 20 := by omega
  rw [← hp, u2_at]
  refine ok_ck ⟨by omega, by omega⟩ (ok_ck ⟨p0, by omega, by omega⟩ (ok_nb ?_))
  simp only [u2_if, Nat.reduceEqDiff, false_and, and_false, if_false, and_self, if_true]
  refine ok_ck ⟨p0, by omega, by omega⟩ (ok_ck ⟨p0, by omega, by omega⟩ (ok_nb ?_))
  simp only [u2_if, Nat.reduceEqDiff, false_and, and_false, if_false, and_self, if_true]
  refine ok_ck ⟨by omega, by omega⟩ (ok_some ⟨?_, ?_, ?_, ?_, ?_, ?_, ?_, ?_, ?_⟩)
  · exact ((((Off.refl.u2 (Or.inl rfl)).u2 (Or.inr (Or.inl rfl))).u2 (Or.inr (Or.inr (Or.inl rfl)))).u2 (Or.inr (Or.inr (Or.inr rfl)))).u2 (Or.inl rfl)
  · unfold Ring
    simp only [u2_if, Nat.reduceEqDiff, false_and, and_false, if_false, and_self, if_true]
    omega
  · intro k h1 h2
    simp only [u2_if, Nat.reduceEqDiff, false_and, and_false, if_false, true_and, h1, h2]
  · simp only [u2_if, Nat.reduceEqDiff, false_and, and_false, if_false, and_self, if_true]
  · simp only [u2_if, Nat.reduceEqDiff, false_and, and_false, if_false, and_self, if_true]
  · simp only [u2_if, Nat.reduceEqDiff, false_and, and_false, if_false, and_self, if_true]
  · simp only [u2_if, Nat.reduceEqDiff, false_and, and_false, if_false, and_self, if_true]
  · simp only [u2_if, Nat.reduceEqDiff, false_and, and_false, if_false, and_self, if_true]
  · intro k hk
    simp only [u2_if, Nat.reduceEqDiff, false_and, and_false, if_false, and_self, if_true] at hk ⊢
    simp only [true_and, hk, if_false, and_self]
/-- a council: n members of these weights, a quota -/
