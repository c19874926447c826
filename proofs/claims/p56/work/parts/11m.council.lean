/-! THE COUNCIL -/
/-- small methods -/
theorem needIndex_ok {E : Ev} {M : Mm} {a b : Int} (h0 : 0 ≤ a) (h1 : a < b) (h2 : b ≤ 2147483647) : f_B_needIndex E M a b = some () := by
  unfold f_B_needIndex
  rw [ck_i ⟨by omega, by omega⟩, if_neg (by omega), ck_i ⟨by omega, by omega⟩, if_pos h1]
theorem needRange_ok {E : Ev} {M : Mm} {a b c : Int} (h0 : -2147483648 ≤ b) (h1 : b ≤ a) (h2 : a ≤ c) (h3 : c ≤ 2147483647) : f_B_needRange E M a b c = some () := by
  unfold f_B_needRange
  rw [ck_i ⟨by omega, by omega⟩, ck_i ⟨by omega, by omega⟩, if_neg (by omega), ck_i ⟨by omega, by omega⟩, if_pos h2]
theorem needRoom_ok {E : Ev} {M : Mm} {a b : Int} (h0 : 0 ≤ a) (h1 : a ≤ b) (h2 : b ≤ 2147483647) : f_B_needRoom E M a b = some () := by
  unfold f_B_needRoom
  rw [ck_i ⟨by omega, by omega⟩, ck_i ⟨by omega, by omega⟩, if_pos h1]
/-- the ring of changes: where the newest stands, how many -/
def Ring (M : Mm) : Prop := 0 ≤ M 1 10 ∧ M 1 10 < 20 ∧ 0 ≤ M 1 11 ∧ M 1 11 ≤ 20
theorem remember_ok {E : Ev} {M : Mm} (x y w : Int) (h : Ring M) : Ok (f_B_remember E M x y w) (fun N => Off (fun i => i = 1 ∨ i = 246 ∨ i = 247 ∨ i = 248) M N ∧ Ring N ∧ (∀ k, k ≠ 10 → k ≠ 11 → N 1 k = M 1 k) ∧ N 1 10 = (M 1 10 + 1) % 20 ∧ N 1 11 = min (M 1 11 + 1) 20 ∧ N 246 (N 1 10).toNat = x ∧ N 247 (N 1 10).toNat = y ∧ N 248 (N 1 10).toNat = w ∧ ∀ k, k ≠ (N 1 10).toNat → N 246 k = M 246 k ∧ N 247 k = M 247 k ∧ N 248 k = M 248 k) := by
  obtain ⟨a1, a2, a3, a4⟩ := h
  unfold f_B_remember
  obtain ⟨p, hp⟩ : ∃ p, p = (M 1 10 + 1) % 20 := ⟨_, rfl⟩
  have p0 : 0 ≤ p := by omega
  have p1 : p < 20 := by omega
  rw [← hp, u2_at]
  refine ok_ck ⟨by omega, by omega⟩ (ok_ck ⟨p0, by omega, by omega⟩ (ok_nb ?_))
  simp only [u2_if, Nat.reduceEqDiff, false_and, and_false, if_false, and_self, if_true]
  refine ok_ck ⟨p0, by omega, by omega⟩ (ok_ck ⟨p0, by omega, by omega⟩ (ok_nb ?_))
  simp only [u2_if, Nat.reduceEqDiff, false_and, and_false, if_false, and_self, if_true]
  refine ok_ck ⟨by omega, by omega⟩ (ok_some ⟨?_, ?_, ?_, ?_, ?_, ?_, ?_, ?_, ?_⟩)
  · exact ((((Off.refl.u2 (Or.inl rfl)).u2 (Or.inr (Or.inl rfl))).u2 (Or.inr (Or.inr (Or.inl rfl)))).u2 (Or.inr (Or.inr (Or.inr rfl)))).u2 (Or.inl rfl)
  · unfold Ring
    simp only [u2_if, Nat.reduceEqDiff, false_and, and_false, if_false, and_self, if_true]
    omega
  · intro k h1 h2
    simp only [u2_if, Nat.reduceEqDiff, false_and, and_false, if_false, true_and, h1, h2]
  · simp only [u2_if, Nat.reduceEqDiff, false_and, and_false, if_false, and_self, if_true]
  · simp only [u2_if, Nat.reduceEqDiff, false_and, and_false, if_false, and_self, if_true]
  · simp only [u2_if, Nat.reduceEqDiff, false_and, and_false, if_false, and_self, if_true]
  · simp only [u2_if, Nat.reduceEqDiff, false_and, and_false, if_false, and_self, if_true]
  · simp only [u2_if, Nat.reduceEqDiff, false_and, and_false, if_false, and_self, if_true]
  · intro k hk
    simp only [u2_if, Nat.reduceEqDiff, false_and, and_false, if_false, and_self, if_true] at hk ⊢
    simp only [true_and, hk, if_false, and_self]
/-- a council: n members of these weights, a quota -/
theorem p2 (m : Nat) : (2 : Int) ^ m = ((2 ^ m : Nat) : Int) := by rw [Int.natCast_pow]; rfl
theorem pow12 {m : Nat} (h : m ≤ 12) : 2 ^ m ≤ 4096 := Nat.pow_le_pow_right (by decide) h
/-- n members of the weights w, a quota q -/
def CS (M : Mm) (n : Nat) (w : Nat → Int) (q : Int) : Prop := M 243 0 = (n : Int) ∧ M 243 1 = q ∧ (∀ k, k < n → M 244 k = w k) ∧ M 245 0 = 0
theorem CS.off {M N : Mm} {n : Nat} {w : Nat → Int} {q : Int} {S : Nat → Prop} (h : CS M n w q) (ho : Off S M N) (h1 : ¬ S 243) (h2 : ¬ S 244) (h3 : ¬ S 245) : CS N n w q :=
  ⟨by rw [ho _ h1]; exact h.1, by rw [ho _ h1]; exact h.2.1, fun k hk => by rw [ho _ h2]; exact h.2.2.1 k hk, by rw [ho _ h3]; exact h.2.2.2⟩
theorem ok_findSums {E : Ev} {M : Mm} {n : Nat} {w : Nat → Int} {q : Int} (hn : n ≤ 12) (h : CS M n w q) : Ok (f_Cl_findSums E M) (fun N => Off (fun i => i = 245) M N ∧ ∀ S, S < 2 ^ n → N 245 S = wS w S n) := by
  unfold f_Cl_findSums
  refine ok_bm (L_Cl_findSums_2 E (I := fun N x => ∃ m : Nat, x = (m : Int) ∧ m ≤ n ∧ Off (fun i => i = 245) M N ∧ ∀ S, S < 2 ^ m → N 245 S = wS w S m) (μ := fun _ x => n - x.toNat) (Q := fun r => r.1 = 1 ∧ Off (fun i => i = 245) M r.2.2 ∧ ∀ S, S < 2 ^ n → r.2.2 245 S = wS w S n) ?_ FU M 0 ⟨0, rfl, Nat.zero_le _, Off.refl, fun S hS => ?_⟩ (by show n - _ < 5000; omega)) ?_
  · rintro N x ⟨m, rfl, hm, ho, hs⟩
    have e0 : N 243 0 = (n : Int) := by rw [ho 243 (by decide)]; exact h.1
    unfold Cl_findSums_2b
    rw [e0]
    refine ok_ck (rgI_nat (by omega)) (ok_ck (rgI_nat (by omega)) (ok_if (fun c => ?_) (fun c => ?_)))
    · have e : m = n := by omega
      subst e
      exact ok_some (ok_out (by show (1 : Nat) ≠ 0; decide) ⟨rfl, ho, hs⟩)
    · have hw : N 244 m = w m := by rw [ho 244 (by decide)]; exact h.2.2.1 m (by omega)
      have hP := pow12 (show m ≤ 12 by omega)
      have hP2 : 2 ^ (m + 1) ≤ 4096 := pow12 (by omega)
      rw [Nat.pow_succ] at hP2
      refine ok_bm (L_Cl_findSums_12 E (m : Int) (I := fun K x => ∃ j : Nat, x = (j : Int) ∧ j ≤ 2 ^ m ∧ Off (fun i => i = 245) M K ∧ (∀ S, S < 2 ^ m → K 245 S = wS w S m) ∧ ∀ S, S < j → K 245 (2 ^ m + S) = wS w S m + w m) (μ := fun _ x => 2 ^ m - x.toNat) (Q := fun r => r.1 = 1 ∧ Off (fun i => i = 245) M r.2.2 ∧ ∀ S, S < 2 ^ (m + 1) → r.2.2 245 S = wS w S (m + 1)) ?_ FU N 0 ⟨0, rfl, Nat.zero_le _, ho, hs, fun S hS => absurd hS (Nat.not_lt_zero S)⟩ (by show 2 ^ m - _ < 5000; omega)) ?_
      · rintro K x ⟨j, rfl, hj, hoK, h1, h2⟩
        unfold Cl_findSums_12b
        rw [Int.toNat_natCast, Int.toNat_natCast, p2]
        have hwK : K 244 m = w m := by rw [hoK 244 (by decide)]; exact h.2.2.1 m (by omega)
        refine ok_ck ⟨by omega, by omega⟩ (ok_ck (rgI_nat (by omega)) (ok_ck (rgI_nat (by omega)) (ok_if (fun d => ?_) (fun d => ?_))))
        · have e : j = 2 ^ m := by omega
          refine ok_some (ok_out (by show (1 : Nat) ≠ 0; decide) ⟨rfl, hoK, fun S hS => ?_⟩)
          rw [Nat.pow_succ] at hS
          show K 245 S = _
          rcases Nat.lt_or_ge S (2 ^ m) with g | g
          · rw [wS_lo w g]; exact h1 S g
          · have e9 : S = 2 ^ m + (S - 2 ^ m) := by omega
            rw [e9, wS_hi w (by omega)]
            exact h2 _ (by omega)
        · have hjm : j < 2 ^ m := by omega
          have eo : orI (j : Int) ((2 ^ m : Nat) : Int) = ((2 ^ m + j : Nat) : Int) := by
            unfold orI
            rw [Int.toNat_natCast, Int.toNat_natCast, or_pow hjm]
          rw [eo, hwK, h1 j hjm, Int.toNat_natCast]
          refine ok_ck ⟨by omega, by omega⟩ (ok_ck ⟨by omega, by omega⟩ (ok_ck ⟨by omega, by omega⟩ (ok_ck ⟨by omega, by omega, by omega⟩ (ok_ck ⟨by omega, by omega, by omega⟩ (ok_nb (ok_ck ⟨by omega, by omega, by omega⟩ (ok_some (ok_go rfl ⟨⟨j + 1, by show (j : Int) + 1 = _; omega, by omega, hoK.u2 rfl, fun S hS => ?_, fun S hS => ?_⟩, by show 2 ^ m - ((j : Int) + 1).toNat < 2 ^ m - (j : Int).toNat; omega⟩)))))))) 
          · show u2 K 245 (2 ^ m + j) _ 245 S = _
            rw [u2_ne (Or.inr (by omega))]; exact h1 S hS
          · show u2 K 245 (2 ^ m + j) _ 245 (2 ^ m + S) = _
            by_cases e : S = j
            · rw [e, u2_at]
            · rw [u2_ne (Or.inr (by omega))]; exact h2 S (by omega)
      · rintro ⟨t, x, K⟩ ⟨g0, g1, g2⟩
        exact ok_ck g0 (ok_some (ok_go rfl ⟨⟨m + 1, by show (m : Int) + 1 = _; omega, by omega, g1, g2⟩, by show n - ((m : Int) + 1).toNat < n - (m : Int).toNat; omega⟩))
  · have e : S = 0 := by have : S < 1 := hS; omega
    rw [e]
    exact h.2.2.2
  · rintro ⟨t, x, N⟩ ⟨g0, g⟩
    exact ok_ck g0 (ok_some g)
/-- a member swings a set -/
abbrev swg (w : Nat → Int) (q : Int) (n S m : Nat) : Prop := wS w S n < q ∧ q ≤ wS w S n + w m ∧ bt S m = 0
theorem has_eq {E : Ev} {M : Mm} {S k : Nat} (hS : S < 2147483648) (hk : k < 32) : f_B_has E M (S : Int) (k : Int) = some (if bt S k = 0 then 0 else 1) := by
  unfold f_B_has
  rw [ck_i ⟨by omega, by omega⟩, ck_i ⟨by omega, by omega⟩, Int.toNat_natCast, bt_int]
  by_cases h : bt S k = 0
  · rw [if_pos (by omega), if_pos h]
  · rw [if_neg (by omega), if_neg h]
theorem isSwung_eq {E : Ev} {M : Mm} {n S m : Nat} {w : Nat → Int} {q : Int} (hn : n ≤ 12) (hS : S < 2 ^ n) (hm : m < n) (h0 : M 243 1 = q) (h1 : M 244 m = w m) (h2 : M 245 S = wS w S n) (hq : rgI q) (hs0 : 0 ≤ wS w S n) (hs1 : wS w S n ≤ 1000000) (hw0 : 0 ≤ w m) (hw1 : w m ≤ 1000000) : f_Cl_isSwung E M (S : Int) (m : Int) = some (if swg w q n S m then 1 else 0) := by
  have hP := pow12 hn
  unfold f_Cl_isSwung
  rw [Int.toNat_natCast, Int.toNat_natCast, h0, h1, h2, ck_i ⟨by omega, by omega, by omega⟩, ck_i ⟨by omega, by omega⟩, ck_i hq]
  by_cases c : q ≤ wS w S n
  · rw [if_pos c, if_neg (fun g => by have := g.1; omega)]
  · rw [if_neg c, ck_i ⟨by omega, by omega, by omega⟩, ck_i ⟨by omega, by omega⟩]
    by_cases d : wS w S n + w m < q
    · rw [if_pos d, if_neg (fun g => by have := g.2.1; omega)]
    · rw [if_neg d, has_eq (by omega) (by omega)]
      by_cases e : bt S m = 0
      · rw [if_pos e, if_pos ⟨by omega, by omega, e⟩]
        rfl
      · rw [if_neg e, if_neg (fun g => e g.2.2)]
        rfl
theorem wS_bounds {w : Nat → Int} (S : Nat) {c : Int} : ∀ {n : Nat}, (∀ k, k < n → 0 ≤ w k ∧ w k ≤ c) → 0 ≤ wS w S n ∧ wS w S n ≤ n * c
  | 0, _ => ⟨Int.le_refl 0, by show (0 : Int) ≤ 0 * c; omega⟩
  | n + 1, h => by
    have ih := wS_bounds S (fun k hk => h k (Nat.lt_succ_of_lt hk))
    have h2 := h n (Nat.lt_succ_self n)
    have e : wS w S (n + 1) = wS w S n + (bt S n : Int) * w n := rfl
    have e3 : ((n + 1 : Nat) : Int) * c = (n : Int) * c + c := by rw [show ((n + 1 : Nat) : Int) = (n : Int) + 1 by omega, Int.add_mul]; omega
    rcases bt_01 S n with g | g <;> rw [e, g, e3] <;> omega
