/-! NATURALS: an object q with its limbs in the cell behind it -/
def nn (q i : Nat) : Prop := i = q ∨ i = q + 1
def ap (q p : Nat) : Prop := q + 1 < p ∨ p + 1 < q
theorem ap.symm {q p : Nat} (h : ap q p) : ap p q := Or.symm h
theorem ap.n0 {q p : Nat} (h : ap q p) : ¬ nn q p := by
  intro g
  rcases g with g | g <;> rcases h with h | h <;> omega
theorem ap.n1 {q p : Nat} (h : ap q p) : ¬ nn q (p + 1) := by
  intro g
  rcases g with g | g <;> rcases h with h | h <;> omega
def NatS (M : Mm) (q s : Nat) (v : Int) : Prop := M q 1 = (s : Int) ∧ s ≤ 13 ∧ Lr (M (q + 1)) s ∧ (0 < s → M (q + 1) (s - 1) ≠ 0) ∧ Sg (M (q + 1)) s = v
def NatAt (M : Mm) (q : Nat) (v : Int) : Prop := ∃ s, NatS M q s v
theorem NatS.lo {M : Mm} {q s : Nat} {v : Int} (h : NatS M q s v) : 0 ≤ v := by rw [← h.2.2.2.2]; exact h.2.2.1.lo
theorem NatS.hi {M : Mm} {q s : Nat} {v : Int} (h : NatS M q s v) : v < pB s := by rw [← h.2.2.2.2]; exact h.2.2.1.hi
theorem NatS.ge {M : Mm} {q s : Nat} {v : Int} (h : NatS M q s v) (hs : 0 < s) : pB (s - 1) ≤ v := by
  obtain ⟨-, -, h3, h4, h5⟩ := h
  obtain ⟨k, rfl⟩ : ∃ k, s = k + 1 := ⟨s - 1, by omega⟩
  rw [← h5, Sg_succ]
  have h6 := h4 hs
  rw [Nat.add_sub_cancel] at h6 ⊢
  have h7 := h3 k (Nat.lt_succ_self k)
  have h8 := (h3.mono (Nat.le_succ k)).lo
  have h9 := Int.mul_le_mul_of_nonneg_right (show 1 ≤ M (q + 1) k by omega) (Int.le_of_lt (pB_pos k))
  omega
theorem NatS.size_le {M : Mm} {q s m : Nat} {v : Int} (h : NatS M q s v) (hv : v < pB m) : s ≤ m := by
  rcases Nat.lt_or_ge m s with g | g
  · have h1 := h.ge (by omega)
    have h2 := pB_le (show m ≤ s - 1 by omega)
    omega
  · exact g
theorem NatS.zero {M : Mm} {q s : Nat} {v : Int} (h : NatS M q s v) : s = 0 ↔ v = 0 := by
  constructor
  · intro e
    subst e
    exact h.2.2.2.2.symm
  · intro e
    have := h.size_le (m := 0) (by rw [e]; decide)
    omega
theorem NatAt.lo {M : Mm} {q : Nat} {v : Int} (h : NatAt M q v) : 0 ≤ v := h.elim fun _ h => h.lo
theorem NatS.keep {M N : Mm} {q s : Nat} {v : Int} (h : NatS M q s v) (h0 : N q 1 = M q 1) (h1 : N (q + 1) = M (q + 1)) : NatS N q s v := by
  obtain ⟨a, b, c, d, e⟩ := h
  exact ⟨by rw [h0]; exact a, b, by rw [h1]; exact c, by rw [h1]; exact d, by rw [h1]; exact e⟩
theorem NatAt.keep {M N : Mm} {q : Nat} {v : Int} (h : NatAt M q v) (h0 : N q = M q) (h1 : N (q + 1) = M (q + 1)) : NatAt N q v := h.elim fun s h => ⟨s, h.keep (by rw [h0]) h1⟩
theorem NatS.off {M N : Mm} {S : Nat → Prop} {q s : Nat} {v : Int} (h : NatS M q s v) (ho : Off S M N) (h0 : ¬ S q) (h1 : ¬ S (q + 1)) : NatS N q s v := h.keep (by rw [ho q h0]) (ho _ h1)
theorem NatAt.off {M N : Mm} {S : Nat → Prop} {q : Nat} {v : Int} (h : NatAt M q v) (ho : Off S M N) (h0 : ¬ S q) (h1 : ¬ S (q + 1)) : NatAt N q v := h.keep (ho q h0) (ho _ h1)
theorem NatS.rg {M : Mm} {q s : Nat} {v : Int} (h : NatS M q s v) : rgI (M q 1) := by
  rw [h.1]
  have := h.2.1
  exact ⟨by omega, by omega⟩
/-- the limbs with zeros behind -/
def lim (M : Mm) (q s : Nat) : Nat → Int := fun i => if i < s then M (q + 1) i else 0
theorem lim_Lr {M : Mm} {q s : Nat} {v : Int} (h : NatS M q s v) (n : Nat) : Lr (lim M q s) n := by
  intro i _
  unfold lim
  by_cases hi : i < s
  · rw [if_pos hi]; exact h.2.2.1 i hi
  · rw [if_neg hi]; exact ⟨by decide, by decide⟩
theorem lim_Sg {M : Mm} {q s n : Nat} {v : Int} (h : NatS M q s v) (hn : s ≤ n) : Sg (lim M q s) n = v := by
  rw [Sg_zeros hn (fun i h1 _ => by unfold lim; rw [if_neg (by omega)]), ← h.2.2.2.2]
  exact Sg_congr fun i hi => by unfold lim; rw [if_pos hi]
theorem isNa_IA {E : Ev} {q : Nat} (h : isNa E q) : isIA E (q + 1) := ⟨h.1, by rw [h.2.2.2]⟩
theorem rgI_nat {k : Nat} (h : k ≤ 100000) : rgI (k : Int) := ⟨by omega, by omega⟩
theorem limbAt_eq {E : Ev} {M : Mm} {q s k : Nat} (hq : isNa E q) (hs : M q 1 = (s : Int)) (hs13 : s ≤ 13) (hk : k ≤ 100000) : f_Na_limbAt E M q (k : Int) = some (if k < s then M (q + 1) k else 0) := by
  unfold f_Na_limbAt
  rw [ck_i hq, ck_i (rgI_nat hk), hs, ck_i (rgI_nat (by omega))]
  by_cases h : k < s
  · rw [if_neg (by omega), if_pos h, ck_i ⟨by omega, by omega, by omega⟩, Int.toNat_natCast]
  · rw [if_pos (by omega), if_neg h]
theorem Sg_up (f : Nat → Int) (k : Nat) (x : Int) : Sg (va_up f k x) (k + 1) = Sg f k + x * pB k := by
  rw [Sg_succ, va_up_self, Sg_congr (fun i hi => va_up_ne _ _ (Nat.ne_of_lt hi))]
theorem Lr_up {f : Nat → Int} {k : Nat} {x : Int} (h : Lr f k) (h1 : 0 ≤ x) (h2 : x < 1073741824) : Lr (va_up f k x) (k + 1) := by
  intro i hi
  by_cases e : i = k
  · subst e; rw [va_up_self]; exact ⟨h1, h2⟩
  · rw [va_up_ne _ _ e]; exact h i (by omega)
theorem u2_rowself (M : Mm) (i k : Nat) (x : Int) : u2 M i k x i = va_up (M i) k x := va_up_self _ _ _
set_option maxHeartbeats 1000000 in
theorem ok_fillI {E : Ev} {M : Mm} {p n : Nat} {x : Int} (hp : p < nE E) (hT : tE E p = (0, n)) (hn : n ≤ 4000) : Ok (f_Ar_fillI E M p x) (fun N => Off (fun i => i = p) M N ∧ (∀ k, k < n → N p k = x) ∧ ∀ k, n ≤ k → N p k = M p k) := by
  have hA : isIA E p := ⟨hp, by rw [hT]⟩
  unfold f_Ar_fillI
  refine ok_ck hA (ok_bm (L_Ar_fillI_5 E p x _ (I := fun N i => ∃ k : Nat, i = (k : Int) ∧ k ≤ n ∧ Off (fun i => i = p) M N ∧ (∀ j, j < k → N p j = x) ∧ ∀ j, k ≤ j → N p j = M p j) (μ := fun _ i => n - i.toNat) (Q := fun r => r.1 = 1 ∧ Off (fun i => i = p) M r.2.2 ∧ (∀ k, k < n → r.2.2 p k = x) ∧ ∀ k, n ≤ k → r.2.2 p k = M p k) ?_ FU M 0 ⟨0, rfl, Nat.zero_le _, Off.refl, fun j hj => absurd hj (Nat.not_lt_zero j), fun _ _ => rfl⟩ (by show n - _ < 5000; omega)) ?_)
  · rintro N i ⟨k, rfl, hk, ho, h1, h2⟩
    unfold Ar_fillI_5b
    have hT2 : (tE E p).2 = n := by rw [hT]
    refine ok_ck hA (ok_ck (rgI_nat (by omega)) (ok_ck (by rw [hT2]; exact rgI_nat (by omega)) (ok_if (fun c => ?_) (fun c => ?_))))
    · have e : k = n := by omega
      subst e
      exact ok_some (ok_out (by show (1 : Nat) ≠ 0; decide) ⟨rfl, ho, h1, h2⟩)
    · refine ok_ck ⟨by omega, by omega, by omega⟩ (ok_some (ok_go rfl ⟨⟨k + 1, by show (k : Int) + 1 = _; omega, by omega, ho.u2 rfl, fun j hj => ?_, fun j hj => ?_⟩, ?_⟩))
      · show u2 N p (k : Int).toNat x p j = x
        rw [Int.toNat_natCast]
        by_cases e : j = k
        · rw [e, u2_at]
        · rw [u2_ne (Or.inr e)]; exact h1 j (by omega)
      · show u2 N p (k : Int).toNat x p j = M p j
        rw [Int.toNat_natCast, u2_ne (Or.inr (by omega))]
        exact h2 j (by omega)
      · show n - ((k : Int) + 1).toNat < n - (k : Int).toNat
        omega
  · rintro ⟨t, v, N⟩ ⟨h0, h⟩
    exact ok_ck h0 (ok_some h)
theorem ok_trim {E : Ev} {M : Mm} {q m : Nat} (hq : isNa E q) (hm : m ≤ 13) (hr : Lr (M (q + 1)) m) : Ok (f_Na_trimTo E M q (m : Int)) (fun N => NatAt N q (Sg (M (q + 1)) m) ∧ Off (fun i => i = q) M N) := by
  unfold f_Na_trimTo
  refine ok_ck hq (ok_ck (rgI_nat (by omega)) (ok_bm (L_Na_trimTo_10 E q (I := fun N => ∃ k : Nat, N q 1 = (k : Int) ∧ k ≤ m ∧ Off (fun i => i = q) M N ∧ Sg (M (q + 1)) k = Sg (M (q + 1)) m) (μ := fun N => (N q 1).toNat) (Q := fun r => r.1 = 1 ∧ NatAt r.2 q (Sg (M (q + 1)) m) ∧ Off (fun i => i = q) M r.2) ?_ FU _ ⟨m, ?_, Nat.le_refl _, Off.refl.u2 rfl, rfl⟩ ?_) ?_))
  · rintro N ⟨k, h1, hk, ho, hs⟩
    have hrow : N (q + 1) = M (q + 1) := ho _ (by omega)
    unfold Na_trimTo_10b
    refine ok_ck hq ?_
    rw [h1]
    refine ok_ck (rgI_nat (by omega)) (ok_if (fun c => ?_) (fun c => ?_))
    · have e : k = 0 := by omega
      subst e
      have hN : NatAt N q (Sg (M (q + 1)) m) := ⟨0, h1, by omega, fun i hi => absurd hi (Nat.not_lt_zero i), fun h => absurd h (Nat.lt_irrefl 0), by rw [hrow]; exact hs⟩
      exact ok_some (ok_out (by show (1 : Nat) ≠ 0; decide) ⟨rfl, hN, ho⟩)
    · have e1 : ((k : Int) - 1).toNat = k - 1 := by omega
      rw [e1, hrow]
      have hl := hr (k - 1) (by omega)
      refine ok_ck ⟨by omega, by show (k : Int) - 1 < 13; omega, by omega⟩ (ok_ck ⟨by omega, by omega⟩ (ok_if (fun c2 => ?_) (fun c2 => ?_)))
      · refine ok_some (ok_go rfl ⟨⟨k - 1, ?_, by omega, ho.u2 rfl, ?_⟩, ?_⟩)
        · show u2 N q 1 ((k : Int) - 1) q 1 = _
          rw [u2_at]; omega
        · rw [← hs]
          obtain ⟨j, rfl⟩ : ∃ j, k = j + 1 := ⟨k - 1, by omega⟩
          rw [Nat.add_sub_cancel] at c2 ⊢
          rw [Sg_succ, c2]; omega
        · show (u2 N q 1 ((k : Int) - 1) q 1).toNat < (k : Int).toNat
          rw [u2_at]; omega
      · have hN : NatAt N q (Sg (M (q + 1)) m) := ⟨k, h1, by omega, by rw [hrow]; exact hr.mono hk, fun _ => by rw [hrow]; exact c2, by rw [hrow]; exact hs⟩
        exact ok_some (ok_out (by show (1 : Nat) ≠ 0; decide) ⟨rfl, hN, ho⟩)
  · rw [u2_at]; omega
  · show (u2 M q 1 (min (m : Int) 13) q 1).toNat < 5000
    rw [u2_at]; omega
  · rintro ⟨t, N⟩ ⟨h0, h⟩
    exact ok_ck h0 (ok_some h)
theorem ok_become {E : Ev} {M : Mm} {q : Nat} {x : Int} (hq : isNa E q) (h0 : 0 ≤ x) (h1 : x ≤ 9223372036854775807) : Ok (f_Na_become E M q x) (fun N => NatAt N q x ∧ Off (nn q) M N) := by
  unfold f_Na_become
  refine ok_ck hq (ok_bm (L_Na_become_10 E q (I := fun N r i => ∃ k : Nat, i = (k : Int) ∧ k ≤ 13 ∧ N q 1 = (k : Int) ∧ Lr (N (q + 1)) k ∧ 0 ≤ r ∧ Sg (N (q + 1)) k + r * pB k = x ∧ (0 < k → r = 0 → N (q + 1) (k - 1) ≠ 0) ∧ Off (nn q) M N) (μ := fun _ _ i => 13 - i.toNat) (Q := fun r => r.1 = 1 ∧ NatAt r.2.2.2 q x ∧ Off (nn q) M r.2.2.2) ?_ FU _ x 0 ⟨0, rfl, by omega, by rw [u2_at]; rfl, fun i hi => absurd hi (Nat.not_lt_zero i), h0, by show (0 : Int) + x * 1 = x; omega, fun h => absurd h (Nat.lt_irrefl 0), Off.refl.u2 (Or.inl rfl)⟩ (by show 13 - _ < 5000; omega)) ?_)
  · rintro N r i ⟨k, rfl, hk, hs, hl, hr, hS, ht, ho⟩
    have hrx : r * pB k ≤ x := by have := hl.lo; omega
    have hrle : r ≤ x := by
      have := Int.mul_le_mul_of_nonneg_left (show (1 : Int) ≤ pB k by have := pB_pos k; omega) hr
      omega
    have done : r = 0 → NatAt N q x := fun e => ⟨k, hs, hk, hl, fun hk0 => ht hk0 e, by rw [e] at hS; omega⟩
    unfold Na_become_10b
    refine ok_ck hq (ok_ck (rgI_nat (by omega)) (ok_if (fun c => ?_) (fun c => ?_)))
    · have e : r = 0 := by
        rcases Int.lt_or_le 0 r with q1 | q1
        · have h3 := Int.mul_le_mul_of_nonneg_right (show 1 ≤ r by omega) (Int.le_of_lt (pB_pos k))
          have h4 := pB_le (show 3 ≤ k by omega)
          have h5 : (1073741824 * 1073741824 * 1073741824 : Int) ≤ pB 3 := by decide
          omega
        · omega
      exact ok_some (ok_out (by show (1 : Nat) ≠ 0; decide) ⟨rfl, done e, ho⟩)
    · refine ok_ck ⟨by omega, by omega⟩ (ok_if (fun c2 => ?_) (fun c2 => ?_))
      · exact ok_some (ok_out (by show (1 : Nat) ≠ 0; decide) ⟨rfl, done (by omega), ho⟩)
      · refine ok_ck ⟨by omega, by omega, by omega⟩ (ok_nb (ok_some (ok_go rfl ⟨⟨k + 1, by show (k : Int) + 1 = _; omega, by omega, ?_, ?_, ?_, ?_, ?_, (ho.u2 (Or.inr rfl)).u2 (Or.inl rfl)⟩, ?_⟩)))
        · show u2 (u2 N (q + 1) (k : Int).toNat (r % 1073741824)) q 1 (u2 N (q + 1) (k : Int).toNat (r % 1073741824) q 1 + 1) q 1 = _
          rw [u2_at, u2_row (by omega), hs]; omega
        · show Lr (u2 (u2 N (q + 1) (k : Int).toNat (r % 1073741824)) q 1 _ (q + 1)) (k + 1)
          rw [u2_row (by omega), u2_rowself, Int.toNat_natCast]
          exact Lr_up hl (by omega) (by omega)
        · show 0 ≤ r / 1073741824
          omega
        · show Sg (u2 (u2 N (q + 1) (k : Int).toNat (r % 1073741824)) q 1 _ (q + 1)) (k + 1) + r / 1073741824 * pB (k + 1) = x
          rw [u2_row (by omega), u2_rowself, Int.toNat_natCast, Sg_up, pB_succ, ← hS]
          have : r = r / 1073741824 * 1073741824 + r % 1073741824 := by omega
          generalize r / 1073741824 = a at *
          generalize r % 1073741824 = b at *
          subst this
          grind
        · intro _ hz
          have hz : r / 1073741824 = 0 := hz
          show u2 (u2 N (q + 1) (k : Int).toNat (r % 1073741824)) q 1 _ (q + 1) (k + 1 - 1) ≠ 0
          rw [u2_row (by omega), Int.toNat_natCast, Nat.add_sub_cancel, u2_at]
          omega
        · show 13 - ((k : Int) + 1).toNat < 13 - (k : Int).toNat
          omega
  · rintro ⟨t, a, b, N⟩ ⟨h0, h⟩
    exact ok_ck h0 (ok_some h)
theorem ok_copy {E : Ev} {M : Mm} {q p s : Nat} {v : Int} (hq : isNa E q) (hp : isNa E p) (hap : ap q p) (h : NatS M p s v) : Ok (f_Na_copyFrom E M q p) (fun N => NatS N q s v ∧ Off (nn q) M N) := by
  obtain ⟨h1, h2, h3, h4, h5⟩ := h
  unfold f_Na_copyFrom
  rw [h1]
  refine ok_ck hq (ok_ck hp (ok_ck ⟨by omega, by omega, by omega, by omega, by omega, by omega, by omega⟩ (ok_nb (ok_some ?_))))
  have hpq : p ≠ q + 1 := fun e => hap.n0 (Or.inr e)
  have e0 : ∀ i, i < s → va_cpy (M (p + 1)) (M (q + 1)) 0 0 (s : Int).toNat i = M (p + 1) i := fun i hi => by
    unfold va_cpy
    rw [if_pos ⟨Nat.zero_le _, by rw [Int.toNat_natCast]; omega⟩]
    congr 1
    omega
  have hrow : u2 (uA M (q + 1) (va_cpy (M (p + 1)) (M (q + 1)) 0 0 (s : Int).toNat)) q 1 (uA M (q + 1) (va_cpy (M (p + 1)) (M (q + 1)) 0 0 (s : Int).toNat) p 1) (q + 1) = va_cpy (M (p + 1)) (M (q + 1)) 0 0 (s : Int).toNat := by rw [u2_row (by omega), uA_at]
  refine ⟨⟨?_, h2, ?_, ?_, ?_⟩, (Off.refl.uA (Or.inr rfl)).u2 (Or.inl rfl)⟩
  · rw [u2_at, uA_row hpq, h1]
  · rw [hrow]
    exact fun i hi => by rw [e0 i hi]; exact h3 i hi
  · intro hs
    rw [hrow, e0 _ (by omega)]
    exact h4 hs
  · rw [hrow, Sg_congr e0]
    exact h5
