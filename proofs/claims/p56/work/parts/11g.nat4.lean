/-! NATURALS: stored, loaded, multiples taken off -/
theorem ok_store {E : Ev} {M : Mm} {q p o n s : Nat} {v : Int} (hq : isNa E q) (hp : isIA E p) (hn : (tE E p).2 = n) (ho : o + 13 ≤ n) (hn2 : n ≤ 100000) (h0 : p ≠ q) (h1 : p ≠ q + 1) (h : NatS M q s v) : Ok (f_Na_store E M q p (o : Int)) (fun N => Off (fun i => i = p) M N ∧ (∀ i, i < 13 → N p (o + i) = lim M q s i) ∧ ∀ i, (i < o ∨ o + 13 ≤ i) → N p i = M p i) := by
  have hs := h.2.1
  unfold f_Na_store
  refine ok_ck hq (ok_ck hp (ok_bm (L_Na_store_2 E q p (o : Int) (I := fun N i => ∃ k : Nat, i = (k : Int) ∧ k ≤ 13 ∧ Off (fun i => i = p) M N ∧ (∀ i, i < k → N p (o + i) = lim M q s i) ∧ ∀ i, (i < o ∨ o + k ≤ i) → N p i = M p i) (μ := fun _ i => 13 - i.toNat) (Q := fun r => r.1 = 1 ∧ Off (fun i => i = p) M r.2.2 ∧ (∀ i, i < 13 → r.2.2 p (o + i) = lim M q s i) ∧ ∀ i, (i < o ∨ o + 13 ≤ i) → r.2.2 p i = M p i) ?_ FU M 0 ⟨0, rfl, by omega, Off.refl, fun i hi => absurd hi (Nat.not_lt_zero i), fun _ _ => rfl⟩ (by show 13 - _ < 5000; omega)) ?_))
  · rintro N i ⟨k, rfl, hk, hO, h2, h3⟩
    have e1 : N q 1 = (s : Int) := by rw [hO q (fun e => h0 e.symm), h.1]
    have e2 : N (q + 1) = M (q + 1) := hO _ (fun e => h1 e.symm)
    unfold Na_store_2b
    refine ok_ck hq (ok_ck hp (ok_ck (rgI_nat (by omega)) (ok_if (fun c => ?_) (fun c => ?_))))
    · have e : k = 13 := by omega
      subst e
      exact ok_some (ok_out (by show (1 : Nat) ≠ 0; decide) ⟨rfl, hO, h2, h3⟩)
    · rw [limbAt_eq hq e1 hs (by omega), e2, show ((o : Int) + (k : Int)).toNat = o + k by omega]
      refine ok_sb (ok_ck ⟨by omega, by omega, by omega⟩ (ok_some (ok_go rfl ⟨⟨k + 1, by show (k : Int) + 1 = _; omega, by omega, hO.u2 rfl, fun i hi => ?_, fun i hi => ?_⟩, by show 13 - ((k : Int) + 1).toNat < 13 - (k : Int).toNat; omega⟩)))
      · show u2 N p (o + k) (if k < s then M (q + 1) k else 0) p (o + i) = _
        by_cases e : i = k
        · rw [e, u2_at]; rfl
        · rw [u2_ne (Or.inr (by omega))]; exact h2 i (by omega)
      · show u2 N p (o + k) _ p i = _
        rw [u2_ne (Or.inr (by omega))]
        exact h3 i (by omega)
  · rintro ⟨t, i, N⟩ ⟨g0, g⟩
    exact ok_ck g0 (ok_some g)
theorem ok_load {E : Ev} {M : Mm} {q p o n : Nat} (hq : isNa E q) (hp : isIA E p) (hn : (tE E p).2 = n) (ho : o + 13 ≤ n) (hn2 : n ≤ 100000) (hl : Lr (fun i => M p (o + i)) 13) : Ok (f_Na_load E M q p (o : Int)) (fun N => NatAt N q (Sg (fun i => M p (o + i)) 13) ∧ Off (nn q) M N) := by
  unfold f_Na_load
  have e0 : ∀ i, i < 13 → va_cpy (M p) (M (q + 1)) (o : Int).toNat 0 13 i = M p (o + i) := fun i hi => by
    unfold va_cpy
    rw [if_pos ⟨Nat.zero_le _, by omega⟩, Int.toNat_natCast, Nat.sub_zero]
  refine ok_ck hq (ok_ck hp (ok_ck ⟨by omega, by omega, by omega, by omega, by omega, by omega, by omega⟩ (ok_bm (ok_trim' (m := 13) (M0 := M) (v := Sg (fun i => M p (o + i)) 13) hq (Nat.le_refl _) ?_ ?_ (Off.refl.uA (Or.inr rfl))) fun K hK => ok_some hK)))
  · rw [uA_at]
    exact fun i hi => by rw [e0 i hi]; exact hl i hi
  · rw [uA_at]
    exact Sg_congr e0
set_option maxHeartbeats 1000000 in
theorem ok_subMul {E : Ev} {M : Mm} {q p P n : Nat} {f : Int} (hq : isNa E q) (hp : isNa E p) (hap : ap q p) (hn : M p 1 = (n : Int)) (hv : Lr (M (p + 1)) n) (hu : Lr (M (q + 1)) 13) (hP : P + n ≤ 12) (hf0 : -1 ≤ f) (hf1 : f ≤ 1073741823) : Ok (f_Na_subtractMultiple E M q p (P : Int) f) (fun r => Off (fun i => i = q + 1) M r.2 ∧ Lr (r.2 (q + 1)) 13 ∧ (∀ i, (i < P ∨ P + n < i) → r.2 (q + 1) i = M (q + 1) i) ∧ -1073741824 ≤ r.1 ∧ r.1 ≤ 1 ∧ Sg (fun i => r.2 (q + 1) (P + i)) (n + 1) + r.1 * pB (n + 1) = Sg (fun i => M (q + 1) (P + i)) (n + 1) - f * Sg (M (p + 1)) n) := by
  obtain ⟨-, a1, a2, a3⟩ := hap.q1
  unfold f_Na_subtractMultiple
  refine ok_ck hq (ok_ck hp (ok_bm (L_Na_subtractMultiple_6 E q p (P : Int) f (I := fun N c i => ∃ k : Nat, i = (k : Int) ∧ k ≤ n + 1 ∧ Off (fun i => i = q + 1) M N ∧ Lr (N (q + 1)) 13 ∧ (∀ i, (i < P ∨ P + k ≤ i) → N (q + 1) i = M (q + 1) i) ∧ -1073741824 ≤ c ∧ c ≤ 1 ∧ Sg (fun i => N (q + 1) (P + i)) k + c * pB k = Sg (fun i => M (q + 1) (P + i)) k - f * Sg (fun i => if i < n then M (p + 1) i else 0) k) (μ := fun _ _ i => n + 1 - i.toNat) (Q := fun r => r.1 = 1 ∧ Off (fun i => i = q + 1) M r.2.2.2 ∧ Lr (r.2.2.2 (q + 1)) 13 ∧ (∀ i, (i < P ∨ P + n < i) → r.2.2.2 (q + 1) i = M (q + 1) i) ∧ -1073741824 ≤ r.2.1 ∧ r.2.1 ≤ 1 ∧ Sg (fun i => r.2.2.2 (q + 1) (P + i)) (n + 1) + r.2.1 * pB (n + 1) = Sg (fun i => M (q + 1) (P + i)) (n + 1) - f * Sg (M (p + 1)) n) ?_ FU M 0 0 ⟨0, rfl, Nat.zero_le _, Off.refl, hu, fun _ _ => rfl, by omega, by omega, by show (0 : Int) + 0 * 1 = 0 - f * 0; rw [Int.mul_zero]; rfl⟩ (by show n + 1 - _ < 5000; omega)) ?_))
  · rintro N c i ⟨k, rfl, hk, ho, hL, h1, h2, h3, h4⟩
    have e1 : N p 1 = (n : Int) := by rw [ho p a1, hn]
    have e2 : N (p + 1) = M (p + 1) := ho _ a3
    unfold Na_subtractMultiple_6b
    rw [e1]
    refine ok_ck hq (ok_ck hp (ok_ck (rgI_nat (by omega)) (ok_ck (rgI_nat (by omega)) (ok_if (fun d => ?_) (fun d => ?_)))))
    · have e : k = n + 1 := by omega
      subst e
      refine ok_some (ok_out (by show (1 : Nat) ≠ 0; decide) ⟨rfl, ho, hL, fun i hi => h1 i (by omega), h2, h3, ?_⟩)
      have e5 : Sg (fun i => if i < n then M (p + 1) i else 0) (n + 1) = Sg (M (p + 1)) n := by
        rw [Sg_succ, if_neg (Nat.lt_irrefl n), Int.zero_mul, Int.add_zero]
        exact Sg_congr fun i hi => if_pos hi
      rw [e5] at h4
      exact h4
    · rw [show ((P : Int) + (k : Int)).toNat = P + k by omega]
      have gu := hL (P + k) (by omega)
      -- one step
      have step : ∀ y : Int, (if k < n then M (p + 1) k else 0) = y → -1073741823 ≤ f * y → f * y ≤ 1073741823 * 1073741823 → 
          Ok (Na_subtractMultiple_j50 E N q p (P : Int) f (k : Int) (f * y) (N (q + 1) (P + k)) c) (fun r => (r.1 = 0 → (∃ k_1 : Nat, r.2.2.1 = (k_1 : Int) ∧ k_1 ≤ n + 1 ∧ Off (fun i => i = q + 1) M r.2.2.2 ∧ Lr (r.2.2.2 (q + 1)) 13 ∧ (∀ i, (i < P ∨ P + k_1 ≤ i) → r.2.2.2 (q + 1) i = M (q + 1) i) ∧ -1073741824 ≤ r.2.1 ∧ r.2.1 ≤ 1 ∧ Sg (fun i => r.2.2.2 (q + 1) (P + i)) k_1 + r.2.1 * pB k_1 = Sg (fun i => M (q + 1) (P + i)) k_1 - f * Sg (fun i => if i < n then M (p + 1) i else 0) k_1) ∧ n + 1 - r.2.2.1.toNat < n + 1 - (k : Int).toNat) ∧ (r.1 ≠ 0 → r.1 = 1 ∧ Off (fun i => i = q + 1) M r.2.2.2 ∧ Lr (r.2.2.2 (q + 1)) 13 ∧ (∀ i, (i < P ∨ P + n < i) → r.2.2.2 (q + 1) i = M (q + 1) i) ∧ -1073741824 ≤ r.2.1 ∧ r.2.1 ≤ 1 ∧ Sg (fun i => r.2.2.2 (q + 1) (P + i)) (n + 1) + r.2.1 * pB (n + 1) = Sg (fun i => M (q + 1) (P + i)) (n + 1) - f * Sg (M (p + 1)) n)) := by
        intro y hy hfy0 hfy1
        unfold Na_subtractMultiple_j50
        rw [show ((P : Int) + (k : Int)).toNat = P + k by omega]
        have hMk : N (q + 1) (P + k) = M (q + 1) (P + k) := h1 _ (Or.inr (Nat.le_refl _))
        obtain ⟨z, hz⟩ : ∃ z, z = N (q + 1) (P + k) := ⟨_, rfl⟩
        rw [← hz] at gu ⊢
        obtain ⟨w, hw⟩ : ∃ w, w = c + (z - f * y) := ⟨_, rfl⟩
        rw [← hw]
        refine ok_ck hq (ok_ck hp (ok_nb (ok_ck ⟨by omega, by omega, by omega⟩ (ok_ck ⟨by omega, by omega⟩ (ok_nb (ok_some (ok_go rfl ⟨⟨k + 1, by show (k : Int) + 1 = _; omega, by omega, ho.u2 rfl, ?_, fun i hi => ?_, ?_, ?_, ?_⟩, by show n + 1 - ((k : Int) + 1).toNat < n + 1 - (k : Int).toNat; omega⟩)))))))
        · show Lr (u2 N (q + 1) (P + k) _ (q + 1)) 13
          rw [u2_rowself]
          exact Lr_upd hL (by omega) (by omega)
        · show u2 N (q + 1) (P + k) _ (q + 1) i = _
          rw [u2_ne (Or.inr (by omega))]
          exact h1 i (by omega)
        · show -1073741824 ≤ w / 1073741824
          omega
        · show w / 1073741824 ≤ 1
          omega
        · show Sg (fun i => u2 N (q + 1) (P + k) (w % 1073741824) (q + 1) (P + i)) (k + 1) + w / 1073741824 * pB (k + 1) = Sg (fun i => M (q + 1) (P + i)) (k + 1) - f * Sg (fun i => if i < n then M (p + 1) i else 0) (k + 1)
          have e9 : Sg (fun i => u2 N (q + 1) (P + k) (w % 1073741824) (q + 1) (P + i)) k = Sg (fun i => N (q + 1) (P + i)) k := Sg_congr fun i hi => u2_ne (Or.inr (by omega))
          rw [Sg_succ, Sg_succ, Sg_succ, e9, u2_at, pB_succ, hy, ← hMk, ← hz]
          have hd : w = w / 1073741824 * 1073741824 + w % 1073741824 := by omega
          generalize w / 1073741824 = a at *
          generalize w % 1073741824 = b at *
          subst hd
          grind
      refine ok_ck ⟨by omega, by omega, by omega⟩ (ok_ck ⟨by omega, by omega⟩ (ok_if (fun d2 => ?_) (fun d2 => ?_)))
      · have := step 0 (by rw [if_neg (by omega)]) (by rw [Int.mul_zero]; omega) (by rw [Int.mul_zero]; omega)
        rw [Int.mul_zero] at this
        exact this
      · rw [Int.toNat_natCast, e2]
        have gv := hv k (by omega)
        have h5 := Int.mul_le_mul_of_nonneg_right hf1 gv.1
        have h6 := Int.mul_le_mul_of_nonneg_right hf0 gv.1
        refine ok_ck ⟨by omega, by omega, by omega⟩ (ok_ck ⟨by omega, by omega⟩ (step _ (if_pos (by omega)) (by omega) (by omega)))
  · rintro ⟨t, c, i, N⟩ ⟨g0, g⟩
    exact ok_ck g0 (ok_some g)
