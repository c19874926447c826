/-! THE LAW'S COUNCIL -/
theorem next_ok {E : Ev} {M : Mm} {p : Nat} {k : Int} (hp : isIA E p) (h1 : (tE E p).2 = 1) (h0 : 0 < k) (h2 : k ≤ 2147483647) : Ok (f_La_next E M p k) (fun r => (0 ≤ r.1 ∧ r.1 < k) ∧ Off (fun i => i = p) M r.2) := by
  unfold f_La_next
  exact ok_ck hp (ok_ck ⟨by omega, by rw [h1]; decide, by omega⟩ (ok_nb (ok_ck ⟨h0, h2⟩ (ok_some ⟨⟨Int.emod_nonneg _ (by omega), Int.emod_lt_of_pos _ h0⟩, Off.refl.u2 rfl⟩))))
theorem Ring.of {M N : Mm} (h : Ring M) (e : N 1 = M 1) : Ring N := by
  unfold Ring
  rw [e]
  exact h
theorem append_ok {E : Ev} {M : Mm} {x : Int} {n : Nat} (h0 : M 243 0 = (n : Int)) (hn : n < 12) : Ok (f_Cl_append E M x) (fun r => r = ((n : Int), u2 (u2 M 244 n x) 243 0 ((n : Int) + 1))) := by
  unfold f_Cl_append
  rw [h0, Int.toNat_natCast]
  refine ok_ck ⟨by omega, by omega, by omega⟩ (ok_some ?_)
  rw [u2_ne (Or.inl (by decide)), h0]
theorem member_ok {E : Ev} {M : Mm} {x : Int} {n : Nat} (hx0 : 0 ≤ x) (hx1 : x ≤ 1000) (h0 : M 243 0 = (n : Int)) (hn : n < 12) (hR : Ring M) : Ok (f_B_member E M x) (fun r => r.1 = (n : Int) ∧ Off (fun i => i = 1 ∨ i = 243 ∨ i = 244 ∨ i = 246 ∨ i = 247 ∨ i = 248) M r.2 ∧ Ring r.2 ∧ r.2 243 0 = (n : Int) + 1 ∧ r.2 243 1 = M 243 1 ∧ r.2 244 n = x ∧ ∀ k, k ≠ n → r.2 244 k = M 244 k) := by
  unfold f_B_member
  rw [needRange_ok (by omega) hx0 hx1 (by omega), needRoom_ok (by omega) (by omega) (by omega)]
  refine ok_sb (ok_sb (ok_bm (append_ok h0 hn) ?_))
  rintro a rfl
  refine ok_bm (remember_ok 11 (n : Int) 0 (hR.of (by rw [u2_row (by decide), u2_row (by decide)]))) ?_
  rintro N ⟨a1, a2, -⟩
  have e3 : N 243 = u2 (u2 M 244 n x) 243 0 ((n : Int) + 1) 243 := a1 243 (by decide)
  have e4 : N 244 = u2 (u2 M 244 n x) 243 0 ((n : Int) + 1) 244 := a1 244 (by decide)
  refine ok_some ⟨rfl, ?_, a2, ?_, ?_, ?_, fun k hk => ?_⟩
  · exact ((Off.refl.u2 (Or.inr (Or.inr (Or.inl rfl)))).u2 (Or.inr (Or.inl rfl))).trans (a1.mono fun i hi => by omega)
  · show N 243 0 = _
    rw [e3, u2_at]
  · show N 243 1 = _
    rw [e3, u2_ne (Or.inr (by decide)), u2_ne (Or.inl (by decide))]
  · show N 244 n = _
    rw [e4, u2_ne (Or.inl (by decide)), u2_at]
  · show N 244 k = _
    rw [e4, u2_ne (Or.inl (by decide)), u2_ne (Or.inr hk)]
theorem setQuota_ok {E : Ev} {M : Mm} {x : Int} (hx0 : 1 ≤ x) (hx1 : x ≤ 12000) (hR : Ring M) : Ok (f_B_setQuota E M x) (fun r => Off (fun i => i = 1 ∨ i = 243 ∨ i = 246 ∨ i = 247 ∨ i = 248) M r.2 ∧ Ring r.2 ∧ r.2 243 0 = M 243 0 ∧ r.2 243 1 = x) := by
  unfold f_B_setQuota
  rw [needRange_ok (by omega) hx0 hx1 (by omega)]
  refine ok_sb (ok_bm (remember_ok 12 0 (M 243 1) (hR.of (by rw [u2_row (by decide)]))) ?_)
  rintro N ⟨a1, a2, -⟩
  have e3 : N 243 = u2 M 243 1 x 243 := a1 243 (by decide)
  refine ok_some ⟨?_, a2, ?_, ?_⟩
  · exact (Off.refl.u2 (Or.inr (Or.inl rfl))).trans (a1.mono fun i hi => by omega)
  · show N 243 0 = _
    rw [e3, u2_ne (Or.inr (by decide))]
  · show N 243 1 = _
    rw [e3, u2_at]
theorem wS_none (w : Nat → Int) (n : Nat) : wS w 0 n = 0 := by
  unfold wS
  rw [sN_congr (g := fun _ => 0) (fun i _ => by rw [show bt 0 i = 0 from bt_lt (Nat.two_pow_pos i)]; show (0 : Int) * _ = 0; omega), sN_zero]
theorem wS_all (w : Nat → Int) : ∀ n, wS w (2 ^ n - 1) n = sN w n
  | 0 => rfl
  | n + 1 => by
    have hp := Nat.two_pow_pos n
    have e : 2 ^ (n + 1) - 1 = 2 ^ n + (2 ^ n - 1) := by rw [Nat.pow_succ]; omega
    rw [e, wS_hi w (by omega), wS_all w n, sN_succ]
theorem CS.sums {M N : Mm} {n : Nat} {w : Nat → Int} {q : Int} (h : CS M n w q) (ho : Off (fun i => i = 245) M N) (hs : sums N w n) : CS N n w q :=
  ⟨by rw [ho _ (by decide)]; exact h.1, by rw [ho _ (by decide)]; exact h.2.1, fun k hk => by rw [ho _ (by decide)]; exact h.2.2.1 k hk, by rw [hs 0 (Nat.two_pow_pos n), wS_none]⟩
theorem swings_ok {E : Ev} {M : Mm} {n m : Nat} {w : Nat → Int} {q : Int} (hn : n ≤ 12) (hm : m < n) (h : CS M n w q) (hq : rgI q) (hw : ∀ k, k < n → 0 ≤ w k ∧ w k ≤ 1000) : Ok (f_B_swings E M (m : Int)) (fun r => r.1 = swN w q n m ∧ Off (fun i => i = 245) M r.2 ∧ CS r.2 n w q) := by
  unfold f_B_swings
  rw [h.1, needIndex_ok (by omega) (by omega) (by omega)]
  refine ok_sb (ok_bm (ok_findSums hn h) ?_)
  rintro N ⟨ho, hs⟩
  have h2 := h.sums ho hs
  refine ok_bm (ok_setsSwung hn hm h2.1 h2.2.1 (h2.2.2.1 m hm) hs hq hw) ?_
  rintro r rfl
  exact ok_some ⟨rfl, ho, h2⟩
theorem ordersTurned_ok {E : Ev} {M : Mm} {n m : Nat} {w : Nat → Int} {q : Int} (hn : n ≤ 12) (hm : m < n) (h : CS M n w q) (hq : rgI q) (hw : ∀ k, k < n → 0 ≤ w k ∧ w k ≤ 1000) : Ok (f_B_ordersTurned E M (m : Int)) (fun r => r.1 = otN w q n m ∧ Off (fun i => i = 245) M r.2 ∧ CS r.2 n w q) := by
  unfold f_B_ordersTurned
  rw [h.1, needIndex_ok (by omega) (by omega) (by omega)]
  refine ok_sb (ok_bm (ok_findSums hn h) ?_)
  rintro N ⟨ho, hs⟩
  have h2 := h.sums ho hs
  refine ok_bm (ok_orders hn hm h2.1 h2.2.1 (h2.2.2.1 m hm) hs hq hw) ?_
  rintro r rfl
  exact ok_some ⟨rfl, ho, h2⟩
/-- the law's own sum of a set, and its own count of the sets that a member swings -/
theorem L136_ok {E : Ev} {M : Mm} {n S q4 : Nat} {x3 x5 x7 x9 x11 x12 x13 : Int} {w : Nat → Int} (hL : Lay E) (hq4 : isIA E q4) (hl : (tE E q4).2 = n) (hn : n ≤ 12) (hw : ∀ k, k < n → M q4 k = w k) (hS : S < 2 ^ n) : Ok (l_La_council_136 (n : Int) x3 q4 x5 x7 x9 x11 x12 x13 (S : Int) 5000 E M 0 0) (fun r => r.1 = 1 ∧ r.2.1 = wS w S n ∧ r.2.2.2 = (E, M)) := by
  have hP := pow12 hn
  refine L_La_council_136 (n : Int) x3 q4 x5 x7 x9 x11 x12 x13 (S : Int) (I := fun F N x15 x16 => (F, N) = (E, M) ∧ ∃ k : Nat, x16 = (k : Int) ∧ k ≤ n ∧ x15 = wS w S k) (μ := fun _ _ _ x => n - x.toNat) (Q := fun r => r.1 = 1 ∧ r.2.1 = wS w S n ∧ r.2.2.2 = (E, M)) ?_ 5000 E M 0 0 ⟨rfl, 0, rfl, Nat.zero_le _, rfl⟩ (by show n - _ < 5000; omega)
  rintro F N x15 x16 ⟨e, k, rfl, hk, hx⟩
  cases e
  unfold La_council_136b
  refine ok_ck hL (ok_ck hq4 (ok_ck (rgI_nat (by omega)) (ok_ck (rgI_nat (by omega)) (ok_if (fun c => ?_) (fun c => ?_)))))
  · have e : k = n := by omega
    rw [e] at hx
    exact ok_some (ok_out (by show (1 : Nat) ≠ 0; decide) ⟨rfl, hx, rfl⟩)
  · rw [Int.toNat_natCast, bt_int, hw k (by omega), hl]
    refine ok_ck (rgI_nat (by omega)) (ok_ck ⟨by omega, by omega⟩ (ok_ck ⟨by omega, by omega, by omega⟩ (ok_nb (ok_some (ok_go rfl ⟨⟨rfl, k + 1, by show (k : Int) + 1 = _; omega, by omega, ?_⟩, by show n - ((k : Int) + 1).toNat < n - (k : Int).toNat; omega⟩)))))
    show x15 + _ = _
    rw [hx]
    rfl
theorem L122_ok {E : Ev} {M : Mm} {n m q4 : Nat} {x3 x5 q x9 x11 : Int} {w : Nat → Int} (hL : Lay E) (hq4 : isIA E q4) (hl : (tE E q4).2 = n) (hn : n ≤ 12) (hm : m < n) (hw : ∀ k, k < n → M q4 k = w k) (hb : ∀ k, k < n → 0 ≤ w k ∧ w k ≤ 1000) (hq : rgI q) : Ok (l_La_council_122 (n : Int) x3 q4 x5 q x9 x11 (m : Int) 5000 E M 0 0) (fun r => r.1 = 1 ∧ r.2.1 = swN w q n m ∧ r.2.2.2 = (E, M)) := by
  have hP := pow12 hn
  have hwm := hb m hm
  refine L_La_council_122 (n : Int) x3 q4 x5 q x9 x11 (m : Int) (I := fun F N x13 x14 => (F, N) = (E, M) ∧ ∃ j : Nat, x14 = (j : Int) ∧ j ≤ 2 ^ n ∧ x13 = sN (fun S => if swg w q n S m then 1 else 0) j) (μ := fun _ _ _ x => 2 ^ n - x.toNat) (Q := fun r => r.1 = 1 ∧ r.2.1 = swN w q n m ∧ r.2.2.2 = (E, M)) ?_ 5000 E M 0 0 ⟨rfl, 0, rfl, Nat.zero_le _, rfl⟩ (by show 2 ^ n - _ < 5000; omega)
  rintro F N x13 x14 ⟨e, j, rfl, hj, hx⟩
  cases e
  unfold La_council_122b
  rw [Int.toNat_natCast, p2]
  refine ok_ck hL (ok_ck hq4 (ok_ck ⟨by omega, by omega⟩ (ok_ck (rgI_nat (by omega)) (ok_ck (rgI_nat (by omega)) (ok_if (fun c => ?_) (fun c => ?_))))))
  · have e : j = 2 ^ n := by omega
    rw [e] at hx
    exact ok_some (ok_out (by show (1 : Nat) ≠ 0; decide) ⟨rfl, hx, rfl⟩)
  · have hjl : j < 2 ^ n := by omega
    have hbs := wS_bounds j hb
    refine ok_bm (L136_ok hL hq4 hl hn hw hjl) ?_
    rintro ⟨t, y, z, F, N⟩ ⟨g1, g2, g3⟩
    cases g3
    have g1 : t = 1 := g1
    have g2 : y = wS w j n := g2
    subst g1 g2
    have fin : ∀ d : Int, d = (if swg w q n j m then 1 else 0) → Ok (some (0, x13 + d, (j : Int) + 1, E, M) : Option (Nat × Int × Int × Ev × Mm)) (fun r => (r.1 = 0 → ((r.2.2.2.1, r.2.2.2.2) = (E, M) ∧ ∃ j : Nat, r.2.2.1 = (j : Int) ∧ j ≤ 2 ^ n ∧ r.2.1 = sN (fun S => if swg w q n S m then 1 else 0) j) ∧ 2 ^ n - r.2.2.1.toNat < 2 ^ n - (j : Int).toNat) ∧ (r.1 ≠ 0 → r.1 = 1 ∧ r.2.1 = swN w q n m ∧ r.2.2.2 = (E, M))) := fun d hd => by
      refine ok_some (ok_go rfl ⟨⟨rfl, j + 1, by show (j : Int) + 1 = _; omega, by omega, ?_⟩, by show 2 ^ n - ((j : Int) + 1).toNat < 2 ^ n - (j : Int).toNat; omega⟩)
      show x13 + d = _
      rw [sN_succ, ← hx, hd]
    refine ok_ck (gw_self E) (ok_ck hL (ok_ck rfl ?_))
    show Ok (ck (shI (m : Int)) _) _
    rw [Int.toNat_natCast, bt_int, hw m hm, hl]
    refine ok_ck ⟨by omega, by omega⟩ (ok_if (fun c1 => ?_) (fun c1 => fin 0 ?_))
    · refine ok_ck ⟨by omega, by omega⟩ (ok_ck hq (ok_if (fun c2 => fin 0 ?_) (fun c2 => ?_)))
      · rw [if_neg (fun g => by have := g.1; omega)]
      · refine ok_ck ⟨by omega, by omega, by omega⟩ (ok_ck ⟨by omega, by omega⟩ (ok_if (fun c3 => fin 0 ?_) (fun c3 => fin 1 ?_)))
        · rw [if_neg (fun g => by have := g.2.1; omega)]
        · rw [if_pos ⟨by omega, by omega, by omega⟩]
    · rw [if_neg (fun g => by have := g.2.2; omega)]
