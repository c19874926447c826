/-! SEATS BY REMAINDERS, WHOLE -/
theorem L43_ok {E : Ev} {M : Mm} {p m K : Nat} {T : Int} (hI : isDi E p) (h : DT M p m) (hm : 1 ≤ m) (hK : K ≤ 60) (hd : ∀ a b, a < m → b < m → M (p + 1) a = M (p + 1) b → a = b) (h0 : ∀ i, i < m → M (p + 4) i = 0) (h1 : M p 1 = 0) (hT : T = sN (M (p + 2)) m) (hT0 : 0 < T) : Ok (l_Di_distributeByRemainders_43 E p (K : Int) T FU M 0 0) (fun a => a.1 = 1 ∧ ∃ t : Nat, a.2.1 = (t : Int) ∧ (t : Int) = sN (qI (M (p + 2)) K T) m ∧ t ≤ K ∧ Off (fun c => c = p ∨ c = p + 4 ∨ c = p + 5 ∨ c = p + 6) M a.2.2.2 ∧ DT a.2.2.2 p m ∧ a.2.2.2 p 1 = (t : Int) ∧ sN (a.2.2.2 (p + 4)) m = (t : Int) ∧ (∀ k, k < m → a.2.2.2 (p + 4) k = qI (M (p + 2)) K T k ∧ a.2.2.2 (p + 5) k = rI (M (p + 2)) K T k) ∧ OC a.2.2.2 p m t) := by
  have h8 := h.2.1
  have hv : ∀ i, i < m → 1 ≤ M (p + 2) i ∧ M (p + 2) i ≤ 80000000 := fun i hi => (h.2.2 i hi).2.1
  have hq0 : ∀ i, i < m → 0 ≤ qI (M (p + 2)) K T i := fun i hi => Int.ediv_nonneg (Int.mul_nonneg (by have := hv i hi; omega) (by omega)) (by omega)
  have hpart : ∀ k, k ≤ m → sN (M (p + 2)) k ≤ T := fun k hk => by
    obtain ⟨d, rfl⟩ := Nat.exists_eq_add_of_le hk
    rw [hT, sN_split]
    have := sN_nonneg (f := fun i => M (p + 2) (k + i)) (n := d) (fun i hi => by have := hv (k + i) (by omega); show 0 ≤ M (p + 2) (k + i); omega)
    omega
  refine L_Di_distributeByRemainders_43 E p (K : Int) T (I := fun N x4 x5 => ∃ i t : Nat, x5 = (i : Int) ∧ i ≤ m ∧ x4 = (t : Int) ∧ (t : Int) = sN (qI (M (p + 2)) K T) i ∧ Off (fun c => c = p ∨ c = p + 4 ∨ c = p + 5 ∨ c = p + 6) M N ∧ DT N p m ∧ N p 1 = (t : Int) ∧ sN (N (p + 4)) m = (t : Int) ∧ (∀ k, k < i → N (p + 4) k = qI (M (p + 2)) K T k ∧ N (p + 5) k = rI (M (p + 2)) K T k) ∧ (∀ k, i ≤ k → k < m → N (p + 4) k = 0) ∧ OC N p m t) (μ := fun _ _ x => m - x.toNat) (Q := fun a => a.1 = 1 ∧ ∃ t : Nat, a.2.1 = (t : Int) ∧ (t : Int) = sN (qI (M (p + 2)) K T) m ∧ t ≤ K ∧ Off (fun c => c = p ∨ c = p + 4 ∨ c = p + 5 ∨ c = p + 6) M a.2.2.2 ∧ DT a.2.2.2 p m ∧ a.2.2.2 p 1 = (t : Int) ∧ sN (a.2.2.2 (p + 4)) m = (t : Int) ∧ (∀ k, k < m → a.2.2.2 (p + 4) k = qI (M (p + 2)) K T k ∧ a.2.2.2 (p + 5) k = rI (M (p + 2)) K T k) ∧ OC a.2.2.2 p m t) ?_ FU M 0 0 ⟨0, 0, rfl, Nat.zero_le _, rfl, rfl, Off.refl, h, h1, ?_, fun k hk => absurd hk (Nat.not_lt_zero k), fun k _ hk => h0 k hk, fun i hi => (h0 i hi).symm⟩ (by show m - _ < 5000; omega)
  · rintro N x4 x5 ⟨i, t, rfl, hi, rfl, ht, ho, hTN, hc1, hs, hq, hz, hO⟩
    have htK : (t : Int) ≤ K := by rw [ht]; exact q_le hT0 (by omega) (hpart i hi)
    unfold Di_distributeByRemainders_43b
    rw [hTN.1]
    refine ok_ck hI (ok_ck ⟨by omega, by omega⟩ (ok_ck ⟨by omega, by omega⟩ (ok_if (fun c => ?_) (fun c => ?_))))
    · have e : i = m := by omega
      subst e
      exact ok_some (ok_out (by show (1 : Nat) ≠ 0; decide) ⟨rfl, t, rfl, ht, by omega, ho, hTN, hc1, hs, hq, hO⟩)
    · have him : i < m := by omega
      have e2 : N (p + 2) = M (p + 2) := ho _ (by omega)
      have hvi := hv i him
      have hvK : 0 ≤ M (p + 2) i * (K : Int) ∧ M (p + 2) i * (K : Int) ≤ 80000000 * 60 := ⟨Int.mul_nonneg (by omega) (by omega), Int.mul_le_mul hvi.2 (by omega) (by omega) (by decide)⟩
      rw [Int.toNat_natCast, e2]
      have hT9 : T ≤ 640000000 := by
        rw [hT]
        have := sN_le (f := M (p + 2)) (g := fun _ => 80000000) (n := m) (fun k hk => (hv k hk).2)
        have h3 : ∀ k : Nat, sN (fun _ => (80000000 : Int)) k = 80000000 * (k : Int) := fun k => by
          induction k with
          | zero => rfl
          | succ k ih => rw [sN_succ, ih]; omega
        rw [h3] at this
        omega
      obtain ⟨c9, hc9⟩ : ∃ c : Nat, qI (M (p + 2)) K T i = (c : Int) := ⟨(qI (M (p + 2)) K T i).toNat, by have := hq0 i him; omega⟩
      have hnext : sN (qI (M (p + 2)) K T) (i + 1) = ((t + c9 : Nat) : Int) := by rw [sN_succ, ← ht, hc9]; omega
      have hnK : ((t + c9 : Nat) : Int) ≤ K := by rw [← hnext]; exact q_le hT0 (by omega) (hpart (i + 1) him)
      refine ok_ck ⟨by omega, by omega, by omega⟩ (ok_ck ⟨by omega, by omega⟩ (ok_ck ⟨by omega, by omega⟩ (ok_ck ⟨hT0, by omega⟩ (ok_nb (ok_ck ⟨hT0, by omega⟩ (ok_nb ?_))))))
      show Ok ((l_Di_distributeByRemainders_89 E p (K : Int) T (t : Int) (i : Int) (qI (M (p + 2)) K T i) FU (u2 N (p + 5) i (rI (M (p + 2)) K T i)) 0).bind _) _
      rw [hc9]
      have w0 : u2 N (p + 5) i (rI (M (p + 2)) K T i) p = N p := u2_row (by omega)
      have w1 : u2 N (p + 5) i (rI (M (p + 2)) K T i) (p + 1) = N (p + 1) := u2_row (by omega)
      have w2 : u2 N (p + 5) i (rI (M (p + 2)) K T i) (p + 2) = N (p + 2) := u2_row (by omega)
      have w3 : u2 N (p + 5) i (rI (M (p + 2)) K T i) (p + 3) = N (p + 3) := u2_row (by omega)
      have w4 : u2 N (p + 5) i (rI (M (p + 2)) K T i) (p + 4) = N (p + 4) := u2_row (by omega)
      have w6 : u2 N (p + 5) i (rI (M (p + 2)) K T i) (p + 6) = N (p + 6) := u2_row (by omega)
      have e1 : N (p + 1) = M (p + 1) := ho _ (by omega)
      refine ok_bm (L89_ok (t := t) (c := c9) hI (m := m) ?_ him (fun a b ha hb q => hd a b ha hb (by rw [w1, e1] at q; exact q)) (by rw [w0]; exact hc1) (by rw [w4]; exact hs) (by omega) (fun k hk => by rw [w6, w1, w4]; exact hO k hk)) ?_
      · unfold DT
        rw [w0, w1, w2, w3, w4]
        exact hTN
      · rintro ⟨u, y, N2⟩ ⟨g1, g2, g3, g4, g5, g6, g7⟩
        have k1 : u = 1 := g1
        have k2 : Off (fun c => c = p ∨ c = p + 4 ∨ c = p + 6) (u2 N (p + 5) i (rI (M (p + 2)) K T i)) N2 := g2
        have k3 : DT N2 p m := g3
        have k4 : N2 p 1 = ((t + c9 : Nat) : Int) := g4
        have k5 : sN (N2 (p + 4)) m = ((t + c9 : Nat) : Int) := g5
        have k6 : ∀ k, N2 (p + 4) k = if k = i then N (p + 4) i + (c9 : Int) else N (p + 4) k := fun k => by have := g6 k; rw [w4] at this; exact this
        have k7 : OC N2 p m (t + c9) := g7
        have r5 : ∀ k, N2 (p + 5) k = if k = i then rI (M (p + 2)) K T i else N (p + 5) k := fun k => by
          rw [k2 (p + 5) (by omega)]
          by_cases c : k = i
          · rw [if_pos c, c, u2_at]
          · rw [if_neg c, u2_ne (Or.inr c)]
        refine ok_ck k1 (ok_some (ok_go rfl ⟨⟨i + 1, t + c9, by show (i : Int) + 1 = _; omega, by omega, by show (t : Int) + qI (M (p + 2)) K T i = _; rw [hc9]; omega, hnext.symm, ho.trans ((Off.refl.u2 (Or.inr (Or.inr (Or.inl rfl)))).trans (k2.mono fun c hc => by omega)), k3, k4, k5, fun k hk => ?_, fun k hk1 hk2 => ?_, k7⟩, by show m - ((i : Int) + 1).toNat < m - (i : Int).toNat; omega⟩))
        · show N2 (p + 4) k = _ ∧ N2 (p + 5) k = _
          rw [k6 k, r5 k]
          by_cases c : k = i
          · rw [if_pos c, if_pos c, c, hz i (Nat.le_refl i) him, hc9]
            exact ⟨by omega, rfl⟩
          · rw [if_neg c, if_neg c]
            exact hq k (by omega)
        · show N2 (p + 4) k = 0
          rw [k6 k, if_neg (show ¬ k = i by omega)]
          exact hz k (by omega) hk2
  · rw [sN_congr (g := fun _ => 0) h0, sN_zero]
    rfl
/-- after some seats by remainders -/
def RD (M : Mm) (p m : Nat) (v : Nat → Int) (K T : Int) : Prop := (∀ k, k < m → (M (p + 4) k = qI v K T k ∧ M (p + 5) k = rI v K T k) ∨ (M (p + 4) k = qI v K T k + 1 ∧ M (p + 5) k = -1)) ∧ ∀ i j, i < m → j < m → M (p + 4) i = qI v K T i → M (p + 4) j = qI v K T j + 1 → rI v K T i ≤ rI v K T j
theorem L125_ok {E : Ev} {M : Mm} {p m K t : Nat} {v : Nat → Int} {T : Int} (hI : isDi E p) (h : DT M p m) (hm : 1 ≤ m) (hK : K ≤ 60) (hd : ∀ a b, a < m → b < m → M (p + 1) a = M (p + 1) b → a = b) (h1 : M p 1 = (t : Int)) (htK : t ≤ K) (hs : sN (M (p + 4)) m = (t : Int)) (hR : RD M p m v K T) (hO : OC M p m t) (hT0 : 0 < T) (hT9 : T ≤ 640000000) (hleft : (K : Int) < sN (qI v K T) m + (m : Int)) : Ok (l_Di_distributeByRemainders_125 E p (K : Int) FU M (t : Int)) (fun a => a.1 = 1 ∧ Off (fun c => c = p ∨ c = p + 4 ∨ c = p + 5 ∨ c = p + 6) M a.2.2 ∧ DT a.2.2 p m ∧ a.2.2 p 1 = (K : Int) ∧ sN (a.2.2 (p + 4)) m = (K : Int) ∧ RD a.2.2 p m v K T ∧ OC a.2.2 p m K) := by
  have h8 := h.2.1
  refine L_Di_distributeByRemainders_125 E p (K : Int) (I := fun N x => ∃ t : Nat, x = (t : Int) ∧ t ≤ K ∧ Off (fun c => c = p ∨ c = p + 4 ∨ c = p + 5 ∨ c = p + 6) M N ∧ DT N p m ∧ N p 1 = (t : Int) ∧ sN (N (p + 4)) m = (t : Int) ∧ RD N p m v K T ∧ OC N p m t) (μ := fun _ x => K - x.toNat) (Q := fun a => a.1 = 1 ∧ Off (fun c => c = p ∨ c = p + 4 ∨ c = p + 5 ∨ c = p + 6) M a.2.2 ∧ DT a.2.2 p m ∧ a.2.2 p 1 = (K : Int) ∧ sN (a.2.2 (p + 4)) m = (K : Int) ∧ RD a.2.2 p m v K T ∧ OC a.2.2 p m K) ?_ FU M (t : Int) ⟨t, rfl, htK, Off.refl, h, h1, hs, hR, hO⟩ (by show K - _ < 5000; omega)
  rintro N x ⟨t, rfl, ht, ho, hTN, hc1, hsN, hRN, hON⟩
  unfold Di_distributeByRemainders_125b
  refine ok_ck hI (ok_ck ⟨by omega, by omega⟩ (ok_ck ⟨by omega, by omega⟩ (ok_if (fun c => ?_) (fun c => ?_))))
  · have e : t = K := by omega
    subst e
    exact ok_some (ok_out (by show (1 : Nat) ≠ 0; decide) ⟨rfl, ho, hTN, hc1, hsN, hRN, hON⟩)
  · have hrg : ∀ i, i < m → rgJ (N (p + 5) i) := fun i hi => by
      have b := rI_bounds (v := v) (K := (K : Int)) hT0 i
      rcases hRN.1 i hi with ⟨-, q⟩ | ⟨-, q⟩ <;> rw [q] <;> exact ⟨by omega, by omega⟩
    refine ok_bm (gtgr_ok hI hTN hm hrg hc1 (by omega)) ?_
    rintro N2 ⟨i, hi, hbest, o1, o2, o3, o4, o5, o6⟩
    -- i has none yet
    have hfree : N (p + 4) i = qI v K T i ∧ N (p + 5) i = rI v K T i := by
      rcases hRN.1 i hi with q | ⟨-, q⟩
      · exact q
      · exfalso
        have hall : ∀ k, k < m → N (p + 4) k = qI v K T k + 1 := fun k hk => by
          have b := rI_bounds (v := v) (K := (K : Int)) hT0 k
          have := hbest k hk
          rcases hRN.1 k hk with ⟨-, g⟩ | ⟨g, -⟩
          · rw [g, q] at this; omega
          · exact g
        have h3 : ∀ k : Nat, sN (fun _ => (1 : Int)) k = (k : Int) := fun k => by
          induction k with
          | zero => rfl
          | succ k ih => rw [sN_succ, ih]; omega
        have : sN (N (p + 4)) m = sN (qI v K T) m + (m : Int) := by
          rw [sN_congr hall, sN_add, h3]
        omega
    have r1 : N2 (p + 1) = N (p + 1) := o1 _ (by omega)
    have r2 : N2 (p + 2) = N (p + 2) := o1 _ (by omega)
    have r3 : N2 (p + 3) = N (p + 3) := o1 _ (by omega)
    have hp1 : N (p + 1) = M (p + 1) := ho _ (by omega)
    have hs2 : sN (N2 (p + 4)) m = ((t + 1 : Nat) : Int) := by
      rw [sN_at (f := N (p + 4)) (i := i) (c := 1) hi (fun k _ => by rw [o2 k]), hsN]
      omega
    have nn : ∀ k, k < m → 0 ≤ N2 (p + 4) k := fun k hk => by
      rw [o2 k]
      have s1 := (hTN.2.2 k hk).2.2.2.1
      have s2 := (hTN.2.2 i hi).2.2.2.1
      by_cases c : k = i
      · rw [if_pos c]; omega
      · rw [if_neg c]; exact s1
    refine ok_some (ok_go rfl ⟨⟨t + 1, by show (t : Int) + 1 = _; omega, by omega, ho.trans o1, ⟨o3.trans hTN.1, hTN.2.1, fun k hk => ?_⟩, by show N2 p 1 = _; rw [o4]; omega, hs2, ⟨fun k hk => ?_, fun a b ha hb qa qb => ?_⟩, OC_give (fun a b ha hb q => hd a b ha hb (by rw [← hp1]; exact q)) hON hi r1 o2 o5⟩, by show K - ((t : Int) + 1).toNat < K - (t : Int).toNat; omega⟩)
    · obtain ⟨b1, b2, b3, b4⟩ := hTN.2.2 k hk
      refine ⟨by show 0 ≤ N2 (p + 1) k ∧ N2 (p + 1) k < 8; rw [r1]; exact b1, by show 1 ≤ N2 (p + 2) k ∧ N2 (p + 2) k ≤ 80000000; rw [r2]; exact b2, by show rgI (N2 (p + 3) k); rw [r3]; exact b3, nn k hk, ?_⟩
      have := sN_term nn hk
      show N2 (p + 4) k ≤ 100
      omega
    · show (N2 (p + 4) k = _ ∧ N2 (p + 5) k = _) ∨ (N2 (p + 4) k = _ ∧ N2 (p + 5) k = _)
      rw [o2 k, o6 k]
      by_cases c : k = i
      · rw [if_pos c, if_pos c, c]
        exact Or.inr ⟨by rw [hfree.1], rfl⟩
      · rw [if_neg c, if_neg c]
        exact hRN.1 k hk
    · have qa : N2 (p + 4) a = qI v K T a := qa
      have qb : N2 (p + 4) b = qI v K T b + 1 := qb
      rw [o2 a] at qa
      rw [o2 b] at qb
      have ca : ¬ a = i := fun e => by
        rw [if_pos e, hfree.1, e] at qa
        omega
      rw [if_neg ca] at qa
      by_cases cb : b = i
      · rw [cb, ← hfree.2]
        have := hbest a ha
        rcases hRN.1 a ha with ⟨-, g⟩ | ⟨g, -⟩
        · rw [g] at this; exact this
        · omega
      · rw [if_neg cb] at qb
        exact hRN.2 a b ha hb qa qb
/-- what a division gives -/
def Shares (M N : Mm) (p m K : Nat) (r : Int) : Prop := Off (fun c => c = p ∨ c = p + 4 ∨ c = p + 5 ∨ c = p + 6) M N ∧ DT N p m ∧ N p 1 = (K : Int) ∧ sN (N (p + 4)) m = (K : Int) ∧ OC N p m K ∧ (r ≠ 5 → QD N p m r) ∧ (r = 5 → ∀ i, i < m → N (p + 4) i = N (p + 2) i * (K : Int) / sN (N (p + 2)) m ∨ N (p + 4) i = N (p + 2) i * (K : Int) / sN (N (p + 2)) m + 1) ∧ (1 ≤ K → ∀ i j, i < m → j < m → N (p + 2) j < N (p + 2) i → N (p + 4) j ≤ N (p + 4) i)
theorem QD_more {M : Mm} {p m : Nat} {r : Int} (h : DT M p m) (hQ : QD M p m r) : ∀ i j, i < m → j < m → M (p + 2) j < M (p + 2) i → M (p + 4) j ≤ M (p + 4) i := by
  intro i j hi hj hv
  rcases Int.lt_or_le (M (p + 4) i) (M (p + 4) j) with c | c
  · exfalso
    obtain ⟨-, b2, -, b4⟩ := h.2.2 j hj
    obtain ⟨-, a2, -, a4⟩ := h.2.2 i hi
    have h1 := hQ j hj (by omega) i hi
    obtain ⟨d1, d2⟩ := dv_mono (r := r) a4.1 (show M (p + 4) i ≤ M (p + 4) j - 1 by omega)
    obtain ⟨x, hx⟩ : ∃ x, x = dv r (M (p + 4) j - 1) := ⟨_, rfl⟩
    obtain ⟨y, hy⟩ : ∃ y, y = dv r (M (p + 4) i) := ⟨_, rfl⟩
    rw [← hx, ← hy] at h1
    rw [← hy] at d1
    rw [← hx, ← hy] at d2
    have h2 : M (p + 2) j * y ≤ M (p + 2) j * x := Int.mul_le_mul_of_nonneg_left d2 (by omega)
    have h3 : M (p + 2) j * x < M (p + 2) i * x := Int.mul_lt_mul_of_pos_right hv (by omega)
    omega
  · exact c
theorem distribute_ok {E : Ev} {M : Mm} {p m K : Nat} {r : Int} (hI : isDi E p) (h : DT M p m) (hr : rgI r) (hK : K ≤ 60) (hd : ∀ a b, a < m → b < m → M (p + 1) a = M (p + 1) b → a = b) (h0 : ∀ i, i < m → M (p + 4) i = 0) (h1 : M p 1 = 0) : Ok (f_Di_distribute E M p r (K : Int)) (fun N => (m = 0 ∧ N = M) ∨ (1 ≤ m ∧ Shares M N p m K r)) := by
  have h8 := h.2.1
  unfold f_Di_distribute
  rw [h.1]
  refine ok_ck hI (ok_ck ⟨by omega, by omega⟩ (ok_if (fun c => ok_some (Or.inl ⟨by omega, rfl⟩)) (fun c => ok_ck hr (ok_if (fun e5 => ?_) (fun e5 => ?_)))))
  · have hm : 1 ≤ m := by omega
    have hv : ∀ i, i < m → 1 ≤ M (p + 2) i ∧ M (p + 2) i ≤ 80000000 := fun i hi => (h.2.2 i hi).2.1
    have hT0 : 0 < sN (M (p + 2)) m := (sN_pos (fun i hi => by have := hv i hi; omega)).mpr ⟨0, by omega, by have := hv 0 (by omega); omega⟩
    have hT9 : sN (M (p + 2)) m ≤ 640000000 := by
      have := sN_le (f := M (p + 2)) (g := fun _ => 80000000) (n := m) (fun k hk => (hv k hk).2)
      have h3 : ∀ k : Nat, sN (fun _ => (80000000 : Int)) k = 80000000 * (k : Int) := fun k => by
        induction k with
        | zero => rfl
        | succ k ih => rw [sN_succ, ih]; omega
      rw [h3] at this
      omega
    unfold f_Di_distributeByRemainders
    refine ok_bm (R := fun N => Shares M N p m K r) (ok_ck hI (ok_bm (L5_ok hI h) ?_)) (fun N hN => ok_some (Or.inr ⟨hm, hN⟩))
    rintro ⟨u, x, y, N⟩ ⟨g1, g2, g3⟩
    have k1 : u = 1 := g1
    have k2 : x = sN (M (p + 2)) m := g2
    have k3 : N = M := g3
    refine ok_ck k1 (ok_ck ⟨by omega, by omega⟩ (ok_if (fun q => absurd q (by omega)) (fun _ => ?_)))
    rw [k3]
    refine ok_bm (L43_ok hI h hm hK hd h0 h1 k2 (by omega)) ?_
    rintro ⟨u2', x2, y2, N2⟩ ⟨f1, t, f2, f3, f4, f5, f6, f7, f8, f9, f10⟩
    have j1 : u2' = 1 := f1
    have j2 : x2 = (t : Int) := f2
    have j5 : Off (fun c => c = p ∨ c = p + 4 ∨ c = p + 5 ∨ c = p + 6) M N2 := f5
    have j6 : DT N2 p m := f6
    have j7 : N2 p 1 = (t : Int) := f7
    have j8 : sN (N2 (p + 4)) m = (t : Int) := f8
    have j9 : ∀ k, k < m → N2 (p + 4) k = qI (M (p + 2)) K x k ∧ N2 (p + 5) k = rI (M (p + 2)) K x k := f9
    have j10 : OC N2 p m t := f10
    refine ok_ck j1 ?_
    show Ok ((l_Di_distributeByRemainders_125 E p (K : Int) FU N2 x2).bind _) _
    rw [j2]
    have e1 : N2 (p + 1) = M (p + 1) := j5 _ (by omega)
    refine ok_bm (L125_ok (v := M (p + 2)) (T := x) hI j6 hm hK (fun a b ha hb q => hd a b ha hb (by rw [← e1]; exact q)) j7 f4 j8 ⟨fun k hk => Or.inl (j9 k hk), fun i j hi hj _ q => absurd q (by rw [(j9 j hj).1]; omega)⟩ j10 (by omega) (by omega) (q_left (by omega) hm k2.symm)) ?_
    rintro ⟨u3, x3, N3⟩ ⟨d1, d2, d3, d4, d5, d6, d7⟩
    have i1 : u3 = 1 := d1
    have i2 : Off (fun c => c = p ∨ c = p + 4 ∨ c = p + 5 ∨ c = p + 6) N2 N3 := d2
    have i3 : DT N3 p m := d3
    have i6 : RD N3 p m (M (p + 2)) K x := d6
    have e2 : N3 (p + 2) = M (p + 2) := (i2 _ (by omega)).trans (j5 _ (by omega))
    refine ok_ck i1 (ok_some ⟨j5.trans i2, i3, d4, d5, d7, fun q => absurd e5 q, fun _ i hi => ?_, fun hK1 i j hi hj hv => ?_⟩)
    · show N3 (p + 4) i = N3 (p + 2) i * (K : Int) / sN (N3 (p + 2)) m ∨ N3 (p + 4) i = N3 (p + 2) i * (K : Int) / sN (N3 (p + 2)) m + 1
      rw [e2, ← k2]
      rcases i6.1 i hi with ⟨q, -⟩ | ⟨q, -⟩
      · exact Or.inl q
      · exact Or.inr q
    · show N3 (p + 4) j ≤ N3 (p + 4) i
      have hv : N3 (p + 2) j < N3 (p + 2) i := hv
      rw [e2] at hv
      exact more_votes (v := M (p + 2)) (s := N3 (p + 4)) (K := (K : Int)) (T := x) (by omega) (by omega) hv ((i6.1 i hi).imp And.left And.left) ((i6.1 j hj).imp And.left And.left) (fun a b => i6.2 i j hi hj a b)
  · have hm : 1 ≤ m := by omega
    refine ok_bm (L21_ok hI h hm hr hK hd h0 h1) ?_
    rintro ⟨u, y, N⟩ ⟨g1, g2, g3, g4, g5, g6, g7⟩
    have k1 : u = 1 := g1
    refine ok_ck k1 (ok_some (Or.inr ⟨hm, Off.mono g2 (fun c hc => by omega), g3, g4, g5, g7, fun _ => g6, fun q => absurd q e5, fun _ => QD_more g3 g6⟩))
