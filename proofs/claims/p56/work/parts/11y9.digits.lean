/-! NUMBERS WRITTEN -/
theorem appendByte_ok {E : Ev} {M : Mm} {f : Nat} {x : Int} (hf : M 1 13 = (f : Int)) (h : f < 240) : Ok (f_B_appendByte E M x) (fun N => N 1 13 = ((f + 1 : Nat) : Int) ∧ (∀ c, c ≠ 13 → N 1 c = M 1 c) ∧ (∀ i, N 249 i = if i = f then x else M 249 i) ∧ Off (fun c => c = 1 ∨ c = 249) M N) := by
  unfold f_B_appendByte
  rw [hf, Int.toNat_natCast]
  refine ok_ck (rgN (by omega)) (ok_if (fun z => by omega) (fun _ => ok_ck (inN h (by decide)) (ok_some ⟨?_, fun c hc => ?_, fun i => ?_, (Off.refl.u2 (Or.inr rfl)).u2 (Or.inl rfl)⟩)))
  · rw [u2_at, u2_ne (Or.inl (by decide)), hf]; rfl
  · rw [u2_ne (Or.inr hc), u2_ne (Or.inl (by decide))]
  · rw [u2_ne (Or.inl (by decide)), u2_if]
    by_cases e : i = f
    · rw [if_pos ⟨rfl, e⟩, if_pos e]
    · rw [if_neg (fun z => e z.2), if_neg e]
theorem p10 : pB 11 ≤ ((10 ^ 100 : Nat) : Int) := by decide +kernel
theorem p10_lt {m : Nat} {v : Int} (h : ((10 ^ m : Nat) : Int) ≤ v) (hv : v < pB 11) : m < 100 := by
  rcases Nat.lt_or_ge m 100 with w | w
  · exact w
  · have a := Nat.pow_le_pow_right (n := 10) (by decide) w
    have b := p10
    have c : ((10 ^ 100 : Nat) : Int) ≤ ((10 ^ m : Nat) : Int) := Int.ofNat_le.mpr a
    omega
theorem lV_congr {x y : Nat → Int} : ∀ {m : Nat}, (∀ i, i < m → x i = y i) → lV x m = lV y m
  | 0, _ => rfl
  | m + 1, h => by
    show lV x m + x m * _ = lV y m + y m * _
    rw [lV_congr (m := m) fun i hi => h i (by omega), h m (by omega)]
def oDg (q c : Nat) : Prop := c = 1 ∨ c = 249 ∨ nn q c
theorem digits_ok {E : Ev} {M : Mm} {q f : Nat} {v : Int} (hq : isNa E q) (hq1 : 2 ≤ q) (hq2 : q ≤ 240) (h : NatAt M q v) (hv : v < pB 11) (hf : M 1 13 = (f : Int)) (hf2 : f ≤ 110) : Ok (f_B_appendNumber E M q) (fun N => ∃ m, 1 ≤ m ∧ m ≤ 101 ∧ N 1 13 = ((f + m : Nat) : Int) ∧ (∀ c, c ≠ 13 → N 1 c = M 1 c) ∧ (∀ i, i < f → N 249 i = M 249 i) ∧ (∀ i, i < m → 48 ≤ N 249 (f + i) ∧ N 249 (f + i) ≤ 57) ∧ gV (fun i => N 249 (f + i) - 48) m = v ∧ (2 ≤ m → ((10 ^ (m - 1) : Nat) : Int) ≤ v) ∧ Off (oDg q) M N) := by
  have v0 := h.lo
  unfold f_B_appendNumber
  refine ok_ck hq (ok_bm (ok_divSmall hq h (by decide) (by decide)) ?_)
  rintro ⟨r, A⟩ ⟨r1, a1r, a2r⟩
  have r1 : r = v % 10 := r1
  have a1 : NatAt A q (v / 10) := a1r
  have a2 : Off (nn q) M A := a2r
  have d0 : 0 ≤ v % 10 ∧ v % 10 < 10 := by omega
  refine ok_bm (appendByte_ok (f := f) (by rw [a2 1 (by unfold nn; omega)]; exact hf) (by omega)) ?_
  rintro B ⟨b1, b2, b3, b4⟩
  have aB : NatAt B q (v / 10) := a1.off b4 (by omega) (by omega)
  rw [hf]
  refine ok_bm (R := fun r => r.1 = 1 ∧ ∃ m, 1 ≤ m ∧ m ≤ 101 ∧ r.2.2 1 13 = ((f + m : Nat) : Int) ∧ (∀ c, c ≠ 13 → r.2.2 1 c = M 1 c) ∧ (∀ i, i < f → r.2.2 249 i = M 249 i) ∧ (∀ i, i < m → 48 ≤ r.2.2 249 (f + i) ∧ r.2.2 249 (f + i) ≤ 57) ∧ lV (fun i => r.2.2 249 (f + i) - 48) m = v ∧ (2 ≤ m → ((10 ^ (m - 1) : Nat) : Int) ≤ v) ∧ Off (oDg q) M r.2.2) ?_ ?_
  · refine L_B_appendNumber_20 E q (f : Int) (I := fun N x3 => ∃ m : Nat, ∃ cur : Int, x3 = (m : Int) ∧ 1 ≤ m ∧ m ≤ 101 ∧ NatAt N q cur ∧ N 1 13 = ((f + m : Nat) : Int) ∧ (∀ c, c ≠ 13 → N 1 c = M 1 c) ∧ (∀ i, i < f → N 249 i = M 249 i) ∧ (∀ i, i < m → 48 ≤ N 249 (f + i) ∧ N 249 (f + i) ≤ 57) ∧ lV (fun i => N 249 (f + i) - 48) m + cur * ((10 ^ m : Nat) : Int) = v ∧ (2 ≤ m → ((10 ^ (m - 1) : Nat) : Int) ≤ v) ∧ Off (oDg q) M N) (μ := fun _ x3 => 240 - x3.toNat) ?_ FU B 1 ⟨1, v / 10, rfl, Nat.le_refl 1, by decide, aB, b1, fun c hc => by rw [b2 c hc, a2 1 (by unfold nn; omega)], fun i hi => by rw [b3 i, if_neg (by omega), a2 249 (by unfold nn; omega)], fun i hi => by rw [b3, if_pos (by omega)]; omega, ?_, fun z => absurd z (by decide), (a2.mono fun c hc => Or.inr (Or.inr hc)).trans (b4.mono fun c hc => hc.elim Or.inl (fun w => Or.inr (Or.inl w)))⟩ (by decide)
    · rintro N x3 ⟨m, cur, rfl, m1, m2, hc, n1, n2, n3', n4, n5, n6, oN⟩
      obtain ⟨s, hs⟩ := hc
      have hc' : NatAt N q cur := ⟨s, hs⟩
      have c0 := hs.lo
      have dig0 : 0 ≤ lV (fun i => N 249 (f + i) - 48) m := lV_lo fun i hi => by have := n4 i hi; omega
      unfold B_appendNumber_20b
      rw [hs.1]
      refine ok_ck hq (ok_ck (rgN (by omega)) (ok_if (fun z => by omega) (fun _ => ok_ck (rgN (by have := hs.2.1; omega)) (ok_if (fun z => ?_) (fun z => ?_)))))
      · have e := hs.zero.mp (by omega)
        rw [e, Int.zero_mul, Int.add_zero] at n5
        exact ok_some (ok_out ne0 ⟨rfl, m, m1, m2, n1, n2, n3', n4, n5, n6, oN⟩)
      · have cp : 1 ≤ cur := by
          rcases Int.lt_or_eq_of_le c0 with y | y
          · exact y
          · have := hs.zero.mpr y.symm
            omega
        have p0 : (0 : Int) ≤ ((10 ^ m : Nat) : Int) := Int.natCast_nonneg _
        have big : ((10 ^ m : Nat) : Int) ≤ v := by
          have := Int.mul_le_mul_of_nonneg_right cp p0
          omega
        have m100 := p10_lt big hv
        refine ok_bm (ok_divSmall hq hc' (by decide) (by decide)) ?_
        rintro ⟨r2, P⟩ ⟨e2r, p1r, p2r⟩
        have e2 : r2 = cur % 10 := e2r
        have p1 : NatAt P q (cur / 10) := p1r
        have p2' : Off (nn q) N P := p2r
        refine ok_bm (appendByte_ok (f := f + m) (by rw [p2' 1 (by unfold nn; omega)]; exact n1) (by omega)) ?_
        rintro Q ⟨q1, q2, q3, q4⟩
        have e249 : ∀ i, P 249 i = N 249 i := fun i => by rw [p2' 249 (by unfold nn; omega)]
        have ex : ∀ i, i < m → Q 249 (f + i) = N 249 (f + i) := fun i hi => by rw [q3, if_neg (by omega), e249]
        have em : Q 249 (f + m) = 48 + r2 := by rw [q3, if_pos rfl]
        have Q2 : ∀ c, c ≠ 13 → Q 1 c = M 1 c := fun c hc => by rw [q2 c hc, p2' 1 (by unfold nn; omega)]; exact n2 c hc
        have Q3 : ∀ i, i < f → Q 249 i = M 249 i := fun i hi => by rw [q3, if_neg (by omega), e249]; exact n3' i hi
        have Q4 : ∀ i, i < m + 1 → 48 ≤ Q 249 (f + i) ∧ Q 249 (f + i) ≤ 57 := fun i hi => by
          by_cases e : i = m
          · rw [e, em]; omega
          · rw [ex i (by omega)]; exact n4 i (by omega)
        refine ok_some (ok_go rfl ⟨⟨m + 1, cur / 10, c1 m, by omega, by omega, p1.off q4 (by omega) (by omega), q1, Q2, Q3, Q4, ?_, fun _ => by rw [Nat.add_sub_cancel]; exact big, (oN.trans (p2'.mono fun c hc => Or.inr (Or.inr hc))).trans (q4.mono fun c hc => hc.elim Or.inl (fun w => Or.inr (Or.inl w)))⟩, ?_⟩)
        · show lV (fun i => Q 249 (f + i) - 48) m + (Q 249 (f + m) - 48) * ((10 ^ m : Nat) : Int) + cur / 10 * ((10 ^ (m + 1) : Nat) : Int) = v
          rw [lV_congr (y := fun i => N 249 (f + i) - 48) (fun i hi => by rw [ex i hi]), em, e2, Nat.pow_succ, Int.natCast_mul, ← n5]
          have : cur = cur / 10 * 10 + cur % 10 := by omega
          generalize cur / 10 = a at *
          generalize cur % 10 = b at *
          subst this
          grind
        · show 240 - ((m : Int) + 1).toNat < 240 - (m : Int).toNat
          omega
    · show 0 + (B 249 (f + 0) - 48) * ((10 ^ 0 : Nat) : Int) + v / 10 * ((10 ^ 1 : Nat) : Int) = v
      rw [b3, if_pos (Nat.add_zero f), r1, Nat.pow_zero, Nat.pow_one]
      omega
  · rintro ⟨t, x3, K⟩ ⟨g1, m, m1, m2, k1r, k2r, k3r, k4r, k5r, k6, k7r⟩
    have k1 : K 1 13 = ((f + m : Nat) : Int) := k1r
    have k3 : ∀ i, i < f → K 249 i = M 249 i := k3r
    have k4 : ∀ i, i < m → 48 ≤ K 249 (f + i) ∧ K 249 (f + i) ≤ 57 := k4r
    have k5 : lV (fun i => K 249 (f + i) - 48) m = v := k5r
    have k7 : Off (oDg q) M K := k7r
    refine ok_ck g1 ?_
    show Ok ((l_B_appendNumber_63 E FU K (f : Int) (K 1 13 - 1)).bind _) _
    rw [k1]
    refine ok_bm (R := fun r => r.1 = 1 ∧ Off (fun c => c = 249) K r.2.2.2 ∧ (∀ i, i < f → r.2.2.2 249 i = K 249 i) ∧ ∀ l, l < m → r.2.2.2 249 (f + l) = K 249 (f + (m - 1 - l))) ?_ ?_
    · refine L_B_appendNumber_63 E (I := fun N x3 x4 => ∃ i : Nat, x3 = ((f + i : Nat) : Int) ∧ x4 = ((f + m : Nat) : Int) - 1 - (i : Int) ∧ 2 * i ≤ m ∧ Off (fun c => c = 249) K N ∧ (∀ i, i < f → N 249 i = K 249 i) ∧ (∀ l, l < i → N 249 (f + l) = K 249 (f + (m - 1 - l)) ∧ N 249 (f + (m - 1 - l)) = K 249 (f + l)) ∧ ∀ l, i ≤ l → l + i < m → N 249 (f + l) = K 249 (f + l)) (μ := fun _ x3 _ => 300 - x3.toNat) ?_ FU K (f : Int) _ ⟨0, rfl, by omega, by omega, Off.refl, fun _ _ => rfl, fun l hl => absurd hl (Nat.not_lt_zero l), fun _ _ _ => rfl⟩ (by show 300 - _ < 5000; omega)
      rintro N x3 x4 ⟨i, rfl, rfl, hi, oN, nl, n1, n2⟩
      unfold B_appendNumber_63b
      refine ok_ck (rgN (by omega)) (ok_ck ⟨by omega, by omega⟩ (ok_if (fun z => ?_) (fun z => ?_)))
      · refine ok_some (ok_out ne0 ⟨rfl, oN, nl, fun l hl => ?_⟩)
        show N 249 (f + l) = _
        by_cases a : l < i
        · exact (n1 l a).1
        · by_cases b : m - 1 - l < i
          · have := (n1 (m - 1 - l) b).2
            rw [show m - 1 - (m - 1 - l) = l by omega] at this
            exact this
          · have e : m - 1 - l = l := by omega
            rw [e]; exact n2 l (by omega) (by omega)
      · obtain ⟨k, hk⟩ : ∃ k, k = m - 1 - i := ⟨_, rfl⟩
        have ek : ((f + m : Nat) : Int) - 1 - (i : Int) = ((f + k : Nat) : Int) := by omega
        have hik : i < k := by omega
        rw [ek, Int.toNat_natCast, Int.toNat_natCast]
        have e1 := n2 i (Nat.le_refl i) (by omega)
        have e2 := n2 k (by omega) (by omega)
        have row : ∀ j, u2 (u2 N 249 (f + i) (N 249 (f + k))) 249 (f + k) (N 249 (f + i)) 249 j = if j = f + k then N 249 (f + i) else if j = f + i then N 249 (f + k) else N 249 j := fun j => by
          rw [u2_if, u2_if]
          by_cases a : j = f + k
          · rw [if_pos ⟨rfl, a⟩, if_pos a]
          · rw [if_neg (fun w => a w.2), if_neg a]
            by_cases b : j = f + i
            · rw [if_pos ⟨rfl, b⟩, if_pos b]
            · rw [if_neg (fun w => b w.2), if_neg b]
        refine ok_ck (inN (by omega) (by decide)) (ok_ck (inN (by omega) (by decide)) (ok_some (ok_go rfl ⟨⟨i + 1, by show ((f + i : Nat) : Int) + 1 = _; omega, by show ((f + k : Nat) : Int) + -1 = _; omega, by omega, (oN.u2 rfl).u2 rfl, fun j hj => ?_, fun l hl => ⟨?_, ?_⟩, fun l h1 h2 => ?_⟩, ?_⟩)))
        · show u2 (u2 N 249 (f + i) (N 249 (f + k))) 249 (f + k) (N 249 (f + i)) 249 j = _
          rw [row, if_neg (by omega), if_neg (by omega)]; exact nl j hj
        · show u2 (u2 N 249 (f + i) (N 249 (f + k))) 249 (f + k) (N 249 (f + i)) 249 (f + l) = _
          rw [row, if_neg (by omega)]
          by_cases a : l = i
          · rw [if_pos (by omega), e2, a, hk]
          · rw [if_neg (by omega)]; exact (n1 l (by omega)).1
        · show u2 (u2 N 249 (f + i) (N 249 (f + k))) 249 (f + k) (N 249 (f + i)) 249 (f + (m - 1 - l)) = _
          rw [row]
          by_cases a : l = i
          · rw [if_pos (by omega), e1, a]
          · rw [if_neg (by omega), if_neg (by omega)]; exact (n1 l (by omega)).2
        · show u2 (u2 N 249 (f + i) (N 249 (f + k))) 249 (f + k) (N 249 (f + i)) 249 (f + l) = _
          rw [row, if_neg (by omega), if_neg (by omega)]; exact n2 l (by omega) (by omega)
        · show 300 - (((f + i : Nat) : Int) + 1).toNat < 300 - ((f + i : Nat) : Int).toNat
          omega
    · rintro ⟨t2, y3, y4, N⟩ ⟨h1, h2r, h3r, h4r⟩
      have h2 : Off (fun c => c = 249) K N := h2r
      have h3 : ∀ i, i < f → N 249 i = K 249 i := h3r
      have h4 : ∀ l, l < m → N 249 (f + l) = K 249 (f + (m - 1 - l)) := h4r
      have e1 : N 1 = K 1 := h2 1 (by decide)
      refine ok_ck h1 (ok_some ⟨m, m1, m2, by rw [e1]; exact k1, fun c hc => by rw [e1]; exact k2r c hc, fun i hi => by rw [h3 i hi]; exact k3 i hi, fun i hi => by rw [h4 i hi]; exact k4 _ (by omega), ?_, k6, k7.trans (h2.mono fun c hc => Or.inr (Or.inl hc))⟩)
      rw [← k5, ← gV_rev m (fun i => K 249 (f + i) - 48)]
      exact gV_congr fun i hi => by rw [h4 i hi]
