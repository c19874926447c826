/-! NATURALS: multiplied, divided by a small one, stored, loaded -/
theorem Sg_upd {f : Nat → Int} {l : Nat} {w : Int} : ∀ {n : Nat}, l < n → Sg (va_up f l w) n = Sg f n + (w - f l) * pB l
  | 0, h => absurd h (Nat.not_lt_zero l)
  | n + 1, h => by
    rw [Sg_succ, Sg_succ]
    by_cases e : l = n
    · subst e
      have e9 : Sg (va_up f l w) l = Sg f l := Sg_congr (fun i hi => va_up_ne _ _ (Nat.ne_of_lt hi))
      rw [va_up_self, e9, Int.sub_mul]
      omega
    · rw [va_up_ne _ _ (Ne.symm e), Sg_upd (show l < n by omega)]
      omega
theorem Lr_upd {f : Nat → Int} {l n : Nat} {w : Int} (h : Lr f n) (h1 : 0 ≤ w) (h2 : w < 1073741824) : Lr (va_up f l w) n := by
  intro i hi
  by_cases e : i = l
  · subst e; rw [va_up_self]; exact ⟨h1, h2⟩
  · rw [va_up_ne _ _ e]; exact h i hi
theorem Sg_top0 {f : Nat → Int} {m n j : Nat} (h : Lr f n) (hlt : Sg f n < pB m) (h1 : m ≤ j) (h2 : j < n) : f j = 0 := by
  rcases Int.lt_or_le 0 (f j) with g | g
  · have e : Sg f n = Sg f (j + 1) + pB (j + 1) * Sg (fun i => f (j + 1 + i)) (n - (j + 1)) := by
      have := Sg_shift f (j + 1) (n - (j + 1))
      rw [show j + 1 + (n - (j + 1)) = n by omega] at this
      exact this
    have h3 : 0 ≤ Sg (fun i => f (j + 1 + i)) (n - (j + 1)) := Sg_nonneg fun i hi => (h _ (by omega)).1
    have h4 := Int.mul_nonneg (Int.le_of_lt (pB_pos (j + 1))) h3
    rw [Sg_succ] at e
    have h5 := (h.mono (show j ≤ n by omega)).lo
    have h6 := Int.mul_le_mul_of_nonneg_right (show 1 ≤ f j by omega) (Int.le_of_lt (pB_pos j))
    have h7 := pB_le h1
    omega
  · have := (h j h2).1
    omega
theorem ok_mulSmall {E : Ev} {M : Mm} {q : Nat} {a f : Int} (hq : isNa E q) (ha : NatAt M q a) (hf0 : 0 ≤ f) (hf1 : f ≤ 2147483647) (hlt : a * f < pB 13) : Ok (f_Na_multiplySmall E M q f) (fun N => NatAt N q (a * f) ∧ Off (nn q) M N) := by
  obtain ⟨s, ha⟩ := ha
  have hs := ha.2.1
  unfold f_Na_multiplySmall
  rw [ha.1]
  obtain ⟨m, hm⟩ : ∃ m : Nat, m = min (s + 2) 13 := ⟨_, rfl⟩
  have em : min ((s : Int) + 2) 13 = (m : Int) := by omega
  rw [em]
  refine ok_ck hq (ok_ck ⟨by omega, by omega⟩ ?_)
  refine ok_bm (L_Na_multiplySmall_17 E q f (m : Int) (I := fun N c i => ∃ k : Nat, i = (k : Int) ∧ k ≤ m ∧ Off (nn q) M N ∧ N q 1 = (s : Int) ∧ (∀ j, k ≤ j → N (q + 1) j = M (q + 1) j) ∧ Lr (N (q + 1)) k ∧ 0 ≤ c ∧ c ≤ f ∧ Sg (N (q + 1)) k + c * pB k = Sg (lim M q s) k * f) (μ := fun _ _ i => m - i.toNat) (Q := fun r => r.1 = 1 ∧ Off (nn q) M r.2.2.2 ∧ Lr (r.2.2.2 (q + 1)) m ∧ Sg (r.2.2.2 (q + 1)) m + r.2.1 * pB m = Sg (lim M q s) m * f) ?_ FU M 0 0 ⟨0, rfl, Nat.zero_le _, Off.refl, ha.1, fun _ _ => rfl, fun i hi => absurd hi (Nat.not_lt_zero i), by omega, by omega, by show (0 : Int) + 0 * 1 = 0 * f; omega⟩ (by show m - _ < 5000; omega)) ?_
  · rintro N c i ⟨k, rfl, hk, ho, h1, h2, h3, h4, h5, h6⟩
    unfold Na_multiplySmall_17b
    refine ok_ck hq (ok_ck (rgI_nat (by omega)) (ok_ck (rgI_nat (by omega)) (ok_if (fun d => ?_) (fun d => ?_))))
    · have e : k = m := by omega
      subst e
      exact ok_some (ok_out (by show (1 : Nat) ≠ 0; decide) ⟨rfl, ho, h3, h6⟩)
    · rw [limbAt_eq hq h1 hs (by omega), h2 k (Nat.le_refl k)]
      have g1 := lim_Lr ha 13 k (by omega)
      have e6 : Sg (lim M q s) (k + 1) * f = Sg (N (q + 1)) k + (c + lim M q s k * f) * pB k := by
        rw [Sg_succ]
        grind
      obtain ⟨x, hx⟩ : ∃ x, x = lim M q s k := ⟨_, rfl⟩
      have hx' : (if k < s then M (q + 1) k else 0) = x := hx.symm
      rw [hx']
      rw [← hx] at e6 g1
      have g2 := Int.mul_nonneg g1.1 hf0
      have g3 := Int.mul_le_mul_of_nonneg_right (show x ≤ 1073741823 by omega) hf0
      refine ok_sb (ok_ck ⟨by omega, by omega⟩ (ok_ck ⟨by omega, by omega⟩ ?_))
      generalize x * f = y at *
      refine ok_nb (ok_ck ⟨by omega, by omega, by omega⟩ (ok_ck ⟨by omega, by omega⟩ (ok_nb (ok_some (ok_go rfl ⟨⟨k + 1, by show (k : Int) + 1 = _; omega, by omega, ho.u2 (Or.inr rfl), ?_, fun j hj => ?_, ?_, ?_, ?_, ?_⟩, ?_⟩)))))
      · show u2 N (q + 1) (k : Int).toNat _ q 1 = _
        rw [u2_row (by omega)]; exact h1
      · show u2 N (q + 1) (k : Int).toNat _ (q + 1) j = _
        rw [Int.toNat_natCast, u2_ne (Or.inr (by omega))]; exact h2 j (by omega)
      · show Lr (u2 N (q + 1) (k : Int).toNat _ (q + 1)) (k + 1)
        rw [u2_rowself, Int.toNat_natCast]
        exact Lr_up h3 (by omega) (by omega)
      · show 0 ≤ (c + y) / 1073741824
        omega
      · show (c + y) / 1073741824 ≤ f
        omega
      · show Sg (u2 N (q + 1) (k : Int).toNat ((c + y) % 1073741824) (q + 1)) (k + 1) + (c + y) / 1073741824 * pB (k + 1) = _
        rw [u2_rowself, Int.toNat_natCast, Sg_up, pB_succ, e6]
        have : c + y = (c + y) / 1073741824 * 1073741824 + (c + y) % 1073741824 := by omega
        generalize (c + y) / 1073741824 = u at *
        generalize (c + y) % 1073741824 = w at *
        rw [this]
        grind
      · show m - ((k : Int) + 1).toNat < m - (k : Int).toNat
        omega
  · rintro ⟨u, c, i, N⟩ ⟨h0, ho, h1, h2⟩
    refine ok_ck h0 (ok_bm (ok_trim' (v := a * f) hq (by omega) h1 ?_ ho) fun K hK => ok_some hK)
    have h2 : Sg (N (q + 1)) m + c * pB m = Sg (lim M q s) m * f := h2
    have hlo := ha.lo
    have hab : a * f < pB m := by
      by_cases e : m = 13
      · rw [e]; exact hlt
      · have em : m = s + 2 := by omega
        rw [em]
        have h9 := ha.hi
        have h8 := Int.mul_le_mul_of_nonneg_left hf1 hlo
        have h7 := pB_pos s
        show a * f < pB s * 1073741824 * 1073741824
        omega
    rw [lim_Sg ha (by omega)] at h2
    have hc := carry0 h2 h1.lo h1.hi (Int.mul_nonneg hlo hf0) hab
    rw [hc] at h2
    omega
theorem Sg_cons (x : Nat → Int) (k n : Nat) : Sg (fun i => x (k + i)) (n + 1) = x k + 1073741824 * Sg (fun i => x (k + 1 + i)) n := by
  have h := Sg_shift (fun i => x (k + i)) 1 n
  rw [Nat.add_comm 1 n] at h
  rw [h]
  have e1 : Sg (fun i => x (k + i)) 1 = x k := by show (0 : Int) + x (k + 0) * 1 = x k; rw [Nat.add_zero]; omega
  rw [e1, show pB 1 = 1073741824 from rfl]
  congr 2
  exact Sg_congr fun i _ => by show x (k + (1 + i)) = x (k + 1 + i); rw [Nat.add_assoc]
theorem ediv_of {a Q d r : Int} (h : a = Q * d + r) (h1 : 0 ≤ r) (h2 : r < d) : a / d = Q ∧ a % d = r := by
  have h3 : a / d * d + a % d = a := by rw [Int.mul_comm]; exact Int.mul_ediv_add_emod a d
  exact qr_unique (h3.trans h) (Int.emod_nonneg a (by omega)) (Int.emod_lt_of_pos a (by omega)) h1 h2
set_option maxHeartbeats 1000000 in
theorem ok_divSmall {E : Ev} {M : Mm} {q : Nat} {a d : Int} (hq : isNa E q) (ha : NatAt M q a) (hd0 : 0 < d) (hd1 : d ≤ 2147483647) : Ok (f_Na_divideSmall E M q d) (fun r => r.1 = a % d ∧ NatAt r.2 q (a / d) ∧ Off (nn q) M r.2) := by
  obtain ⟨s, ha⟩ := ha
  have hs := ha.2.1
  unfold f_Na_divideSmall
  rw [ha.1]
  refine ok_ck hq (ok_ck ⟨by omega, hd1⟩ (ok_if (fun _ => ?_) (fun c => absurd hd0 c)))
  refine ok_bm (L_Na_divideSmall_16 E q d (I := fun N r i => ∃ k : Nat, i = (k : Int) - 1 ∧ k ≤ s ∧ Off (nn q) M N ∧ N q 1 = (s : Int) ∧ (∀ j, j < k → N (q + 1) j = M (q + 1) j) ∧ Lr (N (q + 1)) s ∧ 0 ≤ r ∧ r < d ∧ Sg (fun i => M (q + 1) (k + i)) (s - k) = Sg (fun i => N (q + 1) (k + i)) (s - k) * d + r) (μ := fun _ _ i => (i + 1).toNat) (Q := fun r => r.1 = 1 ∧ Off (nn q) M r.2.2.2 ∧ r.2.2.2 q 1 = (s : Int) ∧ Lr (r.2.2.2 (q + 1)) s ∧ 0 ≤ r.2.1 ∧ r.2.1 < d ∧ a = Sg (r.2.2.2 (q + 1)) s * d + r.2.1) ?_ FU M 0 _ ⟨s, rfl, Nat.le_refl _, Off.refl, ha.1, fun _ _ => rfl, ha.2.2.1, by omega, hd0, by rw [Nat.sub_self]; show (0 : Int) = 0 * d + 0; omega⟩ (by show ((s : Int) - 1 + 1).toNat < 5000; omega)) ?_
  · rintro N r i ⟨k, rfl, hk, ho, h1, h2, h3, h4, h5, h6⟩
    unfold Na_divideSmall_16b
    refine ok_ck hq (ok_ck ⟨by omega, by omega⟩ (ok_if (fun c => ?_) (fun c => ?_)))
    · have e : k = 0 := by omega
      subst e
      refine ok_some (ok_out (by show (1 : Nat) ≠ 0; decide) ⟨rfl, ho, h1, h3, h4, h5, ?_⟩)
      rw [Nat.sub_zero] at h6
      have e1 : Sg (fun i => M (q + 1) (0 + i)) s = a := by rw [← ha.2.2.2.2]; exact Sg_congr fun i _ => by rw [Nat.zero_add]
      have e2 : Sg (fun i => N (q + 1) (0 + i)) s = Sg (N (q + 1)) s := Sg_congr fun i _ => by rw [Nat.zero_add]
      rw [e1, e2] at h6
      exact h6
    · obtain ⟨j, rfl⟩ : ∃ j, k = j + 1 := ⟨k - 1, by omega⟩
      rw [show ((j + 1 : Nat) : Int) - 1 = (j : Int) by omega, Int.toNat_natCast, h2 j (by omega)]
      have g1 := ha.2.2.1 j (by omega)
      have hn : s - j = (s - (j + 1)) + 1 := by omega
      have eM := Sg_cons (M (q + 1)) j (s - (j + 1))
      obtain ⟨x, hx⟩ : ∃ x, x = M (q + 1) j := ⟨_, rfl⟩
      rw [← hx] at g1 eM ⊢
      obtain ⟨y, hy⟩ : ∃ y, y = r * 1073741824 + x := ⟨_, rfl⟩
      rw [← hy]
      have hy1 : y < d * 1073741824 := by
        have := Int.mul_le_mul_of_nonneg_right (show r ≤ d - 1 by omega) (show (0 : Int) ≤ 1073741824 by decide)
        omega
      have hdiv : y = y / d * d + y % d := by rw [Int.mul_comm]; exact (Int.mul_ediv_add_emod y d).symm
      have hm0 := Int.emod_nonneg y (show d ≠ 0 by omega)
      have hm1 := Int.emod_lt_of_pos y hd0
      have hq0 : 0 ≤ y / d := Int.ediv_nonneg (by omega) (by omega)
      have hq1 : y / d < 1073741824 := Int.ediv_lt_of_lt_mul hd0 (by rw [Int.mul_comm]; exact hy1)
      refine ok_ck ⟨by omega, by omega, by omega⟩ (ok_ck ⟨by omega, by omega⟩ (ok_nb (ok_ck ⟨by omega, hd1⟩ (ok_ck ⟨by omega, by omega⟩ (ok_ck ⟨hd0, by omega⟩ (ok_ck ⟨hd0, by omega⟩ (ok_some (ok_go rfl ⟨⟨j, by show (j : Int) + -1 = _; omega, by omega, ho.u2 (Or.inr rfl), ?_, fun i hi => ?_, ?_, hm0, hm1, ?_⟩, ?_⟩))))))))
      · show u2 N (q + 1) j _ q 1 = _
        rw [u2_row (by omega)]; exact h1
      · show u2 N (q + 1) j _ (q + 1) i = _
        rw [u2_ne (Or.inr (by omega))]; exact h2 i (by omega)
      · show Lr (u2 N (q + 1) j _ (q + 1)) s
        rw [u2_rowself]
        exact Lr_upd h3 hq0 hq1
      · show Sg (fun i => M (q + 1) (j + i)) (s - j) = Sg (fun i => u2 N (q + 1) j (y / d) (q + 1) (j + i)) (s - j) * d + y % d
        have eN := Sg_cons (u2 N (q + 1) j (y / d) (q + 1)) j (s - (j + 1))
        have e9 : Sg (fun i => u2 N (q + 1) j (y / d) (q + 1) (j + 1 + i)) (s - (j + 1)) = Sg (fun i => N (q + 1) (j + 1 + i)) (s - (j + 1)) := Sg_congr fun i _ => u2_ne (Or.inr (by omega))
        rw [u2_at, e9] at eN
        rw [hn, eM, eN, h6]
        have hy : y = r * 1073741824 + x := hy
        generalize y / d = u at *
        generalize y % d = w at *
        grind
      · show ((j : Int) + -1 + 1).toNat < ((j : Int) + 1).toNat
        omega
  · rintro ⟨t, r, i, N⟩ ⟨h0, ho, h1, h2, h3, h4, h5⟩
    have h1 : N q 1 = (s : Int) := h1
    have h5 : a = Sg (N (q + 1)) s * d + r := h5
    obtain ⟨e1, e2⟩ := ediv_of h5 h3 h4
    refine ok_ck h0 ?_
    show Ok ((f_Na_trimTo E N q (N q 1)).bind _) _
    rw [h1]
    exact ok_bm (ok_trim' (v := a / d) hq hs h2 e1.symm ho) fun K hK => ok_some ⟨e2.symm, hK⟩
theorem lim_part {M : Mm} {q s : Nat} {v : Int} (h : NatS M q s v) (k : Nat) : ∃ r, 0 ≤ r ∧ v = Sg (lim M q s) k + pB k * r := by
  have e := Sg_shift (lim M q s) k s
  rw [lim_Sg h (show s ≤ k + s by omega)] at e
  exact ⟨_, Sg_nonneg fun i hi => (lim_Lr h (k + s) (k + i) (by omega)).1, e⟩
theorem lim_le {M : Mm} {q s : Nat} {v : Int} (h : NatS M q s v) (k : Nat) : Sg (lim M q s) k ≤ v := by
  obtain ⟨r, h0, e⟩ := lim_part h k
  have := Int.mul_nonneg (Int.le_of_lt (pB_pos k)) h0
  omega
theorem mul_lt_pB {x y : Int} {k t : Nat} (h0 : 0 ≤ x) (h1 : x < pB k) (h3 : y < pB t) : x * y < pB (k + t) := by
  rw [pB_add]
  have h4 := Int.mul_le_mul_of_nonneg_left (show y ≤ pB t by omega) h0
  have h5 := Int.mul_le_mul_of_nonneg_right (show x ≤ pB k - 1 by omega) (Int.le_of_lt (pB_pos t))
  rw [Int.sub_mul] at h5
  have := pB_pos t
  omega
set_option maxHeartbeats 2000000 in
theorem ok_multiply {E : Ev} {M : Mm} {q p1 p2 : Nat} {a b : Int} (hq : isNa E q) (hp1 : isNa E p1) (hp2 : isNa E p2) (hap1 : ap q p1) (hap2 : ap q p2) (ha : NatAt M p1 a) (hb : NatAt M p2 b) (hlt : a * b < pB 13) : Ok (f_Na_multiply E M q p1 p2) (fun N => NatAt N q (a * b) ∧ Off (nn q) M N) := by
  obtain ⟨s, ha⟩ := ha
  obtain ⟨t, hb⟩ := hb
  have hs := ha.2.1
  have ht := hb.2.1
  have ha0 := ha.lo
  have hb0 := hb.lo
  unfold f_Na_multiply
  refine ok_ck hq (ok_ck hp1 (ok_ck hp2 (ok_bm (ok_fillI (n := 13) hq.1 hq.2.2.2 (by omega)) fun M0 hM0 => ?_)))
  obtain ⟨ho0, hz, -⟩ := hM0
  have ho0 : Off (nn q) M M0 := ho0.mono fun i hi => Or.inr hi
  have hL0 : Lr (M0 (q + 1)) 13 := fun i hi => by rw [hz i hi]; exact ⟨by decide, by decide⟩
  have hS0 : Sg (M0 (q + 1)) 13 = 0 := by rw [Sg_zeros (m := 0) (by omega) (fun i _ hi => hz i hi)]; rfl
  refine ok_bm (L_Na_multiply_10 E q p1 p2 (I := fun N i => ∃ k : Nat, i = (k : Int) ∧ k ≤ s ∧ Off (nn q) M N ∧ Lr (N (q + 1)) 13 ∧ Sg (N (q + 1)) 13 = Sg (lim M p1 s) k * b) (μ := fun _ i => s - i.toNat) (Q := fun r => r.1 = 1 ∧ Off (nn q) M r.2.2 ∧ Lr (r.2.2 (q + 1)) 13 ∧ Sg (r.2.2 (q + 1)) 13 = a * b) ?_ FU M0 0 ⟨0, rfl, Nat.zero_le _, ho0, hL0, by rw [hS0]; show (0 : Int) = 0 * b; omega⟩ (by show s - _ < 5000; omega)) ?_
  · rintro N i ⟨k, rfl, hk, ho, hL, hS⟩
    have hN1 : N p1 1 = (s : Int) := by rw [ho p1 hap1.n0, ha.1]
    have hN1r : N (p1 + 1) = M (p1 + 1) := ho _ hap1.n1
    unfold Na_multiply_10b
    rw [hN1]
    refine ok_ck hq (ok_ck hp1 (ok_ck hp2 (ok_ck (rgI_nat (by omega)) (ok_ck (rgI_nat (by omega)) (ok_if (fun d => ?_) (fun d => ?_))))))
    · have e : k = s := by omega
      subst e
      rw [lim_Sg ha (Nat.le_refl k)] at hS
      exact ok_some (ok_out (by show (1 : Nat) ≠ 0; decide) ⟨rfl, ho, hL, hS⟩)
    · obtain ⟨x, hx⟩ : ∃ x, x = lim M p1 s k := ⟨_, rfl⟩
      have hx2 : M (p1 + 1) k = x := by rw [hx]; unfold lim; rw [if_pos (by omega)]
      have gx := lim_Lr ha 13 k (by omega)
      rw [← hx] at gx
      have hk1 : Sg (lim M p1 s) (k + 1) * b = Sg (N (q + 1)) 13 + x * b * pB k := by rw [Sg_succ, hS, ← hx]; grind
      have hXab : Sg (lim M p1 s) (k + 1) * b < pB 13 := by
        have := Int.mul_le_mul_of_nonneg_right (lim_le ha (k + 1)) hb0
        omega
      have hX0 : 0 ≤ Sg (lim M p1 s) (k + 1) * b := Int.mul_nonneg (lim_Lr ha (k + 1)).lo hb0
      have hTk : Sg (N (q + 1)) 13 < pB (k + t) := by rw [hS]; exact mul_lt_pB (lim_Lr ha k).lo (lim_Lr ha k).hi hb.hi
      have hXk : Sg (lim M p1 s) (k + 1) * b < pB (k + 1 + t) := mul_lt_pB (lim_Lr ha (k + 1)).lo (lim_Lr ha (k + 1)).hi hb.hi
      refine ok_bm (L_Na_multiply_24 E q p1 p2 (k : Int) (I := fun K c j => ∃ l : Nat, j = (l : Int) ∧ l ≤ t + 1 ∧ k + l ≤ 13 ∧ Off (nn q) M K ∧ Lr (K (q + 1)) 13 ∧ 0 ≤ c ∧ c < 1073741824 ∧ Sg (K (q + 1)) 13 + c * pB (k + l) = Sg (N (q + 1)) 13 + x * Sg (lim M p2 t) l * pB k ∧ ∀ i, k + l ≤ i → K (q + 1) i = N (q + 1) i) (μ := fun _ _ j => 14 - j.toNat) (Q := fun r => r.1 = 1 ∧ Off (nn q) M r.2.2.2 ∧ Lr (r.2.2.2 (q + 1)) 13 ∧ Sg (r.2.2.2 (q + 1)) 13 = Sg (lim M p1 s) (k + 1) * b) ?_ FU N 0 0 ⟨0, rfl, Nat.zero_le _, by omega, ho, hL, by omega, by omega, by show Sg (N (q + 1)) 13 + 0 * _ = Sg (N (q + 1)) 13 + x * 0 * _; rw [Int.mul_zero, Int.zero_mul, Int.zero_mul], fun _ _ => rfl⟩ (by show 14 - _ < 5000; omega)) ?_
      · rintro K c j ⟨l, rfl, hl, hkl, hoK, hLK, hc0, hc1, hSK, hun⟩
        have hK2 : K p2 1 = (t : Int) := by rw [hoK p2 hap2.n0, hb.1]
        have hK2r : K (p2 + 1) = M (p2 + 1) := hoK _ hap2.n1
        have hK1r : K (p1 + 1) = M (p1 + 1) := hoK _ hap1.n1
        have fin : (t < l ∨ k + l = 13) → Sg (K (q + 1)) 13 = Sg (lim M p1 s) (k + 1) * b := by
          intro hend
          have hxb : x * Sg (lim M p2 t) l = x * b := by
            obtain ⟨r, hr0, er⟩ := lim_part hb l
            rcases Int.lt_or_le 0 r with gr | gr
            · rcases Int.lt_or_le 0 x with gx0 | gx0
              · exfalso
                have hlt : l < t := by
                  rcases Nat.lt_or_ge l t with g | g
                  · exact g
                  · rw [lim_Sg hb g] at er
                    have := Int.mul_pos (pB_pos l) gr
                    omega
                have e13 : k + l = 13 := by omega
                have h4 := Int.mul_le_mul_of_nonneg_left (show (1 : Int) ≤ r by omega) (Int.le_of_lt (pB_pos l))
                have h5 := (lim_Lr hb l).lo
                have h6 := Int.mul_le_mul_of_nonneg_right (show 1 ≤ x by omega) hb0
                have h7 := Int.mul_le_mul_of_nonneg_right (show pB l ≤ x * b by omega) (Int.le_of_lt (pB_pos k))
                rw [← pB_add, Nat.add_comm l k, e13] at h7
                have := hL.lo
                omega
              · rw [show x = 0 by omega, Int.zero_mul, Int.zero_mul]
            · rw [show r = 0 by omega, Int.mul_zero, Int.add_zero] at er
              rw [← er]
          rw [hxb, ← hk1] at hSK
          have hcase : Sg (K (q + 1)) 13 < pB (k + l) ∧ Sg (lim M p1 s) (k + 1) * b < pB (k + l) := by
            by_cases e13 : k + l = 13
            · rw [e13]; exact ⟨hLK.hi, hXab⟩
            · have el : l = t + 1 := by omega
              subst el
              have e : k + (t + 1) = k + 1 + t := by omega
              refine ⟨?_, by rw [e]; exact hXk⟩
              rw [Sg_zeros (m := k + (t + 1)) hkl (fun i h1 h2 => by rw [hun i h1]; exact Sg_top0 hL hTk (by omega) h2)]
              exact (hLK.mono hkl).hi
          have hc := carry0 hSK hLK.lo hcase.1 hX0 hcase.2
          rw [hc] at hSK
          omega
        unfold Na_multiply_24b
        rw [hK2]
        refine ok_ck hq (ok_ck hp1 (ok_ck hp2 (ok_ck (rgI_nat (by omega)) (ok_ck (rgI_nat (by omega)) (ok_if (fun e => ?_) (fun e => ok_ck ⟨by omega, by omega⟩ (ok_if (fun e2 => ?_) (fun e2 => ?_))))))))
        · exact ok_some (ok_out (by show (1 : Nat) ≠ 0; decide) ⟨rfl, hoK, hLK, fin (Or.inl (by omega))⟩)
        · exact ok_some (ok_out (by show (1 : Nat) ≠ 0; decide) ⟨rfl, hoK, hLK, fin (Or.inr (by omega))⟩)
        · rw [limbAt_eq hp2 hK2 ht (by omega), hK2r, hK1r, Int.toNat_natCast, hx2]
          have gy := lim_Lr hb 13 l (by omega)
          obtain ⟨y, hy⟩ : ∃ y, y = lim M p2 t l := ⟨_, rfl⟩
          have hy' : (if l < t then M (p2 + 1) l else 0) = y := hy.symm
          rw [hy']
          rw [← hy] at gy
          rw [show ((k : Int) + (l : Int)).toNat = k + l by omega]
          have gz := hLK (k + l) (by omega)
          obtain ⟨z, hz⟩ : ∃ z, z = K (q + 1) (k + l) := ⟨_, rfl⟩
          rw [← hz] at gz ⊢
          have hxy0 := Int.mul_nonneg gx.1 gy.1
          have hxy1 : x * y ≤ 1073741823 * 1073741823 := by
            have h1 := Int.mul_le_mul_of_nonneg_right (show x ≤ 1073741823 by omega) gy.1
            omega
          refine ok_ck ⟨by omega, by omega, by omega⟩ (ok_ck ⟨by omega, by omega⟩ (ok_sb (ok_ck ⟨by omega, by omega⟩ (ok_ck ⟨by omega, by omega, by omega⟩ (ok_ck ⟨by omega, by omega⟩ (ok_nb (ok_ck ⟨by omega, by omega⟩ (ok_some (ok_go rfl ⟨⟨l + 1, by show (l : Int) + 1 = _; omega, by omega, by omega, hoK.u2 (Or.inr rfl), ?_, ?_, ?_, ?_, fun i hi => ?_⟩, ?_⟩)))))))))
          · show Lr (u2 K (q + 1) (k + l) _ (q + 1)) 13
            rw [u2_rowself]
            exact Lr_upd hLK (by omega) (by omega)
          · show 0 ≤ (c + (x * y + z)) / 1073741824
            omega
          · show (c + (x * y + z)) / 1073741824 < 1073741824
            omega
          · show Sg (u2 K (q + 1) (k + l) ((c + (x * y + z)) % 1073741824) (q + 1)) 13 + (c + (x * y + z)) / 1073741824 * pB (k + (l + 1)) = _
            rw [u2_rowself, Sg_upd (by omega), ← hz, Sg_succ (lim M p2 t) l, ← hy]
            rw [show k + (l + 1) = (k + l) + 1 by omega, pB_succ]
            have hd : c + (x * y + z) = (c + (x * y + z)) / 1073741824 * 1073741824 + (c + (x * y + z)) % 1073741824 := by omega
            have e2 : x * (Sg (lim M p2 t) l + y * pB l) * pB k = x * Sg (lim M p2 t) l * pB k + x * y * pB (k + l) := by rw [pB_add]; grind
            rw [e2]
            generalize (c + (x * y + z)) / 1073741824 = u at *
            generalize (c + (x * y + z)) % 1073741824 = w at *
            generalize x * y = xy at *
            generalize x * Sg (lim M p2 t) l * pB k = B9 at *
            have e3 : xy = u * 1073741824 + w - c - z := by omega
            rw [e3]
            grind
          · show u2 K (q + 1) (k + l) _ (q + 1) i = _
            rw [u2_ne (Or.inr (by omega))]
            exact hun i (by omega)
          · show 14 - ((l : Int) + 1).toNat < 14 - (l : Int).toNat
            omega
      · rintro ⟨u, c, j, K⟩ ⟨h0, h1, h2, h3⟩
        refine ok_ck h0 (ok_some (ok_go rfl ⟨⟨k + 1, by show (k : Int) + 1 = _; omega, by omega, h1, h2, h3⟩, by show s - ((k : Int) + 1).toNat < s - (k : Int).toNat; omega⟩))
  · rintro ⟨u, i, N⟩ ⟨h0, ho, hL, hS⟩
    exact ok_ck h0 (ok_bm (ok_trim' (m := 13) hq (Nat.le_refl _) hL hS ho) fun K hK => ok_some hK)
