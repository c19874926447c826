/-! NATURALS: compared, added, subtracted, multiplied -/
theorem ok_sb {α β : Type} {a : α} {f : α → Option β} {Q : β → Prop} (h : Ok (f a) Q) : Ok ((some a).bind f) Q := h
theorem ap.q1 {q p : Nat} (h : ap q p) : p ≠ q ∧ p ≠ q + 1 ∧ p + 1 ≠ q ∧ p + 1 ≠ q + 1 := by
  rcases h with h | h <;> exact ⟨by omega, by omega, by omega, by omega⟩
theorem lim_Lr' {M : Mm} {q s n : Nat} (h : Lr (M (q + 1)) s) : Lr (lim M q s) n := by
  intro i _
  unfold lim
  by_cases hi : i < s
  · rw [if_pos hi]; exact h i hi
  · rw [if_neg hi]; exact ⟨by decide, by decide⟩
theorem isOne_eq {E : Ev} {M : Mm} {q s : Nat} {v : Int} (hq : isNa E q) (h : NatS M q s v) : f_Na_isOne E M q = some (if v = 1 then 1 else 0) := by
  unfold f_Na_isOne
  rw [ck_i hq, ck_i h.rg, h.1]
  by_cases h1 : s = 1
  · subst h1
    have h3 := h.2.2.1 0 (by decide)
    have h5 : Sg (M (q + 1)) 1 = v := h.2.2.2.2
    have e : v = M (q + 1) 0 := by
      rw [← h5]
      show (0 : Int) + M (q + 1) 0 * 1 = _
      omega
    rw [if_pos (by omega), ck_i (show rgI (M (q + 1) 0) from ⟨by omega, by omega⟩), e]
    by_cases h9 : M (q + 1) 0 = 1
    · rw [if_pos h9, if_pos h9]
    · rw [if_neg h9, if_neg h9]
  · rw [if_neg (by omega)]
    have hv : v ≠ 1 := by
      intro hv
      have h2 := h.size_le (m := 1) (by rw [hv]; decide)
      have h3 : s = 0 := by omega
      have := h.zero.mp h3
      omega
    rw [if_neg hv]
theorem ok_compare {E : Ev} {M : Mm} {q p s t : Nat} {a b : Int} (hq : isNa E q) (hp : isNa E p) (ha : NatS M q s a) (hb : NatS M p t b) : Ok (f_Na_compareWith E M q p) (fun r => r = if a < b then -1 else if b < a then 1 else 0) := by
  have hs := ha.2.1
  have ht := hb.2.1
  unfold f_Na_compareWith
  refine ok_ck hq (ok_ck hp (ok_ck ha.rg (ok_ck hb.rg (ok_nb (ok_bm (L_Na_compareWith_14 E q p M (I := fun i => ∃ k : Nat, i = (k : Int) - 1 ∧ k ≤ 13 ∧ ∀ j, k ≤ j → j < 13 → lim M q s j = lim M p t j) (μ := fun i => (i + 1).toNat) (Q := fun r => (r.1 = 2 ∧ a = b) ∨ (r.1 = 1 ∧ ∃ k : Nat, r.2 = (k : Int) ∧ k < 13 ∧ lim M q s k ≠ lim M p t k ∧ ∀ j, k < j → j < 13 → lim M q s j = lim M p t j)) ?_ FU _ ⟨max s t, by rw [ha.1, hb.1]; omega, by omega, fun j h1 h2 => by unfold lim; rw [if_neg (by omega), if_neg (by omega)]⟩ (by rw [ha.1, hb.1]; show _ < 5000; omega)) ?_)))))
  · rintro i ⟨k, rfl, hk, he⟩
    unfold Na_compareWith_14b
    refine ok_ck hq (ok_ck hp (ok_ck ⟨by omega, by omega⟩ (ok_if (fun c => ?_) (fun c => ?_))))
    · have e : k = 0 := by omega
      subst e
      refine ok_some (ok_out (by show (2 : Nat) ≠ 0; decide) (Or.inl ⟨rfl, ?_⟩))
      rw [← lim_Sg ha hs, ← lim_Sg hb ht]
      exact Sg_congr fun j hj => he j (Nat.zero_le j) hj
    · obtain ⟨j, rfl⟩ : ∃ j, k = j + 1 := ⟨k - 1, by omega⟩
      rw [show ((j + 1 : Nat) : Int) - 1 = (j : Int) by omega]
      rw [limbAt_eq hq ha.1 hs (by omega), limbAt_eq hp hb.1 ht (by omega)]
      show Ok (ck (rgI (lim M q s j)) (ck (rgI (lim M p t j)) (if lim M q s j = lim M p t j then some (0, (j : Int) + -1) else some (1, (j : Int))))) _
      have h1 := lim_Lr ha 13 j (by omega)
      have h2 := lim_Lr hb 13 j (by omega)
      refine ok_ck ⟨by omega, by omega⟩ (ok_ck ⟨by omega, by omega⟩ (ok_if (fun c2 => ?_) (fun c2 => ?_)))
      · refine ok_some (ok_go rfl ⟨⟨j, by show (j : Int) + -1 = _; omega, by omega, fun i h3 h4 => ?_⟩, by show ((j : Int) + -1 + 1).toNat < ((j : Int) + 1).toNat; omega⟩)
        by_cases e : i = j
        · rw [e]; exact c2
        · exact he i (by omega) h4
      · exact ok_some (ok_out (by show (1 : Nat) ≠ 0; decide) (Or.inr ⟨rfl, j, rfl, by omega, c2, fun i h3 h4 => he i (by omega) h4⟩))
  · rintro ⟨u, w⟩ h
    rcases h with ⟨h0, h⟩ | ⟨h0, k, h1, hk, h2, h3⟩
    · have h0 : u = 2 := h0
      subst h0
      refine ok_if (fun c => absurd c (by decide)) (fun _ => ok_if (fun _ => ok_some ?_) (fun c => absurd rfl c))
      rw [if_neg (by omega), if_neg (by omega)]
    · have h0 : u = 1 := h0
      have h1 : w = (k : Int) := h1
      subst h0
      subst h1
      have e1 := lim_Lr ha 13 k hk
      have e2 := lim_Lr hb 13 k hk
      refine ok_if (fun _ => ?_) (fun c => absurd rfl c)
      rw [limbAt_eq hq ha.1 hs (by omega), limbAt_eq hp hb.1 ht (by omega)]
      show Ok (ck (rgI (lim M q s k)) (ck (rgI (lim M p t k)) (if lim M p t k ≤ lim M q s k then some 1 else some (-1)))) _
      refine ok_ck ⟨by omega, by omega⟩ (ok_ck ⟨by omega, by omega⟩ (ok_if (fun c2 => ok_some ?_) (fun c2 => ok_some ?_)))
      · have := Sg_cmp (x := lim M p t) (y := lim M q s) (i := k) (n := 13) (lim_Lr hb 13) (lim_Lr ha 13) hk (by omega) (fun j g1 g2 => (h3 j g1 g2).symm)
        rw [lim_Sg ha hs, lim_Sg hb ht] at this
        rw [if_neg (by omega), if_pos this]
      · have := Sg_cmp (x := lim M q s) (y := lim M p t) (i := k) (n := 13) (lim_Lr ha 13) (lim_Lr hb 13) hk (by omega) (fun j g1 g2 => h3 j g1 g2)
        rw [lim_Sg ha hs, lim_Sg hb ht] at this
        rw [if_pos this]
theorem NatAt.S {M : Mm} {q : Nat} {v : Int} (h : NatAt M q v) : ∃ s, NatS M q s v := h
/-- trimTo behind a loop -/
theorem ok_trim' {E : Ev} {M M0 : Mm} {q m : Nat} {v : Int} (hq : isNa E q) (hm : m ≤ 13) (hr : Lr (M (q + 1)) m) (hv : Sg (M (q + 1)) m = v) (ho : Off (nn q) M0 M) : Ok (f_Na_trimTo E M q (m : Int)) (fun N => NatAt N q v ∧ Off (nn q) M0 N) :=
  (ok_trim hq hm hr).mono fun N h => ⟨by rw [← hv]; exact h.1, ho.trans (h.2.mono fun i hi => Or.inl hi)⟩
theorem ok_add {E : Ev} {M : Mm} {q p : Nat} {a b : Int} (hq : isNa E q) (hp : isNa E p) (hap : ap q p) (ha : NatAt M q a) (hb : NatAt M p b) (hlt : a + b < pB 13) : Ok (f_Na_add E M q p) (fun N => NatAt N q (a + b) ∧ Off (nn q) M N) := by
  obtain ⟨s, ha⟩ := ha
  obtain ⟨t, hb⟩ := hb
  have hs := ha.2.1
  have ht := hb.2.1
  unfold f_Na_add
  rw [ha.1, hb.1]
  obtain ⟨m, hm⟩ : ∃ m : Nat, m = min (max s t + 1) 13 := ⟨_, rfl⟩
  have em : min (max (s : Int) (t : Int) + 1) 13 = (m : Int) := by omega
  refine ok_ck hq (ok_ck hp (ok_ck (rgI_nat (by omega)) (ok_ck (rgI_nat (by omega)) (ok_ck ⟨by omega, by omega⟩ (ok_nb ?_)))))
  rw [em]
  refine ok_bm (L_Na_add_24 E q p (m : Int) (I := fun N c i => ∃ k : Nat, i = (k : Int) ∧ k ≤ m ∧ Off (nn q) M N ∧ N q 1 = (s : Int) ∧ (∀ j, k ≤ j → N (q + 1) j = M (q + 1) j) ∧ Lr (N (q + 1)) k ∧ 0 ≤ c ∧ c ≤ 1 ∧ Sg (N (q + 1)) k + c * pB k = Sg (lim M q s) k + Sg (lim M p t) k) (μ := fun _ _ i => m - i.toNat) (Q := fun r => r.1 = 1 ∧ Off (nn q) M r.2.2.2 ∧ Lr (r.2.2.2 (q + 1)) m ∧ Sg (r.2.2.2 (q + 1)) m + r.2.1 * pB m = Sg (lim M q s) m + Sg (lim M p t) m) ?_ FU M 0 0 ⟨0, rfl, Nat.zero_le _, Off.refl, ha.1, fun _ _ => rfl, fun i hi => absurd hi (Nat.not_lt_zero i), by omega, by omega, rfl⟩ (by show m - _ < 5000; omega)) ?_
  · rintro N c i ⟨k, rfl, hk, ho, h1, h2, h3, h4, h5, h6⟩
    unfold Na_add_24b
    refine ok_ck hq (ok_ck hp (ok_ck (rgI_nat (by omega)) (ok_ck (rgI_nat (by omega)) (ok_if (fun d => ?_) (fun d => ?_)))))
    · have e : k = m := by omega
      subst e
      exact ok_some (ok_out (by show (1 : Nat) ≠ 0; decide) ⟨rfl, ho, h3, h6⟩)
    · have hb1 : N p 1 = (t : Int) := by rw [ho p hap.n0, hb.1]
      have hb2 : N (p + 1) = M (p + 1) := ho _ hap.n1
      rw [limbAt_eq hq h1 hs (by omega), limbAt_eq hp hb1 ht (by omega), hb2, h2 k (Nat.le_refl k)]
      have g1 := lim_Lr ha 13 k (by omega)
      have g2 := lim_Lr hb 13 k (by omega)
      have e6 : Sg (lim M q s) (k + 1) + Sg (lim M p t) (k + 1) = Sg (N (q + 1)) k + (lim M q s k + lim M p t k + c) * pB k := by
        rw [Sg_succ, Sg_succ]
        grind
      obtain ⟨x, hx⟩ : ∃ x, x = lim M q s k := ⟨_, rfl⟩
      obtain ⟨y, hy⟩ : ∃ y, y = lim M p t k := ⟨_, rfl⟩
      have hx' : (if k < s then M (q + 1) k else 0) = x := hx.symm
      have hy' : (if k < t then M (p + 1) k else 0) = y := hy.symm
      rw [hx', hy']
      rw [← hx, ← hy] at e6
      rw [← hx] at g1
      rw [← hy] at g2
      refine ok_sb (ok_sb ?_)
      refine ok_nb (ok_ck ⟨by omega, by omega, by omega⟩ (ok_ck ⟨by omega, by omega⟩ (ok_nb (ok_some (ok_go rfl ⟨⟨k + 1, by show (k : Int) + 1 = _; omega, by omega, ho.u2 (Or.inr rfl), ?_, fun j hj => ?_, ?_, ?_, ?_, ?_⟩, ?_⟩)))))
      · show u2 N (q + 1) (k : Int).toNat _ q 1 = _
        rw [u2_row (by omega)]; exact h1
      · show u2 N (q + 1) (k : Int).toNat _ (q + 1) j = _
        rw [Int.toNat_natCast, u2_ne (Or.inr (by omega))]; exact h2 j (by omega)
      · show Lr (u2 N (q + 1) (k : Int).toNat _ (q + 1)) (k + 1)
        rw [u2_rowself, Int.toNat_natCast]
        exact Lr_up h3 (by omega) (by omega)
      · show 0 ≤ (x + y + c) / 1073741824
        omega
      · show (x + y + c) / 1073741824 ≤ 1
        omega
      · show Sg (u2 N (q + 1) (k : Int).toNat ((x + y + c) % 1073741824) (q + 1)) (k + 1) + (x + y + c) / 1073741824 * pB (k + 1) = _
        rw [u2_rowself, Int.toNat_natCast, Sg_up, pB_succ, e6]
        have : x + y + c = (x + y + c) / 1073741824 * 1073741824 + (x + y + c) % 1073741824 := by omega
        generalize (x + y + c) / 1073741824 = u at *
        generalize (x + y + c) % 1073741824 = w at *
        rw [this]
        grind
      · show m - ((k : Int) + 1).toNat < m - (k : Int).toNat
        omega
  · rintro ⟨u, c, i, N⟩ ⟨h0, ho, h1, h2⟩
    refine ok_ck h0 (ok_bm (ok_trim' (v := a + b) hq (by omega) h1 ?_ ho) fun K hK => ok_some hK)
    have h2 : Sg (N (q + 1)) m + c * pB m = Sg (lim M q s) m + Sg (lim M p t) m := h2
    have hab : a + b < pB m := by
      by_cases e : m = 13
      · rw [e]; exact hlt
      · obtain ⟨k, rfl⟩ : ∃ k, m = k + 1 := ⟨m - 1, by omega⟩
        have := ha.hi
        have := hb.hi
        have := pB_le (show s ≤ k by omega)
        have := pB_le (show t ≤ k by omega)
        have := pB_pos k
        rw [pB_succ]
        omega
    have hab0 : 0 ≤ a + b := by have := ha.lo; have := hb.lo; omega
    have e1 : Sg (lim M q s) m = a := by
      by_cases e : s ≤ m
      · exact lim_Sg ha e
      · omega
    have e2 : Sg (lim M p t) m = b := by
      by_cases e : t ≤ m
      · exact lim_Sg hb e
      · omega
    rw [e1, e2] at h2
    have hc := carry0 h2 h1.lo h1.hi hab0 hab
    rw [hc] at h2
    omega
theorem ok_subtract {E : Ev} {M : Mm} {q p : Nat} {a b : Int} (hq : isNa E q) (hp : isNa E p) (hap : ap q p) (ha : NatAt M q a) (hb : NatAt M p b) (hle : b ≤ a) : Ok (f_Na_subtract E M q p) (fun N => NatAt N q (a - b) ∧ Off (nn q) M N) := by
  obtain ⟨s, ha⟩ := ha
  obtain ⟨t, hb⟩ := hb
  have hs := ha.2.1
  have ht := hb.2.1
  have hts : t ≤ s := hb.size_le (by have := ha.hi; omega)
  unfold f_Na_subtract
  refine ok_ck hq (ok_ck hp (ok_bm (L_Na_subtract_4 E q p (I := fun N c i => ∃ k : Nat, i = (k : Int) ∧ k ≤ s ∧ Off (nn q) M N ∧ N q 1 = (s : Int) ∧ (∀ j, k ≤ j → N (q + 1) j = M (q + 1) j) ∧ Lr (N (q + 1)) k ∧ -1 ≤ c ∧ c ≤ 0 ∧ Sg (N (q + 1)) k + c * pB k = Sg (M (q + 1)) k - Sg (lim M p t) k) (μ := fun _ _ i => s - i.toNat) (Q := fun r => r.1 = 1 ∧ Off (nn q) M r.2.2.2 ∧ r.2.2.2 q 1 = (s : Int) ∧ Lr (r.2.2.2 (q + 1)) s ∧ Sg (r.2.2.2 (q + 1)) s + r.2.1 * pB s = Sg (M (q + 1)) s - Sg (lim M p t) s) ?_ FU M 0 0 ⟨0, rfl, Nat.zero_le _, Off.refl, ha.1, fun _ _ => rfl, fun i hi => absurd hi (Nat.not_lt_zero i), by omega, by omega, rfl⟩ (by show s - _ < 5000; omega)) ?_))
  · rintro N c i ⟨k, rfl, hk, ho, h1, h2, h3, h4, h5, h6⟩
    unfold Na_subtract_4b
    rw [h1]
    refine ok_ck hq (ok_ck hp (ok_ck (rgI_nat (by omega)) (ok_ck (rgI_nat (by omega)) (ok_if (fun d => ?_) (fun d => ?_)))))
    · have e : k = s := by omega
      subst e
      exact ok_some (ok_out (by show (1 : Nat) ≠ 0; decide) ⟨rfl, ho, h1, h3, h6⟩)
    · have hb1 : N p 1 = (t : Int) := by rw [ho p hap.n0, hb.1]
      have hb2 : N (p + 1) = M (p + 1) := ho _ hap.n1
      rw [limbAt_eq hp hb1 ht (by omega), hb2, Int.toNat_natCast, h2 k (Nat.le_refl k)]
      have g1 := ha.2.2.1 k (by omega)
      have g2 := lim_Lr hb 13 k (by omega)
      have e6 : Sg (M (q + 1)) (k + 1) - Sg (lim M p t) (k + 1) = Sg (N (q + 1)) k + (M (q + 1) k - lim M p t k + c) * pB k := by
        rw [Sg_succ, Sg_succ]
        grind
      obtain ⟨x, hx⟩ : ∃ x, x = M (q + 1) k := ⟨_, rfl⟩
      obtain ⟨y, hy⟩ : ∃ y, y = lim M p t k := ⟨_, rfl⟩
      have hy' : (if k < t then M (p + 1) k else 0) = y := hy.symm
      rw [hy']
      rw [← hx, ← hy] at e6
      rw [← hx] at g1 ⊢
      rw [← hy] at g2
      refine ok_ck ⟨by omega, by omega, by omega⟩ ?_
      refine ok_sb ?_
      refine ok_nb (ok_ck ⟨by omega, by omega⟩ (ok_some (ok_go rfl ⟨⟨k + 1, by show (k : Int) + 1 = _; omega, by omega, ho.u2 (Or.inr rfl), ?_, fun j hj => ?_, ?_, ?_, ?_, ?_⟩, ?_⟩)))
      · show u2 N (q + 1) k _ q 1 = _
        rw [u2_row (by omega)]; exact h1
      · show u2 N (q + 1) k _ (q + 1) j = _
        rw [u2_ne (Or.inr (by omega))]; exact h2 j (by omega)
      · show Lr (u2 N (q + 1) k _ (q + 1)) (k + 1)
        rw [u2_rowself]
        exact Lr_up h3 (by omega) (by omega)
      · show -1 ≤ (x - y + c) / 1073741824
        omega
      · show (x - y + c) / 1073741824 ≤ 0
        omega
      · show Sg (u2 N (q + 1) k ((x - y + c) % 1073741824) (q + 1)) (k + 1) + (x - y + c) / 1073741824 * pB (k + 1) = _
        rw [u2_rowself, Sg_up, pB_succ, e6]
        have : x - y + c = (x - y + c) / 1073741824 * 1073741824 + (x - y + c) % 1073741824 := by omega
        generalize (x - y + c) / 1073741824 = u at *
        generalize (x - y + c) % 1073741824 = w at *
        rw [this]
        grind
      · show s - ((k : Int) + 1).toNat < s - (k : Int).toNat
        omega
  · rintro ⟨u, c, i, N⟩ ⟨h0, ho, h1, h2, h3⟩
    have h1 : N q 1 = (s : Int) := h1
    have h3 : Sg (N (q + 1)) s + c * pB s = Sg (M (q + 1)) s - Sg (lim M p t) s := h3
    refine ok_ck h0 ?_
    show Ok ((f_Na_trimTo E N q (N q 1)).bind _) _
    rw [h1]
    refine ok_bm (ok_trim' (v := a - b) hq hs h2 ?_ ho) fun K hK => ok_some hK
    rw [ha.2.2.2.2, lim_Sg hb hts] at h3
    have := ha.hi
    have := hb.lo
    have hc := carry0 h3 h2.lo h2.hi (by omega) (by omega)
    rw [hc] at h3
    omega
