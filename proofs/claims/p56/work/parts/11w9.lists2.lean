/-! LISTS: all units -/
theorem L6_ok {E : Ev} {M : Mm} {n : Nat} {x1 x2 x3 : Int} (h : LiS M n) : Ok (l_Li_spread_6 E x1 x2 x3 FU M 0 0) (fun a => a.1 = 1 ∧ a.2.1 = sN (M 54) n ∧ a.2.2.2 = M) := by
  have h8 := h.2.1
  refine L_Li_spread_6 E x1 x2 x3 (I := fun N x4 x6 => N = M ∧ ∃ k : Nat, x6 = (k : Int) ∧ k ≤ n ∧ x4 = sN (M 54) k) (μ := fun _ _ x => n - x.toNat) ?_ FU M 0 0 ⟨rfl, 0, rfl, Nat.zero_le _, rfl⟩ (by show n - _ < 5000; omega)
  rintro N x4 x6 ⟨rfl, k, rfl, hk, hx⟩
  unfold Li_spread_6b
  rw [h.1, Int.toNat_natCast]
  refine ok_ck (rgN (by omega)) (ok_ck (rgN (by omega)) (ok_if (fun c => ?_) (fun c => ?_)))
  · have e : k = n := by omega
    subst e
    exact ok_some (ok_out ne0 ⟨rfl, hx, rfl⟩)
  · have b1 := (h.2.2 k (by omega)).1
    refine ok_ck (inN (by omega) (by decide)) (ok_ck ⟨by omega, by omega⟩ (ok_some (ok_go rfl ⟨⟨rfl, k + 1, c1 k, by omega, ?_⟩, cnt (by omega)⟩)))
    show x4 + N 54 k = _
    rw [hx, sN_succ]
/-- the units out of the first l lists -/
def UnD (M : Mm) (n l m : Nat) : Prop := m ≤ l ∧ DT M 57 m ∧ M 57 1 = 0 ∧ (∀ i, i < m → ∃ f : Nat, f < l ∧ M 58 i = (f : Int) ∧ fst1 (M 55) f ∧ M 59 i = uV (M 54) (M 55) f n ∧ M 61 i = 0) ∧ (∀ f, f < l → fst1 (M 55) f → 0 < uV (M 54) (M 55) f n → ∃ i, i < m ∧ M 58 i = (f : Int)) ∧ (∀ i j, i < j → j < m → M 58 i < M 58 j) ∧ ((∀ k, k < n → M 55 k = 0) → sN (M 59) m = sN (M 54) l ∧ M 53 6 = 0) ∧ (M 53 6 = 0 ∨ M 53 6 = 1)
def oU (c : Nat) : Prop := c = 53 ∨ c = 57 ∨ c = 58 ∨ c = 59 ∨ c = 60 ∨ c = 61
theorem appendUnit_ok {E : Ev} {M : Mm} {n l m : Nat} (hL : Lay E) (h : LiS M n) (hl : l < n) (hf : fst1 (M 55) l) (hU : UnD M n l m) : Ok (f_Li_appendUnit E M (l : Int) 0) (fun N => Off oU M N ∧ N 53 0 = M 53 0 ∧ N 53 10 = M 53 10 ∧ ∃ m2, UnD N n (l + 1) m2) := by
  have h8 := h.2.1
  obtain ⟨u1, u2', u3, u4, u5, u6, u7, u8⟩ := hU
  have hv : ∀ k, k < n → 0 ≤ M 54 k ∧ M 54 k ≤ 10000000 := fun k hk => (h.2.2 k hk).1
  have hb := uV_bounds (al := M 55) (f := l) hv
  have hone : (∀ k, k < n → M 55 k = 0) → uV (M 54) (M 55) l n = M 54 l := fun q => uV_alone hl (by rw [q l hl]; decide)
  unfold f_Li_appendUnit
  refine ok_bm (L9_ok h hl) ?_
  rintro ⟨t, x4, x6, x7, N⟩ ⟨g1, g2, g3, g4, g5⟩
  have k1 : t = 1 := g1
  have k2 : x4 = uV (M 54) (M 55) l n := g2
  have k3 : 0 ≤ x6 ∧ x6 ≤ 8 := g3
  have k4 : M 55 l ≤ 0 → x6 ≤ 1 := g4
  have k5 : N = M := g5
  rw [k5]
  refine ok_ck k1 (ok_ck ⟨by omega, by omega⟩ (ok_if (fun c => ?_) (fun c => ?_)))
  · refine ok_some ⟨Off.refl, rfl, rfl, m, by omega, u2', u3, fun i hi => ?_, fun f hf2 q1 q2 => ?_, u6, fun q => ?_, u8⟩
    · obtain ⟨f, a, b⟩ := u4 i hi
      exact ⟨f, by omega, b⟩
    · by_cases e : f = l
      · rw [e] at q2; omega
      · exact u5 f (by omega) q1 q2
    · have := hone q
      have := (hv l hl).1
      refine ⟨?_, (u7 q).2⟩
      rw [(u7 q).1, sN_succ]
      omega
  · refine ok_ck ⟨by omega, by omega⟩ (ok_ck (by decide) (ok_if (fun q => absurd q (by omega)) (fun _ => ok_ck (inN (by omega) (by decide)) ?_)))
    rw [Int.toNat_natCast]
    refine ok_bm (dappend_ok (m := m) (yo_57 hL) u2'.1 (by omega)) ?_
    rintro N2 ⟨o1, o2, o3, o4, o5, o6, o7⟩
    have o1 : Off (fun c => c = 57 ∨ c = 58 ∨ c = 59 ∨ c = 60 ∨ c = 61) M N2 := o1
    have o4 : ∀ k, N2 58 k = if k = m then (l : Int) else M 58 k := o4
    have o5 : ∀ k, N2 59 k = if k = m then x4 else M 59 k := o5
    have o6 : ∀ k, N2 60 k = if k = m then M 56 l else M 60 k := o6
    have o7 : ∀ k, N2 61 k = if k = m then 0 else M 61 k := o7
    have e53 : N2 53 = M 53 := o1 53 (by decide)
    have key : ∀ w : Int, (w = 0 ∨ w = 1) → ((∀ k, k < n → M 55 k = 0) → w = 0) → ∃ m2, UnD (u2 N2 53 6 w) n (l + 1) m2 := by
      intro w hw hw2
      obtain ⟨K, hKd⟩ : ∃ K, K = u2 N2 53 6 w := ⟨_, rfl⟩
      rw [← hKd]
      have kr : ∀ c, c ≠ 53 → K c = N2 c := fun c hc => by rw [hKd]; exact u2_row hc
      have k54 : K 54 = M 54 := (kr 54 (by decide)).trans (o1 54 (by decide))
      have k55 : K 55 = M 55 := (kr 55 (by decide)).trans (o1 55 (by decide))
      have p0 : K 57 0 = ((m + 1 : Nat) : Int) := by rw [kr 57 (by decide)]; exact o2
      have p1 : K 57 1 = 0 := by rw [kr 57 (by decide)]; exact o3.trans u3
      have p58 : ∀ k, K 58 k = if k = m then (l : Int) else M 58 k := fun k => by rw [kr 58 (by decide)]; exact o4 k
      have p59 : ∀ k, K 59 k = if k = m then uV (M 54) (M 55) l n else M 59 k := fun k => by rw [kr 59 (by decide), ← k2]; exact o5 k
      have p60 : ∀ k, K 60 k = if k = m then M 56 l else M 60 k := fun k => by rw [kr 60 (by decide)]; exact o6 k
      have p61 : ∀ k, K 61 k = if k = m then 0 else M 61 k := fun k => by rw [kr 61 (by decide)]; exact o7 k
      have pf : K 53 6 = w := by rw [hKd]; exact u2_at _ _ _ _
      refine ⟨m + 1, by omega, ⟨p0, by omega, fun i hi => ?_⟩, p1, fun i hi => ?_, fun f hf2 q1 q2 => ?_, fun i j hij hj => ?_, fun q => ?_, by rw [pf]; exact hw⟩
      · show (0 ≤ K 58 i ∧ K 58 i < 8) ∧ (1 ≤ K 59 i ∧ K 59 i ≤ 80000000) ∧ rgI (K 60 i) ∧ (0 ≤ K 61 i ∧ K 61 i ≤ 100)
        rw [p58 i, p59 i, p60 i, p61 i]
        by_cases e : i = m
        · rw [if_pos e, if_pos e, if_pos e, if_pos e]
          exact ⟨by omega, by omega, (h.2.2 l hl).2.2, by omega⟩
        · rw [if_neg e, if_neg e, if_neg e, if_neg e]
          exact u2'.2.2 i (by omega)
      · rw [p58 i, p59 i, p61 i, k54, k55]
        by_cases e : i = m
        · rw [if_pos e, if_pos e, if_pos e]
          exact ⟨l, by omega, rfl, hf, rfl, rfl⟩
        · rw [if_neg e, if_neg e, if_neg e]
          obtain ⟨f, a, b⟩ := u4 i (by omega)
          exact ⟨f, by omega, b⟩
      · rw [k55] at q1
        rw [k54, k55] at q2
        by_cases e : f = l
        · exact ⟨m, by omega, by rw [p58 m, if_pos rfl, e]⟩
        · obtain ⟨i, a, b⟩ := u5 f (by omega) q1 q2
          exact ⟨i, by omega, by rw [p58 i, if_neg (by omega)]; exact b⟩
      · rw [p58 i, p58 j, if_neg (show ¬ i = m by omega)]
        by_cases e : j = m
        · rw [if_pos e]
          obtain ⟨f, a, b, -⟩ := u4 i (by omega)
          omega
        · rw [if_neg e]
          exact u6 i j hij (by omega)
      · have q : ∀ k, k < n → M 55 k = 0 := fun k hk => by rw [← k55]; exact q k hk
        rw [k54, pf, sN_succ, p59 m, if_pos rfl, sN_congr (g := M 59) (fun i hi => by rw [p59 i, if_neg (by omega)]), (u7 q).1, hone q, sN_succ]
        exact ⟨rfl, hw2 q⟩
    have off2 : ∀ w : Int, Off oU M (u2 N2 53 6 w) := fun w => (o1.mono (fun c hc => Or.inr hc)).u2 (Or.inl rfl)
    have e6 : N2 53 6 = 0 ∨ N2 53 6 = 1 := by rw [e53]; exact u8
    have z : ∀ w k, k ≠ 6 → u2 N2 53 6 w 53 k = M 53 k := fun w k hk => by rw [u2_ne (Or.inr hk), e53]
    refine ok_ck (by rcases e6 with e | e <;> rw [e] <;> decide) (ok_if (fun d => ok_ck ⟨by omega, by omega⟩ (ok_if (fun d2 => ?_) (fun d2 => ?_))) (fun d => ?_))
    · exact ok_some ⟨off2 0, z 0 0 (by decide), z 0 10 (by decide), key 0 (Or.inl rfl) (fun _ => rfl)⟩
    · exact ok_some ⟨off2 1, z 1 0 (by decide), z 1 10 (by decide), key 1 (Or.inr rfl) (fun q => by
        have := k4 (by rw [q l hl]; decide)
        omega)⟩
    · exact ok_some ⟨off2 1, z 1 0 (by decide), z 1 10 (by decide), key 1 (Or.inr rfl) (fun q => by
        have := (u7 q).2
        rw [e53] at d
        exact absurd this d)⟩
theorem L49_ok {E : Ev} {M : Mm} {n : Nat} {x1 x2 x4 : Int} (hL : Lay E) (h : LiS M n) (h0 : M 57 0 = 0) (h1 : M 57 1 = 0) (h6 : M 53 6 = 0) : Ok (l_Li_spread_49 E x1 x2 0 x4 FU M 0) (fun a => a.1 = 1 ∧ Off oU M a.2.2 ∧ a.2.2 53 0 = M 53 0 ∧ a.2.2 53 10 = M 53 10 ∧ ∃ m, UnD a.2.2 n n m) := by
  have h8 := h.2.1
  refine L_Li_spread_49 E x1 x2 0 x4 (I := fun N x => ∃ l : Nat, x = (l : Int) ∧ l ≤ n ∧ Off oU M N ∧ N 53 0 = M 53 0 ∧ N 53 10 = M 53 10 ∧ ∃ m, UnD N n l m) (μ := fun _ x => n - x.toNat) ?_ FU M 0 ⟨0, rfl, Nat.zero_le _, Off.refl, rfl, rfl, 0, ?_⟩ (by show n - _ < 5000; omega)
  · rintro N x ⟨l, rfl, hl, ho, e0, e10, m, hU⟩
    have hN : LiS N n := h.of e0 (ho _ (by unfold oU; decide)) (ho _ (by unfold oU; decide)) (ho _ (by unfold oU; decide))
    unfold Li_spread_49b
    rw [hN.1]
    refine ok_ck (rgN (by omega)) (ok_ck (rgN (by omega)) (ok_if (fun c => ?_) (fun c => ?_)))
    · have e : l = n := by omega
      subst e
      exact ok_some (ok_out ne0 ⟨rfl, ho, e0, e10, m, hU⟩)
    · have hln : l < n := by omega
      refine ok_bm (isFirst_ok hN hln) ?_
      rintro r (⟨rfl, q⟩ | ⟨rfl, q⟩)
      · refine ok_ck (by decide) (ok_if (fun d => absurd d (by decide)) (fun _ => ok_ck (by decide) ?_))
        rw [Int.zero_mul]
        refine ok_bm (appendUnit_ok hL hN hln q hU) ?_
        rintro N2 ⟨o1, o2, o3, m2, o4⟩
        exact ok_some (ok_go rfl ⟨⟨l + 1, c1 l, by omega, ho.trans o1, o2.trans e0, o3.trans e10, m2, o4⟩, cnt hln⟩)
      · refine ok_ck (by decide) (ok_if (fun _ => ?_) (fun d => absurd rfl d))
        obtain ⟨u1, u2', u3, u4, u5, u6, u7, u8⟩ := hU
        refine ok_some (ok_go rfl ⟨⟨l + 1, c1 l, by omega, ho, e0, e10, m, by omega, u2', u3, fun i hi => ?_, fun f hf2 q1 q2 => ?_, u6, fun w => ?_, u8⟩, cnt hln⟩)
        · obtain ⟨f, a, b⟩ := u4 i hi
          exact ⟨f, by omega, b⟩
        · by_cases e : f = l
          · rw [e] at q1; exact absurd q1 q
          · exact u5 f (by omega) q1 q2
        · exfalso
          have w : ∀ k, k < n → N 55 k = 0 := w
          refine q (fun b hb s => ?_)
          rcases s with s | ⟨s, -⟩
          · omega
          · have := w l hln
            omega
  · refine ⟨Nat.le_refl 0, ⟨h0, by decide, fun i hi => absurd hi (Nat.not_lt_zero i)⟩, h1, fun i hi => absurd hi (Nat.not_lt_zero i), fun f hf => absurd hf (Nat.not_lt_zero f), fun i j _ hj => absurd hj (Nat.not_lt_zero j), fun _ => ⟨rfl, h6⟩, Or.inl h6⟩
