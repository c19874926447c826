/-! LISTS: inside a unit -/
def InD (M : Mm) (f l m : Nat) : Prop := m + f ≤ l ∧ DT M 64 m ∧ M 64 1 = 0 ∧ (∀ i, i < m → ∃ k : Nat, f ≤ k ∧ k < l ∧ M 65 i = (k : Int) ∧ SaU (M 55) f k ∧ 0 < M 54 k ∧ M 68 i = 0) ∧ (∀ k, f ≤ k → k < l → SaU (M 55) f k → 0 < M 54 k → ∃ i, i < m ∧ M 65 i = (k : Int)) ∧ ∀ i j, i < j → j < m → M 65 i < M 65 j
theorem L10_ok {E : Ev} {M : Mm} {n f : Nat} {x2 x3 : Int} (hL : Lay E) (h : LiS M n) (hf : f < n) (h0 : M 64 0 = 0) (h1 : M 64 1 = 0) : Ok (l_Li_spreadInside_10 E (f : Int) x2 x3 FU M (f : Int)) (fun a => a.1 = 1 ∧ Off (fun c => c = 64 ∨ c = 65 ∨ c = 66 ∨ c = 67 ∨ c = 68) M a.2.2 ∧ ∃ m, InD a.2.2 f n m) := by
  have h8 := h.2.1
  refine L_Li_spreadInside_10 E (f : Int) x2 x3 (I := fun N x => ∃ l : Nat, x = (l : Int) ∧ f ≤ l ∧ l ≤ n ∧ Off (fun c => c = 64 ∨ c = 65 ∨ c = 66 ∨ c = 67 ∨ c = 68) M N ∧ ∃ m, InD N f l m) (μ := fun _ x => n - x.toNat) ?_ FU M (f : Int) ⟨f, rfl, Nat.le_refl f, by omega, Off.refl, 0, by omega, ⟨h0, by decide, fun i hi => absurd hi (Nat.not_lt_zero i)⟩, h1, fun i hi => absurd hi (Nat.not_lt_zero i), fun k q1 q2 => by omega, fun i j _ hj => absurd hj (Nat.not_lt_zero j)⟩ (by show n - _ < 5000; omega)
  rintro N x ⟨l, rfl, hfl, hl, ho, m, hD⟩
  have hN : LiS N n := h.of (by rw [ho 53 (by decide)]) (ho 54 (by decide)) (ho 55 (by decide)) (ho 56 (by decide))
  unfold Li_spreadInside_10b
  rw [hN.1, Int.toNat_natCast]
  refine ok_ck (rgN (by omega)) (ok_ck (rgN (by omega)) (ok_if (fun c => ?_) (fun c => ?_)))
  · have e : l = n := by omega
    subst e
    exact ok_some (ok_out ne0 ⟨rfl, ho, m, hD⟩)
  · have hln : l < n := by omega
    obtain ⟨u1, u2', u3, u4, u5, u6⟩ := hD
    have b1 := (hN.2.2 l hln).1
    -- a list that doesn't come in
    have skip : (SaU (N 55) f l → ¬ 0 < N 54 l) → ∃ m, InD N f (l + 1) m := fun q => ⟨m, by omega, u2', u3, fun i hi => by
      obtain ⟨k, a, b, c⟩ := u4 i hi
      exact ⟨k, a, by omega, c⟩, fun k q1 q2 q3 q4 => by
      by_cases e : k = l
      · rw [e] at q3 q4; exact absurd q4 (q q3)
      · exact u5 k q1 (by omega) q3 q4, u6⟩
    rw [isSame_eq hN hf hln]
    refine ok_sb ?_
    by_cases c2 : SaU (N 55) f l
    · rw [if_pos c2]
      refine ok_ck (by decide) (ok_if (fun d => absurd d (by decide)) (fun _ => ok_ck (inN (by omega) (by decide)) (ok_ck ⟨by omega, by omega⟩ (ok_if (fun d => ?_) (fun d => ?_)))))
      · exact ok_some (ok_go rfl ⟨⟨l + 1, c1 l, by omega, by omega, ho, skip (fun _ => by omega)⟩, cnt hln⟩)
      · refine ok_bm (dappend_ok (m := m) (yo_64 hL) u2'.1 (by omega)) ?_
        rintro K ⟨o1, o2, o3, o4, o5, o6, o7⟩
        have o1 : Off (fun c => c = 64 ∨ c = 65 ∨ c = 66 ∨ c = 67 ∨ c = 68) N K := o1
        have o4 : ∀ k, K 65 k = if k = m then (l : Int) else N 65 k := o4
        have o5 : ∀ k, K 66 k = if k = m then N 54 l else N 66 k := o5
        have o6 : ∀ k, K 67 k = if k = m then N 56 l else N 67 k := o6
        have o7 : ∀ k, K 68 k = if k = m then 0 else N 68 k := o7
        have k54 : K 54 = N 54 := o1 54 (by decide)
        have k55 : K 55 = N 55 := o1 55 (by decide)
        refine ok_some (ok_go rfl ⟨⟨l + 1, c1 l, by omega, by omega, ho.trans o1, m + 1, by omega, ⟨o2, by omega, fun i hi => ?_⟩, o3.trans u3, fun i hi => ?_, fun k q1 q2 q3 q4 => ?_, fun i j hij hj => ?_⟩, cnt hln⟩)
        · show (0 ≤ K 65 i ∧ K 65 i < 8) ∧ (1 ≤ K 66 i ∧ K 66 i ≤ 80000000) ∧ rgI (K 67 i) ∧ (0 ≤ K 68 i ∧ K 68 i ≤ 100)
          rw [o4 i, o5 i, o6 i, o7 i]
          by_cases e : i = m
          · rw [if_pos e, if_pos e, if_pos e, if_pos e]
            exact ⟨by omega, by omega, (hN.2.2 l hln).2.2, by omega⟩
          · rw [if_neg e, if_neg e, if_neg e, if_neg e]
            exact u2'.2.2 i (by omega)
        · show ∃ k : Nat, f ≤ k ∧ k < l + 1 ∧ K 65 i = (k : Int) ∧ SaU (K 55) f k ∧ 0 < K 54 k ∧ K 68 i = 0
          rw [o4 i, o7 i, k54, k55]
          by_cases e : i = m
          · rw [if_pos e, if_pos e]
            exact ⟨l, by omega, by omega, rfl, c2, by omega, rfl⟩
          · rw [if_neg e, if_neg e]
            obtain ⟨k, a, b, c⟩ := u4 i (by omega)
            exact ⟨k, a, by omega, c⟩
        · have q3 : SaU (K 55) f k := q3
          have q4 : 0 < K 54 k := q4
          rw [k55] at q3
          rw [k54] at q4
          by_cases e : k = l
          · exact ⟨m, by omega, by show K 65 m = _; rw [o4 m, if_pos rfl, e]⟩
          · obtain ⟨i, a, b⟩ := u5 k q1 (by omega) q3 q4
            exact ⟨i, by omega, by show K 65 i = _; rw [o4 i, if_neg (by omega)]; exact b⟩
        · show K 65 i < K 65 j
          rw [o4 i, o4 j, if_neg (show ¬ i = m by omega)]
          by_cases e : j = m
          · rw [if_pos e]
            obtain ⟨k, a, b, c, -⟩ := u4 i (by omega)
            omega
          · rw [if_neg e]
            exact u6 i j hij (by omega)
    · rw [if_neg c2]
      exact ok_ck (by decide) (ok_if (fun _ => ok_some (ok_go rfl ⟨⟨l + 1, c1 l, by omega, by omega, ho, skip (fun q => absurd q c2)⟩, cnt hln⟩)) (fun d => absurd rfl d))
/-- the seats of a division written to its takers -/
theorem L81_ok {E : Ev} {M : Mm} {m n : Nat} (hL : Lay E) (h : DT M 64 m) (hn : n ≤ 8) (hnum : ∀ i, i < m → ∃ k : Nat, k < n ∧ M 65 i = (k : Int) ∧ M 71 k = 0) (hd : ∀ i j, i < j → j < m → M 65 i < M 65 j) (hb : ∀ l, l < n → 0 ≤ M 71 l ∧ M 71 l ≤ 100) : Ok (l_Li_spreadInside_81 E FU M 0) (fun a => a.1 = 1 ∧ Off (fun c => c = 71) M a.2.2 ∧ sN (a.2.2 71) n = sN (M 71) n + sN (M 68) m ∧ (∀ l, l < n → (∀ j, j < m → M 65 j ≠ (l : Int)) → a.2.2 71 l = M 71 l) ∧ (∀ j, j < m → ∀ l : Nat, M 65 j = (l : Int) → a.2.2 71 l = M 68 j) ∧ ∀ l, l < n → 0 ≤ a.2.2 71 l ∧ a.2.2 71 l ≤ 100) := by
  have h8 := h.2.1
  refine L_Li_spreadInside_81 E (I := fun N x => ∃ i : Nat, x = (i : Int) ∧ i ≤ m ∧ Off (fun c => c = 71) M N ∧ sN (N 71) n = sN (M 71) n + sN (M 68) i ∧ (∀ l, l < n → (∀ j, j < i → M 65 j ≠ (l : Int)) → N 71 l = M 71 l) ∧ (∀ j, j < i → ∀ l : Nat, M 65 j = (l : Int) → N 71 l = M 68 j) ∧ ∀ l, l < n → 0 ≤ N 71 l ∧ N 71 l ≤ 100) (μ := fun _ x => m - x.toNat) ?_ FU M 0 ⟨0, rfl, Nat.zero_le _, Off.refl, by show _ = _ + (0 : Int); omega, fun l _ _ => rfl, fun j hj => absurd hj (Nat.not_lt_zero j), hb⟩ (by show m - _ < 5000; omega)
  rintro N x ⟨i, rfl, hi, ho, hs, h2, h3, h4⟩
  have e65 : N 65 = M 65 := ho 65 (by decide)
  have e68 : N 68 = M 68 := ho 68 (by decide)
  have e64 : N 64 = M 64 := ho 64 (by decide)
  unfold Li_spreadInside_81b
  rw [e64, h.1, Int.toNat_natCast, e65, e68]
  refine ok_ck (rgN (by omega)) (ok_ck (rgN (by omega)) (ok_if (fun c => ?_) (fun c => ?_)))
  · have e : i = m := by omega
    subst e
    exact ok_some (ok_out ne0 ⟨rfl, ho, hs, h2, h3, h4⟩)
  · have him : i < m := by omega
    obtain ⟨k, hk, ek, zk⟩ := hnum i him
    obtain ⟨b1, -, -, b4⟩ := h.2.2 i him
    have b4 : 0 ≤ M 68 i ∧ M 68 i ≤ 100 := b4
    rw [ek, Int.toNat_natCast]
    have hz : N 71 k = 0 := (h2 k hk (fun j hj q => by have := hd j i hj him; omega)).trans zk
    have nw : ∀ l, u2 N 71 k (M 68 i) 71 l = if l = k then N 71 k + M 68 i else N 71 l := fun l => by
      rw [u2_if]
      by_cases e : l = k
      · rw [if_pos ⟨rfl, e⟩, if_pos e, hz]; omega
      · rw [if_neg (fun q => e q.2), if_neg e]
    refine ok_ck (inN (by omega) (by decide)) (ok_ck (inN (by omega) (by decide)) (ok_some (ok_go rfl ⟨⟨i + 1, c1 i, by omega, ho.u2 rfl, ?_, fun l hl q => ?_, fun j hj l hl => ?_, fun l hl => ?_⟩, cnt him⟩)))
    · show sN (u2 N 71 k (M 68 i) 71) n = _
      rw [sN_at (f := N 71) (i := k) (c := M 68 i) hk (fun l _ => nw l), hs, sN_succ]
      omega
    · show u2 N 71 k (M 68 i) 71 l = _
      rw [nw l, if_neg (fun e => q i (by omega) (by rw [ek, e]))]
      exact h2 l hl (fun j hj => q j (by omega))
    · show u2 N 71 k (M 68 i) 71 l = _
      rw [nw l]
      by_cases e : j = i
      · rw [e] at hl ⊢
        rw [if_pos (by omega), hz]; omega
      · have := hd j i (by omega) him
        rw [if_neg (by omega)]
        exact h3 j (by omega) l hl
    · show 0 ≤ u2 N 71 k (M 68 i) 71 l ∧ u2 N 71 k (M 68 i) 71 l ≤ 100
      rw [nw l]
      by_cases e : l = k
      · rw [if_pos e, hz]; omega
      · rw [if_neg e]; exact h4 l hl
def oI6 (c : Nat) : Prop := 64 ≤ c ∧ c ≤ 71
theorem spreadInside_ok {E : Ev} {M : Mm} {n f K : Nat} {r : Int} (hL : Lay E) (h : LiS M n) (hf : f < n) (hr : rgI r) (hK : K ≤ 60) (hv : 0 < uV (M 54) (M 55) f n) (hz : ∀ l, l < n → SaU (M 55) f l → M 71 l = 0) (hb : ∀ l, l < n → 0 ≤ M 71 l ∧ M 71 l ≤ 100) : Ok (f_Li_spreadInside E M (f : Int) r (K : Int)) (fun N => Off oI6 M N ∧ sN (N 71) n = sN (M 71) n + (K : Int) ∧ (∀ l, l < n → ¬ SaU (M 55) f l → N 71 l = M 71 l) ∧ (M 55 f ≤ 0 → N 71 f = (K : Int)) ∧ ∀ l, l < n → 0 ≤ N 71 l ∧ N 71 l ≤ 100) := by
  have h8 := h.2.1
  unfold f_Li_spreadInside
  refine ok_bm (clear_ok (yo_64 hL)) ?_
  rintro A ⟨a1, a2, a3⟩
  have hA : LiS A n := h.of (by rw [a1 53 (by decide)]) (a1 54 (by decide)) (a1 55 (by decide)) (a1 56 (by decide))
  refine ok_bm (L10_ok hL hA hf a2 a3) ?_
  rintro ⟨t, x, B⟩ ⟨g1, b1, m, hD⟩
  have g1 : t = 1 := g1
  have b1 : Off (fun c => c = 64 ∨ c = 65 ∨ c = 66 ∨ c = 67 ∨ c = 68) A B := b1
  obtain ⟨d1, d2, d3, d4, d5, d6⟩ := hD
  have d4 : ∀ i, i < m → ∃ k : Nat, f ≤ k ∧ k < n ∧ B 65 i = (k : Int) ∧ SaU (B 55) f k ∧ 0 < B 54 k ∧ B 68 i = 0 := d4
  have d6 : ∀ i j, i < j → j < m → B 65 i < B 65 j := d6
  have e54 : B 54 = M 54 := (b1 54 (by decide)).trans (a1 54 (by decide))
  have e55 : B 55 = M 55 := (b1 55 (by decide)).trans (a1 55 (by decide))
  have e71 : B 71 = M 71 := (b1 71 (by decide)).trans (a1 71 (by decide))
  have hm1 : 1 ≤ m := by
    obtain ⟨l, l1, l2, l3, l4⟩ := (uV_pos (fun k hk => (h.2.2 k hk).1.1)).mp hv
    obtain ⟨i, hi, -⟩ := d5 l l2 l1 (by show SaU (B 55) f l; rw [e55]; exact l3) (by show 0 < B 54 l; rw [e54]; exact l4)
    omega
  refine ok_ck g1 (ok_bm (distribute_ok (p := 64) (yo_64 hL) d2 hr hK (fun a b ha hb2 q => ?_) (fun i hi => ?_) d3) ?_)
  · have q : B 65 a = B 65 b := q
    rcases Nat.lt_trichotomy a b with c | c | c
    · have := d6 a b c hb2; omega
    · exact c
    · have := d6 b a c ha; omega
  · obtain ⟨k, -, -, -, -, -, w⟩ := d4 i hi
    exact w
  rintro C (⟨c0, -⟩ | ⟨-, c1', c2, c3, c4, -⟩)
  · omega
  have c1' : Off (fun c => c = 64 ∨ c = 68 ∨ c = 69 ∨ c = 70) B C := c1'
  have c4 : sN (C 68) m = (K : Int) := c4
  have f65 : C 65 = B 65 := c1' 65 (by decide)
  have f71 : C 71 = M 71 := (c1' 71 (by decide)).trans e71
  refine ok_bm (L81_ok (n := n) hL c2 h8 (fun i hi => ?_) (fun i j hij hj => by rw [f65]; exact d6 i j hij hj) (fun l hl => by rw [f71]; exact hb l hl)) ?_
  · obtain ⟨k, k1, k2, k3, k4, -⟩ := d4 i hi
    refine ⟨k, k2, by rw [f65]; exact k3, ?_⟩
    rw [f71]
    rw [e55] at k4
    exact hz k k2 k4
  rintro ⟨t2, x2, N⟩ ⟨g2, n1, n2, n3, n4, n5⟩
  have g2 : t2 = 1 := g2
  have n1 : Off (fun c => c = 71) C N := n1
  have n2 : sN (N 71) n = sN (C 71) n + sN (C 68) m := n2
  have n3 : ∀ l, l < n → (∀ j, j < m → C 65 j ≠ (l : Int)) → N 71 l = C 71 l := n3
  have n4 : ∀ j, j < m → ∀ l : Nat, C 65 j = (l : Int) → N 71 l = C 68 j := n4
  have n5 : ∀ l, l < n → 0 ≤ N 71 l ∧ N 71 l ≤ 100 := n5
  refine ok_ck g2 (ok_some ⟨?_, by rw [n2, f71, c4], fun l hl q => ?_, fun q => ?_, n5⟩)
  · refine (a1.mono ?_).trans ((b1.mono ?_).trans ((c1'.mono ?_).trans (n1.mono ?_))) <;> (intro i hi; unfold oI6; omega)
  · rw [n3 l hl (fun j hj w => ?_), f71]
    rw [f65] at w
    obtain ⟨k, k1, k2, k3, k4, -⟩ := d4 j hj
    rw [e55] at k4
    exact q (by rw [show l = k by omega]; exact k4)
  · have only : ∀ i, i < m → B 65 i = (f : Int) := fun i hi => by
      obtain ⟨k, k1, k2, k3, k4, -⟩ := d4 i hi
      rw [e55] at k4
      rcases k4 with w | ⟨w, -⟩
      · rw [k3, w]
      · omega
    have m1 : m = 1 := by
      rcases Nat.lt_or_ge 1 m with w | w
      · have := d6 0 1 (by decide) w
        rw [only 0 (by omega), only 1 w] at this
        omega
      · omega
    rw [n4 0 (by omega) f (by rw [f65]; exact only 0 (by omega)), ← c4, m1]
    show _ = (0 : Int) + C 68 0
    omega
