/-! LISTS: units, their votes -/
theorem cnt {n k : Nat} (h : k < n) : n - ((k : Int) + 1).toNat < n - (k : Int).toNat := by omega
theorem c1 (k : Nat) : (k : Int) + 1 = ((k + 1 : Nat) : Int) := rfl
theorem ne0 : (1 : Nat) ≠ 0 := by decide
theorem rgN {k : Nat} (h : k ≤ 2147483647) : rgI (k : Int) := ⟨by omega, by omega⟩
theorem inN {k n : Nat} (h : k < n) (h2 : n ≤ 2147483647) : inb (k : Int) n := ⟨by omega, by omega, by omega⟩
def LiS (M : Mm) (n : Nat) : Prop := M 53 0 = (n : Int) ∧ n ≤ 8 ∧ ∀ k, k < n → (0 ≤ M 54 k ∧ M 54 k ≤ 10000000) ∧ (0 ≤ M 55 k ∧ M 55 k ≤ 4) ∧ rgI (M 56 k)
theorem LiS.of {M N : Mm} {n : Nat} (h : LiS M n) (h0 : N 53 0 = M 53 0) (h1 : N 54 = M 54) (h2 : N 55 = M 55) (h3 : N 56 = M 56) : LiS N n := by
  unfold LiS
  rw [h0, h1, h2, h3]
  exact h
abbrev SaU (al : Nat → Int) (a b : Nat) : Prop := a = b ∨ (0 < al a ∧ al a = al b)
theorem SaU.symm {al : Nat → Int} {a b : Nat} (h : SaU al a b) : SaU al b a := by
  rcases h with h | ⟨h1, h2⟩
  · exact Or.inl h.symm
  · exact Or.inr ⟨by omega, h2.symm⟩
theorem SaU.trans {al : Nat → Int} {a b c : Nat} (h : SaU al a b) (g : SaU al b c) : SaU al a c := by
  rcases h with h | ⟨h1, h2⟩
  · rw [h]; exact g
  · rcases g with g | ⟨g1, g2⟩
    · rw [← g]; exact Or.inr ⟨h1, h2⟩
    · exact Or.inr ⟨h1, h2.trans g2⟩
theorem isSame_eq {E : Ev} {M : Mm} {n a b : Nat} (h : LiS M n) (ha : a < n) (hb : b < n) : f_Li_isSameUnit E M (a : Int) (b : Int) = some (if SaU (M 55) a b then 1 else 0) := by
  have h8 := h.2.1
  have a1 := (h.2.2 a ha).2.1
  have b1 := (h.2.2 b hb).2.1
  unfold f_Li_isSameUnit
  rw [Int.toNat_natCast, Int.toNat_natCast, ck_i (rgN (by omega)), ck_i (rgN (by omega))]
  by_cases c : a = b
  · rw [if_pos (by omega), if_pos (Or.inl c)]
  · rw [if_neg (by omega), ck_i (inN (by omega) (by decide)), ck_i ⟨by omega, by omega⟩]
    by_cases d : M 55 a ≤ 0
    · rw [if_pos d, if_neg]
      rintro (q | ⟨q, -⟩)
      · exact c q
      · omega
    · rw [if_neg d, ck_i (inN (by omega) (by decide)), ck_i ⟨by omega, by omega⟩]
      by_cases e : M 55 a = M 55 b
      · rw [if_pos e, if_pos (Or.inr ⟨by omega, e⟩)]
      · rw [if_neg e, if_neg]
        rintro (q | ⟨-, q⟩)
        · exact c q
        · exact e q
/-- none ahead of a list is in its unit -/
def fst1 (al : Nat → Int) (l : Nat) : Prop := ∀ b, b < l → ¬ SaU al l b
theorem isFirst_ok {E : Ev} {M : Mm} {n l : Nat} (h : LiS M n) (hl : l < n) : Ok (f_Li_isFirstOfUnit E M (l : Int)) (fun r => (r = 1 ∧ fst1 (M 55) l) ∨ (r = 0 ∧ ¬ fst1 (M 55) l)) := by
  have h8 := h.2.1
  unfold f_Li_isFirstOfUnit
  refine ok_bm (R := fun r => (r.1 = 2 ∧ fst1 (M 55) l) ∨ (r.1 = 1 ∧ ¬ fst1 (M 55) l)) ?_ ?_
  · refine L_Li_isFirstOfUnit_2 E (l : Int) M (I := fun x => ∃ b : Nat, x = (b : Int) ∧ b ≤ l ∧ ∀ k, k < b → ¬ SaU (M 55) l k) (μ := fun x => l - x.toNat) ?_ FU 0 ⟨0, rfl, Nat.zero_le _, fun k hk => absurd hk (Nat.not_lt_zero k)⟩ (by show l - _ < 5000; omega)
    rintro x ⟨b, rfl, hb, hk⟩
    unfold Li_isFirstOfUnit_2b
    refine ok_ck (rgN (by omega)) (ok_ck (rgN (by omega)) (ok_if (fun c => ?_) (fun c => ?_)))
    · have e : b = l := by omega
      rw [e] at hk
      exact ok_some (ok_out (by show (2 : Nat) ≠ 0; decide) (Or.inl ⟨rfl, hk⟩))
    · rw [isSame_eq h hl (by omega)]
      refine ok_sb ?_
      by_cases c2 : SaU (M 55) l b
      · rw [if_pos c2]
        exact ok_ck ⟨by decide, by decide⟩ (ok_if (fun q => absurd q (by decide)) (fun _ => ok_some (ok_out (by show (1 : Nat) ≠ 0; decide) (Or.inr ⟨rfl, fun q => q b (by omega) c2⟩))))
      · rw [if_neg c2]
        refine ok_ck ⟨by decide, by decide⟩ (ok_if (fun q => ?_) (fun q => absurd rfl q))
        refine ok_some (ok_go rfl ⟨⟨b + 1, c1 b, by omega, fun k hk2 => ?_⟩, cnt (by omega)⟩)
        by_cases e : k = b
        · rw [e]; exact c2
        · exact hk k (by omega)
  · rintro ⟨t, x⟩ (⟨g, q⟩ | ⟨g, q⟩)
    · have g : t = 2 := g
      subst g
      exact ok_if (fun q => absurd q (by decide)) (fun _ => ok_if (fun _ => ok_some (Or.inl ⟨rfl, q⟩)) (fun q => absurd rfl q))
    · have g : t = 1 := g
      subst g
      exact ok_if (fun _ => ok_some (Or.inr ⟨rfl, q⟩)) (fun q => absurd rfl q)
theorem clear_ok {E : Ev} {M : Mm} {p : Nat} (hI : isDi E p) : Ok (f_Di_clear E M p) (fun N => Off (fun c => c = p) M N ∧ N p 0 = 0 ∧ N p 1 = 0) := by
  unfold f_Di_clear
  refine ok_ck hI (ok_some ⟨Off.u2 (S := fun c => c = p) (Off.u2 (S := fun c => c = p) Off.refl rfl) rfl, ?_, u2_at _ _ _ _⟩)
  rw [u2_ne (Or.inr (by decide)), u2_at]
theorem dappend_ok {E : Ev} {M : Mm} {p m : Nat} {x y z : Int} (hI : isDi E p) (h0 : M p 0 = (m : Int)) (hm : m < 8) : Ok (f_Di_append E M p x y z) (fun N => Off (fun c => c = p ∨ c = p + 1 ∨ c = p + 2 ∨ c = p + 3 ∨ c = p + 4) M N ∧ N p 0 = (m : Int) + 1 ∧ N p 1 = M p 1 ∧ (∀ k, N (p + 1) k = if k = m then x else M (p + 1) k) ∧ (∀ k, N (p + 2) k = if k = m then y else M (p + 2) k) ∧ (∀ k, N (p + 3) k = if k = m then z else M (p + 3) k) ∧ ∀ k, N (p + 4) k = if k = m then 0 else M (p + 4) k) := by
  unfold f_Di_append
  obtain ⟨A, hA⟩ : ∃ A, A = u2 M (p + 1) m x := ⟨_, rfl⟩
  obtain ⟨B, hB⟩ : ∃ B, B = u2 A (p + 2) m y := ⟨_, rfl⟩
  obtain ⟨C, hC⟩ : ∃ C, C = u2 B (p + 3) m z := ⟨_, rfl⟩
  obtain ⟨D, hD⟩ : ∃ D, D = u2 C (p + 4) m 0 := ⟨_, rfl⟩
  have a0 : A p 0 = (m : Int) := by rw [hA, u2_ne (Or.inl (by omega))]; exact h0
  have b0 : B p 0 = (m : Int) := by rw [hB, u2_ne (Or.inl (by omega))]; exact a0
  have c0 : C p 0 = (m : Int) := by rw [hC, u2_ne (Or.inl (by omega))]; exact b0
  have d0 : D p 0 = (m : Int) := by rw [hD, u2_ne (Or.inl (by omega))]; exact c0
  rw [h0, Int.toNat_natCast, ← hA, a0, Int.toNat_natCast, ← hB]
  refine ok_ck hI (ok_ck (rgN (by omega)) (ok_if (fun q => absurd q (by omega)) (fun _ => ok_ck (inN hm (by decide)) (ok_ck (inN hm (by decide)) (ok_nb ?_)))))
  rw [b0, Int.toNat_natCast, ← hC, c0, Int.toNat_natCast, ← hD]
  refine ok_ck (inN hm (by decide)) (ok_ck (inN hm (by decide)) (ok_nb ?_))
  rw [d0]
  refine ok_some ⟨?_, u2_at _ _ _ _, ?_, fun k => ?_, fun k => ?_, fun k => ?_, fun k => ?_⟩
  · rw [hD, hC, hB, hA]
    exact ((((Off.refl.u2 (Or.inr (Or.inl rfl))).u2 (Or.inr (Or.inr (Or.inl rfl)))).u2 (Or.inr (Or.inr (Or.inr (Or.inl rfl))))).u2 (Or.inr (Or.inr (Or.inr (Or.inr rfl))))).u2 (Or.inl rfl)
  · rw [u2_ne (Or.inr (by decide)), hD, u2_ne (Or.inl (by omega)), hC, u2_ne (Or.inl (by omega)), hB, u2_ne (Or.inl (by omega)), hA, u2_ne (Or.inl (by omega))]
  · rw [u2_ne (Or.inl (by omega)), hD, u2_ne (Or.inl (by omega)), hC, u2_ne (Or.inl (by omega)), hB, u2_ne (Or.inl (by omega)), hA, u2_if]
    by_cases c : k = m
    · rw [if_pos c, if_pos ⟨rfl, c⟩]
    · rw [if_neg c, if_neg (fun q => c q.2)]
  · rw [u2_ne (Or.inl (by omega)), hD, u2_ne (Or.inl (by omega)), hC, u2_ne (Or.inl (by omega)), hB, u2_if]
    by_cases c : k = m
    · rw [if_pos c, if_pos ⟨rfl, c⟩]
    · rw [if_neg c, if_neg (fun q => c q.2), hA, u2_ne (Or.inl (by omega))]
  · rw [u2_ne (Or.inl (by omega)), hD, u2_ne (Or.inl (by omega)), hC, u2_if]
    by_cases c : k = m
    · rw [if_pos c, if_pos ⟨rfl, c⟩]
    · rw [if_neg c, if_neg (fun q => c q.2), hB, u2_ne (Or.inl (by omega)), hA, u2_ne (Or.inl (by omega))]
  · rw [u2_ne (Or.inl (by omega)), hD, u2_if]
    by_cases c : k = m
    · rw [if_pos c, if_pos ⟨rfl, c⟩]
    · rw [if_neg c, if_neg (fun q => c q.2), hC, u2_ne (Or.inl (by omega)), hB, u2_ne (Or.inl (by omega)), hA, u2_ne (Or.inl (by omega))]
/-- the votes of the unit whose first list is f; how many lists it has -/
def uV (v al : Nat → Int) (f n : Nat) : Int := sN (fun l => if f ≤ l ∧ SaU al f l then v l else 0) n
theorem uV_bounds {v al : Nat → Int} {f n : Nat} (hv : ∀ k, k < n → 0 ≤ v k ∧ v k ≤ 10000000) : 0 ≤ uV v al f n ∧ uV v al f n ≤ 10000000 * (n : Int) := by
  have h1 : ∀ k, k < n → 0 ≤ (if f ≤ k ∧ SaU al f k then v k else 0) ∧ (if f ≤ k ∧ SaU al f k then v k else 0) ≤ 10000000 := fun k hk => by
    have := hv k hk
    by_cases c : f ≤ k ∧ SaU al f k
    · rw [if_pos c]; exact this
    · rw [if_neg c]; exact ⟨Int.le_refl 0, by decide⟩
  have h3 : ∀ k : Nat, sN (fun _ => (10000000 : Int)) k = 10000000 * (k : Int) := fun k => by
    induction k with
    | zero => rfl
    | succ k ih => rw [sN_succ, ih]; omega
  refine ⟨sN_nonneg (fun k hk => (h1 k hk).1), ?_⟩
  have := sN_le (f := fun l => if f ≤ l ∧ SaU al f l then v l else 0) (g := fun _ => 10000000) (n := n) (fun k hk => (h1 k hk).2)
  rw [h3] at this
  exact this
theorem uV_pos {v al : Nat → Int} {f n : Nat} (hv : ∀ k, k < n → 0 ≤ v k) : 0 < uV v al f n ↔ ∃ l, l < n ∧ f ≤ l ∧ SaU al f l ∧ 0 < v l := by
  have h1 : ∀ k, k < n → 0 ≤ (if f ≤ k ∧ SaU al f k then v k else 0) := fun k hk => by
    by_cases c : f ≤ k ∧ SaU al f k
    · rw [if_pos c]; exact hv k hk
    · rw [if_neg c]; exact Int.le_refl 0
  unfold uV
  rw [sN_pos h1]
  constructor
  · rintro ⟨l, hl, hp⟩
    have hp : 0 < (if f ≤ l ∧ SaU al f l then v l else 0) := hp
    by_cases c : f ≤ l ∧ SaU al f l
    · rw [if_pos c] at hp; exact ⟨l, hl, c.1, c.2, hp⟩
    · rw [if_neg c] at hp; exact absurd hp (by decide)
  · rintro ⟨l, hl, q1, q2, hp⟩
    refine ⟨l, hl, ?_⟩
    show 0 < (if f ≤ l ∧ SaU al f l then v l else 0)
    rw [if_pos ⟨q1, q2⟩]
    exact hp
theorem uV_alone {v al : Nat → Int} {f n : Nat} (hf : f < n) (ha : al f ≤ 0) : uV v al f n = v f := by
  unfold uV
  rw [sN_one hf (fun i _ hi => if_neg ?_), if_pos ⟨Nat.le_refl f, Or.inl rfl⟩]
  rintro ⟨-, q | ⟨q, -⟩⟩
  · exact hi q.symm
  · omega
theorem L9_ok {E : Ev} {M : Mm} {n f : Nat} (h : LiS M n) (hf : f < n) : Ok (l_Li_appendUnit_9 E (f : Int) 0 FU M 0 0 (f : Int)) (fun a => a.1 = 1 ∧ a.2.1 = uV (M 54) (M 55) f n ∧ (0 ≤ a.2.2.1 ∧ a.2.2.1 ≤ 8) ∧ (M 55 f ≤ 0 → a.2.2.1 ≤ 1) ∧ a.2.2.2.2 = M) := by
  have h8 := h.2.1
  refine L_Li_appendUnit_9 E (f : Int) 0 (I := fun N x4 x6 x7 => N = M ∧ ∃ k : Nat, x7 = (k : Int) ∧ f ≤ k ∧ k ≤ n ∧ x4 = uV (M 54) (M 55) f k ∧ (0 ≤ x6 ∧ x6 ≤ (k : Int)) ∧ (M 55 f ≤ 0 → x6 ≤ 1 ∧ (k = f → x6 = 0))) (μ := fun _ _ _ x => n - x.toNat) ?_ FU M 0 0 (f : Int) ⟨rfl, f, rfl, Nat.le_refl f, by omega, ?_, ⟨by omega, by omega⟩, fun _ => ⟨by omega, fun _ => rfl⟩⟩ (by show n - _ < 5000; omega)
  · rintro N x4 x6 x7 ⟨rfl, k, rfl, hfk, hk, hx, h6, h7⟩
    unfold Li_appendUnit_9b
    rw [h.1, Int.toNat_natCast]
    refine ok_ck (rgN (by omega)) (ok_ck (rgN (by omega)) (ok_if (fun c => ?_) (fun c => ?_)))
    · have e : k = n := by omega
      subst e
      exact ok_some (ok_out ne0 ⟨rfl, hx, ⟨h6.1, by show x6 ≤ 8; omega⟩, fun q => (h7 q).1, rfl⟩)
    · have hkn : k < n := by omega
      have b1 := (h.2.2 k hkn).1
      rw [isSame_eq h hf hkn]
      refine ok_sb ?_
      by_cases c2 : SaU (N 55) f k
      · rw [if_pos c2]
        refine ok_ck ⟨by decide, by decide⟩ (ok_if (fun q => absurd q (by decide)) (fun _ => ok_ck (inN (by omega) (by decide)) (ok_ck ⟨by omega, by omega⟩ (ok_some (ok_go rfl ⟨⟨rfl, k + 1, c1 k, by omega, by omega, ?_, ⟨by show 0 ≤ x6 + 1; omega, by show x6 + 1 ≤ _; omega⟩, fun q => ⟨?_, fun e => by omega⟩⟩, cnt hkn⟩)))))
        · show x4 + N 54 k = _
          rw [hx]
          unfold uV
          rw [sN_succ, if_pos ⟨hfk, c2⟩]
        · show x6 + 1 ≤ 1
          rcases c2 with e | ⟨e, -⟩
          · have := (h7 q).2 e.symm
            omega
          · omega
      · rw [if_neg c2]
        refine ok_ck ⟨by decide, by decide⟩ (ok_if (fun _ => ok_some (ok_go rfl ⟨⟨rfl, k + 1, c1 k, by omega, by omega, ?_, ⟨h6.1, by show x6 ≤ _; omega⟩, fun q => ⟨(h7 q).1, fun e => by omega⟩⟩, cnt hkn⟩)) (fun q => absurd rfl q))
        show x4 = _
        rw [hx]
        unfold uV
        rw [sN_succ, if_neg (fun q => c2 q.2), Int.add_zero]
  · unfold uV
    rw [sN_congr (g := fun _ => 0) (fun i hi => if_neg (fun q => by omega)), sN_zero]
