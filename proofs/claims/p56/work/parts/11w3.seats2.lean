theorem give_ok {E : Ev} {M : Mm} {p m i t : Nat} (hI : isDi E p) (h : DT M p m) (hi : i < m) (h1 : M p 1 = (t : Int)) (ht : t ≤ 60) : Ok (f_Di_give E M p (i : Int)) (fun N => Off (fun c => c = p ∨ c = p + 4 ∨ c = p + 6) M N ∧ (∀ k, N (p + 4) k = if k = i then M (p + 4) i + 1 else M (p + 4) k) ∧ N p 0 = M p 0 ∧ N p 1 = (t : Int) + 1 ∧ ∀ k, N (p + 6) k = if k = t then M (p + 1) i else M (p + 6) k) := by
  have h8 := h.2.1
  obtain ⟨x, hx⟩ : ∃ x, x = M (p + 4) i + 1 := ⟨_, rfl⟩
  have e1 : u2 M (p + 4) i x p 1 = (t : Int) := (u2_ne (Or.inl (by omega))).trans h1
  have e2 : u2 M (p + 4) i x (p + 1) i = M (p + 1) i := u2_ne (Or.inl (by omega))
  unfold f_Di_give
  rw [Int.toNat_natCast, ← hx, e1, e2, Int.toNat_natCast]
  refine ok_ck hI (ok_ck ⟨by omega, by omega, by omega⟩ (ok_ck ⟨by omega, by omega⟩ (ok_if (fun c => absurd c (by omega)) (fun _ => ok_nb (ok_ck ⟨by omega, by omega, by omega⟩ (ok_nb (ok_some ⟨?_, fun k => ?_, ?_, ?_, fun k => ?_⟩)))))))
  · exact ((Off.refl.u2 (Or.inr (Or.inl rfl))).u2 (Or.inr (Or.inr rfl))).u2 (Or.inl rfl)
  · rw [u2_ne (Or.inl (by omega)), u2_ne (Or.inl (by omega))]
    by_cases c : k = i
    · rw [if_pos c, c, u2_at, hx]
    · rw [if_neg c, u2_ne (Or.inr c)]
  · rw [u2_ne (Or.inr (by decide)), u2_ne (Or.inl (by omega)), u2_ne (Or.inl (by omega))]
  · rw [u2_at, u2_ne (Or.inl (by omega)), e1]
  · rw [u2_ne (Or.inl (by omega))]
    by_cases c : k = t
    · rw [if_pos c, c, u2_at]
    · rw [if_neg c, u2_ne (Or.inr c), u2_ne (Or.inl (by omega))]
/-- every seat went to a quotient as great as any next one -/
def QD (M : Mm) (p m : Nat) (r : Int) : Prop := ∀ i, i < m → 1 ≤ M (p + 4) i → ∀ j, j < m → M (p + 2) j * dv r (M (p + 4) i - 1) ≤ M (p + 2) i * dv r (M (p + 4) j)
theorem QD_give {M N : Mm} {p m i : Nat} {r : Int} (h : DT M p m) (hq : QD M p m r) (hi : i < m) (hbest : ∀ j, j < m → qge M p r i j) (h2 : N (p + 2) = M (p + 2)) (h4 : ∀ k, N (p + 4) k = if k = i then M (p + 4) i + 1 else M (p + 4) k) : QD N p m r := by
  intro a ha ha1 b hb
  obtain ⟨-, va, -, sa⟩ := h.2.2 a ha
  obtain ⟨-, vb, -, sb⟩ := h.2.2 b hb
  rw [h4 a] at ha1 ⊢
  rw [h4 b, h2]
  -- b's divisor is no less than before
  have hm : dv r (M (p + 4) b) ≤ dv r (if b = i then M (p + 4) i + 1 else M (p + 4) b) := by
    by_cases c : b = i
    · rw [if_pos c, c]
      exact (dv_mono (h.2.2 i hi).2.2.2.1 (by omega)).2
    · rw [if_neg c]; exact Int.le_refl _
  have hm2 : M (p + 2) a * dv r (M (p + 4) b) ≤ M (p + 2) a * dv r (if b = i then M (p + 4) i + 1 else M (p + 4) b) := Int.mul_le_mul_of_nonneg_left hm (by omega)
  refine Int.le_trans ?_ hm2
  by_cases c : a = i
  · rw [if_pos c, c, show M (p + 4) i + 1 - 1 = M (p + 4) i by omega]
    exact hbest b hb
  · rw [if_neg c] at ha1 ⊢
    exact hq a ha ha1 b hb
/-- the order of the seats names each taker as often as it has seats -/
def OC (M : Mm) (p m t : Nat) : Prop := ∀ i, i < m → sN (fun k => if M (p + 6) k = M (p + 1) i then 1 else 0) t = M (p + 4) i
theorem OC_give {M N : Mm} {p m i t : Nat} (hd : ∀ a b, a < m → b < m → M (p + 1) a = M (p + 1) b → a = b) (ho : OC M p m t) (hi : i < m) (h1 : N (p + 1) = M (p + 1)) (h4 : ∀ k, N (p + 4) k = if k = i then M (p + 4) i + 1 else M (p + 4) k) (h6 : ∀ k, N (p + 6) k = if k = t then M (p + 1) i else M (p + 6) k) : OC N p m (t + 1) := by
  intro a ha
  have e := ho a ha
  rw [sN_succ, h6 t, if_pos rfl, h1, h4 a, sN_congr (f := fun k => if N (p + 6) k = M (p + 1) a then (1 : Int) else 0) (g := fun k => if M (p + 6) k = M (p + 1) a then 1 else 0) (fun k hk => by rw [h6 k, if_neg (show ¬ k = t by omega)]), e]
  by_cases c : a = i
  · rw [if_pos (show M (p + 1) i = M (p + 1) a by rw [c]), if_pos c, c]
  · rw [if_neg (show ¬ M (p + 1) i = M (p + 1) a from fun q => c (hd i a hi ha q).symm), if_neg c]
    omega
theorem sN_at {f g : Nat → Int} {i : Nat} {c : Int} : ∀ {n : Nat}, i < n → (∀ k, k < n → g k = if k = i then f i + c else f k) → sN g n = sN f n + c
  | 0, h, _ => absurd h (Nat.not_lt_zero _)
  | n + 1, h, hg => by
    rw [sN_succ, sN_succ]
    by_cases e : i = n
    · subst e
      rw [hg i (Nat.lt_succ_self i), if_pos rfl, sN_congr (g := f) (fun k hk => by rw [hg k (by omega), if_neg (by omega)])]
      omega
    · rw [sN_at (show i < n by omega) (fun k hk => hg k (by omega)), hg n (Nat.lt_succ_self n), if_neg (show ¬ n = i by omega)]
      omega
/-- seats by quotients: how many, to whom, in which order -/
theorem L21_ok {E : Ev} {M : Mm} {p m K : Nat} {r : Int} (hI : isDi E p) (h : DT M p m) (hm : 1 ≤ m) (hr : rgI r) (hK : K ≤ 60) (hd : ∀ a b, a < m → b < m → M (p + 1) a = M (p + 1) b → a = b) (h0 : ∀ i, i < m → M (p + 4) i = 0) (h1 : M p 1 = 0) : Ok (l_Di_distribute_21 E p r (K : Int) FU M 0) (fun a => a.1 = 1 ∧ Off (fun c => c = p ∨ c = p + 4 ∨ c = p + 6) M a.2.2 ∧ DT a.2.2 p m ∧ a.2.2 p 1 = (K : Int) ∧ sN (a.2.2 (p + 4)) m = (K : Int) ∧ QD a.2.2 p m r ∧ OC a.2.2 p m K) := by
  refine L_Di_distribute_21 E p r (K : Int) (I := fun N x => ∃ t : Nat, x = (t : Int) ∧ t ≤ K ∧ Off (fun c => c = p ∨ c = p + 4 ∨ c = p + 6) M N ∧ DT N p m ∧ N p 1 = (t : Int) ∧ sN (N (p + 4)) m = (t : Int) ∧ QD N p m r ∧ OC N p m t) (μ := fun _ x => K - x.toNat) (Q := fun a => a.1 = 1 ∧ Off (fun c => c = p ∨ c = p + 4 ∨ c = p + 6) M a.2.2 ∧ DT a.2.2 p m ∧ a.2.2 p 1 = (K : Int) ∧ sN (a.2.2 (p + 4)) m = (K : Int) ∧ QD a.2.2 p m r ∧ OC a.2.2 p m K) ?_ FU M 0 ⟨0, rfl, Nat.zero_le _, Off.refl, h, h1, ?_, fun i hi c => absurd (h0 i hi) (by omega), fun i hi => (h0 i hi).symm⟩ (by show K - _ < 5000; omega)
  · rintro N x ⟨t, rfl, ht, ho, hT, hc, hs, hQ, hO⟩
    unfold Di_distribute_21b
    refine ok_ck hI (ok_ck ⟨by omega, by omega⟩ (ok_ck ⟨by omega, by omega⟩ (ok_if (fun c => ?_) (fun c => ?_))))
    · have e : t = K := by omega
      subst e
      exact ok_some (ok_out (by show (1 : Nat) ≠ 0; decide) ⟨rfl, ho, hT, hc, hs, hQ, hO⟩)
    · refine ok_bm (L32_ok hI hT hm hr) ?_
      rintro ⟨u, y, z, N2⟩ ⟨g1, g2, i, g3, g4, g5⟩
      have k1 : u = 1 := g1
      have k2 : N2 = N := g2
      have k3 : y = (i : Int) := g3
      subst k1 k2 k3
      refine ok_ck rfl (ok_bm (give_ok hI hT g4 hc (by omega)) ?_)
      rintro K2 ⟨o1, o2, o3, o4, o5⟩
      have r1 : K2 (p + 1) = N2 (p + 1) := o1 _ (by omega)
      have r2 : K2 (p + 2) = N2 (p + 2) := o1 _ (by omega)
      have r3 : K2 (p + 3) = N2 (p + 3) := o1 _ (by omega)
      have hs2 : sN (K2 (p + 4)) m = ((t + 1 : Nat) : Int) := by
        rw [sN_at (f := N2 (p + 4)) (i := i) (c := 1) g4 (fun k _ => by rw [o2 k]), hs]
        omega
      have nn : ∀ k, k < m → 0 ≤ K2 (p + 4) k := fun k hk => by
        rw [o2 k]
        have s1 := (hT.2.2 k hk).2.2.2.1
        have s2 := (hT.2.2 i g4).2.2.2.1
        by_cases c : k = i
        · rw [if_pos c]; omega
        · rw [if_neg c]; exact s1
      have hp1 : N2 (p + 1) = M (p + 1) := ho _ (by omega)
      refine ok_some (ok_go rfl ⟨⟨t + 1, by show (t : Int) + 1 = _; omega, by omega, ho.trans o1, ⟨o3.trans hT.1, hT.2.1, fun k hk => ?_⟩, by show K2 p 1 = _; rw [o4]; omega, hs2, QD_give hT hQ g4 g5 r2 o2, OC_give (fun a b ha hb q => hd a b ha hb (by rw [← hp1]; exact q)) hO g4 r1 o2 o5⟩, by show K - ((t : Int) + 1).toNat < K - (t : Int).toNat; omega⟩)
      obtain ⟨b1, b2, b3, b4⟩ := hT.2.2 k hk
      refine ⟨by show 0 ≤ K2 (p + 1) k ∧ K2 (p + 1) k < 8; rw [r1]; exact b1, by show 1 ≤ K2 (p + 2) k ∧ K2 (p + 2) k ≤ 80000000; rw [r2]; exact b2, by show rgI (K2 (p + 3) k); rw [r3]; exact b3, nn k hk, ?_⟩
      have := sN_term nn hk
      show K2 (p + 4) k ≤ 100
      omega
  · rw [sN_congr (g := fun _ => 0) h0, sN_zero]
    rfl
