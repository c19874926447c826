/-! TO A STRING, AND TYPED -/
theorem toString_ok {E : Ev} {M : Mm} {p pa m : Nat} {s : Nat → Nat} (hL : Lay E) (h : SBd E M p pa m s) (hm : m < 16) (hs : ∀ i, i < m → s i ≤ 127) : Ok (f_Sb_toString E M p) (fun r => r.1 = nE E ∧ Ge E r.2.1 ∧ Lay r.2.1 ∧ STR r.2.1 r.2.2 r.1 m s ∧ Off (fun c => nE E ≤ c) M r.2.2) := by
  have h250 := hL.1
  obtain ⟨a, b, c, d, e, f, g, i, j⟩ := h
  have hp := a.1
  have hpa := d.1
  have hL1 := lay_new (d := (113, 0)) hL
  have hL2 := lay_new (d := (2, m)) hL1
  have n2 : nE (eNew (eNew E (113, 0)) (2, m)) = nE E + 2 := rfl
  have t1 : ∀ l, l < nE E → tE (eNew E (113, 0)) l = tE E l := fun l hl => new_t (by omega)
  have r1 : ∀ l, l < nE E → rE (eNew E (113, 0)) l = rE E l := fun l hl => new_r (by omega)
  have oq : isO 13 (eNew E (113, 0)) (nE E) := ⟨new_i E _, new_T E _⟩
  have op : isO 14 (eNew E (113, 0)) p := ⟨by rw [new_n]; omega, by rw [t1 p hp]; exact a.2⟩
  have opa : isBA (eNew E (113, 0)) pa := ⟨by rw [new_n]; omega, by rw [t1 pa hpa]; exact d.2⟩
  obtain ⟨M1, hM1⟩ : ∃ M1, M1 = u2 (mN M (nE E)) (nE E) 1 0 := ⟨_, rfl⟩
  have m1 : ∀ c, c < nE E → M1 c = M c := fun c hc => by rw [hM1, u2_row (by omega), mN_row (by omega)]
  have hL3 : Lay (eRef (eNew (eNew E (113, 0)) (2, m)) (nE E) 0 (nE E + 1)) := lay_ref hL2 h250
  have w3 : Gw (eNew E (113, 0)) (eRef (eNew (eNew E (113, 0)) (2, m)) (nE E) 0 (nE E + 1)) := gw_trans (gw_new _ _) (gw_ref _ _ _ _)
  have i2 : isBA (eNew (eNew E (113, 0)) (2, m)) (nE E + 1) := ⟨by rw [n2]; omega, congrArg Prod.fst (new_T (eNew E (113, 0)) (2, m))⟩
  have t2 : (tE (eNew (eNew E (113, 0)) (2, m)) (nE E + 1)).2 = m := congrArg Prod.snd (new_T (eNew E (113, 0)) (2, m))
  have tpa : (tE (eNew (eNew E (113, 0)) (2, m)) pa).2 = 16 := by rw [new_t (by rw [new_n]; omega), t1 pa hpa]; exact f
  obtain ⟨M2, hM2⟩ : ∃ M2, M2 = uA (mN M1 (nE E + 1)) (nE E + 1) (va_cpy (M pa) (mN M1 (nE E + 1) (nE E + 1)) 0 0 m) := ⟨_, rfl⟩
  have cpy : Ok (f_Ar_copyOfRange (eNew E (113, 0)) M1 pa 0 (m : Int)) (fun r => r = (nE E + 1, eNew (eNew E (113, 0)) (2, m), M2)) := by
    unfold f_Ar_copyOfRange
    have rs : ((min (((16 : Nat) : Int) - 0) ((m : Int) - 0))) = (m : Int) := by omega
    refine ok_ck hL1 (ok_ck opa (ok_ck (by decide) (ok_if (fun _ => ok_ck (rgN (by omega)) (ok_ck (by rw [t1 pa hpa, f]; decide) (ok_if (fun z => ?_) (fun _ => ?_)))) (fun z => absurd rfl z))))
    · rw [t1 pa hpa, f] at z
      omega
    · unfold Ar_copyOfRange_j10 f_Ar_copyOfRangeByte f_Ar_checkLength
      refine ok_ck hL1 (ok_ck opa (ok_bm (R := fun r => r = (nE E + 1, eNew (eNew E (113, 0)) (2, m), M2)) (ok_ck hL1 (ok_ck opa (ok_bm (R := fun _ => True) (ok_ck (rgN (by omega)) (ok_ck (by decide) (ok_if (fun _ => ok_some trivial) (fun z => by omega)))) ?_))) ?_))
      · intro _ _
        refine ok_ck ⟨by omega, by omega⟩ (ok_nb ?_)
        rw [show ((m : Int) - 0).toNat = m by omega]
        show Ok (ck (rgI (((tE (eNew (eNew E (113, 0)) (2, m)) pa).2 : Int) - 0)) _) _
        rw [tpa]
        refine ok_ck (by decide) (ok_ck ⟨by omega, by omega⟩ ?_)
        show Ok (ck (cpk 0 0 (min (((16 : Nat) : Int) - 0) ((m : Int) - 0)) 16 (tE (eNew (eNew E (113, 0)) (2, m)) (nE E + 1)).2) (ck (byR (mN M1 (nE E + 1) pa) 0 (min (((16 : Nat) : Int) - 0) ((m : Int) - 0))) (some (nE E + 1, eNew (eNew E (113, 0)) (2, m), uA (mN M1 (nE E + 1)) (nE E + 1) (va_cpy (mN M1 (nE E + 1) pa) (mN M1 (nE E + 1) (nE E + 1)) (Int.toNat 0) 0 (min (((16 : Nat) : Int) - 0) ((m : Int) - 0)).toNat))))) _
        rw [rs, t2, mN_row (show pa ≠ nE E + 1 by omega), m1 pa hpa]
        refine ok_ck ⟨by omega, by omega, by omega, by omega, by omega, by omega, by omega⟩ (ok_ck (fun k hk => ?_) (ok_some (by rw [hM2]; rfl)))
        have hk : k < m := by omega
        have q := j k hk
        have q2 := hs k hk
        rw [show (Int.toNat 0) + k = k by show 0 + k = k; omega, q]
        omega
      · rintro r rfl
        exact ok_ck (gw_new _ _) (ok_ck hL2 (ok_ck i2 (ok_some rfl)))
  have init2 : Ok (f_St_init2 (eNew E (113, 0)) (mN M (nE E)) (nE E) p) (fun r => r = (eRef (eNew (eNew E (113, 0)) (2, m)) (nE E) 0 (nE E + 1), M2)) := by
    unfold f_St_init2 f_As_getValue f_Sb_length f_As_length f_As_isLatin1
    have g' : mN M (nE E) p 1 = 0 := by rw [mN_row (by omega)]; exact g
    have i' : mN M (nE E) p 3 = (m : Int) := by rw [mN_row (by omega)]; exact i
    rw [r1 p hp, c, g', i', ← hM1]
    refine ok_ck hL1 (ok_ck oq (ok_ck op (ok_bm (R := fun y => y = pa) (ok_ck op (ok_sb (ok_ck opa (ok_some rfl)))) ?_)))
    rintro y rfl
    refine ok_ck opa (ok_bm (R := fun y => y = (m : Int)) (ok_ck op (ok_bm (R := fun y => y = (m : Int)) (ok_ck op (ok_some rfl)) ?_)) ?_)
    · rintro y rfl
      exact ok_some rfl
    · rintro y rfl
      refine ok_bm (R := fun y => y = 1) (ok_ck op (ok_ck (by decide) (ok_if (fun _ => ok_some rfl) (fun z => absurd rfl z)))) ?_
      rintro y rfl
      refine ok_ck (by decide) (ok_if (fun z => absurd z (by decide)) (fun _ => ok_bm cpy ?_))
      rintro r rfl
      exact ok_ck (gw_new _ _) (ok_ck hL2 (ok_ck i2 (ok_nb (ok_ck hL3 (ok_some rfl)))))
  unfold f_Sb_toString f_St_init
  refine ok_ck hL (ok_ck a (ok_nb (ok_nb (ok_nb (ok_bm (R := fun r => r = (eRef (eNew (eNew E (113, 0)) (2, m)) (nE E) 0 (nE E + 1), M2)) (ok_ck hL1 (ok_ck oq (ok_ck op (ok_bm init2 ?_)))) ?_)))))
  · rintro r rfl
    exact ok_ck w3 (ok_ck hL3 (ok_some rfl))
  · rintro r rfl
    refine ok_ck w3 (ok_ck hL3 (ok_some ⟨rfl, ge_ref ((ge_new E _).trans (ge_new _ _)) (Nat.le_refl _), hL3, ⟨⟨by rw [nE_ref, n2]; show nE E < nE E + 2; omega, ?_⟩, h250, nE E + 1, ?_, ⟨by rw [nE_ref, n2]; omega, ?_⟩, by omega, ?_, ?_, fun k hk => ?_⟩, ?_⟩))
    · show tE (eRef (eNew (eNew E (113, 0)) (2, m)) (nE E) 0 (nE E + 1)) (nE E) = _
      rw [tE_ref, new_t (by show nE E ≠ nE E + 1; omega)]
      exact new_T E _
    · show rE (eRef (eNew (eNew E (113, 0)) (2, m)) (nE E) 0 (nE E + 1)) (nE E) 0 = _
      rw [rE_ref (by rw [n2]; omega), va_up_self, va_up_self]
    · rw [tE_ref]; exact i2.2
    · rw [tE_ref]; exact t2
    · show M2 (nE E) 1 = 0
      rw [hM2, uA_row (by omega), mN_row (by omega), hM1, u2_at]
    · show M2 (nE E + 1) k = _
      rw [hM2, uA_at]
      unfold va_cpy
      rw [if_pos ⟨Nat.zero_le _, by omega⟩]
      show M pa (0 + (k - 0)) = _
      rw [show 0 + (k - 0) = k by omega]
      exact j k hk
    · rw [hM2, hM1]
      exact (((off_mN (Nat.le_refl _)).u2 (Nat.le_refl _)).trans (off_mN (by show nE E ≤ nE E + 1; omega))).uA (by show nE E ≤ nE E + 1; omega)
/-- k signs from the place a, one behind another -/
def vK (s : Nat → Nat) (a : Nat) : Nat → Nat
  | 0 => 0
  | k + 1 => vK s a k * 256 + s (a + k)
theorem vK_lt {s : Nat → Nat} {a : Nat} : ∀ {k : Nat}, (∀ i, i < k → s (a + i) ≤ 127) → vK s a k < 256 ^ k
  | 0, _ => by show 0 < 1; decide
  | k + 1, h => by
    have ih := vK_lt (k := k) fun i hi => h i (by omega)
    have q := h k (by omega)
    show vK s a k * 256 + s (a + k) < 256 ^ (k + 1)
    rw [Nat.pow_succ]
    omega
theorem vK_ge {s : Nat → Nat} {a : Nat} (h : s a ≤ 127) : ∀ {k : Nat}, (∀ i, i < k + 1 → s (a + i) ≤ 127) → vK s a (k + 1) < 128 * 256 ^ k
  | 0, _ => by
    show 0 * 256 + s (a + 0) < 128 * 1
    have : s (a + 0) = s a := rfl
    omega
  | k + 1, hh => by
    have ih := vK_ge h (k := k) fun i hi => hh i (by omega)
    have q := hh (k + 1) (by omega)
    show vK s a (k + 1) * 256 + s (a + (k + 1)) < 128 * 256 ^ (k + 1)
    rw [Nat.pow_succ]
    omega
theorem vK_at {s : Nat → Nat} {a : Nat} : ∀ {k : Nat} (j : Nat), (∀ i, i < k → s (a + i) ≤ 127) → vK s a k / 256 ^ j % 256 = if j < k then s (a + (k - 1 - j)) else 0
  | 0, j, _ => by
    rw [if_neg (Nat.not_lt_zero j)]
    show 0 / 256 ^ j % 256 = 0
    rw [Nat.zero_div]
  | k + 1, 0, h => by
    have q := h k (by omega)
    rw [if_pos (by omega), Nat.pow_zero, Nat.div_one]
    show (vK s a k * 256 + s (a + k)) % 256 = s (a + (k + 1 - 1 - 0))
    rw [show k + 1 - 1 - 0 = k by omega]
    omega
  | k + 1, j + 1, h => by
    have q := h k (by omega)
    have ih := vK_at (k := k) j fun i hi => h i (by omega)
    have e : (vK s a k * 256 + s (a + k)) / 256 = vK s a k := by omega
    show (vK s a k * 256 + s (a + k)) / 256 ^ (j + 1) % 256 = _
    rw [Nat.pow_succ, Nat.mul_comm (256 ^ j) 256, ← Nat.div_div_eq_div_mul, e, ih]
    by_cases c : j < k
    · rw [if_pos c, if_pos (by omega), show k + 1 - 1 - (j + 1) = k - 1 - j by omega]
    · rw [if_neg c, if_neg (by omega)]
theorem p8j (j : Nat) : (2 : Nat) ^ (8 * j) = 256 ^ j := by rw [Nat.pow_mul]
theorem cut_eq {s : Nat → Nat} {a k j : Nat} (h : ∀ i, i < k → s (a + i) ≤ 127) : (((vK s a k : Nat) : Int) / 2 ^ ((8 * j : Nat) : Int).toNat) % 256 = ((if j < k then s (a + (k - 1 - j)) else 0 : Nat) : Int) := by
  rw [Int.toNat_natCast, ← vK_at j h, ← p8j]
  rfl
theorem bType_ok {E : Ev} {M : Mm} {s : Nat → Nat} {a k : Nat} (h1 : ∀ i, i < k → 1 ≤ s (a + i) ∧ s (a + i) ≤ 127) (hk : k ≤ 8) (hk0 : 1 ≤ k) (ha : a + k ≤ 30) (hM : M 2 1 = (a : Int)) (hs : ∀ i, i < a → M 3 i = (s i : Int)) : Ok (f_B_type E M ((vK s a k : Nat) : Int)) (fun r => Off (fun c => c = 2 ∨ c = 3) M r.2 ∧ (∀ c, c ≠ 1 → r.2 2 c = M 2 c) ∧ r.2 2 1 = ((a + k : Nat) : Int) ∧ ∀ i, i < a + k → r.2 3 i = (s i : Int)) := by
  have h127 : ∀ i, i < k → s (a + i) ≤ 127 := fun i hi => (h1 i hi).2
  obtain ⟨k', rfl⟩ : ∃ k', k = k' + 1 := ⟨k - 1, by omega⟩
  have vl := vK_ge (s := s) (a := a) (k := k') (h127 0 (by omega)) h127
  have vl2 : 128 * 256 ^ k' ≤ 128 * 256 ^ 7 := Nat.mul_le_mul_left _ (Nat.pow_le_pow_right (by decide) (by omega))
  have v7 : 128 * 256 ^ 7 = 9223372036854775808 := by decide
  unfold f_B_type
  refine ok_bm (R := fun r => r.1 = 1 ∧ r.2.1 = ((k' + 1 : Nat) : Int) ∧ r.2.2.2 = M) ?_ ?_
  · refine L_B_type_6 E _ (I := fun N x3 x4 => N = M ∧ ∃ j : Nat, x4 + 8 = ((8 * j : Nat) : Int) ∧ j ≤ 8 ∧ x3 = ((k' + 1 - j : Nat) : Int)) (μ := fun _ _ x4 => (x4 + 8).toNat) ?_ FU M 0 56 ⟨rfl, 8, by decide, by decide, by omega⟩ (by decide)
    rintro N x3 x4 ⟨rfl, j, hj, hj8, rfl⟩
    unfold B_type_6b
    refine ok_ck ⟨by omega, by omega⟩ (ok_if (fun q => ?_) (fun q => ?_))
    · exact ok_some (ok_out ne0 ⟨rfl, by show ((k' + 1 - j : Nat) : Int) = _; rw [show j = 0 by omega]; rfl, rfl⟩)
    · obtain ⟨i, rfl⟩ : ∃ i, j = i + 1 := ⟨j - 1, by omega⟩
      have e4 : x4 = ((8 * i : Nat) : Int) := by omega
      subst e4
      rw [cut_eq h127]
      have dec : ((((8 * i : Nat) : Int) + -8) + 8).toNat < (((8 * i : Nat) : Int) + 8).toNat := by omega
      refine ok_ck ⟨by omega, by omega⟩ (ok_ck ⟨by omega, by omega⟩ (ok_if (fun z => ?_) (fun z => ?_)))
      · refine ok_some (ok_go rfl ⟨⟨rfl, i, by show ((8 * i : Nat) : Int) + -8 + 8 = _; omega, by omega, ?_⟩, dec⟩)
        by_cases c : i < k' + 1
        · rw [if_pos c] at z
          have := (h1 (k' + 1 - 1 - i) (by omega)).1
          omega
        · show ((k' + 1 - (i + 1) : Nat) : Int) = ((k' + 1 - i : Nat) : Int)
          omega
      · refine ok_some (ok_go rfl ⟨⟨rfl, i, by show ((8 * i : Nat) : Int) + -8 + 8 = _; omega, by omega, ?_⟩, dec⟩)
        by_cases c : i < k' + 1
        · show ((k' + 1 - (i + 1) : Nat) : Int) + 1 = ((k' + 1 - i : Nat) : Int)
          omega
        · rw [if_neg c] at z
          exact absurd rfl z
  · rintro ⟨t, x3, x4, N⟩ ⟨g1, g2r, g3r⟩
    have g2 : x3 = ((k' + 1 : Nat) : Int) := g2r
    have g3 : N = M := g3r
    subst g2 g3
    refine ok_ck g1 ?_
    show Ok ((f_B_needRoom E N (N 2 1 + ((k' + 1 : Nat) : Int)) 30).bind _) _
    rw [hM, needRoom_ok (by omega) (by omega) (by decide)]
    refine ok_sb (ok_bm (R := fun r => r.1 = 1 ∧ Off (fun c => c = 2 ∨ c = 3) N r.2.2 ∧ (∀ c, c ≠ 1 → r.2.2 2 c = N 2 c) ∧ r.2.2 2 1 = ((a + (k' + 1) : Nat) : Int) ∧ ∀ i, i < a + (k' + 1) → r.2.2 3 i = (s i : Int)) ?_ ?_)
    · refine L_B_type_51 E _ (I := fun K x4 => ∃ j : Nat, x4 + 8 = ((8 * j : Nat) : Int) ∧ j ≤ 8 ∧ Off (fun c => c = 2 ∨ c = 3) N K ∧ (∀ c, c ≠ 1 → K 2 c = N 2 c) ∧ K 2 1 = ((a + (k' + 1 - j) : Nat) : Int) ∧ ∀ i, i < a + (k' + 1 - j) → K 3 i = (s i : Int)) (μ := fun _ x4 => (x4 + 8).toNat) ?_ FU N 56 ⟨8, by decide, by decide, Off.refl, fun c _ => rfl, by rw [show k' + 1 - 8 = 0 by omega]; exact hM, fun i hi => hs i (by omega)⟩ (by decide)
      rintro K x4 ⟨j, hj, hj8, oK, kc, k21, k3⟩
      unfold B_type_51b
      refine ok_ck ⟨by omega, by omega⟩ (ok_if (fun q => ?_) (fun q => ?_))
      · have e : j = 0 := by omega
        subst e
        exact ok_some (ok_out ne0 ⟨rfl, oK, kc, k21, k3⟩)
      · obtain ⟨i, rfl⟩ : ∃ i, j = i + 1 := ⟨j - 1, by omega⟩
        have e4 : x4 = ((8 * i : Nat) : Int) := by omega
        subst e4
        rw [cut_eq h127]
        have dec : ((((8 * i : Nat) : Int) + -8) + 8).toNat < (((8 * i : Nat) : Int) + 8).toNat := by omega
        refine ok_ck ⟨by omega, by omega⟩ (ok_ck ⟨by omega, by omega⟩ ?_)
        unfold f_Bx_appendSign
        by_cases c : i < k' + 1
        · rw [if_pos c]
          have hv := h1 (k' + 1 - 1 - i) (by omega)
          rw [k21, Int.toNat_natCast]
          refine ok_bm (R := fun L => L = u2 (u2 K 3 (a + (k' + 1 - (i + 1))) ((s (a + (k' + 1 - 1 - i)) : Nat) : Int)) 2 1 (((a + (k' + 1 - (i + 1)) : Nat) : Int) + 1)) (ok_ck (rgN (by omega)) (ok_if (fun z => by omega) (fun _ => ok_ck (rgN (by omega)) (ok_if (fun z => by omega) (fun _ => ok_ck (inN (by omega) (by decide)) (ok_some ?_)))))) ?_
          · rw [u2_ne (Or.inl (by decide)), k21]
          · rintro L rfl
            refine ok_some (ok_go rfl ⟨⟨i, by show ((8 * i : Nat) : Int) + -8 + 8 = _; omega, by omega, (oK.u2 (Or.inr rfl)).u2 (Or.inl rfl), fun c hc => ?_, ?_, fun l hl => ?_⟩, dec⟩)
            · show u2 (u2 K 3 _ _) 2 1 _ 2 c = _
              rw [u2_ne (Or.inr hc), u2_ne (Or.inl (by decide))]; exact kc c hc
            · show ((a + (k' + 1 - (i + 1)) : Nat) : Int) + 1 = _
              omega
            · show u2 K 3 (a + (k' + 1 - (i + 1))) ((s (a + (k' + 1 - 1 - i)) : Nat) : Int) 3 l = _
              rw [u2_if]
              by_cases f : l = a + (k' + 1 - (i + 1))
              · rw [if_pos ⟨rfl, f⟩, f, show k' + 1 - (i + 1) = k' + 1 - 1 - i by omega]
              · rw [if_neg (fun z => f z.2)]; exact k3 l (by omega)
        · rw [if_neg c]
          refine ok_bm (R := fun L => L = K) (ok_ck (by decide) (ok_if (fun _ => ok_some rfl) (fun z => absurd rfl z))) ?_
          rintro L rfl
          refine ok_some (ok_go rfl ⟨⟨i, by show ((8 * i : Nat) : Int) + -8 + 8 = _; omega, by omega, oK, kc, by show L 2 1 = _; rw [k21]; omega, fun l hl => k3 l (by omega)⟩, dec⟩)
    · rintro ⟨t, x, K⟩ ⟨g1, g2, g3, g4, g5⟩
      exact ok_ck g1 (ok_some ⟨g2, g3, g4, g5⟩)
