theorem leastN {P : Nat → Prop} : ∀ g, P g → ∃ m, m ≤ g ∧ P m ∧ ∀ j, j < m → ¬ P j := fun g => by
  induction g using Nat.strongRecOn with
  | _ g ih =>
    intro hg
    by_cases h : ∃ j, j < g ∧ P j
    · obtain ⟨j, j1, j2⟩ := h
      obtain ⟨m, m1, m2, m3⟩ := ih j j1 j2
      exact ⟨m, by omega, m2, m3⟩
    · exact ⟨g, Nat.le_refl g, hg, fun j hj hp => h ⟨j, hj, hp⟩⟩
/-- the first m groups together -/
def pfx (R : Nat → Nat) (n m : Nat) : Nat := fS (fun c => decide (R c < m)) n
theorem pfx_lt (R : Nat → Nat) (n m : Nat) : pfx R n m < 2 ^ n := fS_lt _ n
theorem pfx_tb {R : Nat → Nat} {n m c : Nat} (h : c < n) : (pfx R n m).testBit c = true ↔ R c < m := by
  unfold pfx
  rw [fS_tb _ h]
  exact decide_eq_true_iff
theorem pfx_or (R : Nat → Nat) (n m : Nat) : pfx R n m ||| gS R n m = pfx R n (m + 1) := eq_tb (or_lt (pfx_lt R n m) (gS_lt R n m)) (pfx_lt R n (m + 1)) fun c hc => Bool.eq_iff_iff.mpr (by
  rw [Nat.testBit_or, Bool.or_eq_true, pfx_tb hc, pfx_tb hc, gS_tb hc, decide_eq_true_iff]
  omega)
theorem sol_pfx {R : Nat → Nat} {n G S : Nat} (hR : ∀ c, c < n → R c ≤ G) (h1 : 1 ≤ S) (hS : S < 2 ^ n) (hf : S ≠ 2 ^ n - 1) : sol R n S ↔ ∃ m, 1 ≤ m ∧ m ≤ G ∧ pfx R n m = S := by
  constructor
  · intro h
    have hd : ∃ d, d < n ∧ ¬ S.testBit d = true := Classical.byContradiction fun q => hf (eq_tb hS (by have := Nat.two_pow_pos n; omega) fun i hi => by
      rw [full_tb, decide_eq_true hi]
      exact Classical.byContradiction fun e => q ⟨i, hi, e⟩)
    have hc : ∃ c, c < n ∧ S.testBit c = true := Classical.byContradiction fun q => by
      have := zero_of hS fun i hi e => q ⟨i, hi, e⟩
      omega
    obtain ⟨d0, d1, d2⟩ := hd
    obtain ⟨m, m1, ⟨d, d3, d4, d5⟩, m3⟩ := leastN (P := fun m => ∃ d, d < n ∧ ¬ S.testBit d = true ∧ R d = m) (R d0) ⟨d0, d1, d2, rfl⟩
    obtain ⟨c, c1', c2⟩ := hc
    have hcd := h c d c1' d3 c2 d4
    refine ⟨m, by omega, by have := hR d d3; omega, eq_tb (pfx_lt R n m) hS fun i hi => Bool.eq_iff_iff.mpr ?_⟩
    rw [pfx_tb hi]
    constructor
    · intro q
      exact Classical.byContradiction fun e => m3 (R i) q ⟨i, hi, e, rfl⟩
    · intro q
      have := h i d hi d3 q d4
      omega
  · rintro ⟨m, -, -, e⟩ c d hc hd h1 h2
    rw [← e] at h1 h2
    rw [pfx_tb hc] at h1
    rw [pfx_tb hd] at h2
    omega
theorem sol_full (R : Nat → Nat) (n : Nat) : sol R n (2 ^ n - 1) := fun c d _ hd _ q => absurd (by rw [full_tb]; exact decide_eq_true hd) q
theorem ballotsOf_ok {E : Ev} {M : Mm} {p L kk : Nat} {C : Nat → Int} (hp : isIA E p) (hL : (tE E p).2 = L) (hkL : kk ≤ L) (hk : kk ≤ 30) (hL2 : L ≤ 100) (h : ∀ k, k < kk → M p k = C k) : Ok (f_Bx_ballotsOf E M p (kk : Int)) (fun r => r = sN C kk) := by
  unfold f_Bx_ballotsOf
  refine ok_ck hp (ok_bm (R := fun r => r.1 = 1 ∧ r.2.1 = sN C kk) ?_ ?_)
  · refine L_Bx_ballotsOf_5 E p (kk : Int) M (I := fun x3 x4 => ∃ i : Nat, x4 = (i : Int) ∧ i ≤ kk ∧ x3 = sN C i) (μ := fun _ x4 => kk - x4.toNat) ?_ FU 0 0 ⟨0, rfl, Nat.zero_le _, rfl⟩ (by show kk - _ < 5000; omega)
    rintro x3 x4 ⟨i, rfl, hi, rfl⟩
    unfold Bx_ballotsOf_5b
    rw [Int.toNat_natCast]
    refine ok_ck hp (ok_ck (rgN (by omega)) (ok_ck (rgN (by omega)) (ok_if (fun z => ?_) (fun z => ?_))))
    · have e : i = kk := by omega
      rw [e]
      exact ok_some (ok_out ne0 ⟨rfl, rfl⟩)
    · rw [h i (by omega)]
      exact ok_ck (by rw [hL]; exact inN (by omega) (by omega)) (ok_some (ok_go rfl ⟨⟨i + 1, c1 i, by omega, rfl⟩, cnt (by omega)⟩))
  · rintro ⟨t, x3, x4⟩ ⟨g1, g2⟩
    exact ok_ck g1 (ok_some g2)
/-- the kinds' rows alone -/
def KR (M : Mm) (n kk : Nat) (G : Nat → Nat) (R : Nat → Nat → Nat) (A : Nat → Nat) : Prop := ∀ k, k < kk → Rk M k n (G k) (R k) (A k)
theorem findSupport_ok {E : Ev} {M : Mm} {p L n kk : Nat} {C : Nat → Int} {G : Nat → Nat} {R : Nat → Nat → Nat} {A : Nat → Nat} (hLy : Lay E) (hK : KR M n kk G R A) (hn : n ≤ 8) (hn1 : 1 ≤ n) (hp : isIA E p) (hL : (tE E p).2 = L) (hkL : kk ≤ L) (hk : kk ≤ 30) (hL2 : L ≤ 100) (hp40 : p ≠ 40) (h : ∀ k, k < kk → M p k = C k) : Ok (f_Bx_findSupport E M p (kk : Int) ((2 ^ n - 1 : Nat) : Int)) (fun N => Off (fun c => c = 40) M N ∧ ∀ S, 1 ≤ S → S < 2 ^ n → N 40 S = Vs kk C R n S) := by
  have hpw := pow_lt hn
  have hp1 := Nat.two_pow_pos n
  unfold f_Bx_findSupport
  refine ok_ck hp (ok_bm (ok_fillI (n := 256) (yi_40 hLy) (yt_40 hLy) (by decide)) ?_)
  rintro B ⟨b1, b2, -⟩
  refine ok_bm (R := fun r => r.1 = 1 ∧ Off (fun c => c = 40) M r.2.2 ∧ ∀ S, 1 ≤ S → S < 2 ^ n → S ≠ 2 ^ n - 1 → r.2.2 40 S = Vs kk C R n S) ?_ ?_
  · refine L_Bx_findSupport_11 E p (kk : Int) ((2 ^ n - 1 : Nat) : Int) (I := fun N x => ∃ k : Nat, x = (k : Int) ∧ k ≤ kk ∧ Off (fun c => c = 40) M N ∧ ∀ S, 1 ≤ S → S < 2 ^ n → S ≠ 2 ^ n - 1 → N 40 S = sN (fun k => C k * ind (sol (R k) n S)) k) (μ := fun _ x => kk - x.toNat) ?_ FU B 0 ⟨0, rfl, Nat.zero_le _, b1, fun S _ hS _ => b2 S (by omega)⟩ (by show kk - _ < 5000; omega)
    rintro N x ⟨k, rfl, hkk, oN, hN⟩
    unfold Bx_findSupport_11b
    refine ok_ck hp (ok_ck (rgN (by omega)) (ok_ck (rgN (by omega)) (ok_if (fun z => ?_) (fun z => ?_))))
    · have e : k = kk := by omega
      subst e
      exact ok_some (ok_out ne0 ⟨rfl, oN, hN⟩)
    · have hk2 : k < kk := by omega
      obtain ⟨r1, r2, r3, r4, r5, r6, r7⟩ := hK k hk2
      refine ok_bm (R := fun r => r.1 = 1 ∧ Off (fun c => c = 40) M r.2.2.2 ∧ ∀ S, 1 ≤ S → S < 2 ^ n → S ≠ 2 ^ n - 1 → r.2.2.2 40 S = sN (fun k => C k * ind (sol (R k) n S)) k + C k * ind (∃ m, 1 ≤ m ∧ m ≤ G k ∧ pfx (R k) n m = S)) ?_ ?_
      · refine L_Bx_findSupport_23 E p (kk : Int) ((2 ^ n - 1 : Nat) : Int) (k : Int) (I := fun K x5 x6 => ∃ m : Nat, x6 = (m : Int) ∧ m ≤ G k ∧ x5 = ((pfx (R k) n m : Nat) : Int) ∧ Off (fun c => c = 40) M K ∧ ∀ S, 1 ≤ S → S < 2 ^ n → S ≠ 2 ^ n - 1 → K 40 S = sN (fun k => C k * ind (sol (R k) n S)) k + C k * ind (∃ m', 1 ≤ m' ∧ m' ≤ m ∧ pfx (R k) n m' = S)) (μ := fun _ _ x6 => G k - x6.toNat) ?_ FU N 0 0 ⟨0, rfl, Nat.zero_le _, ?_, oN, fun S h1 h2 h3 => ?_⟩ (by show G k - _ < 5000; omega)
        · rintro K x5 x6 ⟨m, rfl, hm, rfl, oK, hKs⟩
          unfold Bx_findSupport_23b
          have e7 : K 7 k = (G k : Int) := by rw [oK 7 (by decide)]; exact r1
          have pl' := pfx_lt (R k) n m
          have pl2 := pfx_lt (R k) n (m + 1)
          have gl := gS_lt (R k) n m
          rw [Int.toNat_natCast, e7]
          refine ok_ck hp (ok_ck (inN (by omega) (by decide)) (ok_ck (rgN (by omega)) (ok_ck (rgN (by omega)) (ok_if (fun z => ?_) (fun z => ?_)))))
          · have e : m = G k := by omega
            subst e
            exact ok_some (ok_out ne0 ⟨rfl, oK, hKs⟩)
          · have hmG : m < G k := by omega
            have e9 : K (9 + k) m = ((gS (R k) n m : Nat) : Int) := by rw [oK _ (by omega)]; exact r5 m hmG
            obtain ⟨c0, c01, c02⟩ := r7 m hmG
            have fresh : ∀ m', m' ≤ m → pfx (R k) n m' ≠ pfx (R k) n (m + 1) := fun m' hm' e => by
              have a := (pfx_tb (R := R k) (m := m + 1) c01).mpr (by omega)
              rw [← e, pfx_tb c01] at a
              omega
            have more : ∀ S, S ≠ pfx (R k) n (m + 1) → ind (∃ m', 1 ≤ m' ∧ m' ≤ m + 1 ∧ pfx (R k) n m' = S) = ind (∃ m', 1 ≤ m' ∧ m' ≤ m ∧ pfx (R k) n m' = S) := fun S hS => ind_congr ⟨fun ⟨m', a, b, c⟩ => by
              by_cases e : m' = m + 1
              · rw [e] at c; exact absurd c.symm hS
              · exact ⟨m', a, by omega, c⟩, fun ⟨m', a, b, c⟩ => ⟨m', a, by omega, c⟩⟩
            rw [Int.toNat_natCast, e9, orI_nat, pfx_or]
            refine ok_ck (inN (by omega) (by decide)) (ok_ck ⟨by omega, by omega⟩ (ok_ck ⟨by omega, by omega⟩ (ok_nb (ok_ck (rgN (by omega)) (ok_ck (rgN (by omega)) (ok_if (fun w => ?_) (fun w => ?_)))))))
            · refine ok_some (ok_go rfl ⟨⟨m + 1, c1 m, by omega, rfl, oK, fun S s1 s2 s3 => ?_⟩, cnt hmG⟩)
              rw [more S (by omega)]
              exact hKs S s1 s2 s3
            · rw [Int.toNat_natCast, oK p hp40, h k hk2]
              refine ok_ck (inN (by omega) (by decide)) (ok_ck (by rw [hL]; exact inN (by omega) (by omega)) (ok_nb (ok_some (ok_go rfl ⟨⟨m + 1, c1 m, by omega, rfl, oK.u2 rfl, fun S s1 s2 s3 => ?_⟩, cnt hmG⟩))))
              show u2 K 40 (pfx (R k) n (m + 1)) (K 40 (pfx (R k) n (m + 1)) + C k) 40 S = _
              rw [u2_if]
              by_cases e : S = pfx (R k) n (m + 1)
              · rw [if_pos ⟨rfl, e⟩, ← e, hKs S s1 s2 s3, ind_f (p := ∃ m', 1 ≤ m' ∧ m' ≤ m ∧ pfx (R k) n m' = S) (fun ⟨m', a, b, c⟩ => fresh m' b (by rw [c, e])), ind_t (p := ∃ m', 1 ≤ m' ∧ m' ≤ m + 1 ∧ pfx (R k) n m' = S) ⟨m + 1, by omega, Nat.le_refl _, e.symm⟩, Int.mul_zero, Int.mul_one, Int.add_zero]
              · rw [if_neg (fun z => e z.2), more S e]
                exact hKs S s1 s2 s3
        · show (0 : Int) = _
          rw [zero_of (pfx_lt (R k) n 0) (fun i hi q => by rw [pfx_tb hi] at q; omega)]; rfl
        · rw [hN S h1 h2 h3, ind_f (p := ∃ m', 1 ≤ m' ∧ m' ≤ 0 ∧ pfx (R k) n m' = S) (fun ⟨m', a, b, _⟩ => by omega), Int.mul_zero, Int.add_zero]
      · rintro ⟨t, x5, x6, K⟩ ⟨g1, g2, g3⟩
        refine ok_ck g1 (ok_some (ok_go rfl ⟨⟨k + 1, c1 k, by omega, g2, fun S s1 s2 s3 => ?_⟩, cnt hk2⟩))
        show K 40 S = _
        rw [sN_succ, ind_congr (sol_pfx r6 s1 s2 s3)]
        exact g3 S s1 s2 s3
  · rintro ⟨t, x, N⟩ ⟨g1, g2r, g3⟩
    have g2 : Off (fun c => c = 40) M N := g2r
    refine ok_ck g1 (ok_bm (ballotsOf_ok (C := C) hp hL hkL hk hL2 (fun k hk => by rw [show N p = M p from g2 p hp40]; exact h k hk)) ?_)
    rintro r rfl
    refine ok_ck (inN (by omega) (by decide)) (ok_some ⟨g2.u2 rfl, fun S s1 s2 => ?_⟩)
    rw [Int.toNat_natCast, u2_if]
    by_cases e : S = 2 ^ n - 1
    · rw [if_pos ⟨rfl, e⟩, e]
      unfold Vs
      exact sN_congr fun k _ => by rw [ind_t (sol_full (R k) n), Int.mul_one]
    · rw [if_neg (fun z => e z.2)]
      exact g3 S s1 s2 e
