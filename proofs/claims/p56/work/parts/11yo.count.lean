/-! THE COUNT HELD -/
theorem r_at {E : Ev} {i k j : Nat} (h : j < nE E) : rE (eRef E i k j) i k = some j := by rw [rE_ref h, va_up_self, va_up_self]
theorem r_ne {E : Ev} {i k j l : Nat} (h : j < nE E) (hk : l ≠ k) : rE (eRef E i k j) i l = rE E i l := by rw [rE_ref h, va_up_self, va_up_ne _ _ hk]
theorem ctInit_ok {E : Ev} {M : Mm} (hL : Lay E) : Ok (f_Ct_init (eNew E (102, 0)) M (nE E)) (fun r => Gw (eNew E (102, 0)) r.1 ∧ Ge E r.1 ∧ Lay r.1 ∧ nE r.1 = nE E + 5 ∧ isCt r.1 (nE E) ∧ Off (fun i => nE E < i) M r.2) := by
  have h250 := hL.1
  obtain ⟨p, hp⟩ : ∃ p, p = nE E := ⟨_, rfl⟩
  obtain ⟨A1, hA1⟩ : ∃ X, X = eNew (eNew E (102, 0)) (0, 30) := ⟨_, rfl⟩
  obtain ⟨B1, hB1⟩ : ∃ X, X = eRef A1 p 6 (p + 1) := ⟨_, rfl⟩
  obtain ⟨A2, hA2⟩ : ∃ X, X = eNew B1 (0, 3) := ⟨_, rfl⟩
  obtain ⟨B2, hB2⟩ : ∃ X, X = eRef A2 p 7 (p + 2) := ⟨_, rfl⟩
  obtain ⟨A3, hA3⟩ : ∃ X, X = eNew B2 (0, 8) := ⟨_, rfl⟩
  obtain ⟨B3, hB3⟩ : ∃ X, X = eRef A3 p 8 (p + 3) := ⟨_, rfl⟩
  obtain ⟨A4, hA4⟩ : ∃ X, X = eNew B3 (0, 1170) := ⟨_, rfl⟩
  obtain ⟨B4, hB4⟩ : ∃ X, X = eRef A4 p 9 (p + 4) := ⟨_, rfl⟩
  have nA1 : nE A1 = p + 2 := by rw [hA1, hp]; rfl
  have nB1 : nE B1 = p + 2 := by rw [hB1, nE_ref]; exact nA1
  have nA2 : nE A2 = p + 3 := by rw [hA2, new_n, nB1]
  have nB2 : nE B2 = p + 3 := by rw [hB2, nE_ref]; exact nA2
  have nA3 : nE A3 = p + 4 := by rw [hA3, new_n, nB2]
  have nB3 : nE B3 = p + 4 := by rw [hB3, nE_ref]; exact nA3
  have nA4 : nE A4 = p + 5 := by rw [hA4, new_n, nB3]
  have nB4 : nE B4 = p + 5 := by rw [hB4, nE_ref]; exact nA4
  have ge : Ge E B4 := by
    rw [hB4, hA4, hB3, hA3, hB2, hA2, hB1, hA1]
    exact ge_ref ((ge_ref ((ge_ref ((ge_ref ((ge_new E _).trans (ge_new _ _)) (by omega)).trans (ge_new _ _)) (by omega)).trans (ge_new _ _)) (by omega)).trans (ge_new _ _)) (by omega)
  have gw : Gw (eNew E (102, 0)) B4 := by
    rw [hB4, hA4, hB3, hA3, hB2, hA2, hB1, hA1]
    exact gw_trans (gw_new _ _) (gw_trans (gw_ref _ _ _ _) (gw_trans (gw_new _ _) (gw_trans (gw_ref _ _ _ _) (gw_trans (gw_new _ _) (gw_trans (gw_ref _ _ _ _) (gw_trans (gw_new _ _) (gw_ref _ _ _ _)))))))
  have lB : Lay B4 := by
    rw [hB4, hA4, hB3, hA3, hB2, hA2, hB1, hA1]
    exact lay_ref (lay_new (lay_ref (lay_new (lay_ref (lay_new (lay_ref (lay_new (lay_new hL)) (by omega))) (by omega))) (by omega))) (by omega)
  have t4 : ∀ i, i ≠ p + 4 → tE B4 i = tE A3 i := fun i hi => by
    rw [hB4, tE_ref, hA4, new_t (by rw [nB3]; exact hi), hB3, tE_ref]
  have t3 : ∀ i, i ≠ p + 4 → i ≠ p + 3 → tE B4 i = tE A2 i := fun i hi h3 => by
    rw [t4 i hi, hA3, new_t (by rw [nB2]; exact h3), hB2, tE_ref]
  have t2 : ∀ i, i ≠ p + 4 → i ≠ p + 3 → i ≠ p + 2 → tE B4 i = tE A1 i := fun i hi h3 h2 => by
    rw [t3 i hi h3, hA2, new_t (by rw [nB1]; exact h2), hB1, tE_ref]
  have T0' : tE B4 p = (102, 0) := by
    rw [t2 p (by omega) (by omega) (by omega), hA1, hp, new_t (by show nE E ≠ nE E + 1; omega)]
    exact new_T E _
  have T1' : tE B4 (p + 1) = (0, 30) := by
    rw [t2 _ (by omega) (by omega) (by omega), hA1, hp]
    exact new_T (eNew E (102, 0)) (0, 30)
  have T2' : tE B4 (p + 2) = (0, 3) := by
    rw [t3 _ (by omega) (by omega), hA2, ← nB1]
    exact new_T B1 (0, 3)
  have T3' : tE B4 (p + 3) = (0, 8) := by
    rw [t4 _ (by omega), hA3, ← nB2]
    exact new_T B2 (0, 8)
  have T4' : tE B4 (p + 4) = (0, 1170) := by
    rw [hB4, tE_ref, hA4, ← nB3]
    exact new_T B3 (0, 1170)
  have R9 : rE B4 p 9 = some (p + 4) := by rw [hB4]; exact r_at (by omega)
  have d4 : ∀ l, l ≠ 9 → rE B4 p l = rE B3 p l := fun l hl => by
    rw [hB4, r_ne (by omega) hl, hA4, new_r (by rw [nB3]; omega)]
  have d3 : ∀ l, l ≠ 9 → l ≠ 8 → rE B4 p l = rE B2 p l := fun l hl h8 => by
    rw [d4 l hl, hB3, r_ne (by omega) h8, hA3, new_r (by rw [nB2]; omega)]
  have d2 : ∀ l, l ≠ 9 → l ≠ 8 → l ≠ 7 → rE B4 p l = rE B1 p l := fun l hl h8 h7 => by
    rw [d3 l hl h8, hB2, r_ne (by omega) h7, hA2, new_r (by rw [nB1]; omega)]
  have R8 : rE B4 p 8 = some (p + 3) := by rw [d4 8 (by decide), hB3]; exact r_at (by omega)
  have R7 : rE B4 p 7 = some (p + 2) := by rw [d3 7 (by decide) (by decide), hB2]; exact r_at (by omega)
  have R6 : rE B4 p 6 = some (p + 1) := by rw [d2 6 (by decide) (by decide) (by decide), hB1]; exact r_at (by omega)
  have ic : isCt B4 p := ⟨by omega, T0', R6, R7, R8, R9, T1', T2', T3', T4'⟩
  unfold f_Ct_init
  refine ok_ck ⟨new_i E _, new_T E _⟩ (ok_nb (ok_nb (ok_nb (ok_nbx fun Y1 e1 => ?_))))
  have e1 : Y1 = B1 := by rw [e1, hB1, hA1, hp]; rfl
  subst e1
  refine ok_nbx fun p2 ep2 => ?_
  have ep2 : p2 = p + 2 := by rw [ep2, nB1]
  subst ep2
  refine ok_nbx fun Y2 e2 => ?_
  have e2 : Y2 = A2 := by rw [e2, hA2]
  subst e2
  refine ok_nbx fun N2 m2 => ok_nbx fun Y3 e3 => ?_
  have e3 : Y3 = B2 := by rw [e3, hB2, hp]
  subst e3
  refine ok_nbx fun p3 ep3 => ?_
  have ep3 : p3 = p + 3 := by rw [ep3, nB2]
  subst ep3
  refine ok_nbx fun Y4 e4 => ?_
  have e4 : Y4 = A3 := by rw [e4, hA3]
  subst e4
  refine ok_nbx fun N3 m3 => ok_nbx fun Y5 e5 => ?_
  have e5 : Y5 = B3 := by rw [e5, hB3, hp]
  subst e5
  refine ok_nbx fun p4 ep4 => ?_
  have ep4 : p4 = p + 4 := by rw [ep4, nB3]
  subst ep4
  refine ok_nbx fun Y6 e6 => ?_
  have e6 : Y6 = A4 := by rw [e6, hA4]
  subst e6
  refine ok_nbx fun N4 m4 => ok_nbx fun Y7 e7 => ?_
  have e7 : Y7 = B4 := by rw [e7, hB4, hp]
  subst e7
  refine ok_some ⟨gw, ge, lB, by rw [nB4, hp], by rw [← hp]; exact ic, ?_⟩
  show Off (fun i => nE E < i) M N4
  rw [m4, m3, m2]
  exact (((off_mN (by show nE E < nE E + 1; omega)).trans (off_mN (by rw [nB1]; omega))).trans (off_mN (by rw [nB2]; omega))).trans (off_mN (by rw [nB3]; omega))
theorem MG_of {M : Mm} {n kk st H p el ex : Nat} {C : Nat → Int} {R : Nat → Nat → Nat} {D q : Int} {P : Nat → Int} {eo : Nat → Nat} (hst : st ≤ 3) (hb : BK n kk C R q st H el ex eo D P) (hB0 : 0 ≤ sN C kk) (hB1 : sN C kk ≤ 8100) (hk : KP M p (el + ex) D P) : MG M p (el + ex) (sN C kk) := by
  obtain ⟨h1, h2, h3, h4, h5, h6, h7, h8, h9, h10, h11⟩ := hb
  obtain ⟨k1, k2, k3⟩ := hk
  obtain ⟨b1, b2, b3, b4, b5⟩ := DB_big
  have d3 : D ≤ DB 3 := Int.le_trans h7 (DB_top (by omega))
  have z1 : D * sN C kk ≤ DB 3 * 8100 := Int.le_trans (Int.mul_le_mul_of_nonneg_right d3 hB0) (Int.mul_le_mul_of_nonneg_left hB1 (by omega))
  refine ⟨k1, ?_, ?_, fun c hc => ?_⟩
  · rw [k3, ← h10]
    exact sN_congr fun c hc => k2 c hc
  · rw [k3]
    omega
  · rw [k2 c hc]
    have := sN_single h9 hc
    omega
/-- a first share, in parts of 840 -/
theorem first_share {n G A k c : Nat} {R : Nat → Nat} {M : Mm} {x f : Int} (hr : Rk M k n G R A) (hn : n ≤ 5) (hc : c < n) (hd : ((ph R n (2 ^ n - 1) G : Nat) : Int) ∣ x * f) : sh R G n (2 ^ n - 1) (x * f) c * 840 = x * ind (lrk (R c) G = 0) * (840 / tN R G n) * f := by
  obtain ⟨-, -, r3, -, -, r6, r7⟩ := hr
  have top : ∀ i, i < n → ((tps R G n (2 ^ n - 1)).testBit i = true ↔ lrk (R i) G = 0) := fun i hi => by
    rw [tps_tb hi]
    unfold topP lrk
    rw [full_tb]
    constructor
    · rintro ⟨-, q2, q3⟩
      rw [if_pos q2]
      obtain ⟨d, d1, d2⟩ := r7 0 (by omega)
      have := q3 d d1 (by rw [full_tb]; exact decide_eq_true d1)
      omega
    · intro q
      by_cases e : R i < G
      · rw [if_pos e] at q
        exact ⟨decide_eq_true hi, e, fun d _ _ => by omega⟩
      · rw [if_neg e] at q
        exact absurd q (by decide)
  have et : cS (tps R G n (2 ^ n - 1)) n = tN R G n := by
    unfold cS tN
    refine sN_congr fun i hi => ?_
    by_cases e : (tps R G n (2 ^ n - 1)).testBit i = true
    · rw [if_pos e, ind_t ((top i hi).mp e)]
    · rw [if_neg e, ind_f (fun q => e ((top i hi).mpr q))]
  by_cases b : (tps R G n (2 ^ n - 1)).testBit c = true
  · have hne : tps R G n (2 ^ n - 1) ≠ 0 := fun z => by rw [z, Nat.zero_testBit] at b; cases b
    have dv := (part_ok hd).1.resolve_left hne
    have t0 := cS_gt (tps_lt R G n (2 ^ n - 1)) hne
    have t1 := (cS_bounds (tps R G n (2 ^ n - 1)) n).2
    unfold sh
    rw [if_neg hne, if_pos b, ind_t ((top c hc).mp b), et]
    rw [et] at dv t0 t1
    obtain ⟨z, hz⟩ := dv
    have h840 : tN R G n ∣ 840 := by
      have t5 : tN R G n ≤ 5 := by omega
      have : tN R G n = 1 ∨ tN R G n = 2 ∨ tN R G n = 3 ∨ tN R G n = 4 ∨ tN R G n = 5 := by omega
      rcases this with e | e | e | e | e <;> rw [e] <;> decide
    obtain ⟨u, hu⟩ := h840
    have e1 : (x * f) / tN R G n = z := by rw [hz]; exact Int.mul_ediv_cancel_left _ (by omega)
    have e2 : 840 / tN R G n = u := by rw [hu]; exact Int.mul_ediv_cancel_left _ (by omega)
    rw [e1, e2, hu]
    grind
  · have z1 : ind (lrk (R c) G = 0) = 0 := ind_f (fun q => b ((top c hc).mpr q))
    have z2 : sh R G n (2 ^ n - 1) (x * f) c = 0 := by
      unfold sh
      rw [if_neg (show ¬ c = 8 by omega), if_neg b]
      by_cases e : tps R G n (2 ^ n - 1) = 0
      · rw [if_pos e]
      · rw [if_neg e]
    rw [z1, z2, Int.zero_mul, Int.mul_zero, Int.zero_mul, Int.zero_mul]
/-- the state at the start -/
theorem start_law {M : Mm} {n kk st : Nat} {C : Nat → Int} {G : Nat → Nat} {R : Nat → Nat → Nat} {A : Nat → Nat} {q : Int} {eo : Nat → Nat} (hB : BX M n kk C G R A) (hn : n ≤ 5) (hq : 0 ≤ q) : BK n kk C R q st (2 ^ n - 1) 0 0 eo (facF n) (shP R G n (2 ^ n - 1) (fun k => C k * facF n) (fun _ => 0) kk) ∧ MI n kk C G R q (2 ^ n - 1) (wu eo 0) (facF n) (shP R G n (2 ^ n - 1) (fun k => C k * facF n) (fun _ => 0) kk) (shW R G n (2 ^ n - 1) (fun k => C k * facF n) (fun _ _ => 0) kk) := by
  have hC0 : ∀ k, k < kk → 0 ≤ C k := fun k hk => (hB.2.2.2.2.1 k hk).2.2
  obtain ⟨f1, f2, f3⟩ := fac_fc hn
  have hda : ∀ k, ((ph (R k) n (2 ^ n - 1) (G k) : Nat) : Int) ∣ C k * facF n := fun k => by
    rw [f1]
    exact Int.dvd_mul_of_dvd_right (Int.natCast_dvd_natCast.mpr (ph_fact _ _ _ _))
  have mi : MI n kk C G R q (2 ^ n - 1) (wu eo 0) (facF n) (shP R G n (2 ^ n - 1) (fun k => C k * facF n) (fun _ => 0) kk) (shW R G n (2 ^ n - 1) (fun k => C k * facF n) (fun _ _ => 0) kk) := by
    refine MI_pass (show n ≤ 8 by omega) hB.rk f2 (fun _ _ => Int.le_refl 0) (fun _ _ _ _ => Int.le_refl 0) (fun c _ _ => (sN_zero kk).symm) (fun k hk => Int.mul_nonneg (hC0 k hk) (Int.le_of_lt f2)) ?_ (fun _ _ _ _ _ _ => Int.dvd_zero _) (fun k _ => hda k) (fun c _ z => ?_) (fun S _ _ _ _ => ?_)
    · rw [sN_zero, Int.zero_add, ← sN_mul]
      exact sN_congr fun k _ => Int.mul_comm _ _
    · have z : (0 : Nat).testBit c = true := z
      rw [Nat.zero_testBit] at z
      cases z
    · have e1 : Vs kk C R n S * facF n = sN (fun k => ind (sol (R k) n S) * (C k * facF n)) kk := by
        unfold Vs
        rw [Int.mul_comm, ← sN_mul]
        exact sN_congr fun k _ => by grind
      have e2 : 0 ≤ RS kk R n (S) (2 ^ n - 1) (fun _ _ => 0) := by
        unfold RS
        refine sN_nonneg fun c _ => ?_
        by_cases y : ((2 ^ n - 1) &&& S).testBit c = true
        · rw [if_pos y]; exact (zS_b fun _ _ => Int.le_refl 0).1
        · rw [if_neg y]; exact Int.le_refl 0
      have e3 : 0 ≤ q * facF n * cS (S &&& wu eo 0) n := Int.mul_nonneg (Int.mul_nonneg hq (Int.le_of_lt f2)) (cS_bounds _ _).1
      rw [e1]
      show sN (fun k => ind (sol (R k) n S) * (C k * facF n)) kk ≤ RS kk R n S (2 ^ n - 1) (fun _ _ => 0) + sN (fun k => ind (sol (R k) n S) * (C k * facF n)) kk + q * facF n * cS (S &&& wu eo 0) n
      omega
  refine ⟨⟨fun i hi => absurd hi (Nat.not_lt_zero i), fun i z => ?_, cS_zero n, ?_, Nat.zero_le _, ?_, ?_, f2, mi.2.1, mi.2.2.2.2.1, fun S s1 s2 s3 => ?_⟩, mi⟩
  · have z : (0 : Nat).testBit i = true := z.2
    rw [Nat.zero_testBit] at z
    cases z
  · rw [cS_full]; omega
  · rw [cS_full]; omega
  · show facF n ≤ 120
    exact f3
  · have e : cS (S &&& ((2 ^ n - 1) ||| wu eo 0)) n = cS S n := cS_congr fun i hi => by
      rw [Nat.testBit_and, Nat.testBit_or, full_tb, decide_eq_true hi, Bool.true_or, Bool.and_true]
    rw [e]
    omega
