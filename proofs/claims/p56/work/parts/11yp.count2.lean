theorem isCt_gr {E F : Ev} {p : Nat} (h : isCt E p) (g : Gw E F) (hr : rE F p = rE E p) : isCt F p := by
  obtain ⟨a0, a1, a2, a3, a4, a5, a6, a7, a8, a9⟩ := h
  exact ⟨Nat.lt_of_lt_of_le a0 g.1, by rw [g.2 p (by omega)]; exact a1, by rw [hr]; exact a2, by rw [hr]; exact a3, by rw [hr]; exact a4, by rw [hr]; exact a5, by rw [g.2 _ (by omega)]; exact a6, by rw [g.2 _ (by omega)]; exact a7, by rw [g.2 _ (by omega)]; exact a8, by rw [g.2 _ (by omega)]; exact a9⟩
def oHc (m i : Nat) : Prop := i = 179 ∨ (183 ≤ i ∧ i ≤ 218) ∨ m ≤ i
/-- what holdCount leaves -/
def HC (E : Ev) (M : Mm) (n kk x : Nat) (C : Nat → Int) (G : Nat → Nat) (R : Nat → Nat → Nat) (v : Int) (F : Ev) (N : Mm) : Prop := Gw E F ∧ Lay F ∧ (∀ i, i < nE E → i ≠ 180 → i ≠ 181 → rE F i = rE E i) ∧ Off (oHc (nE E)) M N ∧ ∃ el ex eo, v = ((el : Nat) : Int) ∧ (el : Int) = min (x : Int) (n : Int) ∧ cS (wu eo el) n = (el : Int) ∧ TCx n kk C R F N 1 (nE E) el ex (sN C kk / ((x : Int) + 1) + 1) (sN C kk) eo ∧ SZ N (nE E) el ex ∧ (∀ c, c < n → MV N (nE E) 0 c * 840 = FP kk C G R n c * MV N (nE E) 0 9) ∧ (∀ c, c < n → 0 ≤ FP kk C G R n c ∧ FP kk C G R n c ≤ 10000000) ∧ ∀ c, c < 9 → 0 ≤ MV N (nE E) 0 c
/-- out of the last state, what the checks ask -/
theorem LV.tcx {F : Ev} {N : Mm} {n kk p st : Nat} {C : Nat → Int} {G : Nat → Nat} {R : Nat → Nat → Nat} {A : Nat → Nat} {M : Mm} {q : Int} {H el ex : Nat} {eo : Nat → Nat} {D : Int} {P : Nat → Int} {w : Nat → Nat → Int} (hB : BX M n kk C G R A) (hn : n ≤ 5) (hs : sN C kk ≤ 8100) (hst1 : 1 ≤ st) (hst : st ≤ 3) (hq : q = sN C kk / ((st : Int) + 1) + 1) (h : LV F N n kk C G R p st q H el ex eo D P w) (hend : st ≤ el ∨ H = 0 ∨ el + ex = n) (h179 : N 179 2 = 1) (h180 : rE F 180 1 = some p) (hp : isCt F p) (hp2 : 250 ≤ p) : (el : Int) = min (st : Int) (n : Int) ∧ cS (wu eo el) n = (el : Int) ∧ TCx n kk C R F N 1 p el ex q (sN C kk) eo ∧ SZ N p el ex := by
  have hC0 : ∀ k, k < kk → 0 ≤ C k := fun k hk => (hB.2.2.2.2.1 k hk).2.2
  have s0 : 0 ≤ sN C kk := sN_nonneg hC0
  obtain ⟨v1, ⟨c1', c2, c3, c4, c5, c6, c7, c8⟩, ⟨k1, k2, k3, k4, k5, k6, k7, k8, k9, k10, k11⟩, v4, v5⟩ := h
  have bs := cS_bounds H n
  have hH2 := v1.2.1
  have hpp := Nat.two_pow_pos n
  have q0 : 0 ≤ sN C kk / ((st : Int) + 1) := Int.ediv_nonneg s0 (by omega)
  have q1 : sN C kk / ((st : Int) + 1) ≤ sN C kk := Int.ediv_le_self _ s0
  have q2 : sN C kk < q * ((st : Int) + 1) := by rw [hq]; exact Int.lt_ediv_add_one_mul_self _ (by omega)
  have hz : st ≤ el ∨ cS H n = 0 := by
    rcases hend with e | e | e
    · exact Or.inl e
    · exact Or.inr (by rw [e]; exact cS_zero n)
    · exact Or.inr (by omega)
  have el_eq : (el : Int) = min (st : Int) (n : Int) := by omega
  obtain ⟨b1, b2, b3, b4, b5⟩ := DB_big
  have pB11 : (0 : Int) < pB 11 := pB_pos 11
  refine ⟨el_eq, k3, ⟨by decide, h179, h180, hp, hp2, c1', ⟨by omega, by omega⟩, c2, c3, c4, ⟨s0, by omega⟩, c5, by omega, c6, by omega, c7, fun i hi => ⟨c8 i hi, k1 i hi⟩, fun s hs' => ?_, fun S s1 s2 => ?_, hC0, hB.2.2.2.2.2⟩, fun s hs' => ⟨(v5 s hs').2.2.1.1, (v5 s hs').2.2.1.2, (v5 s hs').2.2.2⟩⟩
  · obtain ⟨g1, g2, ⟨g3, g4⟩, g5⟩ := v5 s hs'
    refine ⟨g1, g2, ?_⟩
    have a1 : MV N p s 9 * sN C kk ≤ pB 11 * 8100 := Int.le_trans (Int.mul_le_mul_of_nonneg_right (Int.le_of_lt g4) s0) (Int.mul_le_mul_of_nonneg_left hs (Int.le_of_lt pB11))
    omega
  · by_cases hf : S = 2 ^ n - 1
    · subst hf
      have e1 : Vs kk C R n (2 ^ n - 1) = sN C kk := sN_congr fun k _ => by rw [ind_t (sol_full (R k) n), Int.mul_one]
      have e2 : cS ((2 ^ n - 1) &&& wu eo el) n = (el : Int) := by
        rw [← k3]
        exact cS_congr fun i hi => by rw [Nat.testBit_and, full_tb, decide_eq_true hi, Bool.true_and]
      have e3 : sN C kk / q < (st : Int) + 1 := Int.ediv_lt_of_lt_mul (by omega) (by rw [Int.mul_comm]; exact q2)
      rw [e1, e2, cS_full]
      omega
    · by_cases hH : H = 0
      · have a := k11 S s1 s2 hf
        rw [cS_both k2, hH, Nat.zero_and, cS_zero] at a
        omega
      · have hHp := cS_gt hH2 hH
        have est : (el : Int) = (st : Int) := by omega
        have mi := v4.resolve_left (by omega)
        exact Pt_full (G := G) (st := (st : Int)) (show n ≤ 8 by omega) (by omega) q2 (by rw [k3]; exact est) k2 mi k11 S s1 s2 hf
theorem holdCount_ok {E : Ev} {M : Mm} {n kk x : Nat} {C : Nat → Int} {G : Nat → Nat} {R : Nat → Nat → Nat} {A : Nat → Nat} {lo : Nat → Int} (hL : Lay E) (hB : BX M n kk C G R A) (hl : LT M n lo) (hn : n ≤ 5) (hs : sN C kk ≤ 8100) (h179 : M 179 2 = 0) (r180 : ∀ k, rE E 180 k = none) (r181 : ∀ k, rE E 181 k = none) (hx1 : 1 ≤ x) (hx3 : x ≤ 3) : Ok (f_Co_holdCount E M (x : Int)) (fun r => HC E M n kk x C G R r.1 r.2.1 r.2.2) := by
  have h250 := hL.1
  have hC0 : ∀ k, k < kk → 0 ≤ C k := fun k hk => (hB.2.2.2.2.1 k hk).2.2
  have s0 : 0 ≤ sN C kk := sN_nonneg hC0
  obtain ⟨p, hp⟩ : ∃ p, p = nE E := ⟨_, rfl⟩
  obtain ⟨M1, hM1⟩ : ∃ M1, M1 = u2 M 179 2 1 := ⟨_, rfl⟩
  have e1 : M1 179 2 = 1 := by rw [hM1, u2_at]
  have o1 : Off (fun i => i = 179) M M1 := by rw [hM1]; exact Off.refl.u2 rfl
  have j41 : ∀ (Y : Ev) (K : Mm), Ge E Y → Lay Y → nE Y = p + 5 → isCt Y p → Off (fun i => p ≤ i) M1 K → Ok (Co_holdCount_j41 (eRef Y 180 1 p) K (x : Int)) (fun r => HC E M n kk x C G R r.1 r.2.1 r.2.2) := by
    intro Y K gY lY nY cY oK
    obtain ⟨E5, hE5⟩ : ∃ E5, E5 = eRef Y 180 1 p := ⟨_, rfl⟩
    rw [← hE5]
    have l5 : Lay E5 := by rw [hE5]; exact lay_put180 lY
    have n5 : nE E5 = p + 5 := by rw [hE5, nE_ref]; exact nY
    have g5 : Gw Y E5 := by rw [hE5]; exact gw_ref _ _ _ _
    have r5 : ∀ i, i ≠ 180 → rE E5 i = rE Y i := fun i hi => by rw [hE5, rE_ref (by omega), va_up_ne _ _ hi]
    have r5p : rE E5 180 1 = some p := by rw [hE5]; exact r_at (by omega)
    have c5 : isCt E5 p := isCt_gr cY g5 (r5 p (by omega))
    have w5 : Wts E5 (p + 5) := fun i a _ h => by
      rw [r5 181 (by decide), gY.2 181 (Nat.zero_le _) (by omega), r181] at h
      cases h
    have oMK : Off (fun i => i = 179 ∨ p ≤ i) M K := (o1.mono fun i hi => Or.inl hi).trans (oK.mono fun i hi => Or.inr hi)
    have bK : BX K n kk C G R A := hB.off oMK (by omega) (by omega) (by omega) (by omega) (fun k hk => by omega)
    have lK : LT K n lo := hl.off oMK (by omega)
    have eK : K 179 2 = 1 := by rw [oK 179 (by omega)]; exact e1
    unfold Co_holdCount_j41
    rw [eK]
    refine ok_ck l5 (ok_ck (by decide) ?_)
    rw [show (1 : Int).toNat = 1 from rfl, r5p]
    refine ok_sb (ok_ck c5 (ok_bm (start_ok (m := p + 5) (eo := fun _ => 0) l5 bK hn hs w5 c5 (by omega) (Nat.le_refl _) (by omega) hx1 hx3) ?_))
    rintro ⟨F, N0⟩ ⟨s1r, s2r, s3r, s4r, s5r⟩
    have gF : GR (p + 5) E5 F := s1r
    have o0 : Off (fun i => oCn (p + 5) i ∨ i = 179 ∨ i = p ∨ i = p + 1) K N0 := s2r
    have e0 : N0 179 2 = K 179 2 := s3r
    have ck0 : CK N0 p n kk 0 0 (sN C kk / ((x : Int) + 1) + 1) (sN C kk) C (fun _ => 0) := s4r
    have cn0 : CN F N0 n kk (2 ^ n - 1) (facF n) (shP R G n (2 ^ n - 1) (fun k => C k * facF n) (fun _ => 0) kk) (shW R G n (2 ^ n - 1) (fun k => C k * facF n) (fun _ _ => 0) kk) := s5r
    have cF : isCt F p := isCt_gr c5 gF.1 (gF.2.2.2 p (by omega) (by omega))
    have lF := gF.2.1
    refine ok_ck gF.1 (ok_ck lF (ok_ck cF (ok_bm (keepMoment_ok lF cF (by omega) cn0 ck0.2.2.2.2.1 ck0.2.2.2.2.2.1 (by decide)) ?_)))
    rintro N1 ⟨m1, m2, -⟩
    have bN0 : BX N0 n kk C G R A := bK.off o0 (by unfold oCn; omega) (by unfold oCn; omega) (by unfold oCn; omega) (by unfold oCn; omega) (fun k hk => by unfold oCn; omega)
    have bN1 : BX N1 n kk C G R A := bN0.off m1 (by omega) (by omega) (by omega) (by omega) (fun k hk => by omega)
    have lN1 : LT N1 n lo := (lK.off o0 (by unfold oCn; omega)).off m1 (by omega)
    have q0 : 0 ≤ sN C kk / ((x : Int) + 1) := Int.ediv_nonneg s0 (by omega)
    have q1 : sN C kk / ((x : Int) + 1) ≤ sN C kk := Int.ediv_le_self _ s0
    obtain ⟨bk, mi⟩ := start_law (st := x) (eo := fun _ => 0) (q := sN C kk / ((x : Int) + 1) + 1) hB hn (by omega)
    have lv : LV F N1 n kk C G R p x (sN C kk / ((x : Int) + 1) + 1) (2 ^ n - 1) 0 0 (fun _ => 0) (facF n) (shP R G n (2 ^ n - 1) (fun k => C k * facF n) (fun _ => 0) kk) (shW R G n (2 ^ n - 1) (fun k => C k * facF n) (fun _ _ => 0) kk) := by
      refine ⟨cn0.off gF.2.2.1 hB.2.2.2.1 (show n ≤ 8 by omega) m1 (fun c hc => by omega), ?_, bk, Or.inr mi, fun s hs' => ?_⟩
      · unfold CK at ck0 ⊢
        rw [m1 p (by omega), m1 (p + 1) (by omega), m1 (p + 2) (by omega)]
        exact ck0
      · have e : s = 0 := by omega
        rw [e]
        exact MG_of (el := 0) (ex := 0) hx3 bk s0 hs m2
    refine ok_bm (holdLoop_ok (m := p + 5) lF bN1 lN1 hn hs gF.2.2.1 cF (by omega) (Nat.le_refl _) hx1 hx3 (by omega) (by omega) lv) ?_
    rintro ⟨t, y, F2, N⟩ ⟨t1, t2r, t3r, t4r, t5r, H, el, ex, eo, D, P, w, t6r, t7⟩
    have t2 : F2 = F := t2r
    subst t2
    have t3 : Off (oHo (p + 5) p) N1 N := t3r
    have t4 : N 179 2 = N1 179 2 := t4r
    have t5 : ∀ j, j < 130 → N (p + 4) j = N1 (p + 4) j := t5r
    have t6 : LV F2 N n kk C G R p x (sN C kk / ((x : Int) + 1) + 1) H el ex eo D P w := t6r
    have f179 : N 179 2 = 1 := by rw [t4, m1 179 (by omega), e0, eK]
    have f180 : rE F2 180 1 = some p := by rw [gF.2.2.2 180 (by omega) (by decide)]; exact r5p
    obtain ⟨z1, z2, z3, z4⟩ := LV.tcx (A := A) hB hn hs hx1 hx3 rfl t6 t7 f179 f180 cF (by omega)
    have gEF : Gw E F2 := gw_trans gY.1 (gw_trans g5 gF.1)
    have ev : ∀ c, c < 10 → MV N p 0 c = MV N1 p 0 c := fun c hc => by
      unfold MV
      exact Sg_congr fun i hi => t5 _ (by omega)
    obtain ⟨f1, f2, f3⟩ := fac_fc hn
    obtain ⟨u1, u2', u3⟩ := m2
    have u2' : ∀ c, c < 9 → MV N1 p 0 c = shP R G n (2 ^ n - 1) (fun k => C k * facF n) (fun _ => 0) kk c := u2'
    have u3 : MV N1 p 0 9 = facF n := u3
    have hP0 := bk.2.2.2.2.2.2.2.2.1
    have hP10 := bk.2.2.2.2.2.2.2.2.2.1
    have hF : ∀ c, c < n → MV N p 0 c * 840 = FP kk C G R n c * MV N p 0 9 := fun c hc => by
      rw [ev c (by omega), ev 9 (by decide), u2' c (by omega), u3]
      show (0 + sN (fun k => sh (R k) (G k) n (2 ^ n - 1) (C k * facF n) c) kk) * 840 = FP kk C G R n c * facF n
      unfold FP
      rw [Int.zero_add, Int.mul_comm, ← sN_mul, Int.mul_comm, ← sN_mul]
      refine sN_congr fun k hk => ?_
      have a := first_share (x := C k) (f := facF n) (hB.2.2.2.2.1 k hk).1 hn hc (by rw [f1]; exact Int.dvd_mul_of_dvd_right (Int.natCast_dvd_natCast.mpr (ph_fact _ _ _ _)))
      show 840 * sh (R k) (G k) n (2 ^ n - 1) (C k * facF n) c = facF n * (C k * ind (lrk (R k c) (G k) = 0) * (840 / tN (R k) (G k) n))
      rw [Int.mul_comm, a, Int.mul_comm]
    have hM0 : ∀ c, c < 9 → 0 ≤ MV N p 0 c := fun c hc => by rw [ev c (by omega), u2' c hc]; exact hP0 c hc
    have hFb : ∀ c, c < n → 0 ≤ FP kk C G R n c ∧ FP kk C G R n c ≤ 10000000 := fun c hc => by
      have a := hF c hc
      rw [ev 9 (by decide), u3] at a
      have b0 := hM0 c (by omega)
      have b1 : MV N p 0 c ≤ facF n * sN C kk := by
        rw [ev c (by omega), u2' c (by omega), ← hP10]
        exact sN_single hP0 (show c < 9 by omega)
      have b2 : facF n * sN C kk ≤ facF n * 8100 := Int.mul_le_mul_of_nonneg_left hs (Int.le_of_lt f2)
      constructor
      · rcases Int.lt_or_le (FP kk C G R n c) 0 with z | z
        · have := Int.mul_neg_of_neg_of_pos z f2
          omega
        · exact z
      · rcases Int.lt_or_le 10000000 (FP kk C G R n c) with z | z
        · have := Int.mul_le_mul_of_nonneg_right (Int.le_of_lt z) (Int.le_of_lt f2)
          omega
        · exact z
    refine ok_ck (gw_self _) (ok_ck lF (ok_ck t1 (ok_ck cF (ok_some ?_))))
    have oF : Off (oHc p) M N := by
      refine ((oMK.mono fun i hi => ?_).trans (o0.mono fun i hi => ?_)).trans ((m1.mono fun i hi => ?_).trans (t3.mono fun i hi => ?_))
      · unfold oHc; omega
      · unfold oCn at hi; unfold oHc; omega
      · unfold oHc; omega
      · unfold oHo oCn at hi; unfold oHc; omega
    refine ⟨gEF, lF, fun i hi h1 h2 => ?_, by rw [← hp]; exact oF, el, ex, eo, t6.2.1.2.2.2.2.1, z1, z2, by rw [← hp]; exact z3, by rw [← hp]; exact z4, by rw [← hp]; exact hF, hFb, by rw [← hp]; exact hM0⟩
    rw [gF.2.2.2 i (by omega) h2, r5 i h1]
    exact funext fun j => gY.2 i (Nat.zero_le _) hi j
  unfold f_Co_holdCount
  rw [h179, show ((0 : Int) + 1) % 21 = 1 from rfl, ← hM1, e1, show (1 : Int).toNat = 1 from rfl, r180]
  refine ok_ck hL (ok_ck (by decide) (ok_ck (by decide) (ok_mOn (ok_nb (ok_nb (ok_nb ?_))))))
  refine ok_bm (ctInit_ok (M := mN M1 (nE E)) hL) ?_
  rintro ⟨Y, K⟩ ⟨y1r, y2r, y3r, y4r, y5r, y6r⟩
  have y3 : Lay Y := y3r
  have y6 : Off (fun i => nE E < i) (mN M1 (nE E)) K := y6r
  have oK : Off (fun i => p ≤ i) M1 K := (off_mN (by show p ≤ nE E; omega)).trans (y6.mono fun i hi => by omega)
  refine ok_ck y1r (ok_ck y3 (ok_nb ?_))
  rw [← hp] at y4r y5r ⊢
  exact j41 Y K y2r y3 y4r y5r oK
