/-! THE LAW'S CHECKS OF A COUNT: the elected, the solid coalitions -/
theorem TCx.off {n kk : Nat} {C : Nat → Int} {R : Nat → Nat → Nat} {E : Ev} {M N : Mm} {j p el ex : Nat} {q B : Int} {eo : Nat → Nat} {S : Nat → Prop} (h : TCx n kk C R E M j p el ex q B eo) (ho : Off S M N) (h1 : ¬ S 179) (h2 : ∀ c, 250 ≤ c → c < nE E → ¬ S c) : TCx n kk C R E N j p el ex q B eo := by
  obtain ⟨a1, a2, a3, a4, a5, a6, a7, a8, a9, a10, a11, a12, a13, a14, a15, a16, a17, a18, a19⟩ := h
  have hp := a4.1
  have m : ∀ c, p ≤ c → c ≤ p + 4 → N c = M c := fun c h3 h4 => ho c (h2 c (by omega) (by omega))
  have e0 := m p (Nat.le_refl _) (by omega)
  have e4 := m (p + 4) (by omega) (by omega)
  refine ⟨a1, by rw [ho 179 h1]; exact a2, a3, a4, a5, by rw [e0]; exact a6, a7, by rw [e0]; exact a8, by rw [e0]; exact a9, by rw [e0]; exact a10, a11, by rw [e0]; exact a12, a13, by rw [e0]; exact a14, a15, fun k hk => by rw [m (p + 1) (by omega) (by omega)]; exact a16 k hk, fun i hi => by rw [m (p + 2) (by omega) (by omega)]; exact a17 i hi, fun s hs => ?_, a19⟩
  unfold MV
  rw [e4]
  exact a18 s hs
theorem latest_eq {n kk : Nat} {C : Nat → Int} {R : Nat → Nat → Nat} {E : Ev} {M : Mm} {j p el ex : Nat} {q B : Int} {eo : Nat → Nat} (h : TCx n kk C R E M j p el ex q B eo) : f_Co_latest E M = some (some p) := by
  obtain ⟨a1, a2, a3, -⟩ := h
  unfold f_Co_latest
  rw [a2, ck_i (inN a1 (by decide)), Int.toNat_natCast, a3]
theorem quota_ok {n kk : Nat} {C : Nat → Int} {R : Nat → Nat → Nat} {E : Ev} {M : Mm} {j p el ex : Nat} {q B : Int} {eo : Nat → Nat} (h : TCx n kk C R E M j p el ex q B eo) : Ok (f_B_quota E M) (fun r => r = q) := by
  unfold f_B_quota
  rw [latest_eq h]
  obtain ⟨a1, a2, a3, a4, a5, a6, -⟩ := h
  refine ok_sb ?_
  show Ok (ck (isCt E p) (some (M p 0))) _
  exact ok_ck a4 (ok_some a6)
theorem steps_ok {n kk : Nat} {C : Nat → Int} {R : Nat → Nat → Nat} {E : Ev} {M : Mm} {j p el ex : Nat} {q B : Int} {eo : Nat → Nat} (h : TCx n kk C R E M j p el ex q B eo) : Ok (f_B_steps E M) (fun r => r = ((el + ex : Nat) : Int)) := by
  unfold f_B_steps
  rw [latest_eq h]
  obtain ⟨a1, a2, a3, a4, a5, a6, a7, a8, a9, a10, a11, a12, a13, a14, -⟩ := h
  refine ok_sb ?_
  show Ok (ck (isCt E p) (some ((M p 4) + (M p 5)))) _
  refine ok_ck a4 (ok_some ?_)
  rw [a12, a14]; omega
theorem electedAt_ok {n kk i : Nat} {C : Nat → Int} {R : Nat → Nat → Nat} {E : Ev} {M : Mm} {j p el ex : Nat} {q B : Int} {eo : Nat → Nat} (h : TCx n kk C R E M j p el ex q B eo) (hi : i < el) : Ok (f_B_electedAt E M (i : Int)) (fun r => r = (eo i : Int)) := by
  unfold f_B_electedAt
  rw [latest_eq h]
  obtain ⟨a1, a2, a3, a4, a5, a6, a7, a8, a9, a10, a11, a12, a13, a14, a15, a16, a17, -⟩ := h
  refine ok_sb ?_
  show Ok (ck (isCt E p) (ck (rgI (i : Int)) (if (i : Int) < 0 then none else ck (rgI (M p 4)) (if (i : Int) < (M p 4) then ck (inb (i : Int) 3) (some (M (p + 2) (i : Int).toNat)) else none)))) _
  rw [a12, Int.toNat_natCast]
  exact ok_ck a4 (ok_ck (rgN (by omega)) (ok_if (fun z => by omega) (fun _ => ok_ck (rgN (by omega)) (ok_if (fun _ => ok_ck (inN (by omega) (by decide)) (ok_some (a17 i hi).1)) (fun z => by omega)))))
theorem solidQuotas_ok {n kk S : Nat} {C : Nat → Int} {G : Nat → Nat} {R : Nat → Nat → Nat} {A : Nat → Nat} {E : Ev} {M : Mm} {j p el ex : Nat} {q B : Int} {eo : Nat → Nat} (hL : Lay E) (hB : BX M n kk C G R A) (hn1 : 1 ≤ n) (h : TCx n kk C R E M j p el ex q B eo) (h1 : 1 ≤ S) (hS : S < 2 ^ n) : Ok (f_B_solidQuotas E M (S : Int)) (fun r => r.1 = min (Vs kk C R n S / q) (cS S n) ∧ Off (fun i => i = 40) M r.2) := by
  have hn := hB.2.1
  have hpw := pow_lt hn
  have hkk := hB.2.2.2.1
  have hlat := latest_eq h
  obtain ⟨a1, a2, a3, a4, a5, a6, ⟨a70, a71⟩, a8, a9, a10, a11, a12, a13, a14, a15, a16, a17, a18, a19, a20, a21⟩ := h
  have hp := a4.1
  unfold f_B_solidQuotas
  rw [everybody_eq hB.1 hn]
  refine ok_sb ?_
  rw [needRange_ok (by decide) (by omega) (by omega) (by omega), hlat]
  refine ok_sb (ok_sb ?_)
  show Ok (ck (isCt E p) (ck (rgI (M p 0)) (if 1 ≤ (M p 0) then _ else none))) _
  rw [a6, hB.2.2.1]
  refine ok_ck a4 (ok_ck ⟨by omega, by omega⟩ (ok_if (fun _ => ?_) (fun z => absurd a70 z)))
  refine ok_sb (ok_bm (findSupport_ok (C := C) hL (fun k hk => (hB.2.2.2.2.1 k hk).1) hn hn1 ⟨yi_5 hL, by rw [yt_5 hL]⟩ (by rw [yt_5 hL]) (show kk ≤ 31 by omega) hkk (by decide) (by decide) (fun k hk => (hB.2.2.2.2.1 k hk).2.1)) ?_)
  rintro P ⟨p1, p2'⟩
  have eP : P p 0 = q := by rw [p1 p (by omega)]; exact a6
  have v0 : 0 ≤ Vs kk C R n S := sN_nonneg fun k hk => Int.mul_nonneg (a20 k hk) (ind_01 _).1
  have v1 : Vs kk C R n S ≤ sN C kk := sN_le fun k hk => by
    have b := a20 k hk
    by_cases e : sol (R k) n S
    · rw [ind_t e]; omega
    · rw [ind_f e]; omega
  have cb := cS_bounds S n
  have dq : 0 ≤ Vs kk C R n S / q := Int.ediv_nonneg v0 (by omega)
  have dq2 : Vs kk C R n S / q ≤ Vs kk C R n S := Int.ediv_le_self _ v0
  rw [Int.toNat_natCast, p2' S h1 hS, eP, bitCount_cS E P (n := n) (by omega) hS]
  exact ok_ck (inN (by omega) (by decide)) (ok_ck ⟨by omega, by omega⟩ (ok_ck ⟨by omega, by omega⟩ (ok_sb (ok_ck ⟨by omega, by omega⟩ (ok_ck ⟨by omega, by omega⟩ (ok_nb (ok_some ⟨rfl, p1⟩)))))))
theorem t21_ok {n kk q1 : Nat} {C : Nat → Int} {R : Nat → Nat → Nat} {E : Ev} {M : Mm} {j p el ex : Nat} {q B x3 : Int} {eo : Nat → Nat} (hL : Lay E) (hq1 : isO 12 E q1) (hn : n ≤ 5) (h : TCx n kk C R E M j p el ex q B eo) : Ok (l_La_transferable_21 q1 x3 (el : Int) 5000 E M 0 0) (fun r => r.1 = 1 ∧ r.2.1 = ((wu eo el : Nat) : Int) ∧ r.2.2.2.1 = E ∧ r.2.2.2.2 = M) := by
  have hpw := pow_lt (show n ≤ 8 by omega)
  have h3 := h.2.2.2.2.2.2.2.2.2.2.2.2.1
  have h17 := h.2.2.2.2.2.2.2.2.2.2.2.2.2.2.2.2.1
  refine L_La_transferable_21 q1 x3 (el : Int) (I := fun F N x5 x6 => F = E ∧ N = M ∧ ∃ i : Nat, x6 = (i : Int) ∧ i ≤ el ∧ x5 = ((wu eo i : Nat) : Int)) (μ := fun _ _ _ x6 => el - x6.toNat) ?_ 5000 E M 0 0 ⟨rfl, rfl, 0, rfl, Nat.zero_le _, rfl⟩ (by show el - _ < 5000; omega)
  rintro F N x5 x6 ⟨rfl, rfl, i, rfl, hi, rfl⟩
  unfold La_transferable_21b
  refine ok_ck hL (ok_ck hq1 (ok_ck (rgN (by omega)) (ok_ck (rgN (by omega)) (ok_if (fun z => ?_) (fun z => ?_)))))
  · have e : i = el := by omega
    rw [e]
    exact ok_some (ok_out ne0 ⟨rfl, rfl, rfl, rfl⟩)
  · have hil : i < el := by omega
    have v2 := (h17 i hil).2
    have ul := wu_lt (o := eo) (n := n) (kw := el) (fun i hi => (h17 i hi).2) i (by omega)
    have pw := Nat.pow_lt_pow_right (a := 2) (by decide) v2
    have pw0 := Nat.two_pow_pos (eo i)
    refine ok_bm (electedAt_ok h hil) ?_
    rintro r rfl
    rw [Int.toNat_natCast, p2, orI_nat]
    exact ok_ck ⟨by omega, by omega⟩ (ok_ck ⟨by omega, by omega⟩ (ok_ck ⟨by omega, by omega⟩ (ok_some (ok_go rfl ⟨⟨rfl, rfl, i + 1, c1 i, by omega, rfl⟩, cnt hil⟩))))
theorem t101_ok {n kk q1 : Nat} {C : Nat → Int} {G : Nat → Nat} {R : Nat → Nat → Nat} {A : Nat → Nat} {E : Ev} {M : Mm} {j p el ex : Nat} {q B : Int} {eo : Nat → Nat} (hL : Lay E) (hB : BX M n kk C G R A) (hLB : LB E M q1 n kk C G R) (hn1 : 1 ≤ n) (hn : n ≤ 5) (h : TCx n kk C R E M j p el ex q B eo) : Ok (l_La_transferable_101 q1 ((wu eo el : Nat) : Int) 5000 E M 1 1) (fun r => r.1 = 1 ∧ r.2.1 = 1 ∧ r.2.2.2.1 = E ∧ Off (fun i => i = 40) M r.2.2.2.2) := by
  have hpw := pow_lt (show n ≤ 8 by omega)
  have hp1 := Nat.two_pow_pos n
  refine L_La_transferable_101 q1 _ (I := fun F N x7 x8 => F = E ∧ x7 = 1 ∧ Off (fun i => i = 40) M N ∧ ∃ S : Nat, x8 = (S : Int) ∧ 1 ≤ S ∧ S ≤ 2 ^ n) (μ := fun _ _ _ x8 => 2 ^ n - x8.toNat) ?_ 5000 E M 1 1 ⟨rfl, rfl, Off.refl, 1, rfl, Nat.le_refl _, by omega⟩ (by show 2 ^ n - _ < 5000; omega)
  rintro F N x7 x8 ⟨rfl, rfl, oN, S, rfl, s1, s2⟩
  have hBN : BX N n kk C G R A := hB.off oN (by decide) (by decide) (by decide) (by decide) (fun k hk => by omega)
  have lbN : LB F N q1 n kk C G R := hLB.off oN (fun c h1 h2 => by omega)
  have tN : TCx n kk C R F N j p el ex q B eo := h.off oN (by decide) (fun c h1 h2 => by omega)
  have hX : wu eo el < 2 ^ n := wu_lt (kw := el) (fun i hi => (h.2.2.2.2.2.2.2.2.2.2.2.2.2.2.2.2.1 i hi).2) el (Nat.le_refl _)
  have h7 := h.2.2.2.2.2.2.1
  have h19 := h.2.2.2.2.2.2.2.2.2.2.2.2.2.2.2.2.2.2.1
  have h20 := h.2.2.2.2.2.2.2.2.2.2.2.2.2.2.2.2.2.2.2.1
  have h21 := h.2.2.2.2.2.2.2.2.2.2.2.2.2.2.2.2.2.2.2.2
  unfold La_transferable_101b
  rw [lbN.2.2.1, Int.toNat_natCast, p2]
  refine ok_ck hL (ok_ck lbN.1 (ok_ck ⟨by omega, by omega⟩ (ok_ck (rgN (by omega)) (ok_ck (rgN (by omega)) (ok_if (fun z => ok_some (ok_out ne0 ⟨rfl, rfl, rfl, oN⟩)) (fun z => ?_))))))
  have hS : S < 2 ^ n := by omega
  refine ok_bm (lbSolid_ok lbN hBN hn hS) ?_
  rintro r rfl
  refine ok_bm (quota_ok tN) ?_
  rintro r rfl
  have v0 : 0 ≤ Vs kk C R n S := sN_nonneg fun k hk => Int.mul_nonneg (h20 k hk) (ind_01 _).1
  have v1 : Vs kk C R n S ≤ sN C kk := sN_le fun k hk => by
    have b := h20 k hk
    by_cases e : sol (R k) n S
    · rw [ind_t e]; omega
    · rw [ind_f e]; omega
  have hF := h19 S s1 hS
  have cb := cS_bounds (S &&& wu eo el) n
  have cb2 := cS_bounds S n
  have dq : 0 ≤ Vs kk C R n S / r := Int.ediv_nonneg v0 (by omega)
  have dq2 : Vs kk C R n S / r ≤ Vs kk C R n S := Int.ediv_le_self _ v0
  have j153 : Ok (La_transferable_j153 F N q1 ((wu eo el : Nat) : Int) (S : Int) (Vs kk C R n S / r)) (fun y => (y.1 = 0 → (y.2.2.2.1 = F ∧ y.2.1 = 1 ∧ Off (fun i => i = 40) M y.2.2.2.2 ∧ ∃ S : Nat, y.2.2.1 = (S : Int) ∧ 1 ≤ S ∧ S ≤ 2 ^ n) ∧ 2 ^ n - y.2.2.1.toNat < 2 ^ n - (S : Int).toNat) ∧ (y.1 ≠ 0 → y.1 = 1 ∧ y.2.1 = 1 ∧ y.2.2.2.1 = F ∧ Off (fun i => i = 40) M y.2.2.2.2)) := by
    unfold La_transferable_j153
    refine ok_ck hL (ok_ck lbN.1 (ok_bm (solidQuotas_ok hL hBN hn1 tN s1 hS) ?_))
    rintro ⟨a, K⟩ ⟨a1r, a2r⟩
    have a1 : a = min (Vs kk C R n S / r) (cS S n) := a1r
    have a2 : Off (fun i => i = 40) N K := a2r
    subst a1
    show Ok ((f_In_bitCount F K (S : Int)).bind _) _
    rw [bitCount_cS F K (n := n) (by omega) hS]
    exact ok_sb (ok_ck ⟨by omega, by omega⟩ (ok_ck ⟨by omega, by omega⟩ (ok_ck ⟨by omega, by omega⟩ (ok_if (fun _ => ok_some (ok_go rfl ⟨⟨rfl, rfl, oN.trans a2, S + 1, c1 S, by omega, by omega⟩, cnt hS⟩)) (fun z => absurd rfl z)))))
  rw [andI_nat, bitCount_cS F N (n := n) (by omega) (and_lt hX)]
  refine ok_ck ⟨by omega, by omega⟩ (ok_ck ⟨by omega, by omega⟩ (ok_ck (by decide) (ok_if (fun z => absurd z (by decide)) (fun _ => ok_ck ⟨by omega, by omega⟩ (ok_ck ⟨by omega, by omega⟩ (ok_sb (ok_ck ⟨by omega, by omega⟩ (ok_ck ⟨by omega, by omega⟩ (ok_if (fun _ => j153) (fun w => ok_if (fun _ => j153) (fun w2 => ?_)))))))))))
  exfalso
  refine w2 (congrArg _ ?_)
  have e0 := dn_zero hS (by omega) hX (by omega)
  refine eq_tb (and_lt hX) hS fun i hi => ?_
  have := dN_tb (a := S) (b := wu eo el) (by omega) (by omega) i
  rw [e0, Nat.zero_testBit] at this
  rw [Nat.testBit_and]
  cases e1 : S.testBit i with
  | false => rfl
  | true =>
    rw [e1] at this
    cases e2 : (wu eo el).testBit i with
    | true => rfl
    | false => rw [e2] at this; cases this
