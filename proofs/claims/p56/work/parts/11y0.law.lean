/-! THE LAW'S FIRST BOX -/
theorem hash_ok {L : Nat} {xs : Nat → Int32} {E : Ev} {M : Mm} (hL : L ≤ 260) (h0 : isIA E 0) (h1 : (tE E 0).2 = 1) : Ok (l_La_law_11 L xs 0 5000 E M 0) (fun r => r.1 = 1 ∧ r.2.2.1 = E ∧ Off (fun c => c = 0) M r.2.2.2) := by
  refine L_La_law_11 L xs 0 (I := fun F N x => F = E ∧ ∃ i : Nat, x = (i : Int) ∧ i ≤ L ∧ Off (fun c => c = 0) M N) (μ := fun _ _ x => L - x.toNat) ?_ 5000 E M 0 ⟨rfl, 0, rfl, Nat.zero_le _, Off.refl⟩ (by show L - _ < 5000; omega)
  rintro F N x ⟨rfl, i, rfl, hi, oN⟩
  unfold La_law_11b
  refine ok_ck h0 (ok_ck (rgN (by omega)) (ok_ck (rgN (by omega)) (ok_if (fun z => ok_some (ok_out ne0 ⟨rfl, rfl, oN⟩)) (fun z => ?_))))
  exact ok_ck (by rw [h1]; decide) (ok_ck (inN (by omega) (by omega)) (ok_nb (ok_nb (ok_some (ok_go rfl ⟨⟨rfl, i + 1, c1 i, by omega, (oN.u2 rfl).u2 rfl⟩, cnt (by omega)⟩)))))
theorem lbInit_ok {E : Ev} {M : Mm} {n : Nat} (hL : Lay E) : Ok (f_Lb_init (eNew E (112, 0)) M (nE E) (n : Int)) (fun r => Gw (eNew E (112, 0)) r.1 ∧ Ge E r.1 ∧ Lay r.1 ∧ Off (fun c => c = nE E ∨ nE E < c) M r.2 ∧ (M (nE E) 3 = 0 → LB r.1 r.2 (nE E) n 0 (fun _ => 0) (fun _ => 0) (fun _ _ => 0) ∧ LZ r.1 r.2 (nE E) 0)) := by
  have h250 := hL.1
  unfold f_Lb_init
  obtain ⟨F, hF⟩ : ∃ F, F = eRef (eNew (eRef (eNew (eNew E (112, 0)) (6, 12)) (nE E) 1 (nE E + 1)) (0, 12)) (nE E) 2 (nE E + 2) := ⟨_, rfl⟩
  have oq : isO 12 (eNew E (112, 0)) (nE E) := ⟨new_i E _, new_T E _⟩
  have n1 : nE (eNew (eNew E (112, 0)) (6, 12)) = nE E + 2 := rfl
  have n2 : nE (eRef (eNew (eNew E (112, 0)) (6, 12)) (nE E) 1 (nE E + 1)) = nE E + 2 := by rw [nE_ref]; exact n1
  have n3 : nE (eNew (eRef (eNew (eNew E (112, 0)) (6, 12)) (nE E) 1 (nE E + 1)) (0, 12)) = nE E + 3 := by rw [new_n, n2]
  have n4 : nE F = nE E + 3 := by rw [hF, nE_ref, n3]
  have hLF : Lay F := by rw [hF]; exact lay_ref (lay_new (lay_ref (lay_new (lay_new hL)) h250)) h250
  have gF : Gw (eNew E (112, 0)) F := by
    rw [hF]
    exact gw_trans (gw_new _ _) (gw_trans (gw_ref _ _ _ _) (gw_trans (gw_new _ _) (gw_ref _ _ _ _)))
  have tF : ∀ i, i ≠ nE E + 2 → tE F i = tE (eNew (eNew E (112, 0)) (6, 12)) i := fun i hi => by
    rw [hF, tE_ref, new_t (by rw [n2]; exact hi), tE_ref]
  have r1 : rE F (nE E) 1 = some (nE E + 1) := by
    rw [hF, rE_ref (by rw [n3]; omega), va_up_self, va_up_ne _ _ (by decide), new_r (by rw [n2]; omega), rE_ref (by rw [n1]; omega), va_up_self, va_up_self]
  have r2 : rE F (nE E) 2 = some (nE E + 2) := by
    rw [hF, rE_ref (by rw [n3]; omega), va_up_self, va_up_self]
  have t0 : tE F (nE E) = (112, 0) := by
    rw [tF _ (by omega), new_t (by show nE E ≠ nE E + 1; omega)]
    exact new_T E _
  have t1 : tE F (nE E + 1) = (6, 12) := by
    rw [tF _ (by omega)]
    exact new_T (eNew E (112, 0)) (6, 12)
  have t2 : tE F (nE E + 2) = (0, 12) := by
    rw [hF, tE_ref]
    have := new_T (eRef (eNew (eNew E (112, 0)) (6, 12)) (nE E) 1 (nE E + 1)) (0, 12)
    rw [n2] at this
    exact this
  refine ok_ck oq (ok_nb (ok_nb (ok_nb (ok_nb (ok_nbx fun p102 e102 => ?_)))))
  have e102 : p102 = nE E + 2 := by rw [e102]; exact n2
  subst e102
  refine ok_nb (ok_nbx fun M102 eM => ok_nbx fun E103 eE => ok_some ?_)
  have eF : E103 = F := by rw [eE, hF]; rfl
  subst eF
  have eM2 : M102 = mN (mN M (nE E + 1)) (nE E + 2) := by rw [eM]; exact congrArg (mN (mN M (nE E + 1))) n2
  have oM : Off (fun c => c = nE E ∨ nE E < c) M (u2 M102 (nE E) 0 (n : Int)) := by
    refine Off.u2 ?_ (Or.inl rfl)
    rw [eM2]
    exact (off_mN (Or.inr (by omega))).trans (off_mN (Or.inr (by omega)))
  have i0 : nE E < nE E103 := by omega
  have i1 : nE E + 1 < nE E103 := by omega
  have i2 : nE E + 2 < nE E103 := by omega
  have geF : Ge E E103 := by
    rw [hF]
    exact ge_ref ((ge_ref ((ge_new E _).trans (ge_new _ _)) (Nat.le_refl _)).trans (ge_new _ _)) (Nat.le_refl _)
  refine ⟨gF, geF, hLF, oM, fun h3 => ⟨⟨⟨i0, t0⟩, h250, u2_at _ _ _ _, ?_, Nat.zero_le _, nE E + 1, nE E + 2, r1, ⟨i1, congrArg Prod.fst t1⟩, congrArg Prod.snd t1, by omega, r2, ⟨i2, congrArg Prod.fst t2⟩, congrArg Prod.snd t2, by omega, fun k hk => absurd hk (Nat.not_lt_zero k), fun k hk => absurd hk (Nat.not_lt_zero k)⟩, nE E + 2, r2, fun k _ _ => ?_⟩⟩
  · show u2 M102 (nE E) 0 (n : Int) (nE E) 3 = 0
    rw [u2_ne (Or.inr (by decide)), eM2, mN_row (by omega), mN_row (by omega)]
    exact h3
  · show u2 M102 (nE E) 0 (n : Int) (nE E + 2) k = 0
    rw [u2_ne (Or.inl (by omega)), eM2, mN_at]
def oBx (c : Nat) : Prop := c = 4 ∨ oBa c
theorem cand_ok {E : Ev} {M : Mm} {q1 n : Nat} (hL : Lay E) (h0 : isIA E 0) (hq : isO 12 E q1) (hq2 : 250 ≤ q1) (hq0 : M q1 0 = (n : Int)) (hn : n ≤ 5) (hr : Ring M) (h22 : M 2 2 = 0) (h23 : M 2 3 = 0) {L : Nat} {xs : Nat → Int32} : Ok (l_La_law_78 L xs 0 q1 5000 E M 0) (fun r => r.1 = 1 ∧ r.2.2.1 = E ∧ Off oBx M r.2.2.2 ∧ Ring r.2.2.2 ∧ BX r.2.2.2 n 0 (fun _ => 0) (fun _ => 0) (fun _ _ => 0) (fun _ => 0) ∧ LT r.2.2.2 n (fun c => (c : Int)) ∧ r.2.2.2 2 1 = M 2 1) := by
  refine L_La_law_78 L xs 0 q1 (I := fun F N x => F = E ∧ ∃ i : Nat, x = (i : Int) ∧ i ≤ n ∧ Off oBx M N ∧ Ring N ∧ N 2 2 = (i : Int) ∧ (∀ c, c ≠ 2 → N 2 c = M 2 c) ∧ ∀ c, c < i → N 4 c = (c : Int)) (μ := fun _ _ x => n - x.toNat) ?_ 5000 E M 0 ⟨rfl, 0, rfl, Nat.zero_le _, Off.refl, hr, h22, fun c _ => rfl, fun c hc => absurd hc (Nat.not_lt_zero c)⟩ (by show n - _ < 5000; omega)
  rintro F N x ⟨rfl, i, rfl, hi, oN, rN, e2, e2c, e4⟩
  unfold La_law_78b
  rw [oN q1 (by unfold oBx oBa; omega), hq0]
  refine ok_ck hL (ok_ck h0 (ok_ck hq (ok_ck (rgN (by omega)) (ok_ck (rgN (by omega)) (ok_if (fun z => ?_) (fun z => ?_))))))
  · have e : i = n := by omega
    subst e
    exact ok_some (ok_out ne0 ⟨rfl, rfl, oN, rN, ⟨e2, by omega, by show N 2 3 = 0; rw [e2c 3 (by decide)]; exact h23, Nat.zero_le _, fun k hk => absurd hk (Nat.not_lt_zero k), by decide⟩, fun c hc => ⟨e4 c hc, by show (0 : Int) ≤ (c : Int); omega, by show (c : Int) ≤ 99; omega⟩, e2c 1 (by decide)⟩)
  · have hin : i < n := by omega
    unfold f_B_candidate
    rw [e2, needRoom_ok (by omega) (by omega) (by decide), Int.toNat_natCast]
    have u22 : u2 N 4 i (i : Int) 2 2 = (i : Int) := by rw [u2_ne (Or.inl (by decide))]; exact e2
    rw [u22]
    refine ok_bm (R := fun r => Off oBx M r.2 ∧ Ring r.2 ∧ r.2 2 2 = ((i + 1 : Nat) : Int) ∧ (∀ c, c ≠ 2 → r.2 2 c = M 2 c) ∧ ∀ c, c < i + 1 → r.2 4 c = (c : Int)) ?_ ?_
    · refine ok_sb (ok_ck (inN (by omega) (by decide)) (ok_bm (remember_ok 0 (i : Int) 0 (rN.of rfl)) ?_))
      rintro P ⟨p1, p2, p3, -⟩
      refine ok_some ⟨((oN.u2 (Or.inl rfl)).u2 (by unfold oBx oBa; decide)).trans (p1.mono fun c hc => by unfold oBx oBa; omega), p2, ?_, fun c hc => ?_, fun c hc => ?_⟩
      · show P 2 2 = _
        rw [p1 2 (by decide), u2_at]; rfl
      · show P 2 c = _
        rw [p1 2 (by decide), u2_ne (Or.inr hc), u2_ne (Or.inl (by decide))]; exact e2c c hc
      · show P 4 c = _
        rw [p1 4 (by decide), u2_ne (Or.inl (by decide)), u2_if]
        by_cases e : c = i
        · rw [if_pos ⟨rfl, e⟩, e]
        · rw [if_neg (fun w => e w.2)]; exact e4 c (by omega)
    · rintro ⟨r, P⟩ ⟨p1, p2, p3, p4, p5⟩
      exact ok_some (ok_go rfl ⟨⟨rfl, i + 1, c1 i, by omega, p1, p2, p3, p4, p5⟩, cnt hin⟩)
theorem boxes_ok {E : Ev} {M : Mm} {q1 n m : Nat} {L : Nat} {xs : Nat → Int32} (hL : Lay E) (hB : BX M n 0 (fun _ => 0) (fun _ => 0) (fun _ _ => 0) (fun _ => 0)) (hLB : LB E M q1 n 0 (fun _ => 0) (fun _ => 0) (fun _ _ => 0)) (hz : LZ E M q1 0) (hr : Ring M) (h21 : M 2 1 = 0) (hn1 : 1 ≤ n) (hn : n ≤ 5) (hm : m ≤ 9) : Ok (l_La_law_112 L xs 0 q1 32 E M 1 (m : Int)) (fun r => r.1 = 1 ∧ r.2.1 = 1 ∧ Gz E r.2.2.2.1 ∧ Lay r.2.2.2.1 ∧ Off oLw M r.2.2.2.2 ∧ Ring r.2.2.2.2 ∧ r.2.2.2.2 2 1 = 0 ∧ ∃ kk C G R A, kk ≤ 9 ∧ sN C kk ≤ 8100 ∧ BX r.2.2.2.2 n kk C G R A ∧ LB r.2.2.2.1 r.2.2.2.2 q1 n kk C G R ∧ LZ r.2.2.2.1 r.2.2.2.2 q1 kk) := by
  refine L_La_law_112 L xs 0 q1 (I := fun F N x4 x5 => Gz E F ∧ Lay F ∧ x4 = 1 ∧ ∃ i : Nat, x5 = (i : Int) ∧ i ≤ m ∧ Off oLw M N ∧ Ring N ∧ N 2 1 = 0 ∧ ∃ kk C G R A, kk + i ≤ 9 ∧ sN C kk + 900 * (i : Int) ≤ 8100 ∧ BX N n kk C G R A ∧ LB F N q1 n kk C G R ∧ LZ F N q1 kk) (μ := fun _ _ _ x5 => x5.toNat) ?_ 32 E M 1 (m : Int) ⟨Gz.refl E, hL, rfl, m, rfl, Nat.le_refl m, Off.refl, hr, h21, 0, _, _, _, _, by omega, by show (0 : Int) + 900 * (m : Int) ≤ 8100; omega, hB, hLB, hz⟩ (by show (m : Int).toNat < 32; omega)
  rintro F N x4 x5 ⟨hF, hLF, rfl, i, rfl, hi, oN, rN, e21, kk, C, G, R, A, hk, hs, bx, lb, lz⟩
  unfold La_law_112b
  refine ok_ck hLF (ok_ck ⟨yi_0 hLF, by rw [yt_0 hLF]⟩ (ok_ck lb.1 (ok_ck (rgN (by omega)) (ok_if (fun z => ?_) (fun z => ok_ck (by decide) (ok_if (fun w => absurd w (by decide)) (fun _ => ?_)))))))
  · exact ok_some (ok_out ne0 ⟨rfl, rfl, hF, hLF, oN, rN, e21, kk, C, G, R, A, by omega, by omega, bx, lb, lz⟩)
  · refine ok_bm (lawBallots_ok hLF bx lb lz rN e21 (by omega) (by omega) hn1 hn) ?_
    rintro ⟨y, F2, P⟩ ⟨y1r, g1r, l1r, o1r, r1r, e1r, kk', C', G', R', A', k1, s1, b1, lb1, lz1⟩
    have y1 : y = 1 := y1r
    have g1 : Gz F F2 := g1r
    have o1 : Off oLw N P := o1r
    subst y1
    refine ok_ck g1.1 (ok_ck l1r (ok_some (ok_go rfl ⟨⟨hF.trans g1, l1r, rfl, i - 1, by show (i : Int) + -1 = _; omega, by omega, oN.trans o1, r1r, e1r, kk', C', G', R', A', by omega, by omega, b1, lb1, lz1⟩, ?_⟩)))
    show ((i : Int) + -1).toNat < (i : Int).toNat
    omega
theorem setLot_ok {E : Ev} {M : Mm} {n c v : Nat} {lo : Nat → Int} (hL : Lay E) (h22 : M 2 2 = (n : Int)) (hn : n ≤ 5) (hl : LT M n lo) (hr : Ring M) (hc : c < n) (hv : v ≤ 99) : Ok (f_B_setLot E M 0 (c : Int) (v : Int)) (fun r => Off (fun i => i = 1 ∨ i = 4 ∨ i = 246 ∨ i = 247 ∨ i = 248) M r.2 ∧ Ring r.2 ∧ LT r.2 n (nw c (v : Int) lo)) := by
  unfold f_B_setLot B_setLot_j22
  rw [h22, needIndex_ok (by omega) (by omega) (by omega), needRange_ok (by decide) (by omega) (by omega) (by decide)]
  refine ok_ck (by decide) (ok_if (fun _ => ok_sb (ok_sb (ok_ck (by decide) (ok_if (fun _ => ?_) (fun z => absurd rfl z))))) (fun z => absurd rfl z))
  unfold B_setLot_j53 B_setLot_j76
  rw [Int.toNat_natCast]
  refine ok_ck ⟨yi_4 hL, by rw [yt_4 hL]⟩ (ok_ck (by rw [yt_4 hL]; exact inN (by omega) (by decide)) (ok_ck (by decide) (ok_if (fun _ => ok_bm (remember_ok 1 (c : Int) (M 4 c) (hr.of rfl)) ?_) (fun z => absurd rfl z))))
  rintro P ⟨p1, p2, -⟩
  refine ok_some ⟨(Off.refl.u2 (S := fun i => i = 1 ∨ i = 4 ∨ i = 246 ∨ i = 247 ∨ i = 248) (Or.inr (Or.inl rfl))).trans (p1.mono fun i hi => by omega), p2, fun d hd => ?_⟩
  show P 4 d = nw c (v : Int) lo d ∧ _
  rw [p1 4 (by decide), u2_if]
  obtain ⟨a1, a2, a3⟩ := hl d hd
  by_cases e : d = c
  · rw [if_pos ⟨rfl, e⟩, e, nw_at]; omega
  · rw [if_neg (fun z => e z.2), nw_ne e]; exact ⟨a1, a2, a3⟩
theorem allBallots_ok {E : Ev} {M : Mm} {n kk : Nat} {C : Nat → Int} {G : Nat → Nat} {R : Nat → Nat → Nat} {A : Nat → Nat} (hL : Lay E) (h : BX M n kk C G R A) : Ok (f_B_allBallots E M) (fun r => r = sN C kk) := by
  obtain ⟨-, -, h23, hkk, hR, -⟩ := h
  unfold f_B_allBallots f_Bx_ballotsOf
  rw [h23]
  refine ok_bm (R := fun r => r = sN C kk) (ok_ck ⟨yi_5 hL, by rw [yt_5 hL]⟩ (ok_bm (R := fun r => r.1 = 1 ∧ r.2.1 = sN C kk) ?_ ?_)) (fun r hr => ok_some hr)
  · refine L_Bx_ballotsOf_5 E 5 (kk : Int) M (I := fun x3 x4 => ∃ i : Nat, x4 = (i : Int) ∧ i ≤ kk ∧ x3 = sN C i) (μ := fun _ x4 => kk - x4.toNat) ?_ FU 0 0 ⟨0, rfl, Nat.zero_le _, rfl⟩ (by show kk - _ < 5000; omega)
    rintro x3 x4 ⟨i, rfl, hi, rfl⟩
    unfold Bx_ballotsOf_5b
    rw [Int.toNat_natCast]
    refine ok_ck ⟨yi_5 hL, by rw [yt_5 hL]⟩ (ok_ck (rgN (by omega)) (ok_ck (rgN (by omega)) (ok_if (fun z => ?_) (fun z => ?_))))
    · have e : i = kk := by omega
      rw [e]
      exact ok_some (ok_out ne0 ⟨rfl, rfl⟩)
    · rw [(hR i (by omega)).2.1]
      exact ok_ck (by rw [yt_5 hL]; exact inN (by omega) (by decide)) (ok_some (ok_go rfl ⟨⟨i + 1, c1 i, by omega, rfl⟩, cnt (by omega)⟩))
  · rintro ⟨t, x3, x4⟩ ⟨g1, g2⟩
    exact ok_ck g1 (ok_some g2)
theorem lbAll_ok {E : Ev} {M : Mm} {q n kk : Nat} {C : Nat → Int} {G : Nat → Nat} {R : Nat → Nat → Nat} (h : LB E M q n kk C G R) : Ok (f_Lb_all E M q) (fun r => r = sN C kk) := by
  obtain ⟨a1, a2, a3, a4, a5, pr, pm, b1, b2, b3, b4, b5, b6, b7, b8, b9, b10⟩ := h
  unfold f_Lb_all
  refine ok_ck a1 (ok_bm (R := fun r => r.1 = 1 ∧ r.2.1 = sN C kk) ?_ ?_)
  · refine L_Lb_all_4 E q M (I := fun x1 x2 => ∃ i : Nat, x2 = (i : Int) ∧ i ≤ kk ∧ x1 = sN C i) (μ := fun _ x2 => kk - x2.toNat) ?_ FU 0 0 ⟨0, rfl, Nat.zero_le _, rfl⟩ (by show kk - _ < 5000; omega)
    rintro x1 x2 ⟨i, rfl, hi, rfl⟩
    unfold Lb_all_4b
    rw [a4, b5]
    refine ok_ck a1 (ok_ck (rgN (by omega)) (ok_ck (rgN (by omega)) (ok_if (fun z => ?_) (fun z => ?_))))
    · have e : i = kk := by omega
      rw [e]
      exact ok_some (ok_out ne0 ⟨rfl, rfl⟩)
    · refine ok_sb (ok_ck b6 (ok_ck (by rw [b7]; exact inN (by omega) (by decide)) ?_))
      rw [Int.toNat_natCast, b9 i (by omega)]
      exact ok_some (ok_go rfl ⟨⟨i + 1, c1 i, by omega, rfl⟩, cnt (by omega)⟩)
  · rintro ⟨t, x1, x2⟩ ⟨g1, g2⟩
    exact ok_ck g1 (ok_some g2)
