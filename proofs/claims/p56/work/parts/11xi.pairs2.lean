/-! THE LAW'S PAIRS, ON -/
def rowsHi (E : Ev) (q2 n : Nat) : Prop := ∀ i, i < n → ∀ p, rE E q2 i = some p → 250 ≤ p
theorem p135_ok {E : Ev} {M : Mm} {q1 q2 n kk S x : Nat} {C : Nat → Int} {G : Nat → Nat} {R : Nat → Nat → Nat} {A : Nat → Nat} {P : Nat → Nat → Int} {x5 : Int} (hL : Lay E) (h : PL2 E M q1 q2 n kk C G R A) (hrow : rowsHi E q2 n) (hP : PI (dB kk C R) n n P) (hS : S < 2 ^ n) (hb : bSet (dB kk C R) n S) (hx : x < n) : Ok (l_La_pairs_135 q1 q2 (S : Int) x5 (x : Int) 5000 E M 1 1 1 0) (fun r => r.1 = 1 ∧ r.2.1 = 1 ∧ r.2.2.1 = fl (wB1 P x n) ∧ r.2.2.2.1 = fl (bB1 (dB kk C R) x n) ∧ r.2.2.2.2.2.1 = E ∧ Off oP2 M r.2.2.2.2.2.2) := by
  have hn5 := h.2.2.2.2.2
  have hpw := pow_lt (show n ≤ 8 by omega)
  refine L_La_pairs_135 q1 q2 (S : Int) x5 (x : Int) (I := fun F N x3 x7 x8 x9 => F = E ∧ x3 = 1 ∧ ∃ y : Nat, x9 = (y : Int) ∧ y ≤ n ∧ x7 = fl (wB1 P x y) ∧ x8 = fl (bB1 (dB kk C R) x y) ∧ Off oP2 M N) (μ := fun _ _ _ _ _ x => n - x.toNat) ?_ 5000 E M 1 1 1 0 ⟨rfl, rfl, 0, rfl, Nat.zero_le _, rfl, rfl, Off.refl⟩ (by show n - _ < 5000; omega)
  rintro F N x3 x7 x8 x9 ⟨rfl, rfl, y, rfl, hy, rfl, rfl, ho⟩
  have hN := h.o2 hrow ho
  obtain ⟨hB, hLB, hG, hbig, h2, h5⟩ := hN
  unfold La_pairs_135b
  rw [hLB.2.2.1]
  refine ok_ck hL (ok_ck hLB.1 (ok_ck hG.1 (ok_ck (rgN (by omega)) (ok_ck (rgN (by omega)) (ok_if (fun w => ?_) (fun w => ok_ck (by decide) (ok_if (fun w2 => absurd w2 (by decide)) (fun _ => ok_ck (rgN (by omega)) (ok_if (fun w2 => ?_) (fun w2 => ?_))))))))))
  · have e : y = n := by omega
    subst e
    exact ok_some (ok_out ne0 ⟨rfl, rfl, rfl, rfl, rfl, ho⟩)
  · have e : y = x := by omega
    subst e
    refine ok_some (ok_go rfl ⟨⟨rfl, rfl, y + 1, c1 y, by omega, ?_, ?_, ho⟩, cnt hx⟩)
    · show fl (wB1 P y y) = fl (wB1 P y y && (decide (y = y) || _))
      rw [decide_eq_true rfl, Bool.true_or, Bool.and_true]
    · show fl (bB1 (dB kk C R) y y) = fl (bB1 (dB kk C R) y y && (decide (y = y) || _))
      rw [decide_eq_true rfl, Bool.true_or, Bool.and_true]
  · have hyn : y < n := by omega
    have hxy : x ≠ y := fun e => w2 (by rw [e])
    have w0 : ∀ z : Nat, ((2 : Int) ^ (z : Int).toNat) = ((2 ^ z : Nat) : Int) := fun z => by rw [Int.toNat_natCast, p2]
    have one : ∀ z o, z < n → o ≠ z → (2 ^ z).testBit o = false := fun z o _ hne => by rw [one_tb, decide_eq_false (fun q => hne q.symm)]
    have pl : ∀ z, z < n → 2 ^ z < 2 ^ n := fun z hz => Nat.pow_lt_pow_right (by decide) hz
    have b1 := hP.2.1 x y hx hyn
    have b2 := hP.2.1 y x hyn hx
    refine ok_ck ⟨by omega, by omega⟩ ?_
    rw [w0 x]
    refine ok_bm (way3_ok hG (pl x hx) hx hyn (one x y hx (fun e => hxy e.symm)) (by rw [cS_single hx]; omega)) ?_
    intro r hr
    have er := way_path hP (by omega) hx hyn hxy hr
    subst er
    refine ok_ck ⟨by omega, by omega⟩ ?_
    rw [w0 y]
    refine ok_bm (way3_ok hG (pl y hyn) hyn hx (one y x hyn hxy) (by rw [cS_single hyn]; omega)) ?_
    intro s hs
    have es := way_path hP (by omega) hyn hx (fun e => hxy e.symm) hs
    subst es
    refine ok_bm (c_strongest hL hB hP hx hyn) ?_
    rintro ⟨t, K⟩ ⟨e1r, k1⟩
    have e1 : t = P x y := e1r
    subst e1
    have k1 : Off oP2 N K := k1
    have hK := h.o2 hrow (ho.trans k1)
    refine ok_ck ⟨by omega, by omega⟩ (ok_ck ⟨by omega, by omega⟩ (ok_if (fun _ => ?_) (fun w3 => absurd rfl w3)))
    refine (p204_ok hL hK hS hb hx hyn (r := P x y) (s := P y x) ⟨by omega, by omega⟩ ⟨by omega, by omega⟩).mono ?_
    rintro w rfl
    refine ok_go rfl ⟨⟨rfl, rfl, y + 1, c1 y, by omega, ?_, ?_, ho.trans k1⟩, cnt hyn⟩
    · show fl (wB1 P x y && decide (P y x ≤ P x y)) = fl (wB1 P x y && (decide (y = x) || decide (P y x ≤ P x y)))
      rw [decide_eq_false (show ¬ y = x from fun e => hxy e.symm), Bool.false_or]
    · show fl (bB1 (dB kk C R) x y && decide (dB kk C R y x < dB kk C R x y)) = fl (bB1 (dB kk C R) x y && (decide (y = x) || decide (dB kk C R y x < dB kk C R x y)))
      rw [decide_eq_false (show ¬ y = x from fun e => hxy e.symm), Bool.false_or]
theorem p345_ok {E : Ev} {M : Mm} {q1 q2 n kk S x : Nat} {C : Nat → Int} {G : Nat → Nat} {R : Nat → Nat → Nat} {A : Nat → Nat} {D : Nat → Int} {x5 : Int} {b : Bool} (hL : Lay E) (h : PL2 E M q1 q2 n kk C G R A) (hD : DR (dB kk C R) n D) (hx : x < n) (hS : S < 2 ^ n) (hb : b = true → bAll (dB kk C R) n x ∧ S = 2 ^ x) : Ok (La_pairs_j345 E M q1 q2 (S : Int) x5 (x : Int) (fl b) (fl b) (fl b)) (fun r => r.1 = 0 ∧ r.2.1 = 1 ∧ r.2.2.1 = x5 ∧ r.2.2.2.1 = ((x + 1 : Nat) : Int) ∧ r.2.2.2.2.1 = E ∧ Off oP2 M r.2.2.2.2.2) := by
  obtain ⟨hB, hLB, hG, hbig, h2, h5⟩ := h
  have hpw := pow_lt (show n ≤ 8 by omega)
  have hpx := Nat.pow_lt_pow_right (show 1 < 2 by decide) hx
  have hpx0 := Nat.two_pow_pos x
  have fb := fl_rg b
  unfold La_pairs_j345
  refine ok_ck hL (ok_ck hLB.1 (ok_ck hG.1 (ok_ck fb.1 (ok_ck fb.1 (ok_if (fun _ => ok_ck fb.1 (ok_if (fun _ => ok_some ⟨rfl, rfl, rfl, rfl, rfl, Off.refl⟩) (fun w => ?_))) (fun w => absurd rfl w))))))
  have e : b = true := by cases b with
    | true => rfl
    | false => exact absurd rfl w
  obtain ⟨e1, e2⟩ := hb e
  rw [Int.toNat_natCast, p2, e2]
  refine ok_ck ⟨by omega, by omega⟩ (ok_ck ⟨by omega, by omega⟩ (ok_ck ⟨by omega, by omega⟩ (ok_if (fun _ => ?_) (fun w2 => absurd rfl w2))))
  refine ok_bm (c_consensusAt (i := 0) hL hB hD (by omega)) ?_
  rintro ⟨r, K⟩ ⟨r1r, k1⟩
  have r1 : r = (cQ D (dB kk C R) n 0 : Int) := r1r
  rw [lead0 (by omega) hD hx e1] at r1
  subst r1
  exact ok_ck ⟨by omega, by omega⟩ (ok_if (fun _ => ok_some ⟨rfl, rfl, rfl, rfl, rfl, k1⟩) (fun w2 => absurd rfl w2))
/-- winners found so far -/
def wAcc (P : Nat → Nat → Int) (n x W : Nat) : Prop := W < 2 ^ n ∧ ∀ c, c < n → (W.testBit c = true ↔ c < x ∧ ∀ o, o < n → P o c ≤ P c o)
theorem p117_ok {E : Ev} {M : Mm} {q1 q2 n kk S : Nat} {C : Nat → Int} {G : Nat → Nat} {R : Nat → Nat → Nat} {A : Nat → Nat} {P : Nat → Nat → Int} {D : Nat → Int} (hL : Lay E) (h : PL2 E M q1 q2 n kk C G R A) (hrow : rowsHi E q2 n) (hP : PI (dB kk C R) n n P) (hD : DR (dB kk C R) n D) (h1 : 1 ≤ S) (hS : S < 2 ^ n) (hb : bSet (dB kk C R) n S) (hm : ∀ T, 1 ≤ T → T < 2 ^ n → bSet (dB kk C R) n T → cS S n ≤ cS T n) : Ok (l_La_pairs_117 q1 q2 (S : Int) 5000 E M 1 0 0) (fun r => r.1 = 1 ∧ r.2.1 = 1 ∧ (∃ W : Nat, r.2.2.1 = (W : Int) ∧ wSet P n W) ∧ r.2.2.2.2.1 = E ∧ Off oP2 M r.2.2.2.2.2) := by
  have hn5 := h.2.2.2.2.2
  have hpw := pow_lt (show n ≤ 8 by omega)
  refine L_La_pairs_117 q1 q2 (S : Int) (I := fun F N x3 x5 x6 => F = E ∧ x3 = 1 ∧ ∃ x W : Nat, x6 = (x : Int) ∧ x ≤ n ∧ x5 = (W : Int) ∧ wAcc P n x W ∧ Off oP2 M N) (μ := fun _ _ _ _ x => n - x.toNat) ?_ 5000 E M 1 0 0 ⟨rfl, rfl, 0, 0, rfl, Nat.zero_le _, rfl, ⟨Nat.two_pow_pos n, fun c _ => by rw [Nat.zero_testBit]; exact ⟨fun q => (by cases q), fun q => absurd q.1 (Nat.not_lt_zero _)⟩⟩, Off.refl⟩ (by show n - _ < 5000; omega)
  rintro F N x3 x5 x6 ⟨rfl, rfl, x, W, rfl, hx, rfl, hW, ho⟩
  have hN := h.o2 hrow ho
  have hNN := hN
  obtain ⟨hB, hLB, hG, hbig, h2, h5⟩ := hN
  unfold La_pairs_117b
  rw [hLB.2.2.1]
  refine ok_ck hL (ok_ck hLB.1 (ok_ck hG.1 (ok_ck (rgN (by omega)) (ok_ck (rgN (by omega)) (ok_if (fun w => ?_) (fun w => ?_))))))
  · have e : x = n := by omega
    subst e
    exact ok_some (ok_out ne0 ⟨rfl, rfl, ⟨W, rfl, hW.1, fun c hc => (hW.2 c hc).trans ⟨fun q => q.2, fun q => ⟨hc, q⟩⟩⟩, rfl, ho⟩)
  · have hxn : x < n := by omega
    have hpx := Nat.pow_lt_pow_right (show 1 < 2 by decide) hxn
    have hpx0 := Nat.two_pow_pos x
    refine ok_bm (p135_ok hL hNN hrow hP hS hb hxn) ?_
    rintro ⟨t, a, b, c, y, F2, K⟩ ⟨i1, i2r, i3r, i4r, i5r, i6⟩
    have i2 : a = 1 := i2r
    have i3 : b = fl (wB1 P x n) := i3r
    have i4 : c = fl (bB1 (dB kk C R) x n) := i4r
    have i5 : F2 = F := i5r
    have i6 : Off oP2 N K := i6
    subst i2 i3 i4 i5
    refine ok_ck (gw_self F2) (ok_ck hL (ok_ck i1 ?_))
    have hK := h.o2 hrow (ho.trans i6)
    -- the rest, from the set of winners
    have rest : ∀ V U : Nat, V = (if wB1 P x n = true then 2 ^ x else 0) → Ok (La_pairs_j322 F2 K q1 q2 1 (S : Int) (x : Int) (fl (bB1 (dB kk C R) x n)) (V : Int) (W : Int)) (fun r => (r.1 = 0 → (r.2.2.2.2.1 = F2 ∧ r.2.1 = 1 ∧ ∃ x W : Nat, r.2.2.2.1 = (x : Int) ∧ x ≤ n ∧ r.2.2.1 = (W : Int) ∧ wAcc P n x W ∧ Off oP2 M r.2.2.2.2.2) ∧ n - r.2.2.2.1.toNat < n - (x : Int).toNat) ∧ (r.1 ≠ 0 → r.1 = 1 ∧ r.2.1 = 1 ∧ (∃ W : Nat, r.2.2.1 = (W : Int) ∧ wSet P n W) ∧ r.2.2.2.2.1 = F2 ∧ Off oP2 M r.2.2.2.2.2)) := by
      intro V U hV
      have hVl : V < 2 ^ n := by
        rw [hV]
        by_cases z : wB1 P x n = true
        · rw [if_pos z]; exact hpx
        · rw [if_neg z]; omega
      have hWl := hW.1
      have hacc : wAcc P n (x + 1) (W ||| V) := ⟨or_lt hWl hVl, fun c hc => by
        rw [Nat.testBit_or, Bool.or_eq_true, hW.2 c hc]
        by_cases e : c = x
        · constructor
          · rintro (z | z)
            · exact ⟨by omega, z.2⟩
            · refine ⟨by omega, ?_⟩
              rw [hV] at z
              by_cases w4 : wB1 P x n = true
              · rw [e]; exact (wB1_iff n).mp w4
              · rw [if_neg w4, Nat.zero_testBit] at z; cases z
          · rintro ⟨-, z⟩
            right
            rw [e] at z
            rw [hV, if_pos ((wB1_iff n).mpr z), one_tb]
            exact decide_eq_true e.symm
        · constructor
          · rintro (z | z)
            · exact ⟨by omega, z.2⟩
            · rw [hV] at z
              by_cases w4 : wB1 P x n = true
              · rw [if_pos w4, one_tb] at z
                exact absurd (of_decide_eq_true z).symm e
              · rw [if_neg w4, Nat.zero_testBit] at z; cases z
          · rintro ⟨z1, z2⟩
            exact Or.inl ⟨by omega, z2⟩⟩
      unfold La_pairs_j322
      rw [orI_nat]
      refine ok_ck hL (ok_ck hLB.1 (ok_ck hG.1 (ok_ck ⟨by omega, by omega⟩ (ok_ck ⟨by omega, by omega⟩ (ok_ck (by decide) (ok_if (fun z => absurd z (by decide)) (fun _ => ok_bm (c_beatsAll hL hK.1) ?_)))))))
      rintro ⟨r, K2⟩ ⟨k1, k2⟩
      have k1 : Off oP2 K K2 := k1
      have hK2 := h.o2 hrow ((ho.trans i6).trans k1)
      have nn : ∀ c o, c < n → o < n → 0 ≤ dB kk C R c o := fun c o _ _ => (dB_bounds hB c o).1
      have hbb : bB1 (dB kk C R) x n = true → bAll (dB kk C R) n x ∧ S = 2 ^ x := fun z => by
        have z : bAll (dB kk C R) n x := (bB1_iff n).mp z
        exact ⟨z, small_one hxn z h1 hS hb hm⟩
      have ev : (r = (x : Int) ∧ bB1 (dB kk C R) x n = true) ∨ (r ≠ (x : Int) ∧ bB1 (dB kk C R) x n = false) := by
        rcases k2 with ⟨e, hno⟩ | ⟨c, e, hc, hc2⟩
        · have e : r = -1 := e
          refine Or.inr ⟨by omega, Bool.eq_false_iff.mpr fun z => hno x hxn ((bB1_iff n).mp z)⟩
        · have e : r = (c : Int) := e
          by_cases ec : c = x
          · rw [ec] at e hc2
            exact Or.inl ⟨e, (bB1_iff n).mpr hc2⟩
          · refine Or.inr ⟨by omega, Bool.eq_false_iff.mpr fun z => ?_⟩
            have y1 := (bB1_iff n).mp z c hc ec
            have y2 := hc2 x hxn (fun q => ec q.symm)
            omega
      have rr : rgI r := by
        rcases k2 with ⟨e, -⟩ | ⟨c, e, hc, -⟩
        · have e : r = -1 := e
          rw [e]; decide
        · have e : r = (c : Int) := e
          exact ⟨by omega, by omega⟩
      have fin := (p345_ok (x5 := ((W ||| V : Nat) : Int)) (b := bB1 (dB kk C R) x n) hL hK2 hD hxn hS hbb)
      have done : ∀ y0 : Int, y0 = fl (bB1 (dB kk C R) x n) → Ok (La_pairs_j345 F2 K2 q1 q2 (S : Int) ((W ||| V : Nat) : Int) (x : Int) (fl (bB1 (dB kk C R) x n)) y0 (fl (bB1 (dB kk C R) x n))) (fun r => (r.1 = 0 → (r.2.2.2.2.1 = F2 ∧ r.2.1 = 1 ∧ ∃ x W : Nat, r.2.2.2.1 = (x : Int) ∧ x ≤ n ∧ r.2.2.1 = (W : Int) ∧ wAcc P n x W ∧ Off oP2 M r.2.2.2.2.2) ∧ n - r.2.2.2.1.toNat < n - (x : Int).toNat) ∧ (r.1 ≠ 0 → r.1 = 1 ∧ r.2.1 = 1 ∧ (∃ W : Nat, r.2.2.1 = (W : Int) ∧ wSet P n W) ∧ r.2.2.2.2.1 = F2 ∧ Off oP2 M r.2.2.2.2.2)) := fun y0 hy0 => by
        rw [hy0]
        refine fin.mono ?_
        rintro ⟨t, a, b, c, H, K3⟩ ⟨j1, j2, j3, j4, j5, j6⟩
        have j1 : t = 0 := j1
        have j4 : c = ((x + 1 : Nat) : Int) := j4
        have j6 : Off oP2 K2 K3 := j6
        subst j1 j4
        exact ok_go rfl ⟨⟨j5, j2, x + 1, W ||| V, rfl, by omega, j3, hacc, ((ho.trans i6).trans k1).trans j6⟩, cnt hxn⟩
      refine ok_ck rr (ok_ck (rgN (by omega)) ?_)
      rcases ev with ⟨e, z⟩ | ⟨e, z⟩
      · exact ok_if (fun _ => done 1 (by rw [z]; rfl)) (fun q => absurd e q)
      · exact ok_if (fun q => absurd q e) (fun _ => done 0 (by rw [z]; rfl))
    have fw := fl_rg (wB1 P x n)
    show Ok (La_pairs_j307 F2 K q1 q2 1 (S : Int) (W : Int) (x : Int) (fl (wB1 P x n)) (fl (bB1 (dB kk C R) x n))) _
    unfold La_pairs_j307
    refine ok_ck hL (ok_ck hLB.1 (ok_ck hG.1 (ok_ck fw.1 (ok_if (fun z => ?_) (fun z => ok_ck ⟨by omega, by omega⟩ ?_)))))
    · exact rest 0 0 (by rw [if_neg (by rw [fw.2.1.mp z]; decide)])
    · rw [Int.toNat_natCast, p2]
      refine rest (2 ^ x) 0 ?_
      rw [if_pos]
      cases e : wB1 P x n with
      | true => rfl
      | false => rw [e] at z; exact absurd rfl z
/-- the distance summed by the law -/
theorem p444_ok {E : Ev} {M : Mm} {q1 q2 n kk i : Nat} {C : Nat → Int} {G : Nat → Nat} {R : Nat → Nat → Nat} {A : Nat → Nat} {D : Nat → Int} {x6 : Int} (hL : Lay E) (h : PL2 E M q1 q2 n kk C G R A) (hrow : rowsHi E q2 n) (hD : DR (dB kk C R) n D) (hi : i < n) : Ok (l_La_pairs_444 q1 q2 (i : Int) (cQ D (dB kk C R) n i : Int) 5000 E M x6 ((i : Int) + 1)) (fun r => r.1 = 1 ∧ r.2.1 = x6 + sN (fun m => dB kk C R (cQ D (dB kk C R) n (i + 1 + m)) (cQ D (dB kk C R) n i)) (n - i - 1) ∧ r.2.2.2.1 = E ∧ Off oP2 M r.2.2.2.2) := by
  have hn5 := h.2.2.2.2.2
  obtain ⟨qi, -⟩ := cQ_has (i := i) (show n ≤ 8 by omega) hD hi
  refine L_La_pairs_444 q1 q2 (i : Int) (cQ D (dB kk C R) n i : Int) (I := fun F N x y => F = E ∧ ∃ k : Nat, y = ((i + 1 + k : Nat) : Int) ∧ k ≤ n - i - 1 ∧ x = x6 + sN (fun m => dB kk C R (cQ D (dB kk C R) n (i + 1 + m)) (cQ D (dB kk C R) n i)) k ∧ Off oP2 M N) (μ := fun _ _ _ x => n - x.toNat) ?_ 5000 E M x6 ((i : Int) + 1) ⟨rfl, 0, rfl, Nat.zero_le _, by show x6 = x6 + (0 : Int); omega, Off.refl⟩ (by show n - _ < 5000; omega)
  rintro F N x y ⟨rfl, k, rfl, hk, hx, ho⟩
  have hN := h.o2 hrow ho
  obtain ⟨hB, hLB, hG, hbig, h2, h5⟩ := hN
  unfold La_pairs_444b
  rw [hLB.2.2.1]
  refine ok_ck hL (ok_ck hLB.1 (ok_ck hG.1 (ok_ck (rgN (by omega)) (ok_ck (rgN (by omega)) (ok_if (fun w => ?_) (fun w => ?_))))))
  · have e : k = n - i - 1 := by omega
    rw [e] at hx
    exact ok_some (ok_out ne0 ⟨rfl, hx, rfl, ho⟩)
  · have hik : i + 1 + k < n := by omega
    obtain ⟨qk, -⟩ := cQ_has (i := i + 1 + k) (show n ≤ 8 by omega) hD hik
    refine ok_bm (c_consensusAt hL hB hD hik) ?_
    rintro ⟨r, K⟩ ⟨r1r, k1⟩
    have r1 : r = (cQ D (dB kk C R) n (i + 1 + k) : Int) := r1r
    subst r1
    have k1 : Off oP2 N K := k1
    have hK := h.o2 hrow (ho.trans k1)
    obtain ⟨p, p1, p2, p3, p4⟩ := gd_at hK.2.2.1 qk qi
    have db := dB_bounds hB (cQ D (dB kk C R) n (i + 1 + k)) (cQ D (dB kk C R) n i)
    refine ok_ck (by rw [hG.2.1]; exact inN qk (by omega)) ?_
    show Ok ((rE F q2 ((cQ D (dB kk C R) n (i + 1 + k) : Nat) : Int).toNat).bind _) _
    rw [Int.toNat_natCast, p1]
    refine ok_sb (ok_ck p2 (ok_ck (by rw [p3]; exact inN qi (by omega)) ?_))
    rw [Int.toNat_natCast]
    show Ok (ck (rgI (K p (cQ D (dB kk C R) n i))) (some (0, x + K p (cQ D (dB kk C R) n i), ((i + 1 + k : Nat) : Int) + 1, F, K))) _
    rw [p4]
    refine ok_ck ⟨by omega, by omega⟩ (ok_some (ok_go rfl ⟨⟨rfl, k + 1, by show ((i + 1 + k : Nat) : Int) + 1 = ((i + 1 + (k + 1) : Nat) : Int); omega, by omega, ?_, ho.trans k1⟩, cnt hik⟩))
    show x + _ = _
    rw [sN_succ, hx]
    omega
theorem p417_ok {E : Ev} {M : Mm} {q1 q2 n kk : Nat} {C : Nat → Int} {G : Nat → Nat} {R : Nat → Nat → Nat} {A : Nat → Nat} {D : Nat → Int} (hL : Lay E) (h : PL2 E M q1 q2 n kk C G R A) (hrow : rowsHi E q2 n) (hD : DR (dB kk C R) n D) : Ok (l_La_pairs_417 q1 q2 5000 E M 1 0 0) (fun r => r.1 = 1 ∧ r.2.1 = 1 ∧ r.2.2.1 = D (2 ^ n - 1) ∧ r.2.2.2.2.1 = E ∧ Off oP2 M r.2.2.2.2.2) := by
  have hn5 := h.2.2.2.2.2
  refine L_La_pairs_417 q1 q2 (I := fun F N x3 x6 x8 => F = E ∧ x3 = 1 ∧ ∃ i : Nat, x8 = (i : Int) ∧ i ≤ n ∧ x6 = sN (fun k => sN (fun m => dB kk C R (cQ D (dB kk C R) n (k + 1 + m)) (cQ D (dB kk C R) n k)) (n - k - 1)) i ∧ Off oP2 M N) (μ := fun _ _ _ _ x => n - x.toNat) ?_ 5000 E M 1 0 0 ⟨rfl, rfl, 0, rfl, Nat.zero_le _, rfl, Off.refl⟩ (by show n - _ < 5000; omega)
  rintro F N x3 x6 x8 ⟨rfl, rfl, i, rfl, hi, hx, ho⟩
  have hN := h.o2 hrow ho
  have hNN := hN
  obtain ⟨hB, hLB, hG, hbig, h2, h5⟩ := hN
  unfold La_pairs_417b
  rw [hLB.2.2.1]
  refine ok_ck hL (ok_ck hLB.1 (ok_ck hG.1 (ok_ck (rgN (by omega)) (ok_ck (rgN (by omega)) (ok_if (fun w => ?_) (fun w => ok_ck (by decide) (ok_if (fun z => absurd z (by decide)) (fun _ => ?_))))))))
  · have e : i = n := by omega
    rw [e] at hx
    refine ok_some (ok_out ne0 ⟨rfl, rfl, ?_, rfl, ho⟩)
    show x6 = _
    have := cQ_dist (show n ≤ 8 by omega) hD n 0 (Nat.zero_add n)
    rw [hx]
    refine Eq.trans ?_ this.symm
    refine sN_congr fun k hk => ?_
    rw [Nat.zero_add]
  · have hin : i < n := by omega
    obtain ⟨qi, -⟩ := cQ_has (i := i) (show n ≤ 8 by omega) hD hin
    refine ok_bm (c_consensusAt hL hB hD hin) ?_
    rintro ⟨r, K⟩ ⟨r1r, k1⟩
    have r1 : r = (cQ D (dB kk C R) n i : Int) := r1r
    subst r1
    have k1 : Off oP2 N K := k1
    have hK := h.o2 hrow (ho.trans k1)
    refine ok_bm (p444_ok (x6 := x6) hL hK hrow hD hin) ?_
    rintro ⟨t, s, y, F2, K2⟩ ⟨i1, i2r, i3r, i4⟩
    have i2 : s = x6 + sN (fun m => dB kk C R (cQ D (dB kk C R) n (i + 1 + m)) (cQ D (dB kk C R) n i)) (n - i - 1) := i2r
    have i3 : F2 = F := i3r
    have i4 : Off oP2 K K2 := i4
    subst i3
    have o2 := (ho.trans k1).trans i4
    have hK2 := h.o2 hrow o2
    have hs : s = sN (fun k => sN (fun m => dB kk C R (cQ D (dB kk C R) n (k + 1 + m)) (cQ D (dB kk C R) n k)) (n - k - 1)) (i + 1) := by rw [i2, hx, sN_succ]
    refine ok_ck (gw_self F2) (ok_ck hL (ok_ck i1 ?_))
    show Ok (ck (rgI ((i : Int) + 1)) (ck (rgI (K2 q1 0)) (if (i : Int) + 1 = K2 q1 0 then _ else _))) _
    rw [hK2.2.1.2.2.1]
    refine ok_ck ⟨by omega, by omega⟩ (ok_ck (rgN (by omega)) (ok_if (fun _ => ok_some (ok_go rfl ⟨⟨rfl, rfl, i + 1, c1 i, by omega, hs, o2⟩, cnt hin⟩)) (fun w2 => ?_)))
    have hi1 : i + 1 < n := by omega
    obtain ⟨qj, -⟩ := cQ_has (i := i + 1) (show n ≤ 8 by omega) hD hi1
    obtain ⟨p, p1, p2, p3, p4⟩ := hK2.2.2.1.2.2.2.1 _ qi
    refine ok_ck (by rw [hG.2.1]; exact inN qi (by omega)) ?_
    show Ok ((rE F2 q2 ((cQ D (dB kk C R) n i : Nat) : Int).toNat).bind _) _
    rw [Int.toNat_natCast, p1]
    refine ok_sb (ok_ck p2 ?_)
    rw [show (i : Int) + 1 = ((i + 1 : Nat) : Int) from rfl]
    refine ok_bm (c_consensusAt hL hK2.1 hD hi1) ?_
    rintro ⟨r3, K3⟩ ⟨e3r, k3r⟩
    have e3 : r3 = (cQ D (dB kk C R) n (i + 1) : Int) := e3r
    have k3 : Off oP2 K2 K3 := k3r
    subst e3
    have hK3 := h.o2 hrow (o2.trans k3)
    refine ok_ck (by rw [p3]; exact inN qj (by omega)) (ok_bm (c_consensusAt hL hK3.1 hD hi1) ?_)
    rintro ⟨r4, K4⟩ ⟨e4r, k4r⟩
    have e4 : r4 = (cQ D (dB kk C R) n (i + 1) : Int) := e4r
    have k4 : Off oP2 K3 K4 := k4r
    subst e4
    have hK4 := h.o2 hrow ((o2.trans k3).trans k4)
    obtain ⟨p', f1, f2, f3, f4⟩ := gd_at hK4.2.2.1 qj qi
    refine ok_ck (by rw [hG.2.1]; exact inN qj (by omega)) ?_
    show Ok ((rE F2 q2 ((cQ D (dB kk C R) n (i + 1) : Nat) : Int).toNat).bind _) _
    rw [Int.toNat_natCast, f1]
    refine ok_sb (ok_ck f2 (ok_ck (by rw [f3]; exact inN qi (by omega)) ?_))
    have v3 : K3 p (cQ D (dB kk C R) n (i + 1)) = dB kk C R (cQ D (dB kk C R) n i) (cQ D (dB kk C R) n (i + 1)) := by
      obtain ⟨p'', g1, g2, g3, g4⟩ := gd_at hK3.2.2.1 qi qj
      rw [p1] at g1
      rw [Option.some.inj g1]
      exact g4
    have near := cQ_near (show n ≤ 8 by omega) hD hi1
    have b1 := dB_bounds hB (cQ D (dB kk C R) n i) (cQ D (dB kk C R) n (i + 1))
    have b2 := dB_bounds hB (cQ D (dB kk C R) n (i + 1)) (cQ D (dB kk C R) n i)
    show Ok (ck (rgI (K3 p ((cQ D (dB kk C R) n (i + 1) : Nat) : Int).toNat)) (ck (rgI (K4 p' ((cQ D (dB kk C R) n i : Nat) : Int).toNat)) (if K3 p ((cQ D (dB kk C R) n (i + 1) : Nat) : Int).toNat < K4 p' ((cQ D (dB kk C R) n i : Nat) : Int).toNat then _ else _))) _
    rw [Int.toNat_natCast, Int.toNat_natCast, v3, f4]
    exact ok_ck ⟨by omega, by omega⟩ (ok_ck ⟨by omega, by omega⟩ (ok_if (fun z => by omega) (fun _ => ok_some (ok_go rfl ⟨⟨rfl, rfl, i + 1, rfl, by omega, hs, (o2.trans k3).trans k4⟩, cnt hin⟩))))
/-- the law's pairs answer 1 -/
theorem pairs_ok {E : Ev} {M : Mm} {q1 n kk : Nat} {C : Nat → Int} {G : Nat → Nat} {R : Nat → Nat → Nat} {A : Nat → Nat} (hL : Lay E) (hB : BX M n kk C G R A) (hLB : LB E M q1 n kk C G R) (h2 : 2 ≤ n) (h5 : n ≤ 5) : Ok (f_La_pairs E M q1) (fun r => r.1 = 1 ∧ Ge E r.2.1 ∧ Lay r.2.1 ∧ Off (fun c => oP2 c ∨ nE E ≤ c) M r.2.2) := by
  obtain ⟨gE, gn, gr, gt⟩ := grid_of (E := E) (n := n)
  have h250 := hL.1
  unfold f_La_pairs
  rw [hLB.2.2.1, Int.toNat_natCast]
  refine ok_ck hL (ok_ck hLB.1 (ok_ck ⟨by omega, by omega⟩ (ok_ck ⟨by omega, by omega⟩ (ok_nbx fun q2 hq2 => ok_nbx fun F hF => ok_nbx fun N hN => ?_))))
  rw [← hF] at gE gn gr gt
  rw [← hq2] at gn gr gt
  have hLF : Lay F := by rw [hF]; exact lay_grid hL
  have oN : Off (fun c => nE E ≤ c) M N := fun c hc => by rw [hN]; exact mG_old (by omega)
  have hBN : BX N n kk C G R A := hB.off oN (by omega) (by omega) (by omega) (by omega) (fun k hk => by omega)
  have hcell : ∀ K, Off (oG q2) N K → LB F K q1 n kk C G R := fun K hK => (hLB.off (S := oG q2) ((oN.mono fun c hc => Or.inr (by omega)).trans hK) (fun c h1 h2 h3 => by unfold oG oP2 at h3; omega)).ge gE
  have hLN := hcell N Off.refl
  have hq2i : isQ 6 F q2 := ⟨by omega, by rw [hF, hq2, grid_T]⟩
  have hq2l : (tE F q2).2 = n := by rw [hF, hq2, grid_T]
  have hq1 : q1 < q2 := by rw [hq2]; exact hLB.1.1
  refine ok_bm (p18_ok hLF hBN hLN hq1 hcell hq2i hq2l (by omega) gr (fun i hi => ⟨⟨by omega, by rw [gt i hi]⟩, by rw [gt i hi]⟩)) ?_
  rintro ⟨t, a, b, F2, K⟩ ⟨i1, i2r, i3r, i4, i5⟩
  have i2 : a = 1 := i2r
  have i3 : F2 = F := i3r
  have i4 : Off (oG q2) N K := i4
  have i5 : GF K q2 n n 0 (dB kk C R) := i5
  subst i2 i3
  have hP2 : PL2 F2 K q1 q2 n kk C G R A := ⟨hBN.off i4 (by unfold oG oP2; omega) (by unfold oG oP2; omega) (by unfold oG oP2; omega) (by unfold oG oP2; omega) (fun k hk => by unfold oG oP2; omega), hcell K i4, ⟨hq2i, hq2l, by omega, fun i hi => ⟨q2 + 1 + i, gr i hi, ⟨by omega, by rw [gt i hi]⟩, by rw [gt i hi], fun j hj => i5 i j hi hj (Or.inl hi)⟩, fun c o _ _ => dB_bounds hB c o⟩, by omega, h2, h5⟩
  have hrow : rowsHi F2 q2 n := fun i hi p hp => by
    rw [gr i hi] at hp
    have := Option.some.inj hp
    omega
  obtain ⟨P, hP⟩ := PI_ex (d := dB kk C R) (n := n) (fun c o _ _ => dB_bounds hB c o)
  obtain ⟨D, hD⟩ := DR_ex hL hB
  have fin : ∀ K9, Off oP2 K K9 → Off (fun c => oP2 c ∨ nE E ≤ c) M K9 := fun K9 hk => (oN.mono fun c hc => Or.inr hc).trans ((i4.mono fun c hc => hc.imp id (fun z => by omega)).trans (hk.mono fun c hc => Or.inl hc))
  refine ok_ck (gw_self F2) (ok_ck hLF (ok_ck i1 (ok_bm (c_beatingSet hLF hP2.1 (by omega)) ?_)))
  rintro ⟨s, K2⟩ ⟨j1, S, j2r, j3, j4, j5, j6⟩
  have j1 : Off oP2 K K2 := j1
  have j2 : s = (S : Int) := j2r
  subst j2
  have hpw := pow_lt (show n ≤ 8 by omega)
  refine ok_bm (p117_ok hLF (hP2.o2 hrow j1) hrow hP hD j3 j4 j5 j6) ?_
  rintro ⟨t2, a2, w2, y2, F3, K3⟩ ⟨m1, m2r, ⟨W, m3r, m4⟩, m5r, m6⟩
  have m2 : a2 = 1 := m2r
  have m3 : w2 = (W : Int) := m3r
  have m5 : F3 = F2 := m5r
  have m6 : Off oP2 K2 K3 := m6
  subst m2 m3 m5
  refine ok_ck (gw_self F3) (ok_ck hLF (ok_ck m1 (ok_ck (by decide) (ok_if (fun z => absurd z (by decide)) (fun _ => ?_)))))
  refine ok_bm (c_pathWinners hLF (hP2.o2 hrow (j1.trans m6)).1 hP) ?_
  rintro ⟨v, K4⟩ ⟨n1, V, n2r, n3⟩
  have n1 : Off oP2 K3 K4 := n1
  have n2 : v = (V : Int) := n2r
  have eV : V = W := wSet_unique n3 m4
  subst n2 eV
  have hWl := m4.1
  have o4 := (j1.trans m6).trans n1
  show Ok (ck (rgI (V : Int)) (ck (rgI (V : Int)) (if (V : Int) = (V : Int) then ck (nnI (V : Int)) (ck (nnI (S : Int)) (if andI (V : Int) (S : Int) = 0 then _ else _)) else _))) _
  rw [andI_nat]
  obtain ⟨c, c1', c2, c3⟩ := win_set hP (fun c o _ _ => (dB_bounds hB c o).1) (by omega) j3 j4 j5 m4.2
  have hne : V &&& S ≠ 0 := fun e => by
    have : (V &&& S).testBit c = true := by rw [Nat.testBit_and, c2, c3]; rfl
    rw [e, Nat.zero_testBit] at this
    cases this
  refine ok_ck ⟨by omega, by omega⟩ (ok_ck ⟨by omega, by omega⟩ (ok_if (fun _ => ok_ck ⟨by omega, by omega⟩ (ok_ck ⟨by omega, by omega⟩ (ok_if (fun z => absurd (by omega) hne) (fun _ => ?_)))) (fun z => absurd rfl z)))
  refine ok_bm (p417_ok hLF (hP2.o2 hrow o4) hrow hD) ?_
  rintro ⟨t3, a3, b3, y3, F4, K5⟩ ⟨u1, u2r, u3r, u4r, u5⟩
  have u2 : a3 = 1 := u2r
  have u3 : b3 = D (2 ^ n - 1) := u3r
  have u4 : F4 = F3 := u4r
  have u5 : Off oP2 K4 K5 := u5
  subst u2 u3 u4
  refine ok_ck (gw_self F4) (ok_ck hLF (ok_ck u1 ?_))
  show Ok (La_pairs_j528 F4 K5 1 (D (2 ^ n - 1))) _
  unfold La_pairs_j528
  refine ok_ck hLF (ok_ck (by decide) (ok_if (fun z => absurd z (by decide)) (fun _ => ok_bm (c_consensusDistance hLF (hP2.o2 hrow (o4.trans u5)).1 hD) ?_)))
  rintro ⟨x, K6⟩ ⟨e1r, e2⟩
  have e1 : x = D (2 ^ n - 1) := e1r
  have e2 : Off oP2 K5 K6 := e2
  subst e1
  have hp1 := Nat.two_pow_pos n
  have bD := DR_bound (show n ≤ 8 by omega) (fun c o _ _ => dB_bounds hB c o) hD (2 ^ n - 1) (by omega)
  rw [cS_full] at bD
  refine ok_ck ⟨by omega, by omega⟩ (ok_ck ⟨by omega, by omega⟩ (ok_if (fun _ => ok_some ⟨rfl, gE, hLF, fin K6 ((o4.trans u5).trans e2)⟩) (fun z => absurd rfl z)))
