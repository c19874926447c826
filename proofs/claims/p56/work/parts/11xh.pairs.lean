/-! THE LAW'S PAIRS -/
theorem grid_of {E : Ev} {n : Nat} : Ge E (eGrid E n n) ∧ nE (eGrid E n n) = nE E + 1 + n ∧ (∀ i, i < n → rE (eGrid E n n) (nE E) i = some (nE E + 1 + i)) ∧ ∀ i, i < n → tE (eGrid E n n) (nE E + 1 + i) = (0, n) := by
  refine ⟨⟨gw_grid E n n, fun i _ hi k => ?_⟩, rfl, fun i hi => ?_, fun i hi => ?_⟩
  · show gR E n i k = rE E i k
    unfold gR
    rw [bltT (show i < E.1.1 from hi)]
    rfl
  · show gR E n E.1.1 i = _
    unfold gR
    rw [bltF (Nat.lt_irrefl _), beq_self_eq_true]
    show (bif Nat.blt i n then some (E.1.1 + 1 + i) else none) = _
    rw [bltT hi]
    rfl
  · show gT E n n (E.1.1 + 1 + i) = _
    unfold gT
    rw [bltF (by omega), beqF (by omega)]
    rfl
theorem mG_old {M : Mm} {a n c : Nat} (h : c < a) : mG M a n c = M c := by
  unfold mG
  rw [bltT h]
  rfl
/-- the grid filled in front of row x, column y -/
def GF (N : Mm) (q2 n x y : Nat) (d : Nat → Nat → Int) : Prop := ∀ i j, i < n → j < n → (i < x ∨ (i = x ∧ j < y)) → N (q2 + 1 + i) j = d i j
def oG (q2 c : Nat) : Prop := oP2 c ∨ q2 ≤ c
theorem pj64_ok {E : Ev} {M0 M : Mm} {q1 q2 n kk x y : Nat} {C : Nat → Int} {G : Nat → Nat} {R : Nat → Nat → Nat} {A : Nat → Nat} (hL : Lay E) (hB : BX M0 n kk C G R A) (hq1 : isO 12 E q1) (hq2 : isQ 6 E q2) (hql : (tE E q2).2 = n) (hbig : 250 ≤ q2) (hr : ∀ i, i < n → rE E q2 i = some (q2 + 1 + i)) (ht : ∀ i, i < n → isIA E (q2 + 1 + i) ∧ (tE E (q2 + 1 + i)).2 = n) (ho : Off (oG q2) M0 M) (hx : x < n) (hy : y < n) (hG : GF M q2 n x y (dB kk C R)) : Ok (La_pairs_j64 E M q1 q2 1 (x : Int) (y : Int) (dB kk C R x y) (y : Int) (q2 + 1 + x)) (fun r => r.1 = 0 ∧ r.2.1 = 1 ∧ r.2.2.1 = ((y + 1 : Nat) : Int) ∧ r.2.2.2.1 = E ∧ Off (oG q2) M0 r.2.2.2.2 ∧ GF r.2.2.2.2 q2 n x (y + 1) (dB kk C R)) := by
  have h8 := hB.2.1
  have db := dB_bounds hB x y
  unfold La_pairs_j64
  rw [Int.toNat_natCast]
  refine ok_ck hL (ok_ck hq1 (ok_ck hq2 (ok_ck (ht x hx).1 (ok_ck (by rw [(ht x hx).2]; exact inN hy (by omega)) (ok_ck (by decide) (ok_if (fun w => absurd w (by decide)) (fun _ => ?_)))))))
  have o2 : Off (oG q2) M0 (u2 M (q2 + 1 + x) y (dB kk C R x y)) := ho.u2 (Or.inr (by omega))
  have b2 : BX (u2 M (q2 + 1 + x) y (dB kk C R x y)) n kk C G R A := hB.off o2 (by unfold oG oP2; omega) (by unfold oG oP2; omega) (by unfold oG oP2; omega) (by unfold oG oP2; omega) (fun k hk => by unfold oG oP2; omega)
  refine ok_bm (c_ahead hL b2 hx hy) ?_
  rintro ⟨r, K⟩ ⟨e1, k1⟩
  have e1 : r = dB kk C R x y := e1
  have k1 : Off oP2 (u2 M (q2 + 1 + x) y (dB kk C R x y)) K := k1
  have kr : ∀ i j, i < n → K (q2 + 1 + i) j = if i = x ∧ j = y then dB kk C R x y else M (q2 + 1 + i) j := fun i j hi => by
    rw [k1 (q2 + 1 + i) (by unfold oP2; omega), u2_if]
    by_cases w : i = x ∧ j = y
    · rw [if_pos w, if_pos ⟨by omega, w.2⟩]
    · rw [if_neg w, if_neg (fun z => w ⟨by omega, z.2⟩)]
  refine ok_ck (by rw [hql]; exact inN hx (by omega)) ?_
  show Ok ((rE E q2 (x : Int).toNat).bind _) _
  rw [Int.toNat_natCast, hr x hx]
  refine ok_sb (ok_ck (ht x hx).1 (ok_ck (by rw [(ht x hx).2]; exact inN hy (by omega)) ?_))
  rw [kr x y hx, if_pos ⟨rfl, rfl⟩, e1]
  refine ok_ck ⟨by omega, by omega⟩ (ok_ck ⟨by omega, by omega⟩ (ok_if (fun _ => ok_some ⟨rfl, rfl, rfl, rfl, o2.trans (k1.mono fun c hc => Or.inl hc), fun i j hi hj w => ?_⟩) (fun w => absurd rfl w)))
  show K (q2 + 1 + i) j = _
  rw [kr i j hi]
  by_cases z : i = x ∧ j = y
  · rw [if_pos z, z.1, z.2]
  · rw [if_neg z]
    exact hG i j hi hj (by omega)
theorem p18_ok {E : Ev} {M0 : Mm} {q1 q2 n kk : Nat} {C : Nat → Int} {G : Nat → Nat} {R : Nat → Nat → Nat} {A : Nat → Nat} (hL : Lay E) (hB : BX M0 n kk C G R A) (hLB : LB E M0 q1 n kk C G R) (hlt : q1 < q2) (hcell : ∀ N, Off (oG q2) M0 N → LB E N q1 n kk C G R) (hq2 : isQ 6 E q2) (hql : (tE E q2).2 = n) (hbig : 250 ≤ q2) (hr : ∀ i, i < n → rE E q2 i = some (q2 + 1 + i)) (ht : ∀ i, i < n → isIA E (q2 + 1 + i) ∧ (tE E (q2 + 1 + i)).2 = n) : Ok (l_La_pairs_18 q1 q2 5000 E M0 1 0) (fun r => r.1 = 1 ∧ r.2.1 = 1 ∧ r.2.2.2.1 = E ∧ Off (oG q2) M0 r.2.2.2.2 ∧ GF r.2.2.2.2 q2 n n 0 (dB kk C R)) := by
  have h8 := hB.2.1
  have hq1 := hLB.1
  refine L_La_pairs_18 q1 q2 (I := fun F N x3 x4 => F = E ∧ x3 = 1 ∧ ∃ x : Nat, x4 = (x : Int) ∧ x ≤ n ∧ Off (oG q2) M0 N ∧ GF N q2 n x 0 (dB kk C R)) (μ := fun _ _ _ x => n - x.toNat) ?_ 5000 E M0 1 0 ⟨rfl, rfl, 0, rfl, Nat.zero_le _, Off.refl, fun i j _ _ w => by omega⟩ (by show n - _ < 5000; omega)
  rintro F N x3 x4 ⟨rfl, rfl, x, rfl, hx, ho, hG⟩
  have hLN := hcell N ho
  unfold La_pairs_18b
  rw [hLN.2.2.1]
  refine ok_ck hL (ok_ck hq1 (ok_ck hq2 (ok_ck (rgN (by omega)) (ok_ck (rgN (by omega)) (ok_if (fun w => ?_) (fun w => ?_))))))
  · have e : x = n := by omega
    subst e
    exact ok_some (ok_out ne0 ⟨rfl, rfl, rfl, ho, hG⟩)
  · have hxn : x < n := by omega
    refine ok_bm (R := fun r => r.1 = 1 ∧ r.2.1 = 1 ∧ r.2.2.2.1 = F ∧ Off (oG q2) M0 r.2.2.2.2 ∧ GF r.2.2.2.2 q2 n x n (dB kk C R)) ?_ ?_
    · refine L_La_pairs_30 q1 q2 (x : Int) (I := fun H K x3 x5 => H = F ∧ x3 = 1 ∧ ∃ y : Nat, x5 = (y : Int) ∧ y ≤ n ∧ Off (oG q2) M0 K ∧ GF K q2 n x y (dB kk C R)) (μ := fun _ _ _ x => n - x.toNat) ?_ 5000 F N 1 0 ⟨rfl, rfl, 0, rfl, Nat.zero_le _, ho, hG⟩ (by show n - _ < 5000; omega)
      rintro H K x3 x5 ⟨rfl, rfl, y, rfl, hy, hoK, hGK⟩
      have hLK := hcell K hoK
      unfold La_pairs_30b
      rw [hLK.2.2.1, Int.toNat_natCast, hr x hxn]
      refine ok_ck hL (ok_ck hq1 (ok_ck hq2 (ok_ck (rgN (by omega)) (ok_ck (rgN (by omega)) (ok_if (fun w2 => ?_) (fun w2 => ok_ck (by rw [hql]; exact inN hxn (by omega)) (ok_sb (ok_ck (ht x hxn).1 ?_))))))))
      · have e : y = n := by omega
        subst e
        exact ok_some (ok_out ne0 ⟨rfl, rfl, rfl, hoK, hGK⟩)
      · have hyn : y < n := by omega
        have fin : ∀ z : Int, z = dB kk C R x y → Ok (La_pairs_j64 H K q1 q2 1 (x : Int) (y : Int) z (y : Int) (q2 + 1 + x)) (fun r => (r.1 = 0 → (r.2.2.2.1 = H ∧ r.2.1 = 1 ∧ ∃ y : Nat, r.2.2.1 = (y : Int) ∧ y ≤ n ∧ Off (oG q2) M0 r.2.2.2.2 ∧ GF r.2.2.2.2 q2 n x y (dB kk C R)) ∧ n - r.2.2.1.toNat < n - (y : Int).toNat) ∧ (r.1 ≠ 0 → r.1 = 1 ∧ r.2.1 = 1 ∧ r.2.2.2.1 = H ∧ Off (oG q2) M0 r.2.2.2.2 ∧ GF r.2.2.2.2 q2 n x n (dB kk C R))) := fun z hz => by
          rw [hz]
          refine (pj64_ok hL hB hq1 hq2 hql hbig hr ht hoK hxn hyn hGK).mono ?_
          rintro ⟨t, a, b, H2, K2⟩ ⟨g1, g2, g3, g4, g5, g6⟩
          have g1 : t = 0 := g1
          have g3 : b = ((y + 1 : Nat) : Int) := g3
          subst g1 g3
          exact ok_go rfl ⟨⟨g4, g2, y + 1, rfl, by omega, g5, g6⟩, cnt hyn⟩
        refine ok_if (fun w3 => ?_) (fun w3 => ?_)
        · refine fin 0 ?_
          rw [show x = y by omega, dB_self]
        · refine ok_bm (lb_ahead (hB.off hoK (by unfold oG oP2; omega) (by unfold oG oP2; omega) (by unfold oG oP2; omega) (by unfold oG oP2; omega) (fun k hk => by unfold oG oP2; omega)) hLK hxn hyn) ?_
          rintro r rfl
          exact fin _ rfl
    · rintro ⟨t, a, b, H, K⟩ ⟨g1, g2r, g3r, g4, g5⟩
      have g2 : a = 1 := g2r
      have g3 : H = F := g3r
      subst g2 g3
      refine ok_ck (gw_self H) (ok_ck hL (ok_ck g1 (ok_some (ok_go rfl ⟨⟨rfl, rfl, x + 1, c1 x, by omega, g4, fun i j hi hj w2 => g5 i j hi hj (by omega)⟩, cnt hxn⟩))))
/-- what the rest stands on -/
def PL2 (E : Ev) (M : Mm) (q1 q2 n kk : Nat) (C : Nat → Int) (G : Nat → Nat) (R : Nat → Nat → Nat) (A : Nat → Nat) : Prop := BX M n kk C G R A ∧ LB E M q1 n kk C G R ∧ Gd E M q2 n (dB kk C R) ∧ 250 ≤ q2 ∧ 2 ≤ n ∧ n ≤ 5
theorem PL2.o2 {E : Ev} {M N : Mm} {q1 q2 n kk : Nat} {C : Nat → Int} {G : Nat → Nat} {R : Nat → Nat → Nat} {A : Nat → Nat} (h : PL2 E M q1 q2 n kk C G R A) (hrow : ∀ i, i < n → ∀ p, rE E q2 i = some p → 250 ≤ p) (ho : Off oP2 M N) : PL2 E N q1 q2 n kk C G R A := by
  obtain ⟨a, b, ⟨c1', c2, c3, c4, c5⟩, e, f, g⟩ := h
  refine ⟨a.o2 ho, b.off ho (fun c h1 h2 => by unfold oP2; omega), ⟨c1', c2, c3, fun i hi => ?_, c5⟩, e, f, g⟩
  obtain ⟨p, p1, p2, p3, p4⟩ := c4 i hi
  exact ⟨p, p1, p2, p3, fun j hj => by rw [ho p (by have := hrow i hi p p1; unfold oP2; omega)]; exact p4 j hj⟩
theorem gd_at {E : Ev} {M : Mm} {q n i j : Nat} {d : Nat → Nat → Int} (h : Gd E M q n d) (hi : i < n) (hj : j < n) : ∃ p, rE E q i = some p ∧ isIA E p ∧ (tE E p).2 = n ∧ M p j = d i j := by
  obtain ⟨p, p1, p2, p3, p4⟩ := h.2.2.2.1 i hi
  exact ⟨p, p1, p2, p3, p4 j hj⟩
def fl (b : Bool) : Int := if b = true then 1 else 0
theorem fl_rg (b : Bool) : rgI (fl b) ∧ (fl b = 0 ↔ b = false) ∧ (fl b = 1 ↔ b = true) := by cases b <;> decide
theorem p251_ok {E : Ev} {M : Mm} {q1 q2 n kk S x y : Nat} {C : Nat → Int} {G : Nat → Nat} {R : Nat → Nat → Nat} {A : Nat → Nat} {x5 x7 y0 : Int} (hL : Lay E) (h : PL2 E M q1 q2 n kk C G R A) (hS : S < 2 ^ n) (hb : bSet (dB kk C R) n S) (hx : x < n) (hy : y < n) : Ok (La_pairs_j251 E M q1 q2 1 (S : Int) x5 (x : Int) x7 (y : Int) y0) (fun r => r = (0, 1, x7, y0, (y : Int) + 1, E, M)) := by
  obtain ⟨hB, hLB, hG, -, -, h5⟩ := h
  have hpw := pow_lt (show n ≤ 8 by omega)
  obtain ⟨p, p1, p2, p3, p4⟩ := gd_at hG hx hy
  obtain ⟨p', f1, f2, f3, f4⟩ := gd_at hG hy hx
  have d1 := dB_bounds hB x y
  have d2 := dB_bounds hB y x
  have bz : ∀ c, ((S : Int) / 2 ^ c) % 2 = 0 ↔ S.testBit c = false := fun c => by
    rw [bt_int, bt_tb]
    by_cases w : S.testBit c = true
    · rw [if_pos w, w]; exact ⟨fun q => absurd q (by decide), fun q => (by cases q)⟩
    · rw [if_neg w]; exact ⟨fun _ => Bool.eq_false_iff.mpr w, fun _ => rfl⟩
  unfold La_pairs_j251
  rw [Int.toNat_natCast, Int.toNat_natCast]
  refine ok_ck hL (ok_ck hLB.1 (ok_ck hG.1 (ok_ck (by decide) (ok_if (fun w => absurd w (by decide)) (fun _ => ok_ck (rgN (by omega)) (ok_ck ⟨by omega, by omega⟩ (ok_if (fun _ => ok_some rfl) (fun w1 => ok_ck ⟨by omega, by omega⟩ (ok_if (fun _ => ok_some rfl) (fun w2 => ?_))))))))))
  rw [p1, f1]
  refine ok_ck (by rw [hG.2.1]; exact inN hx (by omega)) (ok_sb (ok_ck p2 (ok_ck (by rw [p3]; exact inN hy (by omega)) (ok_ck (by rw [hG.2.1]; exact inN hy (by omega)) (ok_sb (ok_ck f2 (ok_ck (by rw [f3]; exact inN hx (by omega)) ?_)))))))
  rw [p4, f4]
  refine ok_ck ⟨by omega, by omega⟩ (ok_ck ⟨by omega, by omega⟩ (ok_if (fun w3 => ?_) (fun _ => ok_some rfl)))
  have hxS : S.testBit x = true := by
    cases e : S.testBit x with
    | true => rfl
    | false => exact absurd ((bz x).mpr e) w1
  have := hb x y hx hy hxS (Bool.eq_false_iff.mpr fun e => w2 (bit_odd.mpr e))
  omega
theorem p222_ok {E : Ev} {M : Mm} {q1 q2 n kk S x y : Nat} {C : Nat → Int} {G : Nat → Nat} {R : Nat → Nat → Nat} {A : Nat → Nat} {x5 y0 : Int} {b : Bool} (hL : Lay E) (h : PL2 E M q1 q2 n kk C G R A) (hS : S < 2 ^ n) (hb : bSet (dB kk C R) n S) (hx : x < n) (hy : y < n) : Ok (La_pairs_j222 E M q1 q2 1 (S : Int) x5 (x : Int) (fl b) (y : Int) y0) (fun r => r = (0, 1, y0, fl (b && decide (dB kk C R y x < dB kk C R x y)), (y : Int) + 1, E, M)) := by
  have hH := h
  obtain ⟨hB, hLB, hG, -, -, h5⟩ := h
  obtain ⟨p, p1, p2, p3, p4⟩ := gd_at hG hx hy
  obtain ⟨p', f1, f2, f3, f4⟩ := gd_at hG hy hx
  have d1 := dB_bounds hB x y
  have d2 := dB_bounds hB y x
  have fb := fl_rg b
  unfold La_pairs_j222
  rw [Int.toNat_natCast, Int.toNat_natCast]
  refine ok_ck hL (ok_ck hLB.1 (ok_ck hG.1 (ok_ck fb.1 (ok_if (fun w => ?_) (fun w => ?_)))))
  · have e := fb.2.1.mp w
    subst e
    exact p251_ok hL hH hS hb hx hy
  · have e : b = true := by cases b with
      | true => rfl
      | false => exact absurd rfl w
    subst e
    rw [p1, f1]
    refine ok_ck (by rw [hG.2.1]; exact inN hx (by omega)) (ok_sb (ok_ck p2 (ok_ck (by rw [p3]; exact inN hy (by omega)) (ok_ck (by rw [hG.2.1]; exact inN hy (by omega)) (ok_sb (ok_ck f2 (ok_ck (by rw [f3]; exact inN hx (by omega)) ?_)))))))
    rw [p4, f4]
    refine ok_ck ⟨by omega, by omega⟩ (ok_ck ⟨by omega, by omega⟩ (ok_if (fun w3 => ?_) (fun w3 => ?_)))
    · rw [decide_eq_false (show ¬ dB kk C R y x < dB kk C R x y by omega)]
      exact p251_ok hL hH hS hb hx hy
    · rw [decide_eq_true (show dB kk C R y x < dB kk C R x y by omega)]
      exact p251_ok hL hH hS hb hx hy
theorem p204_ok {E : Ev} {M : Mm} {q1 q2 n kk S x y : Nat} {C : Nat → Int} {G : Nat → Nat} {R : Nat → Nat → Nat} {A : Nat → Nat} {x5 r s : Int} {a b : Bool} (hL : Lay E) (h : PL2 E M q1 q2 n kk C G R A) (hS : S < 2 ^ n) (hb : bSet (dB kk C R) n S) (hx : x < n) (hy : y < n) (hr : rgI r) (hs : rgI s) : Ok (La_pairs_j204 E M q1 q2 (S : Int) x5 (x : Int) (fl a) (fl b) (y : Int) r s 1) (fun w => w = (0, 1, fl (a && decide (s ≤ r)), fl (b && decide (dB kk C R y x < dB kk C R x y)), (y : Int) + 1, E, M)) := by
  have hH := h
  obtain ⟨hB, hLB, hG, -, -, h5⟩ := h
  have fa := fl_rg a
  unfold La_pairs_j204
  refine ok_ck hL (ok_ck hLB.1 (ok_ck hG.1 (ok_ck fa.1 (ok_if (fun w => ?_) (fun w => ?_)))))
  · have e := fa.2.1.mp w
    subst e
    exact p222_ok hL hH hS hb hx hy
  · have e : a = true := by cases a with
      | true => rfl
      | false => exact absurd rfl w
    subst e
    refine ok_ck hr (ok_ck hs (ok_if (fun w3 => ?_) (fun w3 => ?_)))
    · rw [decide_eq_false (show ¬ s ≤ r by omega)]
      exact p222_ok hL hH hS hb hx hy
    · rw [decide_eq_true (show s ≤ r by omega)]
      exact p222_ok hL hH hS hb hx hy
/-- is at least as strong as all below m; beats all below m -/
def wB1 (P : Nat → Nat → Int) (x : Nat) : Nat → Bool
  | 0 => true
  | m + 1 => wB1 P x m && (decide (m = x) || decide (P m x ≤ P x m))
def bB1 (d : Nat → Nat → Int) (x : Nat) : Nat → Bool
  | 0 => true
  | m + 1 => bB1 d x m && (decide (m = x) || decide (d m x < d x m))
theorem wB1_iff {P : Nat → Nat → Int} {x : Nat} : ∀ m, wB1 P x m = true ↔ ∀ o, o < m → P o x ≤ P x o
  | 0 => ⟨fun _ o ho => absurd ho (Nat.not_lt_zero o), fun _ => rfl⟩
  | m + 1 => by
    show (wB1 P x m && (decide (m = x) || decide (P m x ≤ P x m))) = true ↔ _
    rw [Bool.and_eq_true, wB1_iff m, Bool.or_eq_true]
    constructor
    · rintro ⟨h1, h2⟩ o ho
      by_cases e : o = m
      · rw [e]
        rcases h2 with h2 | h2
        · rw [of_decide_eq_true h2]; exact Int.le_refl _
        · exact of_decide_eq_true h2
      · exact h1 o (by omega)
    · intro h
      exact ⟨fun o ho => h o (by omega), Or.inr (decide_eq_true (h m (by omega)))⟩
theorem bB1_iff {d : Nat → Nat → Int} {x : Nat} : ∀ m, bB1 d x m = true ↔ ∀ o, o < m → o ≠ x → d o x < d x o
  | 0 => ⟨fun _ o ho => absurd ho (Nat.not_lt_zero o), fun _ => rfl⟩
  | m + 1 => by
    show (bB1 d x m && (decide (m = x) || decide (d m x < d x m))) = true ↔ _
    rw [Bool.and_eq_true, bB1_iff m, Bool.or_eq_true]
    constructor
    · rintro ⟨h1, h2⟩ o ho hne
      by_cases e : o = m
      · rw [e]
        rcases h2 with h2 | h2
        · exact absurd (e.trans (of_decide_eq_true h2)) hne
        · exact of_decide_eq_true h2
      · exact h1 o (by omega) hne
    · intro h
      refine ⟨fun o ho => h o (by omega), ?_⟩
      by_cases e : m = x
      · exact Or.inl (decide_eq_true e)
      · exact Or.inr (decide_eq_true (h m (by omega) e))
