/-! THE CALLS THAT LOOK AT PAIRS -/
def oP2 (c : Nat) : Prop := 41 ≤ c ∧ c ≤ 50
noncomputable def dB (kk : Nat) (C : Nat → Int) (R : Nat → Nat → Nat) : Nat → Nat → Int := dw (wB kk C) R
theorem oPo_2 {M N : Mm} (h : Off oPo M N) : Off oP2 M N := h.mono fun c hc => by unfold oPo at hc; unfold oP2; omega
theorem BX.o2 {M N : Mm} {n kk : Nat} {C : Nat → Int} {G : Nat → Nat} {R : Nat → Nat → Nat} {A : Nat → Nat} (h : BX M n kk C G R A) (ho : Off oP2 M N) : BX N n kk C G R A := h.off ho (by unfold oP2; decide) (by unfold oP2; decide) (by unfold oP2; decide) (by unfold oP2; decide) (fun k hk => by unfold oP2; omega)
theorem wB_nn {M : Mm} {n kk : Nat} {C : Nat → Int} {G : Nat → Nat} {R : Nat → Nat → Nat} {A : Nat → Nat} (h : BX M n kk C G R A) : (∀ k, k < 31 → 0 ≤ wB kk C k) ∧ sN (wB kk C) 31 ≤ 1000000 := by
  obtain ⟨-, -, -, ak, aR, aS⟩ := h
  refine ⟨fun k _ => ?_, ?_⟩
  · unfold wB
    by_cases e : k < kk
    · rw [if_pos e]; exact (aR k e).2.2
    · rw [if_neg e]; exact Int.le_refl 0
  · have := wB_sum (kk := kk) (C := C) (f := fun _ => 1) (n := 31) (by omega)
    rw [sN_congr (g := wB kk C) (fun i _ => Int.mul_one _), sN_congr (g := C) (fun i _ => Int.mul_one _)] at this
    omega
/-- opened: the pairs stand -/
theorem open_pd {E : Ev} {M : Mm} {n kk : Nat} {C : Nat → Int} {G : Nat → Nat} {R : Nat → Nat → Nat} {A : Nat → Nat} (hL : Lay E) (h : BX M n kk C G R A) : Ok (f_Po_open E M ((2 ^ n - 1 : Nat) : Int)) (fun N => Off oP2 M N ∧ PS N n (wB kk C) R G A ∧ PD N n (dB kk C R) ∧ N 41 1 = ((2 ^ n - 1 : Nat) : Int) ∧ BX N n kk C G R A) := (open_ok hL h).mono fun N hN => ⟨oPo_2 hN.1, hN.2, hN.2.pd (by rw [hN.1 2 (by unfold oPo; decide)]; exact h.1) h.2.1 (wB_nn h).1 (wB_nn h).2, hN.2.1, h.o2 (oPo_2 hN.1)⟩
theorem dB_bounds {M : Mm} {n kk : Nat} {C : Nat → Int} {G : Nat → Nat} {R : Nat → Nat → Nat} {A : Nat → Nat} (h : BX M n kk C G R A) (c o : Nat) : 0 ≤ dB kk C R c o ∧ dB kk C R c o ≤ 1000000 := dw_bounds (wB_nn h).1 (wB_nn h).2 c o
theorem dB_self (kk : Nat) (C : Nat → Int) (R : Nat → Nat → Nat) (c : Nat) : dB kk C R c c = 0 := by
  unfold dB dw
  rw [sN_congr (g := fun _ => 0) (fun k _ => by rw [ind_f (Nat.lt_irrefl _), Int.mul_zero]), sN_zero]
theorem PI_ex {d : Nat → Nat → Int} {n : Nat} (hd : ∀ c o, c < n → o < n → 0 ≤ d c o ∧ d c o ≤ 1000000) : ∃ P, PI d n n P := by
  have key : ∀ m, m ≤ n → ∃ P, PI d n m P := fun m => by
    induction m with
    | zero => intro _; exact ⟨_, PI_start hd⟩
    | succ m ih =>
      intro hm
      obtain ⟨P, hP⟩ := ih (by omega)
      exact ⟨_, PI_step (by omega) hP⟩
  exact key n (Nat.le_refl n)
theorem DR_ex {E : Ev} {M : Mm} {n kk : Nat} {C : Nat → Int} {G : Nat → Nat} {R : Nat → Nat → Nat} {A : Nat → Nat} (hL : Lay E) (h : BX M n kk C G R A) : ∃ D, DR (dB kk C R) n D := by
  obtain ⟨N, -, -, -, hP, hp, -⟩ := open_pd hL h
  obtain ⟨K, -, -, D, hD, -⟩ := findDistances_ok (E := E) hP hp
  exact ⟨D, hD⟩
theorem c_ahead {E : Ev} {M : Mm} {n kk c o : Nat} {C : Nat → Int} {G : Nat → Nat} {R : Nat → Nat → Nat} {A : Nat → Nat} (hL : Lay E) (h : BX M n kk C G R A) (hc : c < n) (ho : o < n) : Ok (f_B_ahead E M (c : Int) (o : Int)) (fun r => r.1 = dB kk C R c o ∧ Off oP2 M r.2) := by
  have h8 := h.2.1
  unfold f_B_ahead
  rw [h.1, needIndex_ok (by omega) (by omega) (by omega), needIndex_ok (by omega) (by omega) (by omega), everybody_eq h.1 h8]
  refine ok_sb (ok_sb (ok_sb (ok_bm (open_pd hL h) ?_)))
  rintro N ⟨o1, -, o2, -, -⟩
  rw [pair_eq o2 hc ho]
  exact ok_sb (ok_some ⟨rfl, o1⟩)
theorem c_beatsAll {E : Ev} {M : Mm} {n kk : Nat} {C : Nat → Int} {G : Nat → Nat} {R : Nat → Nat → Nat} {A : Nat → Nat} (hL : Lay E) (h : BX M n kk C G R A) : Ok (f_B_beatsAll E M) (fun r => Off oP2 M r.2 ∧ ((r.1 = -1 ∧ ∀ c, c < n → ¬ bAll (dB kk C R) n c) ∨ ∃ c : Nat, r.1 = (c : Int) ∧ c < n ∧ bAll (dB kk C R) n c)) := by
  unfold f_B_beatsAll
  rw [everybody_eq h.1 h.2.1]
  refine ok_sb (ok_bm (open_pd hL h) ?_)
  rintro N ⟨o1, -, o2, o3, -⟩
  refine ok_bm (beaterOfAll_ok hL o2 o3) ?_
  rintro ⟨x, K⟩ ⟨k1, k2⟩
  exact ok_some ⟨o1.trans (Off.mono k1 fun c hc => by unfold oP2; omega), k2⟩
theorem c_strongest {E : Ev} {M : Mm} {n kk c o : Nat} {C : Nat → Int} {G : Nat → Nat} {R : Nat → Nat → Nat} {A : Nat → Nat} {P : Nat → Nat → Int} (hL : Lay E) (h : BX M n kk C G R A) (hP : PI (dB kk C R) n n P) (hc : c < n) (ho : o < n) : Ok (f_B_strongestPath E M (c : Int) (o : Int)) (fun r => r.1 = P c o ∧ Off oP2 M r.2) := by
  have h8 := h.2.1
  unfold f_B_strongestPath
  rw [h.1, needIndex_ok (by omega) (by omega) (by omega), needIndex_ok (by omega) (by omega) (by omega), everybody_eq h.1 h8]
  refine ok_sb (ok_sb (ok_sb (ok_bm (open_pd hL h) ?_)))
  rintro N ⟨o1, -, o2, -, -⟩
  refine ok_bm (findPaths_ok hL o2) ?_
  rintro K ⟨k1, Q, k2, k3⟩
  rw [path_eq k3 h8 hc ho, PI_unique k2 hP c o hc ho]
  exact ok_sb (ok_some ⟨rfl, o1.trans (Off.mono k1 fun c hc => by unfold oP2; omega)⟩)
/-- the winners by paths, as a set -/
def wSet (P : Nat → Nat → Int) (n W : Nat) : Prop := W < 2 ^ n ∧ ∀ c, c < n → (W.testBit c = true ↔ ∀ o, o < n → P o c ≤ P c o)
theorem wSet_of {d P Q : Nat → Nat → Int} {n W : Nat} (h : PI d n n P) (g : PI d n n Q) (hW : wSet Q n W) : wSet P n W := ⟨hW.1, fun c hc => (hW.2 c hc).trans ⟨fun w o ho => by rw [PI_unique h g o c ho hc, PI_unique h g c o hc ho]; exact w o ho, fun w o ho => by rw [← PI_unique h g o c ho hc, ← PI_unique h g c o hc ho]; exact w o ho⟩⟩
theorem wSet_unique {P : Nat → Nat → Int} {n W V : Nat} (h : wSet P n W) (g : wSet P n V) : W = V := eq_tb h.1 g.1 fun i hi => Bool.eq_iff_iff.mpr ((h.2 i hi).trans (g.2 i hi).symm)
theorem c_pathWinners {E : Ev} {M : Mm} {n kk : Nat} {C : Nat → Int} {G : Nat → Nat} {R : Nat → Nat → Nat} {A : Nat → Nat} {P : Nat → Nat → Int} (hL : Lay E) (h : BX M n kk C G R A) (hP : PI (dB kk C R) n n P) : Ok (f_B_pathWinners E M) (fun r => Off oP2 M r.2 ∧ ∃ W : Nat, r.1 = (W : Int) ∧ wSet P n W) := by
  unfold f_B_pathWinners
  rw [everybody_eq h.1 h.2.1]
  refine ok_sb (ok_bm (open_pd hL h) ?_)
  rintro N ⟨o1, -, o2, o3, -⟩
  refine ok_bm (winners_ok hL o2 o3) ?_
  rintro ⟨x, K⟩ ⟨k1, Q, k2, -, W, k3, k4, k5⟩
  exact ok_some ⟨o1.trans (Off.mono k1 fun c hc => by unfold oP2; omega), W, k3, wSet_of hP k2 ⟨k4, k5⟩⟩
theorem c_beatingSet {E : Ev} {M : Mm} {n kk : Nat} {C : Nat → Int} {G : Nat → Nat} {R : Nat → Nat → Nat} {A : Nat → Nat} (hL : Lay E) (h : BX M n kk C G R A) (hn : 1 ≤ n) : Ok (f_B_beatingSet E M) (fun r => Off oP2 M r.2 ∧ ∃ S : Nat, r.1 = (S : Int) ∧ 1 ≤ S ∧ S < 2 ^ n ∧ bSet (dB kk C R) n S ∧ ∀ T, 1 ≤ T → T < 2 ^ n → bSet (dB kk C R) n T → cS S n ≤ cS T n) := by
  unfold f_B_beatingSet
  rw [everybody_eq h.1 h.2.1]
  refine ok_sb (ok_bm (open_pd hL h) ?_)
  rintro N ⟨o1, -, o2, o3, -⟩
  refine ok_bm (smallestBeatingSet_ok hL o2 hn o3) ?_
  rintro ⟨x, K⟩ ⟨k1, k2⟩
  exact ok_some ⟨o1.trans (Off.mono k1 fun c hc => by unfold oP2; omega), k2⟩
theorem c_consensusAt {E : Ev} {M : Mm} {n kk i : Nat} {C : Nat → Int} {G : Nat → Nat} {R : Nat → Nat → Nat} {A : Nat → Nat} {D : Nat → Int} (hL : Lay E) (h : BX M n kk C G R A) (hD : DR (dB kk C R) n D) (hi : i < n) : Ok (f_B_consensusAt E M (i : Int)) (fun r => r.1 = (cQ D (dB kk C R) n i : Int) ∧ Off oP2 M r.2) := by
  have h8 := h.2.1
  unfold f_B_consensusAt
  rw [h.1, needPlace_ok (by omega) (by omega) (by omega), everybody_eq h.1 h8]
  refine ok_sb (ok_sb (ok_bm (open_pd hL h) ?_))
  rintro N ⟨o1, -, o2, o3, -⟩
  refine ok_bm (findDistances_ok o2 o3) ?_
  rintro K ⟨k1, F, k2, k3⟩
  refine ok_bm (place_ok (o2.off k1 (by decide) (by decide)) (by rw [k1 41 (by decide)]; exact o3) hD (fun S hS => (k3 S hS).trans (DR_unique h8 k2 hD S hS)) hi) ?_
  rintro r rfl
  exact ok_some ⟨rfl, o1.trans (Off.mono k1 fun c hc => by unfold oP2; omega)⟩
theorem c_consensusDistance {E : Ev} {M : Mm} {n kk : Nat} {C : Nat → Int} {G : Nat → Nat} {R : Nat → Nat → Nat} {A : Nat → Nat} {D : Nat → Int} (hL : Lay E) (h : BX M n kk C G R A) (hD : DR (dB kk C R) n D) : Ok (f_B_consensusDistance E M) (fun r => r.1 = D (2 ^ n - 1) ∧ Off oP2 M r.2) := by
  have h8 := h.2.1
  have hpw := pow_lt h8
  have hp1 := Nat.two_pow_pos n
  unfold f_B_consensusDistance
  rw [everybody_eq h.1 h8]
  refine ok_sb (ok_bm (open_pd hL h) ?_)
  rintro N ⟨o1, -, o2, o3, o4⟩
  refine ok_bm (findDistances_ok o2 o3) ?_
  rintro K ⟨k1, F, k2, k3⟩
  have hK : K 2 2 = (n : Int) := by rw [k1 2 (by decide)]; exact o4.1
  rw [everybody_eq hK h8]
  refine ok_sb (ok_ck (inN (by omega) (by decide)) (ok_some ⟨?_, o1.trans (Off.mono k1 fun c hc => by unfold oP2; omega)⟩))
  show K 50 (((2 ^ n - 1 : Nat) : Int)).toNat = _
  rw [Int.toNat_natCast, k3 _ (by omega)]
  exact DR_unique h8 k2 hD _ (by omega)
/-! THE LAW'S BOX -/
def lrk (r g : Nat) : Int := if r < g then (r : Int) else 9
theorem lrk_lt {a b g : Nat} (ha : a ≤ g) (hb : b ≤ g) (hg : g ≤ 8) : lrk a g < lrk b g ↔ a < b := by
  unfold lrk
  by_cases ca : a < g
  · rw [if_pos ca]
    by_cases cb : b < g
    · rw [if_pos cb]; omega
    · rw [if_neg cb]; omega
  · rw [if_neg ca]
    by_cases cb : b < g
    · rw [if_pos cb]; omega
    · rw [if_neg cb]; omega
def LB (E : Ev) (M : Mm) (q n kk : Nat) (C : Nat → Int) (G : Nat → Nat) (R : Nat → Nat → Nat) : Prop := isO 12 E q ∧ 250 ≤ q ∧ M q 0 = (n : Int) ∧ M q 3 = (kk : Int) ∧ kk ≤ 12 ∧ ∃ pr pm, rE E q 1 = some pr ∧ isQ 6 E pr ∧ (tE E pr).2 = 12 ∧ 250 ≤ pr ∧ rE E q 2 = some pm ∧ isIA E pm ∧ (tE E pm).2 = 12 ∧ 250 ≤ pm ∧ (∀ k, k < kk → M pm k = C k) ∧ ∀ k, k < kk → ∃ p, rE E pr k = some p ∧ 250 ≤ p ∧ isIA E p ∧ (tE E p).2 = n ∧ ∀ c, c < n → M p c = lrk (R k c) (G k)
theorem LB.off {E : Ev} {M N : Mm} {q n kk : Nat} {C : Nat → Int} {G : Nat → Nat} {R : Nat → Nat → Nat} {S : Nat → Prop} (h : LB E M q n kk C G R) (ho : Off S M N) (hS : ∀ c, 250 ≤ c → c < nE E → ¬ S c) : LB E N q n kk C G R := by
  obtain ⟨a1, a2, a3, a4, a5, pr, pm, b1, b2, b3, b4, b5, b6, b7, b8, b9, b10⟩ := h
  refine ⟨a1, a2, by rw [ho q (hS q a2 a1.1)]; exact a3, by rw [ho q (hS q a2 a1.1)]; exact a4, a5, pr, pm, b1, b2, b3, b4, b5, b6, b7, b8, fun k hk => by rw [ho pm (hS pm b8 b6.1)]; exact b9 k hk, fun k hk => ?_⟩
  obtain ⟨p, p1, p2, p3, p4, p5⟩ := b10 k hk
  exact ⟨p, p1, p2, p3, p4, fun c hc => by rw [ho p (hS p p2 p3.1)]; exact p5 c hc⟩
/-- grown, the old references kept -/
def Ge (E F : Ev) : Prop := Gw E F ∧ ∀ i, 0 ≤ i → i < nE E → ∀ k, rE F i k = rE E i k
theorem Ge.refl (E : Ev) : Ge E E := ⟨gw_self E, fun _ _ _ _ => rfl⟩
theorem Ge.trans {E F H : Ev} (h : Ge E F) (g : Ge F H) : Ge E H := ⟨gw_trans h.1 g.1, fun i h1 h2 k => (g.2 i h1 (Nat.lt_of_lt_of_le h2 h.1.1) k).trans (h.2 i h1 h2 k)⟩
theorem LB.ge {E F : Ev} {M : Mm} {q n kk : Nat} {C : Nat → Int} {G : Nat → Nat} {R : Nat → Nat → Nat} (h : LB E M q n kk C G R) (hg : Ge E F) : LB F M q n kk C G R := by
  obtain ⟨a1, a2, a3, a4, a5, pr, pm, b1, b2, b3, b4, b5, b6, b7, b8, b9, b10⟩ := h
  have up : ∀ {i}, i < nE E → i < nE F := fun hi => Nat.lt_of_lt_of_le hi hg.1.1
  have tp : ∀ {i}, i < nE E → tE F i = tE E i := fun hi => hg.1.2 _ hi
  refine ⟨⟨up a1.1, by rw [tp a1.1]; exact a1.2⟩, a2, a3, a4, a5, pr, pm, (hg.2 q (by omega) a1.1 1).trans b1, ⟨up b2.1, by rw [tp b2.1]; exact b2.2⟩, by rw [tp b2.1]; exact b3, b4, (hg.2 q (by omega) a1.1 2).trans b5, ⟨up b6.1, by rw [tp b6.1]; exact b6.2⟩, by rw [tp b6.1]; exact b7, b8, b9, fun k hk => ?_⟩
  obtain ⟨p, p1, p2, p3, p4, p5⟩ := b10 k hk
  exact ⟨p, (hg.2 pr (by omega) b2.1 k).trans p1, p2, ⟨up p3.1, by rw [tp p3.1]; exact p3.2⟩, by rw [tp p3.1]; exact p4, p5⟩
theorem lb_ahead {E : Ev} {M : Mm} {q n kk x y : Nat} {C : Nat → Int} {G : Nat → Nat} {R : Nat → Nat → Nat} {A : Nat → Nat} (hB : BX M n kk C G R A) (h : LB E M q n kk C G R) (hx : x < n) (hy : y < n) : Ok (f_Lb_ahead E M q (x : Int) (y : Int)) (fun r => r = dB kk C R x y) := by
  obtain ⟨a1, a2, a3, a4, a5, pr, pm, b1, b2, b3, b4, b5, b6, b7, b8, b9, b10⟩ := h
  have h8 := hB.2.1
  unfold f_Lb_ahead
  refine ok_ck a1 (ok_bm (R := fun r => r.1 = 1 ∧ r.2.1 = dB kk C R x y) ?_ ?_)
  · refine L_Lb_ahead_5 E q (x : Int) (y : Int) M (I := fun a b => ∃ k : Nat, b = (k : Int) ∧ k ≤ kk ∧ a = sN (fun k => C k * ind (R k x < R k y)) k) (μ := fun _ b => kk - b.toNat) ?_ FU 0 0 ⟨0, rfl, Nat.zero_le _, rfl⟩ (by show kk - _ < 5000; omega)
    rintro a b ⟨k, rfl, hk, ha⟩
    unfold Lb_ahead_5b
    rw [a4]
    refine ok_ck a1 (ok_ck (rgN (by omega)) (ok_ck (rgN (by omega)) (ok_if (fun w => ?_) (fun w => ?_))))
    · have e : k = kk := by omega
      rw [e] at ha
      refine ok_some (ok_out ne0 ⟨rfl, ?_⟩)
      show a = _
      rw [ha]
      exact (wB_sum (C := C) (f := fun k => ind (R k x < R k y)) (by omega)).symm
    · have hkk : k < kk := by omega
      obtain ⟨p, p1, p2, p3, p4, p5⟩ := b10 k hkk
      obtain ⟨rk, -, -⟩ := hB.2.2.2.2.1 k hkk
      rw [b1, b5, Int.toNat_natCast, Int.toNat_natCast, Int.toNat_natCast]
      refine ok_sb (ok_ck b2 (ok_ck (by rw [b3]; exact inN (by omega) (by decide)) ?_))
      rw [p1]
      refine ok_sb (ok_ck p3 (ok_ck (by rw [p4]; exact inN hx (by omega)) (ok_sb (ok_ck b2 (ok_ck (by rw [b3]; exact inN (by omega) (by decide)) ?_)))))
      rw [p1]
      refine ok_sb (ok_ck p3 (ok_ck (by rw [p4]; exact inN hy (by omega)) ?_))
      rw [p5 x hx, p5 y hy]
      have l1 : ∀ c, 0 ≤ lrk (R k c) (G k) ∧ lrk (R k c) (G k) ≤ 9 := fun c => by
        have := rk.2.2.1
        unfold lrk
        by_cases z : R k c < G k
        · rw [if_pos z]; omega
        · rw [if_neg z]; decide
      have lx := l1 x
      have ly := l1 y
      have cmp := lrk_lt (rk.2.2.2.2.2.1 x hx) (rk.2.2.2.2.2.1 y hy) (show G k ≤ 8 by have := rk.2.2.1; omega)
      refine ok_ck ⟨by omega, by omega⟩ (ok_ck ⟨by omega, by omega⟩ (ok_if (fun z => ?_) (fun z => ok_sb (ok_ck b6 (ok_ck (by rw [b7]; exact inN (by omega) (by decide)) ?_)))))
      · refine ok_some (ok_go rfl ⟨⟨k + 1, c1 k, by omega, ?_⟩, cnt hkk⟩)
        show a + 0 = _
        rw [sN_succ, ha, ind_f (fun q2 => by have := cmp.mpr q2; omega), Int.mul_zero]
      · refine ok_some (ok_go rfl ⟨⟨k + 1, c1 k, by omega, ?_⟩, cnt hkk⟩)
        show a + M pm k = _
        rw [sN_succ, ha, b9 k hkk, ind_t (cmp.mp (by omega)), Int.mul_one]
  · rintro ⟨t, a, b⟩ ⟨g1, g2⟩
    exact ok_ck g1 (ok_some g2)
