def LZ (E : Ev) (M : Mm) (q kk : Nat) : Prop := ∃ pm, rE E q 2 = some pm ∧ ∀ k, kk ≤ k → k < 12 → M pm k = 0
theorem lrk_9 {r g : Nat} (hr : r ≤ g) (hg : g ≤ 5) (h : 9 ≤ lrk r g) : r = g := by
  unfold lrk at h
  by_cases c : r < g
  · rw [if_pos c] at h; omega
  · omega
theorem lrk_r {r g : Nat} (h : ¬ 9 ≤ lrk r g) : lrk r g = (r : Int) := by
  unfold lrk at h ⊢
  by_cases c : r < g
  · rw [if_pos c]
  · rw [if_neg c] at h
    exact absurd (Int.le_refl 9) h
theorem lrk_b (r g : Nat) (hg : g ≤ 5) : 0 ≤ lrk r g ∧ lrk r g ≤ 9 := by
  unfold lrk
  by_cases c : r < g
  · rw [if_pos c]; omega
  · rw [if_neg c]; decide
theorem j322_ok {E : Ev} {M : Mm} {q1 q3 pr pm p n kk j kw x7 : Nat} {C : Nat → Int} {G : Nat → Nat} {R : Nat → Nat → Nat} {A : Nat → Nat} {x9 : Int} (hL : Lay E) (hq1 : isO 12 E q1) (hq2 : 250 ≤ q1) (hq0 : M q1 0 = (n : Int)) (hpr : rE E q1 1 = some pr) (hpr1 : isQ 6 E pr) (hpr2 : (tE E pr).2 = 12) (hpm : rE E q1 2 = some pm) (hpm1 : isIA E pm) (hpm2 : (tE E pm).2 = 12) (hpm3 : 250 ≤ pm) (hp : rE E pr j = some p) (hp1 : isIA E p) (hp2 : (tE E p).2 = n) (hpc : ∀ c, c < n → M p c = lrk (R j c) (G j)) (hq3 : isIA E q3) (hq32 : (tE E q3).2 = n) (hq3c : ∀ c, c < n → M q3 c = lrk (R j c) (G j)) (hB : BX M n kk C G R A) (hj : j < kk) (hj12 : j < 12) (hn : n ≤ 5) (hC : M pm j + x9 = C j) (hx7 : x7 ≤ 5) (hg0 : kw = 0 → G j = 0) (hg1 : kw ≠ 0 → G j = x7 + 1) (hkw : kw ≤ 5) : Ok (La_ballots_j322 E M q1 q3 (kw : Int) (x7 : Int) x9 (j : Int)) (fun r => r.1 = 1 ∧ r.2.1 = E ∧ r.2.2 = u2 M pm j (C j)) := by
  have hkk := hB.2.2.2.1
  have np : pm ≠ p := fun e => by rw [e, hp2] at hpm2; omega
  have nq : pm ≠ q3 := fun e => by rw [e, hq32] at hpm2; omega
  have n1 : pm ≠ q1 := fun e => by have := hpm1.2; rw [e, hq1.2] at this; exact absurd this (by decide)
  have cj := (hB.2.2.2.2.1 j hj).2.1
  have cj0 := (hB.2.2.2.2.1 j hj).2.2
  have cjs := sN_term (f := C) (fun i hi => (hB.2.2.2.2.1 i hi).2.2) hj
  have hsum := hB.2.2.2.2.2
  have hB2 : BX (u2 M pm j (C j)) n kk C G R A := hB.off (S := fun c => c = pm) (Off.refl.u2 rfl) (by omega) (by omega) (by omega) (by omega) (fun k hk => by omega)
  have rk := (hB.2.2.2.2.1 j hj).1
  unfold La_ballots_j322
  refine ok_ck hL (ok_ck hq1 (ok_ck hq3 ?_))
  rw [hpm]
  refine ok_sb (ok_ck hpm1 (ok_ck (by rw [hpm2]; exact inN hj12 (by decide)) ?_))
  rw [Int.toNat_natCast, hC]
  refine ok_bm (R := fun r => r = C j) ?_ ?_
  · unfold f_B_countOf
    rw [hB2.2.2.1, needIndex_ok (by omega) (by omega) (by omega), Int.toNat_natCast]
    exact ok_sb (ok_ck (inN (by omega) (by decide)) (ok_some (hB2.2.2.2.2.1 j hj).2.1))
  · rintro r rfl
    refine ok_sb (ok_ck hpm1 (ok_ck (by rw [hpm2]; exact inN hj12 (by decide)) (ok_ck ⟨by omega, by omega⟩ (ok_ck (by rw [u2_at]; exact ⟨by omega, by omega⟩) (ok_if (fun _ => ?_) (fun z => absurd (u2_at _ _ _ _).symm z))))))
    refine ok_bm (R := fun r => r.1 = 1 ∧ r.2.1 = 1 ∧ r.2.2.2.1 = E ∧ r.2.2.2.2 = u2 M pm j (C j)) ?_ ?_
    · refine L_La_ballots_360 q1 q3 (kw : Int) (x7 : Int) (j : Int) (I := fun F N x11 x12 => F = E ∧ N = u2 M pm j (C j) ∧ x11 = 1 ∧ ∃ c : Nat, x12 = (c : Int) ∧ c ≤ n) (μ := fun _ _ _ x12 => n - x12.toNat) ?_ 5000 E _ 1 0 ⟨rfl, rfl, rfl, 0, rfl, Nat.zero_le _⟩ (by show n - _ < 5000; omega)
      rintro F N x11 x12 ⟨rfl, rfl, rfl, c, rfl, hc⟩
      unfold La_ballots_360b
      have e0 : u2 M pm j (C j) q1 0 = (n : Int) := by rw [u2_ne (Or.inl (fun e => n1 e.symm))]; exact hq0
      rw [e0]
      refine ok_ck hL (ok_ck hq1 (ok_ck hq3 (ok_ck (rgN (by omega)) (ok_ck (rgN (by omega)) (ok_if (fun z => ok_some (ok_out ne0 ⟨rfl, rfl, rfl, rfl⟩)) (fun z => ?_))))))
      have hcn : c < n := by omega
      have rc := rk.2.2.2.2.2.1 c hcn
      have rg := rk.2.2.1
      have lb := lrk_b (R j c) (G j) (by omega)
      refine ok_bm (kindAt_ok hB2 hj hcn) ?_
      rintro r rfl
      rw [hpr]
      refine ok_ck (by decide) (ok_if (fun z => absurd z (by decide)) (fun _ => ok_sb (ok_ck hpr1 (ok_ck (by rw [hpr2]; exact inN hj12 (by decide)) ?_))))
      rw [Int.toNat_natCast, hp]
      have ep : u2 M pm j (C j) p c = lrk (R j c) (G j) := by rw [u2_ne (Or.inl (fun e => np e.symm))]; exact hpc c hcn
      have e3 : u2 M pm j (C j) q3 c = lrk (R j c) (G j) := by rw [u2_ne (Or.inl (fun e => nq e.symm))]; exact hq3c c hcn
      have done : Ok (some (0, 1, (c : Int) + 1, F, u2 M pm j (C j)) : Option (Nat × Int × Int × Ev × Mm)) (fun r => (r.1 = 0 → (r.2.2.2.1 = F ∧ r.2.2.2.2 = u2 M pm j (C j) ∧ r.2.1 = 1 ∧ ∃ c : Nat, r.2.2.1 = (c : Int) ∧ c ≤ n) ∧ n - r.2.2.1.toNat < n - (c : Int).toNat) ∧ (r.1 ≠ 0 → r.1 = 1 ∧ r.2.1 = 1 ∧ r.2.2.2.1 = F ∧ r.2.2.2.2 = u2 M pm j (C j))) := ok_some (ok_go rfl ⟨⟨rfl, rfl, rfl, c + 1, rfl, by omega⟩, cnt hcn⟩)
      have j438 : ∀ y0 : Int, y0 = (R j c : Int) → Ok (La_ballots_j438 F (u2 M pm j (C j)) q1 q3 (kw : Int) (x7 : Int) (j : Int) (c : Int) y0 (R j c : Int)) (fun r => (r.1 = 0 → (r.2.2.2.1 = F ∧ r.2.2.2.2 = u2 M pm j (C j) ∧ r.2.1 = 1 ∧ ∃ c : Nat, r.2.2.1 = (c : Int) ∧ c ≤ n) ∧ n - r.2.2.1.toNat < n - (c : Int).toNat) ∧ (r.1 ≠ 0 → r.1 = 1 ∧ r.2.1 = 1 ∧ r.2.2.2.1 = F ∧ r.2.2.2.2 = u2 M pm j (C j))) := fun y0 ey => by
        unfold La_ballots_j438
        exact ok_ck hL (ok_ck hq1 (ok_ck hq3 (ok_ck (rgN (by omega)) (ok_ck (by rw [ey]; exact rgN (by omega)) (ok_if (fun _ => done) (fun z => absurd ey.symm z))))))
      refine ok_sb (ok_ck hp1 (ok_ck (by rw [hp2]; exact inN hcn (by omega)) (ok_ck (by rw [hq32]; exact inN hcn (by omega)) ?_)))
      rw [Int.toNat_natCast, ep, e3]
      refine ok_ck ⟨by omega, by omega⟩ (ok_ck ⟨by omega, by omega⟩ (ok_if (fun _ => ok_if (fun z9 => ?_) (fun z9 => ?_)) (fun z => absurd rfl z)))
      · have e := lrk_9 rc (by omega) z9
        refine ok_ck (rgN (by omega)) (ok_if (fun k0 => j438 0 ?_) (fun k0 => j438 _ ?_))
        · have := hg0 (by omega)
          omega
        · have := hg1 (by omega)
          omega
      · refine ok_ck (rgN (by omega)) (ok_if (fun _ => done) (fun z => absurd (lrk_r z9).symm z))
    · rintro ⟨t, x11, x12, F, N⟩ ⟨g1r, g2r, g3r, g4r⟩
      have g1 : t = 1 := g1r
      have g2 : x11 = 1 := g2r
      have g3 : F = E := g3r
      have g4 : N = u2 M pm j (C j) := g4r
      subst g1 g2 g3 g4
      exact ok_ck (gw_self F) (ok_ck hL (ok_ck rfl (ok_ck (Or.inr rfl) (ok_some ⟨rfl, rfl, rfl⟩))))
def oLw (c : Nat) : Prop := c = 0 ∨ c = 3 ∨ oBa c ∨ 250 ≤ c
/-- grown, the rows of counts and of weights as they were -/
def Gz (E F : Ev) : Prop := Gw E F ∧ rE F 180 = rE E 180 ∧ rE F 181 = rE E 181
theorem Gz.refl (E : Ev) : Gz E E := ⟨gw_self E, rfl, rfl⟩
theorem Gz.trans {E F H : Ev} (h : Gz E F) (g : Gz F H) : Gz E H := ⟨gw_trans h.1 g.1, g.2.1.trans h.2.1, g.2.2.trans h.2.2⟩
theorem Gz.ge {E F : Ev} (h250 : 250 ≤ nE E) (h : Ge E F) : Gz E F := ⟨h.1, funext fun k => h.2 180 (Nat.zero_le _) (by omega) k, funext fun k => h.2 181 (Nat.zero_le _) (by omega) k⟩
/-- what a drawn ballot leaves -/
def LW (E : Ev) (M : Mm) (q1 n kk : Nat) (S : Int) (r : Int × Ev × Mm) : Prop := r.1 = 1 ∧ Gz E r.2.1 ∧ Lay r.2.1 ∧ Off oLw M r.2.2 ∧ Ring r.2.2 ∧ r.2.2 2 1 = 0 ∧ ∃ kk' C' G' R' A', kk' ≤ kk + 1 ∧ sN C' kk' ≤ S + 900 ∧ BX r.2.2 n kk' C' G' R' A' ∧ LB r.2.1 r.2.2 q1 n kk' C' G' R' ∧ LZ r.2.1 r.2.2 q1 kk'
theorem j265_ok {E0 E : Ev} {M0 M : Mm} {q1 q3 n kk kw : Nat} {C : Nat → Int} {G : Nat → Nat} {R : Nat → Nat → Nat} {A : Nat → Nat} {o sp : Nat → Nat} {y0 : Int} (hE : Gz E0 E) (hM : Off oLw M0 M) (hL : Lay E) (hB : BX M n kk C G R A) (hLB : LB E M q1 n kk C G R) (hz : LZ E M q1 kk) (hr : Ring M) (hk : kk ≤ 10) (hs : sN C kk ≤ 100000) (hn : n ≤ 5) (hy0 : 0 < y0) (hy1 : y0 ≤ 900) (hW : WT n kw o sp) (hT : M 2 1 = ((2 * kw - 1 : Nat) : Int)) (hs3 : ∀ i, i < 2 * kw - 1 → M 3 i = (tx o sp i : Int)) (hq3 : isIA E q3) (hq30 : 250 ≤ q3) (hq32 : (tE E q3).2 = n) (d1 : ∀ j, j < kw → M q3 (o j) = (wr sp j : Int)) (d2 : ∀ c, c < n → (∀ j, j < kw → o j ≠ c) → M q3 c = 9) : Ok (La_ballots_j265 E M q1 q3 (kw : Int) (wr sp (kw - 1) : Int) y0 0 1) (LW E0 M0 q1 n kk (sN C kk)) := by
  have hkw := hW.1
  obtain ⟨a1, a2, a3, a4, a5, pr, pm, b1, b2, b3, b4, b5, b6, b7, b8, b9, b10⟩ := hLB
  unfold La_ballots_j265
  refine ok_ck hL (ok_ck a1 (ok_ck hq3 (ok_ck ⟨yi_0 hL, by rw [yt_0 hL]⟩ (ok_bm (next_ok ⟨yi_0 hL, by rw [yt_0 hL]⟩ (by rw [yt_0 hL]) hy0 (by omega)) ?_))))
  rintro ⟨x, K⟩ ⟨⟨x1r, x2r⟩, k1r⟩
  have x1 : 0 ≤ x := x1r
  have x2 : x < y0 := x2r
  have k1 : Off (fun c => c = 0) M K := k1r
  have hBK : BX K n kk C G R A := hB.off k1 (by decide) (by decide) (by decide) (by decide) (fun k hk => by omega)
  refine ok_bm (ballots_ok hL hBK (hr.of (k1 1 (by decide))) hW (by rw [k1 2 (by decide)]; exact hT) (fun i hi => by rw [k1 3 (by decide)]; exact hs3 i hi) (show 1 ≤ 1 + x by omega) (by omega) (by omega) (by omega)) ?_
  rintro ⟨v, N⟩ ⟨n1r, n2r, -, n4r, n5r⟩
  have n1 : Off oBa K N := n1r
  have n2 : Ring N := n2r
  have n4 : N 2 1 = 0 := n4r
  have oN : Off oLw M0 N := (hM.trans (k1.mono fun c hc => Or.inl hc)).trans (n1.mono fun c hc => Or.inr (Or.inr (Or.inl hc)))
  have hi : ∀ c, 250 ≤ c → N c = M c := fun c hc => by rw [n1 c (by unfold oBa; omega), k1 c (by omega)]
  have eq0 : N q1 0 = (n : Int) := by rw [hi q1 a2]; exact a3
  have eq3 : N q1 3 = (kk : Int) := by rw [hi q1 a2]; exact a4
  have wl7 := wr_le sp (kw - 1)
  have g0 : kw = 0 → wc sp kw = 0 := fun e => by rw [e]; rfl
  have g1 : kw ≠ 0 → wc sp kw = wr sp (kw - 1) + 1 := fun e => by
    obtain ⟨l, rfl⟩ : ∃ l, kw = l + 1 := ⟨kw - 1, by omega⟩
    rfl
  have q3c : ∀ c, c < n → N q3 c = lrk (wRr o sp (wc sp kw) kw c) (wc sp kw) := fun c hc => by
    rw [hi q3 hq30]
    rcases wR_or (sp := sp) (G := wc sp kw) hW.2.2.1 c kw (Nat.le_refl _) with ⟨j, j1, j2, j3⟩ | ⟨j1, j2⟩
    · rw [j3, ← j2, d1 j j1]
      unfold lrk
      rw [if_pos (wc_lt sp j1)]
    · rw [j2, d2 c hc j1]
      unfold lrk
      rw [if_neg (Nat.lt_irrefl _)]
  obtain ⟨pm', hz1, hz2⟩ := hz
  have epm : pm' = pm := by rw [b5] at hz1; exact (Option.some.inj hz1).symm
  subst epm
  have nq1 : pm' ≠ q1 := fun e => by have := b6.2; rw [e, a1.2] at this; exact absurd this (by decide)
  rcases n5r with ⟨j, ejr, j1, j2, j3, j4, j5r, -⟩ | ⟨ejr, j5r, -⟩
  · have ej : v = (j : Int) := ejr
    have j5 : BX N n kk (plC C j (1 + x)) G R A := j5r
    subst ej
    obtain ⟨p, p1, p2, p3, p4, p5⟩ := b10 j j1
    refine ok_ck (rgN (by omega)) (ok_if (fun z => by omega) (fun _ => ?_))
    rw [eq3]
    refine ok_ck (rgN (by omega)) (ok_if (fun _ => ok_if (fun z => by omega) (fun _ => ?_)) (fun z => by omega))
    refine (j322_ok (x9 := 1 + x) hL a1 a2 eq0 b1 b2 b3 b5 b6 b7 b8 p1 p3 p4 (fun c hc => by rw [hi p p2]; exact p5 c hc) hq3 hq32 (fun c hc => by rw [q3c c hc, ← j4 c hc, j2]) j5 j1 (by omega) hn (by rw [hi pm' b8, b9 j j1]; unfold plC; rw [if_pos rfl]) (by omega) (fun e => by rw [j2]; exact g0 e) (fun e => by rw [j2]; exact g1 e) (by omega)).mono ?_
    rintro ⟨r, F, Z⟩ ⟨r1r, r2r, r3r⟩
    have r2 : F = E := r2r
    have r3 : Z = u2 N pm' j (plC C j (1 + x) j) := r3r
    subst r2 r3
    have oo : Off (fun c => c = pm') N (u2 N pm' j (plC C j (1 + x) j)) := Off.refl.u2 rfl
    refine ⟨r1r, hE, hL, oN.trans (oo.mono fun c hc => Or.inr (Or.inr (Or.inr (by omega)))), n2.of (oo 1 (by omega)), by show u2 N pm' j _ 2 1 = 0; rw [u2_ne (Or.inl (by omega))]; exact n4, kk, plC C j (1 + x), G, R, A, by omega, by rw [plC_sum j1]; omega, j5.off oo (by omega) (by omega) (by omega) (by omega) (fun k hk => by omega), ⟨a1, a2, ?_, ?_, a5, pr, pm', b1, b2, b3, b4, b5, b6, b7, b8, fun k hk => ?_, fun k hk => ?_⟩, pm', b5, fun k h1 h2 => ?_⟩
    · show u2 N pm' j _ q1 0 = _
      rw [u2_ne (Or.inl (fun e => nq1 e.symm))]; exact eq0
    · show u2 N pm' j _ q1 3 = _
      rw [u2_ne (Or.inl (fun e => nq1 e.symm))]; exact eq3
    · show u2 N pm' j _ pm' k = _
      rw [u2_if]
      by_cases e : k = j
      · rw [if_pos ⟨rfl, e⟩, e]
      · rw [if_neg (fun z => e z.2), hi pm' b8, b9 k hk]
        unfold plC
        rw [if_neg e]
    · obtain ⟨p, p1, p2, p3, p4, p5⟩ := b10 k hk
      refine ⟨p, p1, p2, p3, p4, fun c hc => ?_⟩
      show u2 N pm' j _ p c = _
      have : p ≠ pm' := fun e => by rw [e, b7] at p4; omega
      rw [u2_ne (Or.inl this), hi p p2]; exact p5 c hc
    · show u2 N pm' j _ pm' k = 0
      rw [u2_ne (Or.inr (by omega)), hi pm' b8]; exact hz2 k h1 h2
  · have ej : v = (kk : Int) := ejr
    have j5 : BX N n (kk + 1) (nw kk (1 + x) C) (nw kk (wc sp kw) G) (nw kk (wRr o sp (wc sp kw) kw) R) (nw kk (apv o sp kw) A) := j5r
    subst ej
    have npr : pr ≠ q1 := fun e => by have := b2.2; rw [e, a1.2] at this; exact absurd this (by decide)
    have hLF : Lay (eRef E pr kk q3) := lay_ref hL b4
    have gF := gw_ref E pr kk q3
    have tF : ∀ i, tE (eRef E pr kk q3) i = tE E i := fun i => by rw [tE_ref]
    have nF' : nE (eRef E pr kk q3) = nE E := nE_ref E pr kk q3
    have rF : ∀ i, i ≠ pr → rE (eRef E pr kk q3) i = rE E i := fun i hi => by rw [rE_ref hq3.1, va_up_ne _ _ hi]
    have rFk : ∀ k, rE (eRef E pr kk q3) pr k = if k = kk then some q3 else rE E pr k := fun k => by
      rw [rE_ref hq3.1, va_up_self]
      by_cases e : k = kk
      · rw [if_pos e, e, va_up_self]
      · rw [if_neg e, va_up_ne _ _ e]
    have oF : isO 12 (eRef E pr kk q3) q1 := ⟨by rw [nF']; exact a1.1, by rw [tF]; exact a1.2⟩
    have prF : isQ 6 (eRef E pr kk q3) pr := ⟨by rw [nF']; exact b2.1, by rw [tF]; exact b2.2⟩
    have pmF : isIA (eRef E pr kk q3) pm' := ⟨by rw [nF']; exact b6.1, by rw [tF]; exact b6.2⟩
    have q3F : isIA (eRef E pr kk q3) q3 := ⟨by rw [nF']; exact hq3.1, by rw [tF]; exact hq3.2⟩
    obtain ⟨P, hP⟩ : ∃ P, P = u2 N q1 3 ((kk : Int) + 1) := ⟨_, rfl⟩
    have oP : Off (fun c => c = q1) N P := by rw [hP]; exact Off.refl.u2 rfl
    have nq31 : q3 ≠ q1 := fun e => by have := hq3.2; rw [e, a1.2] at this; exact absurd this (by decide)
    have P0 : P q1 0 = (n : Int) := by rw [hP, u2_ne (Or.inr (by decide))]; exact eq0
    have j6 : BX P n (kk + 1) (nw kk (1 + x) C) (nw kk (wc sp kw) G) (nw kk (wRr o sp (wc sp kw) kw) R) (nw kk (apv o sp kw) A) := j5.off oP (by omega) (by omega) (by omega) (by omega) (fun k hk => by omega)
    refine ok_ck (rgN (by omega)) (ok_if (fun z => by omega) (fun _ => ?_))
    rw [eq3, b1, Int.toNat_natCast, ← hP]
    refine ok_ck (rgN (by omega)) (ok_if (fun _ => ok_if (fun _ => ok_sb (ok_ck b2 (ok_ck (by rw [b3]; exact inN (by omega) (by decide)) (ok_nb (ok_ck hLF ?_))))) (fun z => absurd rfl z)) (fun z => absurd (Int.le_refl _) z))
    have ePq3 : ∀ c, c < n → P q3 c = lrk (nw kk (wRr o sp (wc sp kw) kw) R kk c) (nw kk (wc sp kw) G kk) := fun c hc => by
      rw [oP q3 nq31, q3c c hc, nw_at, nw_at]
    refine (j322_ok (x9 := 1 + x) (j := kk) (p := q3) hLF oF a2 P0 (by rw [rF q1 (fun e => npr e.symm)]; exact b1) prF (by rw [tF]; exact b3) (by rw [rF q1 (fun e => npr e.symm)]; exact b5) pmF (by rw [tF]; exact b7) b8 (by rw [rFk, if_pos rfl]) q3F (by rw [tF]; exact hq32) ePq3 q3F (by rw [tF]; exact hq32) ePq3 j6 (by omega) (by omega) hn (by rw [oP pm' nq1, hi pm' b8, hz2 kk (Nat.le_refl _) (by omega), nw_at]; omega) (by omega) (fun e => by rw [nw_at]; exact g0 e) (fun e => by rw [nw_at]; exact g1 e) (by omega)).mono ?_
    rintro ⟨r, F, Z⟩ ⟨r1r, r2r, r3r⟩
    have r2 : F = eRef E pr kk q3 := r2r
    have r3 : Z = u2 P pm' kk (nw kk (1 + x) C kk) := r3r
    subst r2 r3
    have oo : Off (fun c => c = pm') P (u2 P pm' kk (nw kk (1 + x) C kk)) := Off.refl.u2 rfl
    refine ⟨r1r, hE.trans ⟨gF, rF 180 (by omega), rF 181 (by omega)⟩, hLF, (oN.trans (oP.mono fun c hc => Or.inr (Or.inr (Or.inr (by omega))))).trans (oo.mono fun c hc => Or.inr (Or.inr (Or.inr (by omega)))), (n2.of (oP 1 (by omega))).of (oo 1 (by omega)), ?_, kk + 1, _, _, _, _, Nat.le_refl _, by rw [nw_sum]; omega, j6.off oo (by omega) (by omega) (by omega) (by omega) (fun k hk => by omega), ⟨oF, a2, ?_, ?_, by omega, pr, pm', ?_, prF, by rw [tF]; exact b3, b4, ?_, pmF, by rw [tF]; exact b7, b8, fun k hk => ?_, fun k hk => ?_⟩, pm', ?_, fun k h1 h2 => ?_⟩
    · show u2 P pm' kk _ 2 1 = 0
      rw [u2_ne (Or.inl (by omega)), oP 2 (by omega)]; exact n4
    · show u2 P pm' kk _ q1 0 = _
      rw [u2_ne (Or.inl (fun e => nq1 e.symm))]; exact P0
    · show u2 P pm' kk _ q1 3 = _
      rw [u2_ne (Or.inl (fun e => nq1 e.symm)), hP, u2_at]; rfl
    · rw [rF q1 (fun e => npr e.symm)]; exact b1
    · rw [rF q1 (fun e => npr e.symm)]; exact b5
    · show u2 P pm' kk _ pm' k = _
      rw [u2_if]
      by_cases e : k = kk
      · rw [if_pos ⟨rfl, e⟩, e]
      · rw [if_neg (fun z => e z.2), oP pm' nq1, hi pm' b8, b9 k (by omega), nw_ne e]
    · by_cases e : k = kk
      · refine ⟨q3, by rw [rFk, if_pos e], hq30, q3F, by rw [tF]; exact hq32, fun c hc => ?_⟩
        show u2 P pm' kk _ q3 c = _
        have : q3 ≠ pm' := fun f => by rw [f, b7] at hq32; omega
        rw [u2_ne (Or.inl this), ePq3 c hc, e]
      · obtain ⟨p, p1, p2, p3, p4, p5⟩ := b10 k (by omega)
        refine ⟨p, by rw [rFk, if_neg e]; exact p1, p2, ⟨by rw [nF']; exact p3.1, by rw [tF]; exact p3.2⟩, by rw [tF]; exact p4, fun c hc => ?_⟩
        show u2 P pm' kk _ p c = _
        have h1 : p ≠ pm' := fun f => by rw [f, b7] at p4; omega
        have h2 : p ≠ q1 := fun f => by have := p3.2; rw [f, a1.2] at this; exact absurd this (by decide)
        rw [u2_ne (Or.inl h1), oP p h2, hi p p2, nw_ne e, nw_ne e]; exact p5 c hc
    · rw [rF q1 (fun e => npr e.symm)]; exact b5
    · show u2 P pm' kk _ pm' k = 0
      rw [u2_ne (Or.inr (by omega)), oP pm' nq1, hi pm' b8]; exact hz2 k (by omega) h2
