theorem MV_off {M N : Mm} {p s c : Nat} (h : N (p + 4) = M (p + 4)) : MV N p s c = MV M p s c := by
  unfold MV
  rw [h]
theorem t188_ok {n kk q1 : Nat} {C : Nat → Int} {G : Nat → Nat} {R : Nat → Nat → Nat} {A : Nat → Nat} {E : Ev} {M : Mm} {j p el ex : Nat} {q B : Int} {eo : Nat → Nat} (hL : Lay E) (hB : BX M n kk C G R A) (hLB : LB E M q1 n kk C G R) (hn : n ≤ 5) (h : TCx n kk C R E M j p el ex q B eo) (hz : SZ M p el ex) (hF : ∀ c, c < n → MV M p 0 c * 840 = FP kk C G R n c * MV M p 0 9) (hFb : ∀ c, c < n → 0 ≤ FP kk C G R n c ∧ FP kk C G R n c ≤ 10000000) (hMV : ∀ c, c < 9 → 0 ≤ MV M p 0 c) : Ok (l_La_transferable_188 q1 5000 E M 1 0) (fun r => r.1 = 1 ∧ r.2.1 = 1 ∧ r.2.2.2.1 = E ∧ Off oWr M r.2.2.2.2 ∧ ∀ k, k ≠ 13 → r.2.2.2.2 1 k = M 1 k) := by
  have hp := h.2.2.2.2.1
  have hpn := h.2.2.2.1.1
  refine L_La_transferable_188 q1 (I := fun F N x7 x8 => F = E ∧ x7 = 1 ∧ Off oWr M N ∧ (∀ k, k ≠ 13 → N 1 k = M 1 k) ∧ ∃ c : Nat, x8 = (c : Int) ∧ c ≤ n) (μ := fun _ _ _ x8 => n - x8.toNat) ?_ 5000 E M 1 0 ⟨rfl, rfl, Off.refl, fun _ _ => rfl, 0, rfl, Nat.zero_le _⟩ (by show n - _ < 5000; omega)
  rintro F N x7 x8 ⟨rfl, rfl, oN, n1, c, rfl, hc⟩
  have hBN : BX N n kk C G R A := hB.off oN (by unfold oWr; decide) (by unfold oWr; decide) (by unfold oWr; decide) (by unfold oWr; decide) (fun k hk => by unfold oWr; omega)
  have lbN : LB F N q1 n kk C G R := hLB.off oN (fun c h1 h2 => by unfold oWr; omega)
  have tN' : TCx n kk C R F N j p el ex q B eo := h.off oN (by unfold oWr; decide) (fun c h1 h2 => by unfold oWr; omega)
  have e4 : N (p + 4) = M (p + 4) := oN _ (by unfold oWr; omega)
  have zN : SZ N p el ex := fun s hs => by
    obtain ⟨b1, b2, b3⟩ := hz s hs
    exact ⟨by rw [MV_off e4]; exact b1, by rw [MV_off e4]; exact b2, fun c hc => by rw [MV_off e4]; exact b3 c hc⟩
  unfold La_transferable_188b
  rw [lbN.2.2.1]
  refine ok_ck hL (ok_ck lbN.1 (ok_ck (rgN (by omega)) (ok_ck (rgN (by omega)) (ok_if (fun z => ok_some (ok_out ne0 ⟨rfl, rfl, rfl, oN, n1⟩)) (fun z => ok_ck (by decide) (ok_if (fun w => absurd w (by decide)) (fun _ => ?_)))))))
  have hcn : c < n := by omega
  refine ok_bm (t208_ok hL lbN hBN hn hcn) ?_
  rintro ⟨t, x9, x11, F2, N2⟩ ⟨g1, g2r, g3r, g4r⟩
  have g2 : x9 = FP kk C G R n c := g2r
  have g3 : F2 = F := g3r
  have g4 : N2 = N := g4r
  subst g2 g3 g4
  refine ok_ck (gw_self _) (ok_ck hL (ok_ck g1 (ok_bm (writePile_ok (s := 0) (cN := c) hL hBN.1 hn tN' zN (Nat.zero_le _) (Or.inr ⟨rfl, hcn⟩)) ?_)))
  rintro ⟨r, K⟩ ⟨k1r, k2r, len, g, k3r, k4, k5r⟩
  have k1 : Off oWr N2 K := k1r
  have k2 : ∀ k, k ≠ 13 → K 1 k = N2 1 k := k2r
  have k3 : r = (len : Int) := k3r
  subst k3
  rw [MV_off e4, MV_off e4] at k4
  have k5 : OUT K len (MV M p 0 c / g) (MV M p 0 9 / g) := by
    have : OUT K len (MV N2 p 0 c / g) (MV N2 p 0 9 / g) := k5r
    rw [MV_off e4, MV_off e4] at this
    exact this
  obtain ⟨f1, f2, f3⟩ := frac_ok k4 (hz 0 (Nat.zero_le _)).1 (hMV c (by omega)) (hF c hcn)
  have fb := hFb c hcn
  have u0 : 0 ≤ MV M p 0 c / g := Int.ediv_nonneg (hMV c (by omega)) (Int.le_of_lt k4.1)
  obtain ⟨l, hl⟩ : ∃ l, l = MV M p 0 9 / g := ⟨_, rfl⟩
  obtain ⟨u, hu⟩ : ∃ u, u = MV M p 0 c / g := ⟨_, rfl⟩
  rw [← hl] at f1 f2 f3 k5
  rw [← hu] at f2 u0 k5
  have l840 : l ≤ 840 := by
    rcases Int.lt_or_le 840 l with w | w
    · rw [Int.emod_eq_of_lt (by decide) w] at f1
      exact absurd f1 (by decide)
    · exact w
  have q1' : 1 ≤ 840 / l := (Int.le_ediv_iff_mul_le f3).mpr (by omega)
  have ub : u ≤ FP kk C G R n c := by
    have := Int.mul_le_mul_of_nonneg_left q1' u0
    omega
  have h16 := out_len k5 (by omega) (by omega)
  refine ok_bm (reads_ok (E := F2) k5 f3) ?_
  rintro y ⟨y1, y2, y3⟩
  have ey := (y3 h16 f1).trans f2
  refine ok_ck y2 (ok_ck ⟨by omega, by omega⟩ (ok_if (fun _ => ok_some (ok_go rfl ⟨⟨rfl, rfl, oN.trans k1, fun k hk => (k2 k hk).trans (n1 k hk), c + 1, c1 c, by omega⟩, cnt hcn⟩)) (fun w => absurd ey w)))
theorem j335_ok {n kk : Nat} {C : Nat → Int} {R : Nat → Nat → Nat} {E : Ev} {M : Mm} {j p el ex : Nat} {q B : Int} {eo : Nat → Nat} (hL : Lay E) (h22 : M 2 2 = (n : Int)) (hn : n ≤ 5) (h : TCx n kk C R E M j p el ex q B eo) (hz : SZ M p el ex) : Ok (La_transferable_j335 E M 1) (fun r => r.1 = 1 ∧ r.2.1 = E ∧ Off oWr M r.2.2 ∧ ∀ k, k ≠ 13 → r.2.2 1 k = M 1 k) := by
  unfold La_transferable_j335
  refine ok_ck hL (ok_ck (by decide) (ok_if (fun w => absurd w (by decide)) (fun _ => ok_bm (steps_ok h) ?_)))
  rintro r rfl
  refine ok_bm (writePile_ok (s := el + ex) (cN := 8) hL h22 hn h hz (Nat.le_refl _) (Or.inl ⟨rfl, rfl⟩)) ?_
  rintro ⟨r, K⟩ ⟨k1r, k2r, len, g, k3r, k4, k5r⟩
  have k3 : r = (len : Int) := k3r
  subst k3
  have lp : 0 < MV M p (el + ex) 9 / g := by
    have d0 := (hz _ (Nat.le_refl _)).1
    obtain ⟨gp, -, ⟨l, el'⟩, -⟩ := k4
    rw [el', Int.mul_ediv_cancel_left _ (show g ≠ 0 by omega)]
    rcases Int.lt_or_le 0 l with w | w
    · exact w
    · have := Int.mul_le_mul_of_nonneg_left w (Int.le_of_lt gp)
      omega
  refine ok_bm (reads_ok (E := E) k5r lp) ?_
  rintro y ⟨y1, y2, -⟩
  exact ok_ck y2 (ok_if (fun w => by omega) (fun _ => ok_some ⟨rfl, rfl, k1r, k2r⟩))
