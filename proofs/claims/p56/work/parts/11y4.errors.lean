/-! ERRORS: none -/
theorem unjust0_ok {E : Ev} {M : Mm} (hL : Lay E) (h : M 53 = fun _ => 0) : Ok (f_Li_isUnjust E M) (fun x => x = 0) := by
  have hks := ks_at hL 0 (by decide)
  have hq : isIA E (74 + 5 * 0 + 2) := ⟨isKs_i2 hks, by rw [isKs_t2 hks]⟩
  have e0 : M 53 0 = 0 := by rw [h]
  unfold f_Li_isUnjust f_Li_latest
  rw [show M 53 10 = ((0 : Nat) : Int) by rw [h]; rfl, ck_i (inN (by decide) (by decide)), Int.toNat_natCast]
  refine ok_sb (ok_ck hks (ok_bm (R := fun a => a.1 = 2) ?_ ?_))
  · refine L_Li_isUnjust_10 E (74 + 5 * 0 + 2) M (I := fun x => x = 0) (μ := fun _ => 0) ?_ FU 0 rfl (by decide)
    rintro x rfl
    unfold Li_isUnjust_10b
    rw [e0]
    exact ok_ck hq (ok_ck (by decide) (ok_ck (by decide) (ok_if (fun _ => ok_some (ok_out (by show (2 : Nat) ≠ 0; decide) rfl)) (fun z => absurd (Int.le_refl 0) z))))
  · rintro ⟨t, x⟩ gr
    have g : t = 2 := gr
    subst g
    exact ok_if (fun z => absurd z (by decide)) (fun _ => ok_if (fun _ => ok_some rfl) (fun z => absurd rfl z))
theorem missed_ok {E : Ev} {M : Mm} {n kk : Nat} {C : Nat → Int} {G : Nat → Nat} {R : Nat → Nat → Nat} {A : Nat → Nat} (hL : Lay E) (h : BX M n kk C G R A) (h1 : 1 ≤ n) : Ok (f_B_isBeaterOfAllMissed E M) (fun r => r.1 = 0 ∧ Off oP2 M r.2) := by
  have hn := h.2.1
  unfold f_B_isBeaterOfAllMissed
  rw [everybody_eq h.1 hn]
  refine ok_sb (ok_bm (open_pd hL h) ?_)
  rintro N ⟨o1, -, o2, o3, -⟩
  refine ok_bm (beaterOfAll_ok hL o2 o3) ?_
  rintro ⟨x, K⟩ ⟨k1r, k2r⟩
  have k1 : Off (fun i => i = 46) N K := k1r
  have oK : Off oP2 M K := o1.trans (Off.mono k1 fun c hc => by unfold oP2; omega)
  have pK : PD K n (dB kk C R) := o2.off k1 (by decide) (by decide)
  have qK : K 41 1 = ((2 ^ n - 1 : Nat) : Int) := by rw [k1 41 (by decide)]; exact o3
  rcases k2r with ⟨exr, -⟩ | ⟨c, exr, hc, hb⟩
  · have ex : x = -1 := exr
    subst ex
    exact ok_ck (by decide) (ok_if (fun _ => ok_some ⟨rfl, oK⟩) (fun z => absurd rfl z))
  · have ex : x = (c : Int) := exr
    subst ex
    refine ok_ck (rgN (by omega)) (ok_if (fun z => by omega) (fun _ => ok_bm (findDistances_ok pK qK) ?_))
    rintro L ⟨l1, D, l2, l3⟩
    have pL : PD L n (dB kk C R) := pK.off l1 (by decide) (by decide)
    have qL : L 41 1 = ((2 ^ n - 1 : Nat) : Int) := by rw [l1 41 (by decide)]; exact qK
    refine ok_bm (winners_ok hL pL qL) ?_
    rintro ⟨w, W⟩ ⟨w1r, P, w2, -, V, w4r, w5, w6⟩
    have w1 : Off (fun i => i = 47) L W := w1r
    have w4 : w = (V : Int) := w4r
    have eV := win_one w2 (fun a b ha hb => (pL.2.2.2 a b ha hb).1) hc hb w5 w6
    subst w4 eV
    have hpw := pow_lt hn
    have hpc := Nat.pow_lt_pow_right (a := 2) (by decide) hc
    have oW : Off oP2 M W := (oK.trans (l1.mono fun c hc => by unfold oP2; omega)).trans (w1.mono fun c hc => by unfold oP2; omega)
    have pW : PD W n (dB kk C R) := pL.off w1 (by decide) (by decide)
    have qW : W 41 1 = ((2 ^ n - 1 : Nat) : Int) := by rw [w1 41 (by decide)]; exact qL
    rw [Int.toNat_natCast, p2]
    refine ok_ck ⟨by omega, by omega⟩ (ok_ck (rgN (by omega)) (ok_ck (rgN (by omega)) (ok_if (fun _ => ok_bm (place_ok (i := 0) pW qW l2 (fun S hS => by rw [w1 50 (by decide)]; exact l3 S hS) (by omega)) ?_) (fun z => absurd rfl z))))
    rintro r rfl
    rw [lead0 hn l2 hc hb]
    exact ok_ck (rgN (by omega)) (ok_if (fun _ => ok_some ⟨rfl, oW⟩) (fun z => absurd rfl z))
/-- a kept number of a count: moment s, place c -/
def MV (M : Mm) (p s c : Nat) : Int := Sg (fun i => M (p + 4) ((s * 10 + c) * 13 + i)) 13
/-- what the count left -/
def TCx (n kk : Nat) (C : Nat → Int) (R : Nat → Nat → Nat) (E : Ev) (M : Mm) (j p el ex : Nat) (q B : Int) (eo : Nat → Nat) : Prop := j < 21 ∧ M 179 2 = (j : Int) ∧ rE E 180 j = some p ∧ isCt E p ∧ 250 ≤ p ∧ M p 0 = q ∧ (1 ≤ q ∧ q ≤ 1000001) ∧ M p 1 = (n : Int) ∧ M p 2 = (kk : Int) ∧ M p 3 = B ∧ (0 ≤ B ∧ B ≤ 1000000) ∧ M p 4 = (el : Int) ∧ el ≤ 3 ∧ M p 5 = (ex : Int) ∧ el + ex ≤ 8 ∧ (∀ k, k < kk → M (p + 1) k = C k) ∧ (∀ i, i < el → M (p + 2) i = (eo i : Int) ∧ eo i < n) ∧ (∀ s, s ≤ el + ex → (∀ c, c < 10 → Lr (fun i => M (p + 4) ((s * 10 + c) * 13 + i)) 13) ∧ sN (fun c => MV M p s c) 9 = MV M p s 9 * B ∧ MV M p s 9 * B < pB 13) ∧ (∀ S, 1 ≤ S → S < 2 ^ n → min (Vs kk C R n S / q) (cS S n) ≤ cS (S &&& wu eo el) n) ∧ (∀ k, k < kk → 0 ≤ C k) ∧ sN C kk ≤ 1000000
def TC (n kk : Nat) (C : Nat → Int) (_G : Nat → Nat) (R : Nat → Nat → Nat) (E : Ev) (M : Mm) : Prop := (∃ j p el ex q B eo, TCx n kk C R E M j p el ex q B eo) ∧ M 53 = (fun _ => 0) ∧ M 243 = va_up (fun _ => 0) 1 1 ∧ M 244 = (fun _ => 0) ∧ M 245 = fun _ => 0
theorem TC_keeps (n kk : Nat) (C : Nat → Int) (G : Nat → Nat) (R : Nat → Nat → Nat) : Kp (TC n kk C G R) := fun E F M N h hg ho => by
  obtain ⟨⟨j, p, el, ex, q, B, eo, h1, h2, h3, h4, h5, h6, h7, h8, h9, h10, h11, h12, h13, h14, h15, h16, h17, h18, h19, h20, h21⟩, z1, z2, z3, z4⟩ := h
  have hp := h4.1
  have h180 : 180 < nE E := by omega
  obtain ⟨i0, i1, i2, i3, i4, i5, i6, i7, i8, i9⟩ := h4
  have t : ∀ i, i < nE E → tE F i = tE E i := fun i hi => hg.1.2 i hi
  have r : ∀ k, rE F p k = rE E p k := fun k => hg.2 p (Nat.zero_le _) (by omega) k
  have m : ∀ c, c = p ∨ c = p + 1 ∨ c = p + 2 ∨ c = p + 4 → N c = M c := fun c hc => ho c (by omega)
  have nn : nE E ≤ nE F := hg.1.1
  refine ⟨⟨j, p, el, ex, q, B, eo, h1, by rw [ho 179 (by omega)]; exact h2, by rw [hg.2 180 (Nat.zero_le _) h180]; exact h3, ⟨by omega, by rw [t p (by omega)]; exact i1, by rw [r]; exact i2, by rw [r]; exact i3, by rw [r]; exact i4, by rw [r]; exact i5, by rw [t _ (by omega)]; exact i6, by rw [t _ (by omega)]; exact i7, by rw [t _ (by omega)]; exact i8, by rw [t _ (by omega)]; exact i9⟩, h5, by rw [m p (Or.inl rfl)]; exact h6, h7, by rw [m p (Or.inl rfl)]; exact h8, by rw [m p (Or.inl rfl)]; exact h9, by rw [m p (Or.inl rfl)]; exact h10, h11, by rw [m p (Or.inl rfl)]; exact h12, h13, by rw [m p (Or.inl rfl)]; exact h14, h15, fun k hk => by rw [m (p + 1) (Or.inr (Or.inl rfl))]; exact h16 k hk, fun i hi => by rw [m (p + 2) (Or.inr (Or.inr (Or.inl rfl)))]; exact h17 i hi, fun s hs => ?_, h19, h20, h21⟩, by rw [ho 53 (by omega)]; exact z1, by rw [ho 243 (by omega)]; exact z2, by rw [ho 244 (by omega)]; exact z3, by rw [ho 245 (by omega)]; exact z4⟩
  have e4 := m (p + 4) (Or.inr (Or.inr (Or.inr rfl)))
  unfold MV
  rw [e4]
  exact h18 s hs
