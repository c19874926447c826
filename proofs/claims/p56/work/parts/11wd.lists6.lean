/-! THE LISTS' ERRORS; errors() ON A HOUSE WITHOUT CANDIDATES, COUNTS AND MEMBERS -/
theorem asThen_ok {E : Ev} {M : Mm} {n g K j l : Nat} {r : Int} (hL : Lay E) (hS : LiS M n) (h : KpS M j (M 54) (M 55) n g K r) (hl : l < n) : Ok (f_Li_isAsThen E M (l : Int)) (fun x => x = 0 ∨ (x = 1 ∧ M 55 l = 0)) := by
  obtain ⟨hj, h10, hn, -, -, -, h2, h34, -, -⟩ := h
  obtain ⟨e3, e4⟩ := h34 l hl
  obtain ⟨b1, b2, -⟩ := hS.2.2 l hl
  unfold f_Li_isAsThen f_Li_latest
  rw [h10, ck_i (inN hj (by decide)), Int.toNat_natCast]
  refine ok_sb (ok_ck (ks_at hL j hj) ?_)
  rw [h2, Int.toNat_natCast, e3, e4]
  refine ok_ck (rgN (by omega)) (ok_ck (rgN (by omega)) (ok_if (fun _ => ok_some (Or.inl rfl)) (fun _ => ok_ck (inN (by omega) (by decide)) (ok_ck ⟨by omega, by omega⟩ (ok_if (fun q => ?_) (fun _ => ok_some (Or.inl rfl)))))))
  refine ok_ck ⟨by omega, by omega⟩ (ok_if (fun _ => ?_) (fun _ => ok_some (Or.inl rfl)))
  exact ok_ck ⟨by omega, by omega⟩ (ok_ck ⟨by omega, by omega⟩ (ok_if (fun _ => ok_some (Or.inr ⟨rfl, q⟩)) (fun _ => ok_some (Or.inl rfl))))
theorem unjust_ok {E : Ev} {M : Mm} {n g K j : Nat} {r : Int} (hL : Lay E) (hS : LiS M n) (h : KpS M j (M 54) (M 55) n g K r) : Ok (f_Li_isUnjust E M) (fun x => x = 0) := by
  have hK := h
  obtain ⟨hj, h10, hn, -, -, -, -, -, hP, -⟩ := h
  have hks := ks_at hL j hj
  have hq : isIA E (74 + 5 * j + 2) := ⟨isKs_i2 hks, by rw [isKs_t2 hks]⟩
  have ht : (tE E (74 + 5 * j + 2)).2 = 8 := by rw [isKs_t2 hks]
  unfold f_Li_isUnjust f_Li_latest
  rw [h10, ck_i (inN hj (by decide)), Int.toNat_natCast]
  refine ok_sb (ok_ck hks (ok_bm (R := fun a => a.1 = 2) ?_ ?_))
  · refine L_Li_isUnjust_10 E (74 + 5 * j + 2) M (I := fun x => ∃ i : Nat, x = (i : Int) ∧ i ≤ n) (μ := fun x => n - x.toNat) ?_ FU 0 ⟨0, rfl, Nat.zero_le _⟩ (by show n - _ < 5000; omega)
    rintro x ⟨i, rfl, hi⟩
    unfold Li_isUnjust_10b
    rw [hS.1]
    refine ok_ck hq (ok_ck (rgN (by omega)) (ok_ck (rgN (by omega)) (ok_if (fun c => ok_some (ok_out (by show (2 : Nat) ≠ 0; decide) rfl)) (fun c => ok_bm (R := fun a => a.1 = 2) ?_ ?_))))
    · refine L_Li_isUnjust_20 E (74 + 5 * j + 2) (i : Int) M (I := fun x => ∃ k : Nat, x = (k : Int) ∧ k ≤ n) (μ := fun x => n - x.toNat) ?_ FU 0 ⟨0, rfl, Nat.zero_le _⟩ (by show n - _ < 5000; omega)
      rintro x ⟨k, rfl, hk⟩
      unfold Li_isUnjust_20b
      rw [hS.1, ht, Int.toNat_natCast, Int.toNat_natCast]
      refine ok_ck hq (ok_ck (rgN (by omega)) (ok_ck (rgN (by omega)) (ok_if (fun d => ok_some (ok_out (by show (2 : Nat) ≠ 0; decide) rfl)) (fun d => ?_))))
      have hin : i < n := by omega
      have hkn : k < n := by omega
      obtain ⟨b1, -⟩ := hS.2.2 i hin
      obtain ⟨d1, -⟩ := hS.2.2 k hkn
      have s1 := hP.1 i hin
      have s2 := hP.1 k hkn
      have nxt : Ok (some (0, (k : Int) + 1) : Option (Nat × Int)) (fun a => (a.1 = 0 → (∃ k : Nat, a.2 = (k : Int) ∧ k ≤ n) ∧ n - a.2.toNat < n - (k : Int).toNat) ∧ (a.1 ≠ 0 → a.1 = 2)) := ok_some (ok_go rfl ⟨⟨k + 1, c1 k, by omega⟩, cnt hkn⟩)
      refine ok_ck (inN (by omega) (by decide)) (ok_ck (inN (by omega) (by decide)) (ok_ck ⟨by omega, by omega⟩ (ok_ck ⟨by omega, by omega⟩ (ok_if (fun _ => nxt) (fun v1 => ?_)))))
      refine ok_ck (inN (by omega) (by decide)) (ok_ck (inN (by omega) (by decide)) (ok_ck ⟨by omega, by omega⟩ (ok_ck ⟨by omega, by omega⟩ (ok_if (fun _ => nxt) (fun v2 => ?_)))))
      refine ok_bm (asThen_ok hL hS hK hin) ?_
      rintro a (rfl | ⟨rfl, a1⟩)
      · exact ok_ck (by decide) (ok_if (fun _ => nxt) (fun q => absurd rfl q))
      · refine ok_ck (by decide) (ok_if (fun q => absurd q (by decide)) (fun _ => ok_bm (asThen_ok hL hS hK hkn) ?_))
        rintro b (rfl | ⟨rfl, b1⟩)
        · exact ok_ck (by decide) (ok_if (fun _ => nxt) (fun q => absurd rfl q))
        · have := hP.2.2.1 i k hin hkn a1 b1 (by omega)
          omega
    · rintro ⟨t, x⟩ g
      have g : t = 2 := g
      subst g
      exact ok_if (fun q => absurd q (by decide)) (fun _ => ok_if (fun _ => ok_some (ok_go rfl ⟨⟨i + 1, c1 i, by omega⟩, cnt (by omega)⟩)) (fun q => absurd rfl q))
  · rintro ⟨t, x⟩ g
    have g : t = 2 := g
    subst g
    exact ok_if (fun q => absurd q (by decide)) (fun _ => ok_if (fun _ => ok_some rfl) (fun q => absurd rfl q))
/-- a poll of nobody -/
theorem open0_ok {E : Ev} {M : Mm} (hL : Lay E) (h2 : M 2 2 = 0) (h3 : M 2 3 = 0) : Ok (f_Po_open E M 0) (fun N => Off (fun c => 41 ≤ c ∧ c ≤ 45) M N) := by
  unfold f_Po_open
  refine ok_bm (ok_fillI (n := 31) (yi_42 hL) (yt_42 hL) (by decide)) ?_
  rintro A ⟨a1, -, -⟩
  refine ok_bm (ok_fillI (n := 8) (yi_43 hL) (yt_43 hL) (by decide)) ?_
  rintro B ⟨b1, -, -⟩
  refine ok_bm (ok_fillI (n := 8) (yi_44 hL) (yt_44 hL) (by decide)) ?_
  rintro C ⟨c1', -, -⟩
  refine ok_bm (ok_fillI (n := 64) (yi_45 hL) (yt_45 hL) (by decide)) ?_
  rintro D ⟨d1, -, -⟩
  have o : Off (fun c => 41 ≤ c ∧ c ≤ 45) M D := by
    refine ((Off.refl.u2 (by decide)).u2 (by decide)).trans ((a1.mono ?_).trans ((b1.mono ?_).trans ((c1'.mono ?_).trans (d1.mono ?_)))) <;> (intro c hc; omega)
  refine ok_bm (R := fun a => a.1 = 1 ∧ Off (fun c => 41 ≤ c ∧ c ≤ 45) M a.2.2) ?_ ?_
  · refine L_Po_open_44 E (I := fun N x => N = D ∧ x = 0) (μ := fun _ _ => 0) ?_ FU D 0 ⟨rfl, rfl⟩ (by decide)
    rintro N x ⟨rfl, rfl⟩
    unfold Po_open_44b
    rw [o 2 (by decide), h3]
    exact ok_ck (by decide) (ok_ck (by decide) (ok_if (fun _ => ok_some (ok_out ne0 ⟨rfl, o⟩)) (fun q => absurd (Int.le_refl 0) q)))
  · rintro ⟨t, x, N⟩ ⟨g1, g2⟩
    exact ok_ck g1 (ok_some g2)
theorem beater0_ok {E : Ev} {M : Mm} (hL : Lay E) (h2 : M 2 2 = 0) : Ok (f_Po_beaterOfAll E M) (fun a => a.1 = -1 ∧ Off (fun c => c = 46) M a.2) := by
  unfold f_Po_beaterOfAll
  refine ok_bm (R := fun N => Off (fun c => c = 46) M N) ?_ ?_
  · unfold f_Po_findBeaten
    refine ok_bm (ok_fillI (n := 8) (yi_46 hL) (yt_46 hL) (by decide)) ?_
    rintro A ⟨a1, -, -⟩
    refine ok_bm (R := fun a => a.1 = 1 ∧ Off (fun c => c = 46) M a.2.2) ?_ ?_
    · refine L_Po_findBeaten_10 E (I := fun N x => N = A ∧ x = 0) (μ := fun _ _ => 0) ?_ FU A 0 ⟨rfl, rfl⟩ (by decide)
      rintro N x ⟨rfl, rfl⟩
      unfold Po_findBeaten_10b
      rw [a1 2 (by decide), h2]
      exact ok_ck (by decide) (ok_ck (by decide) (ok_if (fun _ => ok_some (ok_out ne0 ⟨rfl, a1⟩)) (fun q => absurd (Int.le_refl 0) q)))
    · rintro ⟨t, x, N⟩ ⟨g1, g2⟩
      exact ok_ck g1 (ok_some g2)
  · intro A a1
    refine ok_bm (R := fun a => a.1 = 2 ∧ a.2.2 = A) ?_ ?_
    · refine L_Po_beaterOfAll_6 E (I := fun N x => N = A ∧ x = 0) (μ := fun _ _ => 0) ?_ FU A 0 ⟨rfl, rfl⟩ (by decide)
      rintro N x ⟨rfl, rfl⟩
      unfold Po_beaterOfAll_6b
      rw [a1 2 (by decide), h2]
      exact ok_ck (by decide) (ok_ck (by decide) (ok_if (fun _ => ok_some (ok_out (by show (2 : Nat) ≠ 0; decide) ⟨rfl, rfl⟩)) (fun q => absurd (Int.le_refl 0) q)))
    · rintro ⟨t, x, N⟩ ⟨g1, g2⟩
      have g1 : t = 2 := g1
      have g2 : N = A := g2
      subst g1 g2
      exact ok_if (fun q => absurd q (by decide)) (fun _ => ok_if (fun _ => ok_some ⟨rfl, a1⟩) (fun q => absurd rfl q))
/-- nothing of the council to tell -/
theorem order0_ok {E : Ev} {M : Mm} {q : Int} (h : CS M 0 (fun _ => 0) q) : Ok (f_Cl_isOrderMissed E M) (fun a => a.1 = 0 ∧ Off (fun c => c = 245) M a.2) := by
  unfold f_Cl_isOrderMissed
  refine ok_bm (ok_findSums (by decide) h) ?_
  rintro A ⟨a1, -⟩
  refine ok_bm (R := fun a => a.1 = 1 ∧ a.2.1 = 0 ∧ a.2.2.2 = A) ?_ ?_
  · refine L_Cl_isOrderMissed_8 E (I := fun N x y => N = A ∧ x = 0 ∧ y = 0) (μ := fun _ _ _ => 0) ?_ FU A 0 0 ⟨rfl, rfl, rfl⟩ (by decide)
    rintro N x y ⟨rfl, rfl, rfl⟩
    unfold Cl_isOrderMissed_8b
    rw [a1 243 (by decide), h.1]
    exact ok_ck (by decide) (ok_ck (by decide) (ok_if (fun _ => ok_some (ok_out ne0 ⟨rfl, rfl, rfl⟩)) (fun q => absurd (Int.le_refl 0) q)))
  · rintro ⟨t, x, y, N⟩ ⟨g1, g2, g3⟩
    have g1 : t = 1 := g1
    have g2 : x = 0 := g2
    have g3 : N = A := g3
    subst g1 g2 g3
    exact ok_ck rfl (ok_ck (by decide) (ok_if (fun _ => ok_some ⟨rfl, a1⟩) (fun q => absurd rfl q)))
theorem j32_ok {E : Ev} {M : Mm} {q : Int} (h : CS M 0 (fun _ => 0) q) : Ok (B_errors_j32 E M 0 0) (fun a => a.1 = 0) := by
  unfold B_errors_j32
  refine ok_bm (order0_ok h) ?_
  rintro ⟨x, N⟩ ⟨g1, -⟩
  have g1 : x = 0 := g1
  subst g1
  exact ok_ck (by decide) (ok_if (fun _ => ok_some rfl) (fun q => absurd rfl q))
theorem errors0_ok {E : Ev} {M : Mm} {n g K j : Nat} {r q : Int} (hL : Lay E) (hS : LiS M n) (h : KpS M j (M 54) (M 55) n g K r) (h2 : M 2 2 = 0) (h3 : M 2 3 = 0) (h179 : M 179 2 = 0) (hE : rE E 180 0 = none) (hC : CS M 0 (fun _ => 0) q) : Ok (f_B_errors E M) (fun a => a.1 = 0) := by
  unfold f_B_errors
  refine ok_bm (unjust_ok hL hS h) ?_
  rintro x rfl
  refine ok_ck (by decide) (ok_if (fun _ => ?_) (fun q => absurd rfl q))
  unfold B_errors_j15
  refine ok_bm (R := fun a => a = (0, M)) ?_ ?_
  · unfold f_B_countErrors f_Co_latest
    rw [h179, ck_i (by decide)]
    refine ok_sb ?_
    show Ok (match rE E 180 0 with | none => _ | some p => _) _
    rw [hE]
    exact ok_some rfl
  · rintro a rfl
    refine ok_bm (R := fun a => a.1 = 0 ∧ Off (fun c => 41 ≤ c ∧ c ≤ 46) M a.2) ?_ ?_
    · unfold f_B_isBeaterOfAllMissed
      refine ok_bm (R := fun e => e = 0) ?_ ?_
      · unfold f_Bx_everybody
        rw [h2]
        exact ok_ck (by decide) (ok_some (by decide))
      · rintro e rfl
        refine ok_bm (open0_ok hL h2 h3) ?_
        intro A a1
        refine ok_bm (beater0_ok hL (by rw [a1 2 (by decide)]; exact h2)) ?_
        rintro ⟨y, N⟩ ⟨g1, g2⟩
        have g1 : y = -1 := g1
        subst g1
        exact ok_ck (by decide) (ok_if (fun _ => ok_some ⟨rfl, (a1.mono (fun c hc => by omega)).trans (g2.mono (fun c hc => by omega))⟩) (fun q => absurd rfl q))
    · rintro ⟨y, N⟩ ⟨g1, g2⟩
      have g1 : y = 0 := g1
      have g2 : Off (fun c => 41 ≤ c ∧ c ≤ 46) M N := g2
      subst g1
      refine ok_ck (by decide) (ok_if (fun _ => ?_) (fun q => absurd rfl q))
      exact j32_ok (hC.off g2 (by decide) (by decide) (by decide))
