/-! THE LAW'S LISTS: checked -/
theorem laDiv_ok {E : Ev} {M : Mm} {r s : Int} (hr0 : 0 ≤ r) (hr4 : r ≤ 4) (h0 : 0 ≤ s) (h1 : s ≤ 100) : Ok (f_La_divisor E M r s) (fun d => 0 ≤ d ∧ d ≤ 2000 ∧ ∃ a b : Int, 0 < a ∧ 0 < b ∧ a * d = b * dv r s ∧ (a = if r = 2 then 2 else 1) ∧ (b = if r = 2 then 1 else 5)) := by
  unfold f_La_divisor dv
  refine ok_ck ⟨by omega, by omega⟩ (ok_if (fun c0 => ok_some ?_) (fun c0 => ok_if (fun c1 => ok_some ?_) (fun c1 => ok_if (fun c2 => ok_ck ⟨by omega, by omega⟩ (ok_if (fun c3 => ?_) (fun c3 => ok_some ?_))) (fun c2 => ?_))))
  · rw [if_pos c0, if_neg (by omega), if_neg (by omega)]
    exact ⟨by omega, by omega, 1, 5, by decide, by decide, by omega, rfl, rfl⟩
  · rw [if_neg c0, if_pos c1, if_neg (by omega), if_neg (by omega)]
    exact ⟨by omega, by omega, 1, 5, by decide, by decide, by omega, rfl, rfl⟩
  · unfold La_divisor_j35
    refine ok_ck ⟨by omega, by omega⟩ (ok_if (fun _ => ok_some ?_) (fun q => absurd c2 q))
    rw [if_neg c0, if_neg c1, if_pos c2, if_pos (show s = 0 by omega), if_pos c2, if_pos c2]
    exact ⟨by omega, by omega, 2, 1, by decide, by decide, by omega, rfl, rfl⟩
  · rw [if_neg c0, if_neg c1, if_pos c2, if_neg (show ¬ s = 0 by omega), if_pos c2, if_pos c2]
    exact ⟨by omega, by omega, 2, 1, by decide, by decide, by omega, rfl, rfl⟩
  · unfold La_divisor_j35
    rw [if_neg c0, if_neg c1, if_neg c2, if_neg c2]
    refine ok_ck ⟨by omega, by omega⟩ (ok_if (fun c3 => ok_some ?_) (fun c3 => ok_some ?_))
    · rw [if_pos c3]
      exact ⟨by omega, by omega, 1, 5, by decide, by decide, by omega, by rw [if_neg c2], by rw [if_neg c2]⟩
    · rw [if_neg c3]
      exact ⟨by omega, by omega, 1, 5, by decide, by decide, by omega, by rw [if_neg c2], by rw [if_neg c2]⟩
/-- what the law's checks stand on -/
def LwC (M : Mm) (n j g K : Nat) (r : Int) : Prop := LiS M n ∧ KpS M j (M 54) (M 55) n g K r ∧ (∀ k, k < n → M 250 k = M 54 k ∧ M 55 k = 0 ∧ M 54 k ≤ 100000) ∧ 0 ≤ r ∧ r ≤ 5 ∧ 1 ≤ K ∧ K ≤ 60
theorem l200_ok {E : Ev} {M : Mm} {n j g K a : Nat} {r x4 x7 x8 x9 : Int} (hL : Lay E) (hq : isIA E 250) (ht : (tE E 250).2 = n) (h : LwC M n j g K r) (ha : a < n) : Ok (l_La_seats_200 0 (n : Int) 250 x4 r x7 x8 x9 (a : Int) (M (74 + 5 * j + 2) a) 5000 E M 1 0) (fun w => w.1 = 1 ∧ w.2.1 = 1 ∧ w.2.2.2.1 = E ∧ w.2.2.2.2 = M) := by
  obtain ⟨hS, hK, h250, hr0, hr5, hK1, hK60⟩ := h
  have h8 := hS.2.1
  have hi0 : isIA E 0 := ⟨yi_0 hL, by rw [yt_0 hL]⟩
  have hP := hK.2.2.2.2.2.2.2.2.1
  have na : ∀ l, l < n → M 55 l = 0 := fun l hl => (h250 l hl).2.1
  have own := hP.1 a ha
  obtain ⟨e250, -, va⟩ := h250 a ha
  have va0 := (hS.2.2 a ha).1
  refine L_La_seats_200 0 (n : Int) 250 x4 r x7 x8 x9 (a : Int) (M (74 + 5 * j + 2) a) (I := fun F N x11 x14 => F = E ∧ N = M ∧ x11 = 1 ∧ ∃ b : Nat, x14 = (b : Int) ∧ b ≤ n) (μ := fun _ _ _ x => n - x.toNat) ?_ 5000 E M 1 0 ⟨rfl, rfl, rfl, 0, rfl, Nat.zero_le _⟩ (by show n - _ < 5000; omega)
  rintro F N x11 x14 ⟨rfl, rfl, rfl, b, rfl, hb⟩
  unfold La_seats_200b
  rw [ht, Int.toNat_natCast, Int.toNat_natCast, e250]
  refine ok_ck hL (ok_ck hi0 (ok_ck hq (ok_ck (rgN (by omega)) (ok_ck (rgN (by omega)) (ok_if (fun c => ?_) (fun c => ?_))))))
  · exact ok_some (ok_out ne0 ⟨rfl, rfl, rfl, rfl⟩)
  · have hbn : b < n := by omega
    obtain ⟨f250, -, vb⟩ := h250 b hbn
    have vb0 := (hS.2.2 b hbn).1
    have ownb := hP.1 b hbn
    have sb := seatsOf_eq hL hK hS.1 h8 hbn
    -- the second half
    have half : Ok (La_seats_j238 F N 0 (n : Int) 250 x4 r x7 x8 x9 (a : Int) (N (74 + 5 * j + 2) a) (b : Int) 1) (fun w => (w.1 = 0 → (w.2.2.2.1 = F ∧ w.2.2.2.2 = N ∧ w.2.1 = 1 ∧ ∃ b : Nat, w.2.2.1 = (b : Int) ∧ b ≤ n) ∧ n - w.2.2.1.toNat < n - (b : Int).toNat) ∧ (w.1 ≠ 0 → w.1 = 1 ∧ w.2.1 = 1 ∧ w.2.2.2.1 = F ∧ w.2.2.2.2 = N)) := by
      have good : Ok (some (0, 1, (b : Int) + 1, F, N) : Option (Nat × Int × Int × Ev × Mm)) (fun w => (w.1 = 0 → (w.2.2.2.1 = F ∧ w.2.2.2.2 = N ∧ w.2.1 = 1 ∧ ∃ b : Nat, w.2.2.1 = (b : Int) ∧ b ≤ n) ∧ n - w.2.2.1.toNat < n - (b : Int).toNat) ∧ (w.1 ≠ 0 → w.1 = 1 ∧ w.2.1 = 1 ∧ w.2.2.2.1 = F ∧ w.2.2.2.2 = N)) := ok_some (ok_go rfl ⟨⟨rfl, rfl, rfl, b + 1, c1 b, by omega⟩, cnt hbn⟩)
      unfold La_seats_j238
      rw [ht, Int.toNat_natCast, Int.toNat_natCast, e250, f250, sb]
      refine ok_ck hL (ok_ck hi0 (ok_ck hq (ok_ck (by decide) (ok_if (fun q => absurd q (by decide)) (fun _ => ok_ck ⟨by omega, by omega⟩ (ok_if (fun _ => good) (fun r5 => ok_ck ⟨by omega, by omega⟩ (ok_if (fun _ => good) (fun o0 => ?_)))))))))
      refine ok_ck (inN ha (by omega)) (ok_ck ⟨by omega, by omega⟩ (ok_sb (ok_bm (laDiv_ok hr0 (by omega) ownb.1 ownb.2) ?_)))
      rintro d1 ⟨d10, d11, a1, b1, a10, b10, e1, ea1, eb1⟩
      refine ok_ck ⟨by omega, by omega⟩ (ok_ck (inN hbn (by omega)) (ok_ck ⟨by omega, by omega⟩ (ok_bm (laDiv_ok (s := N (74 + 5 * j + 2) a - 1) hr0 (by omega) (by omega) (by omega)) ?_)))
      rintro d2 ⟨d20, d21, a2, b2, a20, b20, e2, ea2, eb2⟩
      have p1 : 0 ≤ N 54 a * d1 ∧ N 54 a * d1 ≤ 100000 * 2000 := ⟨Int.mul_nonneg (by omega) d10, Int.mul_le_mul va d11 d10 (by decide)⟩
      have p2 : 0 ≤ N 54 b * d2 ∧ N 54 b * d2 ≤ 100000 * 2000 := ⟨Int.mul_nonneg (by omega) d20, Int.mul_le_mul vb d21 d20 (by decide)⟩
      refine ok_ck ⟨by omega, by omega⟩ (ok_ck ⟨by omega, by omega⟩ (ok_ck ⟨by omega, by omega⟩ (ok_if (fun q => ?_) (fun _ => good))))
      exfalso
      have hQ := (hP.2.2.2 na).2.1 r5 a b ha hbn (by omega)
      have ea : a1 = a2 := ea1.trans ea2.symm
      have eb : b1 = b2 := eb1.trans eb2.symm
      rw [← ea, ← eb] at e2
      -- times a1
      have q1 : a1 * (N 54 a * d1) < a1 * (N 54 b * d2) := Int.mul_lt_mul_of_pos_left q a10
      have q2 : a1 * (N 54 a * d1) = b1 * (N 54 a * dv r (N (74 + 5 * j + 2) b)) := by
        rw [Int.mul_left_comm, e1, Int.mul_left_comm]
      have q3 : a1 * (N 54 b * d2) = b1 * (N 54 b * dv r (N (74 + 5 * j + 2) a - 1)) := by
        rw [Int.mul_left_comm, e2, Int.mul_left_comm]
      have q4 := Int.mul_le_mul_of_nonneg_left hQ (Int.le_of_lt b10)
      omega
    refine ok_ck (by decide) (ok_if (fun q => absurd q (by decide)) (fun _ => ok_ck (inN ha (by omega)) (ok_ck (inN hbn (by omega)) (ok_ck ⟨by omega, by omega⟩ (ok_ck ?_ (ok_if (fun _ => half) (fun q => ?_)))))))
    · rw [f250]; exact ⟨by omega, by omega⟩
    · rw [f250] at q
      rw [sb]
      refine ok_sb (ok_ck ⟨by omega, by omega⟩ (ok_ck ⟨by omega, by omega⟩ (ok_if (fun q2 => ?_) (fun _ => half))))
      have := hP.2.2.1 a b ha hbn (na a ha) (na b hbn) (by omega)
      omega
theorem l151_ok {E : Ev} {M : Mm} {n j g K : Nat} {r x8 : Int} (hL : Lay E) (hq : isIA E 250) (ht : (tE E 250).2 = n) (h : LwC M n j g K r) : Ok (l_La_seats_151 0 (n : Int) 250 (sN (M 54) n) r (K : Int) x8 5000 E M 0 1 0) (fun w => w.1 = 1 ∧ w.2.1 = (g : Int) ∧ w.2.2.1 = 1 ∧ w.2.2.2.2.1 = E ∧ w.2.2.2.2.2 = M) := by
  have hSC := h
  obtain ⟨hS, hK, h250, hr0, hr5, hK1, hK60⟩ := h
  have h8 := hS.2.1
  have hi0 : isIA E 0 := ⟨yi_0 hL, by rw [yt_0 hL]⟩
  have hP := hK.2.2.2.2.2.2.2.2.1
  have na : ∀ l, l < n → M 55 l = 0 := fun l hl => (h250 l hl).2.1
  have hT0 : 0 ≤ sN (M 54) n := sN_nonneg (fun k hk => (hS.2.2 k hk).1.1)
  have hT9 : sN (M 54) n ≤ 800000 := by
    have := sN_le (f := M 54) (g := fun _ => 100000) (n := n) (fun k hk => (h250 k hk).2.2)
    have h3 : ∀ k : Nat, sN (fun _ => (100000 : Int)) k = 100000 * (k : Int) := fun k => by
      induction k with
      | zero => rfl
      | succ k ih => rw [sN_succ, ih]; omega
    rw [h3] at this
    omega
  refine L_La_seats_151 0 (n : Int) 250 (sN (M 54) n) r (K : Int) x8 (I := fun F N x9 x11 x12 => F = E ∧ N = M ∧ x11 = 1 ∧ ∃ a : Nat, x12 = (a : Int) ∧ a ≤ n ∧ x9 = sN (M (74 + 5 * j + 2)) a) (μ := fun _ _ _ _ x => n - x.toNat) ?_ 5000 E M 0 1 0 ⟨rfl, rfl, rfl, 0, rfl, Nat.zero_le _, rfl⟩ (by show n - _ < 5000; omega)
  rintro F N x9 x11 x12 ⟨rfl, rfl, rfl, a, rfl, han, hx⟩
  unfold La_seats_151b
  refine ok_ck hL (ok_ck hi0 (ok_ck hq (ok_ck (rgN (by omega)) (ok_ck (rgN (by omega)) (ok_if (fun c => ?_) (fun c => ?_))))))
  · have e : a = n := by omega
    rw [e] at hx
    refine ok_some (ok_out ne0 ⟨rfl, ?_, rfl, rfl, rfl⟩)
    show x9 = _
    rw [hx]; exact hP.2.1
  · have ha : a < n := by omega
    have own := hP.1 a ha
    obtain ⟨e250, -, va⟩ := h250 a ha
    have va0 := (hS.2.2 a ha).1
    have vK : 0 ≤ N 54 a * (K : Int) ∧ N 54 a * (K : Int) ≤ 100000 * 60 := ⟨Int.mul_nonneg (by omega) (by omega), Int.mul_le_mul va (by omega) (by omega) (by decide)⟩
    rw [seatsOf_eq hL hK hS.1 h8 ha, ht, Int.toNat_natCast, e250]
    have good : Ok (some (0, x9 + N (74 + 5 * j + 2) a, 1, (a : Int) + 1, F, N) : Option (Nat × Int × Int × Int × Ev × Mm)) (fun w => (w.1 = 0 → (w.2.2.2.2.1 = F ∧ w.2.2.2.2.2 = N ∧ w.2.2.1 = 1 ∧ ∃ a : Nat, w.2.2.2.1 = (a : Int) ∧ a ≤ n ∧ w.2.1 = sN (N (74 + 5 * j + 2)) a) ∧ n - w.2.2.2.1.toNat < n - (a : Int).toNat) ∧ (w.1 ≠ 0 → w.1 = 1 ∧ w.2.1 = (g : Int) ∧ w.2.2.1 = 1 ∧ w.2.2.2.2.1 = F ∧ w.2.2.2.2.2 = N)) := ok_some (ok_go rfl ⟨⟨rfl, rfl, rfl, a + 1, c1 a, by omega, by show x9 + _ = _; rw [sN_succ, hx]⟩, cnt ha⟩)
    refine ok_sb (ok_ck ⟨by omega, by omega⟩ (ok_ck (by decide) (ok_if (fun q => absurd q (by decide)) (fun _ => ok_ck (inN ha (by omega)) (ok_ck ⟨by omega, by omega⟩ (ok_if (fun q => ?_) (fun q => ok_if (fun q2 => ?_) (fun q2 => absurd ((hP.2.2.2 na).1 a ha (by omega)) q2))))))))
    · refine ok_bm (l200_ok hL hq ht hSC ha) ?_
      rintro ⟨t, y, z, F2, N2⟩ ⟨g1r, g2r, g3r, g4r⟩
      have g1 : t = 1 := g1r
      have g2 : y = 1 := g2r
      have g3 : F2 = F := g3r
      have g4 : N2 = N := g4r
      subst g1 g2 g3 g4
      refine ok_ck (gw_self F2) (ok_ck hL (ok_ck rfl (ok_ck ⟨by omega, by omega⟩ (ok_if (fun r5 => ok_ck ⟨by omega, by omega⟩ (ok_if (fun _ => good) (fun tp => ?_))) (fun _ => good)))))
      show Ok (ck (inb (a : Int) (tE F2 250).2) (ck (rgI (N2 250 a)) (ck (rgI (K : Int)) (ck (nnJ (N2 250 a * (K : Int))) (ck (psJ (sN (N2 54) n)) (nb (N2 250 a * (K : Int) / sN (N2 54) n) _)))))) _
      rw [ht, e250]
      refine ok_ck (inN ha (by omega)) (ok_ck ⟨by omega, by omega⟩ (ok_ck (rgN (by omega)) (ok_ck ⟨by omega, by omega⟩ (ok_ck ⟨by omega, by omega⟩ (ok_nb (ok_ck (by decide) (ok_if (fun d => absurd d (by decide)) (fun _ => ?_))))))))
      rcases (hP.2.2.2 na).2.2.1 r5 (by omega) a ha with w | w
      · exact ok_ck ⟨by omega, by omega⟩ (ok_if (fun _ => good) (fun d => absurd w d))
      · exact ok_ck ⟨by omega, by omega⟩ (ok_if (fun _ => good) (fun d => ok_ck ⟨by omega, by omega⟩ (ok_if (fun _ => good) (fun d => absurd w d))))
    · refine ok_bm (l200_ok hL hq ht hSC ha) ?_
      rintro ⟨t, y, z, F2, N2⟩ ⟨g1r, g2r, g3r, g4r⟩
      have g1 : t = 1 := g1r
      have g2 : y = 1 := g2r
      have g3 : F2 = F := g3r
      have g4 : N2 = N := g4r
      subst g1 g2 g3 g4
      refine ok_ck (gw_self F2) (ok_ck hL (ok_ck rfl (ok_ck ⟨by omega, by omega⟩ (ok_if (fun r5 => ok_ck ⟨by omega, by omega⟩ (ok_if (fun _ => good) (fun tp => ?_))) (fun _ => good)))))
      show Ok (ck (inb (a : Int) (tE F2 250).2) (ck (rgI (N2 250 a)) (ck (rgI (K : Int)) (ck (nnJ (N2 250 a * (K : Int))) (ck (psJ (sN (N2 54) n)) (nb (N2 250 a * (K : Int) / sN (N2 54) n) _)))))) _
      rw [ht, e250]
      refine ok_ck (inN ha (by omega)) (ok_ck ⟨by omega, by omega⟩ (ok_ck (rgN (by omega)) (ok_ck ⟨by omega, by omega⟩ (ok_ck ⟨by omega, by omega⟩ (ok_nb (ok_ck (by decide) (ok_if (fun d => absurd d (by decide)) (fun _ => ?_))))))))
      rcases (hP.2.2.2 na).2.2.1 r5 (by omega) a ha with w | w
      · exact ok_ck ⟨by omega, by omega⟩ (ok_if (fun _ => good) (fun d => absurd w d))
      · exact ok_ck ⟨by omega, by omega⟩ (ok_if (fun _ => good) (fun d => ok_ck ⟨by omega, by omega⟩ (ok_if (fun _ => good) (fun d => absurd w d))))
/-- the seats counted by their order -/
theorem l410_ok {E : Ev} {M : Mm} {n j g K q : Nat} {r x7 x11 : Int} (hL : Lay E) (hq : isIA E q) (ht : (tE E q).2 = n) (hq2 : 250 < q) (h : LwC M n j g K r) (hz : ∀ l, M q l = 0) : Ok (l_La_seats_410 0 (n : Int) r x7 (g : Int) x11 q 5000 E M 0) (fun w => w.1 = 1 ∧ w.2.2.1 = E ∧ Off (fun c => c = q) M w.2.2.2 ∧ ∀ l, l < n → w.2.2.2 q l = M (74 + 5 * j + 2) l) := by
  obtain ⟨hS, hK, h250, hr0, hr5, hK1, hK60⟩ := h
  have hi0 : isIA E 0 := ⟨yi_0 hL, by rw [yt_0 hL]⟩
  have h8 := hS.2.1
  have hj := hK.1
  have hP := hK.2.2.2.2.2.2.2.2.1
  have hg := hK.2.2.2.1
  have na : ∀ l, l < n → M 55 l = 0 := fun l hl => (h250 l hl).2.1
  have hord := (hP.2.2.2 na).2.2.2.2
  have hcnt := (hP.2.2.2 na).2.2.2.1
  refine L_La_seats_410 0 (n : Int) r x7 (g : Int) x11 q (I := fun F N x => F = E ∧ ∃ k : Nat, x = (k : Int) ∧ k ≤ g ∧ Off (fun c => c = q) M N ∧ ∀ l, l < n → N q l = sN (fun i => if M (74 + 5 * j + 1) i = (l : Int) then 1 else 0) k) (μ := fun _ _ x => g - x.toNat) ?_ 5000 E M 0 ⟨rfl, 0, rfl, Nat.zero_le _, Off.refl, fun l _ => hz l⟩ (by show g - _ < 5000; omega)
  rintro F N x ⟨rfl, k, rfl, hk, ho, hN⟩
  unfold La_seats_410b
  refine ok_ck hL (ok_ck hi0 (ok_ck hq (ok_ck (rgN (by omega)) (ok_ck ⟨by omega, by omega⟩ (ok_if (fun c => ?_) (fun c => ?_))))))
  · have e : k = g := by omega
    subst e
    exact ok_some (ok_out ne0 ⟨rfl, rfl, ho, fun l hl => (hN l hl).trans (hcnt l hl)⟩)
  · have hkg : k < g := by omega
    have hKN : KpS N j (M 54) (M 55) n g K r := hK.off ho (by rw [ho 53 (by omega)]) (fun c q1 q2 q3 => by omega)
    have o := hord k hkg
    have e1 : N (74 + 5 * j + 1) = M (74 + 5 * j + 1) := ho _ (by omega)
    rw [seatAt_eq hL hKN na hkg, e1]
    refine ok_sb (ok_ck ⟨o.1, by rw [ht]; exact o.2, by omega⟩ (ok_some (ok_go rfl ⟨⟨rfl, k + 1, c1 k, by omega, ho.u2 rfl, fun l hl => ?_⟩, cnt hkg⟩)))
    show u2 N q (M (74 + 5 * j + 1) k).toNat (N q (M (74 + 5 * j + 1) k).toNat + 1) q l = _
    rw [sN_succ, u2_if]
    by_cases c : M (74 + 5 * j + 1) k = (l : Int)
    · rw [if_pos c, c, Int.toNat_natCast, if_pos ⟨rfl, rfl⟩, hN l hl]
    · rw [if_neg c, if_neg (fun w => c (by have := w.2; omega)), hN l hl]
      omega
theorem l441_ok {E : Ev} {M : Mm} {n j g K q : Nat} {r x7 x9 : Int} (hL : Lay E) (hq : isIA E q) (ht : (tE E q).2 = n) (hS : LiS M n) {v al : Nat → Int} (hK : KpS M j v al n g K r) (hc : ∀ l, l < n → M q l = M (74 + 5 * j + 2) l) : Ok (l_La_seats_441 0 (n : Int) r x7 x9 q 5000 E M 1 0) (fun w => w.1 = 1 ∧ w.2.1 = 1 ∧ w.2.2.2.1 = E ∧ w.2.2.2.2 = M) := by
  have hi0 : isIA E 0 := ⟨yi_0 hL, by rw [yt_0 hL]⟩
  have h8 := hS.2.1
  have hP := hK.2.2.2.2.2.2.2.2.1
  refine L_La_seats_441 0 (n : Int) r x7 x9 q (I := fun F N x11 x => F = E ∧ N = M ∧ x11 = 1 ∧ ∃ k : Nat, x = (k : Int) ∧ k ≤ n) (μ := fun _ _ _ x => n - x.toNat) ?_ 5000 E M 1 0 ⟨rfl, rfl, rfl, 0, rfl, Nat.zero_le _⟩ (by show n - _ < 5000; omega)
  rintro F N x11 x ⟨rfl, rfl, rfl, k, rfl, hk⟩
  unfold La_seats_441b
  refine ok_ck hL (ok_ck hi0 (ok_ck hq (ok_ck (rgN (by omega)) (ok_ck (rgN (by omega)) (ok_if (fun c => ok_some (ok_out ne0 ⟨rfl, rfl, rfl, rfl⟩)) (fun c => ?_))))))
  have hkn : k < n := by omega
  have own := hP.1 k hkn
  refine ok_ck (by decide) (ok_if (fun d => absurd d (by decide)) (fun _ => ok_ck (inN (by omega) (by omega)) ?_))
  rw [seatsOf_eq hL hK hS.1 h8 hkn, Int.toNat_natCast, hc k hkn]
  exact ok_sb (ok_ck ⟨by omega, by omega⟩ (ok_ck ⟨by omega, by omega⟩ (ok_if (fun _ => ok_some (ok_go rfl ⟨⟨rfl, rfl, rfl, k + 1, c1 k, by omega⟩, cnt hkn⟩)) (fun d => absurd rfl d))))
theorem l527_ok {E : Ev} {M : Mm} {n j g K : Nat} {r x9 x11 : Int} (hL : Lay E) (hS : LiS M n) {v al : Nat → Int} (hK : KpS M j v al n g K r) : Ok (l_La_seats_527 (n : Int) x9 x11 5000 E M 0 0) (fun w => w.1 = 1 ∧ w.2.1 = (g : Int) ∧ w.2.2.2.1 = E ∧ w.2.2.2.2 = M) := by
  have h8 := hS.2.1
  have hP := hK.2.2.2.2.2.2.2.2.1
  refine L_La_seats_527 (n : Int) x9 x11 (I := fun F N x17 x => F = E ∧ N = M ∧ ∃ k : Nat, x = (k : Int) ∧ k ≤ n ∧ x17 = sN (M (74 + 5 * j + 2)) k) (μ := fun _ _ _ x => n - x.toNat) ?_ 5000 E M 0 0 ⟨rfl, rfl, 0, rfl, Nat.zero_le _, rfl⟩ (by show n - _ < 5000; omega)
  rintro F N x17 x ⟨rfl, rfl, k, rfl, hk, hx⟩
  unfold La_seats_527b
  refine ok_ck hL (ok_ck (rgN (by omega)) (ok_ck (rgN (by omega)) (ok_if (fun c => ?_) (fun c => ?_))))
  · have e : k = n := by omega
    rw [e] at hx
    refine ok_some (ok_out ne0 ⟨rfl, ?_, rfl, rfl⟩)
    show x17 = _
    rw [hx]; exact hP.2.1
  · have hkn : k < n := by omega
    have own := hP.1 k hkn
    rw [seatsOf_eq hL hK hS.1 h8 hkn]
    exact ok_sb (ok_ck ⟨by omega, by omega⟩ (ok_some (ok_go rfl ⟨⟨rfl, rfl, k + 1, c1 k, by omega, by show x17 + _ = _; rw [sN_succ, hx]⟩, cnt hkn⟩)))
