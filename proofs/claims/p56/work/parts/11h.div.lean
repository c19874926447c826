/-! NATURALS: the long division -/
/-- the highest limb of a sum -/
theorem Sg_top (x : Nat → Int) (n : Nat) (h : Lr x (n + 1)) : x n * pB n ≤ Sg x (n + 1) ∧ Sg x (n + 1) < (x n + 1) * pB n := by
  have h1 := (h.mono (Nat.le_succ n)).lo
  have h2 := (h.mono (Nat.le_succ n)).hi
  rw [Sg_succ, Int.add_mul]
  omega
/-- a guess that isn't below, by the highest limb alone -/
theorem guess_hi {Q v u vh U2 b : Int} (hb : 0 < b) (h1 : Q * v ≤ u) (h2 : vh * b ≤ v) (h3 : u < (U2 + 1) * b) (hQ : 0 ≤ Q) : Q * vh ≤ U2 := by
  have e1 := Int.mul_le_mul_of_nonneg_left h2 hQ
  have e2 : Q * vh * b < (U2 + 1) * b := by rw [Int.mul_assoc]; omega
  have := Int.lt_of_mul_lt_mul_right e2 (Int.le_of_lt hb)
  omega
/-- at most 2 too great -/
theorem guess_2 {g Q v u vh U2 b : Int} (hb : 0 < b) (hg1 : g * vh ≤ U2) (hg2 : g ≤ 1073741823) (hg0 : 0 ≤ g) (h2 : v < (vh + 1) * b) (hv : vh * b ≤ v) (hvh : 536870912 ≤ vh) (h3 : U2 * b ≤ u) (hu : u < (Q + 1) * v) : g ≤ Q + 2 := by
  rcases Int.lt_or_le (Q + 2) g with c | c
  · exfalso
    have e1 := Int.mul_le_mul_of_nonneg_right hg1 (Int.le_of_lt hb)
    have e2 := Int.mul_le_mul_of_nonneg_left (show v - b ≤ vh * b by rw [Int.add_mul] at h2; omega) hg0
    rw [Int.mul_sub] at e2
    have e3 : g * (vh * b) = g * vh * b := (Int.mul_assoc _ _ _).symm
    -- g v - g b ≤ u < (Q+1) v
    have hv0 : 0 ≤ v := by have := Int.mul_nonneg (show (0 : Int) ≤ vh by omega) (Int.le_of_lt hb); omega
    have e4 := Int.mul_le_mul_of_nonneg_right (show Q + 1 + 2 ≤ g by omega) hv0
    rw [Int.add_mul (Q + 1) 2 v] at e4
    have e5 := Int.mul_le_mul_of_nonneg_right hg2 (Int.le_of_lt hb)
    have e6 := Int.mul_le_mul_of_nonneg_right hvh (Int.le_of_lt hb)
    omega
  · exact c
theorem guess_gt {g Q v u vh vl U2 ul b : Int} (hb : 0 < b) (hg0 : 0 ≤ g) (hv : (vh * 1073741824 + vl) * b ≤ v) (hu : u < (U2 * 1073741824 + ul + 1) * b) (ht : (U2 - g * vh) * 1073741824 + ul < g * vl) (hQ : u < (Q + 1) * v) (hqv : Q * v ≤ u) (hv0 : 0 < v) : Q < g := by
  rcases Int.lt_or_le Q g with c | c
  · exact c
  · exfalso
    have e1 := Int.mul_le_mul_of_nonneg_right c (Int.le_of_lt hv0)
    have e2 := Int.mul_le_mul_of_nonneg_left hv hg0
    have e3 : g * (vh * 1073741824 + vl) * b < (U2 * 1073741824 + ul + 1) * b := by rw [Int.mul_assoc]; omega
    have e4 := Int.lt_of_mul_lt_mul_right e3 (Int.le_of_lt hb)
    have e5 : g * (vh * 1073741824 + vl) = g * vh * 1073741824 + g * vl := by grind
    omega
theorem guess_1 {g Q v u vh vl U2 ul b : Int} (hb : 0 < b) (hg0 : 0 ≤ g) (hg2 : g ≤ 1073741823) (hv : v < (vh * 1073741824 + vl + 1) * b) (hv2 : vh * 1073741824 * b ≤ v) (hvh : 1 ≤ vh) (hu : (U2 * 1073741824 + ul) * b ≤ u) (ht : g * vl ≤ (U2 - g * vh) * 1073741824 + ul) (hQ : u < (Q + 1) * v) : g ≤ Q + 1 := by
  rcases Int.lt_or_le (Q + 1) g with c | c
  · exfalso
    have hv0 : 0 < v := by
      have := Int.mul_le_mul_of_nonneg_right hvh (Int.le_of_lt hb)
      have e : vh * 1073741824 * b = vh * b * 1073741824 := by grind
      omega
    have e5 : g * (vh * 1073741824 + vl) = g * vh * 1073741824 + g * vl := by grind
    have e1 : g * (vh * 1073741824 + vl) ≤ U2 * 1073741824 + ul := by omega
    have e2 := Int.mul_le_mul_of_nonneg_right e1 (Int.le_of_lt hb)
    have e3 := Int.mul_le_mul_of_nonneg_left (show v - b ≤ (vh * 1073741824 + vl) * b by rw [Int.add_mul _ 1 b] at hv; omega) hg0
    rw [Int.mul_sub] at e3
    have e6 : g * ((vh * 1073741824 + vl) * b) = g * (vh * 1073741824 + vl) * b := (Int.mul_assoc _ _ _).symm
    have e7 := Int.mul_le_mul_of_nonneg_right hg2 (Int.le_of_lt hb)
    have e8 : 1073741824 * b ≤ v := by
      have := Int.mul_le_mul_of_nonneg_right (show (1073741824 : Int) ≤ vh * 1073741824 by omega) (Int.le_of_lt hb)
      omega
    have e9 := Int.mul_le_mul_of_nonneg_right (show Q + 1 + 1 ≤ g by omega) (Int.le_of_lt hv0)
    rw [Int.add_mul (Q + 1) 1 v] at e9
    omega
  · exact c
set_option maxHeartbeats 2000000 in
theorem ok_takeMul {E : Ev} {M : Mm} {q p P n : Nat} {v u : Int} (hq : isNa E q) (hp : isNa E p) (hap : ap q p) (hn : M p 1 = (n : Int)) (hn2 : 2 ≤ n) (hv : Lr (M (p + 1)) n) (hvS : Sg (M (p + 1)) n = v) (htop : 536870912 ≤ M (p + 1) (n - 1)) (hu : Lr (M (q + 1)) 13) (hP : P + n ≤ 12) (huS : Sg (fun i => M (q + 1) (P + i)) (n + 1) = u) (huv : u < v * 1073741824) : Ok (f_Na_takeMultiple E M q p (P : Int)) (fun r => r.1 = u / v ∧ 0 ≤ u / v ∧ u / v < 1073741824 ∧ Off (fun i => i = q + 1) M r.2 ∧ Lr (r.2 (q + 1)) 13 ∧ (∀ i, (i < P ∨ P + n < i) → r.2 (q + 1) i = M (q + 1) i) ∧ Sg (fun i => r.2 (q + 1) (P + i)) (n + 1) = u % v) := by
  obtain ⟨-, a1, a2, a3⟩ := hap.q1
  obtain ⟨m, rfl⟩ : ∃ m, n = m + 2 := ⟨n - 2, by omega⟩
  have hLu : Lr (fun i => M (q + 1) (P + i)) (m + 2 + 1) := fun i hi => hu _ (by omega)
  -- names for the limbs
  obtain ⟨vh, hvh⟩ : ∃ x, x = M (p + 1) (m + 1) := ⟨_, rfl⟩
  obtain ⟨vl, hvl⟩ : ∃ x, x = M (p + 1) m := ⟨_, rfl⟩
  obtain ⟨u2, hu2⟩ : ∃ x, x = M (q + 1) (P + (m + 2)) := ⟨_, rfl⟩
  obtain ⟨u1, hu1⟩ : ∃ x, x = M (q + 1) (P + (m + 1)) := ⟨_, rfl⟩
  obtain ⟨ul, hul⟩ : ∃ x, x = M (q + 1) (P + m) := ⟨_, rfl⟩
  have gvh := hv (m + 1) (by omega)
  have gvl := hv m (by omega)
  have gu2 := hu (P + (m + 2)) (by omega)
  have gu1 := hu (P + (m + 1)) (by omega)
  have gul := hu (P + m) (by omega)
  rw [show m + 2 - 1 = m + 1 by omega, ← hvh] at htop
  rw [← hvh] at gvh
  rw [← hvl] at gvl
  rw [← hu2] at gu2
  rw [← hu1] at gu1
  rw [← hul] at gul
  have bm := pB_pos m
  have bm1 : pB (m + 1) = pB m * 1073741824 := rfl
  have bm2 : pB (m + 2) = pB m * 1073741824 * 1073741824 := rfl
  obtain ⟨U2, hU2⟩ : ∃ x, x = u2 * 1073741824 + u1 := ⟨_, rfl⟩
  -- sums by the highest limbs
  have hvlo := (hv.mono (show m ≤ m + 2 by omega)).lo
  have hvhi := (hv.mono (show m ≤ m + 2 by omega)).hi
  have hulo := (hLu.mono (show m ≤ m + 2 + 1 by omega)).lo
  have huhi := (hLu.mono (show m ≤ m + 2 + 1 by omega)).hi
  have ev : v = Sg (M (p + 1)) m + vl * pB m + vh * (pB m * 1073741824) := by rw [← hvS, hvl, hvh]; rfl
  have eu : u = Sg (fun i => M (q + 1) (P + i)) m + ul * pB m + u1 * (pB m * 1073741824) + u2 * (pB m * 1073741824 * 1073741824) := by rw [← huS, hul, hu1, hu2]; rfl
  have ev2 : v = Sg (M (p + 1)) m + (vh * 1073741824 + vl) * pB m := by rw [ev]; grind
  have eu2 : u = Sg (fun i => M (q + 1) (P + i)) m + (U2 * 1073741824 + ul) * pB m := by rw [eu, hU2]; grind
  generalize Sg (M (p + 1)) m = vr at *
  generalize Sg (fun i => M (q + 1) (P + i)) m = ur at *
  have hv0 : 0 < v := by
    have := Int.mul_le_mul_of_nonneg_right (show 1 ≤ vh * 1073741824 + vl by omega) (Int.le_of_lt bm)
    omega
  have hu0 : 0 ≤ u := by
    have := Int.mul_nonneg (show 0 ≤ U2 * 1073741824 + ul by omega) (Int.le_of_lt bm)
    omega
  obtain ⟨Q, hQ⟩ : ∃ x, x = u / v := ⟨_, rfl⟩
  have hdm : Q * v + u % v = u := by rw [hQ, Int.mul_comm]; exact Int.mul_ediv_add_emod u v
  have hr0 := Int.emod_nonneg u (show v ≠ 0 by omega)
  have hr1 := Int.emod_lt_of_pos u hv0
  have hQ0 : 0 ≤ Q := by rw [hQ]; exact Int.ediv_nonneg hu0 (Int.le_of_lt hv0)
  have hQ1 : Q < 1073741824 := by rw [hQ]; exact Int.ediv_lt_of_lt_mul hv0 (by rw [Int.mul_comm]; exact huv)
  have hQu : u < (Q + 1) * v := by rw [Int.add_mul]; omega
  have hQv : Q * v ≤ u := by omega
  have hvb : (vh * 1073741824 + vl) * pB m ≤ v := by omega
  have hvb2 : v < (vh * 1073741824 + vl + 1) * pB m := by rw [Int.add_mul _ 1]; omega
  have hub : (U2 * 1073741824 + ul) * pB m ≤ u := by omega
  have hub2 : u < (U2 * 1073741824 + ul + 1) * pB m := by rw [Int.add_mul _ 1]; omega
  have hub3 : u < (U2 + 1) * (pB m * 1073741824) := by
    have := Int.mul_le_mul_of_nonneg_right (show U2 * 1073741824 + ul + 1 ≤ (U2 + 1) * 1073741824 by omega) (Int.le_of_lt bm)
    have e : (U2 + 1) * (pB m * 1073741824) = (U2 + 1) * 1073741824 * pB m := by grind
    omega
  have hub4 : U2 * (pB m * 1073741824) ≤ u := by
    have := Int.mul_le_mul_of_nonneg_right (show U2 * 1073741824 ≤ U2 * 1073741824 + ul by omega) (Int.le_of_lt bm)
    have e : U2 * (pB m * 1073741824) = U2 * 1073741824 * pB m := by grind
    omega
  have hvb3 : vh * (pB m * 1073741824) ≤ v := by
    have := Int.mul_le_mul_of_nonneg_right (show vh * 1073741824 ≤ vh * 1073741824 + vl by omega) (Int.le_of_lt bm)
    have e : vh * (pB m * 1073741824) = vh * 1073741824 * pB m := by grind
    omega
  have hvb4 : v < (vh + 1) * (pB m * 1073741824) := by
    have := Int.mul_le_mul_of_nonneg_right (show vh * 1073741824 + vl + 1 ≤ (vh + 1) * 1073741824 by omega) (Int.le_of_lt bm)
    have e : (vh + 1) * (pB m * 1073741824) = (vh + 1) * 1073741824 * pB m := by grind
    omega
  have hbb : 0 < pB m * 1073741824 := by omega
  have hU20 : 0 ≤ U2 := by omega
  -- the first guess
  obtain ⟨g0, hg0⟩ : ∃ x, x = min (U2 / vh) 1073741823 := ⟨_, rfl⟩
  have hdiv : U2 / vh * vh + U2 % vh = U2 := by rw [Int.mul_comm]; exact Int.mul_ediv_add_emod U2 vh
  have hdr := Int.emod_nonneg U2 (show vh ≠ 0 by omega)
  have hdl := Int.emod_lt_of_pos U2 (show 0 < vh by omega)
  have hdq : 0 ≤ U2 / vh := Int.ediv_nonneg hU20 (by omega)
  have hg00 : 0 ≤ g0 := by omega
  have hg01 : g0 ≤ 1073741823 := by omega
  have hgv : g0 * vh ≤ U2 := by
    have := Int.mul_le_mul_of_nonneg_right (show g0 ≤ U2 / vh by omega) (show 0 ≤ vh by omega)
    omega
  have hge : Q ≤ g0 := by
    have h9 := guess_hi hbb hQv hvb3 hub3 hQ0
    have : Q ≤ U2 / vh := (Int.le_ediv_iff_mul_le (by omega)).mpr h9
    omega
  have hle2 : g0 ≤ Q + 2 := guess_2 hbb hgv hg01 hg00 hvb4 hvb3 htop hub4 hQu
  unfold f_Na_takeMultiple
  rw [hn]
  rw [show (((m + 2 : Nat) : Int) - 1).toNat = m + 1 by omega, ← hvh]
  refine ok_ck hq (ok_ck hp (ok_ck ⟨by omega, by omega, by omega⟩ (ok_ck ⟨by omega, by omega⟩ (ok_nb (ok_if (fun c => by omega) (fun _ => ?_))))))
  rw [show ((P : Int) + ((m + 2 : Nat) : Int)).toNat = P + (m + 2) by omega, show ((P : Int) + ((m + 2 : Nat) : Int) - 1).toNat = P + (m + 1) by omega, ← hu2, ← hu1]
  refine ok_ck ⟨by omega, by omega, by omega⟩ (ok_ck ⟨by omega, by omega⟩ (ok_ck ⟨by omega, by omega, by omega⟩ (ok_ck ⟨by omega, by omega⟩ (ok_nb ?_))))
  rw [← hU2]
  have hqle : U2 / vh ≤ U2 := Int.ediv_le_self vh hU20
  refine ok_ck ⟨by omega, by omega⟩ (ok_ck ⟨by omega, by omega⟩ (ok_ck ⟨by omega, by omega⟩ (ok_nb ?_)))
  rw [← hg0]
  -- the guess mended
  refine ok_bm (L_Na_takeMultiple_78 E q p (P : Int) _ vh (I := fun N g r i => N = M ∧ 0 ≤ r ∧ r = U2 - g * vh ∧ Q ≤ g ∧ g ≤ 1073741823 ∧ 0 ≤ i ∧ i ≤ 2 ∧ (g * vl ≤ r * 1073741824 + ul ∨ 1073741823 < r ∨ g + i ≤ Q + 2)) (μ := fun _ _ _ i => 3 - i.toNat) (Q := fun r => r.1 = 1 ∧ r.2.2.2.2 = M ∧ Q ≤ r.2.1 ∧ r.2.1 ≤ Q + 1 ∧ r.2.1 ≤ 1073741823) ?_ FU M g0 (U2 - g0 * vh) 0 ⟨rfl, by omega, rfl, hge, hg01, by omega, by omega, Or.inr (Or.inr (by omega))⟩ (by show 3 - _ < 5000; omega)) ?_
  · rintro N g r i ⟨rfl, hr0', hr, h1, h2, h3, h4, h5⟩
    have g0' : 0 ≤ g := by omega
    have fin : (g * vl ≤ r * 1073741824 + ul ∨ 1073741823 < r) → g ≤ Q + 1 := by
      intro h
      refine guess_1 bm g0' h2 hvb2 (by rw [show vh * 1073741824 * pB m = vh * (pB m * 1073741824) by grind]; exact hvb3) (by omega) hub ?_ hQu
      rw [← hr]
      rcases h with h | h
      · exact h
      · have := Int.mul_le_mul_of_nonneg_right h2 gvl.1
        omega
    unfold Na_takeMultiple_78b
    refine ok_ck hq (ok_ck hp (ok_ck ⟨by omega, by omega⟩ (ok_if (fun c => ?_) (fun c => ?_))))
    · refine ok_some (ok_out (by show (1 : Nat) ≠ 0; decide) ⟨rfl, rfl, h1, ?_, h2⟩)
      rcases h5 with h5 | h5 | h5
      · exact fin (Or.inl h5)
      · exact fin (Or.inr h5)
      · show g ≤ Q + 1
        omega
    · have hgvh : 0 ≤ g * vh := Int.mul_nonneg g0' (by omega)
      have hgvh2 := Int.mul_le_mul_of_nonneg_right h2 (show 0 ≤ vh by omega)
      refine ok_ck ⟨by omega, by omega⟩ (ok_if (fun c2 => ?_) (fun c2 => ?_))
      · exact ok_some (ok_out (by show (1 : Nat) ≠ 0; decide) ⟨rfl, rfl, h1, fin (Or.inr c2), h2⟩)
      · rw [hn, show (((m + 2 : Nat) : Int) - 2).toNat = m by omega, show ((P : Int) + ((m + 2 : Nat) : Int) - 2).toNat = P + m by omega, ← hvl, ← hul]
        have hgvl : 0 ≤ g * vl := Int.mul_nonneg g0' gvl.1
        have hgvl2 := Int.mul_le_mul_of_nonneg_right h2 gvl.1
        refine ok_ck ⟨by omega, by omega, by omega⟩ (ok_ck ⟨by omega, by omega⟩ (ok_ck ⟨by omega, by omega, by omega⟩ (ok_ck ⟨by omega, by omega⟩ (ok_ck ⟨by omega, by omega⟩ (ok_ck ⟨by omega, by omega⟩ (ok_if (fun c3 => ?_) (fun c3 => ?_)))))))
        · exact ok_some (ok_go rfl ⟨⟨rfl, hr0', hr, h1, h2, by show 0 ≤ i + 1; omega, by show i + 1 ≤ 2; omega, Or.inl c3⟩, by show 3 - (i + 1).toNat < 3 - i.toNat; omega⟩)
        · have hgt : Q < g := guess_gt bm g0' hvb hub2 (by rw [← hr]; omega) hQu hQv hv0
          have h6 : g + i ≤ Q + 2 := by
            rcases h5 with h5 | h5 | h5
            · omega
            · omega
            · exact h5
          exact ok_some (ok_go rfl ⟨⟨rfl, by show 0 ≤ r + vh; omega, by show r + vh = U2 - (g - 1) * vh; rw [hr, Int.sub_mul]; omega, by show Q ≤ g - 1; omega, by show g - 1 ≤ 1073741823; omega, by show 0 ≤ i + 1; omega, by show i + 1 ≤ 2; omega, Or.inr (Or.inr (by show g - 1 + (i + 1) ≤ Q + 2; omega))⟩, by show 3 - (i + 1).toNat < 3 - i.toNat; omega⟩)
  · rintro ⟨t, g, r, i, N⟩ ⟨h0, h1, h2, h3, h4⟩
    have h1 : N = M := h1
    subst h1
    have h2 : Q ≤ g := h2
    have h3 : g ≤ Q + 1 := h3
    have h4 : g ≤ 1073741823 := h4
    refine ok_ck h0 ?_
    unfold Na_takeMultiple_j146
    refine ok_ck hq (ok_ck hp (ok_bm (ok_subMul hq hp hap hn hv hu hP (show -1 ≤ g by omega) h4) fun x hx => ?_))
    obtain ⟨w, K⟩ := x
    obtain ⟨k1, k2, k3, k4, k5, k6⟩ := hx
    have k1 : Off (fun i => i = q + 1) N K := k1
    have k6 : Sg (fun i => K (q + 1) (P + i)) (m + 2 + 1) + w * pB (m + 2 + 1) = Sg (fun i => N (q + 1) (P + i)) (m + 2 + 1) - g * Sg (N (p + 1)) (m + 2) := k6
    rw [huS, hvS] at k6
    have hLK : Lr (fun i => K (q + 1) (P + i)) (m + 2 + 1) := fun i hi => k2 _ (by omega)
    have hvB : v < pB (m + 2 + 1) := by
      have h7 := hv.hi
      rw [hvS] at h7
      have h8 := pB_le (show m + 2 ≤ m + 2 + 1 by omega)
      omega
    refine ok_ck ⟨by omega, by omega⟩ (ok_if (fun c => ?_) (fun c => ?_))
    · have hg : g = Q := by
        rcases Int.lt_or_le Q g with d | d
        · exfalso
          have e : g = Q + 1 := by omega
          subst e
          have := Int.mul_nonneg (show 0 ≤ w by omega) (Int.le_of_lt (pB_pos (m + 2 + 1)))
          have := hLK.lo
          omega
        · omega
      subst hg
      have hw := carry0 k6 hLK.lo hLK.hi (by omega) (by omega)
      rw [hw] at k6
      exact ok_some ⟨hQ, by rw [← hQ]; omega, by rw [← hQ]; omega, k1, k2, k3, by show Sg (fun i => K (q + 1) (P + i)) (m + 2 + 1) = u % v; omega⟩
    · have hg : g = Q + 1 := by
        rcases Int.lt_or_le Q g with d | d
        · omega
        · exfalso
          have e : g = Q := by omega
          subst e
          have hw := carry0 k6 hLK.lo hLK.hi (by omega) (by omega)
          omega
      subst hg
      rw [Int.add_mul] at k6
      have hw : w = -1 := by
        have e : Sg (fun i => K (q + 1) (P + i)) (m + 2 + 1) + (w + 1) * pB (m + 2 + 1) = u % v - v + pB (m + 2 + 1) := by rw [Int.add_mul w 1]; omega
        have := carry0 e hLK.lo hLK.hi (by omega) (by omega)
        omega
      have hnK : K p 1 = ((m + 2 : Nat) : Int) := by rw [k1 p a1]; exact hn
      have hvK : K (p + 1) = N (p + 1) := k1 _ a3
      refine ok_bm (ok_subMul (f := -1) hq hp hap hnK (by rw [hvK]; exact hv) k2 hP (by omega) (by omega)) fun x hx => ?_
      obtain ⟨w2, K2⟩ := x
      obtain ⟨l1, l2, l3, l4, l5, l6⟩ := hx
      have l1 : Off (fun i => i = q + 1) K K2 := l1
      have l6 : Sg (fun i => K2 (q + 1) (P + i)) (m + 2 + 1) + w2 * pB (m + 2 + 1) = Sg (fun i => K (q + 1) (P + i)) (m + 2 + 1) - -1 * Sg (K (p + 1)) (m + 2) := l6
      rw [hvK, hvS] at l6
      have hLK2 : Lr (fun i => K2 (q + 1) (P + i)) (m + 2 + 1) := fun i hi => l2 _ (by omega)
      have hw2 : w2 = 1 := by
        have e : Sg (fun i => K2 (q + 1) (P + i)) (m + 2 + 1) + (w2 - 1) * pB (m + 2 + 1) = u % v := by rw [Int.sub_mul]; rw [hw] at k6; omega
        have := carry0 e hLK2.lo hLK2.hi (by omega) (by omega)
        omega
      rw [hw2] at l6
      rw [hw] at k6
      refine ok_some ⟨by show Q + 1 - 1 = u / v; omega, by rw [← hQ]; omega, by rw [← hQ]; omega, k1.trans l1, l2, fun i hi => (l3 i hi).trans (k3 i hi), ?_⟩
      show Sg (fun i => K2 (q + 1) (P + i)) (m + 2 + 1) = u % v
      omega
/-- a / d and a % d -/
def n3 (q0 q2 q3 i : Nat) : Prop := nn q0 i ∨ nn q2 i ∨ nn q3 i
theorem pow2_sh {top : Int} {k : Nat} (hk : k ≤ 30) (h0 : 0 ≤ top) (h : top * 2 ^ k < 1073741824) : (top + 1) * 2 ^ k ≤ 1073741824 := by
  have key : ∀ k : Nat, k < 31 → (2 : Int) ^ k * 2 ^ (30 - k) = 1073741824 := by decide
  have hk2 := key k (by omega)
  have hp : (0 : Int) < 2 ^ k := Int.pow_pos (by decide)
  have h2 : top < 2 ^ (30 - k) := by
    rw [← hk2, Int.mul_comm] at h
    exact Int.lt_of_mul_lt_mul_left h (Int.le_of_lt hp)
  have := Int.mul_le_mul_of_nonneg_right (show top + 1 ≤ 2 ^ (30 - k) by omega) (Int.le_of_lt hp)
  rw [Int.mul_comm (2 ^ (30 - k))] at this
  omega
set_option maxHeartbeats 2000000 in
theorem ok_divide {E : Ev} {M : Mm} {q0 q1 q2 q3 : Nat} {a d : Int} (h0 : isNa E q0) (h1 : isNa E q1) (h2 : isNa E q2) (h3 : isNa E q3) (a01 : ap q0 q1) (a02 : ap q0 q2) (a03 : ap q0 q3) (a12 : ap q1 q2) (a13 : ap q1 q3) (a23 : ap q2 q3) (ha : NatAt M q0 a) (hd : NatAt M q1 d) (hd0 : 0 < d) (halt : a < pB 11) : Ok (f_Na_divide E M q0 q1 q2 q3) (fun N => NatAt N q0 (a % d) ∧ NatAt N q2 (a / d) ∧ Off (n3 q0 q2 q3) M N) := by
  obtain ⟨s, ha⟩ := ha
  obtain ⟨n, hd⟩ := hd
  have ha0 := ha.lo
  have hn13 := hd.2.1
  unfold f_Na_divide
  rw [hd.1]
  refine ok_ck h0 (ok_ck h1 (ok_ck h2 (ok_ck h3 (ok_ck (rgI_nat (by omega)) (ok_if (fun c => ?_) (fun c => ?_))))))
  · -- two limbs and more
    obtain ⟨m, rfl⟩ : ∃ m, n = m + 2 := ⟨n - 2, by omega⟩
    obtain ⟨top, htop⟩ : ∃ x, x = M (q1 + 1) (m + 1) := ⟨_, rfl⟩
    have gtop := hd.2.2.1 (m + 1) (by omega)
    have gtop1 := hd.2.2.2.1 (by omega)
    rw [show m + 2 - 1 = m + 1 by omega, ← htop] at gtop1
    rw [← htop] at gtop
    have hdtop := Sg_top (M (q1 + 1)) (m + 1) hd.2.2.1
    rw [hd.2.2.2.2, ← htop] at hdtop
    refine ok_bm (L_Na_divide_43 E q0 q1 q2 q3 (I := fun N x => N = M ∧ ∃ k : Nat, x = (k : Int) ∧ k ≤ 29 ∧ top * 2 ^ k < 1073741824) (μ := fun _ x => 40 - x.toNat) (Q := fun r => r.1 = 1 ∧ r.2.2 = M ∧ ∃ k : Nat, r.2.1 = (k : Int) ∧ k ≤ 29 ∧ top * 2 ^ k < 1073741824 ∧ 536870912 ≤ top * 2 ^ k) ?_ FU M 0 ⟨rfl, 0, rfl, by omega, by show top * 1 < _; omega⟩ (by show 40 - _ < 5000; omega)) ?_
    · rintro N x ⟨rfl, k, rfl, hk, hlt⟩
      unfold Na_divide_43b
      rw [hd.1, show (((m + 2 : Nat) : Int) - 1).toNat = m + 1 by omega, ← htop, Int.toNat_natCast]
      have hp : (0 : Int) < 2 ^ k := Int.pow_pos (by decide)
      have hnn : 0 ≤ top * 2 ^ k := Int.mul_nonneg gtop.1 (Int.le_of_lt hp)
      refine ok_ck h0 (ok_ck h1 (ok_ck h2 (ok_ck h3 (ok_ck (rgI_nat (by omega)) (ok_if (fun c2 => by omega) (fun c2 => ok_ck ⟨by omega, by omega, by omega⟩ (ok_ck ⟨by omega, by omega⟩ (ok_ck ⟨by omega, by omega⟩ (ok_ck ⟨by omega, by omega⟩ (ok_if (fun c3 => ?_) (fun c3 => ?_)))))))))))
      · have hk29 : k ≤ 28 := by
          rcases Nat.lt_or_ge k 29 with g | g
          · omega
          · exfalso
            have e : k = 29 := by omega
            subst e
            have : (2 : Int) ^ 29 = 536870912 := by decide
            rw [this] at c3 hnn
            omega
        refine ok_some (ok_go rfl ⟨⟨rfl, k + 1, by show (k : Int) + 1 = _; omega, by omega, ?_⟩, by show 40 - ((k : Int) + 1).toNat < 40 - (k : Int).toNat; omega⟩)
        rw [Int.pow_succ, ← Int.mul_assoc]
        omega
      · exact ok_some (ok_out (by show (1 : Nat) ≠ 0; decide) ⟨rfl, rfl, k, rfl, hk, hlt, by omega⟩)
    · rintro ⟨t, x, N⟩ ⟨g0, g1, k, g2, hk, hlt, hge⟩
      have g1 : N = M := g1
      have g2 : x = (k : Int) := g2
      subst g1
      subst g2
      refine ok_ck g0 ?_
      unfold Na_divide_j76
      obtain ⟨F, hF⟩ : ∃ x, x = (2 : Int) ^ k := ⟨_, rfl⟩
      have hF0 : 0 < F := by rw [hF]; exact Int.pow_pos (by decide)
      have hF1 : F ≤ 536870912 := by
        have key : ∀ k : Nat, k < 30 → (2 : Int) ^ k ≤ 536870912 := by decide
        rw [hF]; exact key k (by omega)
      have hFt := pow2_sh (show k ≤ 30 by omega) gtop.1 hlt
      rw [← hF] at hFt hge hlt
      -- D = d * F, A = a * F
      obtain ⟨D, hD⟩ : ∃ x, x = d * F := ⟨_, rfl⟩
      obtain ⟨A, hA⟩ : ∃ x, x = a * F := ⟨_, rfl⟩
      have bm := pB_pos (m + 1)
      have hDlo : 536870912 * pB (m + 1) ≤ D := by
        have e1 := Int.mul_le_mul_of_nonneg_right hdtop.1 (Int.le_of_lt hF0)
        have e2 := Int.mul_le_mul_of_nonneg_right hge (Int.le_of_lt bm)
        have e3 : top * pB (m + 1) * F = top * F * pB (m + 1) := by grind
        omega
      have hDhi : D < pB (m + 2) := by
        have e1 := Int.mul_le_mul_of_nonneg_right (show d ≤ (top + 1) * pB (m + 1) - 1 by omega) (Int.le_of_lt hF0)
        have e2 := Int.mul_le_mul_of_nonneg_right hFt (Int.le_of_lt bm)
        have e3 : ((top + 1) * pB (m + 1) - 1) * F = (top + 1) * F * pB (m + 1) - F := by grind
        have e4 : pB (m + 2) = 1073741824 * pB (m + 1) := by rw [Int.mul_comm]; rfl
        omega
      have hA0 : 0 ≤ A := by rw [hA]; exact Int.mul_nonneg ha0 (Int.le_of_lt hF0)
      have hA12 : A < pB 12 := by
        have e1 := Int.mul_le_mul_of_nonneg_left (show F ≤ 1073741824 by omega) ha0
        have e2 : pB 12 = pB 11 * 1073741824 := rfl
        omega
      have hm11 : m + 2 ≤ 13 := hn13
      have hp13 : pB (m + 2) ≤ pB 13 := pB_le hm11
      have hp12 : pB 12 ≤ pB 13 := pB_le (by omega)
      refine ok_ck h0 (ok_ck h1 (ok_ck h2 (ok_ck h3 (ok_bm (ok_copy h3 h1 a13.symm hd) fun N1 hN1 => ok_ck ⟨by omega, by omega⟩ ?_))))
      rw [Int.toNat_natCast, ← hF]
      refine ok_bm (ok_mulSmall h3 ⟨_, hN1.1⟩ (Int.le_of_lt hF0) (by omega) (by rw [← hD]; omega)) fun N2 hN2 => ok_ck ⟨by omega, by omega⟩ ?_
      have o2 : Off (nn q3) N N2 := hN1.2.trans hN2.2
      refine ok_bm (ok_mulSmall h0 ⟨_, ha.off o2 a03.symm.n0 a03.symm.n1⟩ (Int.le_of_lt hF0) (by omega) (by rw [← hA]; omega)) fun N3 hN3 => ?_
      rw [← hA] at hN3
      rw [← hD] at hN2
      obtain ⟨⟨s3, hs3⟩, o3⟩ := hN3
      have hD3 : NatAt N3 q3 D := hN2.1.off o3 a03.n0 a03.n1
      obtain ⟨n3', hD3⟩ := hD3
      -- D has as many limbs as d
      have en : n3' = m + 2 := by
        have e1 := hD3.size_le hDhi
        rcases Nat.lt_or_ge n3' (m + 2) with g | g
        · exfalso
          have e2 := hD3.hi
          have e3 := pB_le (show n3' ≤ m + 1 by omega)
          omega
        · omega
      subst en
      have hs12 : s3 ≤ 12 := hs3.size_le hA12
      have hDtop : 536870912 ≤ N3 (q3 + 1) (m + 1) := by
        have e1 := Sg_top (N3 (q3 + 1)) (m + 1) hD3.2.2.1
        rw [hD3.2.2.2.2] at e1
        rcases Int.lt_or_le (N3 (q3 + 1) (m + 1)) 536870912 with g | g
        · exfalso
          have := Int.mul_le_mul_of_nonneg_right (show N3 (q3 + 1) (m + 1) + 1 ≤ 536870912 by omega) (Int.le_of_lt bm)
          omega
        · exact g
      rw [hs3.1]
      -- zeros above
      refine ok_bm (L_Na_divide_103 E q0 q2 q3 (k : Int) (I := fun K x => ∃ j : Nat, x = (j : Int) ∧ s3 ≤ j ∧ j ≤ 13 ∧ Off (fun i => i = q0 + 1) N3 K ∧ (∀ i, i < s3 → K (q0 + 1) i = N3 (q0 + 1) i) ∧ ∀ i, s3 ≤ i → i < j → K (q0 + 1) i = 0) (μ := fun _ x => 13 - x.toNat) (Q := fun r => r.1 = 1 ∧ Off (fun i => i = q0 + 1) N3 r.2.2 ∧ (∀ i, i < s3 → r.2.2 (q0 + 1) i = N3 (q0 + 1) i) ∧ ∀ i, s3 ≤ i → i < 13 → r.2.2 (q0 + 1) i = 0) ?_ FU N3 _ ⟨s3, rfl, Nat.le_refl _, by omega, Off.refl, fun _ _ => rfl, fun i g1 g2 => by omega⟩ (by show 13 - _ < 5000; omega)) ?_
      · rintro K x ⟨j, rfl, hj1, hj2, ho, e1, e2⟩
        unfold Na_divide_103b
        refine ok_ck h0 (ok_ck h2 (ok_ck h3 (ok_ck (rgI_nat (by omega)) (ok_if (fun c2 => ?_) (fun c2 => ?_)))))
        · exact ok_some (ok_out (by show (1 : Nat) ≠ 0; decide) ⟨rfl, ho, e1, fun i g1 g2 => e2 i g1 (by omega)⟩)
        · refine ok_ck ⟨by omega, by omega, by omega⟩ (ok_some (ok_go rfl ⟨⟨j + 1, by show (j : Int) + 1 = _; omega, by omega, by omega, ho.u2 rfl, fun i hi => ?_, fun i g1 g2 => ?_⟩, by show 13 - ((j : Int) + 1).toNat < 13 - (j : Int).toNat; omega⟩))
          · show u2 K (q0 + 1) (j : Int).toNat 0 (q0 + 1) i = _
            rw [u2_ne (Or.inr (by omega))]; exact e1 i hi
          · show u2 K (q0 + 1) (j : Int).toNat 0 (q0 + 1) i = 0
            by_cases e : i = j
            · rw [Int.toNat_natCast, e, u2_at]
            · rw [u2_ne (Or.inr (by omega))]; exact e2 i g1 (by omega)
      · rintro ⟨t4, x4, N4⟩ ⟨g4, o4, e41, e42⟩
        have o4 : Off (fun i => i = q0 + 1) N3 N4 := o4
        have e41 : ∀ i, i < s3 → N4 (q0 + 1) i = N3 (q0 + 1) i := e41
        have e42 : ∀ i, s3 ≤ i → i < 13 → N4 (q0 + 1) i = 0 := e42
        have hL4 : Lr (N4 (q0 + 1)) 13 := fun i hi => by
          rcases Nat.lt_or_ge i s3 with g | g
          · rw [e41 i g]; exact hs3.2.2.1 i g
          · rw [e42 i g hi]; exact ⟨by decide, by decide⟩
        have hS4 : Sg (N4 (q0 + 1)) 13 = A := by
          rw [Sg_zeros (m := s3) (by omega) e42, Sg_congr e41]
          exact hs3.2.2.2.2
        obtain ⟨-, b1, b2, b3⟩ := a02.q1
        obtain ⟨-, c1, c2, c3⟩ := a03.q1
        obtain ⟨-, f1, f2, f3⟩ := a23.q1
        refine ok_ck g4 (ok_bm (ok_fillI (n := 13) h2.1 h2.2.2.2 (by omega)) fun N5 hN5 => ?_)
        obtain ⟨o5, z5, -⟩ := hN5
        have r50 : N5 (q0 + 1) = N4 (q0 + 1) := o5 _ (by omega)
        have r5s : N5 q0 1 = (s3 : Int) := by rw [o5 q0 (by omega), o4 q0 (by omega)]; exact hs3.1
        have r5n : N5 q3 1 = ((m + 2 : Nat) : Int) := by rw [o5 q3 (by omega), o4 q3 (by omega)]; exact hD3.1
        have r5d : N5 (q3 + 1) = N3 (q3 + 1) := by rw [o5 (q3 + 1) (by omega), o4 (q3 + 1) (by omega)]
        rw [r5s, r5n]
        refine ok_ck (rgI_nat (by omega)) (ok_nb ?_)
        have hz5 : Sg (N5 (q2 + 1)) 13 = 0 := by rw [Sg_zeros (m := 0) (by omega) (fun i _ hi => z5 i hi)]; rfl
        -- the places, from the highest down
        refine ok_bm (L_Na_divide_148 E q0 q2 q3 (k : Int) (I := fun K x => ∃ j : Nat, (x = (j : Int) - 1 ∨ (x < 0 ∧ j = 0)) ∧ -14 ≤ x ∧ j + (m + 2) ≤ 13 + 1 ∧ (j + (m + 2) ≤ 13 ∨ j = 0) ∧ Off (fun i => i = q0 + 1 ∨ i = q2 + 1) N5 K ∧ Lr (K (q0 + 1)) 13 ∧ Lr (K (q2 + 1)) 13 ∧ (∀ i, i < j → K (q2 + 1) i = 0) ∧ Sg (K (q0 + 1)) 13 < D * pB j ∧ A = Sg (K (q0 + 1)) 13 + D * Sg (K (q2 + 1)) 13) (μ := fun _ x => (x + 1).toNat) (Q := fun r => r.1 = 1 ∧ Off (fun i => i = q0 + 1 ∨ i = q2 + 1) N5 r.2.2 ∧ Lr (r.2.2 (q0 + 1)) 13 ∧ Lr (r.2.2 (q2 + 1)) 13 ∧ Sg (r.2.2 (q0 + 1)) 13 < D ∧ A = Sg (r.2.2 (q0 + 1)) 13 + D * Sg (r.2.2 (q2 + 1)) 13) ?_ FU N5 _ ?_ (by show (min (s3 : Int) 12 - ((m + 2 : Nat) : Int) + 1).toNat < 5000; omega)) ?_
        · rintro K x ⟨j, hx, hx14, hj14, hj13, ho, hL0, hL2, hz, hlt2, hsum⟩
          unfold Na_divide_148b
          refine ok_ck h0 (ok_ck h2 (ok_ck h3 (ok_ck ⟨by omega, by omega⟩ (ok_if (fun cx => ?_) (fun cx => ?_)))))
          · have ej : j = 0 := by omega
            subst ej
            exact ok_some (ok_out (by show (1 : Nat) ≠ 0; decide) ⟨rfl, ho, hL0, hL2, by have e : D * pB 0 = D := Int.mul_one D; show Sg (K (q0 + 1)) 13 < D; omega, hsum⟩)
          · obtain ⟨j', rfl⟩ : ∃ j', j = j' + 1 := ⟨j - 1, by omega⟩
            have ex : x = (j' : Int) := by omega
            subst ex
            have rKn : K q3 1 = ((m + 2 : Nat) : Int) := by rw [ho q3 (by omega)]; exact r5n
            have rKd : K (q3 + 1) = N3 (q3 + 1) := by rw [ho (q3 + 1) (by omega)]; exact r5d
            -- the part at this place
            obtain ⟨u, hu⟩ : ∃ u, u = Sg (fun i => K (q0 + 1) (j' + i)) (m + 2 + 1) := ⟨_, rfl⟩
            have hup : Sg (K (q0 + 1)) 13 < pB (j' + (m + 2) + 1) := by
              have e1 := Int.mul_le_mul_of_nonneg_right (show D ≤ pB (m + 2) by omega) (Int.le_of_lt (pB_pos (j' + 1)))
              rw [← pB_add, show m + 2 + (j' + 1) = j' + (m + 2) + 1 by omega] at e1
              omega
            have hsplit : ∀ y : Nat → Int, (∀ i, j' + (m + 2) + 1 ≤ i → i < 13 → y i = 0) → Sg y 13 = Sg y j' + pB j' * Sg (fun i => y (j' + i)) (m + 2 + 1) := fun y hy => by
              rw [Sg_zeros (m := j' + (m + 2 + 1)) (by omega) (fun i g1 g2 => hy i (by omega) g2)]
              exact Sg_shift y j' (m + 2 + 1)
            have hK13 := hsplit (K (q0 + 1)) (fun i g1 g2 => Sg_top0 hL0 hup g1 g2)
            rw [← hu] at hK13
            have hlow := (hL0.mono (show j' ≤ 13 by omega)).lo
            have hlowhi := (hL0.mono (show j' ≤ 13 by omega)).hi
            have bj := pB_pos j'
            have huD : u < D * 1073741824 := by
              have e1 : pB j' * u < pB j' * (D * 1073741824) := by
                have e2 : D * pB (j' + 1) = pB j' * (D * 1073741824) := by rw [pB_succ]; grind
                omega
              exact Int.lt_of_mul_lt_mul_left e1 (Int.le_of_lt bj)
            have hDpos : 0 < D := by omega
            refine ok_bm (ok_takeMul (v := D) (u := u) (n := m + 2) h0 h3 a03 rKn (by omega) (by rw [rKd]; exact hD3.2.2.1) (by rw [rKd]; exact hD3.2.2.2.2) (by rw [rKd, show m + 2 - 1 = m + 1 by omega]; exact hDtop) hL0 (by omega) hu.symm huD) fun y hy => ?_
            obtain ⟨w, K2⟩ := y
            obtain ⟨y1, y2, y3, y4, y5, y6, y7⟩ := hy
            have y1 : w = u / D := y1
            have y4 : Off (fun i => i = q0 + 1) K K2 := y4
            have y5 : Lr (K2 (q0 + 1)) 13 := y5
            have y6 : ∀ i, (i < j' ∨ j' + (m + 2) < i) → K2 (q0 + 1) i = K (q0 + 1) i := y6
            have y7 : Sg (fun i => K2 (q0 + 1) (j' + i)) (m + 2 + 1) = u % D := y7
            have r22 : K2 (q2 + 1) = K (q2 + 1) := y4 _ (by omega)
            have hK213 := hsplit (K2 (q0 + 1)) (fun i g1 g2 => by rw [y6 i (by omega)]; exact Sg_top0 hL0 hup g1 g2)
            rw [y7, Sg_congr (fun i hi => y6 i (Or.inl hi))] at hK213
            have hr0 := Int.emod_nonneg u (show D ≠ 0 by omega)
            have hr1 := Int.emod_lt_of_pos u hDpos
            have hdm : u / D * D + u % D = u := by rw [Int.mul_comm]; exact Int.mul_ediv_add_emod u D
            refine ok_ck ⟨by omega, by omega, by omega⟩ (ok_some (ok_go rfl ⟨⟨j', Or.inl (by show (j' : Int) + -1 = _; omega), by show -14 ≤ (j' : Int) + -1; omega, by omega, by omega, ?_, ?_, ?_, fun i hi => ?_, ?_, ?_⟩, by show ((j' : Int) + -1 + 1).toNat < ((j' : Int) + 1).toNat; omega⟩))
            · exact (ho.trans (y4.mono fun i hi => Or.inl hi)).u2 (Or.inr rfl)
            · show Lr (u2 K2 (q2 + 1) (j' : Int).toNat w (q0 + 1)) 13
              rw [u2_row (by omega)]; exact y5
            · show Lr (u2 K2 (q2 + 1) (j' : Int).toNat w (q2 + 1)) 13
              rw [u2_rowself, r22]
              exact Lr_upd hL2 (by omega) (by omega)
            · show u2 K2 (q2 + 1) (j' : Int).toNat w (q2 + 1) i = 0
              rw [u2_ne (Or.inr (by omega)), r22]
              exact hz i (by omega)
            · show Sg (u2 K2 (q2 + 1) (j' : Int).toNat w (q0 + 1)) 13 < D * pB j'
              rw [u2_row (by omega), hK213]
              have e1 := Int.mul_le_mul_of_nonneg_left (show u % D ≤ D - 1 by omega) (Int.le_of_lt bj)
              rw [Int.mul_sub, Int.mul_comm (pB j') D] at e1
              omega
            · show A = Sg (u2 K2 (q2 + 1) (j' : Int).toNat w (q0 + 1)) 13 + D * Sg (u2 K2 (q2 + 1) (j' : Int).toNat w (q2 + 1)) 13
              rw [u2_row (by omega), u2_rowself, r22, Int.toNat_natCast, Sg_upd (by omega), hz j' (by omega), hK213, hsum, hK13, y1]
              generalize u / D = g at *
              generalize u % D = h at *
              subst hdm
              grind
        · rcases Nat.lt_or_ge s3 (m + 2) with g | g
          · refine ⟨0, Or.inr ⟨by omega, rfl⟩, by omega, by omega, Or.inr rfl, Off.refl, by rw [r50]; exact hL4, fun i hi => by rw [z5 i hi]; exact ⟨by decide, by decide⟩, fun i hi => absurd hi (Nat.not_lt_zero i), ?_, by rw [r50, hS4, hz5]; omega⟩
            rw [r50, hS4]
            have e1 := hs3.hi
            have e2 := pB_le (show s3 ≤ m + 1 by omega)
            show A < D * 1
            omega
          · refine ⟨s3 - (m + 2) + 1, Or.inl (by omega), by omega, by omega, Or.inl (by omega), Off.refl, by rw [r50]; exact hL4, fun i hi => by rw [z5 i hi]; exact ⟨by decide, by decide⟩, fun i hi => z5 i (by omega), ?_, by rw [r50, hS4, hz5]; omega⟩
            rw [r50, hS4]
            have e1 := hs3.hi
            have e2 := Int.mul_le_mul_of_nonneg_right (show pB (m + 1) ≤ D by omega) (Int.le_of_lt (pB_pos (s3 - (m + 2) + 1)))
            rw [← pB_add, show m + 1 + (s3 - (m + 2) + 1) = s3 by omega] at e2
            omega
        · rintro ⟨t6, x6, N6⟩ ⟨g6, o6, hL60, hL62, hlt6, hsum6⟩
          have o6 : Off (fun i => i = q0 + 1 ∨ i = q2 + 1) N5 N6 := o6
          have hL60 : Lr (N6 (q0 + 1)) 13 := hL60
          have hL62 : Lr (N6 (q2 + 1)) 13 := hL62
          have hlt6 : Sg (N6 (q0 + 1)) 13 < D := hlt6
          have hsum6 : A = Sg (N6 (q0 + 1)) 13 + D * Sg (N6 (q2 + 1)) 13 := hsum6
          have hU0 := hL60.lo
          refine ok_ck g6 (ok_bm (ok_trim (m := 13) h2 (Nat.le_refl _) hL62) fun N7 hN7 => ?_)
          have r7 : N7 (q0 + 1) = N6 (q0 + 1) := hN7.2 _ (by omega)
          refine ok_bm (ok_trim (m := 13) h0 (Nat.le_refl _) (by rw [r7]; exact hL60)) fun N8 hN8 => ok_ck ⟨by omega, by omega⟩ ?_
          rw [r7] at hN8
          refine ok_bm (ok_divSmall h0 hN8.1 hF0 (by omega)) fun y hy => ?_
          obtain ⟨w, N9⟩ := y
          obtain ⟨-, y2, y3⟩ := hy
          have y2 : NatAt N9 q0 (Sg (N6 (q0 + 1)) 13 / F) := y2
          have y3 : Off (nn q0) N8 N9 := y3
          -- the numbers
          obtain ⟨U, hU⟩ : ∃ x, x = Sg (N6 (q0 + 1)) 13 := ⟨_, rfl⟩
          obtain ⟨Qq, hQq⟩ : ∃ x, x = Sg (N6 (q2 + 1)) 13 := ⟨_, rfl⟩
          rw [← hU] at y2 hlt6 hsum6 hU0
          rw [← hQq] at hsum6
          have eU : U = (a - d * Qq) * F := by rw [Int.sub_mul, ← hA, hsum6, hD]; grind
          have eUF : U / F = a - d * Qq := by rw [eU]; exact Int.mul_ediv_cancel _ (by omega)
          have hlo : 0 ≤ a - d * Qq := by
            rcases Int.lt_or_le (a - d * Qq) 0 with g | g
            · exfalso
              have := Int.mul_le_mul_of_nonneg_right (show a - d * Qq ≤ -1 by omega) (Int.le_of_lt hF0)
              omega
            · exact g
          have hhi : a - d * Qq < d := by
            have e1 : (a - d * Qq) * F < d * F := by rw [← eU, ← hD]; exact hlt6
            exact Int.lt_of_mul_lt_mul_right e1 (Int.le_of_lt hF0)
          obtain ⟨e1, e2⟩ := ediv_of (a := a) (Q := Qq) (d := d) (r := a - d * Qq) (by rw [Int.mul_comm Qq d]; omega) hlo hhi
          refine ok_some ⟨by rw [e2, ← eUF]; exact y2, ?_, ?_⟩
          · rw [e1, hQq]
            exact (hN7.1.off hN8.2 (by show ¬ q2 = q0; omega) (by show ¬ q2 + 1 = q0; omega)).off y3 a02.n0 a02.n1
          · intro i hi
            have n0 : ¬ nn q0 i := fun g => hi (Or.inl g)
            have n2 : ¬ nn q2 i := fun g => hi (Or.inr (Or.inl g))
            have n3' : ¬ nn q3 i := fun g => hi (Or.inr (Or.inr g))
            rw [y3 i n0, hN8.2 i (fun g => n0 (Or.inl g)), hN7.2 i (fun g => n2 (Or.inl g)), o6 i (fun g => g.elim (fun g => n0 (Or.inr g)) (fun g => n2 (Or.inr g))), o5 i (fun g => n2 (Or.inr g)), o4 i (fun g => n0 (Or.inr g)), o3 i n0, o2 i n3']
  · -- one limb
    have en : n = 1 := by
      rcases Nat.eq_zero_or_pos n with g | g
      · have := hd.zero.mp g
        omega
      · omega
    subst en
    have e1 : M (q1 + 1) 0 = d := by
      have h5 : Sg (M (q1 + 1)) 1 = d := hd.2.2.2.2
      have h6 : Sg (M (q1 + 1)) 1 = M (q1 + 1) 0 := by show (0 : Int) + M (q1 + 1) 0 * 1 = _; omega
      omega
    have hd1 : d < 1073741824 := by have := hd.hi; have e : pB 1 = 1073741824 := rfl; omega
    refine ok_bm (ok_copy h2 h0 a02.symm ha) fun N1 hN1 => ?_
    have r1 : N1 q1 1 = ((1 : Nat) : Int) := by rw [hN1.2 q1 a12.symm.n0]; exact hd.1
    have r2 : N1 (q1 + 1) 0 = d := by rw [hN1.2 (q1 + 1) a12.symm.n1]; exact e1
    rw [r1, r2]
    refine ok_ck (by decide) (ok_if (fun c2 => absurd c2 (by decide)) (fun _ => ?_))
    refine ok_bm (ok_divSmall h2 ⟨_, hN1.1⟩ hd0 (by omega)) fun y hy => ?_
    obtain ⟨w, N2⟩ := y
    obtain ⟨y1, y2, y3⟩ := hy
    have y1 : w = a % d := y1
    have y2 : NatAt N2 q2 (a / d) := y2
    have y3 : Off (nn q2) N1 N2 := y3
    have hr0 := Int.emod_nonneg a (show d ≠ 0 by omega)
    have hr1 := Int.emod_lt_of_pos a hd0
    refine ok_ck ⟨by omega, by omega⟩ ?_
    unfold Na_divide_j36
    refine ok_ck h0 (ok_bm (ok_become h0 (show 0 ≤ w by omega) (by omega)) fun N3 hN3 => ok_some ⟨by rw [← y1]; exact hN3.1, y2.off hN3.2 a02.n0 a02.n1, ?_⟩)
    intro i hi
    have n0 : ¬ nn q0 i := fun g => hi (Or.inl g)
    have n2 : ¬ nn q2 i := fun g => hi (Or.inr (Or.inl g))
    rw [hN3.2 i n0, y3 i n2, hN1.2 i n2]
