/-! LISTS: what a call of seats() keeps -/
theorem ks_at {E : Ev} (hL : Lay E) : ∀ j : Nat, j < 21 → isKs E (74 + 5 * j)
  | 0, _ => yo_74 hL
  | 1, _ => yo_79 hL
  | 2, _ => yo_84 hL
  | 3, _ => yo_89 hL
  | 4, _ => yo_94 hL
  | 5, _ => yo_99 hL
  | 6, _ => yo_104 hL
  | 7, _ => yo_109 hL
  | 8, _ => yo_114 hL
  | 9, _ => yo_119 hL
  | 10, _ => yo_124 hL
  | 11, _ => yo_129 hL
  | 12, _ => yo_134 hL
  | 13, _ => yo_139 hL
  | 14, _ => yo_144 hL
  | 15, _ => yo_149 hL
  | 16, _ => yo_154 hL
  | 17, _ => yo_159 hL
  | 18, _ => yo_164 hL
  | 19, _ => yo_169 hL
  | 20, _ => yo_174 hL
  | j + 21, h => absurd h (by omega)
theorem SPL.congr {v al : Nat → Int} {n g K : Nat} {r : Int} {got ord got2 ord2 : Nat → Int} (h : SPL v al n g K r got ord) (h1 : ∀ l, l < n → got2 l = got l) (h2 : ∀ k, k < g → ord2 k = ord k) : SPL v al n g K r got2 ord2 := by
  obtain ⟨a1, a2, a3, a4⟩ := h
  refine ⟨fun l hl => by rw [h1 l hl]; exact a1 l hl, by rw [sN_congr h1]; exact a2, fun i j hi hj q1 q2 q3 => by rw [h1 i hi, h1 j hj]; exact a3 i j hi hj q1 q2 q3, fun na => ?_⟩
  obtain ⟨b1, b2, b3, b4, b5⟩ := a4 na
  refine ⟨fun i hi q => by rw [h1 i hi]; exact b1 i hi q, fun r5 i j hi hj q => ?_, fun r5 q i hi => by rw [h1 i hi]; exact b3 r5 q i hi, fun l hl => ?_, fun k hk => by rw [h2 k hk]; exact b5 k hk⟩
  · rw [h1 i hi] at q ⊢
    rw [h1 j hj]
    exact b2 r5 i j hi hj q
  · rw [h1 l hl, ← b4 l hl]
    exact sN_congr (fun k hk => by rw [h2 k hk])
theorem SPL.vcongr {v al v2 al2 : Nat → Int} {n g K : Nat} {r : Int} {got ord : Nat → Int} (h : SPL v al n g K r got ord) (h1 : ∀ l, l < n → v2 l = v l) (h2 : ∀ l, l < n → al2 l = al l) : SPL v2 al2 n g K r got ord := by
  obtain ⟨a1, a2, a3, a4⟩ := h
  refine ⟨a1, a2, fun i j hi hj q1 q2 q3 => a3 i j hi hj (by rw [← h2 i hi]; exact q1) (by rw [← h2 j hj]; exact q2) (by rw [← h1 i hi, ← h1 j hj]; exact q3), fun na => ?_⟩
  obtain ⟨b1, b2, b3, b4, b5⟩ := a4 (fun l hl => by rw [← h2 l hl]; exact na l hl)
  refine ⟨fun i hi q => b1 i hi (by rw [← h1 i hi]; exact q), fun r5 i j hi hj q => by rw [h1 i hi, h1 j hj]; exact b2 r5 i j hi hj q, fun r5 q i hi => ?_, b4, b5⟩
  rw [sN_congr h1] at q ⊢
  rw [h1 i hi]
  exact b3 r5 q i hi
/-- the latest kept result -/
def KpS (M : Mm) (j : Nat) (v al : Nat → Int) (n g K : Nat) (r : Int) : Prop := j < 21 ∧ M 53 10 = (j : Int) ∧ n ≤ 8 ∧ g ≤ 60 ∧ M (74 + 5 * j) 0 = (g : Int) ∧ (M (74 + 5 * j) 1 = 0 ∨ M (74 + 5 * j) 1 = 1) ∧ M (74 + 5 * j) 2 = (n : Int) ∧ (∀ l, l < n → M (74 + 5 * j + 3) l = v l ∧ M (74 + 5 * j + 4) l = al l) ∧ SPL v al n g K r (M (74 + 5 * j + 2)) (M (74 + 5 * j + 1)) ∧ ((∀ l, l < n → al l = 0) → M (74 + 5 * j) 1 = 0)
theorem KpS.off {M N : Mm} {j : Nat} {v al : Nat → Int} {n g K : Nat} {r : Int} {S : Nat → Prop} (h : KpS M j v al n g K r) (ho : Off S M N) (h53 : N 53 10 = M 53 10) (hS : ∀ c, 74 ≤ c → c ≤ 178 → ¬ S c) : KpS N j v al n g K r := by
  have hj := h.1
  unfold KpS
  rw [h53, ho (74 + 5 * j) (hS _ (by omega) (by omega)), ho (74 + 5 * j + 1) (hS _ (by omega) (by omega)), ho (74 + 5 * j + 2) (hS _ (by omega) (by omega)), ho (74 + 5 * j + 3) (hS _ (by omega) (by omega)), ho (74 + 5 * j + 4) (hS _ (by omega) (by omega))]
  exact h
theorem cpy_at {f g : Nat → Int} {n k : Nat} (h : k < n) : va_cpy f g 0 0 n k = f k := by
  unfold va_cpy
  rw [if_pos ⟨Nat.zero_le _, by omega⟩, Nat.sub_zero, Nat.zero_add]
def oKp (c : Nat) : Prop := c = 53 ∨ (74 ≤ c ∧ c ≤ 178)
theorem keepSpread_ok {E : Ev} {M : Mm} {n g K j : Nat} {r : Int} (hj : j < 21) (h10 : M 53 10 = (j : Int)) (h0 : M 53 0 = (n : Int)) (hn : n ≤ 8) (hg : g ≤ 60) (h1 : M 57 1 = (g : Int)) (h6 : M 53 6 = 0 ∨ M 53 6 = 1) (hS : SPL (M 54) (M 55) n g K r (M 71) (M 63)) (hna : (∀ l, l < n → M 55 l = 0) → M 53 6 = 0) : Ok (f_Li_keepSpread E M) (fun N => Off oKp M N ∧ (∀ k, k ≠ 10 → N 53 k = M 53 k) ∧ ∃ j2, KpS N j2 (M 54) (M 55) n g K r) := by
  obtain ⟨j2, hj2⟩ : ∃ j2 : Nat, (M 53 10 + 1) % 21 = (j2 : Int) := ⟨((M 53 10 + 1) % 21).toNat, by omega⟩
  have hj21 : j2 < 21 := by omega
  unfold f_Li_keepSpread
  rw [hj2, u2_at, Int.toNat_natCast, u2_ne (M := M) (i := 53) (k := 10) (j := 57) (l := 1) (Or.inl (by decide)), h1]
  obtain ⟨q, hq⟩ : ∃ q, q = 74 + 5 * j2 := ⟨_, rfl⟩
  rw [← hq]
  have q1 : 74 ≤ q := by omega
  have q2 : q + 4 ≤ 178 := by omega
  refine ok_ck ⟨by omega, by omega⟩ (ok_ck (inN hj21 (by decide)) (ok_ck (rgN (by omega)) (ok_nbx fun v hv => ok_nbx fun A hA => ?_)))
  have ev : v = (g : Int) := by rw [hv]; omega
  rw [ev] at hA
  have a53 : ∀ k, k ≠ 10 → A 53 k = M 53 k := fun k hk => by rw [hA, u2_ne (Or.inl (by omega)), u2_ne (Or.inr hk)]
  have a10 : A 53 10 = (j2 : Int) := by rw [hA, u2_ne (Or.inl (by omega)), u2_at]
  have aq0 : A q 0 = (g : Int) := by rw [hA, u2_at]
  have ar : ∀ c, c ≠ 53 → c ≠ q → A c = M c := fun c k1 k2 => by rw [hA, u2_row k2, u2_row k1]
  refine ok_ck (by rw [a53 6 (by decide)]; exact h6) (ok_nbx fun B hB => ?_)
  have e0 : u2 A q 1 (A 53 6) 53 0 = (n : Int) := by rw [u2_ne (Or.inl (by omega)), a53 0 (by decide)]; exact h0
  rw [e0, a53 6 (by decide)] at hB
  have b53 : B 53 = A 53 := by rw [hB, u2_row (by omega), u2_row (by omega)]
  have bq0 : B q 0 = (g : Int) := by rw [hB, u2_ne (Or.inr (by decide)), u2_ne (Or.inr (by decide))]; exact aq0
  have bq1 : B q 1 = M 53 6 := by rw [hB, u2_ne (Or.inr (by decide)), u2_at]
  have bq2 : B q 2 = (n : Int) := by rw [hB, u2_at]
  have br : ∀ c, c ≠ 53 → c ≠ q → B c = M c := fun c k1 k2 => by rw [hB, u2_row k2, u2_row k2]; exact ar c k1 k2
  rw [bq0, Int.toNat_natCast]
  refine ok_ck ⟨by decide, by decide, by omega, by omega, by omega, by omega, by omega⟩ (ok_nbx fun C hC => ok_ck (by decide) (ok_nbx fun D hD => ok_ck (by decide) (ok_nbx fun F hF => ok_ck (by decide) (ok_nbx fun N hN => ?_))))
  have cr : ∀ c, c ≠ q + 1 → C c = B c := fun c k => by rw [hC]; exact uA_row k
  have dr : ∀ c, c ≠ q + 2 → D c = C c := fun c k => by rw [hD]; exact uA_row k
  have fr : ∀ c, c ≠ q + 3 → F c = D c := fun c k => by rw [hF]; exact uA_row k
  have nr : ∀ c, c ≠ q + 4 → N c = F c := fun c k => by rw [hN]; exact uA_row k
  have all : ∀ c, c ≠ q + 1 → c ≠ q + 2 → c ≠ q + 3 → c ≠ q + 4 → N c = B c := fun c k1 k2 k3 k4 => by rw [nr c k4, fr c k3, dr c k2, cr c k1]
  have n53 : N 53 = A 53 := (all 53 (by omega) (by omega) (by omega) (by omega)).trans b53
  have nq : N q = B q := all q (by omega) (by omega) (by omega) (by omega)
  refine ok_some ⟨fun c hc => ?_, fun k hk => by rw [n53]; exact a53 k hk, j2, hj21, by rw [n53]; exact a10, hn, hg, ?_⟩
  · unfold oKp at hc
    rw [all c (by omega) (by omega) (by omega) (by omega)]
    exact br c (by omega) (by omega)
  rw [← hq]
  refine ⟨by rw [nq]; exact bq0, by rw [nq, bq1]; exact h6, by rw [nq]; exact bq2, fun l hl => ⟨?_, ?_⟩, hS.congr (fun l hl => ?_) (fun k hk => ?_), fun na => by rw [nq, bq1]; exact hna na⟩
  · rw [nr (q + 3) (by omega), hF, uA_at]
    show va_cpy (D 54) (D (q + 3)) 0 0 8 l = _
    rw [cpy_at (by omega), dr 54 (by omega), cr 54 (by omega), br 54 (by decide) (by omega)]
  · rw [hN, uA_at]
    show va_cpy (F 55) (F (q + 4)) 0 0 8 l = _
    rw [cpy_at (by omega), fr 55 (by omega), dr 55 (by omega), cr 55 (by omega), br 55 (by decide) (by omega)]
  · rw [nr (q + 2) (by omega), fr (q + 2) (by omega), hD, uA_at]
    show va_cpy (C 71) (C (q + 2)) 0 0 8 l = _
    rw [cpy_at (by omega), cr 71 (by omega), br 71 (by decide) (by omega)]
  · rw [nr (q + 1) (by omega), fr (q + 1) (by omega), dr (q + 1) (by omega), hC, uA_at]
    show va_cpy (B 63) (B (q + 1)) 0 0 g k = _
    rw [cpy_at hk, br 63 (by decide) (by omega)]
def oSe (c : Nat) : Prop := c = 1 ∨ c = 53 ∨ (57 ≤ c ∧ c ≤ 71) ∨ (74 ≤ c ∧ c ≤ 178) ∨ (246 ≤ c ∧ c ≤ 248)
theorem seats_call {E : Ev} {M : Mm} {n K j : Nat} {r : Int} (hL : Lay E) (h : LiS M n) (hR : Ring M) (hr0 : 0 ≤ r) (hr5 : r ≤ 5) (hK1 : 1 ≤ K) (hK : K ≤ 60) (hj : j < 21) (h10 : M 53 10 = (j : Int)) : Ok (f_B_seats E M r (K : Int) 0) (fun a => ∃ m g j2 : Nat, a.1 = (m : Int) ∧ m ≤ 8 ∧ (m = 0 → g = 0) ∧ (m ≠ 0 → g = K) ∧ (m = 0 ↔ ∀ l, l < n → M 54 l = 0) ∧ Off oSe M a.2 ∧ Ring a.2 ∧ LiS a.2 n ∧ KpS a.2 j2 (M 54) (M 55) n g K r) := by
  have h8 := h.2.1
  unfold f_B_seats
  rw [needRange_ok (by decide) hr0 hr5 (by decide), needRange_ok (by decide) (by omega) (by omega) (by decide), needRange_ok (by decide) (by decide) (by decide) (by decide)]
  refine ok_sb (ok_sb (ok_sb (ok_bm (spread_ok hL h ⟨by omega, by omega⟩ hK1 hK) ?_)))
  rintro ⟨x, A⟩ ⟨m, g, g1, g2, g3, g4, g5, g6, g7, g8, g9, g10, g11, g12⟩
  have g5 : Off oSp M A := g5
  have g6 : A 53 0 = M 53 0 := g6
  have g7 : A 53 10 = M 53 10 := g7
  have a54 : A 54 = M 54 := g5 54 (by unfold oSp; decide)
  have a55 : A 55 = M 55 := g5 55 (by unfold oSp; decide)
  have a56 : A 56 = M 56 := g5 56 (by unfold oSp; decide)
  have gK : g ≤ 60 := by
    by_cases c : m = 0
    · rw [g3 c]; omega
    · rw [g4 c]; omega
  refine ok_bm (keepSpread_ok (n := n) (g := g) (K := K) (r := r) hj (g7.trans h10) (g6.trans h.1) h8 gK g9 g8 (by rw [a54, a55]; exact g11) (by rw [a55]; exact g12)) ?_
  rintro B ⟨b1, b2, j2, b3⟩
  rw [a54, a55] at b3
  have b4 : Off (fun c => oSp c ∨ oKp c) M B := (g5.mono (fun _ q => Or.inl q)).trans (b1.mono (fun _ q => Or.inr q))
  refine ok_bm (remember_ok 8 0 0 (hR.of (b4 1 (by unfold oSp oKp; decide)))) ?_
  rintro N ⟨n1, n2, -⟩
  refine ok_some ⟨m, g, j2, g1, g2, g3, g4, g10, ?_, n2, ?_, b3.off n1 (by show N 53 10 = _; rw [n1 53 (by decide)]) (fun c q1 q2 q3 => by omega)⟩
  · refine (b4.mono ?_).trans (n1.mono ?_) <;> (intro c hc; unfold oSe; first | (unfold oSp oKp at hc; omega) | omega)
  · refine h.of ?_ ?_ ?_ ?_
    · show N 53 0 = _
      rw [n1 53 (by decide), b2 0 (by decide)]; exact g6
    · exact (n1 54 (by decide)).trans (b4 54 (by unfold oSp oKp; decide))
    · exact (n1 55 (by decide)).trans (b4 55 (by unfold oSp oKp; decide))
    · exact (n1 56 (by decide)).trans (b4 56 (by unfold oSp oKp; decide))
theorem seatsOf_eq {E : Ev} {M : Mm} {n n2 g K j l : Nat} {v al : Nat → Int} {r : Int} (hL : Lay E) (h : KpS M j v al n g K r) (h0 : M 53 0 = (n2 : Int)) (hn : n2 ≤ 8) (hl : l < n2) : f_B_seatsOf E M (l : Int) = some (M (74 + 5 * j + 2) l) := by
  unfold f_B_seatsOf f_Li_latest
  rw [h0, needIndex_ok (by omega) (by omega) (by omega), h.2.1, ck_i (inN h.1 (by decide))]
  show ck (isKs E (74 + 5 * (j : Int).toNat)) (ck (inb (l : Int) 8) (some (M (74 + 5 * (j : Int).toNat + 2) (l : Int).toNat))) = _
  rw [Int.toNat_natCast]
  rw [ck_i (ks_at hL j h.1), ck_i (inN (by omega) (by decide)), Int.toNat_natCast]
theorem seatAt_eq {E : Ev} {M : Mm} {n g K j k : Nat} {v al : Nat → Int} {r : Int} (hL : Lay E) (h : KpS M j v al n g K r) (hna : ∀ l, l < n → al l = 0) (hk : k < g) : f_B_seatAt E M (k : Int) = some (M (74 + 5 * j + 1) k) := by
  have hg := h.2.2.2.1
  unfold f_B_seatAt f_Li_latest
  rw [h.2.1, ck_i (inN h.1 (by decide))]
  show (some (74 + 5 * (j : Int).toNat)).bind _ = _
  rw [Int.toNat_natCast]
  show ck _ _ = _
  rw [ck_i (ks_at hL j h.1), h.2.2.2.2.2.2.2.2.2 hna, ck_i (by decide), if_pos rfl, h.2.2.2.2.1]
  unfold B_seatAt_j24
  rw [ck_i (ks_at hL j h.1), needPlace_ok (by omega) (by omega) (by omega)]
  show ck _ _ = _
  rw [ck_i (inN (by omega) (by decide)), Int.toNat_natCast]
theorem ally_ok {E : Ev} {M : Mm} {n l : Nat} (h : LiS M n) (hl : l < n) (hR : Ring M) : Ok (f_B_ally E M (l : Int) 1) (fun a => Off (fun c => c = 1 ∨ c = 55 ∨ (246 ≤ c ∧ c ≤ 248)) M a.2 ∧ Ring a.2 ∧ LiS a.2 n) := by
  have h8 := h.2.1
  unfold f_B_ally
  rw [h.1, needIndex_ok (by omega) (by omega) (by omega), needRange_ok (by decide) (by decide) (by decide) (by decide), Int.toNat_natCast]
  refine ok_sb (ok_sb (ok_ck (inN (by omega) (by decide)) (ok_bm (remember_ok 7 (l : Int) (M 55 l) (hR.of (by rw [u2_row (by decide)]))) ?_)))
  rintro N ⟨n1, n2, -⟩
  refine ok_some ⟨(Off.refl.u2 (Or.inr (Or.inl rfl))).trans (n1.mono fun c hc => by omega), n2, ?_⟩
  have e53 : N 53 = M 53 := (n1 53 (by decide)).trans (u2_row (by decide))
  have e54 : N 54 = M 54 := (n1 54 (by decide)).trans (u2_row (by decide))
  have e56 : N 56 = M 56 := (n1 56 (by decide)).trans (u2_row (by decide))
  have e55 : N 55 = u2 M 55 l 1 55 := n1 55 (by decide)
  refine ⟨by show N 53 0 = _; rw [e53]; exact h.1, h8, fun k hk => ?_⟩
  obtain ⟨b1, b2, b3⟩ := h.2.2 k hk
  refine ⟨by show 0 ≤ N 54 k ∧ N 54 k ≤ 10000000; rw [e54]; exact b1, ?_, by show rgI (N 56 k); rw [e56]; exact b3⟩
  show 0 ≤ N 55 k ∧ N 55 k ≤ 4
  rw [e55, u2_if]
  by_cases c : k = l
  · rw [if_pos ⟨rfl, c⟩]; decide
  · rw [if_neg (fun q => c q.2)]; exact b2
