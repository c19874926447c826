theorem rgJ_of {x : Int} (h : rgI x) : rgJ x := ⟨by omega, by omega⟩
theorem swN_bounds {w : Nat → Int} {q : Int} {n m : Nat} (hn : n ≤ 12) : 0 ≤ swN w q n m ∧ swN w q n m ≤ 4096 := by
  have hP := pow12 hn
  unfold swN
  have h1 := sN_nonneg (f := fun S => if swg w q n S m then (1 : Int) else 0) (n := 2 ^ n) (fun S _ => by
    show 0 ≤ (if swg w q n S m then (1 : Int) else 0)
    by_cases g : swg w q n S m
    · rw [if_pos g]; decide
    · rw [if_neg g]; exact Int.le_refl 0)
  have h2 := sN_le (f := fun S => if swg w q n S m then (1 : Int) else 0) (g := fun _ => 1) (n := 2 ^ n) (fun S _ => by
    show (if swg w q n S m then (1 : Int) else 0) ≤ 1
    by_cases g : swg w q n S m
    · rw [if_pos g]; exact Int.le_refl 1
    · rw [if_neg g]; decide)
  have h3 : ∀ k : Nat, sN (fun _ => (1 : Int)) k = (k : Int) := fun k => by
    induction k with
    | zero => rfl
    | succ k ih => rw [sN_succ, ih]; omega
  rw [h3] at h2
  exact ⟨h1, by omega⟩
theorem otN_nonneg {w : Nat → Int} {q : Int} {n m : Nat} (hn : n ≤ 12) (hm : m < n) : 0 ≤ otN w q n m := sN_nonneg (fun S hS => by
  show 0 ≤ (if swg w q n S m then gF n (pc S n) else 0)
  by_cases g : swg w q n S m
  · rw [if_pos g]
    have := gF_pos hn (pc_bounds S n).1 (pc_lt hm hS g.2.2)
    omega
  · rw [if_neg g]; exact Int.le_refl 0)
theorem sN_term {f : Nat → Int} : ∀ {n k : Nat}, (∀ i, i < n → 0 ≤ f i) → k < n → f k ≤ sN f n
  | 0, _, _, h => absurd h (Nat.not_lt_zero _)
  | n + 1, k, h, hk => by
    have h0 := sN_nonneg (fun i hi => h i (Nat.lt_succ_of_lt hi))
    have h2 := h n (Nat.lt_succ_self n)
    rw [sN_succ]
    by_cases e : k = n
    · subst e; omega
    · have := sN_term (k := k) (fun i hi => h i (Nat.lt_succ_of_lt hi)) (by omega)
      omega
theorem facF7 {n : Nat} (h : n ≤ 7) : 1 ≤ facF n ∧ facF n ≤ 5040 := by
  have key : ∀ n : Nat, n < 8 → 1 ≤ facF n ∧ facF n ≤ 5040 := by decide +kernel
  exact key n (by omega)
theorem facF_step {n : Nat} (h : n < 7) : facF n * ((n : Int) + 1) = facF (n + 1) := by
  have key : ∀ n : Nat, n < 7 → facF n * ((n : Int) + 1) = facF (n + 1) := by decide +kernel
  exact key n h
theorem otN_bounds {w : Nat → Int} {q : Int} {n m : Nat} (hn : n ≤ 7) (hm : m < n) (hq : 1 ≤ q) (hw : ∀ k, k < n → 0 ≤ w k) : 0 ≤ otN w q n m ∧ otN w q n m ≤ 5040 := by
  have h1 := sN_term (f := fun m => otN w q n m) (fun i hi => otN_nonneg (w := w) (q := q) (by omega) hi) hm
  have h1 : otN w q n m ≤ sN (fun m => otN w q n m) n := h1
  rw [orders_all hn (by omega) hq hw] at h1
  have h2 := facF7 hn
  refine ⟨otN_nonneg (by omega) hm, ?_⟩
  by_cases c : q ≤ wS w (2 ^ n - 1) n
  · rw [if_pos c] at h1; omega
  · rw [if_neg c] at h1; omega
def cO (i : Nat) : Prop := i = 0 ∨ i = 1 ∨ i = 243 ∨ i = 244 ∨ i = 245 ∨ i = 246 ∨ i = 247 ∨ i = 248
/-- members drawn -/
theorem L30_ok {E : Ev} {M : Mm} {n q4 : Nat} (hL : Lay E) (hq4 : isIA E q4) (hl : (tE E q4).2 = n) (hbig : 250 ≤ q4) (hn : n ≤ 7) (h0 : M 243 0 = 0) (h1 : M 245 0 = 0) (hR : Ring M) : Ok (l_La_council_30 0 (n : Int) q4 5000 E M 0 1 0) (fun r => r.1 = 1 ∧ r.2.2.2.2.1 = E ∧ ∃ w : Nat → Int, (∀ k, k < n → 0 ≤ w k ∧ w k ≤ 11) ∧ r.2.1 = sN w n ∧ r.2.2.1 = facF n ∧ CS r.2.2.2.2.2 n w (r.2.2.2.2.2 243 1) ∧ (∀ k, k < n → r.2.2.2.2.2 q4 k = w k) ∧ Ring r.2.2.2.2.2) := by
  refine L_La_council_30 0 (n : Int) q4 (I := fun F N x3 x5 x7 => F = E ∧ ∃ m : Nat, x7 = (m : Int) ∧ m ≤ n ∧ ∃ w : Nat → Int, (∀ k, k < m → 0 ≤ w k ∧ w k ≤ 11) ∧ x3 = sN w m ∧ x5 = facF m ∧ CS N m w (N 243 1) ∧ (∀ k, k < m → N q4 k = w k) ∧ Ring N) (μ := fun _ _ _ _ x => n - x.toNat) (Q := fun r => r.1 = 1 ∧ r.2.2.2.2.1 = E ∧ ∃ w : Nat → Int, (∀ k, k < n → 0 ≤ w k ∧ w k ≤ 11) ∧ r.2.1 = sN w n ∧ r.2.2.1 = facF n ∧ CS r.2.2.2.2.2 n w (r.2.2.2.2.2 243 1) ∧ (∀ k, k < n → r.2.2.2.2.2 q4 k = w k) ∧ Ring r.2.2.2.2.2) ?_ 5000 E M 0 1 0 ⟨rfl, 0, rfl, Nat.zero_le _, fun _ => 0, fun k hk => absurd hk (Nat.not_lt_zero k), rfl, by decide +kernel, ⟨h0, rfl, fun k hk => absurd hk (Nat.not_lt_zero k), h1⟩, fun k hk => absurd hk (Nat.not_lt_zero k), hR⟩ (by show n - _ < 5000; omega)
  rintro F N x3 x5 x7 ⟨rfl, m, rfl, hm, w, hw, hx3, hx5, hC, hN, hRN⟩
  unfold La_council_30b
  have hi0 : isIA F 0 := ⟨yi_0 hL, by rw [yt_0 hL]⟩
  refine ok_ck hL (ok_ck hi0 (ok_ck hq4 (ok_ck (rgI_nat (by omega)) (ok_ck (rgI_nat (by omega)) (ok_if (fun c => ?_) (fun c => ?_))))))
  · have e : m = n := by omega
    subst e
    exact ok_some (ok_out (by show (1 : Nat) ≠ 0; decide) ⟨rfl, rfl, w, hw, hx3, hx5, hC, hN, hRN⟩)
  · have hmn : m < n := by omega
    refine ok_bm (next_ok hi0 (by rw [yt_0 hL]) (by decide) (by decide)) ?_
    rintro ⟨x, N2⟩ ⟨⟨hx0, hx1⟩, ho⟩
    have hx0 : 0 ≤ x := hx0
    have hx1 : x < 12 := hx1
    have ho : Off (fun i => i = 0) N N2 := ho
    show Ok (ck (inb (m : Int) (tE F q4).2) (nb (x3 + u2 N2 q4 (m : Int).toNat x q4 (m : Int).toNat) fun v109 => (f_B_member F (u2 N2 q4 (m : Int).toNat x) (u2 N2 q4 (m : Int).toNat x q4 (m : Int).toNat)).bind _)) _
    rw [Int.toNat_natCast, u2_at, hl]
    refine ok_ck ⟨by omega, by omega, by omega⟩ (ok_nb ?_)
    have e243 : u2 N2 q4 m x 243 = N 243 := (u2_row (by omega)).trans (ho 243 (by decide))
    have e244 : u2 N2 q4 m x 244 = N 244 := (u2_row (by omega)).trans (ho 244 (by decide))
    have e245 : u2 N2 q4 m x 245 = N 245 := (u2_row (by omega)).trans (ho 245 (by decide))
    have e1 : u2 N2 q4 m x 1 = N 1 := (u2_row (by omega)).trans (ho 1 (by decide))
    refine ok_bm (member_ok (n := m) hx0 (by omega) (by rw [e243]; exact hC.1) (by omega) (hRN.of e1)) ?_
    rintro ⟨y, K⟩ ⟨-, k1, k2, k3, k4, k5, k6⟩
    have k1 : Off (fun i => i = 1 ∨ i = 243 ∨ i = 244 ∨ i = 246 ∨ i = 247 ∨ i = 248) (u2 N2 q4 m x) K := k1
    have k3 : K 243 0 = (m : Int) + 1 := k3
    have k5 : K 244 m = x := k5
    have k6 : ∀ k, k ≠ m → K 244 k = u2 N2 q4 m x 244 k := k6
    have eq4 : ∀ k, K q4 k = u2 N2 q4 m x q4 k := fun k => by rw [k1 q4 (by omega)]
    refine ok_ck ⟨by omega, by omega⟩ (ok_some (ok_go rfl ⟨⟨rfl, m + 1, by show (m : Int) + 1 = _; omega, by omega, fun k => if k = m then x else w k, fun k hk => ?_, ?_, ?_, ?_, fun k hk => ?_, k2⟩, by show n - ((m : Int) + 1).toNat < n - (m : Int).toNat; omega⟩))
    · show 0 ≤ (if k = m then x else w k) ∧ (if k = m then x else w k) ≤ 11
      by_cases e : k = m
      · rw [if_pos e]; omega
      · rw [if_neg e]; exact hw k (by omega)
    · show x3 + x = _
      rw [sN_succ, if_pos rfl, hx3]
      rw [sN_congr (f := fun k => if k = m then x else w k) (g := w) (fun i hi => if_neg (by omega))]
    · show x5 * ((m : Int) + 1) = _
      rw [hx5, facF_step (by omega)]
    · refine ⟨by show K 243 0 = _; rw [k3]; omega, rfl, fun k hk => ?_, ?_⟩
      · show K 244 k = (if k = m then x else w k)
        by_cases e : k = m
        · rw [if_pos e, e]; exact k5
        · rw [if_neg e, k6 k e, e244]; exact hC.2.2.1 k (by omega)
      · show K 245 0 = 0
        rw [k1 245 (by decide), e245]
        exact hC.2.2.2
    · show K q4 k = (if k = m then x else w k)
      rw [eq4]
      by_cases e : k = m
      · rw [if_pos e, e, u2_at]
      · rw [if_neg e, u2_ne (Or.inr e), ho q4 (by omega)]; exact hN k (by omega)
/-- all swings, all orders -/
theorem L110_ok {E : Ev} {M : Mm} {n q4 : Nat} {x3 x5 q : Int} {w : Nat → Int} (hL : Lay E) (hq4 : isIA E q4) (hl : (tE E q4).2 = n) (hbig : 250 ≤ q4) (h1 : 1 ≤ n) (hn : n ≤ 7) (hw : ∀ k, k < n → M q4 k = w k) (hb : ∀ k, k < n → 0 ≤ w k ∧ w k ≤ 1000) (hq1 : 1 ≤ q) (hq : rgI q) (hC : CS M n w q) : Ok (l_La_council_110 (n : Int) x3 q4 x5 q 5000 E M 0 1 0) (fun r => r.1 = 1 ∧ r.2.1 = sN (fun m => otN w q n m) n ∧ r.2.2.1 = 1 ∧ r.2.2.2.2.1 = E) := by
  refine L_La_council_110 (n : Int) x3 q4 x5 q (I := fun F N x9 x11 x12 => F = E ∧ x11 = 1 ∧ ∃ m : Nat, x12 = (m : Int) ∧ m ≤ n ∧ x9 = sN (fun m => otN w q n m) m ∧ CS N n w q ∧ ∀ k, k < n → N q4 k = w k) (μ := fun _ _ _ _ x => n - x.toNat) (Q := fun r => r.1 = 1 ∧ r.2.1 = sN (fun m => otN w q n m) n ∧ r.2.2.1 = 1 ∧ r.2.2.2.2.1 = E) ?_ 5000 E M 0 1 0 ⟨rfl, rfl, 0, rfl, Nat.zero_le _, rfl, hC, hw⟩ (by show n - _ < 5000; omega)
  rintro F N x9 x11 x12 ⟨rfl, rfl, m, rfl, hm, hx9, hCN, hN⟩
  unfold La_council_110b
  refine ok_ck hL (ok_ck hq4 (ok_ck (rgI_nat (by omega)) (ok_ck (rgI_nat (by omega)) (ok_if (fun c => ?_) (fun c => ?_)))))
  · have e : m = n := by omega
    rw [e] at hx9
    exact ok_some (ok_out (by show (1 : Nat) ≠ 0; decide) ⟨rfl, hx9, rfl, rfl⟩)
  · have hmn : m < n := by omega
    refine ok_bm (L122_ok hL hq4 hl (by omega) hmn hN hb hq) ?_
    rintro ⟨t, y, z, F2, N2⟩ ⟨g1, g2, g3⟩
    cases g3
    have g1 : t = 1 := g1
    have g2 : y = swN w q n m := g2
    subst g1 g2
    refine ok_ck (gw_self F) (ok_ck hL (ok_ck rfl ?_))
    refine ok_bm (ordersTurned_ok (by omega) hmn hCN hq hb) ?_
    rintro ⟨a, N3⟩ ⟨ha, ho3, hC3⟩
    have ha : a = otN w q n m := ha
    have ho3 : Off (fun i => i = 245) N N3 := ho3
    have hC3 : CS N3 n w q := hC3
    refine ok_ck (by decide) (ok_if (fun d => absurd d (by decide)) (fun _ => ?_))
    refine ok_bm (swings_ok (by omega) hmn hC3 hq hb) ?_
    rintro ⟨b, N4⟩ ⟨hb4, ho4, hC4⟩
    have hb4 : b = swN w q n m := hb4
    have ho4 : Off (fun i => i = 245) N3 N4 := ho4
    have hC4 : CS N4 n w q := hC4
    have sb := swN_bounds (w := w) (q := q) (m := m) (show n ≤ 12 by omega)
    have ob := otN_bounds hn hmn hq1 (fun k hk => (hb k hk).1)
    have op := ot_pos (w := w) (q := q) (show n ≤ 12 by omega) hmn
    refine ok_ck ⟨by omega, by omega⟩ (ok_ck ⟨by omega, by omega⟩ (ok_if (fun _ => ?_) (fun d => absurd hb4 d)))
    refine ok_bm (ordersTurned_ok (by omega) hmn hC4 hq hb) ?_
    rintro ⟨a5, N5⟩ ⟨ha5, ho5, hC5⟩
    have ha5 : a5 = otN w q n m := ha5
    have ho5 : Off (fun i => i = 245) N4 N5 := ho5
    have hC5 : CS N5 n w q := hC5
    have fin : Ok (some (0, x9 + a, 1, (m : Int) + 1, F, N5) : Option (Nat × Int × Int × Int × Ev × Mm)) (fun r => (r.1 = 0 → (r.2.2.2.2.1 = F ∧ r.2.2.1 = 1 ∧ ∃ m : Nat, r.2.2.2.1 = (m : Int) ∧ m ≤ n ∧ r.2.1 = sN (fun m => otN w q n m) m ∧ CS r.2.2.2.2.2 n w q ∧ ∀ k, k < n → r.2.2.2.2.2 q4 k = w k) ∧ n - r.2.2.2.1.toNat < n - (m : Int).toNat) ∧ (r.1 ≠ 0 → r.1 = 1 ∧ r.2.1 = sN (fun m => otN w q n m) n ∧ r.2.2.1 = 1 ∧ r.2.2.2.2.1 = F)) := by
      refine ok_some (ok_go rfl ⟨⟨rfl, rfl, m + 1, by show (m : Int) + 1 = _; omega, by omega, ?_, hC5, fun k hk => ?_⟩, by show n - ((m : Int) + 1).toNat < n - (m : Int).toNat; omega⟩)
      · show x9 + a = _
        rw [sN_succ, ← hx9, ha]
      · show N5 q4 k = _
        rw [ho5 q4 (by omega), ho4 q4 (by omega), ho3 q4 (by omega)]
        exact hN k hk
    refine ok_ck ⟨by omega, by omega⟩ (ok_if (fun d => ?_) (fun d => ?_))
    · unfold La_council_j255
      refine ok_ck hL (ok_ck hq4 (ok_ck ⟨by omega, by omega⟩ (ok_if (fun d2 => ?_) (fun d2 => absurd d2 (by omega)))))
      unfold La_council_j265
      exact ok_ck hL (ok_ck hq4 (ok_ck (by decide) (ok_ck (by decide) (ok_if (fun _ => fin) (fun d3 => absurd rfl d3)))))
    · unfold La_council_j255
      refine ok_ck hL (ok_ck hq4 (ok_ck ⟨by omega, by omega⟩ (ok_if (fun d2 => absurd d2 (by omega)) (fun d2 => ?_))))
      unfold La_council_j265
      exact ok_ck hL (ok_ck hq4 (ok_ck (by decide) (ok_ck (by decide) (ok_if (fun _ => fin) (fun d3 => absurd rfl d3)))))
