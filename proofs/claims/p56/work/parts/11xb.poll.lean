/-! A LOOK AT THE BALLOTS: sums over rows -/
noncomputable def ind (p : Prop) : Int := @ite Int p (Classical.propDecidable p) 1 0
theorem ind_t {p : Prop} (h : p) : ind p = 1 := if_pos h
theorem ind_f {p : Prop} (h : ¬ p) : ind p = 0 := if_neg h
theorem ind_01 (p : Prop) : 0 ≤ ind p ∧ ind p ≤ 1 := by
  by_cases h : p
  · rw [ind_t h]; decide
  · rw [ind_f h]; decide
theorem ind_congr {p q : Prop} (h : p ↔ q) : ind p = ind q := by rw [propext h]
theorem L27_ok {E : Ev} {M : Mm} {n c B : Nat} {x1 b : Int} (h2 : M 2 2 = (n : Int)) (hn : n ≤ 8) (hc : c < n) (hB : B < 2 ^ n) : Ok (l_Po_changePairs_27 E x1 (B : Int) b (c : Int) FU M 0) (fun r => r.1 = 1 ∧ Off (fun i => i = 45) M r.2.2 ∧ ∀ c' o', c' < n → o' < n → r.2.2 45 (c' * 8 + o') = M 45 (c' * 8 + o') + if c' = c ∧ B.testBit o' = true then b else 0) := by
  have hp := pow_lt hn
  refine L_Po_changePairs_27 E x1 (B : Int) b (c : Int) (I := fun N x => ∃ o : Nat, x = (o : Int) ∧ o ≤ n ∧ Off (fun i => i = 45) M N ∧ ∀ c' o', c' < n → o' < n → N 45 (c' * 8 + o') = M 45 (c' * 8 + o') + if c' = c ∧ o' < o ∧ B.testBit o' = true then b else 0) (μ := fun _ x => n - x.toNat) ?_ FU M 0 ⟨0, rfl, Nat.zero_le _, Off.refl, fun c' o' _ _ => by rw [if_neg (fun q => absurd q.2.1 (Nat.not_lt_zero _))]; omega⟩ (by show n - _ < 5000; omega)
  rintro N x ⟨o, rfl, ho, hO, hN⟩
  unfold Po_changePairs_27b
  rw [hO 2 (by decide), h2]
  refine ok_ck (rgN (by omega)) (ok_ck (rgN (by omega)) (ok_if (fun q => ?_) (fun q => ?_)))
  · have e : o = n := by omega
    subst e
    refine ok_some (ok_out ne0 ⟨rfl, hO, fun c' o' h1 h2 => ?_⟩)
    show N 45 _ = _
    rw [hN c' o' h1 h2]
    by_cases w : c' = c ∧ B.testBit o' = true
    · rw [if_pos w, if_pos ⟨w.1, h2, w.2⟩]
    · rw [if_neg w, if_neg (fun z => w ⟨z.1, z.2.2⟩)]
  · have hon : o < n := by omega
    rw [has_tb (by omega) (by omega)]
    have e : (c : Int) * 8 + (o : Int) = ((c * 8 + o : Nat) : Int) := by omega
    refine ok_sb ?_
    by_cases w : B.testBit o = true
    · rw [if_pos w, e, Int.toNat_natCast]
      refine ok_ck (by decide) (ok_if (fun z => absurd z (by decide)) (fun _ => ok_ck (inN (by omega) (by decide)) (ok_nb (ok_some (ok_go rfl ⟨⟨o + 1, c1 o, by omega, hO.u2 rfl, fun c' o' h1 h2 => ?_⟩, cnt hon⟩)))))
      show u2 N 45 (c * 8 + o) (N 45 (c * 8 + o) + b) 45 (c' * 8 + o') = _
      rw [u2_if]
      by_cases z : c' = c ∧ o' = o
      · obtain ⟨z1, z2⟩ := z
        rw [z1, z2, if_pos ⟨rfl, rfl⟩, hN c o hc hon, if_neg (fun q => by omega), if_pos ⟨rfl, by omega, w⟩]
        omega
      · rw [if_neg (fun q => by omega), hN c' o' h1 h2]
        by_cases y : c' = c ∧ o' < o ∧ B.testBit o' = true
        · rw [if_pos y, if_pos ⟨y.1, by omega, y.2.2⟩]
        · rw [if_neg y, if_neg (fun q => y ⟨q.1, by omega, q.2.2⟩)]
    · rw [if_neg w]
      refine ok_ck (by decide) (ok_if (fun _ => ok_some (ok_go rfl ⟨⟨o + 1, c1 o, by omega, hO, fun c' o' h1 h2 => ?_⟩, cnt hon⟩)) (fun z => absurd rfl z))
      show N 45 (c' * 8 + o') = _
      rw [hN c' o' h1 h2]
      by_cases y : c' = c ∧ o' < o ∧ B.testBit o' = true
      · rw [if_pos y, if_pos ⟨y.1, by omega, y.2.2⟩]
      · rw [if_neg y, if_neg (fun q => y ⟨q.1, by
          rcases Nat.lt_or_ge o' o with z | z
          · exact z
          · exact absurd (show B.testBit o = true by rw [show o = o' by omega]; exact q.2.2) w, q.2.2⟩)]
theorem changePairs_ok {E : Ev} {M : Mm} {n F B : Nat} {b : Int} (h2 : M 2 2 = (n : Int)) (hn : n ≤ 8) (hF : F < 2 ^ n) (hB : B < 2 ^ n) : Ok (f_Po_changePairs E M (F : Int) (B : Int) b) (fun N => Off (fun i => i = 45) M N ∧ ∀ c o, c < n → o < n → N 45 (c * 8 + o) = M 45 (c * 8 + o) + if F.testBit c = true ∧ B.testBit o = true then b else 0) := by
  have hp := pow_lt hn
  unfold f_Po_changePairs
  refine ok_bm (R := fun r => r.1 = 1 ∧ Off (fun i => i = 45) M r.2.2 ∧ ∀ c o, c < n → o < n → r.2.2 45 (c * 8 + o) = M 45 (c * 8 + o) + if F.testBit c = true ∧ B.testBit o = true then b else 0) ?_ ?_
  · refine L_Po_changePairs_3 E (F : Int) (B : Int) b (I := fun N x => ∃ k : Nat, x = (k : Int) ∧ k ≤ n ∧ Off (fun i => i = 45) M N ∧ ∀ c o, c < n → o < n → N 45 (c * 8 + o) = M 45 (c * 8 + o) + if c < k ∧ F.testBit c = true ∧ B.testBit o = true then b else 0) (μ := fun _ x => n - x.toNat) ?_ FU M 0 ⟨0, rfl, Nat.zero_le _, Off.refl, fun c' o' _ _ => by rw [if_neg (fun q => absurd q.1 (Nat.not_lt_zero _))]; omega⟩ (by show n - _ < 5000; omega)
    rintro N x ⟨k, rfl, hk, hO, hN⟩
    have e2 : N 2 2 = (n : Int) := by rw [hO 2 (by decide)]; exact h2
    unfold Po_changePairs_3b
    rw [e2]
    refine ok_ck (rgN (by omega)) (ok_ck (rgN (by omega)) (ok_if (fun q => ?_) (fun q => ?_)))
    · have e : k = n := by omega
      subst e
      refine ok_some (ok_out ne0 ⟨rfl, hO, fun c o h1 h2 => ?_⟩)
      show N 45 _ = _
      rw [hN c o h1 h2]
      by_cases w : F.testBit c = true ∧ B.testBit o = true
      · rw [if_pos w, if_pos ⟨h1, w⟩]
      · rw [if_neg w, if_neg (fun z => w z.2)]
    · have hkn : k < n := by omega
      rw [has_tb (by omega) (by omega)]
      refine ok_sb ?_
      by_cases w : F.testBit k = true
      · rw [if_pos w]
        refine ok_ck (by decide) (ok_if (fun z => absurd z (by decide)) (fun _ => ok_bm (L27_ok e2 hn hkn hB) ?_))
        rintro ⟨t, y, K⟩ ⟨g1, g2, g3⟩
        refine ok_ck g1 (ok_some (ok_go rfl ⟨⟨k + 1, c1 k, by omega, hO.trans g2, fun c o h1 h2 => ?_⟩, cnt hkn⟩))
        have g3 : K 45 (c * 8 + o) = N 45 (c * 8 + o) + if c = k ∧ B.testBit o = true then b else 0 := g3 c o h1 h2
        show K 45 (c * 8 + o) = _
        rw [g3, hN c o h1 h2]
        by_cases z : c = k ∧ B.testBit o = true
        · rw [if_pos z, if_neg (fun q => by omega), if_pos ⟨by omega, by rw [z.1]; exact w, z.2⟩]; omega
        · rw [if_neg z]
          by_cases y : c < k ∧ F.testBit c = true ∧ B.testBit o = true
          · rw [if_pos y, if_pos ⟨by omega, y.2⟩]; omega
          · rw [if_neg y, if_neg (fun q => y ⟨by
              rcases Nat.lt_or_ge c k with v | v
              · exact v
              · exact absurd ⟨by omega, q.2.2⟩ z, q.2⟩)]; omega
      · rw [if_neg w]
        refine ok_ck (by decide) (ok_if (fun _ => ok_some (ok_go rfl ⟨⟨k + 1, c1 k, by omega, hO, fun c o h1 h2 => ?_⟩, cnt hkn⟩)) (fun z => absurd rfl z))
        show N 45 (c * 8 + o) = _
        rw [hN c o h1 h2]
        by_cases y : c < k ∧ F.testBit c = true ∧ B.testBit o = true
        · rw [if_pos y, if_pos ⟨by omega, y.2⟩]
        · rw [if_neg y, if_neg (fun q => y ⟨by
            rcases Nat.lt_or_ge c k with v | v
            · exact v
            · exact absurd (show F.testBit k = true by rw [show k = c by omega]; exact q.2.1) w, q.2⟩)]
  · rintro ⟨t, x, N⟩ ⟨g1, g2⟩
    exact ok_ck g1 (ok_some g2)
/-- the pairs of one row -/
theorem L62_ok {E : Ev} {M : Mm} {k n G A : Nat} {R : Nat → Nat} {b : Int} (h : Rk M k n G R A) (hk : k < 31) (hn : n ≤ 8) (h2 : M 2 2 = (n : Int)) (hP : M 41 1 = ((2 ^ n - 1 : Nat) : Int)) : Ok (l_Po_change_62 E (k : Int) b FU M ((2 ^ n - 1 : Nat) : Int) 0) (fun r => r.1 = 1 ∧ Off (fun i => i = 45) M r.2.2.2 ∧ ∀ c o, c < n → o < n → r.2.2.2 45 (c * 8 + o) = M 45 (c * 8 + o) + if R c < R o then b else 0) := by
  have hp := pow_lt hn
  have hp1 := Nat.two_pow_pos n
  have hR := h
  obtain ⟨h7, h6, hG, hA, h9, hRG, hne⟩ := h
  refine L_Po_change_62 E (k : Int) b (I := fun N x4 x5 => ∃ g B : Nat, x5 = (g : Int) ∧ g ≤ G ∧ x4 = (B : Int) ∧ B < 2 ^ n ∧ (∀ c, c < n → (B.testBit c = true ↔ g ≤ R c)) ∧ Off (fun i => i = 45) M N ∧ ∀ c o, c < n → o < n → N 45 (c * 8 + o) = M 45 (c * 8 + o) + if R c < g ∧ R c < R o then b else 0) (μ := fun _ _ x => G - x.toNat) ?_ FU M ((2 ^ n - 1 : Nat) : Int) 0 ⟨0, 2 ^ n - 1, rfl, Nat.zero_le _, rfl, by omega, fun c hc => by rw [full_tb]; exact ⟨fun _ => Nat.zero_le _, fun _ => decide_eq_true hc⟩, Off.refl, fun c o _ _ => by rw [if_neg (fun q => absurd q.1 (Nat.not_lt_zero _))]; omega⟩ (by show G - _ < 5000; omega)
  rintro N x4 x5 ⟨g, B, rfl, hg, rfl, hBl, hB, hO, hN⟩
  have e2 : N 2 2 = (n : Int) := by rw [hO 2 (by decide)]; exact h2
  have e7 : N 7 k = (G : Int) := by rw [hO 7 (by decide)]; exact h7
  have e41 : N 41 1 = ((2 ^ n - 1 : Nat) : Int) := by rw [hO 41 (by decide)]; exact hP
  unfold Po_change_62b
  rw [Int.toNat_natCast, Int.toNat_natCast, e7, e41]
  refine ok_ck (inN hk (by decide)) (ok_ck (rgN (by omega)) (ok_ck (rgN (by omega)) (ok_if (fun q => ?_) (fun q => ?_))))
  · have e : g = G := by omega
    subst e
    refine ok_some (ok_out ne0 ⟨rfl, hO, fun c o h1 h2 => ?_⟩)
    show N 45 _ = _
    rw [hN c o h1 h2]
    by_cases w : R c < R o
    · rw [if_pos w, if_pos ⟨by have := hRG o h2; omega, w⟩]
    · rw [if_neg w, if_neg (fun z => w z.2)]
  · have hgG : g < G := by omega
    have gl := gS_lt R n g
    have e9 : N (9 + k) g = ((gS R n g : Nat) : Int) := by rw [hO (9 + k) (by omega)]; exact h9 g hgG
    have hand : gS R n g &&& (2 ^ n - 1) = gS R n g := eq_tb (and_lt (by omega)) gl fun i hi => by rw [Nat.testBit_and, full_tb, decide_eq_true hi, Bool.and_true]
    rw [e9, andI_nat, hand]
    have dl : dN B (gS R n g) < 2 ^ n := dN_lt hBl
    have dtb : ∀ c, c < n → ((dN B (gS R n g)).testBit c = true ↔ g + 1 ≤ R c) := fun c hc => by
      rw [dN_tb (by omega) (by omega), gS_tb hc, Bool.and_eq_true, hB c hc]
      by_cases e : R c = g
      · rw [decide_eq_true e]
        exact ⟨fun w => (by cases w.2), fun w => by omega⟩
      · rw [decide_eq_false e]
        exact ⟨fun w => by omega, fun w => ⟨by omega, rfl⟩⟩
    refine ok_ck (inN (by omega) (by decide)) (ok_ck ⟨by omega, by omega⟩ (ok_ck ⟨by omega, by omega⟩ (ok_nbx fun v hv => ?_)))
    rw [hv, dfI_nat]
    refine ok_ck ⟨by omega, by omega⟩ (ok_ck ⟨by omega, by omega⟩ (ok_bm (changePairs_ok e2 hn gl dl) ?_))
    rintro K ⟨g1, g2⟩
    refine ok_some (ok_go rfl ⟨⟨g + 1, dN B (gS R n g), c1 g, by omega, rfl, dl, dtb, hO.trans g1, fun c o h1 h2 => ?_⟩, cnt hgG⟩)
    show K 45 (c * 8 + o) = _
    rw [g2 c o h1 h2, hN c o h1 h2]
    have e1 : (gS R n g).testBit c = true ↔ R c = g := by rw [gS_tb h1]; exact decide_eq_true_iff
    by_cases w : R c < R o
    · rcases Nat.lt_trichotomy (R c) g with z | z | z
      · rw [if_pos ⟨z, w⟩, if_neg (fun q => by have := e1.mp q.1; omega), if_pos ⟨by omega, w⟩]; omega
      · rw [if_neg (fun q => by omega), if_pos ⟨e1.mpr z, (dtb o h2).mpr (by omega)⟩, if_pos ⟨by omega, w⟩]; omega
      · rw [if_neg (fun q => by omega), if_neg (fun q => by have := e1.mp q.1; omega), if_neg (fun q => by omega)]; omega
    · rw [if_neg (fun q => w q.2), if_neg (fun q => by have a := e1.mp q.1; have b := (dtb o h2).mp q.2; omega), if_neg (fun q => w q.2)]; omega
theorem L122_ok' {E : Ev} {M : Mm} {k n A : Nat} {b : Int} (h6 : M 6 k = (A : Int)) (hA : A < 2 ^ n) (hk : k < 31) (hn : n ≤ 8) (h2 : M 2 2 = (n : Int)) (hP : M 41 1 = ((2 ^ n - 1 : Nat) : Int)) : Ok (l_Po_change_122 E (k : Int) b FU M 0) (fun r => r.1 = 1 ∧ Off (fun i => i = 44) M r.2.2 ∧ ∀ c, c < n → r.2.2 44 c = M 44 c + if A.testBit c = true then b else 0) := by
  have hp := pow_lt hn
  have hp1 := Nat.two_pow_pos n
  refine L_Po_change_122 E (k : Int) b (I := fun N x => ∃ j : Nat, x = (j : Int) ∧ j ≤ n ∧ Off (fun i => i = 44) M N ∧ ∀ c, c < n → N 44 c = M 44 c + if c < j ∧ A.testBit c = true then b else 0) (μ := fun _ x => n - x.toNat) ?_ FU M 0 ⟨0, rfl, Nat.zero_le _, Off.refl, fun c _ => by rw [if_neg (fun q => absurd q.1 (Nat.not_lt_zero _))]; omega⟩ (by show n - _ < 5000; omega)
  rintro N x ⟨j, rfl, hj, hO, hN⟩
  have hand : A &&& (2 ^ n - 1) = A := eq_tb (and_lt (by omega)) hA fun i hi => by rw [Nat.testBit_and, full_tb, decide_eq_true hi, Bool.and_true]
  unfold Po_change_122b
  rw [hO 2 (by decide), h2, Int.toNat_natCast, Int.toNat_natCast, hO 6 (by decide), h6, hO 41 (by decide), hP, andI_nat, hand]
  refine ok_ck (rgN (by omega)) (ok_ck (rgN (by omega)) (ok_if (fun q => ?_) (fun q => ?_)))
  · have e : j = n := by omega
    subst e
    refine ok_some (ok_out ne0 ⟨rfl, hO, fun c hc => ?_⟩)
    show N 44 c = _
    rw [hN c hc]
    by_cases w : A.testBit c = true
    · rw [if_pos w, if_pos ⟨hc, w⟩]
    · rw [if_neg w, if_neg (fun z => w z.2)]
  · have hjn : j < n := by omega
    rw [has_tb (by omega) (by omega)]
    refine ok_ck (inN hk (by decide)) (ok_ck ⟨by omega, by omega⟩ (ok_ck ⟨by omega, by omega⟩ (ok_sb ?_)))
    by_cases w : A.testBit j = true
    · rw [if_pos w]
      refine ok_ck (by decide) (ok_if (fun z => absurd z (by decide)) (fun _ => ok_ck (inN (by omega) (by decide)) (ok_some (ok_go rfl ⟨⟨j + 1, c1 j, by omega, hO.u2 rfl, fun c hc => ?_⟩, cnt hjn⟩))))
      show u2 N 44 j (N 44 j + b) 44 c = _
      rw [u2_if]
      by_cases z : c = j
      · rw [z, if_pos ⟨rfl, rfl⟩, hN j hjn, if_neg (fun q => by omega), if_pos ⟨by omega, w⟩]; omega
      · rw [if_neg (fun q => z q.2), hN c hc]
        by_cases y : c < j ∧ A.testBit c = true
        · rw [if_pos y, if_pos ⟨by omega, y.2⟩]
        · rw [if_neg y, if_neg (fun q => y ⟨by omega, q.2⟩)]
    · rw [if_neg w]
      refine ok_ck (by decide) (ok_if (fun _ => ok_some (ok_go rfl ⟨⟨j + 1, c1 j, by omega, hO, fun c hc => ?_⟩, cnt hjn⟩)) (fun z => absurd rfl z))
      show N 44 c = _
      rw [hN c hc]
      by_cases y : c < j ∧ A.testBit c = true
      · rw [if_pos y, if_pos ⟨by omega, y.2⟩]
      · rw [if_neg y, if_neg (fun q => y ⟨by
          rcases Nat.lt_or_ge c j with v | v
          · exact v
          · exact absurd (show A.testBit j = true by rw [show j = c by omega]; exact q.2) w, q.2⟩)]
/-- the state of a poll of all: weights w, ranks R, groups G, approved A of the rows -/
def PS (M : Mm) (n : Nat) (w : Nat → Int) (R : Nat → Nat → Nat) (G A : Nat → Nat) : Prop := M 41 1 = ((2 ^ n - 1 : Nat) : Int) ∧ M 41 2 = sN w 31 ∧ (∀ k, k < 31 → M 42 k = w k) ∧ (∀ c, c < n → M 43 c = sN (fun k => w k * ind (sole (R k) (G k) n (2 ^ n - 1) c)) 31) ∧ (∀ c, c < n → M 44 c = sN (fun k => w k * ind ((A k).testBit c = true)) 31) ∧ ∀ c o, c < n → o < n → M 45 (c * 8 + o) = sN (fun k => w k * ind (R k c < R k o)) 31
def oPo (c : Nat) : Prop := 41 ≤ c ∧ c ≤ 45
theorem sN_chg {f g : Nat → Int} {w w2 : Nat → Int} {k n : Nat} {b : Int} (hk : k < n) (h : ∀ j, w2 j = if j = k then w k + b else w j) (hf : ∀ j, f j = w j * g j) : sN (fun j => w2 j * g j) n = sN f n + b * g k := sN_at (f := f) (i := k) hk fun j _ => by
  show w2 j * g j = _
  rw [h j]
  by_cases c : j = k
  · rw [if_pos c, if_pos c, c, hf k, Int.add_mul]
  · rw [if_neg c, if_neg c, hf j]
theorem change_ok {E : Ev} {M : Mm} {n k : Nat} {w : Nat → Int} {R : Nat → Nat → Nat} {G A : Nat → Nat} {b : Int} (hn : n ≤ 8) (h2 : M 2 2 = (n : Int)) (h : PS M n w R G A) (hk : k < 31) (hr : Rk M k n (G k) (R k) (A k)) (hb : rgI b) : Ok (f_Po_change E M (k : Int) b) (fun N => Off oPo M N ∧ PS N n (fun j => if j = k then w k + b else w j) R G A) := by
  have hp := pow_lt hn
  have hp1 := Nat.two_pow_pos n
  obtain ⟨p1, p2, p3, p4, p5, p6⟩ := h
  unfold f_Po_change
  refine ok_ck hb (ok_if (fun z => ?_) (fun z => ?_))
  · have e : (fun j => if j = k then w k + b else w j) = w := by
      funext j
      by_cases c : j = k
      · rw [if_pos c, c]; omega
      · rw [if_neg c]
    rw [e]
    exact ok_some ⟨Off.refl, p1, p2, p3, p4, p5, p6⟩
  rw [Int.toNat_natCast, p3 k hk]
  obtain ⟨D, hD⟩ : ∃ D, D = u2 M 42 k (w k + b) := ⟨_, rfl⟩
  have d41 : D 41 2 = sN w 31 := by rw [hD, u2_ne (Or.inl (by decide))]; exact p2
  rw [← hD, d41]
  refine ok_ck (inN hk (by decide)) (ok_nbx fun F hF => ?_)
  have oF : Off oPo M F := by rw [hF, hD]; exact (Off.refl.u2 (by unfold oPo; decide)).u2 (by unfold oPo; decide)
  have f41 : F 41 1 = ((2 ^ n - 1 : Nat) : Int) := by rw [hF, u2_ne (Or.inr (by decide)), hD, u2_ne (Or.inl (by decide))]; exact p1
  have f412 : F 41 2 = sN w 31 + b := by rw [hF, u2_at]
  have fr : ∀ c, c ≠ 41 → c ≠ 42 → F c = M c := fun c k1 k2 => by rw [hF, u2_row k1, hD, u2_row k2]
  have f42 : ∀ j, F 42 j = if j = k then w k + b else M 42 j := fun j => by
    rw [hF, u2_ne (Or.inl (by decide)), hD, u2_if]
    by_cases c : j = k
    · rw [if_pos ⟨rfl, c⟩, if_pos c]
    · rw [if_neg (fun q => c q.2), if_neg c]
  have rF : Rk F k n (G k) (R k) (A k) := hr.of (by rw [fr 7 (by decide) (by decide)]) (by rw [fr 6 (by decide) (by decide)]) (fr _ (by omega) (by omega))
  have hw2 : ∀ j, (fun j => if j = k then w k + b else w j) j = if j = k then w k + b else w j := fun j => rfl
  -- the end, from where the first places stand
  have fin : ∀ K : Mm, Off oPo F K → (∀ c, c ≠ 43 → K c = F c) → (∀ c, c < n → K 43 c = M 43 c + b * ind (sole (R k) (G k) n (2 ^ n - 1) c)) → Ok ((l_Po_change_62 E (k : Int) b FU K ((2 ^ n - 1 : Nat) : Int) 0).bind fun (t115, v115_4, v115_5, M115) => ck (t115 = 1) <| (l_Po_change_122 E (k : Int) b FU M115 0).bind fun (t124, v124_5, M124) => ck (t124 = 1) <| some M124) (fun N => Off oPo M N ∧ PS N n (fun j => if j = k then w k + b else w j) R G A) := by
    intro K oK kr k43
    have k2 : K 2 2 = (n : Int) := by rw [kr 2 (by decide), fr 2 (by decide) (by decide)]; exact h2
    have k41 : K 41 = F 41 := kr 41 (by decide)
    have rK : Rk K k n (G k) (R k) (A k) := rF.of (by rw [kr 7 (by decide)]) (by rw [kr 6 (by decide)]) (kr _ (by omega))
    refine ok_bm (L62_ok rK hk hn k2 (by rw [k41]; exact f41)) ?_
    rintro ⟨t, x, y, P⟩ ⟨g1, g2, g3⟩
    have g2 : Off (fun i => i = 45) K P := g2
    have g3 : ∀ c o, c < n → o < n → P 45 (c * 8 + o) = K 45 (c * 8 + o) + if R k c < R k o then b else 0 := g3
    refine ok_ck g1 (ok_bm (L122_ok' (n := n) (A := A k) (by rw [g2 6 (by decide)]; exact rK.2.1) rK.2.2.2.1 hk hn (by rw [g2 2 (by decide)]; exact k2) (by rw [g2 41 (by decide), k41]; exact f41)) ?_)
    rintro ⟨t2, x2, N⟩ ⟨i1, i2, i3⟩
    have i2 : Off (fun i => i = 44) P N := i2
    have i3 : ∀ c, c < n → N 44 c = P 44 c + if (A k).testBit c = true then b else 0 := i3
    have n41 : N 41 = F 41 := (i2 41 (by decide)).trans ((g2 41 (by decide)).trans k41)
    refine ok_ck i1 (ok_some ⟨oF.trans (oK.trans ((g2.mono (fun c hc => by unfold oPo; omega)).trans (i2.mono (fun c hc => by unfold oPo; omega)))), by rw [n41]; exact f41, ?_, fun j hj => ?_, fun c hc => ?_, fun c hc => ?_, fun c o hc ho => ?_⟩)
    · rw [n41, f412]
      exact (sN_at (f := w) hk (fun j _ => rfl)).symm
    · rw [i2 42 (by decide), g2 42 (by decide), kr 42 (by decide), f42 j]
      show (if j = k then w k + b else M 42 j) = if j = k then w k + b else w j
      by_cases c : j = k
      · rw [if_pos c, if_pos c]
      · rw [if_neg c, if_neg c]; exact p3 j hj
    · rw [i2 43 (by decide), g2 43 (by decide), k43 c hc, p4 c hc]
      exact (sN_chg (g := fun k => ind (sole (R k) (G k) n (2 ^ n - 1) c)) hk hw2 (fun j => rfl)).symm
    · rw [i3 c hc, g2 44 (by decide), kr 44 (by decide), fr 44 (by decide) (by decide), p5 c hc, sN_chg (g := fun k => ind ((A k).testBit c = true)) hk hw2 (fun j => rfl)]
      by_cases q : (A k).testBit c = true
      · rw [if_pos q, ind_t q]; omega
      · rw [if_neg q, ind_f q]; omega
    · rw [i2 45 (by decide), g3 c o hc ho, kr 45 (by decide), fr 45 (by decide) (by decide), p6 c o hc ho, sN_chg (g := fun k => ind (R k c < R k o)) hk hw2 (fun j => rfl)]
      by_cases q : R k c < R k o
      · rw [if_pos q, ind_t q]; omega
      · rw [if_neg q, ind_f q]; omega
  rw [f41]
  refine ok_bm (soleTop_ok rF hk hn (by omega)) ?_
  rintro r (⟨rfl, hno⟩ | ⟨c, rfl, hc, hs⟩)
  · refine ok_ck (by decide) (ok_if (fun _ => ?_) (fun q => absurd rfl q))
    exact fin F Off.refl (fun _ _ => rfl) (fun c hc => by rw [fr 43 (by decide) (by decide), ind_f (hno c hc)]; omega)
  · refine ok_ck ⟨by omega, by omega⟩ (ok_if (fun q => by omega) (fun _ => ok_ck (inN (by omega) (by decide)) (ok_nbx fun v hv => ?_)))
    rw [Int.toNat_natCast] at hv ⊢
    rw [u2_ne (Or.inl (by decide)), f41] at hv
    rw [hv]
    refine fin _ (Off.refl.u2 (by unfold oPo; decide)) (fun i hi => u2_row hi) (fun i hi => ?_)
    rw [u2_if]
    by_cases e : i = c
    · rw [if_pos ⟨rfl, e⟩, e, ind_t hs, fr 43 (by decide) (by decide)]; omega
    · rw [if_neg (fun q => e q.2), fr 43 (by decide) (by decide), ind_f (fun q => e (((sole_top hc).mp hs).2 i hi ((sole_top hi).mp q).1))]; omega
