/-! THE SHORTEST ORDER -/
/-- a sum over a set -/
def sS (S n : Nat) (f : Nat → Int) : Int := sN (fun o => if S.testBit o = true then f o else 0) n
theorem del_tb {S n c : Nat} (hS : S < 2 ^ n) (hn : n ≤ 8) (hc : c < n) (i : Nat) : (dN S (2 ^ c)).testBit i = (S.testBit i && decide (i ≠ c)) := by
  have hp := pow_lt hn
  have h1 : 2 ^ c < 2 ^ n := Nat.pow_lt_pow_right (by decide) hc
  rw [dN_tb (by omega) (by omega), one_tb]
  by_cases e : c = i
  · rw [decide_eq_true e, decide_eq_false (fun q => q e.symm)]; rfl
  · rw [decide_eq_false e, decide_eq_true (show i ≠ c from fun q => e q.symm)]; rfl
theorem sS_del {S n c : Nat} {f : Nat → Int} (hS : S < 2 ^ n) (hn : n ≤ 8) (hc : c < n) (h : S.testBit c = true) : sS S n f = sS (dN S (2 ^ c)) n f + f c := by
  unfold sS
  refine sN_at (f := fun o => if (dN S (2 ^ c)).testBit o = true then f o else 0) (i := c) hc (fun k hk => ?_)
  have e := del_tb hS hn hc
  by_cases w : k = c
  · rw [if_pos w, w, e c, h, decide_eq_false (fun q => q rfl), if_pos rfl, if_neg (fun q => by cases q)]; omega
  · rw [if_neg w, e k, decide_eq_true w, Bool.and_true]
theorem sS_zero (n : Nat) (f : Nat → Int) : sS 0 n f = 0 := by
  unfold sS
  rw [sN_congr (g := fun _ => 0) (fun i _ => by rw [Nat.zero_testBit]; rfl), sN_zero]
theorem cS_dn {S n c : Nat} (hS : S < 2 ^ n) (hn : n ≤ 8) (hc : c < n) (h : S.testBit c = true) : cS S n = cS (dN S (2 ^ c)) n + 1 := cS_del hc h (by rw [del_tb hS hn hc, decide_eq_false (fun q => q rfl)]; exact Bool.and_false _) (fun i _ hi => by rw [del_tb hS hn hc, decide_eq_true hi, Bool.and_true])
theorem dn_lt {S n c : Nat} (hS : S < 2 ^ n) (hn : n ≤ 8) (hc : c < n) (h : S.testBit c = true) : dN S (2 ^ c) < S := by
  have h1 := dN_le S (2 ^ c)
  rcases Nat.lt_or_ge (dN S (2 ^ c)) S with w | w
  · exact w
  · exfalso
    have e : dN S (2 ^ c) = S := by omega
    have := del_tb hS hn hc c
    rw [e, h, decide_eq_false (fun q => q rfl)] at this
    cases this
/-- the distance with c ahead of the rest of S -/
def dF (D : Nat → Int) (d : Nat → Nat → Int) (n S c : Nat) : Int := D (dN S (2 ^ c)) + sS (dN S (2 ^ c)) n (fun o => d o c)
/-- D is the table of smallest distances -/
def DR (d : Nat → Nat → Int) (n : Nat) (D : Nat → Int) : Prop := D 0 = 0 ∧ ∀ S, 1 ≤ S → S < 2 ^ n → (∀ c, c < n → S.testBit c = true → D S ≤ dF D d n S c) ∧ ∃ c, c < n ∧ S.testBit c = true ∧ D S = dF D d n S c
theorem DR_unique {d : Nat → Nat → Int} {n : Nat} {D F : Nat → Int} (hn : n ≤ 8) (h : DR d n D) (g : DR d n F) : ∀ S, S < 2 ^ n → D S = F S := by
  intro S
  induction S using Nat.strongRecOn with
  | ind S ih =>
    intro hS
    by_cases e : S = 0
    · rw [e, h.1, g.1]
    · obtain ⟨a1, c, c1', c2, c3⟩ := h.2 S (by omega) hS
      obtain ⟨b1, o, o1, o2, o3⟩ := g.2 S (by omega) hS
      have eq : ∀ i, i < n → S.testBit i = true → dF D d n S i = dF F d n S i := fun i hi hb => by
        have := dn_lt hS hn hi hb
        unfold dF
        rw [ih _ this (by omega)]
      have x1 := a1 o o1 o2
      have x2 := b1 c c1' c2
      rw [eq o o1 o2] at x1
      rw [eq c c1' c2] at c3
      omega
theorem dWF_ok {E : Ev} {M : Mm} {n S c : Nat} {d : Nat → Nat → Int} {D : Nat → Int} (h : PD M n d) (hS : S < 2 ^ n) (hc : c < n) (hD : M 50 (dN S (2 ^ c)) = D (dN S (2 ^ c))) : Ok (f_Po_distanceWithFirst E M (S : Int) (c : Int)) (fun r => r = dF D d n S c) := by
  have h8 := h.2.1
  have hpw := pow_lt h8
  have hpc : 2 ^ c < 2 ^ n := Nat.pow_lt_pow_right (by decide) hc
  have hpc0 := Nat.two_pow_pos c
  have hdl : dN S (2 ^ c) < 2 ^ n := dN_lt hS
  unfold f_Po_distanceWithFirst
  rw [Int.toNat_natCast, p2, dfI_nat, Int.toNat_natCast, hD]
  refine ok_ck ⟨by omega, by omega⟩ (ok_ck ⟨by omega, by omega⟩ (ok_ck ⟨by omega, by omega⟩ (ok_ck (inN (by omega) (by decide)) (ok_nb (ok_bm (R := fun r => r.1 = 1 ∧ r.2.1 = dF D d n S c) ?_ ?_)))))
  · refine L_Po_distanceWithFirst_19 E (c : Int) ((dN S (2 ^ c) : Nat) : Int) M (I := fun x y => ∃ k : Nat, y = (k : Int) ∧ k ≤ n ∧ x = D (dN S (2 ^ c)) + sS (dN S (2 ^ c)) k (fun o => d o c)) (μ := fun _ x => n - x.toNat) ?_ FU (D (dN S (2 ^ c))) 0 ⟨0, rfl, Nat.zero_le _, by show _ = _ + (0 : Int); omega⟩ (by show n - _ < 5000; omega)
    rintro x y ⟨k, rfl, hk, hx⟩
    unfold Po_distanceWithFirst_19b
    rw [h.1]
    refine ok_ck (rgN (by omega)) (ok_ck (rgN (by omega)) (ok_if (fun q => ?_) (fun q => ?_)))
    · have e : k = n := by omega
      rw [e] at hx
      exact ok_some (ok_out ne0 ⟨rfl, hx⟩)
    · have hkn : k < n := by omega
      have b := h.2.2.2 k c hkn hc
      rw [has_tb (by omega) (by omega)]
      refine ok_sb ?_
      by_cases w : (dN S (2 ^ c)).testBit k = true
      · rw [if_pos w, pair_eq h hkn hc]
        refine ok_ck (by decide) (ok_if (fun z => absurd z (by decide)) (fun _ => ok_sb (ok_ck ⟨by omega, by omega⟩ (ok_some (ok_go rfl ⟨⟨k + 1, c1 k, by omega, ?_⟩, cnt hkn⟩)))))
        show x + d k c = _
        rw [hx]
        unfold sS
        rw [sN_succ, if_pos w]
        exact Int.add_assoc _ _ _
      · rw [if_neg w]
        refine ok_ck (by decide) (ok_if (fun _ => ok_some (ok_go rfl ⟨⟨k + 1, c1 k, by omega, ?_⟩, cnt hkn⟩)) (fun z => absurd rfl z))
        show x = _
        rw [hx]
        unfold sS
        rw [sN_succ, if_neg w]
        omega
  · rintro ⟨t, x, y⟩ ⟨g1, g2⟩
    exact ok_ck g1 (ok_some g2)
theorem sS_bound {S n : Nat} {f : Nat → Int} (hf : ∀ o, o < n → 0 ≤ f o ∧ f o ≤ 1000000) (hn : n ≤ 8) : 0 ≤ sS S n f ∧ sS S n f ≤ 8000000 := by
  have key : ∀ o, o < n → 0 ≤ (if S.testBit o = true then f o else 0) ∧ (if S.testBit o = true then f o else 0) ≤ 1000000 := fun o ho => by
    have := hf o ho
    by_cases w : S.testBit o = true
    · rw [if_pos w]; exact this
    · rw [if_neg w]; decide
  have h1 := sN_nonneg (f := fun o => if S.testBit o = true then f o else 0) (fun o ho => (key o ho).1)
  have h2 := sN_le (f := fun o => if S.testBit o = true then f o else 0) (g := fun _ => 1000000) (n := n) (fun o ho => (key o ho).2)
  have h3 : ∀ k : Nat, sN (fun _ => (1000000 : Int)) k = 1000000 * (k : Int) := fun k => by
    induction k with
    | zero => rfl
    | succ k ih => rw [sN_succ, ih]; omega
  rw [h3] at h2
  unfold sS
  omega
theorem DR_bound {d : Nat → Nat → Int} {n : Nat} {D : Nat → Int} (hn : n ≤ 8) (hd : ∀ c o, c < n → o < n → 0 ≤ d c o ∧ d c o ≤ 1000000) (h : DR d n D) : ∀ S, S < 2 ^ n → 0 ≤ D S ∧ D S ≤ 8000000 * cS S n := by
  intro S
  induction S using Nat.strongRecOn with
  | ind S ih =>
    intro hS
    by_cases e : S = 0
    · rw [e, h.1, cS_zero]; decide
    · obtain ⟨a1, c, c1', c2, c3⟩ := h.2 S (by omega) hS
      have hl := dn_lt hS hn c1' c2
      have i1 := ih _ hl (by omega)
      have i2 := sS_bound (S := dN S (2 ^ c)) (f := fun o => d o c) (fun o ho => hd o c ho c1') hn
      have i3 := cS_dn hS hn c1' c2
      unfold dF at c3
      omega
/-- the table -/
theorem findDistances_ok {E : Ev} {M : Mm} {n : Nat} {d : Nat → Nat → Int} (h : PD M n d) (hp : M 41 1 = ((2 ^ n - 1 : Nat) : Int)) : Ok (f_Po_findDistances E M) (fun N => Off (fun i => i = 50) M N ∧ ∃ D, DR d n D ∧ ∀ S, S < 2 ^ n → N 50 S = D S) := by
  have h8 := h.2.1
  have hpw := pow_lt h8
  have hp1 := Nat.two_pow_pos n
  unfold f_Po_findDistances
  refine ok_bm (R := fun r => r.1 = 1 ∧ Off (fun i => i = 50) M r.2.2 ∧ DR d n (r.2.2 50)) ?_ ?_
  · refine L_Po_findDistances_9 E (I := fun N x => ∃ T : Nat, x = (T : Int) ∧ 1 ≤ T ∧ T ≤ 2 ^ n ∧ Off (fun i => i = 50) M N ∧ N 50 0 = 0 ∧ (∀ S, S < T → 0 ≤ N 50 S ∧ N 50 S ≤ 8000000 * cS S n) ∧ ∀ S, 1 ≤ S → S < T → (∀ c, c < n → S.testBit c = true → N 50 S ≤ dF (N 50) d n S c) ∧ ∃ c, c < n ∧ S.testBit c = true ∧ N 50 S = dF (N 50) d n S c) (μ := fun _ x => 2 ^ n - x.toNat) ?_ FU (u2 M 50 0 0) 1 ⟨1, rfl, Nat.le_refl _, by omega, Off.refl.u2 rfl, u2_at _ _ _ _, fun S hS => by rw [show S = 0 by omega, u2_at, cS_zero]; decide, fun S h1 h2 => by omega⟩ (by show 2 ^ n - _ < 5000; omega)
    rintro N x ⟨T, rfl, hT1, hT, oN, h0, hb, hN⟩
    have hPN : PD N n d := h.off oN (by decide) (by decide)
    unfold Po_findDistances_9b
    rw [oN 41 (by decide), hp]
    refine ok_ck ⟨by omega, by omega⟩ (ok_ck ⟨by omega, by omega⟩ (ok_if (fun q => ?_) (fun q => ?_)))
    · have e : T = 2 ^ n := by omega
      subst e
      exact ok_some (ok_out ne0 ⟨rfl, oN, h0, fun S h1 h2 => hN S h1 h2⟩)
    · have hTl : T < 2 ^ n := by omega
      have hbd : ∀ c, c < n → T.testBit c = true → 0 ≤ dF (N 50) d n T c ∧ dF (N 50) d n T c ≤ 8000000 * cS T n := fun c hc hb2 => by
        have hl := dn_lt hTl h8 hc hb2
        have i1 := hb _ hl
        have i2 := sS_bound (S := dN T (2 ^ c)) (f := fun o => d o c) (fun o ho => h.2.2.2 o c ho hc) h8
        have i3 := cS_dn hTl h8 hc hb2
        unfold dF
        omega
      have cT := cS_bounds T n
      refine ok_bm (R := fun r => r.1 = 1 ∧ r.2.2.2 = N ∧ (∀ c, c < n → T.testBit c = true → r.2.1 ≤ dF (N 50) d n T c) ∧ ∃ c, c < n ∧ T.testBit c = true ∧ r.2.1 = dF (N 50) d n T c) ?_ ?_
      · refine L_Po_findDistances_24 E (T : Int) (I := fun K x y => K = N ∧ ∃ k : Nat, y = (k : Int) ∧ k ≤ n ∧ ((x = -1 ∧ ∀ c, c < k → ¬ T.testBit c = true) ∨ (0 ≤ x ∧ (∀ c, c < k → T.testBit c = true → x ≤ dF (N 50) d n T c) ∧ ∃ c, c < k ∧ T.testBit c = true ∧ x = dF (N 50) d n T c))) (μ := fun _ _ x => n - x.toNat) ?_ FU N (-1) 0 ⟨rfl, 0, rfl, Nat.zero_le _, Or.inl ⟨rfl, fun c hc => absurd hc (Nat.not_lt_zero c)⟩⟩ (by show n - _ < 5000; omega)
        rintro K x y ⟨rfl, k, rfl, hk, hx⟩
        unfold Po_findDistances_24b
        rw [hPN.1]
        refine ok_ck (rgN (by omega)) (ok_ck (rgN (by omega)) (ok_if (fun q2 => ?_) (fun q2 => ?_)))
        · have e : k = n := by omega
          subst e
          rcases hx with ⟨-, hno⟩ | ⟨-, x2, x3⟩
          · exact absurd (zero_of hTl (fun i hi => hno i hi)) (by omega)
          · exact ok_some (ok_out ne0 ⟨rfl, rfl, x2, x3⟩)
        · have hkn : k < n := by omega
          rw [has_tb (by omega) (by omega)]
          refine ok_sb ?_
          by_cases w : T.testBit k = true
          · rw [if_pos w]
            have bd := hbd k hkn w
            refine ok_ck (by decide) (ok_if (fun z => absurd z (by decide)) (fun _ => ok_bm (dWF_ok (D := K 50) hPN hTl hkn rfl) ?_))
            rintro r rfl
            rcases hx with ⟨rfl, hno⟩ | ⟨x1, x2, x3⟩
            · refine ok_ck ⟨by decide, by decide⟩ (ok_if (fun _ => ok_some (ok_go rfl ⟨⟨rfl, k + 1, c1 k, by omega, Or.inr ⟨bd.1, fun c hc hcb => ?_, k, by omega, w, rfl⟩⟩, cnt hkn⟩)) (fun z => absurd rfl z))
              by_cases e : c = k
              · rw [e]; exact Int.le_refl _
              · exact absurd hcb (hno c (by omega))
            · have xb : x ≤ 8000000 * cS T n := by
                obtain ⟨c, z1, z2, z3⟩ := x3
                have := (hbd c (by omega) z2).2
                omega
              refine ok_ck ⟨by omega, by omega⟩ (ok_if (fun z => by omega) (fun _ => ok_ck ⟨by omega, by omega⟩ (ok_some (ok_go rfl ⟨⟨rfl, k + 1, c1 k, by omega, Or.inr ⟨by show 0 ≤ min _ _; omega, fun c hc hcb => ?_, ?_⟩⟩, cnt hkn⟩))))
              · show min x (dF (K 50) d n T k) ≤ _
                by_cases e : c = k
                · rw [e]; omega
                · have := x2 c (by omega) hcb
                  omega
              · show ∃ c, c < k + 1 ∧ T.testBit c = true ∧ min x (dF (K 50) d n T k) = dF (K 50) d n T c
                rcases Int.le_total x (dF (K 50) d n T k) with z | z
                · obtain ⟨c, z1, z2, z3⟩ := x3
                  exact ⟨c, by omega, z2, by rw [Int.min_eq_left z]; exact z3⟩
                · exact ⟨k, by omega, w, Int.min_eq_right z⟩
          · rw [if_neg w]
            refine ok_ck (by decide) (ok_if (fun _ => ok_some (ok_go rfl ⟨⟨rfl, k + 1, c1 k, by omega, ?_⟩, cnt hkn⟩)) (fun z => absurd rfl z))
            rcases hx with ⟨e, hno⟩ | ⟨x1, x2, c, z1, z2, z3⟩
            · refine Or.inl ⟨e, fun c hc => ?_⟩
              by_cases e2 : c = k
              · rw [e2]; exact w
              · exact hno c (by omega)
            · refine Or.inr ⟨x1, fun c hc hcb => ?_, c, by omega, z2, z3⟩
              by_cases e2 : c = k
              · rw [e2] at hcb; exact absurd hcb w
              · exact x2 c (by omega) hcb
      · rintro ⟨t, x, y, K⟩ ⟨g1, g2r, g3, g4⟩
        have g2 : K = N := g2r
        subst g2
        have g3 : ∀ c, c < n → T.testBit c = true → x ≤ dF (K 50) d n T c := g3
        have g4 : ∃ c, c < n ∧ T.testBit c = true ∧ x = dF (K 50) d n T c := g4
        show Ok (ck (t = 1) (ck (inb (T : Int) 256) (some (0, (T : Int) + 1, u2 K 50 (T : Int).toNat x)))) _
        rw [Int.toNat_natCast]
        have row : ∀ S, u2 K 50 T x 50 S = if S = T then x else K 50 S := fun S => by
          rw [u2_if]
          by_cases e : S = T
          · rw [if_pos ⟨rfl, e⟩, if_pos e]
          · rw [if_neg (fun z => e z.2), if_neg e]
        have dFe : ∀ S c, S < T + 1 → c < n → S.testBit c = true → dF (u2 K 50 T x 50) d n S c = dF (K 50) d n S c := fun S c hS hc hb2 => by
          have hl := dn_lt (show S < 2 ^ n by omega) h8 hc hb2
          unfold dF
          rw [row, if_neg (by omega)]
        refine ok_ck g1 (ok_ck (inN (by omega) (by decide)) (ok_some (ok_go rfl ⟨⟨T + 1, c1 T, by omega, by omega, oN.u2 rfl, ?_, fun S hS => ?_, fun S h1 h2 => ?_⟩, cnt hTl⟩)))
        · show u2 K 50 T x 50 0 = 0
          rw [row, if_neg (by omega)]; exact h0
        · show 0 ≤ u2 K 50 T x 50 S ∧ u2 K 50 T x 50 S ≤ _
          rw [row]
          by_cases e : S = T
          · rw [if_pos e, e]
            obtain ⟨c, z1, z2, z3⟩ := g4
            rw [z3]
            exact hbd c z1 z2
          · rw [if_neg e]; exact hb S (by omega)
        · show (∀ c, c < n → S.testBit c = true → u2 K 50 T x 50 S ≤ dF (u2 K 50 T x 50) d n S c) ∧ ∃ c, c < n ∧ S.testBit c = true ∧ u2 K 50 T x 50 S = dF (u2 K 50 T x 50) d n S c
          rw [row]
          by_cases e : S = T
          · rw [if_pos e]
            refine ⟨fun c hc hb2 => ?_, ?_⟩
            · rw [dFe S c h2 hc hb2, e]
              rw [e] at hb2
              exact g3 c hc hb2
            · obtain ⟨c, z1, z2, z3⟩ := g4
              exact ⟨c, z1, by rw [e]; exact z2, by rw [dFe S c h2 z1 (by rw [e]; exact z2), e]; exact z3⟩
          · rw [if_neg e]
            obtain ⟨y1, c, z1, z2, z3⟩ := hN S h1 (by omega)
            exact ⟨fun b hb1 hb2 => by rw [dFe S b h2 hb1 hb2]; exact y1 b hb1 hb2, c, z1, z2, by rw [dFe S c h2 z1 z2]; exact z3⟩
  · rintro ⟨t, x, N⟩ ⟨g1, g2, g3⟩
    exact ok_ck g1 (ok_some ⟨g2, N 50, g3, fun S _ => rfl⟩)
/-! THE ORDER ITSELF -/
def fI (p : Nat → Bool) : Nat → Nat → Nat
  | 0, _ => 0
  | k + 1, i => if p i = true then i else fI p k (i + 1)
theorem fI_at {p : Nat → Bool} : ∀ {k i c : Nat}, i ≤ c → c < i + k → (∀ b, i ≤ b → b < c → p b = false) → p c = true → fI p k i = c
  | 0, i, c, h1, h2, _, _ => by omega
  | k + 1, i, c, h1, h2, h3, h4 => by
    show (if p i = true then i else fI p k (i + 1)) = c
    by_cases e : i = c
    · rw [e, if_pos h4]
    · rw [if_neg (by rw [h3 i (Nat.le_refl i) (by omega)]; decide)]
      exact fI_at (by omega) (by omega) (fun b hb1 hb2 => h3 b (by omega) hb2) h4
theorem fI_has {p : Nat → Bool} {n c : Nat} (hc : c < n) (h : p c = true) : fI p n 0 < n ∧ p (fI p n 0) = true := by
  have key : ∀ k i c, i ≤ c → c < i + k → p c = true → fI p k i < i + k ∧ p (fI p k i) = true := fun k => by
    induction k with
    | zero => intro i c h1 h2; omega
    | succ k ih =>
      intro i c h1 h2 h3
      show (if p i = true then i else fI p k (i + 1)) < i + (k + 1) ∧ p (if p i = true then i else fI p k (i + 1)) = true
      by_cases e : p i = true
      · rw [if_pos e]; exact ⟨by omega, e⟩
      · rw [if_neg e]
        have ne : i ≠ c := fun q => e (by rw [q]; exact h3)
        have := ih (i + 1) c (by omega) (by omega) h3
        exact ⟨by omega, this.2⟩
  have := key n 0 c (Nat.zero_le _) (by omega) h
  exact ⟨by omega, this.2⟩
/-- who is first of S in the order -/
def fC (D : Nat → Int) (d : Nat → Nat → Int) (n S : Nat) : Nat := fI (fun c => S.testBit c && decide (dF D d n S c = D S)) n 0
theorem fC_has {d : Nat → Nat → Int} {n S : Nat} {D : Nat → Int} (h : DR d n D) (h1 : 1 ≤ S) (hS : S < 2 ^ n) : fC D d n S < n ∧ S.testBit (fC D d n S) = true ∧ dF D d n S (fC D d n S) = D S := by
  obtain ⟨-, c, z1, z2, z3⟩ := h.2 S h1 hS
  have := fI_has (p := fun c => S.testBit c && decide (dF D d n S c = D S)) z1 (by show (S.testBit c && decide (dF D d n S c = D S)) = true; rw [z2, decide_eq_true z3.symm]; rfl)
  refine ⟨this.1, ?_⟩
  have h2 : (S.testBit (fC D d n S) && decide (dF D d n S (fC D d n S) = D S)) = true := this.2
  rw [Bool.and_eq_true] at h2
  exact ⟨h2.1, of_decide_eq_true h2.2⟩
theorem firstOf_ok {E : Ev} {M : Mm} {n S : Nat} {d : Nat → Nat → Int} {D : Nat → Int} (h : PD M n d) (hR : DR d n D) (hD : ∀ S, S < 2 ^ n → M 50 S = D S) (h1 : 1 ≤ S) (hS : S < 2 ^ n) : Ok (f_Po_firstOfConsensus E M (S : Int)) (fun r => r = (fC D d n S : Int)) := by
  have h8 := h.2.1
  have hpw := pow_lt h8
  obtain ⟨f1, f2, f3⟩ := fC_has hR h1 hS
  unfold f_Po_firstOfConsensus
  refine ok_bm (R := fun r => r.1 = 1 ∧ r.2 = (fC D d n S : Int)) ?_ ?_
  · refine L_Po_firstOfConsensus_2 E (S : Int) M (I := fun x => ∃ c : Nat, x = (c : Int) ∧ c ≤ n ∧ ∀ b, b < c → (S.testBit b && decide (dF D d n S b = D S)) = false) (μ := fun x => n - x.toNat) ?_ FU 0 ⟨0, rfl, Nat.zero_le _, fun b hb => absurd hb (Nat.not_lt_zero b)⟩ (by show n - _ < 5000; omega)
    rintro x ⟨c, rfl, hc, hno⟩
    unfold Po_firstOfConsensus_2b
    rw [h.1]
    refine ok_ck (rgN (by omega)) (ok_ck (rgN (by omega)) (ok_if (fun q => ?_) (fun q => ?_)))
    · exfalso
      have e : c = n := by omega
      have := hno (fC D d n S) (by omega)
      rw [f2, decide_eq_true f3] at this
      cases this
    · have hcn : c < n := by omega
      have more : (S.testBit c && decide (dF D d n S c = D S)) = false → Ok (some (0, (c : Int) + 1) : Option (Nat × Int)) (fun r => (r.1 = 0 → (∃ c : Nat, r.2 = (c : Int) ∧ c ≤ n ∧ ∀ b, b < c → (S.testBit b && decide (dF D d n S b = D S)) = false) ∧ n - r.2.toNat < n - (c : Int).toNat) ∧ (r.1 ≠ 0 → r.1 = 1 ∧ r.2 = (fC D d n S : Int))) := fun z => by
        refine ok_some (ok_go rfl ⟨⟨c + 1, c1 c, by omega, fun b hb => ?_⟩, cnt hcn⟩)
        by_cases e : b = c
        · rw [e]; exact z
        · exact hno b (by omega)
      rw [has_tb (by omega) (by omega)]
      refine ok_sb ?_
      by_cases w : S.testBit c = true
      · rw [if_pos w]
        refine ok_ck (by decide) (ok_if (fun z => absurd z (by decide)) (fun _ => ok_bm (dWF_ok h hS hcn (hD _ (dN_lt hS))) ?_))
        rintro r rfl
        rw [Int.toNat_natCast, hD S hS]
        have b1 := DR_bound h8 h.2.2.2 hR S hS
        have b2 := DR_bound h8 h.2.2.2 hR (dN S (2 ^ c)) (dN_lt hS)
        have b3 := sS_bound (S := dN S (2 ^ c)) (f := fun o => d o c) (fun o ho => h.2.2.2 o c ho hcn) h8
        have b4 := cS_bounds S n
        have b5 := cS_bounds (dN S (2 ^ c)) n
        have b6 : 0 ≤ dF D d n S c ∧ dF D d n S c ≤ 80000000 := by unfold dF; omega
        refine ok_ck (inN (by omega) (by decide)) (ok_ck ⟨by omega, by omega⟩ (ok_ck ⟨by omega, by omega⟩ (ok_if (fun z => ?_) (fun z => ?_))))
        · refine ok_some (ok_out ne0 ⟨rfl, ?_⟩)
          show (c : Int) = _
          congr 1
          exact (fI_at (Nat.zero_le _) (by omega) (fun b _ hb => hno b hb) (by show (S.testBit c && decide (dF D d n S c = D S)) = true; rw [w, decide_eq_true z]; rfl)).symm
        · exact more (by rw [decide_eq_false z, Bool.and_false])
      · rw [if_neg w]
        exact ok_ck (by decide) (ok_if (fun _ => more (by rw [Bool.eq_false_iff.mpr w, Bool.false_and])) (fun z => absurd rfl z))
  · rintro ⟨t, x⟩ ⟨g1, g2⟩
    have g1 : t = 1 := g1
    have g2 : x = (fC D d n S : Int) := g2
    subst g1 g2
    exact ok_if (fun _ => ok_some rfl) (fun z => absurd rfl z)
/-- those left when i are placed; who comes next -/
def cL (D : Nat → Int) (d : Nat → Nat → Int) (n : Nat) : Nat → Nat
  | 0 => 2 ^ n - 1
  | i + 1 => dN (cL D d n i) (2 ^ fC D d n (cL D d n i))
def cQ (D : Nat → Int) (d : Nat → Nat → Int) (n i : Nat) : Nat := fC D d n (cL D d n i)
theorem cL_lt (D : Nat → Int) (d : Nat → Nat → Int) (n : Nat) : ∀ i, cL D d n i < 2 ^ n
  | 0 => by have := Nat.two_pow_pos n; show 2 ^ n - 1 < 2 ^ n; omega
  | i + 1 => dN_lt (cL_lt D d n i)
theorem cL_cS {d : Nat → Nat → Int} {n : Nat} {D : Nat → Int} (hn : n ≤ 8) (h : DR d n D) : ∀ i, i ≤ n → cS (cL D d n i) n = (n : Int) - (i : Int)
  | 0, _ => by show cS (2 ^ n - 1) n = _; rw [cS_full]; omega
  | i + 1, hi => by
    have ih := cL_cS hn h i (by omega)
    have hl := cL_lt D d n i
    have h1 : 1 ≤ cL D d n i := by
      rcases Nat.eq_zero_or_pos (cL D d n i) with e | e
      · rw [e, cS_zero] at ih; omega
      · exact e
    obtain ⟨f1, f2, -⟩ := fC_has h h1 hl
    have := cS_dn hl hn f1 f2
    show cS (dN (cL D d n i) (2 ^ fC D d n (cL D d n i))) n = _
    omega
theorem cL_pos {d : Nat → Nat → Int} {n i : Nat} {D : Nat → Int} (hn : n ≤ 8) (h : DR d n D) (hi : i < n) : 1 ≤ cL D d n i := by
  have ih := cL_cS hn h i (by omega)
  rcases Nat.eq_zero_or_pos (cL D d n i) with e | e
  · rw [e, cS_zero] at ih; omega
  · exact e
theorem cQ_has {d : Nat → Nat → Int} {n i : Nat} {D : Nat → Int} (hn : n ≤ 8) (h : DR d n D) (hi : i < n) : cQ D d n i < n ∧ (cL D d n i).testBit (cQ D d n i) = true ∧ dF D d n (cL D d n i) (cQ D d n i) = D (cL D d n i) := fC_has h (cL_pos hn h hi) (cL_lt D d n i)
theorem place_ok {E : Ev} {M : Mm} {n i : Nat} {d : Nat → Nat → Int} {D : Nat → Int} (h : PD M n d) (hp : M 41 1 = ((2 ^ n - 1 : Nat) : Int)) (hR : DR d n D) (hD : ∀ S, S < 2 ^ n → M 50 S = D S) (hi : i < n) : Ok (f_Po_consensusPlace E M (i : Int)) (fun r => r = (cQ D d n i : Int)) := by
  have h8 := h.2.1
  have hpw := pow_lt h8
  have hp1 := Nat.two_pow_pos n
  unfold f_Po_consensusPlace
  rw [hp]
  refine ok_bm (R := fun r => r.1 = 1 ∧ r.2.2.1 = (cQ D d n i : Int)) ?_ ?_
  · refine L_Po_consensusPlace_10 E (i : Int) M (I := fun x y z => ∃ k : Nat, z = (k : Int) ∧ k ≤ i + 1 ∧ x = (cL D d n k : Int) ∧ (1 ≤ k → y = (cQ D d n (k - 1) : Int))) (μ := fun _ _ x => i + 1 - x.toNat) ?_ FU ((2 ^ n - 1 : Nat) : Int) (-1) 0 ⟨0, rfl, Nat.zero_le _, rfl, fun q => absurd q (by decide)⟩ (by show i + 1 - _ < 5000; omega)
    rintro x y z ⟨k, rfl, hk, rfl, hy⟩
    have hl := cL_lt D d n k
    unfold Po_consensusPlace_10b
    refine ok_ck (rgN (by omega)) (ok_ck (rgN (by omega)) (ok_if (fun q => ?_) (fun q => ?_)))
    · have e : k = i + 1 := by omega
      have := hy (by omega)
      rw [e, Nat.add_sub_cancel] at this
      exact ok_some (ok_out ne0 ⟨rfl, this⟩)
    · have hkn : k < n := by omega
      have hpos := cL_pos h8 hR hkn
      refine ok_ck (rgN (by omega)) (ok_if (fun w => by omega) (fun _ => ok_bm (firstOf_ok h hR hD hpos hl) ?_))
      rintro r rfl
      obtain ⟨f1, -⟩ := fC_has hR hpos hl
      have hpc : 2 ^ fC D d n (cL D d n k) < 2 ^ n := Nat.pow_lt_pow_right (by decide) f1
      have hpc0 := Nat.two_pow_pos (fC D d n (cL D d n k))
      rw [Int.toNat_natCast, p2, dfI_nat]
      exact ok_ck ⟨by omega, by omega⟩ (ok_ck ⟨by omega, by omega⟩ (ok_ck ⟨by omega, by omega⟩ (ok_some (ok_go rfl ⟨⟨k + 1, c1 k, by omega, rfl, fun _ => by rw [Nat.add_sub_cancel]; rfl⟩, by show i + 1 - ((k : Int) + 1).toNat < i + 1 - (k : Int).toNat; omega⟩))))
  · rintro ⟨t, x, y, z⟩ ⟨g1, g2⟩
    exact ok_ck g1 (ok_some g2)
/-- those left are those who come later -/
theorem cL_sum {d : Nat → Nat → Int} {n : Nat} {D : Nat → Int} (hn : n ≤ 8) (h : DR d n D) (f : Nat → Int) : ∀ j i, i + j = n → sS (cL D d n i) n f = sN (fun k => f (cQ D d n (i + k))) j
  | 0, i, hi => by
    have e := cL_cS hn h i (by omega)
    have : cL D d n i = 0 := zero_of (cL_lt D d n i) fun k hk w => by
      have := cS_pos.mpr ⟨k, hk, w⟩
      omega
    rw [this, sS_zero]; rfl
  | j + 1, i, hi => by
    obtain ⟨q1, q2, -⟩ := cQ_has hn h (show i < n by omega)
    have ih := cL_sum hn h f j (i + 1) (by omega)
    rw [sS_del (cL_lt D d n i) hn q1 q2]
    have e : sN (fun k => f (cQ D d n (i + k))) (j + 1) = f (cQ D d n i) + sN (fun k => f (cQ D d n (i + 1 + k))) j := by
      rw [show j + 1 = 1 + j by omega, sN_split]
      show (0 : Int) + f (cQ D d n (i + 0)) + _ = _
      rw [Nat.add_zero, Int.zero_add]
      congr 1
      exact sN_congr fun k _ => by rw [show i + (1 + k) = i + 1 + k by omega]
    rw [e, ← ih]
    show sS (dN (cL D d n i) (2 ^ fC D d n (cL D d n i))) n f + _ = _
    exact Int.add_comm _ _
/-- the distance is that of its pairs -/
theorem cQ_dist {d : Nat → Nat → Int} {n : Nat} {D : Nat → Int} (hn : n ≤ 8) (h : DR d n D) : ∀ j i, i + j = n → D (cL D d n i) = sN (fun k => sN (fun m => d (cQ D d n (i + k + 1 + m)) (cQ D d n (i + k))) (j - k - 1)) j
  | 0, i, hi => by
    have e := cL_cS hn h i (by omega)
    have : cL D d n i = 0 := zero_of (cL_lt D d n i) fun k hk w => by
      have := cS_pos.mpr ⟨k, hk, w⟩
      omega
    rw [this, h.1]; rfl
  | j + 1, i, hi => by
    obtain ⟨q1, q2, q3⟩ := cQ_has hn h (show i < n by omega)
    have ih := cQ_dist hn h j (i + 1) (by omega)
    have s := cL_sum hn h (fun o => d o (cQ D d n i)) j (i + 1) (by omega)
    rw [← q3]
    unfold dF
    show D (cL D d n (i + 1)) + sS (cL D d n (i + 1)) n (fun o => d o (cQ D d n i)) = _
    rw [ih, s, show j + 1 = 1 + j by omega, sN_split]
    show _ = (0 : Int) + sN (fun m => d (cQ D d n (i + 0 + 1 + m)) (cQ D d n (i + 0))) (1 + j - 0 - 1) + _
    rw [Int.zero_add, Nat.add_zero, show 1 + j - 0 - 1 = j by omega, Int.add_comm]
    congr 1
    refine sN_congr fun k hk => ?_
    rw [show i + (1 + k) = i + 1 + k by omega, show 1 + j - (1 + k) - 1 = j - k - 1 by omega]
/-- neighbors aren't better the other way round -/
theorem cQ_near {d : Nat → Nat → Int} {n i : Nat} {D : Nat → Int} (hn : n ≤ 8) (h : DR d n D) (hi : i + 1 < n) : d (cQ D d n (i + 1)) (cQ D d n i) ≤ d (cQ D d n i) (cQ D d n (i + 1)) := by
  obtain ⟨a1, a2, a3⟩ := cQ_has hn h (show i < n by omega)
  obtain ⟨b1, b2, b3⟩ := cQ_has hn h hi
  have hl := cL_lt D d n i
  obtain ⟨x, hx⟩ : ∃ x, x = cQ D d n i := ⟨_, rfl⟩
  obtain ⟨y, hy⟩ : ∃ y, y = cQ D d n (i + 1) := ⟨_, rfl⟩
  obtain ⟨S, hS⟩ : ∃ S, S = cL D d n i := ⟨_, rfl⟩
  have e1 : cL D d n (i + 1) = dN S (2 ^ x) := by rw [hS, hx]; rfl
  rw [e1, ← hy] at b2 b3
  rw [← hx, ← hS] at a2 a3
  rw [← hy] at b1
  rw [← hx] at a1
  rw [← hS] at hl
  rw [← hx, ← hy]
  have bt := del_tb hl hn a1
  have yx : y ≠ x ∧ S.testBit y = true := by
    rw [bt y, Bool.and_eq_true] at b2
    exact ⟨of_decide_eq_true b2.2, b2.1⟩
  -- y first, then x
  have m1 := (h.2 S (by
    rcases Nat.eq_zero_or_pos S with e | e
    · rw [e, Nat.zero_testBit] at a2; cases a2
    · exact e) hl).1 y b1 yx.2
  have hx2 : (dN S (2 ^ y)).testBit x = true := by rw [del_tb hl hn b1, a2, decide_eq_true (show x ≠ y from fun q => yx.1 q.symm)]; rfl
  have m2 := (h.2 (dN S (2 ^ y)) (by
    rcases Nat.eq_zero_or_pos (dN S (2 ^ y)) with e | e
    · rw [e, Nat.zero_testBit] at hx2; cases hx2
    · exact e) (dN_lt hl)).1 x a1 hx2
  have comm : dN (dN S (2 ^ y)) (2 ^ x) = dN (dN S (2 ^ x)) (2 ^ y) := eq_tb (dN_lt (dN_lt hl)) (dN_lt (dN_lt hl)) fun j _ => by
    rw [del_tb (dN_lt hl) hn a1, del_tb hl hn b1, del_tb (dN_lt hl) hn b1, bt j, Bool.and_assoc, Bool.and_assoc, Bool.and_comm (decide (j ≠ y))]
  have s1 := sS_del (f := fun o => d o y) (dN_lt hl) hn a1 hx2
  have s2 := sS_del (f := fun o => d o x) (dN_lt hl) hn b1 b2
  rw [comm] at s1
  unfold dF at a3 b3 m1 m2
  rw [comm] at m2
  have s1 : sS (dN S (2 ^ y)) n (fun o => d o y) = sS (dN (dN S (2 ^ x)) (2 ^ y)) n (fun o => d o y) + d x y := s1
  have s2 : sS (dN S (2 ^ x)) n (fun o => d o x) = sS (dN (dN S (2 ^ x)) (2 ^ y)) n (fun o => d o x) + d y x := s2
  omega
/-- who beats all leads -/
theorem lead {d : Nat → Nat → Int} {n x : Nat} {D : Nat → Int} (hn : n ≤ 8) (h : DR d n D) (hx : x < n) (hb : bAll d n x) : ∀ S, S < 2 ^ n → S.testBit x = true → D S = dF D d n S x ∧ ∀ c, c < n → c ≠ x → S.testBit c = true → D S < dF D d n S c := by
  intro S
  induction S using Nat.strongRecOn with
  | ind S ih =>
    intro hS hSx
    have hpos : 1 ≤ S := by
      rcases Nat.eq_zero_or_pos S with e | e
      · rw [e, Nat.zero_testBit] at hSx; cases hSx
      · exact e
    obtain ⟨mn, c0, z1, z2, z3⟩ := h.2 S hpos hS
    have second : ∀ c, c < n → c ≠ x → S.testBit c = true → dF D d n S x < dF D d n S c := fun c hc hne hcb => by
      have t1 : (dN S (2 ^ c)).testBit x = true := by rw [del_tb hS hn hc, hSx, decide_eq_true (show x ≠ c from fun q => hne q.symm)]; rfl
      have t2 : (dN S (2 ^ x)).testBit c = true := by rw [del_tb hS hn hx, hcb, decide_eq_true hne]; rfl
      have i1 := (ih _ (dn_lt hS hn hc hcb) (dN_lt hS) t1).1
      have i2 := (h.2 (dN S (2 ^ x)) (by
        rcases Nat.eq_zero_or_pos (dN S (2 ^ x)) with e | e
        · rw [e, Nat.zero_testBit] at t2; cases t2
        · exact e) (dN_lt hS)).1 c hc t2
      have comm : dN (dN S (2 ^ c)) (2 ^ x) = dN (dN S (2 ^ x)) (2 ^ c) := eq_tb (dN_lt (dN_lt hS)) (dN_lt (dN_lt hS)) fun j _ => by
        rw [del_tb (dN_lt hS) hn hx, del_tb hS hn hc, del_tb (dN_lt hS) hn hc, del_tb hS hn hx, Bool.and_assoc, Bool.and_assoc, Bool.and_comm (decide (j ≠ c))]
      have s1 := sS_del (f := fun o => d o c) (dN_lt hS) hn hx t1
      have s2 := sS_del (f := fun o => d o x) (dN_lt hS) hn hc t2
      have lt := hb c hc hne
      unfold dF at i1 i2 ⊢
      rw [comm] at i1 s1
      have s1 : sS (dN S (2 ^ c)) n (fun o => d o c) = sS (dN (dN S (2 ^ x)) (2 ^ c)) n (fun o => d o c) + d x c := s1
      have s2 : sS (dN S (2 ^ x)) n (fun o => d o x) = sS (dN (dN S (2 ^ x)) (2 ^ c)) n (fun o => d o x) + d c x := s2
      omega
    have first : D S = dF D d n S x := by
      by_cases e : c0 = x
      · rw [← e]; exact z3
      · have := second c0 z1 e z2
        have := mn x hx hSx
        omega
    exact ⟨first, fun c hc hne hcb => by have := second c hc hne hcb; omega⟩
theorem lead0 {d : Nat → Nat → Int} {n x : Nat} {D : Nat → Int} (hn : n ≤ 8) (h : DR d n D) (hx : x < n) (hb : bAll d n x) : cQ D d n 0 = x := by
  obtain ⟨a1, a2, a3⟩ := cQ_has hn h (show 0 < n by omega)
  refine Decidable.byContradiction fun e => ?_
  have := (lead hn h hx hb (cL D d n 0) (cL_lt D d n 0) (by show (2 ^ n - 1).testBit x = true; rw [full_tb]; exact decide_eq_true hx)).2 _ a1 e a2
  omega
