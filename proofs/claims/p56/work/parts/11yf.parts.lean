/-! THE COUNT: how often a weight is parted -/
def fcN : Nat → Nat
  | 0 => 1
  | n + 1 => (n + 1) * fcN n
theorem fcN_succ (n : Nat) : fcN (n + 1) = (n + 1) * fcN n := rfl
theorem fcN_pos : ∀ n, 0 < fcN n
  | 0 => by decide
  | n + 1 => by rw [fcN_succ]; exact Nat.mul_pos (by omega) (fcN_pos n)
theorem fc_dvd : ∀ (m a b : Nat), a + b = m → fcN a * fcN b ∣ fcN m
  | 0, a, b, h => by
    have h1 : a = 0 := by omega
    have h2 : b = 0 := by omega
    subst h1 h2
    exact Nat.dvd_refl _
  | m + 1, 0, b, h => by
    have h2 : b = m + 1 := by omega
    subst h2
    show 1 * _ ∣ _
    rw [Nat.one_mul]
    exact Nat.dvd_refl _
  | m + 1, a + 1, 0, h => by
    have h2 : a = m := by omega
    subst h2
    show _ * 1 ∣ _
    rw [Nat.mul_one]
    exact Nat.dvd_refl _
  | m + 1, a + 1, b + 1, h => by
    have h1 := fc_dvd m a (b + 1) (by omega)
    have h2 := fc_dvd m (a + 1) b (by omega)
    have e : fcN (m + 1) = (a + 1) * fcN m + (b + 1) * fcN m := by
      rw [fcN_succ, ← Nat.add_mul]
      congr 1
      omega
    rw [e]
    refine Nat.dvd_add ?_ ?_
    · rw [fcN_succ a, Nat.mul_assoc]
      exact Nat.mul_dvd_mul (Nat.dvd_refl _) h1
    · have e2 : fcN (a + 1) * fcN (b + 1) = (b + 1) * (fcN (a + 1) * fcN b) := by
        rw [fcN_succ b, Nat.mul_left_comm]
      rw [e2]
      exact Nat.mul_dvd_mul (Nat.dvd_refl _) h2
theorem fc_mono (a : Nat) : ∀ d, fcN a ∣ fcN (a + d)
  | 0 => Nat.dvd_refl _
  | d + 1 => Nat.dvd_trans (fc_mono a d) (by rw [← Nat.add_assoc, fcN_succ]; exact Nat.dvd_mul_left _ _)
theorem fc_le {a b : Nat} (h : a ≤ b) : fcN a ∣ fcN b := by
  obtain ⟨d, rfl⟩ := Nat.exists_eq_add_of_le h
  exact fc_mono a d
/-- how many have a property -/
def cN (f : Nat → Bool) : Nat → Nat
  | 0 => 0
  | n + 1 => cN f n + (if f n = true then 1 else 0)
theorem cN_succ (f : Nat → Bool) (n : Nat) : cN f (n + 1) = cN f n + (if f n = true then 1 else 0) := rfl
theorem cN_congr {f g : Nat → Bool} : ∀ {n : Nat}, (∀ i, i < n → f i = g i) → cN f n = cN g n
  | 0, _ => rfl
  | n + 1, h => by rw [cN_succ, cN_succ, cN_congr (fun i hi => h i (by omega)), h n (by omega)]
theorem cN_le {f g : Nat → Bool} : ∀ {n : Nat}, (∀ i, i < n → f i = true → g i = true) → cN f n ≤ cN g n
  | 0, _ => Nat.le_refl _
  | n + 1, h => by
    have := cN_le (f := f) (g := g) (n := n) (fun i hi => h i (by omega))
    rw [cN_succ, cN_succ]
    by_cases c : f n = true
    · rw [if_pos c, if_pos (h n (by omega) c)]; omega
    · rw [if_neg c]
      by_cases d : g n = true
      · rw [if_pos d]; omega
      · rw [if_neg d]; omega
theorem cN_bound (f : Nat → Bool) : ∀ n, cN f n ≤ n
  | 0 => Nat.le_refl _
  | n + 1 => by
    have := cN_bound f n
    rw [cN_succ]
    by_cases c : f n = true
    · rw [if_pos c]; omega
    · rw [if_neg c]; omega
theorem cN_or {f g h : Nat → Bool} : ∀ {n : Nat}, (∀ i, i < n → f i = (g i || h i)) → (∀ i, i < n → ¬ (g i = true ∧ h i = true)) → cN f n = cN g n + cN h n
  | 0, _, _ => rfl
  | n + 1, h1, h2 => by
    have ih := cN_or (f := f) (g := g) (h := h) (n := n) (fun i hi => h1 i (by omega)) (fun i hi => h2 i (by omega))
    have e := h1 n (by omega)
    have d := h2 n (by omega)
    rw [cN_succ, cN_succ, cN_succ, ih, e]
    cases hg : g n <;> cases hh : h n <;> simp_all <;> omega
theorem cN_cS (S : Nat) : ∀ n, cS S n = ((cN (fun c => S.testBit c) n : Nat) : Int)
  | 0 => rfl
  | n + 1 => by
    have ih := cN_cS S n
    unfold cS at ih ⊢
    rw [sN_succ, ih, cN_succ]
    by_cases c : S.testBit n = true
    · rw [if_pos c, if_pos c]; rfl
    · rw [if_neg c, if_neg c]; rfl
/-- how many of H have the rank g -/
def gc (R : Nat → Nat) (n H g : Nat) : Nat := cN (fun c => decide (R c = g) && H.testBit c) n
/-- what an amount must be a multiple of to be parted among H again and again -/
def ph (R : Nat → Nat) (n H : Nat) : Nat → Nat
  | 0 => 1
  | g + 1 => ph R n H g * fcN (gc R n H g)
theorem ph_succ (R : Nat → Nat) (n H g : Nat) : ph R n H (g + 1) = ph R n H g * fcN (gc R n H g) := rfl
theorem ph_pos (R : Nat → Nat) (n H : Nat) : ∀ G, 0 < ph R n H G
  | 0 => Nat.one_pos
  | G + 1 => by rw [ph_succ]; exact Nat.mul_pos (ph_pos R n H G) (fcN_pos _)
theorem ph_fc (R : Nat → Nat) (n H : Nat) : ∀ G, ph R n H G ∣ fcN (cN (fun c => decide (R c < G) && H.testBit c) n)
  | 0 => Nat.one_dvd _
  | G + 1 => by
    have ih := ph_fc R n H G
    have e : cN (fun c => decide (R c < G + 1) && H.testBit c) n = cN (fun c => decide (R c < G) && H.testBit c) n + gc R n H G := by
      refine cN_or (fun i _ => ?_) (fun i _ => ?_)
      · show (decide (R i < G + 1) && H.testBit i) = ((decide (R i < G) && H.testBit i) || (decide (R i = G) && H.testBit i))
        cases H.testBit i
        · rw [Bool.and_false, Bool.and_false, Bool.and_false]; rfl
        · rw [Bool.and_true, Bool.and_true, Bool.and_true, Bool.eq_iff_iff, Bool.or_eq_true, decide_eq_true_iff, decide_eq_true_iff, decide_eq_true_iff]
          omega
      · rintro ⟨h1, h2⟩
        rw [Bool.and_eq_true] at h1 h2
        have h3 := of_decide_eq_true h1.1
        have h4 := of_decide_eq_true h2.1
        omega
    rw [e, ph_succ]
    exact Nat.dvd_trans (Nat.mul_dvd_mul ih (Nat.dvd_refl _)) (fc_dvd _ _ _ rfl)
theorem ph_fact (R : Nat → Nat) (n H G : Nat) : ph R n H G ∣ fcN n := Nat.dvd_trans (ph_fc R n H G) (fc_le (cN_bound _ n))
theorem ph_sub {R : Nat → Nat} {n H T : Nat} (h : ∀ i, i < n → T.testBit i = true → H.testBit i = true) : ∀ G, ph R n T G ∣ ph R n H G
  | 0 => Nat.dvd_refl _
  | G + 1 => by
    rw [ph_succ, ph_succ]
    refine Nat.mul_dvd_mul (ph_sub h G) (fc_le (cN_le fun i hi q => ?_))
    rw [Bool.and_eq_true] at q ⊢
    exact ⟨q.1, h i hi q.2⟩
/-- one taken out -/
theorem ph_del {R : Nat → Nat} {n H T c : Nat} (hc : c < n) (h0 : H.testBit c = true) (h1 : T.testBit c = false) (h2 : ∀ i, i < n → i ≠ c → T.testBit i = H.testBit i) : ∀ G, ph R n H G = (if R c < G then gc R n H (R c) else 1) * ph R n T G
  | 0 => by rw [if_neg (Nat.not_lt_zero _)]; rfl
  | G + 1 => by
    have ih := ph_del (R := R) hc h0 h1 h2 G
    rw [ph_succ, ph_succ]
    by_cases e : R c = G
    · subst e
      rw [if_neg (Nat.lt_irrefl _), Nat.one_mul] at ih
      rw [if_pos (Nat.lt_succ_self _), ih]
      have eg : gc R n H (R c) = gc R n T (R c) + 1 := by
        unfold gc
        have k1 : cN (fun i => decide (i = c)) n = 1 := by
          have k2 : (1 : Int) = ((cN (fun i => decide (i = c)) n : Nat) : Int) := by
            rw [← cS_single (n := n) hc, cN_cS]
            congr 1
            exact cN_congr fun i _ => by rw [one_tb]; exact decide_eq_decide.mpr ⟨fun q => q.symm, fun q => q.symm⟩
          omega
        rw [cN_or (f := fun i => decide (R i = R c) && H.testBit i) (g := fun i => decide (R i = R c) && T.testBit i) (h := fun i => decide (i = c)) (fun i hi => ?_) (fun i hi => ?_), k1]
        · show (decide (R i = R c) && H.testBit i) = ((decide (R i = R c) && T.testBit i) || decide (i = c))
          by_cases q : i = c
          · rw [q, h0, h1, decide_eq_true rfl, decide_eq_true rfl]; rfl
          · rw [h2 i hi q, decide_eq_false q, Bool.or_false]
        · rintro ⟨q1, q2⟩
          have q2 := of_decide_eq_true q2
          rw [q2, h1, Bool.and_false] at q1
          cases q1
      rw [eg, fcN_succ]
      rw [Nat.mul_left_comm]
    · have eg : gc R n H G = gc R n T G := cN_congr fun i hi => by
        by_cases q : i = c
        · rw [q, decide_eq_false e]; rfl
        · rw [h2 i hi q]
      rw [ih, eg, Nat.mul_assoc]
      congr 1
      by_cases q : R c < G
      · rw [if_pos q, if_pos (by omega)]
      · rw [if_neg q, if_neg (by omega)]
/-! SHARES: what an amount gives each -/
noncomputable def tps (R : Nat → Nat) (G n H : Nat) : Nat := fS (fun c => @decide (topP R G n H c) (Classical.propDecidable _)) n
theorem tps_lt (R : Nat → Nat) (G n H : Nat) : tps R G n H < 2 ^ n := fS_lt _ n
theorem tps_tb {R : Nat → Nat} {G n H c : Nat} (hc : c < n) : (tps R G n H).testBit c = true ↔ topP R G n H c := by
  unfold tps
  rw [fS_tb _ hc]
  exact @decide_eq_true_iff _ (Classical.propDecidable _)
theorem tps_eq {R : Nat → Nat} {G n H S : Nat} (hS : S < 2 ^ n) (h : ∀ c, c < n → (S.testBit c = true ↔ topP R G n H c)) : S = tps R G n H := eq_tb hS (tps_lt R G n H) fun i hi => Bool.eq_iff_iff.mpr ((h i hi).trans (tps_tb hi).symm)
theorem cS_gt {S n : Nat} (hS : S < 2 ^ n) (h : S ≠ 0) : 0 < cS S n := by
  obtain ⟨i, hi⟩ := ne_zero h
  exact cS_pos.mpr ⟨i, tb_lt hS hi, hi⟩
/-- the takers are as many as stand in the group -/
theorem tps_cnt {R : Nat → Nat} {G n H c : Nat} (hc : c < n) (h : topP R G n H c) : cS (tps R G n H) n = ((gc R n H (R c) : Nat) : Int) := by
  rw [cN_cS]
  congr 1
  refine cN_congr fun i hi => Bool.eq_iff_iff.mpr ?_
  rw [tps_tb hi, Bool.and_eq_true, decide_eq_true_iff]
  obtain ⟨h1, h2, h3⟩ := h
  constructor
  · rintro ⟨a, b, d⟩
    have := d c hc h1
    have := h3 i hi a
    exact ⟨by omega, a⟩
  · rintro ⟨a, b⟩
    exact ⟨b, by omega, fun e he q => by have := h3 e he q; omega⟩
noncomputable def sh (R : Nat → Nat) (G n H : Nat) (a : Int) (c : Nat) : Int := if tps R G n H = 0 then (if c = 8 then a else 0) else if (tps R G n H).testBit c = true then a / cS (tps R G n H) n else 0
theorem sh_0 {R : Nat → Nat} {G n H : Nat} {a : Int} (ha : 0 ≤ a) (c : Nat) : 0 ≤ sh R G n H a c := by
  unfold sh
  by_cases e : tps R G n H = 0
  · rw [if_pos e]
    by_cases d : c = 8
    · rw [if_pos d]; exact ha
    · rw [if_neg d]; exact Int.le_refl 0
  · rw [if_neg e]
    by_cases d : (tps R G n H).testBit c = true
    · rw [if_pos d]
      exact Int.ediv_nonneg ha (Int.le_of_lt (cS_gt (tps_lt R G n H) e))
    · rw [if_neg d]; exact Int.le_refl 0
theorem sh_le {R : Nat → Nat} {G n H : Nat} {a : Int} (ha : 0 ≤ a) (c : Nat) : sh R G n H a c ≤ a := by
  unfold sh
  by_cases e : tps R G n H = 0
  · rw [if_pos e]
    by_cases d : c = 8
    · rw [if_pos d]; exact Int.le_refl a
    · rw [if_neg d]; exact ha
  · rw [if_neg e]
    by_cases d : (tps R G n H).testBit c = true
    · rw [if_pos d]; exact Int.ediv_le_self _ ha
    · rw [if_neg d]; exact ha
theorem cS_up {S n m : Nat} (hS : S < 2 ^ n) (h : n ≤ m) : cS S m = cS S n := by
  obtain ⟨d, rfl⟩ := Nat.exists_eq_add_of_le h
  rw [← pc_cS, ← pc_cS]
  exact pc_more hS d
theorem sN_ifc (S : Nat) (v : Int) (n : Nat) : sN (fun c => if S.testBit c = true then v else 0) n = v * cS S n := by
  unfold cS
  rw [← sN_mul]
  refine sN_congr fun i _ => ?_
  by_cases c : S.testBit i = true
  · rw [if_pos c, if_pos c, Int.mul_one]
  · rw [if_neg c, if_neg c, Int.mul_zero]
/-- what is parted is all -/
theorem sh_sum {R : Nat → Nat} {G n H : Nat} {a : Int} (hn : n ≤ 8) (h : tps R G n H = 0 ∨ cS (tps R G n H) n ∣ a) : sN (sh R G n H a) 9 = a := by
  by_cases e : tps R G n H = 0
  · rw [sN_one (k := 8) (by decide) (fun i _ hne => by unfold sh; rw [if_pos e, if_neg hne])]
    unfold sh
    rw [if_pos e, if_pos rfl]
  · have hd := h.resolve_left e
    rw [sN_congr (g := fun c => if (tps R G n H).testBit c = true then a / cS (tps R G n H) n else 0) (fun i _ => by unfold sh; rw [if_neg e]), sN_ifc, cS_up (tps_lt R G n H) (show n ≤ 9 by omega)]
    exact Int.ediv_mul_cancel hd
theorem sh_sumS {R : Nat → Nat} {G n H S : Nat} {a : Int} (e : tps R G n H ≠ 0) (hd : cS (tps R G n H) n ∣ a) (hS : ∀ c, c < n → (tps R G n H).testBit c = true → S.testBit c = true) : sN (fun c => if S.testBit c = true then sh R G n H a c else 0) n = a := by
  rw [sN_congr (g := fun c => if (tps R G n H).testBit c = true then a / cS (tps R G n H) n else 0) (fun i hi => ?_), sN_ifc]
  · exact Int.ediv_mul_cancel hd
  · show (if S.testBit i = true then sh R G n H a i else 0) = _
    unfold sh
    rw [if_neg e]
    by_cases c : (tps R G n H).testBit i = true
    · rw [if_pos (hS i hi c), if_pos c]
    · rw [if_neg c]
      by_cases d : S.testBit i = true
      · rw [if_pos d]
      · rw [if_neg d]
theorem sh_out {R : Nat → Nat} {G n H : Nat} {a : Int} {c : Nat} (hn : n ≤ 8) (hc : c < n) (h : ¬ H.testBit c = true) : sh R G n H a c = 0 := by
  unfold sh
  rw [if_neg (show ¬ c = 8 by omega), if_neg (fun q => h ((tps_tb hc).mp q).1)]
  by_cases e : tps R G n H = 0
  · rw [if_pos e]
  · rw [if_neg e]
/-- what can be parted among H now, can be parted again behind it -/
theorem part_ok {R : Nat → Nat} {G n H : Nat} {a : Int} (h : ((ph R n H G : Nat) : Int) ∣ a) : (tps R G n H = 0 ∨ cS (tps R G n H) n ∣ a) ∧ ∀ c T, c < n → T.testBit c = false → H.testBit c = true → (∀ i, i < n → i ≠ c → T.testBit i = H.testBit i) → ((ph R n T G : Nat) : Int) ∣ sh R G n H a c := by
  constructor
  · by_cases e : tps R G n H = 0
    · exact Or.inl e
    · refine Or.inr (Int.dvd_trans ?_ h)
      obtain ⟨i, hi⟩ := ne_zero e
      have hin := tb_lt (tps_lt R G n H) hi
      have ht := (tps_tb hin).mp hi
      rw [tps_cnt hin ht, ph_del (R := R) (T := fS (fun j => H.testBit j && decide (j ≠ i)) n) hin ht.1 (by rw [fS_tb _ hin, decide_eq_false (fun q => q rfl)]; exact Bool.and_false _) (fun j hj hne => by rw [fS_tb _ hj, decide_eq_true hne]; exact Bool.and_true _) G, if_pos ht.2.1]
      exact Int.natCast_dvd_natCast.mpr (Nat.dvd_mul_right _ _)
  · intro c T hc h1 h0 h2
    unfold sh
    by_cases e : tps R G n H = 0
    · rw [if_pos e]
      by_cases d : c = 8
      · rw [if_pos d]
        refine Int.dvd_trans ?_ h
        refine Int.natCast_dvd_natCast.mpr (ph_sub (fun i hi q => ?_) G)
        by_cases w : i = c
        · rw [w]; exact h0
        · rw [← h2 i hi w]; exact q
      · rw [if_neg d]; exact Int.dvd_zero _
    · rw [if_neg e]
      by_cases d : (tps R G n H).testBit c = true
      · rw [if_pos d]
        have ht := (tps_tb hc).mp d
        have hg := cS_gt (tps_lt R G n H) e
        rw [tps_cnt hc ht] at hg ⊢
        rw [ph_del (R := R) hc h0 h1 h2 G, if_pos ht.2.1] at h
        obtain ⟨z, rfl⟩ := h
        rw [Int.natCast_mul, Int.mul_assoc, Int.mul_ediv_cancel_left _ (by omega)]
        exact Int.dvd_mul_right _ _
      · rw [if_neg d]; exact Int.dvd_zero _
