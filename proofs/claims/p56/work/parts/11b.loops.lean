/-! A RULE FOR EACH LOOP: an invariant, a measure that falls, what holds behind it -/
theorem L_Li_init_77 (q0 : Nat) {I : Ev → Mm → Int → Prop} {μ : Ev → Mm → Int → Nat} {Q : (Nat × Int × Ev × Mm) → Prop} (hb : ∀ E M x1, I E M x1 → Ok (Li_init_77b E M q0 x1) (fun r => (r.1 = 0 → I r.2.2.1 r.2.2.2 r.2.1 ∧ μ r.2.2.1 r.2.2.2 r.2.1 < μ E M x1) ∧ (r.1 ≠ 0 → Q r))) : ∀ (fu : Nat) (E : Ev) (M : Mm) (x1 : Int), I E M x1 → μ E M x1 < fu → Ok (l_Li_init_77 q0 fu E M x1) Q := by
  intro fu
  induction fu with
  | zero => intro E M x1 h1 h2; exact absurd h2 (Nat.not_lt_zero _)
  | succ fu ih =>
    intro E M x1 h1 h2
    obtain ⟨⟨t, w1, F, N⟩, e, g1, g2⟩ := hb E M x1 h1
    rw [l_Li_init_77, e]
    show Ok (if t = 0 then l_Li_init_77 q0 fu F N w1 else some (t, w1, F, N)) Q
    by_cases ht : t = 0
    · rw [if_pos ht]
      obtain ⟨h3, h4⟩ := g1 ht
      exact ih F N w1 h3 (Nat.lt_of_lt_of_le h4 (Nat.le_of_lt_succ h2))
    · rw [if_neg ht]
      exact ⟨_, rfl, g2 ht⟩
theorem L_Co_init_138 (q0 : Nat) {I : Ev → Mm → Int → Prop} {μ : Ev → Mm → Int → Nat} {Q : (Nat × Int × Ev × Mm) → Prop} (hb : ∀ E M x2, I E M x2 → Ok (Co_init_138b E M q0 x2) (fun r => (r.1 = 0 → I r.2.2.1 r.2.2.2 r.2.1 ∧ μ r.2.2.1 r.2.2.2 r.2.1 < μ E M x2) ∧ (r.1 ≠ 0 → Q r))) : ∀ (fu : Nat) (E : Ev) (M : Mm) (x2 : Int), I E M x2 → μ E M x2 < fu → Ok (l_Co_init_138 q0 fu E M x2) Q := by
  intro fu
  induction fu with
  | zero => intro E M x2 h1 h2; exact absurd h2 (Nat.not_lt_zero _)
  | succ fu ih =>
    intro E M x2 h1 h2
    obtain ⟨⟨t, w2, F, N⟩, e, g1, g2⟩ := hb E M x2 h1
    rw [l_Co_init_138, e]
    show Ok (if t = 0 then l_Co_init_138 q0 fu F N w2 else some (t, w2, F, N)) Q
    by_cases ht : t = 0
    · rw [if_pos ht]
      obtain ⟨h3, h4⟩ := g1 ht
      exact ih F N w2 h3 (Nat.lt_of_lt_of_le h4 (Nat.le_of_lt_succ h2))
    · rw [if_neg ht]
      exact ⟨_, rfl, g2 ht⟩
theorem L_B_type_6 (E : Ev) (x1 : Int) {I : Mm → Int → Int → Prop} {μ : Mm → Int → Int → Nat} {Q : (Nat × Int × Int × Mm) → Prop} (hb : ∀ M x3 x4, I M x3 x4 → Ok (B_type_6b E M x1 x3 x4) (fun r => (r.1 = 0 → I r.2.2.2 r.2.1 r.2.2.1 ∧ μ r.2.2.2 r.2.1 r.2.2.1 < μ M x3 x4) ∧ (r.1 ≠ 0 → Q r))) : ∀ (fu : Nat) (M : Mm) (x3 : Int) (x4 : Int), I M x3 x4 → μ M x3 x4 < fu → Ok (l_B_type_6 E x1 fu M x3 x4) Q := by
  intro fu
  induction fu with
  | zero => intro M x3 x4 h1 h2; exact absurd h2 (Nat.not_lt_zero _)
  | succ fu ih =>
    intro M x3 x4 h1 h2
    obtain ⟨⟨t, w3, w4, N⟩, e, g1, g2⟩ := hb M x3 x4 h1
    rw [l_B_type_6, e]
    show Ok (if t = 0 then l_B_type_6 E x1 fu N w3 w4 else some (t, w3, w4, N)) Q
    by_cases ht : t = 0
    · rw [if_pos ht]
      obtain ⟨h3, h4⟩ := g1 ht
      exact ih N w3 w4 h3 (Nat.lt_of_lt_of_le h4 (Nat.le_of_lt_succ h2))
    · rw [if_neg ht]
      exact ⟨_, rfl, g2 ht⟩
theorem L_B_type_51 (E : Ev) (x1 : Int) {I : Mm → Int → Prop} {μ : Mm → Int → Nat} {Q : (Nat × Int × Mm) → Prop} (hb : ∀ M x4, I M x4 → Ok (B_type_51b E M x1 x4) (fun r => (r.1 = 0 → I r.2.2 r.2.1 ∧ μ r.2.2 r.2.1 < μ M x4) ∧ (r.1 ≠ 0 → Q r))) : ∀ (fu : Nat) (M : Mm) (x4 : Int), I M x4 → μ M x4 < fu → Ok (l_B_type_51 E x1 fu M x4) Q := by
  intro fu
  induction fu with
  | zero => intro M x4 h1 h2; exact absurd h2 (Nat.not_lt_zero _)
  | succ fu ih =>
    intro M x4 h1 h2
    obtain ⟨⟨t, w4, N⟩, e, g1, g2⟩ := hb M x4 h1
    rw [l_B_type_51, e]
    show Ok (if t = 0 then l_B_type_51 E x1 fu N w4 else some (t, w4, N)) Q
    by_cases ht : t = 0
    · rw [if_pos ht]
      obtain ⟨h3, h4⟩ := g1 ht
      exact ih N w4 h3 (Nat.lt_of_lt_of_le h4 (Nat.le_of_lt_succ h2))
    · rw [if_neg ht]
      exact ⟨_, rfl, g2 ht⟩
theorem L_La_type_15 (E : Ev) (q1 : Nat) (x2 : Int) {I : Mm → Int → Int → Prop} {μ : Mm → Int → Int → Nat} {Q : (Nat × Int × Int × Mm) → Prop} (hb : ∀ M x3 x5, I M x3 x5 → Ok (La_type_15b E M q1 x2 x3 x5) (fun r => (r.1 = 0 → I r.2.2.2 r.2.1 r.2.2.1 ∧ μ r.2.2.2 r.2.1 r.2.2.1 < μ M x3 x5) ∧ (r.1 ≠ 0 → Q r))) : ∀ (fu : Nat) (M : Mm) (x3 : Int) (x5 : Int), I M x3 x5 → μ M x3 x5 < fu → Ok (l_La_type_15 E q1 x2 fu M x3 x5) Q := by
  intro fu
  induction fu with
  | zero => intro M x3 x5 h1 h2; exact absurd h2 (Nat.not_lt_zero _)
  | succ fu ih =>
    intro M x3 x5 h1 h2
    obtain ⟨⟨t, w3, w5, N⟩, e, g1, g2⟩ := hb M x3 x5 h1
    rw [l_La_type_15, e]
    show Ok (if t = 0 then l_La_type_15 E q1 x2 fu N w3 w5 else some (t, w3, w5, N)) Q
    by_cases ht : t = 0
    · rw [if_pos ht]
      obtain ⟨h3, h4⟩ := g1 ht
      exact ih N w3 w5 h3 (Nat.lt_of_lt_of_le h4 (Nat.le_of_lt_succ h2))
    · rw [if_neg ht]
      exact ⟨_, rfl, g2 ht⟩
theorem L_La_type_2 (E : Ev) (q1 : Nat) {I : Mm → Int → Prop} {μ : Mm → Int → Nat} {Q : (Nat × Int × Mm) → Prop} (hb : ∀ M x2, I M x2 → Ok (La_type_2b E M q1 x2) (fun r => (r.1 = 0 → I r.2.2 r.2.1 ∧ μ r.2.2 r.2.1 < μ M x2) ∧ (r.1 ≠ 0 → Q r))) : ∀ (fu : Nat) (M : Mm) (x2 : Int), I M x2 → μ M x2 < fu → Ok (l_La_type_2 E q1 fu M x2) Q := by
  intro fu
  induction fu with
  | zero => intro M x2 h1 h2; exact absurd h2 (Nat.not_lt_zero _)
  | succ fu ih =>
    intro M x2 h1 h2
    obtain ⟨⟨t, w2, N⟩, e, g1, g2⟩ := hb M x2 h1
    rw [l_La_type_2, e]
    show Ok (if t = 0 then l_La_type_2 E q1 fu N w2 else some (t, w2, N)) Q
    by_cases ht : t = 0
    · rw [if_pos ht]
      obtain ⟨h3, h4⟩ := g1 ht
      exact ih N w2 h3 (Nat.lt_of_lt_of_le h4 (Nat.le_of_lt_succ h2))
    · rw [if_neg ht]
      exact ⟨_, rfl, g2 ht⟩
theorem L_Ar_fillI_5 (E : Ev) (q0 : Nat) (x1 : Int) (x3 : Int) {I : Mm → Int → Prop} {μ : Mm → Int → Nat} {Q : (Nat × Int × Mm) → Prop} (hb : ∀ M x2, I M x2 → Ok (Ar_fillI_5b E M q0 x1 x3 x2) (fun r => (r.1 = 0 → I r.2.2 r.2.1 ∧ μ r.2.2 r.2.1 < μ M x2) ∧ (r.1 ≠ 0 → Q r))) : ∀ (fu : Nat) (M : Mm) (x2 : Int), I M x2 → μ M x2 < fu → Ok (l_Ar_fillI_5 E q0 x1 x3 fu M x2) Q := by
  intro fu
  induction fu with
  | zero => intro M x2 h1 h2; exact absurd h2 (Nat.not_lt_zero _)
  | succ fu ih =>
    intro M x2 h1 h2
    obtain ⟨⟨t, w2, N⟩, e, g1, g2⟩ := hb M x2 h1
    rw [l_Ar_fillI_5, e]
    show Ok (if t = 0 then l_Ar_fillI_5 E q0 x1 x3 fu N w2 else some (t, w2, N)) Q
    by_cases ht : t = 0
    · rw [if_pos ht]
      obtain ⟨h3, h4⟩ := g1 ht
      exact ih N w2 h3 (Nat.lt_of_lt_of_le h4 (Nat.le_of_lt_succ h2))
    · rw [if_neg ht]
      exact ⟨_, rfl, g2 ht⟩
theorem L_Bx_readTrial_27 (E : Ev) {I : Mm → Int → Int → Int → Int → Int → Prop} {μ : Mm → Int → Int → Int → Int → Int → Nat} {Q : (Nat × Int × Int × Int × Int × Int × Mm) → Prop} (hb : ∀ M x1 x2 x3 x4 x5, I M x1 x2 x3 x4 x5 → Ok (Bx_readTrial_27b E M x1 x2 x3 x4 x5) (fun r => (r.1 = 0 → I r.2.2.2.2.2.2 r.2.1 r.2.2.1 r.2.2.2.1 r.2.2.2.2.1 r.2.2.2.2.2.1 ∧ μ r.2.2.2.2.2.2 r.2.1 r.2.2.1 r.2.2.2.1 r.2.2.2.2.1 r.2.2.2.2.2.1 < μ M x1 x2 x3 x4 x5) ∧ (r.1 ≠ 0 → Q r))) : ∀ (fu : Nat) (M : Mm) (x1 : Int) (x2 : Int) (x3 : Int) (x4 : Int) (x5 : Int), I M x1 x2 x3 x4 x5 → μ M x1 x2 x3 x4 x5 < fu → Ok (l_Bx_readTrial_27 E fu M x1 x2 x3 x4 x5) Q := by
  intro fu
  induction fu with
  | zero => intro M x1 x2 x3 x4 x5 h1 h2; exact absurd h2 (Nat.not_lt_zero _)
  | succ fu ih =>
    intro M x1 x2 x3 x4 x5 h1 h2
    obtain ⟨⟨t, w1, w2, w3, w4, w5, N⟩, e, g1, g2⟩ := hb M x1 x2 x3 x4 x5 h1
    rw [l_Bx_readTrial_27, e]
    show Ok (if t = 0 then l_Bx_readTrial_27 E fu N w1 w2 w3 w4 w5 else some (t, w1, w2, w3, w4, w5, N)) Q
    by_cases ht : t = 0
    · rw [if_pos ht]
      obtain ⟨h3, h4⟩ := g1 ht
      exact ih N w1 w2 w3 w4 w5 h3 (Nat.lt_of_lt_of_le h4 (Nat.le_of_lt_succ h2))
    · rw [if_neg ht]
      exact ⟨_, rfl, g2 ht⟩
theorem L_Bx_isLikeTrial_36 (E : Ev) (x1 : Int) (M : Mm) {I : Int → Prop} {μ : Int → Nat} {Q : (Nat × Int) → Prop} (hb : ∀ x2, I x2 → Ok (Bx_isLikeTrial_36b E M x1 x2) (fun r => (r.1 = 0 → I r.2 ∧ μ r.2 < μ x2) ∧ (r.1 ≠ 0 → Q r))) : ∀ (fu : Nat) (x2 : Int), I x2 → μ x2 < fu → Ok (l_Bx_isLikeTrial_36 E x1 fu M x2) Q := by
  intro fu
  induction fu with
  | zero => intro x2 h1 h2; exact absurd h2 (Nat.not_lt_zero _)
  | succ fu ih =>
    intro x2 h1 h2
    obtain ⟨⟨t, w2⟩, e, g1, g2⟩ := hb x2 h1
    rw [l_Bx_isLikeTrial_36, e]
    show Ok (if t = 0 then l_Bx_isLikeTrial_36 E x1 fu M w2 else some (t, w2)) Q
    by_cases ht : t = 0
    · rw [if_pos ht]
      obtain ⟨h3, h4⟩ := g1 ht
      exact ih w2 h3 (Nat.lt_of_lt_of_le h4 (Nat.le_of_lt_succ h2))
    · rw [if_neg ht]
      exact ⟨_, rfl, g2 ht⟩
theorem L_Bx_kindOfTrial_2 (E : Ev) (M : Mm) {I : Int → Prop} {μ : Int → Nat} {Q : (Nat × Int) → Prop} (hb : ∀ x1, I x1 → Ok (Bx_kindOfTrial_2b E M x1) (fun r => (r.1 = 0 → I r.2 ∧ μ r.2 < μ x1) ∧ (r.1 ≠ 0 → Q r))) : ∀ (fu : Nat) (x1 : Int), I x1 → μ x1 < fu → Ok (l_Bx_kindOfTrial_2 E fu M x1) Q := by
  intro fu
  induction fu with
  | zero => intro x1 h1 h2; exact absurd h2 (Nat.not_lt_zero _)
  | succ fu ih =>
    intro x1 h1 h2
    obtain ⟨⟨t, w1⟩, e, g1, g2⟩ := hb x1 h1
    rw [l_Bx_kindOfTrial_2, e]
    show Ok (if t = 0 then l_Bx_kindOfTrial_2 E fu M w1 else some (t, w1)) Q
    by_cases ht : t = 0
    · rw [if_pos ht]
      obtain ⟨h3, h4⟩ := g1 ht
      exact ih w1 h3 (Nat.lt_of_lt_of_le h4 (Nat.le_of_lt_succ h2))
    · rw [if_neg ht]
      exact ⟨_, rfl, g2 ht⟩
theorem L_Bx_rankOf_2 (E : Ev) (x1 : Int) (x2 : Int) (M : Mm) {I : Int → Prop} {μ : Int → Nat} {Q : (Nat × Int) → Prop} (hb : ∀ x3, I x3 → Ok (Bx_rankOf_2b E M x1 x2 x3) (fun r => (r.1 = 0 → I r.2 ∧ μ r.2 < μ x3) ∧ (r.1 ≠ 0 → Q r))) : ∀ (fu : Nat) (x3 : Int), I x3 → μ x3 < fu → Ok (l_Bx_rankOf_2 E x1 x2 fu M x3) Q := by
  intro fu
  induction fu with
  | zero => intro x3 h1 h2; exact absurd h2 (Nat.not_lt_zero _)
  | succ fu ih =>
    intro x3 h1 h2
    obtain ⟨⟨t, w3⟩, e, g1, g2⟩ := hb x3 h1
    rw [l_Bx_rankOf_2, e]
    show Ok (if t = 0 then l_Bx_rankOf_2 E x1 x2 fu M w3 else some (t, w3)) Q
    by_cases ht : t = 0
    · rw [if_pos ht]
      obtain ⟨h3, h4⟩ := g1 ht
      exact ih w3 h3 (Nat.lt_of_lt_of_le h4 (Nat.le_of_lt_succ h2))
    · rw [if_neg ht]
      exact ⟨_, rfl, g2 ht⟩
theorem L_La_ballots_18 (q1 : Nat) (q2 : Nat) (q3 : Nat) (q4 : Nat) {I : Ev → Mm → Int → Prop} {μ : Ev → Mm → Int → Nat} {Q : (Nat × Int × Ev × Mm) → Prop} (hb : ∀ E M x5, I E M x5 → Ok (La_ballots_18b E M q1 q2 q3 q4 x5) (fun r => (r.1 = 0 → I r.2.2.1 r.2.2.2 r.2.1 ∧ μ r.2.2.1 r.2.2.2 r.2.1 < μ E M x5) ∧ (r.1 ≠ 0 → Q r))) : ∀ (fu : Nat) (E : Ev) (M : Mm) (x5 : Int), I E M x5 → μ E M x5 < fu → Ok (l_La_ballots_18 q1 q2 q3 q4 fu E M x5) Q := by
  intro fu
  induction fu with
  | zero => intro E M x5 h1 h2; exact absurd h2 (Nat.not_lt_zero _)
  | succ fu ih =>
    intro E M x5 h1 h2
    obtain ⟨⟨t, w5, F, N⟩, e, g1, g2⟩ := hb E M x5 h1
    rw [l_La_ballots_18, e]
    show Ok (if t = 0 then l_La_ballots_18 q1 q2 q3 q4 fu F N w5 else some (t, w5, F, N)) Q
    by_cases ht : t = 0
    · rw [if_pos ht]
      obtain ⟨h3, h4⟩ := g1 ht
      exact ih F N w5 h3 (Nat.lt_of_lt_of_le h4 (Nat.le_of_lt_succ h2))
    · rw [if_neg ht]
      exact ⟨_, rfl, g2 ht⟩
theorem L_La_ballots_109 (q1 : Nat) (q2 : Nat) (q3 : Nat) (q4 : Nat) (x5 : Int) (q6 : Nat) {I : Ev → Mm → Int → Int → Int → Prop} {μ : Ev → Mm → Int → Int → Int → Nat} {Q : (Nat × Int × Int × Int × Ev × Mm) → Prop} (hb : ∀ E M x7 x8 x9, I E M x7 x8 x9 → Ok (La_ballots_109b E M q1 q2 q3 q4 x5 q6 x7 x8 x9) (fun r => (r.1 = 0 → I r.2.2.2.2.1 r.2.2.2.2.2 r.2.1 r.2.2.1 r.2.2.2.1 ∧ μ r.2.2.2.2.1 r.2.2.2.2.2 r.2.1 r.2.2.1 r.2.2.2.1 < μ E M x7 x8 x9) ∧ (r.1 ≠ 0 → Q r))) : ∀ (fu : Nat) (E : Ev) (M : Mm) (x7 : Int) (x8 : Int) (x9 : Int), I E M x7 x8 x9 → μ E M x7 x8 x9 < fu → Ok (l_La_ballots_109 q1 q2 q3 q4 x5 q6 fu E M x7 x8 x9) Q := by
  intro fu
  induction fu with
  | zero => intro E M x7 x8 x9 h1 h2; exact absurd h2 (Nat.not_lt_zero _)
  | succ fu ih =>
    intro E M x7 x8 x9 h1 h2
    obtain ⟨⟨t, w7, w8, w9, F, N⟩, e, g1, g2⟩ := hb E M x7 x8 x9 h1
    rw [l_La_ballots_109, e]
    show Ok (if t = 0 then l_La_ballots_109 q1 q2 q3 q4 x5 q6 fu F N w7 w8 w9 else some (t, w7, w8, w9, F, N)) Q
    by_cases ht : t = 0
    · rw [if_pos ht]
      obtain ⟨h3, h4⟩ := g1 ht
      exact ih F N w7 w8 w9 h3 (Nat.lt_of_lt_of_le h4 (Nat.le_of_lt_succ h2))
    · rw [if_neg ht]
      exact ⟨_, rfl, g2 ht⟩
theorem L_La_ballots_360 (q1 : Nat) (q3 : Nat) (x5 : Int) (x7 : Int) (x10 : Int) {I : Ev → Mm → Int → Int → Prop} {μ : Ev → Mm → Int → Int → Nat} {Q : (Nat × Int × Int × Ev × Mm) → Prop} (hb : ∀ E M x11 x12, I E M x11 x12 → Ok (La_ballots_360b E M q1 q3 x5 x7 x10 x11 x12) (fun r => (r.1 = 0 → I r.2.2.2.1 r.2.2.2.2 r.2.1 r.2.2.1 ∧ μ r.2.2.2.1 r.2.2.2.2 r.2.1 r.2.2.1 < μ E M x11 x12) ∧ (r.1 ≠ 0 → Q r))) : ∀ (fu : Nat) (E : Ev) (M : Mm) (x11 : Int) (x12 : Int), I E M x11 x12 → μ E M x11 x12 < fu → Ok (l_La_ballots_360 q1 q3 x5 x7 x10 fu E M x11 x12) Q := by
  intro fu
  induction fu with
  | zero => intro E M x11 x12 h1 h2; exact absurd h2 (Nat.not_lt_zero _)
  | succ fu ih =>
    intro E M x11 x12 h1 h2
    obtain ⟨⟨t, w11, w12, F, N⟩, e, g1, g2⟩ := hb E M x11 x12 h1
    rw [l_La_ballots_360, e]
    show Ok (if t = 0 then l_La_ballots_360 q1 q3 x5 x7 x10 fu F N w11 w12 else some (t, w11, w12, F, N)) Q
    by_cases ht : t = 0
    · rw [if_pos ht]
      obtain ⟨h3, h4⟩ := g1 ht
      exact ih F N w11 w12 h3 (Nat.lt_of_lt_of_le h4 (Nat.le_of_lt_succ h2))
    · rw [if_neg ht]
      exact ⟨_, rfl, g2 ht⟩
theorem L_Bx_ballotsOf_5 (E : Ev) (q1 : Nat) (x2 : Int) (M : Mm) {I : Int → Int → Prop} {μ : Int → Int → Nat} {Q : (Nat × Int × Int) → Prop} (hb : ∀ x3 x4, I x3 x4 → Ok (Bx_ballotsOf_5b E M q1 x2 x3 x4) (fun r => (r.1 = 0 → I r.2.1 r.2.2 ∧ μ r.2.1 r.2.2 < μ x3 x4) ∧ (r.1 ≠ 0 → Q r))) : ∀ (fu : Nat) (x3 : Int) (x4 : Int), I x3 x4 → μ x3 x4 < fu → Ok (l_Bx_ballotsOf_5 E q1 x2 fu M x3 x4) Q := by
  intro fu
  induction fu with
  | zero => intro x3 x4 h1 h2; exact absurd h2 (Nat.not_lt_zero _)
  | succ fu ih =>
    intro x3 x4 h1 h2
    obtain ⟨⟨t, w3, w4⟩, e, g1, g2⟩ := hb x3 x4 h1
    rw [l_Bx_ballotsOf_5, e]
    show Ok (if t = 0 then l_Bx_ballotsOf_5 E q1 x2 fu M w3 w4 else some (t, w3, w4)) Q
    by_cases ht : t = 0
    · rw [if_pos ht]
      obtain ⟨h3, h4⟩ := g1 ht
      exact ih w3 w4 h3 (Nat.lt_of_lt_of_le h4 (Nat.le_of_lt_succ h2))
    · rw [if_neg ht]
      exact ⟨_, rfl, g2 ht⟩
theorem L_Lb_all_4 (E : Ev) (q0 : Nat) (M : Mm) {I : Int → Int → Prop} {μ : Int → Int → Nat} {Q : (Nat × Int × Int) → Prop} (hb : ∀ x1 x2, I x1 x2 → Ok (Lb_all_4b E M q0 x1 x2) (fun r => (r.1 = 0 → I r.2.1 r.2.2 ∧ μ r.2.1 r.2.2 < μ x1 x2) ∧ (r.1 ≠ 0 → Q r))) : ∀ (fu : Nat) (x1 : Int) (x2 : Int), I x1 x2 → μ x1 x2 < fu → Ok (l_Lb_all_4 E q0 fu M x1 x2) Q := by
  intro fu
  induction fu with
  | zero => intro x1 x2 h1 h2; exact absurd h2 (Nat.not_lt_zero _)
  | succ fu ih =>
    intro x1 x2 h1 h2
    obtain ⟨⟨t, w1, w2⟩, e, g1, g2⟩ := hb x1 x2 h1
    rw [l_Lb_all_4, e]
    show Ok (if t = 0 then l_Lb_all_4 E q0 fu M w1 w2 else some (t, w1, w2)) Q
    by_cases ht : t = 0
    · rw [if_pos ht]
      obtain ⟨h3, h4⟩ := g1 ht
      exact ih w1 w2 h3 (Nat.lt_of_lt_of_le h4 (Nat.le_of_lt_succ h2))
    · rw [if_neg ht]
      exact ⟨_, rfl, g2 ht⟩
theorem L_Na_become_10 (E : Ev) (q0 : Nat) {I : Mm → Int → Int → Prop} {μ : Mm → Int → Int → Nat} {Q : (Nat × Int × Int × Mm) → Prop} (hb : ∀ M x3 x5, I M x3 x5 → Ok (Na_become_10b E M q0 x3 x5) (fun r => (r.1 = 0 → I r.2.2.2 r.2.1 r.2.2.1 ∧ μ r.2.2.2 r.2.1 r.2.2.1 < μ M x3 x5) ∧ (r.1 ≠ 0 → Q r))) : ∀ (fu : Nat) (M : Mm) (x3 : Int) (x5 : Int), I M x3 x5 → μ M x3 x5 < fu → Ok (l_Na_become_10 E q0 fu M x3 x5) Q := by
  intro fu
  induction fu with
  | zero => intro M x3 x5 h1 h2; exact absurd h2 (Nat.not_lt_zero _)
  | succ fu ih =>
    intro M x3 x5 h1 h2
    obtain ⟨⟨t, w3, w5, N⟩, e, g1, g2⟩ := hb M x3 x5 h1
    rw [l_Na_become_10, e]
    show Ok (if t = 0 then l_Na_become_10 E q0 fu N w3 w5 else some (t, w3, w5, N)) Q
    by_cases ht : t = 0
    · rw [if_pos ht]
      obtain ⟨h3, h4⟩ := g1 ht
      exact ih N w3 w5 h3 (Nat.lt_of_lt_of_le h4 (Nat.le_of_lt_succ h2))
    · rw [if_neg ht]
      exact ⟨_, rfl, g2 ht⟩
theorem L_Bx_topOf_2 (E : Ev) (x1 : Int) (x2 : Int) (M : Mm) {I : Int → Prop} {μ : Int → Nat} {Q : (Nat × Int × Int) → Prop} (hb : ∀ x3, I x3 → Ok (Bx_topOf_2b E M x1 x2 x3) (fun r => (r.1 = 0 → I r.2.1 ∧ μ r.2.1 < μ x3) ∧ (r.1 ≠ 0 → Q r))) : ∀ (fu : Nat) (x3 : Int), I x3 → μ x3 < fu → Ok (l_Bx_topOf_2 E x1 x2 fu M x3) Q := by
  intro fu
  induction fu with
  | zero => intro x3 h1 h2; exact absurd h2 (Nat.not_lt_zero _)
  | succ fu ih =>
    intro x3 h1 h2
    obtain ⟨⟨t, w3, w4⟩, e, g1, g2⟩ := hb x3 h1
    rw [l_Bx_topOf_2, e]
    show Ok (if t = 0 then l_Bx_topOf_2 E x1 x2 fu M w3 else some (t, w3, w4)) Q
    by_cases ht : t = 0
    · rw [if_pos ht]
      obtain ⟨h3, h4⟩ := g1 ht
      exact ih w3 h3 (Nat.lt_of_lt_of_le h4 (Nat.le_of_lt_succ h2))
    · rw [if_neg ht]
      exact ⟨_, rfl, g2 ht⟩
theorem L_Na_trimTo_10 (E : Ev) (q0 : Nat) {I : Mm → Prop} {μ : Mm → Nat} {Q : (Nat × Mm) → Prop} (hb : ∀ M, I M → Ok (Na_trimTo_10b E M q0) (fun r => (r.1 = 0 → I r.2 ∧ μ r.2 < μ M) ∧ (r.1 ≠ 0 → Q r))) : ∀ (fu : Nat) (M : Mm), I M → μ M < fu → Ok (l_Na_trimTo_10 E q0 fu M) Q := by
  intro fu
  induction fu with
  | zero => intro M h1 h2; exact absurd h2 (Nat.not_lt_zero _)
  | succ fu ih =>
    intro M h1 h2
    obtain ⟨⟨t, N⟩, e, g1, g2⟩ := hb M h1
    rw [l_Na_trimTo_10, e]
    show Ok (if t = 0 then l_Na_trimTo_10 E q0 fu N else some (t, N)) Q
    by_cases ht : t = 0
    · rw [if_pos ht]
      obtain ⟨h3, h4⟩ := g1 ht
      exact ih N h3 (Nat.lt_of_lt_of_le h4 (Nat.le_of_lt_succ h2))
    · rw [if_neg ht]
      exact ⟨_, rfl, g2 ht⟩
theorem L_Na_add_24 (E : Ev) (q0 : Nat) (q1 : Nat) (x2 : Int) {I : Mm → Int → Int → Prop} {μ : Mm → Int → Int → Nat} {Q : (Nat × Int × Int × Mm) → Prop} (hb : ∀ M x3 x4, I M x3 x4 → Ok (Na_add_24b E M q0 q1 x2 x3 x4) (fun r => (r.1 = 0 → I r.2.2.2 r.2.1 r.2.2.1 ∧ μ r.2.2.2 r.2.1 r.2.2.1 < μ M x3 x4) ∧ (r.1 ≠ 0 → Q r))) : ∀ (fu : Nat) (M : Mm) (x3 : Int) (x4 : Int), I M x3 x4 → μ M x3 x4 < fu → Ok (l_Na_add_24 E q0 q1 x2 fu M x3 x4) Q := by
  intro fu
  induction fu with
  | zero => intro M x3 x4 h1 h2; exact absurd h2 (Nat.not_lt_zero _)
  | succ fu ih =>
    intro M x3 x4 h1 h2
    obtain ⟨⟨t, w3, w4, N⟩, e, g1, g2⟩ := hb M x3 x4 h1
    rw [l_Na_add_24, e]
    show Ok (if t = 0 then l_Na_add_24 E q0 q1 x2 fu N w3 w4 else some (t, w3, w4, N)) Q
    by_cases ht : t = 0
    · rw [if_pos ht]
      obtain ⟨h3, h4⟩ := g1 ht
      exact ih N w3 w4 h3 (Nat.lt_of_lt_of_le h4 (Nat.le_of_lt_succ h2))
    · rw [if_neg ht]
      exact ⟨_, rfl, g2 ht⟩
theorem L_Na_divideSmall_16 (E : Ev) (q0 : Nat) (x1 : Int) {I : Mm → Int → Int → Prop} {μ : Mm → Int → Int → Nat} {Q : (Nat × Int × Int × Mm) → Prop} (hb : ∀ M x2 x4, I M x2 x4 → Ok (Na_divideSmall_16b E M q0 x1 x2 x4) (fun r => (r.1 = 0 → I r.2.2.2 r.2.1 r.2.2.1 ∧ μ r.2.2.2 r.2.1 r.2.2.1 < μ M x2 x4) ∧ (r.1 ≠ 0 → Q r))) : ∀ (fu : Nat) (M : Mm) (x2 : Int) (x4 : Int), I M x2 x4 → μ M x2 x4 < fu → Ok (l_Na_divideSmall_16 E q0 x1 fu M x2 x4) Q := by
  intro fu
  induction fu with
  | zero => intro M x2 x4 h1 h2; exact absurd h2 (Nat.not_lt_zero _)
  | succ fu ih =>
    intro M x2 x4 h1 h2
    obtain ⟨⟨t, w2, w4, N⟩, e, g1, g2⟩ := hb M x2 x4 h1
    rw [l_Na_divideSmall_16, e]
    show Ok (if t = 0 then l_Na_divideSmall_16 E q0 x1 fu N w2 w4 else some (t, w2, w4, N)) Q
    by_cases ht : t = 0
    · rw [if_pos ht]
      obtain ⟨h3, h4⟩ := g1 ht
      exact ih N w2 w4 h3 (Nat.lt_of_lt_of_le h4 (Nat.le_of_lt_succ h2))
    · rw [if_neg ht]
      exact ⟨_, rfl, g2 ht⟩
theorem L_Co_passOn_46 (E : Ev) (x1 : Int) (x2 : Int) {I : Mm → Int → Prop} {μ : Mm → Int → Nat} {Q : (Nat × Int × Mm) → Prop} (hb : ∀ M x3, I M x3 → Ok (Co_passOn_46b E M x1 x2 x3) (fun r => (r.1 = 0 → I r.2.2 r.2.1 ∧ μ r.2.2 r.2.1 < μ M x3) ∧ (r.1 ≠ 0 → Q r))) : ∀ (fu : Nat) (M : Mm) (x3 : Int), I M x3 → μ M x3 < fu → Ok (l_Co_passOn_46 E x1 x2 fu M x3) Q := by
  intro fu
  induction fu with
  | zero => intro M x3 h1 h2; exact absurd h2 (Nat.not_lt_zero _)
  | succ fu ih =>
    intro M x3 h1 h2
    obtain ⟨⟨t, w3, N⟩, e, g1, g2⟩ := hb M x3 h1
    rw [l_Co_passOn_46, e]
    show Ok (if t = 0 then l_Co_passOn_46 E x1 x2 fu N w3 else some (t, w3, N)) Q
    by_cases ht : t = 0
    · rw [if_pos ht]
      obtain ⟨h3, h4⟩ := g1 ht
      exact ih N w3 h3 (Nat.lt_of_lt_of_le h4 (Nat.le_of_lt_succ h2))
    · rw [if_neg ht]
      exact ⟨_, rfl, g2 ht⟩
theorem L_Co_start_102 {I : Ev → Mm → Int → Prop} {μ : Ev → Mm → Int → Nat} {Q : (Nat × Int × Ev × Mm) → Prop} (hb : ∀ E M x3, I E M x3 → Ok (Co_start_102b E M x3) (fun r => (r.1 = 0 → I r.2.2.1 r.2.2.2 r.2.1 ∧ μ r.2.2.1 r.2.2.2 r.2.1 < μ E M x3) ∧ (r.1 ≠ 0 → Q r))) : ∀ (fu : Nat) (E : Ev) (M : Mm) (x3 : Int), I E M x3 → μ E M x3 < fu → Ok (l_Co_start_102 fu E M x3) Q := by
  intro fu
  induction fu with
  | zero => intro E M x3 h1 h2; exact absurd h2 (Nat.not_lt_zero _)
  | succ fu ih =>
    intro E M x3 h1 h2
    obtain ⟨⟨t, w3, F, N⟩, e, g1, g2⟩ := hb E M x3 h1
    rw [l_Co_start_102, e]
    show Ok (if t = 0 then l_Co_start_102 fu F N w3 else some (t, w3, F, N)) Q
    by_cases ht : t = 0
    · rw [if_pos ht]
      obtain ⟨h3, h4⟩ := g1 ht
      exact ih F N w3 h3 (Nat.lt_of_lt_of_le h4 (Nat.le_of_lt_succ h2))
    · rw [if_neg ht]
      exact ⟨_, rfl, g2 ht⟩
theorem L_Co_start_162 (x3 : Int) (x5 : Int) {I : Ev → Mm → Int → Prop} {μ : Ev → Mm → Int → Nat} {Q : (Nat × Int × Ev × Mm) → Prop} (hb : ∀ E M x6, I E M x6 → Ok (Co_start_162b E M x3 x5 x6) (fun r => (r.1 = 0 → I r.2.2.1 r.2.2.2 r.2.1 ∧ μ r.2.2.1 r.2.2.2 r.2.1 < μ E M x6) ∧ (r.1 ≠ 0 → Q r))) : ∀ (fu : Nat) (E : Ev) (M : Mm) (x6 : Int), I E M x6 → μ E M x6 < fu → Ok (l_Co_start_162 x3 x5 fu E M x6) Q := by
  intro fu
  induction fu with
  | zero => intro E M x6 h1 h2; exact absurd h2 (Nat.not_lt_zero _)
  | succ fu ih =>
    intro E M x6 h1 h2
    obtain ⟨⟨t, w6, F, N⟩, e, g1, g2⟩ := hb E M x6 h1
    rw [l_Co_start_162, e]
    show Ok (if t = 0 then l_Co_start_162 x3 x5 fu F N w6 else some (t, w6, F, N)) Q
    by_cases ht : t = 0
    · rw [if_pos ht]
      obtain ⟨h3, h4⟩ := g1 ht
      exact ih F N w6 h3 (Nat.lt_of_lt_of_le h4 (Nat.le_of_lt_succ h2))
    · rw [if_neg ht]
      exact ⟨_, rfl, g2 ht⟩
theorem L_Co_start_147 (x3 : Int) {I : Ev → Mm → Int → Prop} {μ : Ev → Mm → Int → Nat} {Q : (Nat × Int × Ev × Mm) → Prop} (hb : ∀ E M x5, I E M x5 → Ok (Co_start_147b E M x3 x5) (fun r => (r.1 = 0 → I r.2.2.1 r.2.2.2 r.2.1 ∧ μ r.2.2.1 r.2.2.2 r.2.1 < μ E M x5) ∧ (r.1 ≠ 0 → Q r))) : ∀ (fu : Nat) (E : Ev) (M : Mm) (x5 : Int), I E M x5 → μ E M x5 < fu → Ok (l_Co_start_147 x3 fu E M x5) Q := by
  intro fu
  induction fu with
  | zero => intro E M x5 h1 h2; exact absurd h2 (Nat.not_lt_zero _)
  | succ fu ih =>
    intro E M x5 h1 h2
    obtain ⟨⟨t, w5, F, N⟩, e, g1, g2⟩ := hb E M x5 h1
    rw [l_Co_start_147, e]
    show Ok (if t = 0 then l_Co_start_147 x3 fu F N w5 else some (t, w5, F, N)) Q
    by_cases ht : t = 0
    · rw [if_pos ht]
      obtain ⟨h3, h4⟩ := g1 ht
      exact ih F N w5 h3 (Nat.lt_of_lt_of_le h4 (Nat.le_of_lt_succ h2))
    · rw [if_neg ht]
      exact ⟨_, rfl, g2 ht⟩
theorem L_Na_store_2 (E : Ev) (q0 : Nat) (q1 : Nat) (x2 : Int) {I : Mm → Int → Prop} {μ : Mm → Int → Nat} {Q : (Nat × Int × Mm) → Prop} (hb : ∀ M x3, I M x3 → Ok (Na_store_2b E M q0 q1 x2 x3) (fun r => (r.1 = 0 → I r.2.2 r.2.1 ∧ μ r.2.2 r.2.1 < μ M x3) ∧ (r.1 ≠ 0 → Q r))) : ∀ (fu : Nat) (M : Mm) (x3 : Int), I M x3 → μ M x3 < fu → Ok (l_Na_store_2 E q0 q1 x2 fu M x3) Q := by
  intro fu
  induction fu with
  | zero => intro M x3 h1 h2; exact absurd h2 (Nat.not_lt_zero _)
  | succ fu ih =>
    intro M x3 h1 h2
    obtain ⟨⟨t, w3, N⟩, e, g1, g2⟩ := hb M x3 h1
    rw [l_Na_store_2, e]
    show Ok (if t = 0 then l_Na_store_2 E q0 q1 x2 fu N w3 else some (t, w3, N)) Q
    by_cases ht : t = 0
    · rw [if_pos ht]
      obtain ⟨h3, h4⟩ := g1 ht
      exact ih N w3 h3 (Nat.lt_of_lt_of_le h4 (Nat.le_of_lt_succ h2))
    · rw [if_neg ht]
      exact ⟨_, rfl, g2 ht⟩
theorem L_Co_keepMoment_12 (E : Ev) (q1 : Nat) (x2 : Int) {I : Mm → Int → Prop} {μ : Mm → Int → Nat} {Q : (Nat × Int × Mm) → Prop} (hb : ∀ M x3, I M x3 → Ok (Co_keepMoment_12b E M q1 x2 x3) (fun r => (r.1 = 0 → I r.2.2 r.2.1 ∧ μ r.2.2 r.2.1 < μ M x3) ∧ (r.1 ≠ 0 → Q r))) : ∀ (fu : Nat) (M : Mm) (x3 : Int), I M x3 → μ M x3 < fu → Ok (l_Co_keepMoment_12 E q1 x2 fu M x3) Q := by
  intro fu
  induction fu with
  | zero => intro M x3 h1 h2; exact absurd h2 (Nat.not_lt_zero _)
  | succ fu ih =>
    intro M x3 h1 h2
    obtain ⟨⟨t, w3, N⟩, e, g1, g2⟩ := hb M x3 h1
    rw [l_Co_keepMoment_12, e]
    show Ok (if t = 0 then l_Co_keepMoment_12 E q1 x2 fu N w3 else some (t, w3, N)) Q
    by_cases ht : t = 0
    · rw [if_pos ht]
      obtain ⟨h3, h4⟩ := g1 ht
      exact ih N w3 h3 (Nat.lt_of_lt_of_le h4 (Nat.le_of_lt_succ h2))
    · rw [if_neg ht]
      exact ⟨_, rfl, g2 ht⟩
theorem L_Na_compareWith_14 (E : Ev) (q0 : Nat) (q1 : Nat) (M : Mm) {I : Int → Prop} {μ : Int → Nat} {Q : (Nat × Int) → Prop} (hb : ∀ x2, I x2 → Ok (Na_compareWith_14b E M q0 q1 x2) (fun r => (r.1 = 0 → I r.2 ∧ μ r.2 < μ x2) ∧ (r.1 ≠ 0 → Q r))) : ∀ (fu : Nat) (x2 : Int), I x2 → μ x2 < fu → Ok (l_Na_compareWith_14 E q0 q1 fu M x2) Q := by
  intro fu
  induction fu with
  | zero => intro x2 h1 h2; exact absurd h2 (Nat.not_lt_zero _)
  | succ fu ih =>
    intro x2 h1 h2
    obtain ⟨⟨t, w2⟩, e, g1, g2⟩ := hb x2 h1
    rw [l_Na_compareWith_14, e]
    show Ok (if t = 0 then l_Na_compareWith_14 E q0 q1 fu M w2 else some (t, w2)) Q
    by_cases ht : t = 0
    · rw [if_pos ht]
      obtain ⟨h3, h4⟩ := g1 ht
      exact ih w2 h3 (Nat.lt_of_lt_of_le h4 (Nat.le_of_lt_succ h2))
    · rw [if_neg ht]
      exact ⟨_, rfl, g2 ht⟩
theorem L_Co_greatestPile_4 (E : Ev) (M : Mm) {I : Int → Int → Prop} {μ : Int → Int → Nat} {Q : (Nat × Int × Int) → Prop} (hb : ∀ x1 x2, I x1 x2 → Ok (Co_greatestPile_4b E M x1 x2) (fun r => (r.1 = 0 → I r.2.1 r.2.2 ∧ μ r.2.1 r.2.2 < μ x1 x2) ∧ (r.1 ≠ 0 → Q r))) : ∀ (fu : Nat) (x1 : Int) (x2 : Int), I x1 x2 → μ x1 x2 < fu → Ok (l_Co_greatestPile_4 E fu M x1 x2) Q := by
  intro fu
  induction fu with
  | zero => intro x1 x2 h1 h2; exact absurd h2 (Nat.not_lt_zero _)
  | succ fu ih =>
    intro x1 x2 h1 h2
    obtain ⟨⟨t, w1, w2⟩, e, g1, g2⟩ := hb x1 x2 h1
    rw [l_Co_greatestPile_4, e]
    show Ok (if t = 0 then l_Co_greatestPile_4 E fu M w1 w2 else some (t, w1, w2)) Q
    by_cases ht : t = 0
    · rw [if_pos ht]
      obtain ⟨h3, h4⟩ := g1 ht
      exact ih w1 w2 h3 (Nat.lt_of_lt_of_le h4 (Nat.le_of_lt_succ h2))
    · rw [if_neg ht]
      exact ⟨_, rfl, g2 ht⟩
theorem L_Na_multiplySmall_17 (E : Ev) (q0 : Nat) (x1 : Int) (x2 : Int) {I : Mm → Int → Int → Prop} {μ : Mm → Int → Int → Nat} {Q : (Nat × Int × Int × Mm) → Prop} (hb : ∀ M x3 x5, I M x3 x5 → Ok (Na_multiplySmall_17b E M q0 x1 x2 x3 x5) (fun r => (r.1 = 0 → I r.2.2.2 r.2.1 r.2.2.1 ∧ μ r.2.2.2 r.2.1 r.2.2.1 < μ M x3 x5) ∧ (r.1 ≠ 0 → Q r))) : ∀ (fu : Nat) (M : Mm) (x3 : Int) (x5 : Int), I M x3 x5 → μ M x3 x5 < fu → Ok (l_Na_multiplySmall_17 E q0 x1 x2 fu M x3 x5) Q := by
  intro fu
  induction fu with
  | zero => intro M x3 x5 h1 h2; exact absurd h2 (Nat.not_lt_zero _)
  | succ fu ih =>
    intro M x3 x5 h1 h2
    obtain ⟨⟨t, w3, w5, N⟩, e, g1, g2⟩ := hb M x3 x5 h1
    rw [l_Na_multiplySmall_17, e]
    show Ok (if t = 0 then l_Na_multiplySmall_17 E q0 x1 x2 fu N w3 w5 else some (t, w3, w5, N)) Q
    by_cases ht : t = 0
    · rw [if_pos ht]
      obtain ⟨h3, h4⟩ := g1 ht
      exact ih N w3 w5 h3 (Nat.lt_of_lt_of_le h4 (Nat.le_of_lt_succ h2))
    · rw [if_neg ht]
      exact ⟨_, rfl, g2 ht⟩
theorem L_Co_smallestPile_4 (E : Ev) (M : Mm) {I : Int → Int → Prop} {μ : Int → Int → Nat} {Q : (Nat × Int × Int) → Prop} (hb : ∀ x1 x2, I x1 x2 → Ok (Co_smallestPile_4b E M x1 x2) (fun r => (r.1 = 0 → I r.2.1 r.2.2 ∧ μ r.2.1 r.2.2 < μ x1 x2) ∧ (r.1 ≠ 0 → Q r))) : ∀ (fu : Nat) (x1 : Int) (x2 : Int), I x1 x2 → μ x1 x2 < fu → Ok (l_Co_smallestPile_4 E fu M x1 x2) Q := by
  intro fu
  induction fu with
  | zero => intro x1 x2 h1 h2; exact absurd h2 (Nat.not_lt_zero _)
  | succ fu ih =>
    intro x1 x2 h1 h2
    obtain ⟨⟨t, w1, w2⟩, e, g1, g2⟩ := hb x1 x2 h1
    rw [l_Co_smallestPile_4, e]
    show Ok (if t = 0 then l_Co_smallestPile_4 E fu M w1 w2 else some (t, w1, w2)) Q
    by_cases ht : t = 0
    · rw [if_pos ht]
      obtain ⟨h3, h4⟩ := g1 ht
      exact ih w1 w2 h3 (Nat.lt_of_lt_of_le h4 (Nat.le_of_lt_succ h2))
    · rw [if_neg ht]
      exact ⟨_, rfl, g2 ht⟩
theorem L_Co_exclude_55 (E : Ev) (q1 : Nat) (x2 : Int) {I : Mm → Int → Prop} {μ : Mm → Int → Nat} {Q : (Nat × Int × Mm) → Prop} (hb : ∀ M x3, I M x3 → Ok (Co_exclude_55b E M q1 x2 x3) (fun r => (r.1 = 0 → I r.2.2 r.2.1 ∧ μ r.2.2 r.2.1 < μ M x3) ∧ (r.1 ≠ 0 → Q r))) : ∀ (fu : Nat) (M : Mm) (x3 : Int), I M x3 → μ M x3 < fu → Ok (l_Co_exclude_55 E q1 x2 fu M x3) Q := by
  intro fu
  induction fu with
  | zero => intro M x3 h1 h2; exact absurd h2 (Nat.not_lt_zero _)
  | succ fu ih =>
    intro M x3 h1 h2
    obtain ⟨⟨t, w3, N⟩, e, g1, g2⟩ := hb M x3 h1
    rw [l_Co_exclude_55, e]
    show Ok (if t = 0 then l_Co_exclude_55 E q1 x2 fu N w3 else some (t, w3, N)) Q
    by_cases ht : t = 0
    · rw [if_pos ht]
      obtain ⟨h3, h4⟩ := g1 ht
      exact ih N w3 h3 (Nat.lt_of_lt_of_le h4 (Nat.le_of_lt_succ h2))
    · rw [if_neg ht]
      exact ⟨_, rfl, g2 ht⟩
theorem L_Na_subtract_4 (E : Ev) (q0 : Nat) (q1 : Nat) {I : Mm → Int → Int → Prop} {μ : Mm → Int → Int → Nat} {Q : (Nat × Int × Int × Mm) → Prop} (hb : ∀ M x2 x3, I M x2 x3 → Ok (Na_subtract_4b E M q0 q1 x2 x3) (fun r => (r.1 = 0 → I r.2.2.2 r.2.1 r.2.2.1 ∧ μ r.2.2.2 r.2.1 r.2.2.1 < μ M x2 x3) ∧ (r.1 ≠ 0 → Q r))) : ∀ (fu : Nat) (M : Mm) (x2 : Int) (x3 : Int), I M x2 x3 → μ M x2 x3 < fu → Ok (l_Na_subtract_4 E q0 q1 fu M x2 x3) Q := by
  intro fu
  induction fu with
  | zero => intro M x2 x3 h1 h2; exact absurd h2 (Nat.not_lt_zero _)
  | succ fu ih =>
    intro M x2 x3 h1 h2
    obtain ⟨⟨t, w2, w3, N⟩, e, g1, g2⟩ := hb M x2 x3 h1
    rw [l_Na_subtract_4, e]
    show Ok (if t = 0 then l_Na_subtract_4 E q0 q1 fu N w2 w3 else some (t, w2, w3, N)) Q
    by_cases ht : t = 0
    · rw [if_pos ht]
      obtain ⟨h3, h4⟩ := g1 ht
      exact ih N w2 w3 h3 (Nat.lt_of_lt_of_le h4 (Nat.le_of_lt_succ h2))
    · rw [if_neg ht]
      exact ⟨_, rfl, g2 ht⟩
theorem L_Na_subtractMultiple_6 (E : Ev) (q0 : Nat) (q1 : Nat) (x2 : Int) (x3 : Int) {I : Mm → Int → Int → Prop} {μ : Mm → Int → Int → Nat} {Q : (Nat × Int × Int × Mm) → Prop} (hb : ∀ M x5 x7, I M x5 x7 → Ok (Na_subtractMultiple_6b E M q0 q1 x2 x3 x5 x7) (fun r => (r.1 = 0 → I r.2.2.2 r.2.1 r.2.2.1 ∧ μ r.2.2.2 r.2.1 r.2.2.1 < μ M x5 x7) ∧ (r.1 ≠ 0 → Q r))) : ∀ (fu : Nat) (M : Mm) (x5 : Int) (x7 : Int), I M x5 x7 → μ M x5 x7 < fu → Ok (l_Na_subtractMultiple_6 E q0 q1 x2 x3 fu M x5 x7) Q := by
  intro fu
  induction fu with
  | zero => intro M x5 x7 h1 h2; exact absurd h2 (Nat.not_lt_zero _)
  | succ fu ih =>
    intro M x5 x7 h1 h2
    obtain ⟨⟨t, w5, w7, N⟩, e, g1, g2⟩ := hb M x5 x7 h1
    rw [l_Na_subtractMultiple_6, e]
    show Ok (if t = 0 then l_Na_subtractMultiple_6 E q0 q1 x2 x3 fu N w5 w7 else some (t, w5, w7, N)) Q
    by_cases ht : t = 0
    · rw [if_pos ht]
      obtain ⟨h3, h4⟩ := g1 ht
      exact ih N w5 w7 h3 (Nat.lt_of_lt_of_le h4 (Nat.le_of_lt_succ h2))
    · rw [if_neg ht]
      exact ⟨_, rfl, g2 ht⟩
theorem L_Na_takeMultiple_78 (E : Ev) (q0 : Nat) (q1 : Nat) (x2 : Int) (x3 : Int) (x4 : Int) {I : Mm → Int → Int → Int → Prop} {μ : Mm → Int → Int → Int → Nat} {Q : (Nat × Int × Int × Int × Mm) → Prop} (hb : ∀ M x8 x10 x12, I M x8 x10 x12 → Ok (Na_takeMultiple_78b E M q0 q1 x2 x3 x4 x8 x10 x12) (fun r => (r.1 = 0 → I r.2.2.2.2 r.2.1 r.2.2.1 r.2.2.2.1 ∧ μ r.2.2.2.2 r.2.1 r.2.2.1 r.2.2.2.1 < μ M x8 x10 x12) ∧ (r.1 ≠ 0 → Q r))) : ∀ (fu : Nat) (M : Mm) (x8 : Int) (x10 : Int) (x12 : Int), I M x8 x10 x12 → μ M x8 x10 x12 < fu → Ok (l_Na_takeMultiple_78 E q0 q1 x2 x3 x4 fu M x8 x10 x12) Q := by
  intro fu
  induction fu with
  | zero => intro M x8 x10 x12 h1 h2; exact absurd h2 (Nat.not_lt_zero _)
  | succ fu ih =>
    intro M x8 x10 x12 h1 h2
    obtain ⟨⟨t, w8, w10, w12, N⟩, e, g1, g2⟩ := hb M x8 x10 x12 h1
    rw [l_Na_takeMultiple_78, e]
    show Ok (if t = 0 then l_Na_takeMultiple_78 E q0 q1 x2 x3 x4 fu N w8 w10 w12 else some (t, w8, w10, w12, N)) Q
    by_cases ht : t = 0
    · rw [if_pos ht]
      obtain ⟨h3, h4⟩ := g1 ht
      exact ih N w8 w10 w12 h3 (Nat.lt_of_lt_of_le h4 (Nat.le_of_lt_succ h2))
    · rw [if_neg ht]
      exact ⟨_, rfl, g2 ht⟩
theorem L_Na_divide_43 (E : Ev) (q0 : Nat) (q1 : Nat) (q2 : Nat) (q3 : Nat) {I : Mm → Int → Prop} {μ : Mm → Int → Nat} {Q : (Nat × Int × Mm) → Prop} (hb : ∀ M x4, I M x4 → Ok (Na_divide_43b E M q0 q1 q2 q3 x4) (fun r => (r.1 = 0 → I r.2.2 r.2.1 ∧ μ r.2.2 r.2.1 < μ M x4) ∧ (r.1 ≠ 0 → Q r))) : ∀ (fu : Nat) (M : Mm) (x4 : Int), I M x4 → μ M x4 < fu → Ok (l_Na_divide_43 E q0 q1 q2 q3 fu M x4) Q := by
  intro fu
  induction fu with
  | zero => intro M x4 h1 h2; exact absurd h2 (Nat.not_lt_zero _)
  | succ fu ih =>
    intro M x4 h1 h2
    obtain ⟨⟨t, w4, N⟩, e, g1, g2⟩ := hb M x4 h1
    rw [l_Na_divide_43, e]
    show Ok (if t = 0 then l_Na_divide_43 E q0 q1 q2 q3 fu N w4 else some (t, w4, N)) Q
    by_cases ht : t = 0
    · rw [if_pos ht]
      obtain ⟨h3, h4⟩ := g1 ht
      exact ih N w4 h3 (Nat.lt_of_lt_of_le h4 (Nat.le_of_lt_succ h2))
    · rw [if_neg ht]
      exact ⟨_, rfl, g2 ht⟩
theorem L_Na_divide_103 (E : Ev) (q0 : Nat) (q2 : Nat) (q3 : Nat) (x4 : Int) {I : Mm → Int → Prop} {μ : Mm → Int → Nat} {Q : (Nat × Int × Mm) → Prop} (hb : ∀ M x5, I M x5 → Ok (Na_divide_103b E M q0 q2 q3 x4 x5) (fun r => (r.1 = 0 → I r.2.2 r.2.1 ∧ μ r.2.2 r.2.1 < μ M x5) ∧ (r.1 ≠ 0 → Q r))) : ∀ (fu : Nat) (M : Mm) (x5 : Int), I M x5 → μ M x5 < fu → Ok (l_Na_divide_103 E q0 q2 q3 x4 fu M x5) Q := by
  intro fu
  induction fu with
  | zero => intro M x5 h1 h2; exact absurd h2 (Nat.not_lt_zero _)
  | succ fu ih =>
    intro M x5 h1 h2
    obtain ⟨⟨t, w5, N⟩, e, g1, g2⟩ := hb M x5 h1
    rw [l_Na_divide_103, e]
    show Ok (if t = 0 then l_Na_divide_103 E q0 q2 q3 x4 fu N w5 else some (t, w5, N)) Q
    by_cases ht : t = 0
    · rw [if_pos ht]
      obtain ⟨h3, h4⟩ := g1 ht
      exact ih N w5 h3 (Nat.lt_of_lt_of_le h4 (Nat.le_of_lt_succ h2))
    · rw [if_neg ht]
      exact ⟨_, rfl, g2 ht⟩
theorem L_Na_divide_148 (E : Ev) (q0 : Nat) (q2 : Nat) (q3 : Nat) (x4 : Int) {I : Mm → Int → Prop} {μ : Mm → Int → Nat} {Q : (Nat × Int × Mm) → Prop} (hb : ∀ M x5, I M x5 → Ok (Na_divide_148b E M q0 q2 q3 x4 x5) (fun r => (r.1 = 0 → I r.2.2 r.2.1 ∧ μ r.2.2 r.2.1 < μ M x5) ∧ (r.1 ≠ 0 → Q r))) : ∀ (fu : Nat) (M : Mm) (x5 : Int), I M x5 → μ M x5 < fu → Ok (l_Na_divide_148 E q0 q2 q3 x4 fu M x5) Q := by
  intro fu
  induction fu with
  | zero => intro M x5 h1 h2; exact absurd h2 (Nat.not_lt_zero _)
  | succ fu ih =>
    intro M x5 h1 h2
    obtain ⟨⟨t, w5, N⟩, e, g1, g2⟩ := hb M x5 h1
    rw [l_Na_divide_148, e]
    show Ok (if t = 0 then l_Na_divide_148 E q0 q2 q3 x4 fu N w5 else some (t, w5, N)) Q
    by_cases ht : t = 0
    · rw [if_pos ht]
      obtain ⟨h3, h4⟩ := g1 ht
      exact ih N w5 h3 (Nat.lt_of_lt_of_le h4 (Nat.le_of_lt_succ h2))
    · rw [if_neg ht]
      exact ⟨_, rfl, g2 ht⟩
theorem L_Co_reduce_28 (E : Ev) {I : Mm → Nat → Nat → Int → Prop} {μ : Mm → Nat → Nat → Int → Nat} {Q : (Nat × Nat × Nat × Int × Mm) → Prop} (hb : ∀ M q1 q2 x3, I M q1 q2 x3 → Ok (Co_reduce_28b E M q1 q2 x3) (fun r => (r.1 = 0 → I r.2.2.2.2 r.2.1 r.2.2.1 r.2.2.2.1 ∧ μ r.2.2.2.2 r.2.1 r.2.2.1 r.2.2.2.1 < μ M q1 q2 x3) ∧ (r.1 ≠ 0 → Q r))) : ∀ (fu : Nat) (M : Mm) (q1 : Nat) (q2 : Nat) (x3 : Int), I M q1 q2 x3 → μ M q1 q2 x3 < fu → Ok (l_Co_reduce_28 E fu M q1 q2 x3) Q := by
  intro fu
  induction fu with
  | zero => intro M q1 q2 x3 h1 h2; exact absurd h2 (Nat.not_lt_zero _)
  | succ fu ih =>
    intro M q1 q2 x3 h1 h2
    obtain ⟨⟨t, w1, w2, w3, N⟩, e, g1, g2⟩ := hb M q1 q2 x3 h1
    rw [l_Co_reduce_28, e]
    show Ok (if t = 0 then l_Co_reduce_28 E fu N w1 w2 w3 else some (t, w1, w2, w3, N)) Q
    by_cases ht : t = 0
    · rw [if_pos ht]
      obtain ⟨h3, h4⟩ := g1 ht
      exact ih N w1 w2 w3 h3 (Nat.lt_of_lt_of_le h4 (Nat.le_of_lt_succ h2))
    · rw [if_neg ht]
      exact ⟨_, rfl, g2 ht⟩
theorem L_Na_multiply_24 (E : Ev) (q0 : Nat) (q1 : Nat) (q2 : Nat) (x3 : Int) {I : Mm → Int → Int → Prop} {μ : Mm → Int → Int → Nat} {Q : (Nat × Int × Int × Mm) → Prop} (hb : ∀ M x4 x6, I M x4 x6 → Ok (Na_multiply_24b E M q0 q1 q2 x3 x4 x6) (fun r => (r.1 = 0 → I r.2.2.2 r.2.1 r.2.2.1 ∧ μ r.2.2.2 r.2.1 r.2.2.1 < μ M x4 x6) ∧ (r.1 ≠ 0 → Q r))) : ∀ (fu : Nat) (M : Mm) (x4 : Int) (x6 : Int), I M x4 x6 → μ M x4 x6 < fu → Ok (l_Na_multiply_24 E q0 q1 q2 x3 fu M x4 x6) Q := by
  intro fu
  induction fu with
  | zero => intro M x4 x6 h1 h2; exact absurd h2 (Nat.not_lt_zero _)
  | succ fu ih =>
    intro M x4 x6 h1 h2
    obtain ⟨⟨t, w4, w6, N⟩, e, g1, g2⟩ := hb M x4 x6 h1
    rw [l_Na_multiply_24, e]
    show Ok (if t = 0 then l_Na_multiply_24 E q0 q1 q2 x3 fu N w4 w6 else some (t, w4, w6, N)) Q
    by_cases ht : t = 0
    · rw [if_pos ht]
      obtain ⟨h3, h4⟩ := g1 ht
      exact ih N w4 w6 h3 (Nat.lt_of_lt_of_le h4 (Nat.le_of_lt_succ h2))
    · rw [if_neg ht]
      exact ⟨_, rfl, g2 ht⟩
theorem L_Na_multiply_10 (E : Ev) (q0 : Nat) (q1 : Nat) (q2 : Nat) {I : Mm → Int → Prop} {μ : Mm → Int → Nat} {Q : (Nat × Int × Mm) → Prop} (hb : ∀ M x3, I M x3 → Ok (Na_multiply_10b E M q0 q1 q2 x3) (fun r => (r.1 = 0 → I r.2.2 r.2.1 ∧ μ r.2.2 r.2.1 < μ M x3) ∧ (r.1 ≠ 0 → Q r))) : ∀ (fu : Nat) (M : Mm) (x3 : Int), I M x3 → μ M x3 < fu → Ok (l_Na_multiply_10 E q0 q1 q2 fu M x3) Q := by
  intro fu
  induction fu with
  | zero => intro M x3 h1 h2; exact absurd h2 (Nat.not_lt_zero _)
  | succ fu ih =>
    intro M x3 h1 h2
    obtain ⟨⟨t, w3, N⟩, e, g1, g2⟩ := hb M x3 h1
    rw [l_Na_multiply_10, e]
    show Ok (if t = 0 then l_Na_multiply_10 E q0 q1 q2 fu N w3 else some (t, w3, N)) Q
    by_cases ht : t = 0
    · rw [if_pos ht]
      obtain ⟨h3, h4⟩ := g1 ht
      exact ih N w3 h3 (Nat.lt_of_lt_of_le h4 (Nat.le_of_lt_succ h2))
    · rw [if_neg ht]
      exact ⟨_, rfl, g2 ht⟩
theorem L_Co_multiplyAll_11 (E : Ev) (q1 : Nat) {I : Mm → Int → Prop} {μ : Mm → Int → Nat} {Q : (Nat × Int × Mm) → Prop} (hb : ∀ M x2, I M x2 → Ok (Co_multiplyAll_11b E M q1 x2) (fun r => (r.1 = 0 → I r.2.2 r.2.1 ∧ μ r.2.2 r.2.1 < μ M x2) ∧ (r.1 ≠ 0 → Q r))) : ∀ (fu : Nat) (M : Mm) (x2 : Int), I M x2 → μ M x2 < fu → Ok (l_Co_multiplyAll_11 E q1 fu M x2) Q := by
  intro fu
  induction fu with
  | zero => intro M x2 h1 h2; exact absurd h2 (Nat.not_lt_zero _)
  | succ fu ih =>
    intro M x2 h1 h2
    obtain ⟨⟨t, w2, N⟩, e, g1, g2⟩ := hb M x2 h1
    rw [l_Co_multiplyAll_11, e]
    show Ok (if t = 0 then l_Co_multiplyAll_11 E q1 fu N w2 else some (t, w2, N)) Q
    by_cases ht : t = 0
    · rw [if_pos ht]
      obtain ⟨h3, h4⟩ := g1 ht
      exact ih N w2 h3 (Nat.lt_of_lt_of_le h4 (Nat.le_of_lt_succ h2))
    · rw [if_neg ht]
      exact ⟨_, rfl, g2 ht⟩
theorem L_Co_multiplyAll_49 (E : Ev) (q1 : Nat) (x2 : Int) {I : Mm → Int → Prop} {μ : Mm → Int → Nat} {Q : (Nat × Int × Mm) → Prop} (hb : ∀ M x3, I M x3 → Ok (Co_multiplyAll_49b E M q1 x2 x3) (fun r => (r.1 = 0 → I r.2.2 r.2.1 ∧ μ r.2.2 r.2.1 < μ M x3) ∧ (r.1 ≠ 0 → Q r))) : ∀ (fu : Nat) (M : Mm) (x3 : Int), I M x3 → μ M x3 < fu → Ok (l_Co_multiplyAll_49 E q1 x2 fu M x3) Q := by
  intro fu
  induction fu with
  | zero => intro M x3 h1 h2; exact absurd h2 (Nat.not_lt_zero _)
  | succ fu ih =>
    intro M x3 h1 h2
    obtain ⟨⟨t, w3, N⟩, e, g1, g2⟩ := hb M x3 h1
    rw [l_Co_multiplyAll_49, e]
    show Ok (if t = 0 then l_Co_multiplyAll_49 E q1 x2 fu N w3 else some (t, w3, N)) Q
    by_cases ht : t = 0
    · rw [if_pos ht]
      obtain ⟨h3, h4⟩ := g1 ht
      exact ih N w3 h3 (Nat.lt_of_lt_of_le h4 (Nat.le_of_lt_succ h2))
    · rw [if_neg ht]
      exact ⟨_, rfl, g2 ht⟩
theorem L_Co_multiplyAll_36 (E : Ev) (q1 : Nat) {I : Mm → Int → Prop} {μ : Mm → Int → Nat} {Q : (Nat × Int × Mm) → Prop} (hb : ∀ M x2, I M x2 → Ok (Co_multiplyAll_36b E M q1 x2) (fun r => (r.1 = 0 → I r.2.2 r.2.1 ∧ μ r.2.2 r.2.1 < μ M x2) ∧ (r.1 ≠ 0 → Q r))) : ∀ (fu : Nat) (M : Mm) (x2 : Int), I M x2 → μ M x2 < fu → Ok (l_Co_multiplyAll_36 E q1 fu M x2) Q := by
  intro fu
  induction fu with
  | zero => intro M x2 h1 h2; exact absurd h2 (Nat.not_lt_zero _)
  | succ fu ih =>
    intro M x2 h1 h2
    obtain ⟨⟨t, w2, N⟩, e, g1, g2⟩ := hb M x2 h1
    rw [l_Co_multiplyAll_36, e]
    show Ok (if t = 0 then l_Co_multiplyAll_36 E q1 fu N w2 else some (t, w2, N)) Q
    by_cases ht : t = 0
    · rw [if_pos ht]
      obtain ⟨h3, h4⟩ := g1 ht
      exact ih N w2 h3 (Nat.lt_of_lt_of_le h4 (Nat.le_of_lt_succ h2))
    · rw [if_neg ht]
      exact ⟨_, rfl, g2 ht⟩
theorem L_Co_passSurplus_64 (E : Ev) (x1 : Int) {I : Mm → Int → Prop} {μ : Mm → Int → Nat} {Q : (Nat × Int × Mm) → Prop} (hb : ∀ M x2, I M x2 → Ok (Co_passSurplus_64b E M x1 x2) (fun r => (r.1 = 0 → I r.2.2 r.2.1 ∧ μ r.2.2 r.2.1 < μ M x2) ∧ (r.1 ≠ 0 → Q r))) : ∀ (fu : Nat) (M : Mm) (x2 : Int), I M x2 → μ M x2 < fu → Ok (l_Co_passSurplus_64 E x1 fu M x2) Q := by
  intro fu
  induction fu with
  | zero => intro M x2 h1 h2; exact absurd h2 (Nat.not_lt_zero _)
  | succ fu ih =>
    intro M x2 h1 h2
    obtain ⟨⟨t, w2, N⟩, e, g1, g2⟩ := hb M x2 h1
    rw [l_Co_passSurplus_64, e]
    show Ok (if t = 0 then l_Co_passSurplus_64 E x1 fu N w2 else some (t, w2, N)) Q
    by_cases ht : t = 0
    · rw [if_pos ht]
      obtain ⟨h3, h4⟩ := g1 ht
      exact ih N w2 h3 (Nat.lt_of_lt_of_le h4 (Nat.le_of_lt_succ h2))
    · rw [if_neg ht]
      exact ⟨_, rfl, g2 ht⟩
theorem L_Co_holdCount_64 (x1 : Int) (q2 : Nat) {I : Ev → Mm → Int → Prop} {μ : Ev → Mm → Int → Nat} {Q : (Nat × Int × Ev × Mm) → Prop} (hb : ∀ E M x3, I E M x3 → Ok (Co_holdCount_64b E M x1 q2 x3) (fun r => (r.1 = 0 → I r.2.2.1 r.2.2.2 r.2.1 ∧ μ r.2.2.1 r.2.2.2 r.2.1 < μ E M x3) ∧ (r.1 ≠ 0 → Q r))) : ∀ (fu : Nat) (E : Ev) (M : Mm) (x3 : Int), I E M x3 → μ E M x3 < fu → Ok (l_Co_holdCount_64 x1 q2 fu E M x3) Q := by
  intro fu
  induction fu with
  | zero => intro E M x3 h1 h2; exact absurd h2 (Nat.not_lt_zero _)
  | succ fu ih =>
    intro E M x3 h1 h2
    obtain ⟨⟨t, w3, F, N⟩, e, g1, g2⟩ := hb E M x3 h1
    rw [l_Co_holdCount_64, e]
    show Ok (if t = 0 then l_Co_holdCount_64 x1 q2 fu F N w3 else some (t, w3, F, N)) Q
    by_cases ht : t = 0
    · rw [if_pos ht]
      obtain ⟨h3, h4⟩ := g1 ht
      exact ih F N w3 h3 (Nat.lt_of_lt_of_le h4 (Nat.le_of_lt_succ h2))
    · rw [if_neg ht]
      exact ⟨_, rfl, g2 ht⟩
theorem L_Lb_solid_30 (E : Ev) (q0 : Nat) (x1 : Int) (x2 : Int) (x3 : Int) (x5 : Int) (M : Mm) {I : Int → Int → Prop} {μ : Int → Int → Nat} {Q : (Nat × Int × Int) → Prop} (hb : ∀ x4 x6, I x4 x6 → Ok (Lb_solid_30b E M q0 x1 x2 x3 x5 x4 x6) (fun r => (r.1 = 0 → I r.2.1 r.2.2 ∧ μ r.2.1 r.2.2 < μ x4 x6) ∧ (r.1 ≠ 0 → Q r))) : ∀ (fu : Nat) (x4 : Int) (x6 : Int), I x4 x6 → μ x4 x6 < fu → Ok (l_Lb_solid_30 E q0 x1 x2 x3 x5 fu M x4 x6) Q := by
  intro fu
  induction fu with
  | zero => intro x4 x6 h1 h2; exact absurd h2 (Nat.not_lt_zero _)
  | succ fu ih =>
    intro x4 x6 h1 h2
    obtain ⟨⟨t, w4, w6⟩, e, g1, g2⟩ := hb x4 x6 h1
    rw [l_Lb_solid_30, e]
    show Ok (if t = 0 then l_Lb_solid_30 E q0 x1 x2 x3 x5 fu M w4 w6 else some (t, w4, w6)) Q
    by_cases ht : t = 0
    · rw [if_pos ht]
      obtain ⟨h3, h4⟩ := g1 ht
      exact ih w4 w6 h3 (Nat.lt_of_lt_of_le h4 (Nat.le_of_lt_succ h2))
    · rw [if_neg ht]
      exact ⟨_, rfl, g2 ht⟩
theorem L_Lb_solid_18 (E : Ev) (q0 : Nat) (x1 : Int) (x2 : Int) (x3 : Int) (M : Mm) {I : Int → Int → Prop} {μ : Int → Int → Nat} {Q : (Nat × Int × Int) → Prop} (hb : ∀ x4 x5, I x4 x5 → Ok (Lb_solid_18b E M q0 x1 x2 x3 x4 x5) (fun r => (r.1 = 0 → I r.2.1 r.2.2 ∧ μ r.2.1 r.2.2 < μ x4 x5) ∧ (r.1 ≠ 0 → Q r))) : ∀ (fu : Nat) (x4 : Int) (x5 : Int), I x4 x5 → μ x4 x5 < fu → Ok (l_Lb_solid_18 E q0 x1 x2 x3 fu M x4 x5) Q := by
  intro fu
  induction fu with
  | zero => intro x4 x5 h1 h2; exact absurd h2 (Nat.not_lt_zero _)
  | succ fu ih =>
    intro x4 x5 h1 h2
    obtain ⟨⟨t, w4, w5⟩, e, g1, g2⟩ := hb x4 x5 h1
    rw [l_Lb_solid_18, e]
    show Ok (if t = 0 then l_Lb_solid_18 E q0 x1 x2 x3 fu M w4 w5 else some (t, w4, w5)) Q
    by_cases ht : t = 0
    · rw [if_pos ht]
      obtain ⟨h3, h4⟩ := g1 ht
      exact ih w4 w5 h3 (Nat.lt_of_lt_of_le h4 (Nat.le_of_lt_succ h2))
    · rw [if_neg ht]
      exact ⟨_, rfl, g2 ht⟩
theorem L_Lb_solid_4 (E : Ev) (q0 : Nat) (x1 : Int) (M : Mm) {I : Int → Int → Prop} {μ : Int → Int → Nat} {Q : (Nat × Int × Int) → Prop} (hb : ∀ x2 x3, I x2 x3 → Ok (Lb_solid_4b E M q0 x1 x2 x3) (fun r => (r.1 = 0 → I r.2.1 r.2.2 ∧ μ r.2.1 r.2.2 < μ x2 x3) ∧ (r.1 ≠ 0 → Q r))) : ∀ (fu : Nat) (x2 : Int) (x3 : Int), I x2 x3 → μ x2 x3 < fu → Ok (l_Lb_solid_4 E q0 x1 fu M x2 x3) Q := by
  intro fu
  induction fu with
  | zero => intro x2 x3 h1 h2; exact absurd h2 (Nat.not_lt_zero _)
  | succ fu ih =>
    intro x2 x3 h1 h2
    obtain ⟨⟨t, w2, w3⟩, e, g1, g2⟩ := hb x2 x3 h1
    rw [l_Lb_solid_4, e]
    show Ok (if t = 0 then l_Lb_solid_4 E q0 x1 fu M w2 w3 else some (t, w2, w3)) Q
    by_cases ht : t = 0
    · rw [if_pos ht]
      obtain ⟨h3, h4⟩ := g1 ht
      exact ih w2 w3 h3 (Nat.lt_of_lt_of_le h4 (Nat.le_of_lt_succ h2))
    · rw [if_neg ht]
      exact ⟨_, rfl, g2 ht⟩
theorem L_Bx_findSupport_23 (E : Ev) (q1 : Nat) (x2 : Int) (x3 : Int) (x4 : Int) {I : Mm → Int → Int → Prop} {μ : Mm → Int → Int → Nat} {Q : (Nat × Int × Int × Mm) → Prop} (hb : ∀ M x5 x6, I M x5 x6 → Ok (Bx_findSupport_23b E M q1 x2 x3 x4 x5 x6) (fun r => (r.1 = 0 → I r.2.2.2 r.2.1 r.2.2.1 ∧ μ r.2.2.2 r.2.1 r.2.2.1 < μ M x5 x6) ∧ (r.1 ≠ 0 → Q r))) : ∀ (fu : Nat) (M : Mm) (x5 : Int) (x6 : Int), I M x5 x6 → μ M x5 x6 < fu → Ok (l_Bx_findSupport_23 E q1 x2 x3 x4 fu M x5 x6) Q := by
  intro fu
  induction fu with
  | zero => intro M x5 x6 h1 h2; exact absurd h2 (Nat.not_lt_zero _)
  | succ fu ih =>
    intro M x5 x6 h1 h2
    obtain ⟨⟨t, w5, w6, N⟩, e, g1, g2⟩ := hb M x5 x6 h1
    rw [l_Bx_findSupport_23, e]
    show Ok (if t = 0 then l_Bx_findSupport_23 E q1 x2 x3 x4 fu N w5 w6 else some (t, w5, w6, N)) Q
    by_cases ht : t = 0
    · rw [if_pos ht]
      obtain ⟨h3, h4⟩ := g1 ht
      exact ih N w5 w6 h3 (Nat.lt_of_lt_of_le h4 (Nat.le_of_lt_succ h2))
    · rw [if_neg ht]
      exact ⟨_, rfl, g2 ht⟩
theorem L_Bx_findSupport_11 (E : Ev) (q1 : Nat) (x2 : Int) (x3 : Int) {I : Mm → Int → Prop} {μ : Mm → Int → Nat} {Q : (Nat × Int × Mm) → Prop} (hb : ∀ M x4, I M x4 → Ok (Bx_findSupport_11b E M q1 x2 x3 x4) (fun r => (r.1 = 0 → I r.2.2 r.2.1 ∧ μ r.2.2 r.2.1 < μ M x4) ∧ (r.1 ≠ 0 → Q r))) : ∀ (fu : Nat) (M : Mm) (x4 : Int), I M x4 → μ M x4 < fu → Ok (l_Bx_findSupport_11 E q1 x2 x3 fu M x4) Q := by
  intro fu
  induction fu with
  | zero => intro M x4 h1 h2; exact absurd h2 (Nat.not_lt_zero _)
  | succ fu ih =>
    intro M x4 h1 h2
    obtain ⟨⟨t, w4, N⟩, e, g1, g2⟩ := hb M x4 h1
    rw [l_Bx_findSupport_11, e]
    show Ok (if t = 0 then l_Bx_findSupport_11 E q1 x2 x3 fu N w4 else some (t, w4, N)) Q
    by_cases ht : t = 0
    · rw [if_pos ht]
      obtain ⟨h3, h4⟩ := g1 ht
      exact ih N w4 h3 (Nat.lt_of_lt_of_le h4 (Nat.le_of_lt_succ h2))
    · rw [if_neg ht]
      exact ⟨_, rfl, g2 ht⟩
theorem L_B_appendNumber_20 (E : Ev) (q1 : Nat) (x2 : Int) {I : Mm → Int → Prop} {μ : Mm → Int → Nat} {Q : (Nat × Int × Mm) → Prop} (hb : ∀ M x3, I M x3 → Ok (B_appendNumber_20b E M q1 x2 x3) (fun r => (r.1 = 0 → I r.2.2 r.2.1 ∧ μ r.2.2 r.2.1 < μ M x3) ∧ (r.1 ≠ 0 → Q r))) : ∀ (fu : Nat) (M : Mm) (x3 : Int), I M x3 → μ M x3 < fu → Ok (l_B_appendNumber_20 E q1 x2 fu M x3) Q := by
  intro fu
  induction fu with
  | zero => intro M x3 h1 h2; exact absurd h2 (Nat.not_lt_zero _)
  | succ fu ih =>
    intro M x3 h1 h2
    obtain ⟨⟨t, w3, N⟩, e, g1, g2⟩ := hb M x3 h1
    rw [l_B_appendNumber_20, e]
    show Ok (if t = 0 then l_B_appendNumber_20 E q1 x2 fu N w3 else some (t, w3, N)) Q
    by_cases ht : t = 0
    · rw [if_pos ht]
      obtain ⟨h3, h4⟩ := g1 ht
      exact ih N w3 h3 (Nat.lt_of_lt_of_le h4 (Nat.le_of_lt_succ h2))
    · rw [if_neg ht]
      exact ⟨_, rfl, g2 ht⟩
theorem L_B_appendNumber_63 (E : Ev) {I : Mm → Int → Int → Prop} {μ : Mm → Int → Int → Nat} {Q : (Nat × Int × Int × Mm) → Prop} (hb : ∀ M x3 x4, I M x3 x4 → Ok (B_appendNumber_63b E M x3 x4) (fun r => (r.1 = 0 → I r.2.2.2 r.2.1 r.2.2.1 ∧ μ r.2.2.2 r.2.1 r.2.2.1 < μ M x3 x4) ∧ (r.1 ≠ 0 → Q r))) : ∀ (fu : Nat) (M : Mm) (x3 : Int) (x4 : Int), I M x3 x4 → μ M x3 x4 < fu → Ok (l_B_appendNumber_63 E fu M x3 x4) Q := by
  intro fu
  induction fu with
  | zero => intro M x3 x4 h1 h2; exact absurd h2 (Nat.not_lt_zero _)
  | succ fu ih =>
    intro M x3 x4 h1 h2
    obtain ⟨⟨t, w3, w4, N⟩, e, g1, g2⟩ := hb M x3 x4 h1
    rw [l_B_appendNumber_63, e]
    show Ok (if t = 0 then l_B_appendNumber_63 E fu N w3 w4 else some (t, w3, w4, N)) Q
    by_cases ht : t = 0
    · rw [if_pos ht]
      obtain ⟨h3, h4⟩ := g1 ht
      exact ih N w3 w4 h3 (Nat.lt_of_lt_of_le h4 (Nat.le_of_lt_succ h2))
    · rw [if_neg ht]
      exact ⟨_, rfl, g2 ht⟩
theorem L_La_reads_19 (E : Ev) (x1 : Int) (M : Mm) {I : Int → Int → Int → Int → Prop} {μ : Int → Int → Int → Int → Nat} {Q : (Nat × Int × Int × Int × Int) → Prop} (hb : ∀ x2 x4 x6 x7, I x2 x4 x6 x7 → Ok (La_reads_19b E M x1 x2 x4 x6 x7) (fun r => (r.1 = 0 → I r.2.1 r.2.2.1 r.2.2.2.1 r.2.2.2.2 ∧ μ r.2.1 r.2.2.1 r.2.2.2.1 r.2.2.2.2 < μ x2 x4 x6 x7) ∧ (r.1 ≠ 0 → Q r))) : ∀ (fu : Nat) (x2 : Int) (x4 : Int) (x6 : Int) (x7 : Int), I x2 x4 x6 x7 → μ x2 x4 x6 x7 < fu → Ok (l_La_reads_19 E x1 fu M x2 x4 x6 x7) Q := by
  intro fu
  induction fu with
  | zero => intro x2 x4 x6 x7 h1 h2; exact absurd h2 (Nat.not_lt_zero _)
  | succ fu ih =>
    intro x2 x4 x6 x7 h1 h2
    obtain ⟨⟨t, w2, w4, w6, w7⟩, e, g1, g2⟩ := hb x2 x4 x6 x7 h1
    rw [l_La_reads_19, e]
    show Ok (if t = 0 then l_La_reads_19 E x1 fu M w2 w4 w6 w7 else some (t, w2, w4, w6, w7)) Q
    by_cases ht : t = 0
    · rw [if_pos ht]
      obtain ⟨h3, h4⟩ := g1 ht
      exact ih w2 w4 w6 w7 h3 (Nat.lt_of_lt_of_le h4 (Nat.le_of_lt_succ h2))
    · rw [if_neg ht]
      exact ⟨_, rfl, g2 ht⟩
theorem L_La_transferable_21 (q1 : Nat) (x3 : Int) (x4 : Int) {I : Ev → Mm → Int → Int → Prop} {μ : Ev → Mm → Int → Int → Nat} {Q : (Nat × Int × Int × Ev × Mm) → Prop} (hb : ∀ E M x5 x6, I E M x5 x6 → Ok (La_transferable_21b E M q1 x3 x4 x5 x6) (fun r => (r.1 = 0 → I r.2.2.2.1 r.2.2.2.2 r.2.1 r.2.2.1 ∧ μ r.2.2.2.1 r.2.2.2.2 r.2.1 r.2.2.1 < μ E M x5 x6) ∧ (r.1 ≠ 0 → Q r))) : ∀ (fu : Nat) (E : Ev) (M : Mm) (x5 : Int) (x6 : Int), I E M x5 x6 → μ E M x5 x6 < fu → Ok (l_La_transferable_21 q1 x3 x4 fu E M x5 x6) Q := by
  intro fu
  induction fu with
  | zero => intro E M x5 x6 h1 h2; exact absurd h2 (Nat.not_lt_zero _)
  | succ fu ih =>
    intro E M x5 x6 h1 h2
    obtain ⟨⟨t, w5, w6, F, N⟩, e, g1, g2⟩ := hb E M x5 x6 h1
    rw [l_La_transferable_21, e]
    show Ok (if t = 0 then l_La_transferable_21 q1 x3 x4 fu F N w5 w6 else some (t, w5, w6, F, N)) Q
    by_cases ht : t = 0
    · rw [if_pos ht]
      obtain ⟨h3, h4⟩ := g1 ht
      exact ih F N w5 w6 h3 (Nat.lt_of_lt_of_le h4 (Nat.le_of_lt_succ h2))
    · rw [if_neg ht]
      exact ⟨_, rfl, g2 ht⟩
theorem L_La_transferable_101 (q1 : Nat) (x5 : Int) {I : Ev → Mm → Int → Int → Prop} {μ : Ev → Mm → Int → Int → Nat} {Q : (Nat × Int × Int × Ev × Mm) → Prop} (hb : ∀ E M x7 x8, I E M x7 x8 → Ok (La_transferable_101b E M q1 x5 x7 x8) (fun r => (r.1 = 0 → I r.2.2.2.1 r.2.2.2.2 r.2.1 r.2.2.1 ∧ μ r.2.2.2.1 r.2.2.2.2 r.2.1 r.2.2.1 < μ E M x7 x8) ∧ (r.1 ≠ 0 → Q r))) : ∀ (fu : Nat) (E : Ev) (M : Mm) (x7 : Int) (x8 : Int), I E M x7 x8 → μ E M x7 x8 < fu → Ok (l_La_transferable_101 q1 x5 fu E M x7 x8) Q := by
  intro fu
  induction fu with
  | zero => intro E M x7 x8 h1 h2; exact absurd h2 (Nat.not_lt_zero _)
  | succ fu ih =>
    intro E M x7 x8 h1 h2
    obtain ⟨⟨t, w7, w8, F, N⟩, e, g1, g2⟩ := hb E M x7 x8 h1
    rw [l_La_transferable_101, e]
    show Ok (if t = 0 then l_La_transferable_101 q1 x5 fu F N w7 w8 else some (t, w7, w8, F, N)) Q
    by_cases ht : t = 0
    · rw [if_pos ht]
      obtain ⟨h3, h4⟩ := g1 ht
      exact ih F N w7 w8 h3 (Nat.lt_of_lt_of_le h4 (Nat.le_of_lt_succ h2))
    · rw [if_neg ht]
      exact ⟨_, rfl, g2 ht⟩
theorem L_La_transferable_223 (q1 : Nat) (x8 : Int) (x9 : Int) (x11 : Int) {I : Ev → Mm → Int → Int → Prop} {μ : Ev → Mm → Int → Int → Nat} {Q : (Nat × Int × Int × Ev × Mm) → Prop} (hb : ∀ E M x12 x13, I E M x12 x13 → Ok (La_transferable_223b E M q1 x8 x9 x11 x12 x13) (fun r => (r.1 = 0 → I r.2.2.2.1 r.2.2.2.2 r.2.1 r.2.2.1 ∧ μ r.2.2.2.1 r.2.2.2.2 r.2.1 r.2.2.1 < μ E M x12 x13) ∧ (r.1 ≠ 0 → Q r))) : ∀ (fu : Nat) (E : Ev) (M : Mm) (x12 : Int) (x13 : Int), I E M x12 x13 → μ E M x12 x13 < fu → Ok (l_La_transferable_223 q1 x8 x9 x11 fu E M x12 x13) Q := by
  intro fu
  induction fu with
  | zero => intro E M x12 x13 h1 h2; exact absurd h2 (Nat.not_lt_zero _)
  | succ fu ih =>
    intro E M x12 x13 h1 h2
    obtain ⟨⟨t, w12, w13, F, N⟩, e, g1, g2⟩ := hb E M x12 x13 h1
    rw [l_La_transferable_223, e]
    show Ok (if t = 0 then l_La_transferable_223 q1 x8 x9 x11 fu F N w12 w13 else some (t, w12, w13, F, N)) Q
    by_cases ht : t = 0
    · rw [if_pos ht]
      obtain ⟨h3, h4⟩ := g1 ht
      exact ih F N w12 w13 h3 (Nat.lt_of_lt_of_le h4 (Nat.le_of_lt_succ h2))
    · rw [if_neg ht]
      exact ⟨_, rfl, g2 ht⟩
theorem L_La_transferable_208 (q1 : Nat) (x8 : Int) {I : Ev → Mm → Int → Int → Prop} {μ : Ev → Mm → Int → Int → Nat} {Q : (Nat × Int × Int × Ev × Mm) → Prop} (hb : ∀ E M x9 x11, I E M x9 x11 → Ok (La_transferable_208b E M q1 x8 x9 x11) (fun r => (r.1 = 0 → I r.2.2.2.1 r.2.2.2.2 r.2.1 r.2.2.1 ∧ μ r.2.2.2.1 r.2.2.2.2 r.2.1 r.2.2.1 < μ E M x9 x11) ∧ (r.1 ≠ 0 → Q r))) : ∀ (fu : Nat) (E : Ev) (M : Mm) (x9 : Int) (x11 : Int), I E M x9 x11 → μ E M x9 x11 < fu → Ok (l_La_transferable_208 q1 x8 fu E M x9 x11) Q := by
  intro fu
  induction fu with
  | zero => intro E M x9 x11 h1 h2; exact absurd h2 (Nat.not_lt_zero _)
  | succ fu ih =>
    intro E M x9 x11 h1 h2
    obtain ⟨⟨t, w9, w11, F, N⟩, e, g1, g2⟩ := hb E M x9 x11 h1
    rw [l_La_transferable_208, e]
    show Ok (if t = 0 then l_La_transferable_208 q1 x8 fu F N w9 w11 else some (t, w9, w11, F, N)) Q
    by_cases ht : t = 0
    · rw [if_pos ht]
      obtain ⟨h3, h4⟩ := g1 ht
      exact ih F N w9 w11 h3 (Nat.lt_of_lt_of_le h4 (Nat.le_of_lt_succ h2))
    · rw [if_neg ht]
      exact ⟨_, rfl, g2 ht⟩
theorem L_La_transferable_188 (q1 : Nat) {I : Ev → Mm → Int → Int → Prop} {μ : Ev → Mm → Int → Int → Nat} {Q : (Nat × Int × Int × Ev × Mm) → Prop} (hb : ∀ E M x7 x8, I E M x7 x8 → Ok (La_transferable_188b E M q1 x7 x8) (fun r => (r.1 = 0 → I r.2.2.2.1 r.2.2.2.2 r.2.1 r.2.2.1 ∧ μ r.2.2.2.1 r.2.2.2.2 r.2.1 r.2.2.1 < μ E M x7 x8) ∧ (r.1 ≠ 0 → Q r))) : ∀ (fu : Nat) (E : Ev) (M : Mm) (x7 : Int) (x8 : Int), I E M x7 x8 → μ E M x7 x8 < fu → Ok (l_La_transferable_188 q1 fu E M x7 x8) Q := by
  intro fu
  induction fu with
  | zero => intro E M x7 x8 h1 h2; exact absurd h2 (Nat.not_lt_zero _)
  | succ fu ih =>
    intro E M x7 x8 h1 h2
    obtain ⟨⟨t, w7, w8, F, N⟩, e, g1, g2⟩ := hb E M x7 x8 h1
    rw [l_La_transferable_188, e]
    show Ok (if t = 0 then l_La_transferable_188 q1 fu F N w7 w8 else some (t, w7, w8, F, N)) Q
    by_cases ht : t = 0
    · rw [if_pos ht]
      obtain ⟨h3, h4⟩ := g1 ht
      exact ih F N w7 w8 h3 (Nat.lt_of_lt_of_le h4 (Nat.le_of_lt_succ h2))
    · rw [if_neg ht]
      exact ⟨_, rfl, g2 ht⟩
theorem L_Po_changePairs_27 (E : Ev) (x1 : Int) (x2 : Int) (x3 : Int) (x4 : Int) {I : Mm → Int → Prop} {μ : Mm → Int → Nat} {Q : (Nat × Int × Mm) → Prop} (hb : ∀ M x5, I M x5 → Ok (Po_changePairs_27b E M x1 x2 x3 x4 x5) (fun r => (r.1 = 0 → I r.2.2 r.2.1 ∧ μ r.2.2 r.2.1 < μ M x5) ∧ (r.1 ≠ 0 → Q r))) : ∀ (fu : Nat) (M : Mm) (x5 : Int), I M x5 → μ M x5 < fu → Ok (l_Po_changePairs_27 E x1 x2 x3 x4 fu M x5) Q := by
  intro fu
  induction fu with
  | zero => intro M x5 h1 h2; exact absurd h2 (Nat.not_lt_zero _)
  | succ fu ih =>
    intro M x5 h1 h2
    obtain ⟨⟨t, w5, N⟩, e, g1, g2⟩ := hb M x5 h1
    rw [l_Po_changePairs_27, e]
    show Ok (if t = 0 then l_Po_changePairs_27 E x1 x2 x3 x4 fu N w5 else some (t, w5, N)) Q
    by_cases ht : t = 0
    · rw [if_pos ht]
      obtain ⟨h3, h4⟩ := g1 ht
      exact ih N w5 h3 (Nat.lt_of_lt_of_le h4 (Nat.le_of_lt_succ h2))
    · rw [if_neg ht]
      exact ⟨_, rfl, g2 ht⟩
theorem L_Po_changePairs_3 (E : Ev) (x1 : Int) (x2 : Int) (x3 : Int) {I : Mm → Int → Prop} {μ : Mm → Int → Nat} {Q : (Nat × Int × Mm) → Prop} (hb : ∀ M x4, I M x4 → Ok (Po_changePairs_3b E M x1 x2 x3 x4) (fun r => (r.1 = 0 → I r.2.2 r.2.1 ∧ μ r.2.2 r.2.1 < μ M x4) ∧ (r.1 ≠ 0 → Q r))) : ∀ (fu : Nat) (M : Mm) (x4 : Int), I M x4 → μ M x4 < fu → Ok (l_Po_changePairs_3 E x1 x2 x3 fu M x4) Q := by
  intro fu
  induction fu with
  | zero => intro M x4 h1 h2; exact absurd h2 (Nat.not_lt_zero _)
  | succ fu ih =>
    intro M x4 h1 h2
    obtain ⟨⟨t, w4, N⟩, e, g1, g2⟩ := hb M x4 h1
    rw [l_Po_changePairs_3, e]
    show Ok (if t = 0 then l_Po_changePairs_3 E x1 x2 x3 fu N w4 else some (t, w4, N)) Q
    by_cases ht : t = 0
    · rw [if_pos ht]
      obtain ⟨h3, h4⟩ := g1 ht
      exact ih N w4 h3 (Nat.lt_of_lt_of_le h4 (Nat.le_of_lt_succ h2))
    · rw [if_neg ht]
      exact ⟨_, rfl, g2 ht⟩
theorem L_Po_change_62 (E : Ev) (x1 : Int) (x2 : Int) {I : Mm → Int → Int → Prop} {μ : Mm → Int → Int → Nat} {Q : (Nat × Int × Int × Mm) → Prop} (hb : ∀ M x4 x5, I M x4 x5 → Ok (Po_change_62b E M x1 x2 x4 x5) (fun r => (r.1 = 0 → I r.2.2.2 r.2.1 r.2.2.1 ∧ μ r.2.2.2 r.2.1 r.2.2.1 < μ M x4 x5) ∧ (r.1 ≠ 0 → Q r))) : ∀ (fu : Nat) (M : Mm) (x4 : Int) (x5 : Int), I M x4 x5 → μ M x4 x5 < fu → Ok (l_Po_change_62 E x1 x2 fu M x4 x5) Q := by
  intro fu
  induction fu with
  | zero => intro M x4 x5 h1 h2; exact absurd h2 (Nat.not_lt_zero _)
  | succ fu ih =>
    intro M x4 x5 h1 h2
    obtain ⟨⟨t, w4, w5, N⟩, e, g1, g2⟩ := hb M x4 x5 h1
    rw [l_Po_change_62, e]
    show Ok (if t = 0 then l_Po_change_62 E x1 x2 fu N w4 w5 else some (t, w4, w5, N)) Q
    by_cases ht : t = 0
    · rw [if_pos ht]
      obtain ⟨h3, h4⟩ := g1 ht
      exact ih N w4 w5 h3 (Nat.lt_of_lt_of_le h4 (Nat.le_of_lt_succ h2))
    · rw [if_neg ht]
      exact ⟨_, rfl, g2 ht⟩
theorem L_Po_change_122 (E : Ev) (x1 : Int) (x2 : Int) {I : Mm → Int → Prop} {μ : Mm → Int → Nat} {Q : (Nat × Int × Mm) → Prop} (hb : ∀ M x5, I M x5 → Ok (Po_change_122b E M x1 x2 x5) (fun r => (r.1 = 0 → I r.2.2 r.2.1 ∧ μ r.2.2 r.2.1 < μ M x5) ∧ (r.1 ≠ 0 → Q r))) : ∀ (fu : Nat) (M : Mm) (x5 : Int), I M x5 → μ M x5 < fu → Ok (l_Po_change_122 E x1 x2 fu M x5) Q := by
  intro fu
  induction fu with
  | zero => intro M x5 h1 h2; exact absurd h2 (Nat.not_lt_zero _)
  | succ fu ih =>
    intro M x5 h1 h2
    obtain ⟨⟨t, w5, N⟩, e, g1, g2⟩ := hb M x5 h1
    rw [l_Po_change_122, e]
    show Ok (if t = 0 then l_Po_change_122 E x1 x2 fu N w5 else some (t, w5, N)) Q
    by_cases ht : t = 0
    · rw [if_pos ht]
      obtain ⟨h3, h4⟩ := g1 ht
      exact ih N w5 h3 (Nat.lt_of_lt_of_le h4 (Nat.le_of_lt_succ h2))
    · rw [if_neg ht]
      exact ⟨_, rfl, g2 ht⟩
theorem L_Po_open_44 (E : Ev) {I : Mm → Int → Prop} {μ : Mm → Int → Nat} {Q : (Nat × Int × Mm) → Prop} (hb : ∀ M x2, I M x2 → Ok (Po_open_44b E M x2) (fun r => (r.1 = 0 → I r.2.2 r.2.1 ∧ μ r.2.2 r.2.1 < μ M x2) ∧ (r.1 ≠ 0 → Q r))) : ∀ (fu : Nat) (M : Mm) (x2 : Int), I M x2 → μ M x2 < fu → Ok (l_Po_open_44 E fu M x2) Q := by
  intro fu
  induction fu with
  | zero => intro M x2 h1 h2; exact absurd h2 (Nat.not_lt_zero _)
  | succ fu ih =>
    intro M x2 h1 h2
    obtain ⟨⟨t, w2, N⟩, e, g1, g2⟩ := hb M x2 h1
    rw [l_Po_open_44, e]
    show Ok (if t = 0 then l_Po_open_44 E fu N w2 else some (t, w2, N)) Q
    by_cases ht : t = 0
    · rw [if_pos ht]
      obtain ⟨h3, h4⟩ := g1 ht
      exact ih N w2 h3 (Nat.lt_of_lt_of_le h4 (Nat.le_of_lt_succ h2))
    · rw [if_neg ht]
      exact ⟨_, rfl, g2 ht⟩
theorem L_Lb_ahead_5 (E : Ev) (q0 : Nat) (x1 : Int) (x2 : Int) (M : Mm) {I : Int → Int → Prop} {μ : Int → Int → Nat} {Q : (Nat × Int × Int) → Prop} (hb : ∀ x3 x4, I x3 x4 → Ok (Lb_ahead_5b E M q0 x1 x2 x3 x4) (fun r => (r.1 = 0 → I r.2.1 r.2.2 ∧ μ r.2.1 r.2.2 < μ x3 x4) ∧ (r.1 ≠ 0 → Q r))) : ∀ (fu : Nat) (x3 : Int) (x4 : Int), I x3 x4 → μ x3 x4 < fu → Ok (l_Lb_ahead_5 E q0 x1 x2 fu M x3 x4) Q := by
  intro fu
  induction fu with
  | zero => intro x3 x4 h1 h2; exact absurd h2 (Nat.not_lt_zero _)
  | succ fu ih =>
    intro x3 x4 h1 h2
    obtain ⟨⟨t, w3, w4⟩, e, g1, g2⟩ := hb x3 x4 h1
    rw [l_Lb_ahead_5, e]
    show Ok (if t = 0 then l_Lb_ahead_5 E q0 x1 x2 fu M w3 w4 else some (t, w3, w4)) Q
    by_cases ht : t = 0
    · rw [if_pos ht]
      obtain ⟨h3, h4⟩ := g1 ht
      exact ih w3 w4 h3 (Nat.lt_of_lt_of_le h4 (Nat.le_of_lt_succ h2))
    · rw [if_neg ht]
      exact ⟨_, rfl, g2 ht⟩
theorem L_Po_findBeaten_23 (E : Ev) (x1 : Int) {I : Mm → Int → Prop} {μ : Mm → Int → Nat} {Q : (Nat × Int × Mm) → Prop} (hb : ∀ M x2, I M x2 → Ok (Po_findBeaten_23b E M x1 x2) (fun r => (r.1 = 0 → I r.2.2 r.2.1 ∧ μ r.2.2 r.2.1 < μ M x2) ∧ (r.1 ≠ 0 → Q r))) : ∀ (fu : Nat) (M : Mm) (x2 : Int), I M x2 → μ M x2 < fu → Ok (l_Po_findBeaten_23 E x1 fu M x2) Q := by
  intro fu
  induction fu with
  | zero => intro M x2 h1 h2; exact absurd h2 (Nat.not_lt_zero _)
  | succ fu ih =>
    intro M x2 h1 h2
    obtain ⟨⟨t, w2, N⟩, e, g1, g2⟩ := hb M x2 h1
    rw [l_Po_findBeaten_23, e]
    show Ok (if t = 0 then l_Po_findBeaten_23 E x1 fu N w2 else some (t, w2, N)) Q
    by_cases ht : t = 0
    · rw [if_pos ht]
      obtain ⟨h3, h4⟩ := g1 ht
      exact ih N w2 h3 (Nat.lt_of_lt_of_le h4 (Nat.le_of_lt_succ h2))
    · rw [if_neg ht]
      exact ⟨_, rfl, g2 ht⟩
theorem L_Po_findBeaten_10 (E : Ev) {I : Mm → Int → Prop} {μ : Mm → Int → Nat} {Q : (Nat × Int × Mm) → Prop} (hb : ∀ M x1, I M x1 → Ok (Po_findBeaten_10b E M x1) (fun r => (r.1 = 0 → I r.2.2 r.2.1 ∧ μ r.2.2 r.2.1 < μ M x1) ∧ (r.1 ≠ 0 → Q r))) : ∀ (fu : Nat) (M : Mm) (x1 : Int), I M x1 → μ M x1 < fu → Ok (l_Po_findBeaten_10 E fu M x1) Q := by
  intro fu
  induction fu with
  | zero => intro M x1 h1 h2; exact absurd h2 (Nat.not_lt_zero _)
  | succ fu ih =>
    intro M x1 h1 h2
    obtain ⟨⟨t, w1, N⟩, e, g1, g2⟩ := hb M x1 h1
    rw [l_Po_findBeaten_10, e]
    show Ok (if t = 0 then l_Po_findBeaten_10 E fu N w1 else some (t, w1, N)) Q
    by_cases ht : t = 0
    · rw [if_pos ht]
      obtain ⟨h3, h4⟩ := g1 ht
      exact ih N w1 h3 (Nat.lt_of_lt_of_le h4 (Nat.le_of_lt_succ h2))
    · rw [if_neg ht]
      exact ⟨_, rfl, g2 ht⟩
theorem L_Po_isBeatingSet_2 (E : Ev) (x1 : Int) (M : Mm) {I : Int → Prop} {μ : Int → Nat} {Q : (Nat × Int) → Prop} (hb : ∀ x2, I x2 → Ok (Po_isBeatingSet_2b E M x1 x2) (fun r => (r.1 = 0 → I r.2 ∧ μ r.2 < μ x2) ∧ (r.1 ≠ 0 → Q r))) : ∀ (fu : Nat) (x2 : Int), I x2 → μ x2 < fu → Ok (l_Po_isBeatingSet_2 E x1 fu M x2) Q := by
  intro fu
  induction fu with
  | zero => intro x2 h1 h2; exact absurd h2 (Nat.not_lt_zero _)
  | succ fu ih =>
    intro x2 h1 h2
    obtain ⟨⟨t, w2⟩, e, g1, g2⟩ := hb x2 h1
    rw [l_Po_isBeatingSet_2, e]
    show Ok (if t = 0 then l_Po_isBeatingSet_2 E x1 fu M w2 else some (t, w2)) Q
    by_cases ht : t = 0
    · rw [if_pos ht]
      obtain ⟨h3, h4⟩ := g1 ht
      exact ih w2 h3 (Nat.lt_of_lt_of_le h4 (Nat.le_of_lt_succ h2))
    · rw [if_neg ht]
      exact ⟨_, rfl, g2 ht⟩
theorem L_Po_smallestBeatingSet_11 (E : Ev) {I : Mm → Int → Int → Prop} {μ : Mm → Int → Int → Nat} {Q : (Nat × Int × Int × Mm) → Prop} (hb : ∀ M x1 x2, I M x1 x2 → Ok (Po_smallestBeatingSet_11b E M x1 x2) (fun r => (r.1 = 0 → I r.2.2.2 r.2.1 r.2.2.1 ∧ μ r.2.2.2 r.2.1 r.2.2.1 < μ M x1 x2) ∧ (r.1 ≠ 0 → Q r))) : ∀ (fu : Nat) (M : Mm) (x1 : Int) (x2 : Int), I M x1 x2 → μ M x1 x2 < fu → Ok (l_Po_smallestBeatingSet_11 E fu M x1 x2) Q := by
  intro fu
  induction fu with
  | zero => intro M x1 x2 h1 h2; exact absurd h2 (Nat.not_lt_zero _)
  | succ fu ih =>
    intro M x1 x2 h1 h2
    obtain ⟨⟨t, w1, w2, N⟩, e, g1, g2⟩ := hb M x1 x2 h1
    rw [l_Po_smallestBeatingSet_11, e]
    show Ok (if t = 0 then l_Po_smallestBeatingSet_11 E fu N w1 w2 else some (t, w1, w2, N)) Q
    by_cases ht : t = 0
    · rw [if_pos ht]
      obtain ⟨h3, h4⟩ := g1 ht
      exact ih N w1 w2 h3 (Nat.lt_of_lt_of_le h4 (Nat.le_of_lt_succ h2))
    · rw [if_neg ht]
      exact ⟨_, rfl, g2 ht⟩
theorem L_La_way_D0_6 (E : Ev) (q0 : Nat) (x1 : Int) (x2 : Int) (x3 : Int) (M : Mm) {I : Int → Int → Prop} {μ : Int → Int → Nat} {Q : (Nat × Int × Int) → Prop} (hb : ∀ x4 x5, I x4 x5 → Ok (La_way_D0_6b E M q0 x1 x2 x3 x4 x5) (fun r => (r.1 = 0 → I r.2.1 r.2.2 ∧ μ r.2.1 r.2.2 < μ x4 x5) ∧ (r.1 ≠ 0 → Q r))) : ∀ (fu : Nat) (x4 : Int) (x5 : Int), I x4 x5 → μ x4 x5 < fu → Ok (l_La_way_D0_6 E q0 x1 x2 x3 fu M x4 x5) Q := by
  intro fu
  induction fu with
  | zero => intro x4 x5 h1 h2; exact absurd h2 (Nat.not_lt_zero _)
  | succ fu ih =>
    intro x4 x5 h1 h2
    obtain ⟨⟨t, w4, w5⟩, e, g1, g2⟩ := hb x4 x5 h1
    rw [l_La_way_D0_6, e]
    show Ok (if t = 0 then l_La_way_D0_6 E q0 x1 x2 x3 fu M w4 w5 else some (t, w4, w5)) Q
    by_cases ht : t = 0
    · rw [if_pos ht]
      obtain ⟨h3, h4⟩ := g1 ht
      exact ih w4 w5 h3 (Nat.lt_of_lt_of_le h4 (Nat.le_of_lt_succ h2))
    · rw [if_neg ht]
      exact ⟨_, rfl, g2 ht⟩
theorem L_La_way_D1_6 (E : Ev) (q0 : Nat) (x1 : Int) (x2 : Int) (x3 : Int) (M : Mm) {I : Int → Int → Prop} {μ : Int → Int → Nat} {Q : (Nat × Int × Int) → Prop} (hb : ∀ x4 x5, I x4 x5 → Ok (La_way_D1_6b E M q0 x1 x2 x3 x4 x5) (fun r => (r.1 = 0 → I r.2.1 r.2.2 ∧ μ r.2.1 r.2.2 < μ x4 x5) ∧ (r.1 ≠ 0 → Q r))) : ∀ (fu : Nat) (x4 : Int) (x5 : Int), I x4 x5 → μ x4 x5 < fu → Ok (l_La_way_D1_6 E q0 x1 x2 x3 fu M x4 x5) Q := by
  intro fu
  induction fu with
  | zero => intro x4 x5 h1 h2; exact absurd h2 (Nat.not_lt_zero _)
  | succ fu ih =>
    intro x4 x5 h1 h2
    obtain ⟨⟨t, w4, w5⟩, e, g1, g2⟩ := hb x4 x5 h1
    rw [l_La_way_D1_6, e]
    show Ok (if t = 0 then l_La_way_D1_6 E q0 x1 x2 x3 fu M w4 w5 else some (t, w4, w5)) Q
    by_cases ht : t = 0
    · rw [if_pos ht]
      obtain ⟨h3, h4⟩ := g1 ht
      exact ih w4 w5 h3 (Nat.lt_of_lt_of_le h4 (Nat.le_of_lt_succ h2))
    · rw [if_neg ht]
      exact ⟨_, rfl, g2 ht⟩
theorem L_La_way_D2_6 (E : Ev) (q0 : Nat) (x1 : Int) (x2 : Int) (x3 : Int) (M : Mm) {I : Int → Int → Prop} {μ : Int → Int → Nat} {Q : (Nat × Int × Int) → Prop} (hb : ∀ x4 x5, I x4 x5 → Ok (La_way_D2_6b E M q0 x1 x2 x3 x4 x5) (fun r => (r.1 = 0 → I r.2.1 r.2.2 ∧ μ r.2.1 r.2.2 < μ x4 x5) ∧ (r.1 ≠ 0 → Q r))) : ∀ (fu : Nat) (x4 : Int) (x5 : Int), I x4 x5 → μ x4 x5 < fu → Ok (l_La_way_D2_6 E q0 x1 x2 x3 fu M x4 x5) Q := by
  intro fu
  induction fu with
  | zero => intro x4 x5 h1 h2; exact absurd h2 (Nat.not_lt_zero _)
  | succ fu ih =>
    intro x4 x5 h1 h2
    obtain ⟨⟨t, w4, w5⟩, e, g1, g2⟩ := hb x4 x5 h1
    rw [l_La_way_D2_6, e]
    show Ok (if t = 0 then l_La_way_D2_6 E q0 x1 x2 x3 fu M w4 w5 else some (t, w4, w5)) Q
    by_cases ht : t = 0
    · rw [if_pos ht]
      obtain ⟨h3, h4⟩ := g1 ht
      exact ih w4 w5 h3 (Nat.lt_of_lt_of_le h4 (Nat.le_of_lt_succ h2))
    · rw [if_neg ht]
      exact ⟨_, rfl, g2 ht⟩
theorem L_La_way_D3_6 (E : Ev) (q0 : Nat) (x1 : Int) (x2 : Int) (x3 : Int) (M : Mm) {I : Int → Int → Prop} {μ : Int → Int → Nat} {Q : (Nat × Int × Int) → Prop} (hb : ∀ x4 x5, I x4 x5 → Ok (La_way_D3_6b E M q0 x1 x2 x3 x4 x5) (fun r => (r.1 = 0 → I r.2.1 r.2.2 ∧ μ r.2.1 r.2.2 < μ x4 x5) ∧ (r.1 ≠ 0 → Q r))) : ∀ (fu : Nat) (x4 : Int) (x5 : Int), I x4 x5 → μ x4 x5 < fu → Ok (l_La_way_D3_6 E q0 x1 x2 x3 fu M x4 x5) Q := by
  intro fu
  induction fu with
  | zero => intro x4 x5 h1 h2; exact absurd h2 (Nat.not_lt_zero _)
  | succ fu ih =>
    intro x4 x5 h1 h2
    obtain ⟨⟨t, w4, w5⟩, e, g1, g2⟩ := hb x4 x5 h1
    rw [l_La_way_D3_6, e]
    show Ok (if t = 0 then l_La_way_D3_6 E q0 x1 x2 x3 fu M w4 w5 else some (t, w4, w5)) Q
    by_cases ht : t = 0
    · rw [if_pos ht]
      obtain ⟨h3, h4⟩ := g1 ht
      exact ih w4 w5 h3 (Nat.lt_of_lt_of_le h4 (Nat.le_of_lt_succ h2))
    · rw [if_neg ht]
      exact ⟨_, rfl, g2 ht⟩
theorem L_Po_widenPaths_10 (E : Ev) (x1 : Int) (x2 : Int) (x3 : Int) {I : Mm → Int → Prop} {μ : Mm → Int → Nat} {Q : (Nat × Int × Mm) → Prop} (hb : ∀ M x4, I M x4 → Ok (Po_widenPaths_10b E M x1 x2 x3 x4) (fun r => (r.1 = 0 → I r.2.2 r.2.1 ∧ μ r.2.2 r.2.1 < μ M x4) ∧ (r.1 ≠ 0 → Q r))) : ∀ (fu : Nat) (M : Mm) (x4 : Int), I M x4 → μ M x4 < fu → Ok (l_Po_widenPaths_10 E x1 x2 x3 fu M x4) Q := by
  intro fu
  induction fu with
  | zero => intro M x4 h1 h2; exact absurd h2 (Nat.not_lt_zero _)
  | succ fu ih =>
    intro M x4 h1 h2
    obtain ⟨⟨t, w4, N⟩, e, g1, g2⟩ := hb M x4 h1
    rw [l_Po_widenPaths_10, e]
    show Ok (if t = 0 then l_Po_widenPaths_10 E x1 x2 x3 fu N w4 else some (t, w4, N)) Q
    by_cases ht : t = 0
    · rw [if_pos ht]
      obtain ⟨h3, h4⟩ := g1 ht
      exact ih N w4 h3 (Nat.lt_of_lt_of_le h4 (Nat.le_of_lt_succ h2))
    · rw [if_neg ht]
      exact ⟨_, rfl, g2 ht⟩
theorem L_Po_findPaths_15 (E : Ev) (x1 : Int) {I : Mm → Int → Prop} {μ : Mm → Int → Nat} {Q : (Nat × Int × Mm) → Prop} (hb : ∀ M x2, I M x2 → Ok (Po_findPaths_15b E M x1 x2) (fun r => (r.1 = 0 → I r.2.2 r.2.1 ∧ μ r.2.2 r.2.1 < μ M x2) ∧ (r.1 ≠ 0 → Q r))) : ∀ (fu : Nat) (M : Mm) (x2 : Int), I M x2 → μ M x2 < fu → Ok (l_Po_findPaths_15 E x1 fu M x2) Q := by
  intro fu
  induction fu with
  | zero => intro M x2 h1 h2; exact absurd h2 (Nat.not_lt_zero _)
  | succ fu ih =>
    intro M x2 h1 h2
    obtain ⟨⟨t, w2, N⟩, e, g1, g2⟩ := hb M x2 h1
    rw [l_Po_findPaths_15, e]
    show Ok (if t = 0 then l_Po_findPaths_15 E x1 fu N w2 else some (t, w2, N)) Q
    by_cases ht : t = 0
    · rw [if_pos ht]
      obtain ⟨h3, h4⟩ := g1 ht
      exact ih N w2 h3 (Nat.lt_of_lt_of_le h4 (Nat.le_of_lt_succ h2))
    · rw [if_neg ht]
      exact ⟨_, rfl, g2 ht⟩
theorem L_Po_findPaths_2 (E : Ev) {I : Mm → Int → Prop} {μ : Mm → Int → Nat} {Q : (Nat × Int × Mm) → Prop} (hb : ∀ M x1, I M x1 → Ok (Po_findPaths_2b E M x1) (fun r => (r.1 = 0 → I r.2.2 r.2.1 ∧ μ r.2.2 r.2.1 < μ M x1) ∧ (r.1 ≠ 0 → Q r))) : ∀ (fu : Nat) (M : Mm) (x1 : Int), I M x1 → μ M x1 < fu → Ok (l_Po_findPaths_2 E fu M x1) Q := by
  intro fu
  induction fu with
  | zero => intro M x1 h1 h2; exact absurd h2 (Nat.not_lt_zero _)
  | succ fu ih =>
    intro M x1 h1 h2
    obtain ⟨⟨t, w1, N⟩, e, g1, g2⟩ := hb M x1 h1
    rw [l_Po_findPaths_2, e]
    show Ok (if t = 0 then l_Po_findPaths_2 E fu N w1 else some (t, w1, N)) Q
    by_cases ht : t = 0
    · rw [if_pos ht]
      obtain ⟨h3, h4⟩ := g1 ht
      exact ih N w1 h3 (Nat.lt_of_lt_of_le h4 (Nat.le_of_lt_succ h2))
    · rw [if_neg ht]
      exact ⟨_, rfl, g2 ht⟩
theorem L_Po_findPaths_83 (E : Ev) (x1 : Int) {I : Mm → Int → Prop} {μ : Mm → Int → Nat} {Q : (Nat × Int × Mm) → Prop} (hb : ∀ M x2, I M x2 → Ok (Po_findPaths_83b E M x1 x2) (fun r => (r.1 = 0 → I r.2.2 r.2.1 ∧ μ r.2.2 r.2.1 < μ M x2) ∧ (r.1 ≠ 0 → Q r))) : ∀ (fu : Nat) (M : Mm) (x2 : Int), I M x2 → μ M x2 < fu → Ok (l_Po_findPaths_83 E x1 fu M x2) Q := by
  intro fu
  induction fu with
  | zero => intro M x2 h1 h2; exact absurd h2 (Nat.not_lt_zero _)
  | succ fu ih =>
    intro M x2 h1 h2
    obtain ⟨⟨t, w2, N⟩, e, g1, g2⟩ := hb M x2 h1
    rw [l_Po_findPaths_83, e]
    show Ok (if t = 0 then l_Po_findPaths_83 E x1 fu N w2 else some (t, w2, N)) Q
    by_cases ht : t = 0
    · rw [if_pos ht]
      obtain ⟨h3, h4⟩ := g1 ht
      exact ih N w2 h3 (Nat.lt_of_lt_of_le h4 (Nat.le_of_lt_succ h2))
    · rw [if_neg ht]
      exact ⟨_, rfl, g2 ht⟩
theorem L_Po_findPaths_70 (E : Ev) {I : Mm → Int → Prop} {μ : Mm → Int → Nat} {Q : (Nat × Int × Mm) → Prop} (hb : ∀ M x1, I M x1 → Ok (Po_findPaths_70b E M x1) (fun r => (r.1 = 0 → I r.2.2 r.2.1 ∧ μ r.2.2 r.2.1 < μ M x1) ∧ (r.1 ≠ 0 → Q r))) : ∀ (fu : Nat) (M : Mm) (x1 : Int), I M x1 → μ M x1 < fu → Ok (l_Po_findPaths_70 E fu M x1) Q := by
  intro fu
  induction fu with
  | zero => intro M x1 h1 h2; exact absurd h2 (Nat.not_lt_zero _)
  | succ fu ih =>
    intro M x1 h1 h2
    obtain ⟨⟨t, w1, N⟩, e, g1, g2⟩ := hb M x1 h1
    rw [l_Po_findPaths_70, e]
    show Ok (if t = 0 then l_Po_findPaths_70 E fu N w1 else some (t, w1, N)) Q
    by_cases ht : t = 0
    · rw [if_pos ht]
      obtain ⟨h3, h4⟩ := g1 ht
      exact ih N w1 h3 (Nat.lt_of_lt_of_le h4 (Nat.le_of_lt_succ h2))
    · rw [if_neg ht]
      exact ⟨_, rfl, g2 ht⟩
theorem L_Po_beaterOfAll_6 (E : Ev) {I : Mm → Int → Prop} {μ : Mm → Int → Nat} {Q : (Nat × Int × Mm) → Prop} (hb : ∀ M x1, I M x1 → Ok (Po_beaterOfAll_6b E M x1) (fun r => (r.1 = 0 → I r.2.2 r.2.1 ∧ μ r.2.2 r.2.1 < μ M x1) ∧ (r.1 ≠ 0 → Q r))) : ∀ (fu : Nat) (M : Mm) (x1 : Int), I M x1 → μ M x1 < fu → Ok (l_Po_beaterOfAll_6 E fu M x1) Q := by
  intro fu
  induction fu with
  | zero => intro M x1 h1 h2; exact absurd h2 (Nat.not_lt_zero _)
  | succ fu ih =>
    intro M x1 h1 h2
    obtain ⟨⟨t, w1, N⟩, e, g1, g2⟩ := hb M x1 h1
    rw [l_Po_beaterOfAll_6, e]
    show Ok (if t = 0 then l_Po_beaterOfAll_6 E fu N w1 else some (t, w1, N)) Q
    by_cases ht : t = 0
    · rw [if_pos ht]
      obtain ⟨h3, h4⟩ := g1 ht
      exact ih N w1 h3 (Nat.lt_of_lt_of_le h4 (Nat.le_of_lt_succ h2))
    · rw [if_neg ht]
      exact ⟨_, rfl, g2 ht⟩
theorem L_Po_distanceWithFirst_19 (E : Ev) (x2 : Int) (x3 : Int) (M : Mm) {I : Int → Int → Prop} {μ : Int → Int → Nat} {Q : (Nat × Int × Int) → Prop} (hb : ∀ x4 x6, I x4 x6 → Ok (Po_distanceWithFirst_19b E M x2 x3 x4 x6) (fun r => (r.1 = 0 → I r.2.1 r.2.2 ∧ μ r.2.1 r.2.2 < μ x4 x6) ∧ (r.1 ≠ 0 → Q r))) : ∀ (fu : Nat) (x4 : Int) (x6 : Int), I x4 x6 → μ x4 x6 < fu → Ok (l_Po_distanceWithFirst_19 E x2 x3 fu M x4 x6) Q := by
  intro fu
  induction fu with
  | zero => intro x4 x6 h1 h2; exact absurd h2 (Nat.not_lt_zero _)
  | succ fu ih =>
    intro x4 x6 h1 h2
    obtain ⟨⟨t, w4, w6⟩, e, g1, g2⟩ := hb x4 x6 h1
    rw [l_Po_distanceWithFirst_19, e]
    show Ok (if t = 0 then l_Po_distanceWithFirst_19 E x2 x3 fu M w4 w6 else some (t, w4, w6)) Q
    by_cases ht : t = 0
    · rw [if_pos ht]
      obtain ⟨h3, h4⟩ := g1 ht
      exact ih w4 w6 h3 (Nat.lt_of_lt_of_le h4 (Nat.le_of_lt_succ h2))
    · rw [if_neg ht]
      exact ⟨_, rfl, g2 ht⟩
theorem L_Po_findDistances_24 (E : Ev) (x1 : Int) {I : Mm → Int → Int → Prop} {μ : Mm → Int → Int → Nat} {Q : (Nat × Int × Int × Mm) → Prop} (hb : ∀ M x2 x4, I M x2 x4 → Ok (Po_findDistances_24b E M x1 x2 x4) (fun r => (r.1 = 0 → I r.2.2.2 r.2.1 r.2.2.1 ∧ μ r.2.2.2 r.2.1 r.2.2.1 < μ M x2 x4) ∧ (r.1 ≠ 0 → Q r))) : ∀ (fu : Nat) (M : Mm) (x2 : Int) (x4 : Int), I M x2 x4 → μ M x2 x4 < fu → Ok (l_Po_findDistances_24 E x1 fu M x2 x4) Q := by
  intro fu
  induction fu with
  | zero => intro M x2 x4 h1 h2; exact absurd h2 (Nat.not_lt_zero _)
  | succ fu ih =>
    intro M x2 x4 h1 h2
    obtain ⟨⟨t, w2, w4, N⟩, e, g1, g2⟩ := hb M x2 x4 h1
    rw [l_Po_findDistances_24, e]
    show Ok (if t = 0 then l_Po_findDistances_24 E x1 fu N w2 w4 else some (t, w2, w4, N)) Q
    by_cases ht : t = 0
    · rw [if_pos ht]
      obtain ⟨h3, h4⟩ := g1 ht
      exact ih N w2 w4 h3 (Nat.lt_of_lt_of_le h4 (Nat.le_of_lt_succ h2))
    · rw [if_neg ht]
      exact ⟨_, rfl, g2 ht⟩
theorem L_Po_findDistances_9 (E : Ev) {I : Mm → Int → Prop} {μ : Mm → Int → Nat} {Q : (Nat × Int × Mm) → Prop} (hb : ∀ M x1, I M x1 → Ok (Po_findDistances_9b E M x1) (fun r => (r.1 = 0 → I r.2.2 r.2.1 ∧ μ r.2.2 r.2.1 < μ M x1) ∧ (r.1 ≠ 0 → Q r))) : ∀ (fu : Nat) (M : Mm) (x1 : Int), I M x1 → μ M x1 < fu → Ok (l_Po_findDistances_9 E fu M x1) Q := by
  intro fu
  induction fu with
  | zero => intro M x1 h1 h2; exact absurd h2 (Nat.not_lt_zero _)
  | succ fu ih =>
    intro M x1 h1 h2
    obtain ⟨⟨t, w1, N⟩, e, g1, g2⟩ := hb M x1 h1
    rw [l_Po_findDistances_9, e]
    show Ok (if t = 0 then l_Po_findDistances_9 E fu N w1 else some (t, w1, N)) Q
    by_cases ht : t = 0
    · rw [if_pos ht]
      obtain ⟨h3, h4⟩ := g1 ht
      exact ih N w1 h3 (Nat.lt_of_lt_of_le h4 (Nat.le_of_lt_succ h2))
    · rw [if_neg ht]
      exact ⟨_, rfl, g2 ht⟩
theorem L_Po_firstOfConsensus_2 (E : Ev) (x1 : Int) (M : Mm) {I : Int → Prop} {μ : Int → Nat} {Q : (Nat × Int) → Prop} (hb : ∀ x2, I x2 → Ok (Po_firstOfConsensus_2b E M x1 x2) (fun r => (r.1 = 0 → I r.2 ∧ μ r.2 < μ x2) ∧ (r.1 ≠ 0 → Q r))) : ∀ (fu : Nat) (x2 : Int), I x2 → μ x2 < fu → Ok (l_Po_firstOfConsensus_2 E x1 fu M x2) Q := by
  intro fu
  induction fu with
  | zero => intro x2 h1 h2; exact absurd h2 (Nat.not_lt_zero _)
  | succ fu ih =>
    intro x2 h1 h2
    obtain ⟨⟨t, w2⟩, e, g1, g2⟩ := hb x2 h1
    rw [l_Po_firstOfConsensus_2, e]
    show Ok (if t = 0 then l_Po_firstOfConsensus_2 E x1 fu M w2 else some (t, w2)) Q
    by_cases ht : t = 0
    · rw [if_pos ht]
      obtain ⟨h3, h4⟩ := g1 ht
      exact ih w2 h3 (Nat.lt_of_lt_of_le h4 (Nat.le_of_lt_succ h2))
    · rw [if_neg ht]
      exact ⟨_, rfl, g2 ht⟩
theorem L_Po_consensusPlace_10 (E : Ev) (x1 : Int) (M : Mm) {I : Int → Int → Int → Prop} {μ : Int → Int → Int → Nat} {Q : (Nat × Int × Int × Int) → Prop} (hb : ∀ x2 x3 x4, I x2 x3 x4 → Ok (Po_consensusPlace_10b E M x1 x2 x3 x4) (fun r => (r.1 = 0 → I r.2.1 r.2.2.1 r.2.2.2 ∧ μ r.2.1 r.2.2.1 r.2.2.2 < μ x2 x3 x4) ∧ (r.1 ≠ 0 → Q r))) : ∀ (fu : Nat) (x2 : Int) (x3 : Int) (x4 : Int), I x2 x3 x4 → μ x2 x3 x4 < fu → Ok (l_Po_consensusPlace_10 E x1 fu M x2 x3 x4) Q := by
  intro fu
  induction fu with
  | zero => intro x2 x3 x4 h1 h2; exact absurd h2 (Nat.not_lt_zero _)
  | succ fu ih =>
    intro x2 x3 x4 h1 h2
    obtain ⟨⟨t, w2, w3, w4⟩, e, g1, g2⟩ := hb x2 x3 x4 h1
    rw [l_Po_consensusPlace_10, e]
    show Ok (if t = 0 then l_Po_consensusPlace_10 E x1 fu M w2 w3 w4 else some (t, w2, w3, w4)) Q
    by_cases ht : t = 0
    · rw [if_pos ht]
      obtain ⟨h3, h4⟩ := g1 ht
      exact ih w2 w3 w4 h3 (Nat.lt_of_lt_of_le h4 (Nat.le_of_lt_succ h2))
    · rw [if_neg ht]
      exact ⟨_, rfl, g2 ht⟩
theorem L_Po_winnersByPaths_24 (E : Ev) (x2 : Int) {I : Mm → Int → Int → Prop} {μ : Mm → Int → Int → Nat} {Q : (Nat × Int × Int × Mm) → Prop} (hb : ∀ M x1 x3, I M x1 x3 → Ok (Po_winnersByPaths_24b E M x2 x1 x3) (fun r => (r.1 = 0 → I r.2.2.2 r.2.1 r.2.2.1 ∧ μ r.2.2.2 r.2.1 r.2.2.1 < μ M x1 x3) ∧ (r.1 ≠ 0 → Q r))) : ∀ (fu : Nat) (M : Mm) (x1 : Int) (x3 : Int), I M x1 x3 → μ M x1 x3 < fu → Ok (l_Po_winnersByPaths_24 E x2 fu M x1 x3) Q := by
  intro fu
  induction fu with
  | zero => intro M x1 x3 h1 h2; exact absurd h2 (Nat.not_lt_zero _)
  | succ fu ih =>
    intro M x1 x3 h1 h2
    obtain ⟨⟨t, w1, w3, N⟩, e, g1, g2⟩ := hb M x1 x3 h1
    rw [l_Po_winnersByPaths_24, e]
    show Ok (if t = 0 then l_Po_winnersByPaths_24 E x2 fu N w1 w3 else some (t, w1, w3, N)) Q
    by_cases ht : t = 0
    · rw [if_pos ht]
      obtain ⟨h3, h4⟩ := g1 ht
      exact ih N w1 w3 h3 (Nat.lt_of_lt_of_le h4 (Nat.le_of_lt_succ h2))
    · rw [if_neg ht]
      exact ⟨_, rfl, g2 ht⟩
theorem L_Po_winnersByPaths_11 (E : Ev) {I : Mm → Int → Int → Prop} {μ : Mm → Int → Int → Nat} {Q : (Nat × Int × Int × Mm) → Prop} (hb : ∀ M x1 x2, I M x1 x2 → Ok (Po_winnersByPaths_11b E M x1 x2) (fun r => (r.1 = 0 → I r.2.2.2 r.2.1 r.2.2.1 ∧ μ r.2.2.2 r.2.1 r.2.2.1 < μ M x1 x2) ∧ (r.1 ≠ 0 → Q r))) : ∀ (fu : Nat) (M : Mm) (x1 : Int) (x2 : Int), I M x1 x2 → μ M x1 x2 < fu → Ok (l_Po_winnersByPaths_11 E fu M x1 x2) Q := by
  intro fu
  induction fu with
  | zero => intro M x1 x2 h1 h2; exact absurd h2 (Nat.not_lt_zero _)
  | succ fu ih =>
    intro M x1 x2 h1 h2
    obtain ⟨⟨t, w1, w2, N⟩, e, g1, g2⟩ := hb M x1 x2 h1
    rw [l_Po_winnersByPaths_11, e]
    show Ok (if t = 0 then l_Po_winnersByPaths_11 E fu N w1 w2 else some (t, w1, w2, N)) Q
    by_cases ht : t = 0
    · rw [if_pos ht]
      obtain ⟨h3, h4⟩ := g1 ht
      exact ih N w1 w2 h3 (Nat.lt_of_lt_of_le h4 (Nat.le_of_lt_succ h2))
    · rw [if_neg ht]
      exact ⟨_, rfl, g2 ht⟩
theorem L_La_pairs_30 (q1 : Nat) (q2 : Nat) (x4 : Int) {I : Ev → Mm → Int → Int → Prop} {μ : Ev → Mm → Int → Int → Nat} {Q : (Nat × Int × Int × Ev × Mm) → Prop} (hb : ∀ E M x3 x5, I E M x3 x5 → Ok (La_pairs_30b E M q1 q2 x4 x3 x5) (fun r => (r.1 = 0 → I r.2.2.2.1 r.2.2.2.2 r.2.1 r.2.2.1 ∧ μ r.2.2.2.1 r.2.2.2.2 r.2.1 r.2.2.1 < μ E M x3 x5) ∧ (r.1 ≠ 0 → Q r))) : ∀ (fu : Nat) (E : Ev) (M : Mm) (x3 : Int) (x5 : Int), I E M x3 x5 → μ E M x3 x5 < fu → Ok (l_La_pairs_30 q1 q2 x4 fu E M x3 x5) Q := by
  intro fu
  induction fu with
  | zero => intro E M x3 x5 h1 h2; exact absurd h2 (Nat.not_lt_zero _)
  | succ fu ih =>
    intro E M x3 x5 h1 h2
    obtain ⟨⟨t, w3, w5, F, N⟩, e, g1, g2⟩ := hb E M x3 x5 h1
    rw [l_La_pairs_30, e]
    show Ok (if t = 0 then l_La_pairs_30 q1 q2 x4 fu F N w3 w5 else some (t, w3, w5, F, N)) Q
    by_cases ht : t = 0
    · rw [if_pos ht]
      obtain ⟨h3, h4⟩ := g1 ht
      exact ih F N w3 w5 h3 (Nat.lt_of_lt_of_le h4 (Nat.le_of_lt_succ h2))
    · rw [if_neg ht]
      exact ⟨_, rfl, g2 ht⟩
theorem L_La_pairs_18 (q1 : Nat) (q2 : Nat) {I : Ev → Mm → Int → Int → Prop} {μ : Ev → Mm → Int → Int → Nat} {Q : (Nat × Int × Int × Ev × Mm) → Prop} (hb : ∀ E M x3 x4, I E M x3 x4 → Ok (La_pairs_18b E M q1 q2 x3 x4) (fun r => (r.1 = 0 → I r.2.2.2.1 r.2.2.2.2 r.2.1 r.2.2.1 ∧ μ r.2.2.2.1 r.2.2.2.2 r.2.1 r.2.2.1 < μ E M x3 x4) ∧ (r.1 ≠ 0 → Q r))) : ∀ (fu : Nat) (E : Ev) (M : Mm) (x3 : Int) (x4 : Int), I E M x3 x4 → μ E M x3 x4 < fu → Ok (l_La_pairs_18 q1 q2 fu E M x3 x4) Q := by
  intro fu
  induction fu with
  | zero => intro E M x3 x4 h1 h2; exact absurd h2 (Nat.not_lt_zero _)
  | succ fu ih =>
    intro E M x3 x4 h1 h2
    obtain ⟨⟨t, w3, w4, F, N⟩, e, g1, g2⟩ := hb E M x3 x4 h1
    rw [l_La_pairs_18, e]
    show Ok (if t = 0 then l_La_pairs_18 q1 q2 fu F N w3 w4 else some (t, w3, w4, F, N)) Q
    by_cases ht : t = 0
    · rw [if_pos ht]
      obtain ⟨h3, h4⟩ := g1 ht
      exact ih F N w3 w4 h3 (Nat.lt_of_lt_of_le h4 (Nat.le_of_lt_succ h2))
    · rw [if_neg ht]
      exact ⟨_, rfl, g2 ht⟩
theorem L_La_pairs_135 (q1 : Nat) (q2 : Nat) (x4 : Int) (x5 : Int) (x6 : Int) {I : Ev → Mm → Int → Int → Int → Int → Prop} {μ : Ev → Mm → Int → Int → Int → Int → Nat} {Q : (Nat × Int × Int × Int × Int × Ev × Mm) → Prop} (hb : ∀ E M x3 x7 x8 x9, I E M x3 x7 x8 x9 → Ok (La_pairs_135b E M q1 q2 x4 x5 x6 x3 x7 x8 x9) (fun r => (r.1 = 0 → I r.2.2.2.2.2.1 r.2.2.2.2.2.2 r.2.1 r.2.2.1 r.2.2.2.1 r.2.2.2.2.1 ∧ μ r.2.2.2.2.2.1 r.2.2.2.2.2.2 r.2.1 r.2.2.1 r.2.2.2.1 r.2.2.2.2.1 < μ E M x3 x7 x8 x9) ∧ (r.1 ≠ 0 → Q r))) : ∀ (fu : Nat) (E : Ev) (M : Mm) (x3 : Int) (x7 : Int) (x8 : Int) (x9 : Int), I E M x3 x7 x8 x9 → μ E M x3 x7 x8 x9 < fu → Ok (l_La_pairs_135 q1 q2 x4 x5 x6 fu E M x3 x7 x8 x9) Q := by
  intro fu
  induction fu with
  | zero => intro E M x3 x7 x8 x9 h1 h2; exact absurd h2 (Nat.not_lt_zero _)
  | succ fu ih =>
    intro E M x3 x7 x8 x9 h1 h2
    obtain ⟨⟨t, w3, w7, w8, w9, F, N⟩, e, g1, g2⟩ := hb E M x3 x7 x8 x9 h1
    rw [l_La_pairs_135, e]
    show Ok (if t = 0 then l_La_pairs_135 q1 q2 x4 x5 x6 fu F N w3 w7 w8 w9 else some (t, w3, w7, w8, w9, F, N)) Q
    by_cases ht : t = 0
    · rw [if_pos ht]
      obtain ⟨h3, h4⟩ := g1 ht
      exact ih F N w3 w7 w8 w9 h3 (Nat.lt_of_lt_of_le h4 (Nat.le_of_lt_succ h2))
    · rw [if_neg ht]
      exact ⟨_, rfl, g2 ht⟩
theorem L_La_pairs_117 (q1 : Nat) (q2 : Nat) (x4 : Int) {I : Ev → Mm → Int → Int → Int → Prop} {μ : Ev → Mm → Int → Int → Int → Nat} {Q : (Nat × Int × Int × Int × Ev × Mm) → Prop} (hb : ∀ E M x3 x5 x6, I E M x3 x5 x6 → Ok (La_pairs_117b E M q1 q2 x4 x3 x5 x6) (fun r => (r.1 = 0 → I r.2.2.2.2.1 r.2.2.2.2.2 r.2.1 r.2.2.1 r.2.2.2.1 ∧ μ r.2.2.2.2.1 r.2.2.2.2.2 r.2.1 r.2.2.1 r.2.2.2.1 < μ E M x3 x5 x6) ∧ (r.1 ≠ 0 → Q r))) : ∀ (fu : Nat) (E : Ev) (M : Mm) (x3 : Int) (x5 : Int) (x6 : Int), I E M x3 x5 x6 → μ E M x3 x5 x6 < fu → Ok (l_La_pairs_117 q1 q2 x4 fu E M x3 x5 x6) Q := by
  intro fu
  induction fu with
  | zero => intro E M x3 x5 x6 h1 h2; exact absurd h2 (Nat.not_lt_zero _)
  | succ fu ih =>
    intro E M x3 x5 x6 h1 h2
    obtain ⟨⟨t, w3, w5, w6, F, N⟩, e, g1, g2⟩ := hb E M x3 x5 x6 h1
    rw [l_La_pairs_117, e]
    show Ok (if t = 0 then l_La_pairs_117 q1 q2 x4 fu F N w3 w5 w6 else some (t, w3, w5, w6, F, N)) Q
    by_cases ht : t = 0
    · rw [if_pos ht]
      obtain ⟨h3, h4⟩ := g1 ht
      exact ih F N w3 w5 w6 h3 (Nat.lt_of_lt_of_le h4 (Nat.le_of_lt_succ h2))
    · rw [if_neg ht]
      exact ⟨_, rfl, g2 ht⟩
theorem L_La_pairs_444 (q1 : Nat) (q2 : Nat) (x8 : Int) (x9 : Int) {I : Ev → Mm → Int → Int → Prop} {μ : Ev → Mm → Int → Int → Nat} {Q : (Nat × Int × Int × Ev × Mm) → Prop} (hb : ∀ E M x6 x10, I E M x6 x10 → Ok (La_pairs_444b E M q1 q2 x8 x9 x6 x10) (fun r => (r.1 = 0 → I r.2.2.2.1 r.2.2.2.2 r.2.1 r.2.2.1 ∧ μ r.2.2.2.1 r.2.2.2.2 r.2.1 r.2.2.1 < μ E M x6 x10) ∧ (r.1 ≠ 0 → Q r))) : ∀ (fu : Nat) (E : Ev) (M : Mm) (x6 : Int) (x10 : Int), I E M x6 x10 → μ E M x6 x10 < fu → Ok (l_La_pairs_444 q1 q2 x8 x9 fu E M x6 x10) Q := by
  intro fu
  induction fu with
  | zero => intro E M x6 x10 h1 h2; exact absurd h2 (Nat.not_lt_zero _)
  | succ fu ih =>
    intro E M x6 x10 h1 h2
    obtain ⟨⟨t, w6, w10, F, N⟩, e, g1, g2⟩ := hb E M x6 x10 h1
    rw [l_La_pairs_444, e]
    show Ok (if t = 0 then l_La_pairs_444 q1 q2 x8 x9 fu F N w6 w10 else some (t, w6, w10, F, N)) Q
    by_cases ht : t = 0
    · rw [if_pos ht]
      obtain ⟨h3, h4⟩ := g1 ht
      exact ih F N w6 w10 h3 (Nat.lt_of_lt_of_le h4 (Nat.le_of_lt_succ h2))
    · rw [if_neg ht]
      exact ⟨_, rfl, g2 ht⟩
theorem L_La_pairs_417 (q1 : Nat) (q2 : Nat) {I : Ev → Mm → Int → Int → Int → Prop} {μ : Ev → Mm → Int → Int → Int → Nat} {Q : (Nat × Int × Int × Int × Ev × Mm) → Prop} (hb : ∀ E M x3 x6 x8, I E M x3 x6 x8 → Ok (La_pairs_417b E M q1 q2 x3 x6 x8) (fun r => (r.1 = 0 → I r.2.2.2.2.1 r.2.2.2.2.2 r.2.1 r.2.2.1 r.2.2.2.1 ∧ μ r.2.2.2.2.1 r.2.2.2.2.2 r.2.1 r.2.2.1 r.2.2.2.1 < μ E M x3 x6 x8) ∧ (r.1 ≠ 0 → Q r))) : ∀ (fu : Nat) (E : Ev) (M : Mm) (x3 : Int) (x6 : Int) (x8 : Int), I E M x3 x6 x8 → μ E M x3 x6 x8 < fu → Ok (l_La_pairs_417 q1 q2 fu E M x3 x6 x8) Q := by
  intro fu
  induction fu with
  | zero => intro E M x3 x6 x8 h1 h2; exact absurd h2 (Nat.not_lt_zero _)
  | succ fu ih =>
    intro E M x3 x6 x8 h1 h2
    obtain ⟨⟨t, w3, w6, w8, F, N⟩, e, g1, g2⟩ := hb E M x3 x6 x8 h1
    rw [l_La_pairs_417, e]
    show Ok (if t = 0 then l_La_pairs_417 q1 q2 fu F N w3 w6 w8 else some (t, w3, w6, w8, F, N)) Q
    by_cases ht : t = 0
    · rw [if_pos ht]
      obtain ⟨h3, h4⟩ := g1 ht
      exact ih F N w3 w6 w8 h3 (Nat.lt_of_lt_of_le h4 (Nat.le_of_lt_succ h2))
    · rw [if_neg ht]
      exact ⟨_, rfl, g2 ht⟩
theorem L_Ar_fillL_6 (E : Ev) (q0 : Nat) (x1 : Int) (x4 : Int) {I : Mm → Int → Prop} {μ : Mm → Int → Nat} {Q : (Nat × Int × Mm) → Prop} (hb : ∀ M x3, I M x3 → Ok (Ar_fillL_6b E M q0 x1 x4 x3) (fun r => (r.1 = 0 → I r.2.2 r.2.1 ∧ μ r.2.2 r.2.1 < μ M x3) ∧ (r.1 ≠ 0 → Q r))) : ∀ (fu : Nat) (M : Mm) (x3 : Int), I M x3 → μ M x3 < fu → Ok (l_Ar_fillL_6 E q0 x1 x4 fu M x3) Q := by
  intro fu
  induction fu with
  | zero => intro M x3 h1 h2; exact absurd h2 (Nat.not_lt_zero _)
  | succ fu ih =>
    intro M x3 h1 h2
    obtain ⟨⟨t, w3, N⟩, e, g1, g2⟩ := hb M x3 h1
    rw [l_Ar_fillL_6, e]
    show Ok (if t = 0 then l_Ar_fillL_6 E q0 x1 x4 fu N w3 else some (t, w3, N)) Q
    by_cases ht : t = 0
    · rw [if_pos ht]
      obtain ⟨h3, h4⟩ := g1 ht
      exact ih N w3 h3 (Nat.lt_of_lt_of_le h4 (Nat.le_of_lt_succ h2))
    · rw [if_neg ht]
      exact ⟨_, rfl, g2 ht⟩
theorem L_Po_scoreTopsOf_10 (E : Ev) (x1 : Int) {I : Mm → Int → Prop} {μ : Mm → Int → Nat} {Q : (Nat × Int × Mm) → Prop} (hb : ∀ M x2, I M x2 → Ok (Po_scoreTopsOf_10b E M x1 x2) (fun r => (r.1 = 0 → I r.2.2 r.2.1 ∧ μ r.2.2 r.2.1 < μ M x2) ∧ (r.1 ≠ 0 → Q r))) : ∀ (fu : Nat) (M : Mm) (x2 : Int), I M x2 → μ M x2 < fu → Ok (l_Po_scoreTopsOf_10 E x1 fu M x2) Q := by
  intro fu
  induction fu with
  | zero => intro M x2 h1 h2; exact absurd h2 (Nat.not_lt_zero _)
  | succ fu ih =>
    intro M x2 h1 h2
    obtain ⟨⟨t, w2, N⟩, e, g1, g2⟩ := hb M x2 h1
    rw [l_Po_scoreTopsOf_10, e]
    show Ok (if t = 0 then l_Po_scoreTopsOf_10 E x1 fu N w2 else some (t, w2, N)) Q
    by_cases ht : t = 0
    · rw [if_pos ht]
      obtain ⟨h3, h4⟩ := g1 ht
      exact ih N w2 h3 (Nat.lt_of_lt_of_le h4 (Nat.le_of_lt_succ h2))
    · rw [if_neg ht]
      exact ⟨_, rfl, g2 ht⟩
theorem L_Po_smallestOf_4 (E : Ev) (x1 : Int) (M : Mm) {I : Int → Int → Prop} {μ : Int → Int → Nat} {Q : (Nat × Int × Int) → Prop} (hb : ∀ x2 x3, I x2 x3 → Ok (Po_smallestOf_4b E M x1 x2 x3) (fun r => (r.1 = 0 → I r.2.1 r.2.2 ∧ μ r.2.1 r.2.2 < μ x2 x3) ∧ (r.1 ≠ 0 → Q r))) : ∀ (fu : Nat) (x2 : Int) (x3 : Int), I x2 x3 → μ x2 x3 < fu → Ok (l_Po_smallestOf_4 E x1 fu M x2 x3) Q := by
  intro fu
  induction fu with
  | zero => intro x2 x3 h1 h2; exact absurd h2 (Nat.not_lt_zero _)
  | succ fu ih =>
    intro x2 x3 h1 h2
    obtain ⟨⟨t, w2, w3⟩, e, g1, g2⟩ := hb x2 x3 h1
    rw [l_Po_smallestOf_4, e]
    show Ok (if t = 0 then l_Po_smallestOf_4 E x1 fu M w2 w3 else some (t, w2, w3)) Q
    by_cases ht : t = 0
    · rw [if_pos ht]
      obtain ⟨h3, h4⟩ := g1 ht
      exact ih w2 w3 h3 (Nat.lt_of_lt_of_le h4 (Nat.le_of_lt_succ h2))
    · rw [if_neg ht]
      exact ⟨_, rfl, g2 ht⟩
theorem L_Po_bestByLot_4 (E : Ev) (x1 : Int) (M : Mm) {I : Int → Int → Prop} {μ : Int → Int → Nat} {Q : (Nat × Int × Int) → Prop} (hb : ∀ x2 x3, I x2 x3 → Ok (Po_bestByLot_4b E M x1 x2 x3) (fun r => (r.1 = 0 → I r.2.1 r.2.2 ∧ μ r.2.1 r.2.2 < μ x2 x3) ∧ (r.1 ≠ 0 → Q r))) : ∀ (fu : Nat) (x2 : Int) (x3 : Int), I x2 x3 → μ x2 x3 < fu → Ok (l_Po_bestByLot_4 E x1 fu M x2 x3) Q := by
  intro fu
  induction fu with
  | zero => intro x2 x3 h1 h2; exact absurd h2 (Nat.not_lt_zero _)
  | succ fu ih =>
    intro x2 x3 h1 h2
    obtain ⟨⟨t, w2, w3⟩, e, g1, g2⟩ := hb x2 x3 h1
    rw [l_Po_bestByLot_4, e]
    show Ok (if t = 0 then l_Po_bestByLot_4 E x1 fu M w2 w3 else some (t, w2, w3)) Q
    by_cases ht : t = 0
    · rw [if_pos ht]
      obtain ⟨h3, h4⟩ := g1 ht
      exact ih w2 w3 h3 (Nat.lt_of_lt_of_le h4 (Nat.le_of_lt_succ h2))
    · rw [if_neg ht]
      exact ⟨_, rfl, g2 ht⟩
theorem L_Po_lastOfRunoff_17 (E : Ev) (x2 : Int) {I : Mm → Int → Int → Prop} {μ : Mm → Int → Int → Nat} {Q : (Nat × Int × Int × Mm) → Prop} (hb : ∀ M x1 x3, I M x1 x3 → Ok (Po_lastOfRunoff_17b E M x2 x1 x3) (fun r => (r.1 = 0 → I r.2.2.2 r.2.1 r.2.2.1 ∧ μ r.2.2.2 r.2.1 r.2.2.1 < μ M x1 x3) ∧ (r.1 ≠ 0 → Q r))) : ∀ (fu : Nat) (M : Mm) (x1 : Int) (x3 : Int), I M x1 x3 → μ M x1 x3 < fu → Ok (l_Po_lastOfRunoff_17 E x2 fu M x1 x3) Q := by
  intro fu
  induction fu with
  | zero => intro M x1 x3 h1 h2; exact absurd h2 (Nat.not_lt_zero _)
  | succ fu ih =>
    intro M x1 x3 h1 h2
    obtain ⟨⟨t, w1, w3, N⟩, e, g1, g2⟩ := hb M x1 x3 h1
    rw [l_Po_lastOfRunoff_17, e]
    show Ok (if t = 0 then l_Po_lastOfRunoff_17 E x2 fu N w1 w3 else some (t, w1, w3, N)) Q
    by_cases ht : t = 0
    · rw [if_pos ht]
      obtain ⟨h3, h4⟩ := g1 ht
      exact ih N w1 w3 h3 (Nat.lt_of_lt_of_le h4 (Nat.le_of_lt_succ h2))
    · rw [if_neg ht]
      exact ⟨_, rfl, g2 ht⟩
theorem L_Po_pointsOf_5 (E : Ev) (x1 : Int) (M : Mm) {I : Int → Int → Prop} {μ : Int → Int → Nat} {Q : (Nat × Int × Int) → Prop} (hb : ∀ x2 x4, I x2 x4 → Ok (Po_pointsOf_5b E M x1 x2 x4) (fun r => (r.1 = 0 → I r.2.1 r.2.2 ∧ μ r.2.1 r.2.2 < μ x2 x4) ∧ (r.1 ≠ 0 → Q r))) : ∀ (fu : Nat) (x2 : Int) (x4 : Int), I x2 x4 → μ x2 x4 < fu → Ok (l_Po_pointsOf_5 E x1 fu M x2 x4) Q := by
  intro fu
  induction fu with
  | zero => intro x2 x4 h1 h2; exact absurd h2 (Nat.not_lt_zero _)
  | succ fu ih =>
    intro x2 x4 h1 h2
    obtain ⟨⟨t, w2, w4⟩, e, g1, g2⟩ := hb x2 x4 h1
    rw [l_Po_pointsOf_5, e]
    show Ok (if t = 0 then l_Po_pointsOf_5 E x1 fu M w2 w4 else some (t, w2, w4)) Q
    by_cases ht : t = 0
    · rw [if_pos ht]
      obtain ⟨h3, h4⟩ := g1 ht
      exact ih w2 w4 h3 (Nat.lt_of_lt_of_le h4 (Nat.le_of_lt_succ h2))
    · rw [if_neg ht]
      exact ⟨_, rfl, g2 ht⟩
theorem L_Po_findScores_2 (E : Ev) (x1 : Int) {I : Mm → Int → Prop} {μ : Mm → Int → Nat} {Q : (Nat × Int × Mm) → Prop} (hb : ∀ M x2, I M x2 → Ok (Po_findScores_2b E M x1 x2) (fun r => (r.1 = 0 → I r.2.2 r.2.1 ∧ μ r.2.2 r.2.1 < μ M x2) ∧ (r.1 ≠ 0 → Q r))) : ∀ (fu : Nat) (M : Mm) (x2 : Int), I M x2 → μ M x2 < fu → Ok (l_Po_findScores_2 E x1 fu M x2) Q := by
  intro fu
  induction fu with
  | zero => intro M x2 h1 h2; exact absurd h2 (Nat.not_lt_zero _)
  | succ fu ih =>
    intro M x2 h1 h2
    obtain ⟨⟨t, w2, N⟩, e, g1, g2⟩ := hb M x2 h1
    rw [l_Po_findScores_2, e]
    show Ok (if t = 0 then l_Po_findScores_2 E x1 fu N w2 else some (t, w2, N)) Q
    by_cases ht : t = 0
    · rw [if_pos ht]
      obtain ⟨h3, h4⟩ := g1 ht
      exact ih N w2 h3 (Nat.lt_of_lt_of_le h4 (Nat.le_of_lt_succ h2))
    · rw [if_neg ht]
      exact ⟨_, rfl, g2 ht⟩
theorem L_Po_greatestOf_4 (E : Ev) (x1 : Int) (M : Mm) {I : Int → Int → Prop} {μ : Int → Int → Nat} {Q : (Nat × Int × Int) → Prop} (hb : ∀ x2 x3, I x2 x3 → Ok (Po_greatestOf_4b E M x1 x2 x3) (fun r => (r.1 = 0 → I r.2.1 r.2.2 ∧ μ r.2.1 r.2.2 < μ x2 x3) ∧ (r.1 ≠ 0 → Q r))) : ∀ (fu : Nat) (x2 : Int) (x3 : Int), I x2 x3 → μ x2 x3 < fu → Ok (l_Po_greatestOf_4 E x1 fu M x2 x3) Q := by
  intro fu
  induction fu with
  | zero => intro x2 x3 h1 h2; exact absurd h2 (Nat.not_lt_zero _)
  | succ fu ih =>
    intro x2 x3 h1 h2
    obtain ⟨⟨t, w2, w3⟩, e, g1, g2⟩ := hb x2 x3 h1
    rw [l_Po_greatestOf_4, e]
    show Ok (if t = 0 then l_Po_greatestOf_4 E x1 fu M w2 w3 else some (t, w2, w3)) Q
    by_cases ht : t = 0
    · rw [if_pos ht]
      obtain ⟨h3, h4⟩ := g1 ht
      exact ih w2 w3 h3 (Nat.lt_of_lt_of_le h4 (Nat.le_of_lt_succ h2))
    · rw [if_neg ht]
      exact ⟨_, rfl, g2 ht⟩
theorem L_Fb_aheadOf_16 (E : Ev) (x1 : Int) (x4 : Int) (M : Mm) {I : Int → Int → Prop} {μ : Int → Int → Nat} {Q : (Nat × Int × Int) → Prop} (hb : ∀ x3 x5, I x3 x5 → Ok (Fb_aheadOf_16b E M x1 x4 x3 x5) (fun r => (r.1 = 0 → I r.2.1 r.2.2 ∧ μ r.2.1 r.2.2 < μ x3 x5) ∧ (r.1 ≠ 0 → Q r))) : ∀ (fu : Nat) (x3 : Int) (x5 : Int), I x3 x5 → μ x3 x5 < fu → Ok (l_Fb_aheadOf_16 E x1 x4 fu M x3 x5) Q := by
  intro fu
  induction fu with
  | zero => intro x3 x5 h1 h2; exact absurd h2 (Nat.not_lt_zero _)
  | succ fu ih =>
    intro x3 x5 h1 h2
    obtain ⟨⟨t, w3, w5⟩, e, g1, g2⟩ := hb x3 x5 h1
    rw [l_Fb_aheadOf_16, e]
    show Ok (if t = 0 then l_Fb_aheadOf_16 E x1 x4 fu M w3 w5 else some (t, w3, w5)) Q
    by_cases ht : t = 0
    · rw [if_pos ht]
      obtain ⟨h3, h4⟩ := g1 ht
      exact ih w3 w5 h3 (Nat.lt_of_lt_of_le h4 (Nat.le_of_lt_succ h2))
    · rw [if_neg ht]
      exact ⟨_, rfl, g2 ht⟩
theorem L_Fb_writeTrial_9 (E : Ev) {I : Mm → Int → Prop} {μ : Mm → Int → Nat} {Q : (Nat × Int × Mm) → Prop} (hb : ∀ M x1, I M x1 → Ok (Fb_writeTrial_9b E M x1) (fun r => (r.1 = 0 → I r.2.2 r.2.1 ∧ μ r.2.2 r.2.1 < μ M x1) ∧ (r.1 ≠ 0 → Q r))) : ∀ (fu : Nat) (M : Mm) (x1 : Int), I M x1 → μ M x1 < fu → Ok (l_Fb_writeTrial_9 E fu M x1) Q := by
  intro fu
  induction fu with
  | zero => intro M x1 h1 h2; exact absurd h2 (Nat.not_lt_zero _)
  | succ fu ih =>
    intro M x1 h1 h2
    obtain ⟨⟨t, w1, N⟩, e, g1, g2⟩ := hb M x1 h1
    rw [l_Fb_writeTrial_9, e]
    show Ok (if t = 0 then l_Fb_writeTrial_9 E fu N w1 else some (t, w1, N)) Q
    by_cases ht : t = 0
    · rw [if_pos ht]
      obtain ⟨h3, h4⟩ := g1 ht
      exact ih N w1 h3 (Nat.lt_of_lt_of_le h4 (Nat.le_of_lt_succ h2))
    · rw [if_neg ht]
      exact ⟨_, rfl, g2 ht⟩
theorem L_Fb_goToNextOrder_14 (E : Ev) (x1 : Int) {I : Mm → Int → Prop} {μ : Mm → Int → Nat} {Q : (Nat × Int × Mm) → Prop} (hb : ∀ M x2, I M x2 → Ok (Fb_goToNextOrder_14b E M x1 x2) (fun r => (r.1 = 0 → I r.2.2 r.2.1 ∧ μ r.2.2 r.2.1 < μ M x2) ∧ (r.1 ≠ 0 → Q r))) : ∀ (fu : Nat) (M : Mm) (x2 : Int), I M x2 → μ M x2 < fu → Ok (l_Fb_goToNextOrder_14 E x1 fu M x2) Q := by
  intro fu
  induction fu with
  | zero => intro M x2 h1 h2; exact absurd h2 (Nat.not_lt_zero _)
  | succ fu ih =>
    intro M x2 h1 h2
    obtain ⟨⟨t, w2, N⟩, e, g1, g2⟩ := hb M x2 h1
    rw [l_Fb_goToNextOrder_14, e]
    show Ok (if t = 0 then l_Fb_goToNextOrder_14 E x1 fu N w2 else some (t, w2, N)) Q
    by_cases ht : t = 0
    · rw [if_pos ht]
      obtain ⟨h3, h4⟩ := g1 ht
      exact ih N w2 h3 (Nat.lt_of_lt_of_le h4 (Nat.le_of_lt_succ h2))
    · rw [if_neg ht]
      exact ⟨_, rfl, g2 ht⟩
theorem L_Fb_goToNextOrder_48 (E : Ev) (x1 : Int) (x2 : Int) {I : Mm → Int → Prop} {μ : Mm → Int → Nat} {Q : (Nat × Int × Mm) → Prop} (hb : ∀ M x3, I M x3 → Ok (Fb_goToNextOrder_48b E M x1 x2 x3) (fun r => (r.1 = 0 → I r.2.2 r.2.1 ∧ μ r.2.2 r.2.1 < μ M x3) ∧ (r.1 ≠ 0 → Q r))) : ∀ (fu : Nat) (M : Mm) (x3 : Int), I M x3 → μ M x3 < fu → Ok (l_Fb_goToNextOrder_48 E x1 x2 fu M x3) Q := by
  intro fu
  induction fu with
  | zero => intro M x3 h1 h2; exact absurd h2 (Nat.not_lt_zero _)
  | succ fu ih =>
    intro M x3 h1 h2
    obtain ⟨⟨t, w3, N⟩, e, g1, g2⟩ := hb M x3 h1
    rw [l_Fb_goToNextOrder_48, e]
    show Ok (if t = 0 then l_Fb_goToNextOrder_48 E x1 x2 fu N w3 else some (t, w3, N)) Q
    by_cases ht : t = 0
    · rw [if_pos ht]
      obtain ⟨h3, h4⟩ := g1 ht
      exact ih N w3 h3 (Nat.lt_of_lt_of_le h4 (Nat.le_of_lt_succ h2))
    · rw [if_neg ht]
      exact ⟨_, rfl, g2 ht⟩
theorem L_Fb_goToNextOrder_88 (E : Ev) {I : Mm → Int → Int → Prop} {μ : Mm → Int → Int → Nat} {Q : (Nat × Int × Int × Mm) → Prop} (hb : ∀ M x4 x5, I M x4 x5 → Ok (Fb_goToNextOrder_88b E M x4 x5) (fun r => (r.1 = 0 → I r.2.2.2 r.2.1 r.2.2.1 ∧ μ r.2.2.2 r.2.1 r.2.2.1 < μ M x4 x5) ∧ (r.1 ≠ 0 → Q r))) : ∀ (fu : Nat) (M : Mm) (x4 : Int) (x5 : Int), I M x4 x5 → μ M x4 x5 < fu → Ok (l_Fb_goToNextOrder_88 E fu M x4 x5) Q := by
  intro fu
  induction fu with
  | zero => intro M x4 x5 h1 h2; exact absurd h2 (Nat.not_lt_zero _)
  | succ fu ih =>
    intro M x4 x5 h1 h2
    obtain ⟨⟨t, w4, w5, N⟩, e, g1, g2⟩ := hb M x4 x5 h1
    rw [l_Fb_goToNextOrder_88, e]
    show Ok (if t = 0 then l_Fb_goToNextOrder_88 E fu N w4 w5 else some (t, w4, w5, N)) Q
    by_cases ht : t = 0
    · rw [if_pos ht]
      obtain ⟨h3, h4⟩ := g1 ht
      exact ih N w4 w5 h3 (Nat.lt_of_lt_of_le h4 (Nat.le_of_lt_succ h2))
    · rw [if_neg ht]
      exact ⟨_, rfl, g2 ht⟩
theorem L_Fb_findOrder_2 (E : Ev) (x1 : Int) (x2 : Int) {I : Mm → Int → Prop} {μ : Mm → Int → Nat} {Q : (Nat × Int × Mm) → Prop} (hb : ∀ M x3, I M x3 → Ok (Fb_findOrder_2b E M x1 x2 x3) (fun r => (r.1 = 0 → I r.2.2 r.2.1 ∧ μ r.2.2 r.2.1 < μ M x3) ∧ (r.1 ≠ 0 → Q r))) : ∀ (fu : Nat) (M : Mm) (x3 : Int), I M x3 → μ M x3 < fu → Ok (l_Fb_findOrder_2 E x1 x2 fu M x3) Q := by
  intro fu
  induction fu with
  | zero => intro M x3 h1 h2; exact absurd h2 (Nat.not_lt_zero _)
  | succ fu ih =>
    intro M x3 h1 h2
    obtain ⟨⟨t, w3, N⟩, e, g1, g2⟩ := hb M x3 h1
    rw [l_Fb_findOrder_2, e]
    show Ok (if t = 0 then l_Fb_findOrder_2 E x1 x2 fu N w3 else some (t, w3, N)) Q
    by_cases ht : t = 0
    · rw [if_pos ht]
      obtain ⟨h3, h4⟩ := g1 ht
      exact ih N w3 h3 (Nat.lt_of_lt_of_le h4 (Nat.le_of_lt_succ h2))
    · rw [if_neg ht]
      exact ⟨_, rfl, g2 ht⟩
theorem L_Fb_findOrder_35 (E : Ev) (x1 : Int) (x2 : Int) (x3 : Int) {I : Mm → Int → Prop} {μ : Mm → Int → Nat} {Q : (Nat × Int × Mm) → Prop} (hb : ∀ M x5, I M x5 → Ok (Fb_findOrder_35b E M x1 x2 x3 x5) (fun r => (r.1 = 0 → I r.2.2 r.2.1 ∧ μ r.2.2 r.2.1 < μ M x5) ∧ (r.1 ≠ 0 → Q r))) : ∀ (fu : Nat) (M : Mm) (x5 : Int), I M x5 → μ M x5 < fu → Ok (l_Fb_findOrder_35 E x1 x2 x3 fu M x5) Q := by
  intro fu
  induction fu with
  | zero => intro M x5 h1 h2; exact absurd h2 (Nat.not_lt_zero _)
  | succ fu ih =>
    intro M x5 h1 h2
    obtain ⟨⟨t, w5, N⟩, e, g1, g2⟩ := hb M x5 h1
    rw [l_Fb_findOrder_35, e]
    show Ok (if t = 0 then l_Fb_findOrder_35 E x1 x2 x3 fu N w5 else some (t, w5, N)) Q
    by_cases ht : t = 0
    · rw [if_pos ht]
      obtain ⟨h3, h4⟩ := g1 ht
      exact ih N w5 h3 (Nat.lt_of_lt_of_le h4 (Nat.le_of_lt_succ h2))
    · rw [if_neg ht]
      exact ⟨_, rfl, g2 ht⟩
theorem L_Fb_findKind_32 (E : Ev) (x1 : Int) (x2 : Int) {I : Mm → Int → Prop} {μ : Mm → Int → Nat} {Q : (Nat × Int × Mm) → Prop} (hb : ∀ M x3, I M x3 → Ok (Fb_findKind_32b E M x1 x2 x3) (fun r => (r.1 = 0 → I r.2.2 r.2.1 ∧ μ r.2.2 r.2.1 < μ M x3) ∧ (r.1 ≠ 0 → Q r))) : ∀ (fu : Nat) (M : Mm) (x3 : Int), I M x3 → μ M x3 < fu → Ok (l_Fb_findKind_32 E x1 x2 fu M x3) Q := by
  intro fu
  induction fu with
  | zero => intro M x3 h1 h2; exact absurd h2 (Nat.not_lt_zero _)
  | succ fu ih =>
    intro M x3 h1 h2
    obtain ⟨⟨t, w3, N⟩, e, g1, g2⟩ := hb M x3 h1
    rw [l_Fb_findKind_32, e]
    show Ok (if t = 0 then l_Fb_findKind_32 E x1 x2 fu N w3 else some (t, w3, N)) Q
    by_cases ht : t = 0
    · rw [if_pos ht]
      obtain ⟨h3, h4⟩ := g1 ht
      exact ih N w3 h3 (Nat.lt_of_lt_of_le h4 (Nat.le_of_lt_succ h2))
    · rw [if_neg ht]
      exact ⟨_, rfl, g2 ht⟩
theorem L_La_gains_40 (q1 : Nat) (x3 : Int) (x4 : Int) (x5 : Int) (q6 : Nat) {I : Ev → Mm → Int → Prop} {μ : Ev → Mm → Int → Nat} {Q : (Nat × Int × Ev × Mm) → Prop} (hb : ∀ E M x7, I E M x7 → Ok (La_gains_40b E M q1 x3 x4 x5 q6 x7) (fun r => (r.1 = 0 → I r.2.2.1 r.2.2.2 r.2.1 ∧ μ r.2.2.1 r.2.2.2 r.2.1 < μ E M x7) ∧ (r.1 ≠ 0 → Q r))) : ∀ (fu : Nat) (E : Ev) (M : Mm) (x7 : Int), I E M x7 → μ E M x7 < fu → Ok (l_La_gains_40 q1 x3 x4 x5 q6 fu E M x7) Q := by
  intro fu
  induction fu with
  | zero => intro E M x7 h1 h2; exact absurd h2 (Nat.not_lt_zero _)
  | succ fu ih =>
    intro E M x7 h1 h2
    obtain ⟨⟨t, w7, F, N⟩, e, g1, g2⟩ := hb E M x7 h1
    rw [l_La_gains_40, e]
    show Ok (if t = 0 then l_La_gains_40 q1 x3 x4 x5 q6 fu F N w7 else some (t, w7, F, N)) Q
    by_cases ht : t = 0
    · rw [if_pos ht]
      obtain ⟨h3, h4⟩ := g1 ht
      exact ih F N w7 h3 (Nat.lt_of_lt_of_le h4 (Nat.le_of_lt_succ h2))
    · rw [if_neg ht]
      exact ⟨_, rfl, g2 ht⟩
theorem L_Li_isUnjust_20 (E : Ev) (q1 : Nat) (x2 : Int) (M : Mm) {I : Int → Prop} {μ : Int → Nat} {Q : (Nat × Int) → Prop} (hb : ∀ x3, I x3 → Ok (Li_isUnjust_20b E M q1 x2 x3) (fun r => (r.1 = 0 → I r.2 ∧ μ r.2 < μ x3) ∧ (r.1 ≠ 0 → Q r))) : ∀ (fu : Nat) (x3 : Int), I x3 → μ x3 < fu → Ok (l_Li_isUnjust_20 E q1 x2 fu M x3) Q := by
  intro fu
  induction fu with
  | zero => intro x3 h1 h2; exact absurd h2 (Nat.not_lt_zero _)
  | succ fu ih =>
    intro x3 h1 h2
    obtain ⟨⟨t, w3⟩, e, g1, g2⟩ := hb x3 h1
    rw [l_Li_isUnjust_20, e]
    show Ok (if t = 0 then l_Li_isUnjust_20 E q1 x2 fu M w3 else some (t, w3)) Q
    by_cases ht : t = 0
    · rw [if_pos ht]
      obtain ⟨h3, h4⟩ := g1 ht
      exact ih w3 h3 (Nat.lt_of_lt_of_le h4 (Nat.le_of_lt_succ h2))
    · rw [if_neg ht]
      exact ⟨_, rfl, g2 ht⟩
theorem L_Li_isUnjust_10 (E : Ev) (q1 : Nat) (M : Mm) {I : Int → Prop} {μ : Int → Nat} {Q : (Nat × Int) → Prop} (hb : ∀ x2, I x2 → Ok (Li_isUnjust_10b E M q1 x2) (fun r => (r.1 = 0 → I r.2 ∧ μ r.2 < μ x2) ∧ (r.1 ≠ 0 → Q r))) : ∀ (fu : Nat) (x2 : Int), I x2 → μ x2 < fu → Ok (l_Li_isUnjust_10 E q1 fu M x2) Q := by
  intro fu
  induction fu with
  | zero => intro x2 h1 h2; exact absurd h2 (Nat.not_lt_zero _)
  | succ fu ih =>
    intro x2 h1 h2
    obtain ⟨⟨t, w2⟩, e, g1, g2⟩ := hb x2 h1
    rw [l_Li_isUnjust_10, e]
    show Ok (if t = 0 then l_Li_isUnjust_10 E q1 fu M w2 else some (t, w2)) Q
    by_cases ht : t = 0
    · rw [if_pos ht]
      obtain ⟨h3, h4⟩ := g1 ht
      exact ih w2 h3 (Nat.lt_of_lt_of_le h4 (Nat.le_of_lt_succ h2))
    · rw [if_neg ht]
      exact ⟨_, rfl, g2 ht⟩
theorem L_Co_unbalancedSteps_28 (E : Ev) (q1 : Nat) (x2 : Int) (x3 : Int) {I : Mm → Int → Prop} {μ : Mm → Int → Nat} {Q : (Nat × Int × Mm) → Prop} (hb : ∀ M x4, I M x4 → Ok (Co_unbalancedSteps_28b E M q1 x2 x3 x4) (fun r => (r.1 = 0 → I r.2.2 r.2.1 ∧ μ r.2.2 r.2.1 < μ M x4) ∧ (r.1 ≠ 0 → Q r))) : ∀ (fu : Nat) (M : Mm) (x4 : Int), I M x4 → μ M x4 < fu → Ok (l_Co_unbalancedSteps_28 E q1 x2 x3 fu M x4) Q := by
  intro fu
  induction fu with
  | zero => intro M x4 h1 h2; exact absurd h2 (Nat.not_lt_zero _)
  | succ fu ih =>
    intro M x4 h1 h2
    obtain ⟨⟨t, w4, N⟩, e, g1, g2⟩ := hb M x4 h1
    rw [l_Co_unbalancedSteps_28, e]
    show Ok (if t = 0 then l_Co_unbalancedSteps_28 E q1 x2 x3 fu N w4 else some (t, w4, N)) Q
    by_cases ht : t = 0
    · rw [if_pos ht]
      obtain ⟨h3, h4⟩ := g1 ht
      exact ih N w4 h3 (Nat.lt_of_lt_of_le h4 (Nat.le_of_lt_succ h2))
    · rw [if_neg ht]
      exact ⟨_, rfl, g2 ht⟩
theorem L_Co_unbalancedSteps_4 (E : Ev) (q1 : Nat) {I : Mm → Int → Int → Prop} {μ : Mm → Int → Int → Nat} {Q : (Nat × Int × Int × Mm) → Prop} (hb : ∀ M x2 x3, I M x2 x3 → Ok (Co_unbalancedSteps_4b E M q1 x2 x3) (fun r => (r.1 = 0 → I r.2.2.2 r.2.1 r.2.2.1 ∧ μ r.2.2.2 r.2.1 r.2.2.1 < μ M x2 x3) ∧ (r.1 ≠ 0 → Q r))) : ∀ (fu : Nat) (M : Mm) (x2 : Int) (x3 : Int), I M x2 x3 → μ M x2 x3 < fu → Ok (l_Co_unbalancedSteps_4 E q1 fu M x2 x3) Q := by
  intro fu
  induction fu with
  | zero => intro M x2 x3 h1 h2; exact absurd h2 (Nat.not_lt_zero _)
  | succ fu ih =>
    intro M x2 x3 h1 h2
    obtain ⟨⟨t, w2, w3, N⟩, e, g1, g2⟩ := hb M x2 x3 h1
    rw [l_Co_unbalancedSteps_4, e]
    show Ok (if t = 0 then l_Co_unbalancedSteps_4 E q1 fu N w2 w3 else some (t, w2, w3, N)) Q
    by_cases ht : t = 0
    · rw [if_pos ht]
      obtain ⟨h3, h4⟩ := g1 ht
      exact ih N w2 w3 h3 (Nat.lt_of_lt_of_le h4 (Nat.le_of_lt_succ h2))
    · rw [if_neg ht]
      exact ⟨_, rfl, g2 ht⟩
theorem L_B_countErrors_36 (E : Ev) (q1 : Nat) (x2 : Int) {I : Mm → Int → Int → Prop} {μ : Mm → Int → Int → Nat} {Q : (Nat × Int × Int × Mm) → Prop} (hb : ∀ M x3 x4, I M x3 x4 → Ok (B_countErrors_36b E M q1 x2 x3 x4) (fun r => (r.1 = 0 → I r.2.2.2 r.2.1 r.2.2.1 ∧ μ r.2.2.2 r.2.1 r.2.2.1 < μ M x3 x4) ∧ (r.1 ≠ 0 → Q r))) : ∀ (fu : Nat) (M : Mm) (x3 : Int) (x4 : Int), I M x3 x4 → μ M x3 x4 < fu → Ok (l_B_countErrors_36 E q1 x2 fu M x3 x4) Q := by
  intro fu
  induction fu with
  | zero => intro M x3 x4 h1 h2; exact absurd h2 (Nat.not_lt_zero _)
  | succ fu ih =>
    intro M x3 x4 h1 h2
    obtain ⟨⟨t, w3, w4, N⟩, e, g1, g2⟩ := hb M x3 x4 h1
    rw [l_B_countErrors_36, e]
    show Ok (if t = 0 then l_B_countErrors_36 E q1 x2 fu N w3 w4 else some (t, w3, w4, N)) Q
    by_cases ht : t = 0
    · rw [if_pos ht]
      obtain ⟨h3, h4⟩ := g1 ht
      exact ih N w3 w4 h3 (Nat.lt_of_lt_of_le h4 (Nat.le_of_lt_succ h2))
    · rw [if_neg ht]
      exact ⟨_, rfl, g2 ht⟩
theorem L_B_countErrors_92 (E : Ev) (q1 : Nat) (x2 : Int) (x3 : Int) {I : Mm → Int → Int → Prop} {μ : Mm → Int → Int → Nat} {Q : (Nat × Int × Int × Mm) → Prop} (hb : ∀ M x4 x5, I M x4 x5 → Ok (B_countErrors_92b E M q1 x2 x3 x4 x5) (fun r => (r.1 = 0 → I r.2.2.2 r.2.1 r.2.2.1 ∧ μ r.2.2.2 r.2.1 r.2.2.1 < μ M x4 x5) ∧ (r.1 ≠ 0 → Q r))) : ∀ (fu : Nat) (M : Mm) (x4 : Int) (x5 : Int), I M x4 x5 → μ M x4 x5 < fu → Ok (l_B_countErrors_92 E q1 x2 x3 fu M x4 x5) Q := by
  intro fu
  induction fu with
  | zero => intro M x4 x5 h1 h2; exact absurd h2 (Nat.not_lt_zero _)
  | succ fu ih =>
    intro M x4 x5 h1 h2
    obtain ⟨⟨t, w4, w5, N⟩, e, g1, g2⟩ := hb M x4 x5 h1
    rw [l_B_countErrors_92, e]
    show Ok (if t = 0 then l_B_countErrors_92 E q1 x2 x3 fu N w4 w5 else some (t, w4, w5, N)) Q
    by_cases ht : t = 0
    · rw [if_pos ht]
      obtain ⟨h3, h4⟩ := g1 ht
      exact ih N w4 w5 h3 (Nat.lt_of_lt_of_le h4 (Nat.le_of_lt_succ h2))
    · rw [if_neg ht]
      exact ⟨_, rfl, g2 ht⟩
theorem L_Cl_findSums_12 (E : Ev) (x1 : Int) {I : Mm → Int → Prop} {μ : Mm → Int → Nat} {Q : (Nat × Int × Mm) → Prop} (hb : ∀ M x2, I M x2 → Ok (Cl_findSums_12b E M x1 x2) (fun r => (r.1 = 0 → I r.2.2 r.2.1 ∧ μ r.2.2 r.2.1 < μ M x2) ∧ (r.1 ≠ 0 → Q r))) : ∀ (fu : Nat) (M : Mm) (x2 : Int), I M x2 → μ M x2 < fu → Ok (l_Cl_findSums_12 E x1 fu M x2) Q := by
  intro fu
  induction fu with
  | zero => intro M x2 h1 h2; exact absurd h2 (Nat.not_lt_zero _)
  | succ fu ih =>
    intro M x2 h1 h2
    obtain ⟨⟨t, w2, N⟩, e, g1, g2⟩ := hb M x2 h1
    rw [l_Cl_findSums_12, e]
    show Ok (if t = 0 then l_Cl_findSums_12 E x1 fu N w2 else some (t, w2, N)) Q
    by_cases ht : t = 0
    · rw [if_pos ht]
      obtain ⟨h3, h4⟩ := g1 ht
      exact ih N w2 h3 (Nat.lt_of_lt_of_le h4 (Nat.le_of_lt_succ h2))
    · rw [if_neg ht]
      exact ⟨_, rfl, g2 ht⟩
theorem L_Cl_findSums_2 (E : Ev) {I : Mm → Int → Prop} {μ : Mm → Int → Nat} {Q : (Nat × Int × Mm) → Prop} (hb : ∀ M x1, I M x1 → Ok (Cl_findSums_2b E M x1) (fun r => (r.1 = 0 → I r.2.2 r.2.1 ∧ μ r.2.2 r.2.1 < μ M x1) ∧ (r.1 ≠ 0 → Q r))) : ∀ (fu : Nat) (M : Mm) (x1 : Int), I M x1 → μ M x1 < fu → Ok (l_Cl_findSums_2 E fu M x1) Q := by
  intro fu
  induction fu with
  | zero => intro M x1 h1 h2; exact absurd h2 (Nat.not_lt_zero _)
  | succ fu ih =>
    intro M x1 h1 h2
    obtain ⟨⟨t, w1, N⟩, e, g1, g2⟩ := hb M x1 h1
    rw [l_Cl_findSums_2, e]
    show Ok (if t = 0 then l_Cl_findSums_2 E fu N w1 else some (t, w1, N)) Q
    by_cases ht : t = 0
    · rw [if_pos ht]
      obtain ⟨h3, h4⟩ := g1 ht
      exact ih N w1 h3 (Nat.lt_of_lt_of_le h4 (Nat.le_of_lt_succ h2))
    · rw [if_neg ht]
      exact ⟨_, rfl, g2 ht⟩
theorem L_Cl_ordersTurnedBy_5 (E : Ev) (x1 : Int) (M : Mm) {I : Int → Int → Prop} {μ : Int → Int → Nat} {Q : (Nat × Int × Int) → Prop} (hb : ∀ x2 x4, I x2 x4 → Ok (Cl_ordersTurnedBy_5b E M x1 x2 x4) (fun r => (r.1 = 0 → I r.2.1 r.2.2 ∧ μ r.2.1 r.2.2 < μ x2 x4) ∧ (r.1 ≠ 0 → Q r))) : ∀ (fu : Nat) (x2 : Int) (x4 : Int), I x2 x4 → μ x2 x4 < fu → Ok (l_Cl_ordersTurnedBy_5 E x1 fu M x2 x4) Q := by
  intro fu
  induction fu with
  | zero => intro x2 x4 h1 h2; exact absurd h2 (Nat.not_lt_zero _)
  | succ fu ih =>
    intro x2 x4 h1 h2
    obtain ⟨⟨t, w2, w4⟩, e, g1, g2⟩ := hb x2 x4 h1
    rw [l_Cl_ordersTurnedBy_5, e]
    show Ok (if t = 0 then l_Cl_ordersTurnedBy_5 E x1 fu M w2 w4 else some (t, w2, w4)) Q
    by_cases ht : t = 0
    · rw [if_pos ht]
      obtain ⟨h3, h4⟩ := g1 ht
      exact ih w2 w4 h3 (Nat.lt_of_lt_of_le h4 (Nat.le_of_lt_succ h2))
    · rw [if_neg ht]
      exact ⟨_, rfl, g2 ht⟩
theorem L_Cl_isOrderMissed_8 (E : Ev) {I : Mm → Int → Int → Prop} {μ : Mm → Int → Int → Nat} {Q : (Nat × Int × Int × Mm) → Prop} (hb : ∀ M x1 x3, I M x1 x3 → Ok (Cl_isOrderMissed_8b E M x1 x3) (fun r => (r.1 = 0 → I r.2.2.2 r.2.1 r.2.2.1 ∧ μ r.2.2.2 r.2.1 r.2.2.1 < μ M x1 x3) ∧ (r.1 ≠ 0 → Q r))) : ∀ (fu : Nat) (M : Mm) (x1 : Int) (x3 : Int), I M x1 x3 → μ M x1 x3 < fu → Ok (l_Cl_isOrderMissed_8 E fu M x1 x3) Q := by
  intro fu
  induction fu with
  | zero => intro M x1 x3 h1 h2; exact absurd h2 (Nat.not_lt_zero _)
  | succ fu ih =>
    intro M x1 x3 h1 h2
    obtain ⟨⟨t, w1, w3, N⟩, e, g1, g2⟩ := hb M x1 x3 h1
    rw [l_Cl_isOrderMissed_8, e]
    show Ok (if t = 0 then l_Cl_isOrderMissed_8 E fu N w1 w3 else some (t, w1, w3, N)) Q
    by_cases ht : t = 0
    · rw [if_pos ht]
      obtain ⟨h3, h4⟩ := g1 ht
      exact ih N w1 w3 h3 (Nat.lt_of_lt_of_le h4 (Nat.le_of_lt_succ h2))
    · rw [if_neg ht]
      exact ⟨_, rfl, g2 ht⟩
theorem L_Li_isFirstOfUnit_2 (E : Ev) (x1 : Int) (M : Mm) {I : Int → Prop} {μ : Int → Nat} {Q : (Nat × Int) → Prop} (hb : ∀ x2, I x2 → Ok (Li_isFirstOfUnit_2b E M x1 x2) (fun r => (r.1 = 0 → I r.2 ∧ μ r.2 < μ x2) ∧ (r.1 ≠ 0 → Q r))) : ∀ (fu : Nat) (x2 : Int), I x2 → μ x2 < fu → Ok (l_Li_isFirstOfUnit_2 E x1 fu M x2) Q := by
  intro fu
  induction fu with
  | zero => intro x2 h1 h2; exact absurd h2 (Nat.not_lt_zero _)
  | succ fu ih =>
    intro x2 h1 h2
    obtain ⟨⟨t, w2⟩, e, g1, g2⟩ := hb x2 h1
    rw [l_Li_isFirstOfUnit_2, e]
    show Ok (if t = 0 then l_Li_isFirstOfUnit_2 E x1 fu M w2 else some (t, w2)) Q
    by_cases ht : t = 0
    · rw [if_pos ht]
      obtain ⟨h3, h4⟩ := g1 ht
      exact ih w2 h3 (Nat.lt_of_lt_of_le h4 (Nat.le_of_lt_succ h2))
    · rw [if_neg ht]
      exact ⟨_, rfl, g2 ht⟩
theorem L_Li_appendUnit_9 (E : Ev) (x1 : Int) (x2 : Int) {I : Mm → Int → Int → Int → Prop} {μ : Mm → Int → Int → Int → Nat} {Q : (Nat × Int × Int × Int × Mm) → Prop} (hb : ∀ M x4 x6 x7, I M x4 x6 x7 → Ok (Li_appendUnit_9b E M x1 x2 x4 x6 x7) (fun r => (r.1 = 0 → I r.2.2.2.2 r.2.1 r.2.2.1 r.2.2.2.1 ∧ μ r.2.2.2.2 r.2.1 r.2.2.1 r.2.2.2.1 < μ M x4 x6 x7) ∧ (r.1 ≠ 0 → Q r))) : ∀ (fu : Nat) (M : Mm) (x4 : Int) (x6 : Int) (x7 : Int), I M x4 x6 x7 → μ M x4 x6 x7 < fu → Ok (l_Li_appendUnit_9 E x1 x2 fu M x4 x6 x7) Q := by
  intro fu
  induction fu with
  | zero => intro M x4 x6 x7 h1 h2; exact absurd h2 (Nat.not_lt_zero _)
  | succ fu ih =>
    intro M x4 x6 x7 h1 h2
    obtain ⟨⟨t, w4, w6, w7, N⟩, e, g1, g2⟩ := hb M x4 x6 x7 h1
    rw [l_Li_appendUnit_9, e]
    show Ok (if t = 0 then l_Li_appendUnit_9 E x1 x2 fu N w4 w6 w7 else some (t, w4, w6, w7, N)) Q
    by_cases ht : t = 0
    · rw [if_pos ht]
      obtain ⟨h3, h4⟩ := g1 ht
      exact ih N w4 w6 w7 h3 (Nat.lt_of_lt_of_le h4 (Nat.le_of_lt_succ h2))
    · rw [if_neg ht]
      exact ⟨_, rfl, g2 ht⟩
theorem L_Di_giveToGreatestRemainder_4 (E : Ev) (q0 : Nat) {I : Mm → Int → Int → Prop} {μ : Mm → Int → Int → Nat} {Q : (Nat × Int × Int × Mm) → Prop} (hb : ∀ M x1 x2, I M x1 x2 → Ok (Di_giveToGreatestRemainder_4b E M q0 x1 x2) (fun r => (r.1 = 0 → I r.2.2.2 r.2.1 r.2.2.1 ∧ μ r.2.2.2 r.2.1 r.2.2.1 < μ M x1 x2) ∧ (r.1 ≠ 0 → Q r))) : ∀ (fu : Nat) (M : Mm) (x1 : Int) (x2 : Int), I M x1 x2 → μ M x1 x2 < fu → Ok (l_Di_giveToGreatestRemainder_4 E q0 fu M x1 x2) Q := by
  intro fu
  induction fu with
  | zero => intro M x1 x2 h1 h2; exact absurd h2 (Nat.not_lt_zero _)
  | succ fu ih =>
    intro M x1 x2 h1 h2
    obtain ⟨⟨t, w1, w2, N⟩, e, g1, g2⟩ := hb M x1 x2 h1
    rw [l_Di_giveToGreatestRemainder_4, e]
    show Ok (if t = 0 then l_Di_giveToGreatestRemainder_4 E q0 fu N w1 w2 else some (t, w1, w2, N)) Q
    by_cases ht : t = 0
    · rw [if_pos ht]
      obtain ⟨h3, h4⟩ := g1 ht
      exact ih N w1 w2 h3 (Nat.lt_of_lt_of_le h4 (Nat.le_of_lt_succ h2))
    · rw [if_neg ht]
      exact ⟨_, rfl, g2 ht⟩
theorem L_Di_distributeByRemainders_5 (E : Ev) (q0 : Nat) (x1 : Int) {I : Mm → Int → Int → Prop} {μ : Mm → Int → Int → Nat} {Q : (Nat × Int × Int × Mm) → Prop} (hb : ∀ M x2 x4, I M x2 x4 → Ok (Di_distributeByRemainders_5b E M q0 x1 x2 x4) (fun r => (r.1 = 0 → I r.2.2.2 r.2.1 r.2.2.1 ∧ μ r.2.2.2 r.2.1 r.2.2.1 < μ M x2 x4) ∧ (r.1 ≠ 0 → Q r))) : ∀ (fu : Nat) (M : Mm) (x2 : Int) (x4 : Int), I M x2 x4 → μ M x2 x4 < fu → Ok (l_Di_distributeByRemainders_5 E q0 x1 fu M x2 x4) Q := by
  intro fu
  induction fu with
  | zero => intro M x2 x4 h1 h2; exact absurd h2 (Nat.not_lt_zero _)
  | succ fu ih =>
    intro M x2 x4 h1 h2
    obtain ⟨⟨t, w2, w4, N⟩, e, g1, g2⟩ := hb M x2 x4 h1
    rw [l_Di_distributeByRemainders_5, e]
    show Ok (if t = 0 then l_Di_distributeByRemainders_5 E q0 x1 fu N w2 w4 else some (t, w2, w4, N)) Q
    by_cases ht : t = 0
    · rw [if_pos ht]
      obtain ⟨h3, h4⟩ := g1 ht
      exact ih N w2 w4 h3 (Nat.lt_of_lt_of_le h4 (Nat.le_of_lt_succ h2))
    · rw [if_neg ht]
      exact ⟨_, rfl, g2 ht⟩
theorem L_Di_distributeByRemainders_89 (E : Ev) (q0 : Nat) (x1 : Int) (x2 : Int) (x4 : Int) (x5 : Int) (x6 : Int) {I : Mm → Int → Prop} {μ : Mm → Int → Nat} {Q : (Nat × Int × Mm) → Prop} (hb : ∀ M x7, I M x7 → Ok (Di_distributeByRemainders_89b E M q0 x1 x2 x4 x5 x6 x7) (fun r => (r.1 = 0 → I r.2.2 r.2.1 ∧ μ r.2.2 r.2.1 < μ M x7) ∧ (r.1 ≠ 0 → Q r))) : ∀ (fu : Nat) (M : Mm) (x7 : Int), I M x7 → μ M x7 < fu → Ok (l_Di_distributeByRemainders_89 E q0 x1 x2 x4 x5 x6 fu M x7) Q := by
  intro fu
  induction fu with
  | zero => intro M x7 h1 h2; exact absurd h2 (Nat.not_lt_zero _)
  | succ fu ih =>
    intro M x7 h1 h2
    obtain ⟨⟨t, w7, N⟩, e, g1, g2⟩ := hb M x7 h1
    rw [l_Di_distributeByRemainders_89, e]
    show Ok (if t = 0 then l_Di_distributeByRemainders_89 E q0 x1 x2 x4 x5 x6 fu N w7 else some (t, w7, N)) Q
    by_cases ht : t = 0
    · rw [if_pos ht]
      obtain ⟨h3, h4⟩ := g1 ht
      exact ih N w7 h3 (Nat.lt_of_lt_of_le h4 (Nat.le_of_lt_succ h2))
    · rw [if_neg ht]
      exact ⟨_, rfl, g2 ht⟩
theorem L_Di_distributeByRemainders_43 (E : Ev) (q0 : Nat) (x1 : Int) (x2 : Int) {I : Mm → Int → Int → Prop} {μ : Mm → Int → Int → Nat} {Q : (Nat × Int × Int × Mm) → Prop} (hb : ∀ M x4 x5, I M x4 x5 → Ok (Di_distributeByRemainders_43b E M q0 x1 x2 x4 x5) (fun r => (r.1 = 0 → I r.2.2.2 r.2.1 r.2.2.1 ∧ μ r.2.2.2 r.2.1 r.2.2.1 < μ M x4 x5) ∧ (r.1 ≠ 0 → Q r))) : ∀ (fu : Nat) (M : Mm) (x4 : Int) (x5 : Int), I M x4 x5 → μ M x4 x5 < fu → Ok (l_Di_distributeByRemainders_43 E q0 x1 x2 fu M x4 x5) Q := by
  intro fu
  induction fu with
  | zero => intro M x4 x5 h1 h2; exact absurd h2 (Nat.not_lt_zero _)
  | succ fu ih =>
    intro M x4 x5 h1 h2
    obtain ⟨⟨t, w4, w5, N⟩, e, g1, g2⟩ := hb M x4 x5 h1
    rw [l_Di_distributeByRemainders_43, e]
    show Ok (if t = 0 then l_Di_distributeByRemainders_43 E q0 x1 x2 fu N w4 w5 else some (t, w4, w5, N)) Q
    by_cases ht : t = 0
    · rw [if_pos ht]
      obtain ⟨h3, h4⟩ := g1 ht
      exact ih N w4 w5 h3 (Nat.lt_of_lt_of_le h4 (Nat.le_of_lt_succ h2))
    · rw [if_neg ht]
      exact ⟨_, rfl, g2 ht⟩
theorem L_Di_distributeByRemainders_125 (E : Ev) (q0 : Nat) (x1 : Int) {I : Mm → Int → Prop} {μ : Mm → Int → Nat} {Q : (Nat × Int × Mm) → Prop} (hb : ∀ M x5, I M x5 → Ok (Di_distributeByRemainders_125b E M q0 x1 x5) (fun r => (r.1 = 0 → I r.2.2 r.2.1 ∧ μ r.2.2 r.2.1 < μ M x5) ∧ (r.1 ≠ 0 → Q r))) : ∀ (fu : Nat) (M : Mm) (x5 : Int), I M x5 → μ M x5 < fu → Ok (l_Di_distributeByRemainders_125 E q0 x1 fu M x5) Q := by
  intro fu
  induction fu with
  | zero => intro M x5 h1 h2; exact absurd h2 (Nat.not_lt_zero _)
  | succ fu ih =>
    intro M x5 h1 h2
    obtain ⟨⟨t, w5, N⟩, e, g1, g2⟩ := hb M x5 h1
    rw [l_Di_distributeByRemainders_125, e]
    show Ok (if t = 0 then l_Di_distributeByRemainders_125 E q0 x1 fu N w5 else some (t, w5, N)) Q
    by_cases ht : t = 0
    · rw [if_pos ht]
      obtain ⟨h3, h4⟩ := g1 ht
      exact ih N w5 h3 (Nat.lt_of_lt_of_le h4 (Nat.le_of_lt_succ h2))
    · rw [if_neg ht]
      exact ⟨_, rfl, g2 ht⟩
theorem L_Di_distribute_32 (E : Ev) (q0 : Nat) (x1 : Int) (x2 : Int) (x3 : Int) {I : Mm → Int → Int → Prop} {μ : Mm → Int → Int → Nat} {Q : (Nat × Int × Int × Mm) → Prop} (hb : ∀ M x4 x5, I M x4 x5 → Ok (Di_distribute_32b E M q0 x1 x2 x3 x4 x5) (fun r => (r.1 = 0 → I r.2.2.2 r.2.1 r.2.2.1 ∧ μ r.2.2.2 r.2.1 r.2.2.1 < μ M x4 x5) ∧ (r.1 ≠ 0 → Q r))) : ∀ (fu : Nat) (M : Mm) (x4 : Int) (x5 : Int), I M x4 x5 → μ M x4 x5 < fu → Ok (l_Di_distribute_32 E q0 x1 x2 x3 fu M x4 x5) Q := by
  intro fu
  induction fu with
  | zero => intro M x4 x5 h1 h2; exact absurd h2 (Nat.not_lt_zero _)
  | succ fu ih =>
    intro M x4 x5 h1 h2
    obtain ⟨⟨t, w4, w5, N⟩, e, g1, g2⟩ := hb M x4 x5 h1
    rw [l_Di_distribute_32, e]
    show Ok (if t = 0 then l_Di_distribute_32 E q0 x1 x2 x3 fu N w4 w5 else some (t, w4, w5, N)) Q
    by_cases ht : t = 0
    · rw [if_pos ht]
      obtain ⟨h3, h4⟩ := g1 ht
      exact ih N w4 w5 h3 (Nat.lt_of_lt_of_le h4 (Nat.le_of_lt_succ h2))
    · rw [if_neg ht]
      exact ⟨_, rfl, g2 ht⟩
theorem L_Di_distribute_21 (E : Ev) (q0 : Nat) (x1 : Int) (x2 : Int) {I : Mm → Int → Prop} {μ : Mm → Int → Nat} {Q : (Nat × Int × Mm) → Prop} (hb : ∀ M x3, I M x3 → Ok (Di_distribute_21b E M q0 x1 x2 x3) (fun r => (r.1 = 0 → I r.2.2 r.2.1 ∧ μ r.2.2 r.2.1 < μ M x3) ∧ (r.1 ≠ 0 → Q r))) : ∀ (fu : Nat) (M : Mm) (x3 : Int), I M x3 → μ M x3 < fu → Ok (l_Di_distribute_21 E q0 x1 x2 fu M x3) Q := by
  intro fu
  induction fu with
  | zero => intro M x3 h1 h2; exact absurd h2 (Nat.not_lt_zero _)
  | succ fu ih =>
    intro M x3 h1 h2
    obtain ⟨⟨t, w3, N⟩, e, g1, g2⟩ := hb M x3 h1
    rw [l_Di_distribute_21, e]
    show Ok (if t = 0 then l_Di_distribute_21 E q0 x1 x2 fu N w3 else some (t, w3, N)) Q
    by_cases ht : t = 0
    · rw [if_pos ht]
      obtain ⟨h3, h4⟩ := g1 ht
      exact ih N w3 h3 (Nat.lt_of_lt_of_le h4 (Nat.le_of_lt_succ h2))
    · rw [if_neg ht]
      exact ⟨_, rfl, g2 ht⟩
theorem L_Li_spreadInside_10 (E : Ev) (x1 : Int) (x2 : Int) (x3 : Int) {I : Mm → Int → Prop} {μ : Mm → Int → Nat} {Q : (Nat × Int × Mm) → Prop} (hb : ∀ M x4, I M x4 → Ok (Li_spreadInside_10b E M x1 x2 x3 x4) (fun r => (r.1 = 0 → I r.2.2 r.2.1 ∧ μ r.2.2 r.2.1 < μ M x4) ∧ (r.1 ≠ 0 → Q r))) : ∀ (fu : Nat) (M : Mm) (x4 : Int), I M x4 → μ M x4 < fu → Ok (l_Li_spreadInside_10 E x1 x2 x3 fu M x4) Q := by
  intro fu
  induction fu with
  | zero => intro M x4 h1 h2; exact absurd h2 (Nat.not_lt_zero _)
  | succ fu ih =>
    intro M x4 h1 h2
    obtain ⟨⟨t, w4, N⟩, e, g1, g2⟩ := hb M x4 h1
    rw [l_Li_spreadInside_10, e]
    show Ok (if t = 0 then l_Li_spreadInside_10 E x1 x2 x3 fu N w4 else some (t, w4, N)) Q
    by_cases ht : t = 0
    · rw [if_pos ht]
      obtain ⟨h3, h4⟩ := g1 ht
      exact ih N w4 h3 (Nat.lt_of_lt_of_le h4 (Nat.le_of_lt_succ h2))
    · rw [if_neg ht]
      exact ⟨_, rfl, g2 ht⟩
theorem L_Li_spreadInside_81 (E : Ev) {I : Mm → Int → Prop} {μ : Mm → Int → Nat} {Q : (Nat × Int × Mm) → Prop} (hb : ∀ M x4, I M x4 → Ok (Li_spreadInside_81b E M x4) (fun r => (r.1 = 0 → I r.2.2 r.2.1 ∧ μ r.2.2 r.2.1 < μ M x4) ∧ (r.1 ≠ 0 → Q r))) : ∀ (fu : Nat) (M : Mm) (x4 : Int), I M x4 → μ M x4 < fu → Ok (l_Li_spreadInside_81 E fu M x4) Q := by
  intro fu
  induction fu with
  | zero => intro M x4 h1 h2; exact absurd h2 (Nat.not_lt_zero _)
  | succ fu ih =>
    intro M x4 h1 h2
    obtain ⟨⟨t, w4, N⟩, e, g1, g2⟩ := hb M x4 h1
    rw [l_Li_spreadInside_81, e]
    show Ok (if t = 0 then l_Li_spreadInside_81 E fu N w4 else some (t, w4, N)) Q
    by_cases ht : t = 0
    · rw [if_pos ht]
      obtain ⟨h3, h4⟩ := g1 ht
      exact ih N w4 h3 (Nat.lt_of_lt_of_le h4 (Nat.le_of_lt_succ h2))
    · rw [if_neg ht]
      exact ⟨_, rfl, g2 ht⟩
theorem L_Li_spread_6 (E : Ev) (x1 : Int) (x2 : Int) (x3 : Int) {I : Mm → Int → Int → Prop} {μ : Mm → Int → Int → Nat} {Q : (Nat × Int × Int × Mm) → Prop} (hb : ∀ M x4 x6, I M x4 x6 → Ok (Li_spread_6b E M x1 x2 x3 x4 x6) (fun r => (r.1 = 0 → I r.2.2.2 r.2.1 r.2.2.1 ∧ μ r.2.2.2 r.2.1 r.2.2.1 < μ M x4 x6) ∧ (r.1 ≠ 0 → Q r))) : ∀ (fu : Nat) (M : Mm) (x4 : Int) (x6 : Int), I M x4 x6 → μ M x4 x6 < fu → Ok (l_Li_spread_6 E x1 x2 x3 fu M x4 x6) Q := by
  intro fu
  induction fu with
  | zero => intro M x4 x6 h1 h2; exact absurd h2 (Nat.not_lt_zero _)
  | succ fu ih =>
    intro M x4 x6 h1 h2
    obtain ⟨⟨t, w4, w6, N⟩, e, g1, g2⟩ := hb M x4 x6 h1
    rw [l_Li_spread_6, e]
    show Ok (if t = 0 then l_Li_spread_6 E x1 x2 x3 fu N w4 w6 else some (t, w4, w6, N)) Q
    by_cases ht : t = 0
    · rw [if_pos ht]
      obtain ⟨h3, h4⟩ := g1 ht
      exact ih N w4 w6 h3 (Nat.lt_of_lt_of_le h4 (Nat.le_of_lt_succ h2))
    · rw [if_neg ht]
      exact ⟨_, rfl, g2 ht⟩
theorem L_Li_spread_49 (E : Ev) (x1 : Int) (x2 : Int) (x3 : Int) (x4 : Int) {I : Mm → Int → Prop} {μ : Mm → Int → Nat} {Q : (Nat × Int × Mm) → Prop} (hb : ∀ M x6, I M x6 → Ok (Li_spread_49b E M x1 x2 x3 x4 x6) (fun r => (r.1 = 0 → I r.2.2 r.2.1 ∧ μ r.2.2 r.2.1 < μ M x6) ∧ (r.1 ≠ 0 → Q r))) : ∀ (fu : Nat) (M : Mm) (x6 : Int), I M x6 → μ M x6 < fu → Ok (l_Li_spread_49 E x1 x2 x3 x4 fu M x6) Q := by
  intro fu
  induction fu with
  | zero => intro M x6 h1 h2; exact absurd h2 (Nat.not_lt_zero _)
  | succ fu ih =>
    intro M x6 h1 h2
    obtain ⟨⟨t, w6, N⟩, e, g1, g2⟩ := hb M x6 h1
    rw [l_Li_spread_49, e]
    show Ok (if t = 0 then l_Li_spread_49 E x1 x2 x3 x4 fu N w6 else some (t, w6, N)) Q
    by_cases ht : t = 0
    · rw [if_pos ht]
      obtain ⟨h3, h4⟩ := g1 ht
      exact ih N w6 h3 (Nat.lt_of_lt_of_le h4 (Nat.le_of_lt_succ h2))
    · rw [if_neg ht]
      exact ⟨_, rfl, g2 ht⟩
theorem L_Li_spread_104 (E : Ev) (x1 : Int) {I : Mm → Int → Prop} {μ : Mm → Int → Nat} {Q : (Nat × Int × Mm) → Prop} (hb : ∀ M x6, I M x6 → Ok (Li_spread_104b E M x1 x6) (fun r => (r.1 = 0 → I r.2.2 r.2.1 ∧ μ r.2.2 r.2.1 < μ M x6) ∧ (r.1 ≠ 0 → Q r))) : ∀ (fu : Nat) (M : Mm) (x6 : Int), I M x6 → μ M x6 < fu → Ok (l_Li_spread_104 E x1 fu M x6) Q := by
  intro fu
  induction fu with
  | zero => intro M x6 h1 h2; exact absurd h2 (Nat.not_lt_zero _)
  | succ fu ih =>
    intro M x6 h1 h2
    obtain ⟨⟨t, w6, N⟩, e, g1, g2⟩ := hb M x6 h1
    rw [l_Li_spread_104, e]
    show Ok (if t = 0 then l_Li_spread_104 E x1 fu N w6 else some (t, w6, N)) Q
    by_cases ht : t = 0
    · rw [if_pos ht]
      obtain ⟨h3, h4⟩ := g1 ht
      exact ih N w6 h3 (Nat.lt_of_lt_of_le h4 (Nat.le_of_lt_succ h2))
    · rw [if_neg ht]
      exact ⟨_, rfl, g2 ht⟩
theorem L_La_seats_27 (q0 : Nat) (x2 : Int) (q3 : Nat) {I : Ev → Mm → Int → Int → Prop} {μ : Ev → Mm → Int → Int → Nat} {Q : (Nat × Int × Int × Ev × Mm) → Prop} (hb : ∀ E M x4 x6, I E M x4 x6 → Ok (La_seats_27b E M q0 x2 q3 x4 x6) (fun r => (r.1 = 0 → I r.2.2.2.1 r.2.2.2.2 r.2.1 r.2.2.1 ∧ μ r.2.2.2.1 r.2.2.2.2 r.2.1 r.2.2.1 < μ E M x4 x6) ∧ (r.1 ≠ 0 → Q r))) : ∀ (fu : Nat) (E : Ev) (M : Mm) (x4 : Int) (x6 : Int), I E M x4 x6 → μ E M x4 x6 < fu → Ok (l_La_seats_27 q0 x2 q3 fu E M x4 x6) Q := by
  intro fu
  induction fu with
  | zero => intro E M x4 x6 h1 h2; exact absurd h2 (Nat.not_lt_zero _)
  | succ fu ih =>
    intro E M x4 x6 h1 h2
    obtain ⟨⟨t, w4, w6, F, N⟩, e, g1, g2⟩ := hb E M x4 x6 h1
    rw [l_La_seats_27, e]
    show Ok (if t = 0 then l_La_seats_27 q0 x2 q3 fu F N w4 w6 else some (t, w4, w6, F, N)) Q
    by_cases ht : t = 0
    · rw [if_pos ht]
      obtain ⟨h3, h4⟩ := g1 ht
      exact ih F N w4 w6 h3 (Nat.lt_of_lt_of_le h4 (Nat.le_of_lt_succ h2))
    · rw [if_neg ht]
      exact ⟨_, rfl, g2 ht⟩
theorem L_La_seats_200 (q0 : Nat) (x2 : Int) (q3 : Nat) (x4 : Int) (x6 : Int) (x7 : Int) (x8 : Int) (x9 : Int) (x12 : Int) (x13 : Int) {I : Ev → Mm → Int → Int → Prop} {μ : Ev → Mm → Int → Int → Nat} {Q : (Nat × Int × Int × Ev × Mm) → Prop} (hb : ∀ E M x11 x14, I E M x11 x14 → Ok (La_seats_200b E M q0 x2 q3 x4 x6 x7 x8 x9 x12 x13 x11 x14) (fun r => (r.1 = 0 → I r.2.2.2.1 r.2.2.2.2 r.2.1 r.2.2.1 ∧ μ r.2.2.2.1 r.2.2.2.2 r.2.1 r.2.2.1 < μ E M x11 x14) ∧ (r.1 ≠ 0 → Q r))) : ∀ (fu : Nat) (E : Ev) (M : Mm) (x11 : Int) (x14 : Int), I E M x11 x14 → μ E M x11 x14 < fu → Ok (l_La_seats_200 q0 x2 q3 x4 x6 x7 x8 x9 x12 x13 fu E M x11 x14) Q := by
  intro fu
  induction fu with
  | zero => intro E M x11 x14 h1 h2; exact absurd h2 (Nat.not_lt_zero _)
  | succ fu ih =>
    intro E M x11 x14 h1 h2
    obtain ⟨⟨t, w11, w14, F, N⟩, e, g1, g2⟩ := hb E M x11 x14 h1
    rw [l_La_seats_200, e]
    show Ok (if t = 0 then l_La_seats_200 q0 x2 q3 x4 x6 x7 x8 x9 x12 x13 fu F N w11 w14 else some (t, w11, w14, F, N)) Q
    by_cases ht : t = 0
    · rw [if_pos ht]
      obtain ⟨h3, h4⟩ := g1 ht
      exact ih F N w11 w14 h3 (Nat.lt_of_lt_of_le h4 (Nat.le_of_lt_succ h2))
    · rw [if_neg ht]
      exact ⟨_, rfl, g2 ht⟩
theorem L_La_seats_151 (q0 : Nat) (x2 : Int) (q3 : Nat) (x4 : Int) (x6 : Int) (x7 : Int) (x8 : Int) {I : Ev → Mm → Int → Int → Int → Prop} {μ : Ev → Mm → Int → Int → Int → Nat} {Q : (Nat × Int × Int × Int × Ev × Mm) → Prop} (hb : ∀ E M x9 x11 x12, I E M x9 x11 x12 → Ok (La_seats_151b E M q0 x2 q3 x4 x6 x7 x8 x9 x11 x12) (fun r => (r.1 = 0 → I r.2.2.2.2.1 r.2.2.2.2.2 r.2.1 r.2.2.1 r.2.2.2.1 ∧ μ r.2.2.2.2.1 r.2.2.2.2.2 r.2.1 r.2.2.1 r.2.2.2.1 < μ E M x9 x11 x12) ∧ (r.1 ≠ 0 → Q r))) : ∀ (fu : Nat) (E : Ev) (M : Mm) (x9 : Int) (x11 : Int) (x12 : Int), I E M x9 x11 x12 → μ E M x9 x11 x12 < fu → Ok (l_La_seats_151 q0 x2 q3 x4 x6 x7 x8 fu E M x9 x11 x12) Q := by
  intro fu
  induction fu with
  | zero => intro E M x9 x11 x12 h1 h2; exact absurd h2 (Nat.not_lt_zero _)
  | succ fu ih =>
    intro E M x9 x11 x12 h1 h2
    obtain ⟨⟨t, w9, w11, w12, F, N⟩, e, g1, g2⟩ := hb E M x9 x11 x12 h1
    rw [l_La_seats_151, e]
    show Ok (if t = 0 then l_La_seats_151 q0 x2 q3 x4 x6 x7 x8 fu F N w9 w11 w12 else some (t, w9, w11, w12, F, N)) Q
    by_cases ht : t = 0
    · rw [if_pos ht]
      obtain ⟨h3, h4⟩ := g1 ht
      exact ih F N w9 w11 w12 h3 (Nat.lt_of_lt_of_le h4 (Nat.le_of_lt_succ h2))
    · rw [if_neg ht]
      exact ⟨_, rfl, g2 ht⟩
theorem L_La_seats_410 (q0 : Nat) (x2 : Int) (x6 : Int) (x7 : Int) (x9 : Int) (x11 : Int) (q12 : Nat) {I : Ev → Mm → Int → Prop} {μ : Ev → Mm → Int → Nat} {Q : (Nat × Int × Ev × Mm) → Prop} (hb : ∀ E M x13, I E M x13 → Ok (La_seats_410b E M q0 x2 x6 x7 x9 x11 q12 x13) (fun r => (r.1 = 0 → I r.2.2.1 r.2.2.2 r.2.1 ∧ μ r.2.2.1 r.2.2.2 r.2.1 < μ E M x13) ∧ (r.1 ≠ 0 → Q r))) : ∀ (fu : Nat) (E : Ev) (M : Mm) (x13 : Int), I E M x13 → μ E M x13 < fu → Ok (l_La_seats_410 q0 x2 x6 x7 x9 x11 q12 fu E M x13) Q := by
  intro fu
  induction fu with
  | zero => intro E M x13 h1 h2; exact absurd h2 (Nat.not_lt_zero _)
  | succ fu ih =>
    intro E M x13 h1 h2
    obtain ⟨⟨t, w13, F, N⟩, e, g1, g2⟩ := hb E M x13 h1
    rw [l_La_seats_410, e]
    show Ok (if t = 0 then l_La_seats_410 q0 x2 x6 x7 x9 x11 q12 fu F N w13 else some (t, w13, F, N)) Q
    by_cases ht : t = 0
    · rw [if_pos ht]
      obtain ⟨h3, h4⟩ := g1 ht
      exact ih F N w13 h3 (Nat.lt_of_lt_of_le h4 (Nat.le_of_lt_succ h2))
    · rw [if_neg ht]
      exact ⟨_, rfl, g2 ht⟩
theorem L_La_seats_441 (q0 : Nat) (x2 : Int) (x6 : Int) (x7 : Int) (x9 : Int) (q12 : Nat) {I : Ev → Mm → Int → Int → Prop} {μ : Ev → Mm → Int → Int → Nat} {Q : (Nat × Int × Int × Ev × Mm) → Prop} (hb : ∀ E M x11 x13, I E M x11 x13 → Ok (La_seats_441b E M q0 x2 x6 x7 x9 q12 x11 x13) (fun r => (r.1 = 0 → I r.2.2.2.1 r.2.2.2.2 r.2.1 r.2.2.1 ∧ μ r.2.2.2.1 r.2.2.2.2 r.2.1 r.2.2.1 < μ E M x11 x13) ∧ (r.1 ≠ 0 → Q r))) : ∀ (fu : Nat) (E : Ev) (M : Mm) (x11 : Int) (x13 : Int), I E M x11 x13 → μ E M x11 x13 < fu → Ok (l_La_seats_441 q0 x2 x6 x7 x9 q12 fu E M x11 x13) Q := by
  intro fu
  induction fu with
  | zero => intro E M x11 x13 h1 h2; exact absurd h2 (Nat.not_lt_zero _)
  | succ fu ih =>
    intro E M x11 x13 h1 h2
    obtain ⟨⟨t, w11, w13, F, N⟩, e, g1, g2⟩ := hb E M x11 x13 h1
    rw [l_La_seats_441, e]
    show Ok (if t = 0 then l_La_seats_441 q0 x2 x6 x7 x9 q12 fu F N w11 w13 else some (t, w11, w13, F, N)) Q
    by_cases ht : t = 0
    · rw [if_pos ht]
      obtain ⟨h3, h4⟩ := g1 ht
      exact ih F N w11 w13 h3 (Nat.lt_of_lt_of_le h4 (Nat.le_of_lt_succ h2))
    · rw [if_neg ht]
      exact ⟨_, rfl, g2 ht⟩
theorem L_La_seats_527 (x2 : Int) (x9 : Int) (x11 : Int) {I : Ev → Mm → Int → Int → Prop} {μ : Ev → Mm → Int → Int → Nat} {Q : (Nat × Int × Int × Ev × Mm) → Prop} (hb : ∀ E M x17 x19, I E M x17 x19 → Ok (La_seats_527b E M x2 x9 x11 x17 x19) (fun r => (r.1 = 0 → I r.2.2.2.1 r.2.2.2.2 r.2.1 r.2.2.1 ∧ μ r.2.2.2.1 r.2.2.2.2 r.2.1 r.2.2.1 < μ E M x17 x19) ∧ (r.1 ≠ 0 → Q r))) : ∀ (fu : Nat) (E : Ev) (M : Mm) (x17 : Int) (x19 : Int), I E M x17 x19 → μ E M x17 x19 < fu → Ok (l_La_seats_527 x2 x9 x11 fu E M x17 x19) Q := by
  intro fu
  induction fu with
  | zero => intro E M x17 x19 h1 h2; exact absurd h2 (Nat.not_lt_zero _)
  | succ fu ih =>
    intro E M x17 x19 h1 h2
    obtain ⟨⟨t, w17, w19, F, N⟩, e, g1, g2⟩ := hb E M x17 x19 h1
    rw [l_La_seats_527, e]
    show Ok (if t = 0 then l_La_seats_527 x2 x9 x11 fu F N w17 w19 else some (t, w17, w19, F, N)) Q
    by_cases ht : t = 0
    · rw [if_pos ht]
      obtain ⟨h3, h4⟩ := g1 ht
      exact ih F N w17 w19 h3 (Nat.lt_of_lt_of_le h4 (Nat.le_of_lt_succ h2))
    · rw [if_neg ht]
      exact ⟨_, rfl, g2 ht⟩
theorem L_Wa_greatestOf_9 (E : Ev) (x1 : Int) (M : Mm) {I : Int → Int → Int → Prop} {μ : Int → Int → Int → Nat} {Q : (Nat × Int × Int × Int) → Prop} (hb : ∀ x3 x4 x5, I x3 x4 x5 → Ok (Wa_greatestOf_9b E M x1 x3 x4 x5) (fun r => (r.1 = 0 → I r.2.1 r.2.2.1 r.2.2.2 ∧ μ r.2.1 r.2.2.1 r.2.2.2 < μ x3 x4 x5) ∧ (r.1 ≠ 0 → Q r))) : ∀ (fu : Nat) (x3 : Int) (x4 : Int) (x5 : Int), I x3 x4 x5 → μ x3 x4 x5 < fu → Ok (l_Wa_greatestOf_9 E x1 fu M x3 x4 x5) Q := by
  intro fu
  induction fu with
  | zero => intro x3 x4 x5 h1 h2; exact absurd h2 (Nat.not_lt_zero _)
  | succ fu ih =>
    intro x3 x4 x5 h1 h2
    obtain ⟨⟨t, w3, w4, w5⟩, e, g1, g2⟩ := hb x3 x4 x5 h1
    rw [l_Wa_greatestOf_9, e]
    show Ok (if t = 0 then l_Wa_greatestOf_9 E x1 fu M w3 w4 w5 else some (t, w3, w4, w5)) Q
    by_cases ht : t = 0
    · rw [if_pos ht]
      obtain ⟨h3, h4⟩ := g1 ht
      exact ih w3 w4 w5 h3 (Nat.lt_of_lt_of_le h4 (Nat.le_of_lt_succ h2))
    · rw [if_neg ht]
      exact ⟨_, rfl, g2 ht⟩
theorem L_Wa_firstEnd_3 (E : Ev) (x2 : Int) (x3 : Int) (M : Mm) {I : Int → Prop} {μ : Int → Nat} {Q : (Nat × Int) → Prop} (hb : ∀ x4, I x4 → Ok (Wa_firstEnd_3b E M x2 x3 x4) (fun r => (r.1 = 0 → I r.2 ∧ μ r.2 < μ x4) ∧ (r.1 ≠ 0 → Q r))) : ∀ (fu : Nat) (x4 : Int), I x4 → μ x4 < fu → Ok (l_Wa_firstEnd_3 E x2 x3 fu M x4) Q := by
  intro fu
  induction fu with
  | zero => intro x4 h1 h2; exact absurd h2 (Nat.not_lt_zero _)
  | succ fu ih =>
    intro x4 h1 h2
    obtain ⟨⟨t, w4⟩, e, g1, g2⟩ := hb x4 h1
    rw [l_Wa_firstEnd_3, e]
    show Ok (if t = 0 then l_Wa_firstEnd_3 E x2 x3 fu M w4 else some (t, w4)) Q
    by_cases ht : t = 0
    · rw [if_pos ht]
      obtain ⟨h3, h4⟩ := g1 ht
      exact ih w4 h3 (Nat.lt_of_lt_of_le h4 (Nat.le_of_lt_succ h2))
    · rw [if_neg ht]
      exact ⟨_, rfl, g2 ht⟩
theorem L_Wa_divide_9 (E : Ev) (x1 : Int) (x2 : Int) {I : Mm → Int → Prop} {μ : Mm → Int → Nat} {Q : (Nat × Int × Mm) → Prop} (hb : ∀ M x3, I M x3 → Ok (Wa_divide_9b E M x1 x2 x3) (fun r => (r.1 = 0 → I r.2.2 r.2.1 ∧ μ r.2.2 r.2.1 < μ M x3) ∧ (r.1 ≠ 0 → Q r))) : ∀ (fu : Nat) (M : Mm) (x3 : Int), I M x3 → μ M x3 < fu → Ok (l_Wa_divide_9 E x1 x2 fu M x3) Q := by
  intro fu
  induction fu with
  | zero => intro M x3 h1 h2; exact absurd h2 (Nat.not_lt_zero _)
  | succ fu ih =>
    intro M x3 h1 h2
    obtain ⟨⟨t, w3, N⟩, e, g1, g2⟩ := hb M x3 h1
    rw [l_Wa_divide_9, e]
    show Ok (if t = 0 then l_Wa_divide_9 E x1 x2 fu N w3 else some (t, w3, N)) Q
    by_cases ht : t = 0
    · rw [if_pos ht]
      obtain ⟨h3, h4⟩ := g1 ht
      exact ih N w3 h3 (Nat.lt_of_lt_of_le h4 (Nat.le_of_lt_succ h2))
    · rw [if_neg ht]
      exact ⟨_, rfl, g2 ht⟩
theorem L_Wa_divide_2 (E : Ev) (x1 : Int) {I : Mm → Int → Prop} {μ : Mm → Int → Nat} {Q : (Nat × Int × Mm) → Prop} (hb : ∀ M x2, I M x2 → Ok (Wa_divide_2b E M x1 x2) (fun r => (r.1 = 0 → I r.2.2 r.2.1 ∧ μ r.2.2 r.2.1 < μ M x2) ∧ (r.1 ≠ 0 → Q r))) : ∀ (fu : Nat) (M : Mm) (x2 : Int), I M x2 → μ M x2 < fu → Ok (l_Wa_divide_2 E x1 fu M x2) Q := by
  intro fu
  induction fu with
  | zero => intro M x2 h1 h2; exact absurd h2 (Nat.not_lt_zero _)
  | succ fu ih =>
    intro M x2 h1 h2
    obtain ⟨⟨t, w2, N⟩, e, g1, g2⟩ := hb M x2 h1
    rw [l_Wa_divide_2, e]
    show Ok (if t = 0 then l_Wa_divide_2 E x1 fu N w2 else some (t, w2, N)) Q
    by_cases ht : t = 0
    · rw [if_pos ht]
      obtain ⟨h3, h4⟩ := g1 ht
      exact ih N w2 h3 (Nat.lt_of_lt_of_le h4 (Nat.le_of_lt_succ h2))
    · rw [if_neg ht]
      exact ⟨_, rfl, g2 ht⟩
theorem L_Wa_divide_59 (E : Ev) (x1 : Int) (x2 : Int) {I : Mm → Int → Int → Prop} {μ : Mm → Int → Int → Nat} {Q : (Nat × Int × Int × Mm) → Prop} (hb : ∀ M x3 x4, I M x3 x4 → Ok (Wa_divide_59b E M x1 x2 x3 x4) (fun r => (r.1 = 0 → I r.2.2.2 r.2.1 r.2.2.1 ∧ μ r.2.2.2 r.2.1 r.2.2.1 < μ M x3 x4) ∧ (r.1 ≠ 0 → Q r))) : ∀ (fu : Nat) (M : Mm) (x3 : Int) (x4 : Int), I M x3 x4 → μ M x3 x4 < fu → Ok (l_Wa_divide_59 E x1 x2 fu M x3 x4) Q := by
  intro fu
  induction fu with
  | zero => intro M x3 x4 h1 h2; exact absurd h2 (Nat.not_lt_zero _)
  | succ fu ih =>
    intro M x3 x4 h1 h2
    obtain ⟨⟨t, w3, w4, N⟩, e, g1, g2⟩ := hb M x3 x4 h1
    rw [l_Wa_divide_59, e]
    show Ok (if t = 0 then l_Wa_divide_59 E x1 x2 fu N w3 w4 else some (t, w3, w4, N)) Q
    by_cases ht : t = 0
    · rw [if_pos ht]
      obtain ⟨h3, h4⟩ := g1 ht
      exact ih N w3 w4 h3 (Nat.lt_of_lt_of_le h4 (Nat.le_of_lt_succ h2))
    · rw [if_neg ht]
      exact ⟨_, rfl, g2 ht⟩
theorem L_Wa_votesIn_22 (E : Ev) (x1 : Int) (x2 : Int) (M : Mm) {I : Int → Int → Prop} {μ : Int → Int → Nat} {Q : (Nat × Int × Int) → Prop} (hb : ∀ x3 x4, I x3 x4 → Ok (Wa_votesIn_22b E M x1 x2 x3 x4) (fun r => (r.1 = 0 → I r.2.1 r.2.2 ∧ μ r.2.1 r.2.2 < μ x3 x4) ∧ (r.1 ≠ 0 → Q r))) : ∀ (fu : Nat) (x3 : Int) (x4 : Int), I x3 x4 → μ x3 x4 < fu → Ok (l_Wa_votesIn_22 E x1 x2 fu M x3 x4) Q := by
  intro fu
  induction fu with
  | zero => intro x3 x4 h1 h2; exact absurd h2 (Nat.not_lt_zero _)
  | succ fu ih =>
    intro x3 x4 h1 h2
    obtain ⟨⟨t, w3, w4⟩, e, g1, g2⟩ := hb x3 x4 h1
    rw [l_Wa_votesIn_22, e]
    show Ok (if t = 0 then l_Wa_votesIn_22 E x1 x2 fu M w3 w4 else some (t, w3, w4)) Q
    by_cases ht : t = 0
    · rw [if_pos ht]
      obtain ⟨h3, h4⟩ := g1 ht
      exact ih w3 w4 h3 (Nat.lt_of_lt_of_le h4 (Nat.le_of_lt_succ h2))
    · rw [if_neg ht]
      exact ⟨_, rfl, g2 ht⟩
theorem L_B_districtsWon_32 (E : Ev) (x1 : Int) (x2 : Int) {I : Mm → Int → Int → Prop} {μ : Mm → Int → Int → Nat} {Q : (Nat × Int × Int × Mm) → Prop} (hb : ∀ M x3 x4, I M x3 x4 → Ok (B_districtsWon_32b E M x1 x2 x3 x4) (fun r => (r.1 = 0 → I r.2.2.2 r.2.1 r.2.2.1 ∧ μ r.2.2.2 r.2.1 r.2.2.1 < μ M x3 x4) ∧ (r.1 ≠ 0 → Q r))) : ∀ (fu : Nat) (M : Mm) (x3 : Int) (x4 : Int), I M x3 x4 → μ M x3 x4 < fu → Ok (l_B_districtsWon_32 E x1 x2 fu M x3 x4) Q := by
  intro fu
  induction fu with
  | zero => intro M x3 x4 h1 h2; exact absurd h2 (Nat.not_lt_zero _)
  | succ fu ih =>
    intro M x3 x4 h1 h2
    obtain ⟨⟨t, w3, w4, N⟩, e, g1, g2⟩ := hb M x3 x4 h1
    rw [l_B_districtsWon_32, e]
    show Ok (if t = 0 then l_B_districtsWon_32 E x1 x2 fu N w3 w4 else some (t, w3, w4, N)) Q
    by_cases ht : t = 0
    · rw [if_pos ht]
      obtain ⟨h3, h4⟩ := g1 ht
      exact ih N w3 w4 h3 (Nat.lt_of_lt_of_le h4 (Nat.le_of_lt_succ h2))
    · rw [if_neg ht]
      exact ⟨_, rfl, g2 ht⟩
theorem L_B_wasted_32 (E : Ev) (x1 : Int) (x2 : Int) {I : Mm → Int → Int → Prop} {μ : Mm → Int → Int → Nat} {Q : (Nat × Int × Int × Mm) → Prop} (hb : ∀ M x3 x4, I M x3 x4 → Ok (B_wasted_32b E M x1 x2 x3 x4) (fun r => (r.1 = 0 → I r.2.2.2 r.2.1 r.2.2.1 ∧ μ r.2.2.2 r.2.1 r.2.2.1 < μ M x3 x4) ∧ (r.1 ≠ 0 → Q r))) : ∀ (fu : Nat) (M : Mm) (x3 : Int) (x4 : Int), I M x3 x4 → μ M x3 x4 < fu → Ok (l_B_wasted_32 E x1 x2 fu M x3 x4) Q := by
  intro fu
  induction fu with
  | zero => intro M x3 x4 h1 h2; exact absurd h2 (Nat.not_lt_zero _)
  | succ fu ih =>
    intro M x3 x4 h1 h2
    obtain ⟨⟨t, w3, w4, N⟩, e, g1, g2⟩ := hb M x3 x4 h1
    rw [l_B_wasted_32, e]
    show Ok (if t = 0 then l_B_wasted_32 E x1 x2 fu N w3 w4 else some (t, w3, w4, N)) Q
    by_cases ht : t = 0
    · rw [if_pos ht]
      obtain ⟨h3, h4⟩ := g1 ht
      exact ih N w3 w4 h3 (Nat.lt_of_lt_of_le h4 (Nat.le_of_lt_succ h2))
    · rw [if_neg ht]
      exact ⟨_, rfl, g2 ht⟩
theorem L_La_districts_24 (q0 : Nat) (x2 : Int) (q3 : Nat) {I : Ev → Mm → Int → Prop} {μ : Ev → Mm → Int → Nat} {Q : (Nat × Int × Ev × Mm) → Prop} (hb : ∀ E M x4, I E M x4 → Ok (La_districts_24b E M q0 x2 q3 x4) (fun r => (r.1 = 0 → I r.2.2.1 r.2.2.2 r.2.1 ∧ μ r.2.2.1 r.2.2.2 r.2.1 < μ E M x4) ∧ (r.1 ≠ 0 → Q r))) : ∀ (fu : Nat) (E : Ev) (M : Mm) (x4 : Int), I E M x4 → μ E M x4 < fu → Ok (l_La_districts_24 q0 x2 q3 fu E M x4) Q := by
  intro fu
  induction fu with
  | zero => intro E M x4 h1 h2; exact absurd h2 (Nat.not_lt_zero _)
  | succ fu ih =>
    intro E M x4 h1 h2
    obtain ⟨⟨t, w4, F, N⟩, e, g1, g2⟩ := hb E M x4 h1
    rw [l_La_districts_24, e]
    show Ok (if t = 0 then l_La_districts_24 q0 x2 q3 fu F N w4 else some (t, w4, F, N)) Q
    by_cases ht : t = 0
    · rw [if_pos ht]
      obtain ⟨h3, h4⟩ := g1 ht
      exact ih F N w4 h3 (Nat.lt_of_lt_of_le h4 (Nat.le_of_lt_succ h2))
    · rw [if_neg ht]
      exact ⟨_, rfl, g2 ht⟩
theorem L_La_districts_136 (x2 : Int) (q3 : Nat) (x4 : Int) (x5 : Int) (q6 : Nat) (x7 : Int) (q10 : Nat) {I : Ev → Mm → Int → Int → Int → Int → Prop} {μ : Ev → Mm → Int → Int → Int → Int → Nat} {Q : (Nat × Int × Int × Int × Int × Ev × Mm) → Prop} (hb : ∀ E M x8 x9 x11 x12, I E M x8 x9 x11 x12 → Ok (La_districts_136b E M x2 q3 x4 x5 q6 x7 q10 x8 x9 x11 x12) (fun r => (r.1 = 0 → I r.2.2.2.2.2.1 r.2.2.2.2.2.2 r.2.1 r.2.2.1 r.2.2.2.1 r.2.2.2.2.1 ∧ μ r.2.2.2.2.2.1 r.2.2.2.2.2.2 r.2.1 r.2.2.1 r.2.2.2.1 r.2.2.2.2.1 < μ E M x8 x9 x11 x12) ∧ (r.1 ≠ 0 → Q r))) : ∀ (fu : Nat) (E : Ev) (M : Mm) (x8 : Int) (x9 : Int) (x11 : Int) (x12 : Int), I E M x8 x9 x11 x12 → μ E M x8 x9 x11 x12 < fu → Ok (l_La_districts_136 x2 q3 x4 x5 q6 x7 q10 fu E M x8 x9 x11 x12) Q := by
  intro fu
  induction fu with
  | zero => intro E M x8 x9 x11 x12 h1 h2; exact absurd h2 (Nat.not_lt_zero _)
  | succ fu ih =>
    intro E M x8 x9 x11 x12 h1 h2
    obtain ⟨⟨t, w8, w9, w11, w12, F, N⟩, e, g1, g2⟩ := hb E M x8 x9 x11 x12 h1
    rw [l_La_districts_136, e]
    show Ok (if t = 0 then l_La_districts_136 x2 q3 x4 x5 q6 x7 q10 fu F N w8 w9 w11 w12 else some (t, w8, w9, w11, w12, F, N)) Q
    by_cases ht : t = 0
    · rw [if_pos ht]
      obtain ⟨h3, h4⟩ := g1 ht
      exact ih F N w8 w9 w11 w12 h3 (Nat.lt_of_lt_of_le h4 (Nat.le_of_lt_succ h2))
    · rw [if_neg ht]
      exact ⟨_, rfl, g2 ht⟩
theorem L_La_districts_201 (x2 : Int) (q3 : Nat) (x4 : Int) (x5 : Int) (q6 : Nat) (x7 : Int) (x8 : Int) (q10 : Nat) {I : Ev → Mm → Int → Prop} {μ : Ev → Mm → Int → Nat} {Q : (Nat × Int × Ev × Mm) → Prop} (hb : ∀ E M x12, I E M x12 → Ok (La_districts_201b E M x2 q3 x4 x5 q6 x7 x8 q10 x12) (fun r => (r.1 = 0 → I r.2.2.1 r.2.2.2 r.2.1 ∧ μ r.2.2.1 r.2.2.2 r.2.1 < μ E M x12) ∧ (r.1 ≠ 0 → Q r))) : ∀ (fu : Nat) (E : Ev) (M : Mm) (x12 : Int), I E M x12 → μ E M x12 < fu → Ok (l_La_districts_201 x2 q3 x4 x5 q6 x7 x8 q10 fu E M x12) Q := by
  intro fu
  induction fu with
  | zero => intro E M x12 h1 h2; exact absurd h2 (Nat.not_lt_zero _)
  | succ fu ih =>
    intro E M x12 h1 h2
    obtain ⟨⟨t, w12, F, N⟩, e, g1, g2⟩ := hb E M x12 h1
    rw [l_La_districts_201, e]
    show Ok (if t = 0 then l_La_districts_201 x2 q3 x4 x5 q6 x7 x8 q10 fu F N w12 else some (t, w12, F, N)) Q
    by_cases ht : t = 0
    · rw [if_pos ht]
      obtain ⟨h3, h4⟩ := g1 ht
      exact ih F N w12 h3 (Nat.lt_of_lt_of_le h4 (Nat.le_of_lt_succ h2))
    · rw [if_neg ht]
      exact ⟨_, rfl, g2 ht⟩
theorem L_La_districts_93 (x2 : Int) (q3 : Nat) (x4 : Int) {I : Ev → Mm → Int → Nat → Int → Prop} {μ : Ev → Mm → Int → Nat → Int → Nat} {Q : (Nat × Int × Nat × Int × Ev × Mm) → Prop} (hb : ∀ E M x5 q6 x7, I E M x5 q6 x7 → Ok (La_districts_93b E M x2 q3 x4 x5 q6 x7) (fun r => (r.1 = 0 → I r.2.2.2.2.1 r.2.2.2.2.2 r.2.1 r.2.2.1 r.2.2.2.1 ∧ μ r.2.2.2.2.1 r.2.2.2.2.2 r.2.1 r.2.2.1 r.2.2.2.1 < μ E M x5 q6 x7) ∧ (r.1 ≠ 0 → Q r))) : ∀ (fu : Nat) (E : Ev) (M : Mm) (x5 : Int) (q6 : Nat) (x7 : Int), I E M x5 q6 x7 → μ E M x5 q6 x7 < fu → Ok (l_La_districts_93 x2 q3 x4 fu E M x5 q6 x7) Q := by
  intro fu
  induction fu with
  | zero => intro E M x5 q6 x7 h1 h2; exact absurd h2 (Nat.not_lt_zero _)
  | succ fu ih =>
    intro E M x5 q6 x7 h1 h2
    obtain ⟨⟨t, w5, w6, w7, F, N⟩, e, g1, g2⟩ := hb E M x5 q6 x7 h1
    rw [l_La_districts_93, e]
    show Ok (if t = 0 then l_La_districts_93 x2 q3 x4 fu F N w5 w6 w7 else some (t, w5, w6, w7, F, N)) Q
    by_cases ht : t = 0
    · rw [if_pos ht]
      obtain ⟨h3, h4⟩ := g1 ht
      exact ih F N w5 w6 w7 h3 (Nat.lt_of_lt_of_le h4 (Nat.le_of_lt_succ h2))
    · rw [if_neg ht]
      exact ⟨_, rfl, g2 ht⟩
theorem L_La_districts_291 (x4 : Int) (q6 : Nat) {I : Ev → Mm → Int → Int → Prop} {μ : Ev → Mm → Int → Int → Nat} {Q : (Nat × Int × Int × Ev × Mm) → Prop} (hb : ∀ E M x7 x8, I E M x7 x8 → Ok (La_districts_291b E M x4 q6 x7 x8) (fun r => (r.1 = 0 → I r.2.2.2.1 r.2.2.2.2 r.2.1 r.2.2.1 ∧ μ r.2.2.2.1 r.2.2.2.2 r.2.1 r.2.2.1 < μ E M x7 x8) ∧ (r.1 ≠ 0 → Q r))) : ∀ (fu : Nat) (E : Ev) (M : Mm) (x7 : Int) (x8 : Int), I E M x7 x8 → μ E M x7 x8 < fu → Ok (l_La_districts_291 x4 q6 fu E M x7 x8) Q := by
  intro fu
  induction fu with
  | zero => intro E M x7 x8 h1 h2; exact absurd h2 (Nat.not_lt_zero _)
  | succ fu ih =>
    intro E M x7 x8 h1 h2
    obtain ⟨⟨t, w7, w8, F, N⟩, e, g1, g2⟩ := hb E M x7 x8 h1
    rw [l_La_districts_291, e]
    show Ok (if t = 0 then l_La_districts_291 x4 q6 fu F N w7 w8 else some (t, w7, w8, F, N)) Q
    by_cases ht : t = 0
    · rw [if_pos ht]
      obtain ⟨h3, h4⟩ := g1 ht
      exact ih F N w7 w8 h3 (Nat.lt_of_lt_of_le h4 (Nat.le_of_lt_succ h2))
    · rw [if_neg ht]
      exact ⟨_, rfl, g2 ht⟩
theorem L_Cl_setsSwungBy_4 (E : Ev) (x1 : Int) (M : Mm) {I : Int → Int → Prop} {μ : Int → Int → Nat} {Q : (Nat × Int × Int) → Prop} (hb : ∀ x2 x3, I x2 x3 → Ok (Cl_setsSwungBy_4b E M x1 x2 x3) (fun r => (r.1 = 0 → I r.2.1 r.2.2 ∧ μ r.2.1 r.2.2 < μ x2 x3) ∧ (r.1 ≠ 0 → Q r))) : ∀ (fu : Nat) (x2 : Int) (x3 : Int), I x2 x3 → μ x2 x3 < fu → Ok (l_Cl_setsSwungBy_4 E x1 fu M x2 x3) Q := by
  intro fu
  induction fu with
  | zero => intro x2 x3 h1 h2; exact absurd h2 (Nat.not_lt_zero _)
  | succ fu ih =>
    intro x2 x3 h1 h2
    obtain ⟨⟨t, w2, w3⟩, e, g1, g2⟩ := hb x2 x3 h1
    rw [l_Cl_setsSwungBy_4, e]
    show Ok (if t = 0 then l_Cl_setsSwungBy_4 E x1 fu M w2 w3 else some (t, w2, w3)) Q
    by_cases ht : t = 0
    · rw [if_pos ht]
      obtain ⟨h3, h4⟩ := g1 ht
      exact ih w2 w3 h3 (Nat.lt_of_lt_of_le h4 (Nat.le_of_lt_succ h2))
    · rw [if_neg ht]
      exact ⟨_, rfl, g2 ht⟩
theorem L_La_council_30 (q0 : Nat) (x2 : Int) (q4 : Nat) {I : Ev → Mm → Int → Int → Int → Prop} {μ : Ev → Mm → Int → Int → Int → Nat} {Q : (Nat × Int × Int × Int × Ev × Mm) → Prop} (hb : ∀ E M x3 x5 x7, I E M x3 x5 x7 → Ok (La_council_30b E M q0 x2 q4 x3 x5 x7) (fun r => (r.1 = 0 → I r.2.2.2.2.1 r.2.2.2.2.2 r.2.1 r.2.2.1 r.2.2.2.1 ∧ μ r.2.2.2.2.1 r.2.2.2.2.2 r.2.1 r.2.2.1 r.2.2.2.1 < μ E M x3 x5 x7) ∧ (r.1 ≠ 0 → Q r))) : ∀ (fu : Nat) (E : Ev) (M : Mm) (x3 : Int) (x5 : Int) (x7 : Int), I E M x3 x5 x7 → μ E M x3 x5 x7 < fu → Ok (l_La_council_30 q0 x2 q4 fu E M x3 x5 x7) Q := by
  intro fu
  induction fu with
  | zero => intro E M x3 x5 x7 h1 h2; exact absurd h2 (Nat.not_lt_zero _)
  | succ fu ih =>
    intro E M x3 x5 x7 h1 h2
    obtain ⟨⟨t, w3, w5, w7, F, N⟩, e, g1, g2⟩ := hb E M x3 x5 x7 h1
    rw [l_La_council_30, e]
    show Ok (if t = 0 then l_La_council_30 q0 x2 q4 fu F N w3 w5 w7 else some (t, w3, w5, w7, F, N)) Q
    by_cases ht : t = 0
    · rw [if_pos ht]
      obtain ⟨h3, h4⟩ := g1 ht
      exact ih F N w3 w5 w7 h3 (Nat.lt_of_lt_of_le h4 (Nat.le_of_lt_succ h2))
    · rw [if_neg ht]
      exact ⟨_, rfl, g2 ht⟩
theorem L_La_council_136 (x2 : Int) (x3 : Int) (q4 : Nat) (x5 : Int) (x7 : Int) (x9 : Int) (x11 : Int) (x12 : Int) (x13 : Int) (x14 : Int) {I : Ev → Mm → Int → Int → Prop} {μ : Ev → Mm → Int → Int → Nat} {Q : (Nat × Int × Int × Ev × Mm) → Prop} (hb : ∀ E M x15 x16, I E M x15 x16 → Ok (La_council_136b E M x2 x3 q4 x5 x7 x9 x11 x12 x13 x14 x15 x16) (fun r => (r.1 = 0 → I r.2.2.2.1 r.2.2.2.2 r.2.1 r.2.2.1 ∧ μ r.2.2.2.1 r.2.2.2.2 r.2.1 r.2.2.1 < μ E M x15 x16) ∧ (r.1 ≠ 0 → Q r))) : ∀ (fu : Nat) (E : Ev) (M : Mm) (x15 : Int) (x16 : Int), I E M x15 x16 → μ E M x15 x16 < fu → Ok (l_La_council_136 x2 x3 q4 x5 x7 x9 x11 x12 x13 x14 fu E M x15 x16) Q := by
  intro fu
  induction fu with
  | zero => intro E M x15 x16 h1 h2; exact absurd h2 (Nat.not_lt_zero _)
  | succ fu ih =>
    intro E M x15 x16 h1 h2
    obtain ⟨⟨t, w15, w16, F, N⟩, e, g1, g2⟩ := hb E M x15 x16 h1
    rw [l_La_council_136, e]
    show Ok (if t = 0 then l_La_council_136 x2 x3 q4 x5 x7 x9 x11 x12 x13 x14 fu F N w15 w16 else some (t, w15, w16, F, N)) Q
    by_cases ht : t = 0
    · rw [if_pos ht]
      obtain ⟨h3, h4⟩ := g1 ht
      exact ih F N w15 w16 h3 (Nat.lt_of_lt_of_le h4 (Nat.le_of_lt_succ h2))
    · rw [if_neg ht]
      exact ⟨_, rfl, g2 ht⟩
theorem L_La_council_122 (x2 : Int) (x3 : Int) (q4 : Nat) (x5 : Int) (x7 : Int) (x9 : Int) (x11 : Int) (x12 : Int) {I : Ev → Mm → Int → Int → Prop} {μ : Ev → Mm → Int → Int → Nat} {Q : (Nat × Int × Int × Ev × Mm) → Prop} (hb : ∀ E M x13 x14, I E M x13 x14 → Ok (La_council_122b E M x2 x3 q4 x5 x7 x9 x11 x12 x13 x14) (fun r => (r.1 = 0 → I r.2.2.2.1 r.2.2.2.2 r.2.1 r.2.2.1 ∧ μ r.2.2.2.1 r.2.2.2.2 r.2.1 r.2.2.1 < μ E M x13 x14) ∧ (r.1 ≠ 0 → Q r))) : ∀ (fu : Nat) (E : Ev) (M : Mm) (x13 : Int) (x14 : Int), I E M x13 x14 → μ E M x13 x14 < fu → Ok (l_La_council_122 x2 x3 q4 x5 x7 x9 x11 x12 fu E M x13 x14) Q := by
  intro fu
  induction fu with
  | zero => intro E M x13 x14 h1 h2; exact absurd h2 (Nat.not_lt_zero _)
  | succ fu ih =>
    intro E M x13 x14 h1 h2
    obtain ⟨⟨t, w13, w14, F, N⟩, e, g1, g2⟩ := hb E M x13 x14 h1
    rw [l_La_council_122, e]
    show Ok (if t = 0 then l_La_council_122 x2 x3 q4 x5 x7 x9 x11 x12 fu F N w13 w14 else some (t, w13, w14, F, N)) Q
    by_cases ht : t = 0
    · rw [if_pos ht]
      obtain ⟨h3, h4⟩ := g1 ht
      exact ih F N w13 w14 h3 (Nat.lt_of_lt_of_le h4 (Nat.le_of_lt_succ h2))
    · rw [if_neg ht]
      exact ⟨_, rfl, g2 ht⟩
theorem L_La_council_110 (x2 : Int) (x3 : Int) (q4 : Nat) (x5 : Int) (x7 : Int) {I : Ev → Mm → Int → Int → Int → Prop} {μ : Ev → Mm → Int → Int → Int → Nat} {Q : (Nat × Int × Int × Int × Ev × Mm) → Prop} (hb : ∀ E M x9 x11 x12, I E M x9 x11 x12 → Ok (La_council_110b E M x2 x3 q4 x5 x7 x9 x11 x12) (fun r => (r.1 = 0 → I r.2.2.2.2.1 r.2.2.2.2.2 r.2.1 r.2.2.1 r.2.2.2.1 ∧ μ r.2.2.2.2.1 r.2.2.2.2.2 r.2.1 r.2.2.1 r.2.2.2.1 < μ E M x9 x11 x12) ∧ (r.1 ≠ 0 → Q r))) : ∀ (fu : Nat) (E : Ev) (M : Mm) (x9 : Int) (x11 : Int) (x12 : Int), I E M x9 x11 x12 → μ E M x9 x11 x12 < fu → Ok (l_La_council_110 x2 x3 q4 x5 x7 fu E M x9 x11 x12) Q := by
  intro fu
  induction fu with
  | zero => intro E M x9 x11 x12 h1 h2; exact absurd h2 (Nat.not_lt_zero _)
  | succ fu ih =>
    intro E M x9 x11 x12 h1 h2
    obtain ⟨⟨t, w9, w11, w12, F, N⟩, e, g1, g2⟩ := hb E M x9 x11 x12 h1
    rw [l_La_council_110, e]
    show Ok (if t = 0 then l_La_council_110 x2 x3 q4 x5 x7 fu F N w9 w11 w12 else some (t, w9, w11, w12, F, N)) Q
    by_cases ht : t = 0
    · rw [if_pos ht]
      obtain ⟨h3, h4⟩ := g1 ht
      exact ih F N w9 w11 w12 h3 (Nat.lt_of_lt_of_le h4 (Nat.le_of_lt_succ h2))
    · rw [if_neg ht]
      exact ⟨_, rfl, g2 ht⟩
theorem L_La_law_11 (L : Nat) (xs : Nat → Int32) (q1 : Nat) {I : Ev → Mm → Int → Prop} {μ : Ev → Mm → Int → Nat} {Q : (Nat × Int × Ev × Mm) → Prop} (hb : ∀ E M x2, I E M x2 → Ok (La_law_11b L xs E M q1 x2) (fun r => (r.1 = 0 → I r.2.2.1 r.2.2.2 r.2.1 ∧ μ r.2.2.1 r.2.2.2 r.2.1 < μ E M x2) ∧ (r.1 ≠ 0 → Q r))) : ∀ (fu : Nat) (E : Ev) (M : Mm) (x2 : Int), I E M x2 → μ E M x2 < fu → Ok (l_La_law_11 L xs q1 fu E M x2) Q := by
  intro fu
  induction fu with
  | zero => intro E M x2 h1 h2; exact absurd h2 (Nat.not_lt_zero _)
  | succ fu ih =>
    intro E M x2 h1 h2
    obtain ⟨⟨t, w2, F, N⟩, e, g1, g2⟩ := hb E M x2 h1
    rw [l_La_law_11, e]
    show Ok (if t = 0 then l_La_law_11 L xs q1 fu F N w2 else some (t, w2, F, N)) Q
    by_cases ht : t = 0
    · rw [if_pos ht]
      obtain ⟨h3, h4⟩ := g1 ht
      exact ih F N w2 h3 (Nat.lt_of_lt_of_le h4 (Nat.le_of_lt_succ h2))
    · rw [if_neg ht]
      exact ⟨_, rfl, g2 ht⟩
theorem L_La_law_78 (L : Nat) (xs : Nat → Int32) (q1 : Nat) (q3 : Nat) {I : Ev → Mm → Int → Prop} {μ : Ev → Mm → Int → Nat} {Q : (Nat × Int × Ev × Mm) → Prop} (hb : ∀ E M x4, I E M x4 → Ok (La_law_78b L xs E M q1 q3 x4) (fun r => (r.1 = 0 → I r.2.2.1 r.2.2.2 r.2.1 ∧ μ r.2.2.1 r.2.2.2 r.2.1 < μ E M x4) ∧ (r.1 ≠ 0 → Q r))) : ∀ (fu : Nat) (E : Ev) (M : Mm) (x4 : Int), I E M x4 → μ E M x4 < fu → Ok (l_La_law_78 L xs q1 q3 fu E M x4) Q := by
  intro fu
  induction fu with
  | zero => intro E M x4 h1 h2; exact absurd h2 (Nat.not_lt_zero _)
  | succ fu ih =>
    intro E M x4 h1 h2
    obtain ⟨⟨t, w4, F, N⟩, e, g1, g2⟩ := hb E M x4 h1
    rw [l_La_law_78, e]
    show Ok (if t = 0 then l_La_law_78 L xs q1 q3 fu F N w4 else some (t, w4, F, N)) Q
    by_cases ht : t = 0
    · rw [if_pos ht]
      obtain ⟨h3, h4⟩ := g1 ht
      exact ih F N w4 h3 (Nat.lt_of_lt_of_le h4 (Nat.le_of_lt_succ h2))
    · rw [if_neg ht]
      exact ⟨_, rfl, g2 ht⟩
theorem L_La_law_112 (L : Nat) (xs : Nat → Int32) (q1 : Nat) (q3 : Nat) {I : Ev → Mm → Int → Int → Prop} {μ : Ev → Mm → Int → Int → Nat} {Q : (Nat × Int × Int × Ev × Mm) → Prop} (hb : ∀ E M x4 x5, I E M x4 x5 → Ok (La_law_112b L xs E M q1 q3 x4 x5) (fun r => (r.1 = 0 → I r.2.2.2.1 r.2.2.2.2 r.2.1 r.2.2.1 ∧ μ r.2.2.2.1 r.2.2.2.2 r.2.1 r.2.2.1 < μ E M x4 x5) ∧ (r.1 ≠ 0 → Q r))) : ∀ (fu : Nat) (E : Ev) (M : Mm) (x4 : Int) (x5 : Int), I E M x4 x5 → μ E M x4 x5 < fu → Ok (l_La_law_112 L xs q1 q3 fu E M x4 x5) Q := by
  intro fu
  induction fu with
  | zero => intro E M x4 x5 h1 h2; exact absurd h2 (Nat.not_lt_zero _)
  | succ fu ih =>
    intro E M x4 x5 h1 h2
    obtain ⟨⟨t, w4, w5, F, N⟩, e, g1, g2⟩ := hb E M x4 x5 h1
    rw [l_La_law_112, e]
    show Ok (if t = 0 then l_La_law_112 L xs q1 q3 fu F N w4 w5 else some (t, w4, w5, F, N)) Q
    by_cases ht : t = 0
    · rw [if_pos ht]
      obtain ⟨h3, h4⟩ := g1 ht
      exact ih F N w4 w5 h3 (Nat.lt_of_lt_of_le h4 (Nat.le_of_lt_succ h2))
    · rw [if_neg ht]
      exact ⟨_, rfl, g2 ht⟩
