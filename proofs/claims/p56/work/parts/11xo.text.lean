/-! A WRITTEN BALLOT -/
/-- the rank of the i-th that is written; sp i stands before it -/
def wr (sp : Nat → Nat) : Nat → Nat
  | 0 => 0
  | i + 1 => wr sp i + (if sp (i + 1) = 61 then 0 else 1)
/-- the set of the first i -/
def wu (o : Nat → Nat) : Nat → Nat
  | 0 => 0
  | i + 1 => wu o i ||| 2 ^ o i
/-- the group g of the first i -/
def wg (o sp : Nat → Nat) (g : Nat) : Nat → Nat
  | 0 => 0
  | i + 1 => if wr sp i = g then wg o sp g i ||| 2 ^ o i else wg o sp g i
/-- the groups of the first i -/
def wc (sp : Nat → Nat) : Nat → Nat
  | 0 => 0
  | i + 1 => wr sp i + 1
/-- what a bar among the first i signs between sets off -/
def wbar (o sp : Nat → Nat) : Nat → Int
  | 0 => -1
  | i + 1 => if sp (i + 1) = 124 then (wu o (i + 1) : Int) else wbar o sp i
def wRr (o sp : Nat → Nat) (G : Nat) : Nat → Nat → Nat
  | 0, _ => G
  | i + 1, c => if c = o i then wr sp i else wRr o sp G i c
def wx (sp : Nat → Nat) (i : Nat) : Int := if i = 0 ∨ sp i ≠ 61 then 1 else 0
def WT (n kw : Nat) (o sp : Nat → Nat) : Prop := kw ≤ n ∧ (∀ i, i < kw → o i < n) ∧ (∀ i j, i < kw → j < kw → o i = o j → i = j) ∧ ∀ i, i + 1 < kw → sp (i + 1) = 61 ∨ sp (i + 1) = 62 ∨ (sp (i + 1) = 124 ∧ wbar o sp i = -1)
def tx (o sp : Nat → Nat) (p : Nat) : Nat := if p % 2 = 0 then 65 + o (p / 2) else sp (p / 2 + 1)
theorem tx_0 (o sp : Nat → Nat) (i : Nat) : tx o sp (2 * i) = 65 + o i := by
  unfold tx
  rw [if_pos (by omega), show 2 * i / 2 = i by omega]
theorem tx_1 (o sp : Nat → Nat) (i : Nat) : tx o sp (2 * i + 1) = sp (i + 1) := by
  unfold tx
  rw [if_neg (by omega), show (2 * i + 1) / 2 = i by omega]
theorem wx_or (sp : Nat → Nat) (i : Nat) : (wx sp i = 1 ∧ wc sp i = wr sp i) ∨ (wx sp i = 0 ∧ wc sp i = wr sp i + 1) := by
  cases i with
  | zero => exact Or.inl ⟨by unfold wx; rw [if_pos (Or.inl rfl)], rfl⟩
  | succ i =>
    have e : wr sp (i + 1) = wr sp i + (if sp (i + 1) = 61 then 0 else 1) := rfl
    have f : wc sp (i + 1) = wr sp i + 1 := rfl
    by_cases c : sp (i + 1) = 61
    · rw [if_pos c] at e
      exact Or.inr ⟨by unfold wx; rw [if_neg (by omega)], by omega⟩
    · rw [if_neg c] at e
      exact Or.inl ⟨by unfold wx; rw [if_pos (Or.inr c)], by omega⟩
theorem wr_le (sp : Nat → Nat) : ∀ i, wr sp i ≤ i
  | 0 => Nat.le_refl 0
  | i + 1 => by
    have := wr_le sp i
    show wr sp i + (if sp (i + 1) = 61 then 0 else 1) ≤ i + 1
    by_cases c : sp (i + 1) = 61
    · rw [if_pos c]; omega
    · rw [if_neg c]; omega
theorem wr_up (sp : Nat → Nat) (i : Nat) : wr sp i ≤ wr sp (i + 1) := by
  show wr sp i ≤ wr sp i + _
  omega
theorem wr_mono (sp : Nat → Nat) {j : Nat} : ∀ {i : Nat}, j ≤ i → wr sp j ≤ wr sp i
  | 0, h => by rw [show j = 0 by omega]; exact Nat.le_refl _
  | i + 1, h => by
    by_cases e : j = i + 1
    · rw [e]; exact Nat.le_refl _
    · exact Nat.le_trans (wr_mono sp (by omega)) (wr_up sp i)
theorem wc_lt (sp : Nat → Nat) {j kw : Nat} (h : j < kw) : wr sp j < wc sp kw := by
  cases kw with
  | zero => omega
  | succ k => exact Nat.lt_succ_of_le (wr_mono sp (by omega))
theorem wc_le (sp : Nat → Nat) (kw : Nat) : wc sp kw ≤ kw := by
  cases kw with
  | zero => exact Nat.le_refl 0
  | succ k => exact Nat.succ_le_succ (wr_le sp k)
theorem wc_ex (sp : Nat → Nat) : ∀ {kw g : Nat}, g < wc sp kw → ∃ j, j < kw ∧ wr sp j = g
  | 0, _, h => absurd h (Nat.not_lt_zero _)
  | k + 1, g, h => by
    have h : g < wr sp k + 1 := h
    by_cases e : g = wr sp k
    · exact ⟨k, by omega, e.symm⟩
    · obtain ⟨j, h1, h2⟩ := wc_ex (kw := k) sp (g := g) (by rcases wx_or sp k with ⟨-, q⟩ | ⟨-, q⟩ <;> omega)
      exact ⟨j, by omega, h2⟩
theorem wu_tb (o : Nat → Nat) (c : Nat) : ∀ i, (wu o i).testBit c = true ↔ ∃ j, j < i ∧ o j = c
  | 0 => by
    show (0 : Nat).testBit c = true ↔ _
    rw [Nat.zero_testBit]
    exact ⟨fun q => (by cases q), fun ⟨j, h, _⟩ => absurd h (Nat.not_lt_zero _)⟩
  | i + 1 => by
    show (wu o i ||| 2 ^ o i).testBit c = true ↔ _
    rw [Nat.testBit_or, Bool.or_eq_true, one_tb, wu_tb o c i]
    constructor
    · rintro (⟨j, h1, h2⟩ | h)
      · exact ⟨j, by omega, h2⟩
      · exact ⟨i, by omega, of_decide_eq_true h⟩
    · rintro ⟨j, h1, h2⟩
      by_cases e : j = i
      · rw [e] at h2; exact Or.inr (decide_eq_true h2)
      · exact Or.inl ⟨j, by omega, h2⟩
theorem wg_tb (o sp : Nat → Nat) (g c : Nat) : ∀ i, (wg o sp g i).testBit c = true ↔ ∃ j, j < i ∧ o j = c ∧ wr sp j = g
  | 0 => by
    show (0 : Nat).testBit c = true ↔ _
    rw [Nat.zero_testBit]
    exact ⟨fun q => (by cases q), fun ⟨j, h, _⟩ => absurd h (Nat.not_lt_zero _)⟩
  | i + 1 => by
    have ih := wg_tb o sp g c i
    show (if wr sp i = g then wg o sp g i ||| 2 ^ o i else wg o sp g i).testBit c = true ↔ _
    by_cases e : wr sp i = g
    · rw [if_pos e, Nat.testBit_or, Bool.or_eq_true, one_tb, ih]
      constructor
      · rintro (⟨j, h1, h2⟩ | h)
        · exact ⟨j, by omega, h2⟩
        · exact ⟨i, by omega, of_decide_eq_true h, e⟩
      · rintro ⟨j, h1, h2, h3⟩
        by_cases f : j = i
        · rw [f] at h2; exact Or.inr (decide_eq_true h2)
        · exact Or.inl ⟨j, by omega, h2, h3⟩
    · rw [if_neg e, ih]
      constructor
      · rintro ⟨j, h1, h2⟩
        exact ⟨j, by omega, h2⟩
      · rintro ⟨j, h1, h2, h3⟩
        by_cases f : j = i
        · rw [f] at h3; exact absurd h3 e
        · exact ⟨j, by omega, h2, h3⟩
theorem wu_lt {o : Nat → Nat} {n kw : Nat} (h : ∀ i, i < kw → o i < n) : ∀ i, i ≤ kw → wu o i < 2 ^ n := fun i hi => lt_tb fun c hc => by
  cases q : (wu o i).testBit c with
  | false => rfl
  | true =>
    obtain ⟨j, h1, h2⟩ := (wu_tb o c i).mp q
    have := h j (by omega)
    omega
theorem wg_lt {o sp : Nat → Nat} {n kw g : Nat} (h : ∀ i, i < kw → o i < n) : ∀ i, i ≤ kw → wg o sp g i < 2 ^ n := fun i hi => lt_tb fun c hc => by
  cases q : (wg o sp g i).testBit c with
  | false => rfl
  | true =>
    obtain ⟨j, h1, h2, -⟩ := (wg_tb o sp g c i).mp q
    have := h j (by omega)
    omega
theorem wb_lt {o sp : Nat → Nat} {n kw : Nat} (h : ∀ i, i < kw → o i < n) : ∀ i, i ≤ kw → wbar o sp i = -1 ∨ ∃ a : Nat, wbar o sp i = (a : Int) ∧ a < 2 ^ n
  | 0, _ => Or.inl rfl
  | i + 1, hi => by
    show (if sp (i + 1) = 124 then (wu o (i + 1) : Int) else wbar o sp i) = -1 ∨ ∃ a : Nat, (if sp (i + 1) = 124 then (wu o (i + 1) : Int) else wbar o sp i) = (a : Int) ∧ a < 2 ^ n
    by_cases e : sp (i + 1) = 124
    · rw [if_pos e]; exact Or.inr ⟨_, rfl, wu_lt h _ hi⟩
    · rw [if_neg e]; exact wb_lt h i (by omega)
theorem wR_or {o sp : Nat → Nat} {G kw : Nat} (hinj : ∀ i j, i < kw → j < kw → o i = o j → i = j) (c : Nat) : ∀ m, m ≤ kw → (∃ j, j < m ∧ o j = c ∧ wRr o sp G m c = wr sp j) ∨ ((∀ j, j < m → o j ≠ c) ∧ wRr o sp G m c = G)
  | 0, _ => Or.inr ⟨fun j hj => absurd hj (Nat.not_lt_zero j), rfl⟩
  | m + 1, h => by
    show (∃ j, j < m + 1 ∧ o j = c ∧ (if c = o m then wr sp m else wRr o sp G m c) = wr sp j) ∨ ((∀ j, j < m + 1 → o j ≠ c) ∧ (if c = o m then wr sp m else wRr o sp G m c) = G)
    by_cases e : c = o m
    · rw [if_pos e]; exact Or.inl ⟨m, by omega, e.symm, rfl⟩
    · rw [if_neg e]
      rcases wR_or hinj c m (by omega) with ⟨j, h1, h2, h3⟩ | ⟨h1, h2⟩
      · exact Or.inl ⟨j, by omega, h2, h3⟩
      · refine Or.inr ⟨fun j hj q => ?_, h2⟩
        by_cases f : j = m
        · rw [f] at q; exact e q.symm
        · exact h1 j (by omega) q
theorem wR_at {o sp : Nat → Nat} {G kw j : Nat} (hinj : ∀ i j, i < kw → j < kw → o i = o j → i = j) (hj : j < kw) : wRr o sp G kw (o j) = wr sp j := by
  rcases wR_or (sp := sp) (G := G) hinj (o j) kw (Nat.le_refl _) with ⟨i, h1, h2, h3⟩ | ⟨h1, -⟩
  · rw [h3, hinj i j h1 hj h2]
  · exact absurd rfl (h1 j hj)
def apv (o sp : Nat → Nat) (kw : Nat) : Nat := if wbar o sp (kw - 1) = -1 then wg o sp 0 kw else (wbar o sp (kw - 1)).toNat
/-- the trial row as far as i are read -/
def WZ (M N : Mm) (o sp : Nat → Nat) (i : Nat) : Prop := Off oTr M N ∧ (∀ k, k ≠ 30 → N 6 k = M 6 k ∧ N 7 k = M 7 k) ∧ N 7 30 = (wc sp i : Int) ∧ ∀ g, g < 8 → N 39 g = (wg o sp g i : Int)
theorem WZ.rk {M N : Mm} {o sp : Nat → Nat} {n kw a : Nat} (h : WZ M N o sp kw) (hW : WT n kw o sp) (hn : n ≤ 8) (ha : a < 2 ^ n) : Rk (u2 N 6 30 (a : Int)) 30 n (wc sp kw) (wRr o sp (wc sp kw) kw) a := by
  obtain ⟨h1, h2, h3, h4⟩ := h
  obtain ⟨w1, w2, w3, w4⟩ := hW
  have wl' := wc_le sp kw
  refine ⟨by rw [u2_ne (Or.inl (by decide))]; exact h3, u2_at _ _ _ _, by omega, ha, fun g hg => ?_, fun c hc => ?_, fun g hg => ?_⟩
  · rw [u2_ne (Or.inl (by decide)), h4 g (by omega)]
    refine congrArg _ (eq_tb (wg_lt w2 kw (Nat.le_refl _)) (gS_lt _ n g) fun i hi => Bool.eq_iff_iff.mpr ?_)
    rw [wg_tb, gS_tb hi, decide_eq_true_iff]
    rcases wR_or (sp := sp) (G := wc sp kw) w3 i kw (Nat.le_refl _) with ⟨j, q1, q2, q3⟩ | ⟨q1, q2⟩
    · rw [q3]
      constructor
      · rintro ⟨l, l1, l2, l3⟩
        rw [← w3 l j l1 q1 (by omega)]; exact l3
      · intro e
        exact ⟨j, q1, q2, e⟩
    · rw [q2]
      constructor
      · rintro ⟨l, l1, l2, l3⟩
        exact absurd l2 (q1 l l1)
      · intro e
        omega
  · rcases wR_or (sp := sp) (G := wc sp kw) w3 c kw (Nat.le_refl _) with ⟨j, q1, q2, q3⟩ | ⟨q1, q2⟩
    · rw [q3]; exact Nat.le_of_lt (wc_lt sp q1)
    · rw [q2]; exact Nat.le_refl _
  · obtain ⟨j, j1, j2⟩ := wc_ex sp hg
    exact ⟨o j, w2 j j1, by rw [wR_at w3 j1]; exact j2⟩
theorem readLoop_ok {E : Ev} {M B : Mm} {n kw : Nat} {o sp : Nat → Nat} (hW : WT n kw o sp) (hn : n ≤ 8) (hk1 : 1 ≤ kw) (h22 : M 2 2 = (n : Int)) (hT : M 2 1 = ((2 * kw - 1 : Nat) : Int)) (hs : ∀ i, i < 2 * kw - 1 → M 3 i = (tx o sp i : Int)) (hB : WZ M B o sp 0) : Ok (l_Bx_readTrial_27 E FU B 0 (-1) 1 1 0) (fun r => r.1 = 3 ∧ r.2.2.2.2.1 = 0 ∧ r.2.2.1 = wbar o sp (kw - 1) ∧ WZ M r.2.2.2.2.2.2 o sp kw) := by
  have hpw := pow_lt hn
  obtain ⟨w1, w2, w3, w4⟩ := hW
  refine L_Bx_readTrial_27 E (I := fun N x1 x2 x3 x4 x5 => ∃ i, i < kw ∧ ((x4 = 1 ∧ x5 = ((2 * i : Nat) : Int) ∧ x1 = (wu o i : Int) ∧ x2 = wbar o sp i ∧ x3 = wx sp i ∧ WZ M N o sp i) ∨ (x4 = 0 ∧ x5 = ((2 * i + 1 : Nat) : Int) ∧ x1 = (wu o (i + 1) : Int) ∧ x2 = wbar o sp i ∧ WZ M N o sp (i + 1)))) (μ := fun _ _ _ _ _ x5 => 16 - x5.toNat) ?_ FU B 0 (-1) 1 1 0 ⟨0, by omega, Or.inl ⟨rfl, rfl, rfl, rfl, rfl, hB⟩⟩ (by decide)
  rintro N x1 x2 x3 x4 x5 ⟨i, hi, ⟨rfl, rfl, rfl, rfl, rfl, hN⟩ | ⟨rfl, rfl, rfl, rfl, hN⟩⟩
  · have hNN := hN
    obtain ⟨n1, n2, n3, n4⟩ := hN
    have oi := w2 i hi
    have e3 : N 3 (2 * i) = ((65 + o i : Nat) : Int) := by rw [n1 3 (by unfold oTr; decide), hs _ (by omega), tx_0]
    have e65 : ((65 + o i : Nat) : Int) - 65 = (o i : Int) := by omega
    have ul := wu_lt w2 i (by omega)
    have po := Nat.pow_lt_pow_right (a := 2) (by decide) oi
    have po0 := Nat.two_pow_pos (o i)
    have hno : ¬ (wu o i).testBit (o i) = true := fun q => by
      obtain ⟨j, h1, h2⟩ := (wu_tb o (o i) i).mp q
      have := w3 j i (by omega) hi h2
      omega
    unfold Bx_readTrial_27b
    rw [n1 2 (by unfold oTr; decide), hT, h22, Int.toNat_natCast, e3, e65]
    refine ok_ck (rgN (by omega)) (ok_ck (rgN (by omega)) (ok_if (fun q => by omega) (fun _ => ok_ck (inN (by omega) (by decide)) (ok_ck (by decide) (ok_if (fun q => absurd q (by decide)) (fun _ => ok_ck (rgN (by omega)) (ok_if (fun q => by omega) (fun _ => ok_ck (rgN (by omega)) (ok_if (fun q => by omega) (fun _ => ?_))))))))))
    rw [has_tb (by omega) (by omega), if_neg hno, Int.toNat_natCast, p2, orI_nat]
    refine ok_sb (ok_ck (by decide) (ok_if (fun _ => ok_ck ⟨by omega, by omega⟩ (ok_ck ⟨by omega, by omega⟩ (ok_ck ⟨by omega, by omega⟩ (ok_nb ?_)))) (fun q => absurd rfl q)))
    have wri := wr_le sp i
    have wgl := wg_lt (sp := sp) (g := wr sp i) w2 i (by omega)
    have ix : (if wx sp i = 1 then wc sp i else wc sp i - 1) = wr sp i := by
      rcases wx_or sp i with ⟨a, b⟩ | ⟨a, b⟩
      · rw [a, if_pos rfl, b]
      · rw [a, if_neg (by decide), b]; rfl
    refine ok_bm (rankOn_ok (c := o i) (g := wc sp i) (S := wg o sp (wr sp i) i) (x := wx sp i) (by omega) (by rcases wx_or sp i with ⟨a, b⟩ | ⟨a, b⟩ <;> omega) n3 (fun a => by rcases wx_or sp i with ⟨_, b⟩ | ⟨a', b⟩ <;> omega) (fun a => by rcases wx_or sp i with ⟨_, b⟩ | ⟨a', b⟩ <;> omega) (by rw [ix]; exact n4 _ (by omega)) (by omega)) ?_
    rintro K ⟨k1, k2, k3, k4⟩
    rw [ix] at k4
    have hK : WZ M K o sp (i + 1) := by
      refine ⟨n1.trans (k1.mono fun c hc => by unfold oTr; omega), fun k hk => ⟨by rw [k1 6 (by decide)]; exact (n2 k hk).1, by rw [k2 k hk]; exact (n2 k hk).2⟩, ?_, fun g hg => ?_⟩
      · rw [k3]
        have : wc sp (i + 1) = wr sp i + 1 := rfl
        rcases wx_or sp i with ⟨a, b⟩ | ⟨a, b⟩
        · rw [if_pos a]; omega
        · rw [if_neg (by omega)]; omega
      · rw [k4 g]
        show _ = (((if wr sp i = g then wg o sp g i ||| 2 ^ o i else wg o sp g i) : Nat) : Int)
        by_cases e : g = wr sp i
        · rw [if_pos e, if_pos e.symm, e]
        · rw [if_neg e, if_neg (fun q => e q.symm)]; exact n4 g hg
    unfold Bx_readTrial_j134
    refine ok_ck (rgN (by omega)) (ok_if (fun q => by omega) (fun _ => ?_))
    unfold Bx_readTrial_j146
    refine ok_ck (by decide) (ok_if (fun q => absurd q (by decide)) (fun _ => ok_some (ok_go rfl ⟨⟨i, hi, Or.inr ⟨rfl, rfl, rfl, rfl, hK⟩⟩, ?_⟩)))
    show 16 - (((2 * i : Nat) : Int) + 1).toNat < 16 - ((2 * i : Nat) : Int).toNat
    omega
  · have hNN := hN
    obtain ⟨n1, n2, n3, n4⟩ := hN
    have ul := wu_lt w2 (i + 1) (by omega)
    unfold Bx_readTrial_27b
    rw [n1 2 (by unfold oTr; decide), hT, Int.toNat_natCast]
    refine ok_ck (rgN (by omega)) (ok_ck (rgN (by omega)) (ok_if (fun q => ?_) (fun q => ?_)))
    · have e : kw = i + 1 := by omega
      subst e
      exact ok_some (ok_out (by show (3 : Nat) ≠ 0; decide) ⟨rfl, rfl, rfl, hNN⟩)
    · have hik : i + 1 < kw := by omega
      have e3 : N 3 (2 * i + 1) = ((sp (i + 1) : Nat) : Int) := by rw [n1 3 (by unfold oTr; decide), hs _ (by omega), tx_1]
      rw [e3]
      have dec : 16 - ((((2 * i + 1 : Nat) : Int)) + 1).toNat < 16 - (((2 * i + 1 : Nat) : Int)).toNat := by omega
      have e2 : ((2 * i + 1 : Nat) : Int) + 1 = ((2 * (i + 1) : Nat) : Int) := by omega
      have wbs : wbar o sp (i + 1) = if sp (i + 1) = 124 then (wu o (i + 1) : Int) else wbar o sp i := rfl
      have wxs : wx sp (i + 1) = if i + 1 = 0 ∨ sp (i + 1) ≠ 61 then 1 else 0 := rfl
      refine ok_ck (inN (by omega) (by decide)) (ok_ck (by decide) (ok_if (fun _ => ?_) (fun q => absurd rfl q)))
      rcases w4 i hik with e | e | ⟨e, eb⟩
      · rw [e]
        rw [e, if_neg (by decide)] at wbs
        rw [e, if_neg (by omega)] at wxs
        refine ok_ck (by decide) (ok_if (fun z => absurd z (by decide)) (fun _ => ?_))
        unfold Bx_readTrial_j117
        refine ok_ck (by decide) (ok_if (fun z => absurd z (by decide)) (fun _ => ok_if (fun _ => ?_) (fun z => absurd rfl z)))
        unfold Bx_readTrial_j134
        refine ok_ck (by decide) (ok_if (fun _ => ?_) (fun z => absurd rfl z))
        unfold Bx_readTrial_j146
        exact ok_ck (by decide) (ok_if (fun _ => ok_some (ok_go rfl ⟨⟨i + 1, hik, Or.inl ⟨rfl, e2, rfl, wbs.symm, wxs.symm, hNN⟩⟩, dec⟩)) (fun z => absurd rfl z))
      · rw [e]
        rw [e, if_neg (by decide)] at wbs
        rw [e, if_pos (by omega)] at wxs
        refine ok_ck (by decide) (ok_if (fun z => absurd z (by decide)) (fun _ => ?_))
        unfold Bx_readTrial_j117
        refine ok_ck (by decide) (ok_if (fun _ => ?_) (fun z => absurd rfl z))
        unfold Bx_readTrial_j134
        refine ok_ck (by decide) (ok_if (fun z => absurd z (by decide)) (fun _ => ?_))
        unfold Bx_readTrial_j146
        exact ok_ck (by decide) (ok_if (fun _ => ok_some (ok_go rfl ⟨⟨i + 1, hik, Or.inl ⟨rfl, e2, rfl, wbs.symm, wxs.symm, hNN⟩⟩, dec⟩)) (fun z => absurd rfl z))
      · rw [e]
        rw [e, if_pos rfl] at wbs
        rw [e, if_pos (by omega)] at wxs
        refine ok_ck (by decide) (ok_if (fun _ => ok_ck (by rw [eb]; decide) (ok_if (fun _ => ?_) (fun z => absurd eb z))) (fun z => absurd rfl z))
        unfold Bx_readTrial_j134
        refine ok_ck (by decide) (ok_if (fun z => absurd z (by decide)) (fun _ => ?_))
        unfold Bx_readTrial_j146
        exact ok_ck (by decide) (ok_if (fun _ => ok_some (ok_go rfl ⟨⟨i + 1, hik, Or.inl ⟨rfl, e2, rfl, wbs.symm, wxs.symm, hNN⟩⟩, dec⟩)) (fun z => absurd rfl z))
theorem readTrial_ok {E : Ev} {M : Mm} {n kw : Nat} {o sp : Nat → Nat} (hL : Lay E) (hW : WT n kw o sp) (hn : n ≤ 8) (h22 : M 2 2 = (n : Int)) (hT : M 2 1 = ((2 * kw - 1 : Nat) : Int)) (hs : ∀ i, i < 2 * kw - 1 → M 3 i = (tx o sp i : Int)) : Ok (f_Bx_readTrial E M) (fun r => r.1 = -1 ∧ Off oTr M r.2 ∧ (∀ k, k ≠ 30 → r.2 6 k = M 6 k ∧ r.2 7 k = M 7 k) ∧ Rk r.2 30 n (wc sp kw) (wRr o sp (wc sp kw) kw) (apv o sp kw)) := by
  have hpw := pow_lt hn
  have hWW := hW
  obtain ⟨w1, w2, w3, w4⟩ := hW
  unfold f_Bx_readTrial
  refine ok_bm (clearTrial_ok hL) ?_
  rintro B ⟨b1, b2, b3, b4, b5⟩
  have hB : WZ M B o sp 0 := ⟨b1.mono fun c hc => by unfold oTr; omega, b2, b4, fun g hg => b5 g hg⟩
  have j199 : ∀ (N : Mm) (a : Nat), WZ M N o sp kw → a = apv o sp kw → a < 2 ^ n → Ok (Bx_readTrial_j199 E N (a : Int) 30 6) (fun r => r.1 = -1 ∧ Off oTr M r.2 ∧ (∀ k, k ≠ 30 → r.2 6 k = M 6 k ∧ r.2 7 k = M 7 k) ∧ Rk r.2 30 n (wc sp kw) (wRr o sp (wc sp kw) kw) (apv o sp kw)) := fun N a hN ea hal => by
    unfold Bx_readTrial_j199
    refine ok_ck ⟨yi_6 hL, by rw [yt_6 hL]⟩ (ok_ck (by rw [yt_6 hL]; decide) (ok_some ⟨rfl, hN.1.u2 (Or.inl rfl), fun k hk => ⟨?_, ?_⟩, ?_⟩))
    · show u2 N 6 30 (a : Int) 6 k = _
      rw [u2_ne (Or.inr hk)]; exact (hN.2.1 k hk).1
    · show u2 N 6 30 (a : Int) 7 k = _
      rw [u2_ne (Or.inl (by decide))]; exact (hN.2.1 k hk).2
    · rw [← ea]; exact hN.rk hWW hn hal
  have fin : ∀ (N : Mm) (y : Int), y = wbar o sp (kw - 1) → WZ M N o sp kw → Ok (ck (rgI y) (if y = -1 then Bx_readTrial_j199 E N (N 39 0) 30 6 else Bx_readTrial_j199 E N y 30 6)) (fun r => r.1 = -1 ∧ Off oTr M r.2 ∧ (∀ k, k ≠ 30 → r.2 6 k = M 6 k ∧ r.2 7 k = M 7 k) ∧ Rk r.2 30 n (wc sp kw) (wRr o sp (wc sp kw) kw) (apv o sp kw)) := fun N y hy hN => by
    rcases wb_lt (sp := sp) w2 (kw - 1) (by omega) with q | ⟨a, q1, q2⟩
    · rw [hy, q, if_pos rfl, hN.2.2.2 0 (by decide)]
      exact ok_ck (by decide) (j199 N _ hN (by unfold apv; rw [if_pos q]) (wg_lt w2 kw (Nat.le_refl _)))
    · rw [hy, q1, if_neg (by omega)]
      exact ok_ck ⟨by omega, by omega⟩ (j199 N _ hN (by unfold apv; rw [q1, if_neg (by omega), Int.toNat_natCast]) q2)
  have e21 : B 2 1 = ((2 * kw - 1 : Nat) : Int) := by rw [b1 2 (by decide)]; exact hT
  rw [e21]
  refine ok_ck (rgN (by omega)) (ok_if (fun q => ?_) (fun q => ?_))
  · have ek : kw = 0 := by omega
    subst ek
    refine ok_bm (R := fun r => r.1 = 3 ∧ r.2.2.2.2.1 = 0 ∧ r.2.2.1 = wbar o sp (0 - 1) ∧ WZ M r.2.2.2.2.2.2 o sp 0) ?_ ?_
    · refine L_Bx_readTrial_27 E (I := fun N x1 x2 x3 x4 x5 => N = B ∧ x2 = -1 ∧ x4 = 0 ∧ x5 = 0) (μ := fun _ _ _ _ _ _ => 0) ?_ FU B 0 (-1) 1 0 0 ⟨rfl, rfl, rfl, rfl⟩ (by decide)
      rintro N x1 x2 x3 x4 x5 ⟨rfl, rfl, rfl, rfl⟩
      unfold Bx_readTrial_27b
      rw [e21]
      exact ok_ck (by decide) (ok_ck (by decide) (ok_if (fun _ => ok_some (ok_out (by show (3 : Nat) ≠ 0; decide) ⟨rfl, rfl, rfl, hB⟩)) (fun z => absurd (Int.le_refl 0) z)))
    · rintro ⟨t, x1, x2, x3, x4, x5, N⟩ ⟨etr, e4r, e2r, hN⟩
      have et : t = 3 := etr
      have e4 : x4 = 0 := e4r
      subst et e4
      exact ok_if (fun z => absurd z (by decide)) (fun _ => ok_if (fun z => absurd z (by decide)) (fun _ => ok_if (fun _ => ok_ck (by decide) (ok_if (fun _ => fin N x2 e2r hN) (fun z => absurd rfl z))) (fun z => absurd rfl z)))
  · refine ok_bm (readLoop_ok hWW hn (by omega) h22 hT hs hB) ?_
    rintro ⟨t, x1, x2, x3, x4, x5, N⟩ ⟨etr, e4r, e2r, hN⟩
    have et : t = 3 := etr
    have e4 : x4 = 0 := e4r
    subst et e4
    exact ok_if (fun z => absurd z (by decide)) (fun _ => ok_if (fun z => absurd z (by decide)) (fun _ => ok_if (fun _ => ok_ck (by decide) (ok_if (fun _ => fin N x2 e2r hN) (fun z => absurd rfl z))) (fun z => absurd rfl z)))
