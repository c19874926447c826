/-! THE BEST BY A WAY OF COUNTING -/
theorem ok_fillL {E : Ev} {M : Mm} {p n : Nat} {x : Int} (hp : p < nE E) (hT : tE E p = (1, n)) (hn : n ≤ 4000) : Ok (f_Ar_fillL E M p x) (fun N => Off (fun i => i = p) M N ∧ ∀ k, k < n → N p k = x) := by
  have hA : isLA E p := ⟨hp, by rw [hT]⟩
  have hT2 : (tE E p).2 = n := by rw [hT]
  unfold f_Ar_fillL
  rw [hT2]
  refine ok_ck hA (ok_bm (R := fun r => r.1 = 1 ∧ Off (fun i => i = p) M r.2.2 ∧ ∀ k, k < n → r.2.2 p k = x) ?_ ?_)
  · refine L_Ar_fillL_6 E p x ((n : Nat) : Int) (I := fun N y => ∃ k : Nat, y = (k : Int) ∧ k ≤ n ∧ Off (fun i => i = p) M N ∧ ∀ j, j < k → N p j = x) (μ := fun _ y => n - y.toNat) ?_ FU M 0 ⟨0, rfl, Nat.zero_le _, Off.refl, fun j hj => absurd hj (Nat.not_lt_zero j)⟩ (by show n - _ < 5000; omega)
    rintro N y ⟨k, rfl, hk, ho, hN⟩
    unfold Ar_fillL_6b
    rw [Int.toNat_natCast]
    refine ok_ck hA (ok_ck (rgN (by omega)) (ok_ck (rgN (by omega)) (ok_if (fun q => ?_) (fun q => ?_))))
    · have e : k = n := by omega
      subst e
      exact ok_some (ok_out ne0 ⟨rfl, ho, hN⟩)
    · refine ok_ck ⟨by omega, by rw [hT2]; omega, by omega⟩ (ok_some (ok_go rfl ⟨⟨k + 1, c1 k, by omega, ho.u2 rfl, fun j hj => ?_⟩, cnt (by omega)⟩))
      show u2 N p k x p j = x
      rw [u2_if]
      by_cases e : j = k
      · rw [if_pos ⟨rfl, e⟩]
      · rw [if_neg (fun z => e z.2)]; exact hN j (by omega)
  · rintro ⟨t, y, N⟩ ⟨g1, g2⟩
    exact ok_ck g1 (ok_some g2)
/-- the lots -/
def LT (M : Mm) (n : Nat) (lo : Nat → Int) : Prop := ∀ c, c < n → M 4 c = lo c ∧ 0 ≤ lo c ∧ lo c ≤ 99
abbrev wl (lo : Nat → Int) (a b : Nat) : Prop := lo a < lo b ∨ (lo a = lo b ∧ a < b)
theorem winsLot_eq {E : Ev} {M : Mm} {n a b : Nat} {lo : Nat → Int} (h : LT M n lo) (hn : n ≤ 8) (ha : a < n) (hb : b < n) : f_Bx_winsLot E M (a : Int) (b : Int) = some (if wl lo a b then 1 else 0) := by
  obtain ⟨a1, a2, a3⟩ := h a ha
  obtain ⟨b1, b2, b3⟩ := h b hb
  unfold f_Bx_winsLot
  rw [ck_i (inN (show a < 8 by omega) (by decide)), ck_i (inN (show b < 8 by omega) (by decide)), Int.toNat_natCast, Int.toNat_natCast, a1, b1, ck_i ⟨by omega, by omega⟩, ck_i ⟨by omega, by omega⟩]
  by_cases c1' : lo a < lo b
  · rw [if_pos c1', if_pos (Or.inl c1')]
  · rw [if_neg c1']
    by_cases c2 : lo a = lo b
    · rw [if_pos c2]
      by_cases c3 : a < b
      · rw [if_neg (by omega), if_pos (Or.inr ⟨c2, c3⟩)]
      · rw [if_pos (by omega), if_neg]
        rintro (q | q)
        · exact c1' q
        · exact c3 q.2
    · rw [if_neg c2, if_neg]
      rintro (q | q)
      · exact c1' q
      · exact c2 q.1
/-- a strict order of all -/
def Str (X : Nat → Nat → Prop) : Prop := (∀ a b, a ≠ b → X a b ∨ X b a) ∧ (∀ a b c, X a b → X b c → X a c) ∧ ∀ a, ¬ X a a
theorem wl_str (lo : Nat → Int) : Str (wl lo) := by
  refine ⟨fun a b h => ?_, fun a b c h g => ?_, fun a h => ?_⟩
  · rcases Int.lt_trichotomy (lo a) (lo b) with q | q | q
    · exact Or.inl (Or.inl q)
    · rcases Nat.lt_or_gt_of_ne h with z | z
      · exact Or.inl (Or.inr ⟨q, z⟩)
      · exact Or.inr (Or.inr ⟨q.symm, z⟩)
    · exact Or.inr (Or.inl q)
  · rcases h with h | h <;> rcases g with g | g
    · exact Or.inl (by omega)
    · exact Or.inl (by omega)
    · exact Or.inl (by omega)
    · exact Or.inr ⟨by omega, by omega⟩
  · rcases h with h | h <;> omega
/-- more, or as many and the lot -/
abbrev pg (sc lo : Nat → Int) (a b : Nat) : Prop := sc b < sc a ∨ (sc a = sc b ∧ wl lo a b)
abbrev pl (sc lo : Nat → Int) (a b : Nat) : Prop := sc a < sc b ∨ (sc a = sc b ∧ wl lo b a)
theorem pg_str (sc lo : Nat → Int) : Str (pg sc lo) := by
  obtain ⟨w1, w2, w3⟩ := wl_str lo
  refine ⟨fun a b h => ?_, fun a b c h g => ?_, fun a h => ?_⟩
  · rcases Int.lt_trichotomy (sc a) (sc b) with q | q | q
    · exact Or.inr (Or.inl q)
    · rcases w1 a b h with z | z
      · exact Or.inl (Or.inr ⟨q, z⟩)
      · exact Or.inr (Or.inr ⟨q.symm, z⟩)
    · exact Or.inl (Or.inl q)
  · rcases h with h | h <;> rcases g with g | g
    · exact Or.inl (by omega)
    · exact Or.inl (by omega)
    · exact Or.inl (by omega)
    · exact Or.inr ⟨by omega, w2 a b c h.2 g.2⟩
  · rcases h with h | h
    · omega
    · exact w3 a h.2
theorem pl_str (sc lo : Nat → Int) : Str (pl sc lo) := by
  obtain ⟨w1, w2, w3⟩ := wl_str lo
  refine ⟨fun a b h => ?_, fun a b c h g => ?_, fun a h => ?_⟩
  · rcases Int.lt_trichotomy (sc a) (sc b) with q | q | q
    · exact Or.inl (Or.inl q)
    · rcases w1 a b h with z | z
      · exact Or.inr (Or.inr ⟨q.symm, z⟩)
      · exact Or.inl (Or.inr ⟨q, z⟩)
    · exact Or.inr (Or.inl q)
  · rcases h with h | h <;> rcases g with g | g
    · exact Or.inl (by omega)
    · exact Or.inl (by omega)
    · exact Or.inl (by omega)
    · exact Or.inr ⟨by omega, w2 c b a g.2 h.2⟩
  · rcases h with h | h
    · omega
    · exact w3 a h.2
/-- the first of T in an order -/
def pk (X : Nat → Nat → Prop) (n T r : Nat) : Prop := r < n ∧ T.testBit r = true ∧ ∀ c, c < n → T.testBit c = true → c ≠ r → X r c
theorem pk_unique {X : Nat → Nat → Prop} {n T r s : Nat} (hX : Str X) (h : pk X n T r) (g : pk X n T s) : r = s := by
  refine Decidable.byContradiction fun e => ?_
  have h1 := h.2.2 s g.1 g.2.1 (fun q => e q.symm)
  have h2 := g.2.2 r h.1 h.2.1 e
  exact hX.2.2 r (hX.2.1 r s r h1 h2)
theorem pk_congr {X Y : Nat → Nat → Prop} {n T r : Nat} (hXY : ∀ a b, a < n → b < n → X a b → Y a b) (h : pk X n T r) : pk Y n T r := ⟨h.1, h.2.1, fun c h1 h2 h3 => hXY r c h.1 h1 (h.2.2 c h1 h2 h3)⟩
/-- picking, so far -/
def pS (X : Nat → Nat → Prop) (T k : Nat) (b : Int) : Prop := (b = -1 ∧ ∀ c, c < k → ¬ T.testBit c = true) ∨ ∃ r : Nat, b = (r : Int) ∧ r < k ∧ T.testBit r = true ∧ ∀ c, c < k → T.testBit c = true → c ≠ r → X r c
theorem pS_skip {X : Nat → Nat → Prop} {T k : Nat} {b : Int} (h : pS X T k b) (hk : ¬ T.testBit k = true) : pS X T (k + 1) b := by
  rcases h with ⟨e, h⟩ | ⟨r, e, h1, h2, h3⟩
  · refine Or.inl ⟨e, fun c hc => ?_⟩
    by_cases q : c = k
    · rw [q]; exact hk
    · exact h c (by omega)
  · refine Or.inr ⟨r, e, by omega, h2, fun c hc hcb => ?_⟩
    by_cases q : c = k
    · rw [q] at hcb; exact absurd hcb hk
    · exact h3 c (by omega) hcb
theorem pS_first {X : Nat → Nat → Prop} {T k : Nat} (h : pS X T k (-1)) (hk : T.testBit k = true) : pS X T (k + 1) (k : Int) := by
  rcases h with ⟨-, h⟩ | ⟨r, e, -⟩
  · refine Or.inr ⟨k, rfl, by omega, hk, fun c hc hcb hne => ?_⟩
    exact absurd hcb (h c (by omega))
  · omega
theorem pS_take {X : Nat → Nat → Prop} (hX : Str X) {T k r : Nat} (h : pS X T k (r : Int)) (hk : T.testBit k = true) (hx : X k r) : pS X T (k + 1) (k : Int) := by
  rcases h with ⟨e, -⟩ | ⟨s, e, h1, h2, h3⟩
  · omega
  · have e : r = s := by omega
    subst e
    refine Or.inr ⟨k, rfl, by omega, hk, fun c hc hcb hne => ?_⟩
    by_cases q : c = r
    · rw [q]; exact hx
    · exact hX.2.1 _ _ _ hx (h3 c (by omega) hcb q)
theorem pS_keep {X : Nat → Nat → Prop} (hX : Str X) {T k r : Nat} (h : pS X T k (r : Int)) (hx : ¬ X k r) : pS X T (k + 1) (r : Int) := by
  rcases h with ⟨e, -⟩ | ⟨s, e, h1, h2, h3⟩
  · omega
  · have e : r = s := by omega
    subst e
    refine Or.inr ⟨r, rfl, by omega, h2, fun c hc hcb hne => ?_⟩
    by_cases q : c = k
    · rw [q]; exact (hX.1 k r (by omega)).resolve_left hx
    · exact h3 c (by omega) hcb hne
theorem pS_end {X : Nat → Nat → Prop} {n T : Nat} {b : Int} (h : pS X T n b) (hT : T < 2 ^ n) (h1 : 1 ≤ T) : ∃ r : Nat, b = (r : Int) ∧ pk X n T r := by
  rcases h with ⟨-, h⟩ | ⟨r, e, q⟩
  · exact absurd (zero_of hT (fun i hi => h i hi)) (by omega)
  · exact ⟨r, e, q⟩
theorem pS_at {X : Nat → Nat → Prop} {T k : Nat} {b : Int} (h : pS X T k b) : b = -1 ∨ ∃ r : Nat, b = (r : Int) ∧ r < k := by
  rcases h with ⟨e, -⟩ | ⟨r, e, h1, -⟩
  · exact Or.inl e
  · exact Or.inr ⟨r, e, h1⟩
theorem bestByLot_ok {E : Ev} {M : Mm} {n T : Nat} {lo : Nat → Int} (h2 : M 2 2 = (n : Int)) (hn : n ≤ 8) (hl : LT M n lo) (hT : T < 2 ^ n) (h1 : 1 ≤ T) : Ok (f_Po_bestByLot E M (T : Int)) (fun r => ∃ b : Nat, r = (b : Int) ∧ pk (wl lo) n T b) := by
  have hpw := pow_lt hn
  have hX := wl_str lo
  unfold f_Po_bestByLot
  refine ok_bm (R := fun r => r.1 = 1 ∧ pS (wl lo) T n r.2.1) ?_ ?_
  · refine L_Po_bestByLot_4 E (T : Int) M (I := fun x y => ∃ k : Nat, y = (k : Int) ∧ k ≤ n ∧ pS (wl lo) T k x) (μ := fun _ x => n - x.toNat) ?_ FU (-1) 0 ⟨0, rfl, Nat.zero_le _, Or.inl ⟨rfl, fun c hc => absurd hc (Nat.not_lt_zero c)⟩⟩ (by show n - _ < 5000; omega)
    rintro x y ⟨k, rfl, hk, hS⟩
    unfold Po_bestByLot_4b
    rw [h2]
    refine ok_ck (rgN (by omega)) (ok_ck (rgN (by omega)) (ok_if (fun q => ?_) (fun q => ?_)))
    · have e : k = n := by omega
      rw [e] at hS
      exact ok_some (ok_out ne0 ⟨rfl, hS⟩)
    · have hkn : k < n := by omega
      rw [has_tb (by omega) (by omega)]
      refine ok_sb ?_
      by_cases w : T.testBit k = true
      · rw [if_pos w]
        refine ok_ck (by decide) (ok_if (fun z => absurd z (by decide)) (fun _ => ?_))
        rcases pS_at hS with rfl | ⟨r, rfl, hr⟩
        · exact ok_ck (by decide) (ok_if (fun _ => ok_some (ok_go rfl ⟨⟨k + 1, c1 k, by omega, pS_first hS w⟩, cnt hkn⟩)) (fun z => absurd rfl z))
        · rw [winsLot_eq hl hn hkn (by omega)]
          refine ok_ck ⟨by omega, by omega⟩ (ok_if (fun z => by omega) (fun _ => ok_sb ?_))
          by_cases v : wl lo k r
          · rw [if_pos v]
            exact ok_ck (by decide) (ok_if (fun z => absurd z (by decide)) (fun _ => ok_some (ok_go rfl ⟨⟨k + 1, c1 k, by omega, pS_take hX hS w v⟩, cnt hkn⟩)))
          · rw [if_neg v]
            exact ok_ck (by decide) (ok_if (fun _ => ok_some (ok_go rfl ⟨⟨k + 1, c1 k, by omega, pS_keep hX hS v⟩, cnt hkn⟩)) (fun z => absurd rfl z))
      · rw [if_neg w]
        exact ok_ck (by decide) (ok_if (fun _ => ok_some (ok_go rfl ⟨⟨k + 1, c1 k, by omega, pS_skip hS w⟩, cnt hkn⟩)) (fun z => absurd rfl z))
  · rintro ⟨t, x, y⟩ ⟨g1, g2⟩
    exact ok_ck g1 (ok_some (pS_end g2 hT h1))
def SCr (M : Mm) (n : Nat) (sc : Nat → Int) : Prop := ∀ c, c < n → M 48 c = sc c ∧ rgJ (sc c)
theorem greatestOf_ok' {E : Ev} {M : Mm} {n T : Nat} {lo sc : Nat → Int} (h2 : M 2 2 = (n : Int)) (hn : n ≤ 8) (hl : LT M n lo) (hs : SCr M n sc) (hT : T < 2 ^ n) (h1 : 1 ≤ T) : Ok (f_Po_greatestOf E M (T : Int)) (fun r => ∃ b : Nat, r = (b : Int) ∧ pk (pg sc lo) n T b) := by
  have hpw := pow_lt hn
  have hX := pg_str sc lo
  unfold f_Po_greatestOf
  refine ok_bm (R := fun r => r.1 = 1 ∧ pS (pg sc lo) T n r.2.1) ?_ ?_
  · refine L_Po_greatestOf_4 E (T : Int) M (I := fun x y => ∃ k : Nat, y = (k : Int) ∧ k ≤ n ∧ pS (pg sc lo) T k x) (μ := fun _ x => n - x.toNat) ?_ FU (-1) 0 ⟨0, rfl, Nat.zero_le _, Or.inl ⟨rfl, fun c hc => absurd hc (Nat.not_lt_zero c)⟩⟩ (by show n - _ < 5000; omega)
    rintro x y ⟨k, rfl, hk, hS⟩
    unfold Po_greatestOf_4b
    rw [h2]
    refine ok_ck (rgN (by omega)) (ok_ck (rgN (by omega)) (ok_if (fun q => ?_) (fun q => ?_)))
    · have e : k = n := by omega
      rw [e] at hS
      exact ok_some (ok_out ne0 ⟨rfl, hS⟩)
    · have hkn : k < n := by omega
      rw [has_tb (by omega) (by omega)]
      refine ok_sb ?_
      by_cases w : T.testBit k = true
      · rw [if_pos w]
        refine ok_ck (by decide) (ok_if (fun z => absurd z (by decide)) (fun _ => ?_))
        rcases pS_at hS with rfl | ⟨r, rfl, hr⟩
        · exact ok_ck (by decide) (ok_if (fun _ => ok_some (ok_go rfl ⟨⟨k + 1, c1 k, by omega, pS_first hS w⟩, cnt hkn⟩)) (fun z => absurd rfl z))
        · obtain ⟨k1, k2⟩ := hs k hkn
          obtain ⟨r1, r2⟩ := hs r (by omega)
          rw [Int.toNat_natCast, Int.toNat_natCast, k1, r1]
          refine ok_ck ⟨by omega, by omega⟩ (ok_if (fun z => by omega) (fun _ => ok_ck (inN (by omega) (by decide)) (ok_ck (inN (by omega) (by decide)) (ok_ck k2 (ok_ck r2 (ok_if (fun z => ?_) (fun z => ok_if (fun z2 => ?_) (fun z2 => ?_))))))))
          · exact ok_some (ok_go rfl ⟨⟨k + 1, c1 k, by omega, pS_take hX hS w (Or.inl z)⟩, cnt hkn⟩)
          · rw [winsLot_eq hl hn hkn (by omega)]
            refine ok_sb ?_
            by_cases v : wl lo k r
            · rw [if_pos v]
              exact ok_ck (by decide) (ok_if (fun z => absurd z (by decide)) (fun _ => ok_some (ok_go rfl ⟨⟨k + 1, c1 k, by omega, pS_take hX hS w (Or.inr ⟨z2, v⟩)⟩, cnt hkn⟩)))
            · rw [if_neg v]
              exact ok_ck (by decide) (ok_if (fun _ => ok_some (ok_go rfl ⟨⟨k + 1, c1 k, by omega, pS_keep hX hS (fun y => y.elim z (fun y2 => v y2.2))⟩, cnt hkn⟩)) (fun z => absurd rfl z))
          · exact ok_some (ok_go rfl ⟨⟨k + 1, c1 k, by omega, pS_keep hX hS (fun y => y.elim z (fun y2 => z2 y2.1))⟩, cnt hkn⟩)
      · rw [if_neg w]
        exact ok_ck (by decide) (ok_if (fun _ => ok_some (ok_go rfl ⟨⟨k + 1, c1 k, by omega, pS_skip hS w⟩, cnt hkn⟩)) (fun z => absurd rfl z))
  · rintro ⟨t, x, y⟩ ⟨g1, g2⟩
    exact ok_ck g1 (ok_some (pS_end g2 hT h1))
theorem smallestOf_ok {E : Ev} {M : Mm} {n T : Nat} {lo sc : Nat → Int} (h2 : M 2 2 = (n : Int)) (hn : n ≤ 8) (hl : LT M n lo) (hs : SCr M n sc) (hT : T < 2 ^ n) (h1 : 1 ≤ T) : Ok (f_Po_smallestOf E M (T : Int)) (fun r => ∃ b : Nat, r = (b : Int) ∧ pk (pl sc lo) n T b) := by
  have hpw := pow_lt hn
  have hX := pl_str sc lo
  unfold f_Po_smallestOf
  refine ok_bm (R := fun r => r.1 = 1 ∧ pS (pl sc lo) T n r.2.1) ?_ ?_
  · refine L_Po_smallestOf_4 E (T : Int) M (I := fun x y => ∃ k : Nat, y = (k : Int) ∧ k ≤ n ∧ pS (pl sc lo) T k x) (μ := fun _ x => n - x.toNat) ?_ FU (-1) 0 ⟨0, rfl, Nat.zero_le _, Or.inl ⟨rfl, fun c hc => absurd hc (Nat.not_lt_zero c)⟩⟩ (by show n - _ < 5000; omega)
    rintro x y ⟨k, rfl, hk, hS⟩
    unfold Po_smallestOf_4b
    rw [h2]
    refine ok_ck (rgN (by omega)) (ok_ck (rgN (by omega)) (ok_if (fun q => ?_) (fun q => ?_)))
    · have e : k = n := by omega
      rw [e] at hS
      exact ok_some (ok_out ne0 ⟨rfl, hS⟩)
    · have hkn : k < n := by omega
      rw [has_tb (by omega) (by omega)]
      refine ok_sb ?_
      by_cases w : T.testBit k = true
      · rw [if_pos w]
        refine ok_ck (by decide) (ok_if (fun z => absurd z (by decide)) (fun _ => ?_))
        rcases pS_at hS with rfl | ⟨r, rfl, hr⟩
        · exact ok_ck (by decide) (ok_if (fun _ => ok_some (ok_go rfl ⟨⟨k + 1, c1 k, by omega, pS_first hS w⟩, cnt hkn⟩)) (fun z => absurd rfl z))
        · obtain ⟨k1, k2⟩ := hs k hkn
          obtain ⟨r1, r2⟩ := hs r (by omega)
          rw [Int.toNat_natCast, Int.toNat_natCast, k1, r1]
          refine ok_ck ⟨by omega, by omega⟩ (ok_if (fun z => by omega) (fun _ => ok_ck (inN (by omega) (by decide)) (ok_ck (inN (by omega) (by decide)) (ok_ck k2 (ok_ck r2 (ok_if (fun z => ?_) (fun z => ok_if (fun z2 => ?_) (fun z2 => ?_))))))))
          · exact ok_some (ok_go rfl ⟨⟨k + 1, c1 k, by omega, pS_take hX hS w (Or.inl z)⟩, cnt hkn⟩)
          · rw [winsLot_eq hl hn (show r < n by omega) hkn]
            refine ok_sb ?_
            by_cases v : wl lo r k
            · rw [if_pos v]
              exact ok_ck (by decide) (ok_if (fun z => absurd z (by decide)) (fun _ => ok_some (ok_go rfl ⟨⟨k + 1, c1 k, by omega, pS_take hX hS w (Or.inr ⟨z2, v⟩)⟩, cnt hkn⟩)))
            · rw [if_neg v]
              exact ok_ck (by decide) (ok_if (fun _ => ok_some (ok_go rfl ⟨⟨k + 1, c1 k, by omega, pS_keep hX hS (fun y => y.elim z (fun y2 => v y2.2))⟩, cnt hkn⟩)) (fun z => absurd rfl z))
          · exact ok_some (ok_go rfl ⟨⟨k + 1, c1 k, by omega, pS_keep hX hS (fun y => y.elim z (fun y2 => z2 y2.1))⟩, cnt hkn⟩)
      · rw [if_neg w]
        exact ok_ck (by decide) (ok_if (fun _ => ok_some (ok_go rfl ⟨⟨k + 1, c1 k, by omega, pS_skip hS w⟩, cnt hkn⟩)) (fun z => absurd rfl z))
  · rintro ⟨t, x, y⟩ ⟨g1, g2⟩
    exact ok_ck g1 (ok_some (pS_end g2 hT h1))
