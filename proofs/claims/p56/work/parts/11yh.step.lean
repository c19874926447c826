/-! THE COUNT: amounts of all kinds passed on, the best, the last, elected, excluded -/
noncomputable def shP (R : Nat → Nat → Nat) (G : Nat → Nat) (n H : Nat) (am : Nat → Int) (P : Nat → Int) (j c : Nat) : Int := P c + sN (fun k => sh (R k) (G k) n H (am k) c) j
noncomputable def shW (R : Nat → Nat → Nat) (G : Nat → Nat) (n H : Nat) (am : Nat → Int) (w : Nat → Nat → Int) (j k c : Nat) : Int := if k < j then w k c + sh (R k) (G k) n H (am k) c else w k c
theorem pass_step {E : Ev} {M : Mm} {n kb kk H m j : Nat} {C : Nat → Int} {G : Nat → Nat} {R : Nat → Nat → Nat} {A : Nat → Nat} {D : Int} {P : Nat → Int} {w : Nat → Nat → Int} {am : Nat → Int} (hL : Lay E) (hB : BX M n kb C G R A) (hkb : kk ≤ kb) (hW : Wts E m) (hm : 250 ≤ m) (hj : j < kk) (h : CN E M n kk H D (shP R G n H am P j) (shW R G n H am w j)) (ha : NatAt M 185 (am j)) (h0 : ∀ k, k < kk → 0 ≤ am k) (hb : ∀ c, c < 9 → P c + sN am kk < pB 13) (hb2 : ∀ k c, k < kk → c < n → H.testBit c = true → w k c + am k < pB 13) : Ok (f_Co_passOn E M (j : Int)) (fun N => Off (oPa m) M N ∧ CN E N n kk H D (shP R G n H am P (j + 1)) (shW R G n H am w (j + 1))) := by
  refine (passOn_ok hL hB hkb hW hm hj h ha (fun c hc => ?_) (fun c hc q => ?_)).mono ?_
  · have h1 : sN (fun k => sh (R k) (G k) n H (am k) c) j ≤ sN am j := sN_le fun k hk => sh_le (h0 k (by omega)) c
    have h2 : sN am (j + 1) ≤ sN am kk := sN_part (by omega) h0
    have h3 := hb c hc
    rw [sN_succ] at h2
    show P c + sN (fun k => sh (R k) (G k) n H (am k) c) j + am j < pB 13
    omega
  · have e : shW R G n H am w j j c = w j c := if_neg (Nat.lt_irrefl j)
    rw [e]
    exact hb2 j c hj hc q
  · rintro N ⟨o, g⟩
    refine ⟨o, g.congr (fun c _ => ?_) (fun k c _ _ => ?_)⟩
    · show P c + sN (fun k => sh (R k) (G k) n H (am k) c) j + sh (R j) (G j) n H (am j) c = P c + sN (fun k => sh (R k) (G k) n H (am k) c) (j + 1)
      rw [sN_succ, Int.add_assoc]
    · show (if k = j then shW R G n H am w j k c + sh (R j) (G j) n H (am j) c else shW R G n H am w j k c) = shW R G n H am w (j + 1) k c
      unfold shW
      by_cases e : k = j
      · subst e
        rw [if_pos rfl, if_neg (Nat.lt_irrefl k), if_pos (Nat.lt_succ_self k)]
      · rw [if_neg e]
        by_cases d : k < j
        · rw [if_pos d, if_pos (by omega)]
        · rw [if_neg d, if_neg (by omega)]
theorem shW_0 {R : Nat → Nat → Nat} {G : Nat → Nat} {n H : Nat} {am : Nat → Int} {w : Nat → Nat → Int} {k c : Nat} : shW R G n H am w 0 k c = w k c := if_neg (Nat.not_lt_zero k)
theorem shP_0 {R : Nat → Nat → Nat} {G : Nat → Nat} {n H : Nat} {am : Nat → Int} {P : Nat → Int} {c : Nat} : shP R G n H am P 0 c = P c := Int.add_zero _
theorem isAhead_ok {E : Ev} {M : Mm} {n kk H a b : Nat} {D : Int} {P : Nat → Int} {w : Nat → Nat → Int} {lo : Nat → Int} (hL : Lay E) (hn : n ≤ 8) (hl : LT M n lo) (h : CN E M n kk H D P w) (ha : a < n) (hb : b < n) : Ok (f_Co_isAhead E M (a : Int) (b : Int)) (fun r => (r = 1 ∧ P b ≤ P a) ∨ (r = 0 ∧ P a ≤ P b)) := by
  have ia : inb (a : Int) 9 := inN (by omega) (by decide)
  have ib : inb (b : Int) 9 := inN (by omega) (by decide)
  have na := yg_182 hL ia
  have nb' := yg_182 hL ib
  rw [Int.toNat_natCast] at na nb'
  obtain ⟨s, pa⟩ := h.2.2.2.1 a (by omega)
  obtain ⟨t, pb⟩ := h.2.2.2.1 b (by omega)
  unfold f_Co_isAhead
  rw [Int.toNat_natCast, Int.toNat_natCast]
  refine ok_ck ia (ok_ck ib (ok_bm (ok_compare na nb' pa pb) ?_))
  rintro r rfl
  by_cases c1' : P a < P b
  · rw [if_pos c1']
    exact ok_ck (by decide) (ok_if (fun z => absurd z (by decide)) (fun _ => ok_if (fun z => absurd z (by decide)) (fun _ => ok_some (Or.inr ⟨rfl, by omega⟩))))
  · rw [if_neg c1']
    by_cases c2 : P b < P a
    · rw [if_pos c2]
      exact ok_ck (by decide) (ok_if (fun _ => ok_some (Or.inl ⟨rfl, by omega⟩)) (fun z => absurd (by decide) z))
    · rw [if_neg c2]
      refine ok_ck (by decide) (ok_if (fun z => absurd z (by decide)) (fun _ => ok_if (fun _ => ?_) (fun z => absurd rfl z)))
      rw [winsLot_eq hl hn ha hb]
      refine ok_sb ?_
      by_cases v : wl lo a b
      · rw [if_pos v]
        exact ok_ck (by decide) (ok_if (fun z => absurd z (by decide)) (fun _ => ok_some (Or.inl ⟨rfl, by omega⟩)))
      · rw [if_neg v]
        exact ok_ck (by decide) (ok_if (fun _ => ok_some (Or.inr ⟨rfl, by omega⟩)) (fun z => absurd rfl z))
theorem greatest_ok {E : Ev} {M : Mm} {n kk H : Nat} {D : Int} {P : Nat → Int} {w : Nat → Nat → Int} {lo : Nat → Int} (hL : Lay E) (h22 : M 2 2 = (n : Int)) (hn : n ≤ 8) (hl : LT M n lo) (h : CN E M n kk H D P w) (hH : H ≠ 0) : Ok (f_Co_greatestPile E M) (fun r => ∃ b : Nat, r = (b : Int) ∧ b < n ∧ H.testBit b = true ∧ ∀ c, c < n → H.testBit c = true → P c ≤ P b) := by
  have hpw := pow_lt hn
  have hH2 := h.2.1
  unfold f_Co_greatestPile
  refine ok_bm (R := fun r => r.1 = 1 ∧ ((r.2.1 = -1 ∧ ∀ c, c < n → ¬ H.testBit c = true) ∨ ∃ b : Nat, r.2.1 = (b : Int) ∧ b < n ∧ H.testBit b = true ∧ ∀ c, c < n → H.testBit c = true → P c ≤ P b)) ?_ ?_
  · refine L_Co_greatestPile_4 E M (I := fun x y => ∃ i : Nat, y = (i : Int) ∧ i ≤ n ∧ ((x = -1 ∧ ∀ c, c < i → ¬ H.testBit c = true) ∨ ∃ b : Nat, x = (b : Int) ∧ b < n ∧ H.testBit b = true ∧ ∀ c, c < i → H.testBit c = true → P c ≤ P b)) (μ := fun _ y => n - y.toNat) ?_ FU (-1) 0 ⟨0, rfl, Nat.zero_le _, Or.inl ⟨rfl, fun c hc => absurd hc (Nat.not_lt_zero c)⟩⟩ (by show n - _ < 5000; omega)
    rintro x y ⟨i, rfl, hi, hS⟩
    unfold Co_greatestPile_4b
    rw [h22, h.1]
    refine ok_ck (rgN (by omega)) (ok_ck (rgN (by omega)) (ok_if (fun q => ?_) (fun q => ?_)))
    · have e : i = n := by omega
      subst e
      exact ok_some (ok_out ne0 ⟨rfl, hS⟩)
    · have hin : i < n := by omega
      rw [has_tb (by omega) (by omega)]
      refine ok_sb ?_
      by_cases v : H.testBit i = true
      · rw [if_pos v]
        refine ok_ck (by decide) (ok_if (fun z => absurd z (by decide)) (fun _ => ?_))
        rcases hS with ⟨rfl, h1⟩ | ⟨b, rfl, h1, h2, h3⟩
        · refine ok_ck (by decide) (ok_if (fun _ => ok_some (ok_go rfl ⟨⟨i + 1, c1 i, by omega, Or.inr ⟨i, rfl, hin, v, fun c hc q => ?_⟩⟩, cnt hin⟩)) (fun z => absurd rfl z))
          by_cases e : c = i
          · rw [e]; exact Int.le_refl _
          · exact absurd q (h1 c (by omega))
        · refine ok_ck (rgN (by omega)) (ok_if (fun z => by omega) (fun _ => ok_bm (isAhead_ok hL hn hl h hin h1) ?_))
          rintro r (⟨rfl, g⟩ | ⟨rfl, g⟩)
          · refine ok_ck (by decide) (ok_if (fun z => absurd z (by decide)) (fun _ => ok_some (ok_go rfl ⟨⟨i + 1, c1 i, by omega, Or.inr ⟨i, rfl, hin, v, fun c hc q => ?_⟩⟩, cnt hin⟩)))
            by_cases e : c = i
            · rw [e]; exact Int.le_refl _
            · have := h3 c (by omega) q; omega
          · refine ok_ck (by decide) (ok_if (fun _ => ok_some (ok_go rfl ⟨⟨i + 1, c1 i, by omega, Or.inr ⟨b, rfl, h1, h2, fun c hc q => ?_⟩⟩, cnt hin⟩)) (fun z => absurd rfl z))
            by_cases e : c = i
            · rw [e]; exact g
            · exact h3 c (by omega) q
      · rw [if_neg v]
        refine ok_ck (by decide) (ok_if (fun _ => ok_some (ok_go rfl ⟨⟨i + 1, c1 i, by omega, ?_⟩, cnt hin⟩)) (fun z => absurd rfl z))
        rcases hS with ⟨e1, h1⟩ | ⟨b, e1, h1, h2, h3⟩
        · exact Or.inl ⟨e1, fun c hc => by
            by_cases e : c = i
            · rw [e]; exact v
            · exact h1 c (by omega)⟩
        · exact Or.inr ⟨b, e1, h1, h2, fun c hc q => h3 c (by have : c ≠ i := fun e => v (e ▸ q); omega) q⟩
  · rintro ⟨t, x, y⟩ ⟨g1, g2⟩
    refine ok_ck g1 (ok_some ?_)
    rcases g2 with ⟨-, g⟩ | g
    · obtain ⟨i, hi⟩ := ne_zero hH
      exact absurd hi (g i (tb_lt hH2 hi))
    · exact g
theorem smallest_ok {E : Ev} {M : Mm} {n kk H : Nat} {D : Int} {P : Nat → Int} {w : Nat → Nat → Int} {lo : Nat → Int} (hL : Lay E) (h22 : M 2 2 = (n : Int)) (hn : n ≤ 8) (hl : LT M n lo) (h : CN E M n kk H D P w) (hH : H ≠ 0) : Ok (f_Co_smallestPile E M) (fun r => ∃ b : Nat, r = (b : Int) ∧ b < n ∧ H.testBit b = true) := by
  have hpw := pow_lt hn
  have hH2 := h.2.1
  unfold f_Co_smallestPile
  refine ok_bm (R := fun r => r.1 = 1 ∧ ((r.2.1 = -1 ∧ ∀ c, c < n → ¬ H.testBit c = true) ∨ ∃ b : Nat, r.2.1 = (b : Int) ∧ b < n ∧ H.testBit b = true)) ?_ ?_
  · refine L_Co_smallestPile_4 E M (I := fun x y => ∃ i : Nat, y = (i : Int) ∧ i ≤ n ∧ ((x = -1 ∧ ∀ c, c < i → ¬ H.testBit c = true) ∨ ∃ b : Nat, x = (b : Int) ∧ b < n ∧ H.testBit b = true)) (μ := fun _ y => n - y.toNat) ?_ FU (-1) 0 ⟨0, rfl, Nat.zero_le _, Or.inl ⟨rfl, fun c hc => absurd hc (Nat.not_lt_zero c)⟩⟩ (by show n - _ < 5000; omega)
    rintro x y ⟨i, rfl, hi, hS⟩
    unfold Co_smallestPile_4b
    rw [h22, h.1]
    refine ok_ck (rgN (by omega)) (ok_ck (rgN (by omega)) (ok_if (fun q => ?_) (fun q => ?_)))
    · have e : i = n := by omega
      subst e
      exact ok_some (ok_out ne0 ⟨rfl, hS⟩)
    · have hin : i < n := by omega
      rw [has_tb (by omega) (by omega)]
      refine ok_sb ?_
      by_cases v : H.testBit i = true
      · rw [if_pos v]
        refine ok_ck (by decide) (ok_if (fun z => absurd z (by decide)) (fun _ => ?_))
        rcases hS with ⟨rfl, h1⟩ | ⟨b, rfl, h1, h2⟩
        · exact ok_ck (by decide) (ok_if (fun _ => ok_some (ok_go rfl ⟨⟨i + 1, c1 i, by omega, Or.inr ⟨i, rfl, hin, v⟩⟩, cnt hin⟩)) (fun z => absurd rfl z))
        · refine ok_ck (rgN (by omega)) (ok_if (fun z => by omega) (fun _ => ok_bm (isAhead_ok hL hn hl h h1 hin) ?_))
          rintro r (⟨rfl, g⟩ | ⟨rfl, g⟩)
          · exact ok_ck (by decide) (ok_if (fun z => absurd z (by decide)) (fun _ => ok_some (ok_go rfl ⟨⟨i + 1, c1 i, by omega, Or.inr ⟨i, rfl, hin, v⟩⟩, cnt hin⟩)))
          · exact ok_ck (by decide) (ok_if (fun _ => ok_some (ok_go rfl ⟨⟨i + 1, c1 i, by omega, Or.inr ⟨b, rfl, h1, h2⟩⟩, cnt hin⟩)) (fun z => absurd rfl z))
      · rw [if_neg v]
        refine ok_ck (by decide) (ok_if (fun _ => ok_some (ok_go rfl ⟨⟨i + 1, c1 i, by omega, ?_⟩, cnt hin⟩)) (fun z => absurd rfl z))
        rcases hS with ⟨e1, h1⟩ | g
        · exact Or.inl ⟨e1, fun c hc => by
            by_cases e : c = i
            · rw [e]; exact v
            · exact h1 c (by omega)⟩
        · exact Or.inr g
  · rintro ⟨t, x, y⟩ ⟨g1, g2⟩
    refine ok_ck g1 (ok_some ?_)
    rcases g2 with ⟨-, g⟩ | g
    · obtain ⟨i, hi⟩ := ne_zero hH
      exact absurd hi (g i (tb_lt hH2 hi))
    · exact g
/-- the hopefuls without x -/
theorem take_h {M : Mm} {n H x : Nat} (hn : n ≤ 8) (h : M 179 3 = (H : Int)) (hH : H < 2 ^ n) (hx : x < n) : dfI (M 179 3) (2 ^ (x : Int).toNat) = ((dN H (2 ^ x) : Nat) : Int) ∧ nnI (M 179 3) ∧ nnI (2 ^ (x : Int).toNat) := by
  have hpw := pow_lt hn
  have hpx := Nat.pow_lt_pow_right (a := 2) (by decide) hx
  have hp0 := Nat.two_pow_pos x
  rw [Int.toNat_natCast, p2, h, dfI_nat]
  exact ⟨rfl, ⟨by omega, by omega⟩, ⟨by omega, by omega⟩⟩
theorem dN_at {H n x : Nat} (hn : n ≤ 8) (hH : H < 2 ^ n) (hx : x < n) : (dN H (2 ^ x)).testBit x = false ∧ ∀ i, i ≠ x → (dN H (2 ^ x)).testBit i = H.testBit i := by
  have hpw := pow_lt hn
  have hpx := Nat.pow_lt_pow_right (a := 2) (by decide) hx
  refine ⟨?_, fun i hi => ?_⟩
  · rw [dN_tb (by omega) (by omega), one_tb, decide_eq_true rfl]
    exact Bool.and_false _
  · rw [dN_tb (by omega) (by omega), one_tb, decide_eq_false (fun q => hi q.symm)]
    exact Bool.and_true _
theorem CN.setH {E : Ev} {M N : Mm} {n kk H H' m : Nat} {D : Int} {P : Nat → Int} {w : Nat → Nat → Int} (h : CN E M n kk H D P w) (hW : Wts E m) (hk : kk ≤ 30) (hn : n ≤ 8) (hm : 250 ≤ m) (h179 : N 179 3 = (H' : Int)) (hH : H' < 2 ^ n) (ho : ∀ c, (183 ≤ c ∧ c ≤ 218) ∨ m ≤ c → N c = M c) : CN E N n kk H' D P w := by
  obtain ⟨a1, a2, a3, a4, a5⟩ := h
  refine ⟨h179, hH, a3.keep (ho _ (by omega)) (ho _ (by omega)), fun c hc => (a4 c hc).keep (ho _ (by omega)) (ho _ (by omega)), fun k c hk' hc => ?_⟩
  obtain ⟨a, r, v⟩ := a5 k c hk' hc
  have := (hW _ a (by omega) r).2.1
  exact ⟨a, r, v.keep (ho _ (by omega)) (ho _ (by omega))⟩
theorem elect_ok {E : Ev} {M : Mm} {n kk H m p x el : Nat} {D : Int} {P : Nat → Int} {w : Nat → Nat → Int} (hp : isCt E p) (hp2 : 250 ≤ p) (hpm : p + 5 ≤ m) (hW : Wts E m) (hk : kk ≤ 30) (hn : n ≤ 8) (h : CN E M n kk H D P w) (hx : x < n) (he : M p 4 = (el : Int)) (hel : el < 3) : Ok (f_Co_elect E M p (x : Int)) (fun N => Off (fun i => i = 179 ∨ i = p ∨ i = p + 2) M N ∧ N 179 2 = M 179 2 ∧ (∀ k, k ≠ 4 → N p k = M p k) ∧ N p 4 = ((el + 1 : Nat) : Int) ∧ (∀ k, k ≠ el → N (p + 2) k = M (p + 2) k) ∧ N (p + 2) el = (x : Int) ∧ CN E N n kk (dN H (2 ^ x)) D P w) := by
  obtain ⟨t1, t2, t3⟩ := take_h hn h.1 h.2.1 hx
  unfold f_Co_elect
  rw [t1]
  have e4 : u2 M 179 3 ((dN H (2 ^ x) : Nat) : Int) p 4 = (el : Int) := by rw [u2_ne (Or.inl (by omega))]; exact he
  rw [e4, Int.toNat_natCast]
  have t3' : nnI (2 ^ x) := by rw [Int.toNat_natCast] at t3; exact t3
  refine ok_ck hp (ok_ck ⟨by omega, by omega⟩ (ok_ck t2 (ok_ck t3' (ok_ck (rgN (by omega)) (ok_if (fun z => by omega) (fun _ => ok_ck (inN hel (by decide)) (ok_nbx fun M5 hM5 => ok_some ?_)))))))
  have e45 : M5 p 4 = (el : Int) := by rw [hM5, u2_ne (Or.inl (by omega))]; exact e4
  rw [Int.toNat_natCast] at hM5
  have o5 : Off (fun i => i = 179 ∨ i = p + 2) M M5 := by rw [hM5]; exact (Off.refl.u2 (Or.inl rfl)).u2 (Or.inr rfl)
  refine ⟨(o5.mono fun c hc => by omega).u2 (Or.inr (Or.inl rfl)), ?_, fun k hk => ?_, ?_, fun k hk => ?_, ?_, ?_⟩
  · rw [u2_ne (Or.inl (by omega)), hM5, u2_ne (Or.inl (by omega)), u2_ne (Or.inr (by decide))]
  · rw [u2_ne (Or.inr hk), o5 p (by omega)]
  · rw [u2_at, e45]; rfl
  · rw [u2_ne (Or.inl (by omega)), hM5, u2_ne (Or.inr hk), u2_ne (Or.inl (by omega))]
  · rw [u2_ne (Or.inl (by omega)), hM5, u2_at]
  · refine h.setH hW hk hn (by omega) ?_ (dN_lt h.2.1) (fun c hc => ?_)
    · rw [u2_ne (Or.inl (by omega)), hM5, u2_ne (Or.inl (by omega)), u2_at]
    · rw [u2_row (by omega), o5 c (by omega)]
/-- the weights of x passed on, when x is excluded -/
theorem L55_ok {E : Ev} {M : Mm} {n kk H m p x : Nat} {C : Nat → Int} {G : Nat → Nat} {R : Nat → Nat → Nat} {A : Nat → Nat} {D : Int} {P : Nat → Int} {w : Nat → Nat → Int} (hL : Lay E) (hB : BX M n kk C G R A) (hW : Wts E m) (hm : 250 ≤ m) (hp : isCt E p) (hpm : p + 5 ≤ m) (hp2 : 250 ≤ p) (h2 : M p 2 = (kk : Int)) (hx : x < n) (h : CN E M n kk H D P w) (h0 : ∀ k, k < kk → 0 ≤ w k x) (hb : ∀ c, c < 9 → P c + sN (fun k => w k x) kk < pB 13) (hb2 : ∀ k c, k < kk → c < n → H.testBit c = true → w k c + w k x < pB 13) : Ok (l_Co_exclude_55 E p (x : Int) FU M 0) (fun r => r.1 = 1 ∧ Off (oCn m) M r.2.2 ∧ CN E r.2.2 n kk H D (shP R G n H (fun k => w k x) P kk) (shW R G n H (fun k => w k x) w kk)) := by
  have hk := hB.2.2.2.1
  have hn := hB.2.1
  refine L_Co_exclude_55 E p (x : Int) (I := fun N y => ∃ j : Nat, y = (j : Int) ∧ j ≤ kk ∧ Off (oCn m) M N ∧ CN E N n kk H D (shP R G n H (fun k => w k x) P j) (shW R G n H (fun k => w k x) w j)) (μ := fun _ y => kk - y.toNat) ?_ FU M 0 ⟨0, rfl, Nat.zero_le _, Off.refl, h.congr (fun c _ => shP_0.symm) (fun k c _ _ => shW_0.symm)⟩ (by show kk - _ < 5000; omega)
  rintro N y ⟨j, rfl, hj, oN, g⟩
  have e2 : N p 2 = (kk : Int) := by rw [oN p (by unfold oCn; omega)]; exact h2
  have bN : BX N n kk C G R A := hB.off oN (by unfold oCn; omega) (by unfold oCn; omega) (by unfold oCn; omega) (by unfold oCn; omega) (fun k hk => by unfold oCn; omega)
  unfold Co_exclude_55b
  rw [e2]
  refine ok_ck hp (ok_ck (rgN (by omega)) (ok_ck (rgN (by omega)) (ok_if (fun q => ?_) (fun q => ?_))))
  · have e : j = kk := by omega
    subst e
    exact ok_some (ok_out ne0 ⟨rfl, oN, g⟩)
  · have hjk : j < kk := by omega
    obtain ⟨a, r, va, ia, ha, ew⟩ := g.at hW hk hn hjk hx
    have ev : shW R G n H (fun k => w k x) w j j x = w j x := if_neg (Nat.lt_irrefl j)
    rw [ev] at va
    obtain ⟨s, va⟩ := va
    rw [ew]
    refine ok_sb (ok_ck ia (ok_bm (ok_copy (yo_185 hL) ia (Or.inl (by omega)) va) ?_))
    rintro N1 ⟨n1, o1⟩
    have b1 : BX N1 n kk C G R A := bN.off o1 (by unfold nn; omega) (by unfold nn; omega) (by unfold nn; omega) (by unfold nn; omega) (fun k hk => by unfold nn; omega)
    refine ok_bm (pass_step (am := fun k => w k x) hL b1 (Nat.le_refl _) hW hm hjk (g.off hW hk hn o1 (fun c hc => by unfold nn; omega)) ⟨s, n1⟩ h0 hb hb2) ?_
    rintro N2 ⟨o2, g2⟩
    exact ok_some (ok_go rfl ⟨⟨j + 1, c1 j, by omega, (oN.trans (o1.mono fun c hc => by unfold nn at hc; unfold oCn; omega)).trans (o2.mono fun c hc => oPa_up hc), g2⟩, cnt hjk⟩)
theorem exclude_ok {E : Ev} {M : Mm} {n kk H m p x ex : Nat} {C : Nat → Int} {G : Nat → Nat} {R : Nat → Nat → Nat} {A : Nat → Nat} {D : Int} {P : Nat → Int} {w : Nat → Nat → Int} (hL : Lay E) (hB : BX M n kk C G R A) (hW : Wts E m) (hp : isCt E p) (hpm : p + 5 ≤ m) (hp2 : 250 ≤ p) (h2 : M p 2 = (kk : Int)) (hx : x < n) (h : CN E M n kk H D P w) (h0 : ∀ k, k < kk → 0 ≤ w k x) (hb : ∀ c, c < 9 → 0 ≤ P c ∧ P c + sN (fun k => w k x) kk < pB 13) (hb2 : ∀ k c, k < kk → c < n → H.testBit c = true → w k c + w k x < pB 13) (he : M p 5 = (ex : Int)) (hex : ex < 8) : Ok (f_Co_exclude E M p (x : Int)) (fun N => Off (fun i => oCn m i ∨ i = 179 ∨ i = p ∨ i = p + 3) M N ∧ N 179 2 = M 179 2 ∧ (∀ k, k ≠ 5 → N p k = M p k) ∧ N p 5 = ((ex + 1 : Nat) : Int) ∧ CN E N n kk (dN H (2 ^ x)) D (shP R G n (dN H (2 ^ x)) (fun k => w k x) (nw x 0 P) kk) (shW R G n (dN H (2 ^ x)) (fun k => w k x) w kk)) := by
  have hk := hB.2.2.2.1
  have hn := hB.2.1
  obtain ⟨t1, t2, t3⟩ := take_h hn h.1 h.2.1 hx
  obtain ⟨d1, d2⟩ := dN_at hn h.2.1 hx
  unfold f_Co_exclude
  rw [t1]
  have e4 : u2 M 179 3 ((dN H (2 ^ x) : Nat) : Int) p 5 = (ex : Int) := by rw [u2_ne (Or.inl (by omega))]; exact he
  rw [e4, Int.toNat_natCast]
  have t3' : nnI (2 ^ x) := by rw [Int.toNat_natCast] at t3; exact t3
  refine ok_ck hp (ok_ck ⟨by omega, by omega⟩ (ok_ck t2 (ok_ck t3' (ok_ck (rgN (by omega)) (ok_if (fun z => by omega) (fun _ => ok_ck (inN hex (by decide)) (ok_nbx fun M5 hM5 => ?_)))))))
  have e45 : M5 p 5 = (ex : Int) := by rw [hM5, u2_ne (Or.inl (by omega))]; exact e4
  have o5 : Off (fun i => i = 179 ∨ i = p + 3) M M5 := by rw [hM5]; exact (Off.refl.u2 (Or.inl rfl)).u2 (Or.inr rfl)
  rw [e45]
  obtain ⟨M6, hM6⟩ : ∃ M6, M6 = u2 M5 p 5 ((ex : Int) + 1) := ⟨_, rfl⟩
  rw [← hM6]
  have o6 : Off (fun i => i = 179 ∨ i = p ∨ i = p + 3) M M6 := by rw [hM6]; exact (o5.mono fun c hc => by omega).u2 (Or.inr (Or.inl rfl))
  have h6 : CN E M6 n kk (dN H (2 ^ x)) D P w := by
    refine h.setH hW hk hn (by omega) ?_ (dN_lt h.2.1) (fun c hc => o6 c (by omega))
    rw [hM6, u2_ne (Or.inl (by omega)), hM5, u2_ne (Or.inl (by omega)), u2_at]
  have x9 : inb (x : Int) 9 := inN (by omega) (by decide)
  have nx := yg_182 hL x9
  rw [Int.toNat_natCast] at nx
  unfold Co_exclude_j43
  rw [Int.toNat_natCast]
  refine ok_ck hp (ok_ck x9 (ok_bm (ok_become nx (Int.le_refl 0) (by decide)) ?_))
  rintro M7 ⟨n7, o7⟩
  have h7 := h6.setP hW hk hn (show 250 ≤ m by omega) (show x < 9 by omega) o7 n7
  have o67 : Off (fun i => oCn m i ∨ i = 179 ∨ i = p ∨ i = p + 3) M M7 := (o6.mono fun c hc => by omega).trans (o7.mono fun c hc => by unfold nn at hc; unfold oCn; omega)
  have b7 : BX M7 n kk C G R A := hB.off o67 (by unfold oCn; omega) (by unfold oCn; omega) (by unfold oCn; omega) (by unfold oCn; omega) (fun k hk => by unfold oCn; omega)
  have s0 : 0 ≤ sN (fun k => w k x) kk := sN_nonneg h0
  refine ok_bm (L55_ok (P := nw x 0 P) hL b7 hW (show 250 ≤ m by omega) hp hpm hp2 ?_ hx h7 h0 (fun c hc => ?_) (fun k c hk' hc q => ?_)) ?_
  · rw [o7 p (by unfold nn; omega), hM6, u2_ne (Or.inr (by decide)), o5 p (by omega)]; exact h2
  · by_cases e : c = x
    · have := hb c hc
      rw [e, nw_at]; omega
    · rw [nw_ne e]; exact (hb c hc).2
  · by_cases e : c = x
    · rw [e, d1] at q; cases q
    · rw [d2 c e] at q; exact hb2 k c hk' hc q
  · rintro ⟨t, y, N⟩ ⟨t1', oNr, gNr⟩
    have oN : Off (oCn m) M7 N := oNr
    refine ok_ck t1' (ok_some ⟨o67.trans (oN.mono fun c hc => Or.inl hc), ?_, fun k hk => ?_, ?_, gNr⟩)
    · rw [oN 179 (by unfold oCn; omega), o7 179 (by unfold nn; omega), hM6, u2_ne (Or.inl (by omega)), hM5, u2_ne (Or.inl (by omega)), u2_ne (Or.inr (by decide))]
    · rw [oN p (by unfold oCn; omega), o7 p (by unfold nn; omega), hM6, u2_ne (Or.inr hk), o5 p (by omega)]
    · rw [oN p (by unfold oCn; omega), o7 p (by unfold nn; omega), hM6, u2_at]; rfl
