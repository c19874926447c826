theorem L102_ok {E : Ev} {M : Mm} {n m H : Nat} (hL : Lay E) (hm : 250 ≤ m) (h3 : M 179 3 = (H : Int)) : Ok (l_Co_start_102 5000 E M 0) (fun r => r.1 = 1 ∧ r.2.2.1 = E ∧ Off (oCn m) M r.2.2.2 ∧ ∀ c, c < 9 → NatAt r.2.2.2 (201 + 2 * c) 0) := by
  refine (L_Co_start_102 (I := fun F N y => F = E ∧ ∃ i : Nat, y = (i : Int) ∧ i ≤ 9 ∧ Off (oCn m) M N ∧ ∀ c, c < i → NatAt N (201 + 2 * c) 0) (μ := fun _ _ y => 9 - y.toNat) (Q := fun r => r.1 = 1 ∧ r.2.2.1 = E ∧ Off (oCn m) M r.2.2.2 ∧ ∀ c, c < 9 → NatAt r.2.2.2 (201 + 2 * c) 0) ?_ 5000 E M 0 ⟨rfl, 0, rfl, Nat.zero_le _, Off.refl, fun c hc => absurd hc (Nat.not_lt_zero c)⟩ (by show 9 - _ < 5000; omega))
  rintro F N y ⟨rfl, i, rfl, hi, oN, g⟩
  unfold Co_start_102b
  refine ok_ck hL (ok_ck (rgN (by omega)) (ok_if (fun q => ?_) (fun q => ?_)))
  · have e : i = 9 := by omega
    subst e
    exact ok_some (ok_out ne0 ⟨rfl, rfl, oN, g⟩)
  · have hi9 : i < 9 := by omega
    have i9 : inb (i : Int) 9 := inN hi9 (by decide)
    have ni := yg_182 hL i9
    rw [Int.toNat_natCast] at ni ⊢
    refine ok_ck i9 (ok_bm (ok_become ni (Int.le_refl 0) (by decide)) ?_)
    rintro N1 ⟨n1, o1⟩
    refine ok_some (ok_go rfl ⟨⟨rfl, i + 1, c1 i, by omega, oN.trans (o1.mono fun c hc => by unfold nn at hc; unfold oCn; omega), fun c hc => ?_⟩, cnt hi9⟩)
    by_cases e : c = i
    · rw [e]; exact n1
    · exact (g c (by omega)).off o1 (by unfold nn; omega) (by unfold nn; omega)
/-- what stands in the count p -/
def CK (M : Mm) (p n kk el ex : Nat) (q B : Int) (C : Nat → Int) (eo : Nat → Nat) : Prop := M p 0 = q ∧ M p 1 = (n : Int) ∧ M p 2 = (kk : Int) ∧ M p 3 = B ∧ M p 4 = (el : Int) ∧ M p 5 = (ex : Int) ∧ (∀ k, k < kk → M (p + 1) k = C k) ∧ ∀ i, i < el → M (p + 2) i = (eo i : Int)
theorem start_ok {E : Ev} {M : Mm} {n kk m p x : Nat} {C : Nat → Int} {G : Nat → Nat} {R : Nat → Nat → Nat} {A : Nat → Nat} {eo : Nat → Nat} (hL : Lay E) (hB : BX M n kk C G R A) (hn : n ≤ 5) (hs : sN C kk ≤ 8100) (hW : Wts E m) (hp : isCt E p) (hp2 : 250 ≤ p) (hpm : p + 5 ≤ m) (hmE : m ≤ nE E) (hx1 : 1 ≤ x) (hx3 : x ≤ 3) : Ok (f_Co_start E M p (x : Int)) (fun r => GR m E r.1 ∧ Off (fun i => oCn m i ∨ i = 179 ∨ i = p ∨ i = p + 1) M r.2 ∧ r.2 179 2 = M 179 2 ∧ CK r.2 p n kk 0 0 (sN C kk / ((x : Int) + 1) + 1) (sN C kk) C eo ∧ CN r.1 r.2 n kk (2 ^ n - 1) (facF n) (shP R G n (2 ^ n - 1) (fun k => C k * facF n) (fun _ => 0) kk) (shW R G n (2 ^ n - 1) (fun k => C k * facF n) (fun _ _ => 0) kk)) := by
  have h22 := hB.1
  have h23 := hB.2.2.1
  have hk := hB.2.2.2.1
  have hpw := pow_lt (show n ≤ 8 by omega)
  have hpp := Nat.two_pow_pos n
  have hC0 : ∀ k, k < kk → 0 ≤ C k := fun k hk => (hB.2.2.2.2.1 k hk).2.2
  have s0 : 0 ≤ sN C kk := sN_nonneg hC0
  unfold f_Co_start
  have e1 : u2 M p 1 (M 2 2) 2 3 = M 2 3 := u2_ne (Or.inl (by omega))
  rw [e1, h22, h23]
  obtain ⟨M2, hM2⟩ : ∃ M2, M2 = u2 (u2 M p 1 (n : Int)) p 2 (kk : Int) := ⟨_, rfl⟩
  rw [← hM2]
  have o2 : Off (fun i => i = p) M M2 := by rw [hM2]; exact Off.u2 (S := fun i => i = p) (Off.u2 (S := fun i => i = p) Off.refl rfl) rfl
  have e23 : M2 2 3 = (kk : Int) := by rw [o2 2 (by omega)]; exact h23
  rw [e23]
  refine ok_ck hL (ok_ck hp (ok_bm (ballotsOf_ok (p := 5) (L := 31) (C := C) ⟨yi_5 hL, by rw [yt_5 hL]⟩ (by rw [yt_5 hL]) (by omega) hk (by decide) (fun k hk' => by rw [o2 5 (by omega)]; exact (hB.2.2.2.2.1 k hk').2.1)) ?_))
  rintro r rfl
  rw [u2_at]
  refine ok_ck ⟨s0, by omega⟩ (ok_ck ⟨by omega, by omega⟩ (ok_nbx fun M3 hM3 => ?_))
  have o3 : Off (fun i => i = p) M M3 := by rw [hM3]; exact (o2.u2 rfl).u2 rfl
  refine ok_ck (by decide) (ok_nbx fun M5 hM5 => ?_)
  have o5 : Off (fun i => i = p ∨ i = p + 1) M M5 := by
    rw [hM5]
    exact (((o3.mono fun i hi => Or.inl hi).u2 (Or.inl rfl)).u2 (Or.inl rfl)).uA (Or.inr rfl)
  have k5 : CK M5 p n kk 0 0 (sN C kk / ((x : Int) + 1) + 1) (sN C kk) C eo := by
    have row : M5 p = u2 (u2 M3 p 4 0) p 5 0 p := by rw [hM5, uA_row (by omega)]
    refine ⟨?_, ?_, ?_, ?_, ?_, ?_, fun k hk' => ?_, fun i hi => absurd hi (Nat.not_lt_zero i)⟩
    · rw [row, u2_ne (Or.inr (by decide)), u2_ne (Or.inr (by decide)), hM3, u2_at]
    · rw [row, u2_ne (Or.inr (by decide)), u2_ne (Or.inr (by decide)), hM3, u2_ne (Or.inr (by decide)), u2_ne (Or.inr (by decide)), hM2, u2_ne (Or.inr (by decide)), u2_at]
    · rw [row, u2_ne (Or.inr (by decide)), u2_ne (Or.inr (by decide)), hM3, u2_ne (Or.inr (by decide)), u2_ne (Or.inr (by decide)), hM2, u2_at]
    · rw [row, u2_ne (Or.inr (by decide)), u2_ne (Or.inr (by decide)), hM3, u2_ne (Or.inr (by decide)), u2_at]
    · rw [row, u2_ne (Or.inr (by decide)), u2_at]; rfl
    · rw [row, u2_at]; rfl
    · rw [hM5, uA_at]
      unfold va_cpy
      rw [if_pos ⟨Nat.zero_le _, by omega⟩, u2_row (by omega), u2_row (by omega), o3 5 (by omega), Nat.zero_add, Nat.sub_zero]
      exact (hB.2.2.2.2.1 k hk').2.1
  have e522 : M5 2 2 = (n : Int) := by rw [o5 2 (by omega)]; exact h22
  rw [everybody_eq e522 (show n ≤ 8 by omega)]
  refine ok_sb ?_
  obtain ⟨M6, hM6⟩ : ∃ M6, M6 = u2 M5 179 3 ((2 ^ n - 1 : Nat) : Int) := ⟨_, rfl⟩
  rw [← hM6]
  have o6 : Off (fun i => i = 179) M5 M6 := by rw [hM6]; exact Off.refl.u2 rfl
  have e63 : M6 179 3 = ((2 ^ n - 1 : Nat) : Int) := by rw [hM6, u2_at]
  refine ok_bm (L102_ok (n := n) (m := m) hL (by omega) e63) ?_
  rintro ⟨t, y, F, M10⟩ ⟨t1, t2r, o10r, g10⟩
  have t2 : F = E := t2r
  subst t2
  have o10 : Off (oCn m) M6 M10 := o10r
  have e1022 : M10 2 2 = (n : Int) := by rw [o10 2 (by unfold oCn; omega), o6 2 (by omega)]; exact e522
  obtain ⟨f1, f2, f3⟩ := fac_fc hn
  refine ok_ck (gw_self _) (ok_ck hL (ok_ck t1 ?_))
  rw [e1022, Int.toNat_natCast]
  refine ok_ck (inN (by omega) (by decide)) (ok_bm (ok_become (yo_183 hL) (Int.le_of_lt f2) (by omega)) ?_)
  rintro M13 ⟨n13, o13⟩
  have o613 : Off (oCn m) M6 M13 := o10.trans (o13.mono fun i hi => by unfold nn at hi; unfold oCn; omega)
  have oAll : Off (fun i => oCn m i ∨ i = 179 ∨ i = p ∨ i = p + 1) M M13 := (o5.mono fun i hi => by omega).trans ((o6.mono fun i hi => by omega).trans (o613.mono fun i hi => Or.inl hi))
  have b13 : BX M13 n kk C G R A := hB.off oAll (by unfold oCn; omega) (by unfold oCn; omega) (by unfold oCn; omega) (by unfold oCn; omega) (fun k hk => by unfold oCn; omega)
  have c13 : CN F M13 n 0 (2 ^ n - 1) (facF n) (fun _ => 0) (fun _ _ => 0) := ⟨by rw [o613 179 (by unfold oCn; omega)]; exact e63, by omega, n13, fun c hc => (g10 c hc).off o13 (by unfold nn; omega) (by unfold nn; omega), fun k c hk' _ => absurd hk' (Nat.not_lt_zero k)⟩
  refine ok_bm (L147_ok (m := m) hL b13 hn hs hW (by omega) hmE f2 f3 c13) ?_
  rintro ⟨t, y, K, N⟩ ⟨t1', gKr, oNr, cNr⟩
  have gK : GR m F K := gKr
  have oN : Off (oCn m) M13 N := oNr
  have pp : ∀ c, c = p ∨ c = p + 1 ∨ c = p + 2 → N c = M5 c := fun c hc => by rw [oN c (by unfold oCn; omega), o613 c (by unfold oCn; omega), o6 c (by omega)]
  refine ok_ck gK.1 (ok_ck gK.2.1 (ok_ck t1' (ok_some ⟨gK, oAll.trans (oN.mono fun i hi => Or.inl hi), ?_, ?_, cNr⟩)))
  · show N 179 2 = M 179 2
    rw [oN 179 (by unfold oCn; omega), o613 179 (by unfold oCn; omega), hM6, u2_ne (Or.inr (by decide)), o5 179 (by omega)]
  · show CK N p n kk 0 0 (sN C kk / ((x : Int) + 1) + 1) (sN C kk) C eo
    unfold CK
    rw [pp p (by omega), pp (p + 1) (by omega), pp (p + 2) (by omega)]
    exact k5
/-- a moment kept -/
def KP (M : Mm) (p s : Nat) (D : Int) (P : Nat → Int) : Prop := (∀ c, c < 10 → Lr (fun i => M (p + 4) ((s * 10 + c) * 13 + i)) 13) ∧ (∀ c, c < 9 → MV M p s c = P c) ∧ MV M p s 9 = D
theorem keepMoment_ok {E : Ev} {M : Mm} {n kk H p el ex : Nat} {D : Int} {P : Nat → Int} {w : Nat → Nat → Int} (hL : Lay E) (hp : isCt E p) (hp2 : 250 ≤ p) (h : CN E M n kk H D P w) (h4 : M p 4 = (el : Int)) (h5 : M p 5 = (ex : Int)) (hs : el + ex ≤ 8) : Ok (f_Co_keepMoment E M p) (fun N => Off (fun i => i = p + 4) M N ∧ KP N p (el + ex) D P ∧ ∀ i, (i < (el + ex) * 130 ∨ (el + ex + 1) * 130 ≤ i) → N (p + 4) i = M (p + 4) i) := by
  obtain ⟨s, hs'⟩ : ∃ s, s = el + ex := ⟨_, rfl⟩
  have es : M p 4 + M p 5 = (s : Int) := by rw [h4, h5]; omega
  have iP : isIA E (p + 4) := ⟨hp.1, by rw [hp.2.2.2.2.2.2.2.2.2]⟩
  have iT : (tE E (p + 4)).2 = 1170 := by rw [hp.2.2.2.2.2.2.2.2.2]
  rw [← hs']
  unfold f_Co_keepMoment
  rw [es]
  refine ok_ck hp (ok_bm (L_Co_keepMoment_12 E p (s : Int) (I := fun N y => ∃ c : Nat, y = (c : Int) ∧ c ≤ 9 ∧ Off (fun i => i = p + 4) M N ∧ (∀ d, d < c → Lr (fun i => N (p + 4) ((s * 10 + d) * 13 + i)) 13 ∧ MV N p s d = P d) ∧ ∀ i, (i < s * 130 ∨ (s * 10 + c) * 13 ≤ i) → N (p + 4) i = M (p + 4) i) (μ := fun _ y => 9 - y.toNat) (Q := fun r => r.1 = 1 ∧ Off (fun i => i = p + 4) M r.2.2 ∧ (∀ d, d < 9 → Lr (fun i => r.2.2 (p + 4) ((s * 10 + d) * 13 + i)) 13 ∧ MV r.2.2 p s d = P d) ∧ ∀ i, (i < s * 130 ∨ (s * 10 + 9) * 13 ≤ i) → r.2.2 (p + 4) i = M (p + 4) i) ?_ FU M 0 ⟨0, rfl, Nat.zero_le _, Off.refl, fun d hd => absurd hd (Nat.not_lt_zero d), fun _ _ => rfl⟩ (by show 9 - _ < 5000; omega)) ?_)
  · rintro N y ⟨c, rfl, hc, oN, g, gz⟩
    unfold Co_keepMoment_12b
    refine ok_ck hp (ok_ck (rgN (by omega)) (ok_if (fun q => ?_) (fun q => ?_)))
    · have e : c = 9 := by omega
      subst e
      exact ok_some (ok_out ne0 ⟨rfl, oN, g, gz⟩)
    · have hc9 : c < 9 := by omega
      have i9 : inb (c : Int) 9 := inN hc9 (by decide)
      have nc := yg_182 hL i9
      obtain ⟨z, pc'⟩ := h.2.2.2.1 c hc9
      have pN : NatS N (201 + 2 * c) z (P c) := pc'.off oN (by omega) (by omega)
      rw [place_of hp]
      rw [Int.toNat_natCast] at nc ⊢
      refine ok_ck i9 (ok_sb (ok_bm (ok_store nc iP iT (show (s * 10 + c) * 13 + 13 ≤ 1170 by omega) (by decide) (by omega) (by omega) pN) ?_))
      rintro N1 ⟨o1, n1, n2⟩
      refine ok_some (ok_go rfl ⟨⟨c + 1, c1 c, by omega, oN.trans o1, fun d hd => ?_, fun i hi => ?_⟩, cnt hc9⟩)
      · by_cases e : d = c
        · subst e
          refine ⟨fun i hi => ?_, ?_⟩
          · show 0 ≤ N1 (p + 4) ((s * 10 + d) * 13 + i) ∧ N1 (p + 4) ((s * 10 + d) * 13 + i) < 1073741824
            rw [n1 i hi]
            exact lim_Lr pN 13 i hi
          · unfold MV
            rw [Sg_congr n1]
            exact lim_Sg pN pN.2.1
        · have ee : ∀ i, i < 13 → N1 (p + 4) ((s * 10 + d) * 13 + i) = N (p + 4) ((s * 10 + d) * 13 + i) := fun i hi => n2 _ (by omega)
          obtain ⟨g1, g2⟩ := g d (by omega)
          refine ⟨fun i hi => ?_, ?_⟩
          · show 0 ≤ N1 (p + 4) ((s * 10 + d) * 13 + i) ∧ N1 (p + 4) ((s * 10 + d) * 13 + i) < 1073741824
            rw [ee i hi]
            exact g1 i hi
          · unfold MV at g2 ⊢
            rw [Sg_congr ee]
            exact g2
      · show N1 (p + 4) i = M (p + 4) i
        rw [n2 i (by omega)]
        exact gz i (by omega)
  · rintro ⟨t, y, N⟩ ⟨t1, oNr, gr, gzr⟩
    have oN : Off (fun i => i = p + 4) M N := oNr
    have g : ∀ d, d < 9 → Lr (fun i => N (p + 4) ((s * 10 + d) * 13 + i)) 13 ∧ MV N p s d = P d := gr
    have gz : ∀ i, (i < s * 130 ∨ (s * 10 + 9) * 13 ≤ i) → N (p + 4) i = M (p + 4) i := gzr
    have e9 : f_Ct_placeOf E N p (s : Int) 9 = some (((s * 10 + 9) * 13 : Nat) : Int) := place_of (c := 9) hp
    refine ok_ck t1 ?_
    rw [e9]
    obtain ⟨z, pc'⟩ := h.2.2.1
    have pN : NatS N 183 z D := pc'.off oN (by omega) (by omega)
    refine ok_sb (ok_bm (ok_store (yo_183 hL) iP iT (show (s * 10 + 9) * 13 + 13 ≤ 1170 by omega) (by decide) (by omega) (by omega) pN) ?_)
    rintro N1 ⟨o1, n1, n2⟩
    have ee : ∀ d, d < 9 → ∀ i, i < 13 → N1 (p + 4) ((s * 10 + d) * 13 + i) = N (p + 4) ((s * 10 + d) * 13 + i) := fun d hd i hi => n2 _ (by omega)
    refine ok_some ⟨oN.trans o1, ⟨fun c hc => ?_, fun c hc => ?_, ?_⟩, fun i hi => ?_⟩
    · by_cases e : c = 9
      · subst e
        intro i hi
        show 0 ≤ N1 (p + 4) ((s * 10 + 9) * 13 + i) ∧ N1 (p + 4) ((s * 10 + 9) * 13 + i) < 1073741824
        rw [n1 i hi]
        exact lim_Lr pN 13 i hi
      · intro i hi
        show 0 ≤ N1 (p + 4) ((s * 10 + c) * 13 + i) ∧ N1 (p + 4) ((s * 10 + c) * 13 + i) < 1073741824
        rw [ee c (by omega) i hi]
        exact (g c (by omega)).1 i hi
    · have := (g c hc).2
      unfold MV at this ⊢
      rw [Sg_congr (ee c hc)]
      exact this
    · unfold MV
      rw [Sg_congr n1]
      exact lim_Sg pN pN.2.1
    · rw [n2 i (by omega)]
      exact gz i (by omega)
