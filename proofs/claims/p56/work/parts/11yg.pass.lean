/-! THE COUNT'S NUMBERS, and an amount passed on -/
/-- the weights that are there stand apart -/
def Wts (E : Ev) (m : Nat) : Prop := ∀ i a, i < 240 → rE E 181 i = some a → isNa E a ∧ m ≤ a ∧ ∀ j b, j < 240 → rE E 181 j = some b → i ≠ j → ap a b
/-- hopefuls H, common denominator D, piles P, weights w -/
def CN (E : Ev) (M : Mm) (n kk H : Nat) (D : Int) (P : Nat → Int) (w : Nat → Nat → Int) : Prop := M 179 3 = (H : Int) ∧ H < 2 ^ n ∧ NatAt M 183 D ∧ (∀ c, c < 9 → NatAt M (201 + 2 * c) (P c)) ∧ ∀ k c, k < kk → c < n → ∃ a, rE E 181 (k * 8 + c) = some a ∧ NatAt M a (w k c)
def oCn (m i : Nat) : Prop := (183 ≤ i ∧ i ≤ 218) ∨ m ≤ i
def oPa (m i : Nat) : Prop := i = 185 ∨ i = 186 ∨ (201 ≤ i ∧ i ≤ 218) ∨ m ≤ i
theorem oPa_up {m i : Nat} (h : oPa m i) : oCn m i := by unfold oPa at h; unfold oCn; omega
def w1 (w : Nat → Nat → Int) (k c : Nat) (x : Int) (k' c' : Nat) : Int := if k' = k ∧ c' = c then x else w k' c'
theorem CN.congr {E : Ev} {M : Mm} {n kk H : Nat} {D : Int} {P P' : Nat → Int} {w w' : Nat → Nat → Int} (h : CN E M n kk H D P w) (hP : ∀ c, c < 9 → P c = P' c) (hw : ∀ k c, k < kk → c < n → w k c = w' k c) : CN E M n kk H D P' w' := by
  obtain ⟨a1, a2, a3, a4, a5⟩ := h
  exact ⟨a1, a2, a3, fun c hc => by rw [← hP c hc]; exact a4 c hc, fun k c hk hc => by rw [← hw k c hk hc]; exact a5 k c hk hc⟩
theorem CN.off {E : Ev} {M N : Mm} {n kk H m : Nat} {D : Int} {P : Nat → Int} {w : Nat → Nat → Int} {S : Nat → Prop} (h : CN E M n kk H D P w) (hW : Wts E m) (hk : kk ≤ 30) (hn : n ≤ 8) (ho : Off S M N) (h1 : ∀ c, c = 179 ∨ c = 183 ∨ c = 184 ∨ (201 ≤ c ∧ c ≤ 218) ∨ m ≤ c → ¬ S c) : CN E N n kk H D P w := by
  obtain ⟨a1, a2, a3, a4, a5⟩ := h
  refine ⟨by rw [ho 179 (h1 179 (by omega))]; exact a1, a2, a3.off ho (h1 183 (by omega)) (h1 184 (by omega)), fun c hc => (a4 c hc).off ho (h1 _ (by omega)) (h1 _ (by omega)), fun k c hk' hc => ?_⟩
  obtain ⟨a, r, v⟩ := a5 k c hk' hc
  have := (hW _ a (by omega) r).2.1
  exact ⟨a, r, v.off ho (h1 a (by omega)) (h1 (a + 1) (by omega))⟩
theorem CN.setP {E : Ev} {M N : Mm} {n kk H m i : Nat} {D x : Int} {P : Nat → Int} {w : Nat → Nat → Int} (h : CN E M n kk H D P w) (hW : Wts E m) (hk : kk ≤ 30) (hn : n ≤ 8) (hm : 250 ≤ m) (hi : i < 9) (ho : Off (nn (201 + 2 * i)) M N) (hx : NatAt N (201 + 2 * i) x) : CN E N n kk H D (nw i x P) w := by
  obtain ⟨a1, a2, a3, a4, a5⟩ := h
  refine ⟨by rw [ho 179 (by unfold nn; omega)]; exact a1, a2, a3.off ho (by unfold nn; omega) (by unfold nn; omega), fun c hc => ?_, fun k c hk' hc => ?_⟩
  · by_cases e : c = i
    · rw [e, nw_at]; exact hx
    · rw [nw_ne e]; exact (a4 c hc).off ho (by unfold nn; omega) (by unfold nn; omega)
  · obtain ⟨a, r, v⟩ := a5 k c hk' hc
    have := (hW _ a (by omega) r).2.1
    exact ⟨a, r, v.off ho (by unfold nn; omega) (by unfold nn; omega)⟩
theorem CN.setW {E : Ev} {M N : Mm} {n kk H m k c a : Nat} {D x : Int} {P : Nat → Int} {w : Nat → Nat → Int} (h : CN E M n kk H D P w) (hW : Wts E m) (hk : kk ≤ 30) (hn : n ≤ 8) (hm : 250 ≤ m) (hr : rE E 181 (k * 8 + c) = some a) (hkk : k < kk) (hc : c < n) (ho : Off (nn a) M N) (hx : NatAt N a x) : CN E N n kk H D P (w1 w k c x) := by
  obtain ⟨a1, a2, a3, a4, a5⟩ := h
  obtain ⟨-, ha, hap⟩ := hW _ a (by omega) hr
  refine ⟨by rw [ho 179 (by unfold nn; omega)]; exact a1, a2, a3.off ho (by unfold nn; omega) (by unfold nn; omega), fun c hc => (a4 c hc).off ho (by unfold nn; omega) (by unfold nn; omega), fun k' c' hk' hc' => ?_⟩
  by_cases e : k' = k ∧ c' = c
  · obtain ⟨rfl, rfl⟩ := e
    refine ⟨a, hr, ?_⟩
    unfold w1
    rw [if_pos ⟨rfl, rfl⟩]
    exact hx
  · obtain ⟨b, r, v⟩ := a5 k' c' hk' hc'
    have q := hap _ b (by omega) r (by omega)
    refine ⟨b, r, ?_⟩
    unfold w1
    rw [if_neg e]
    exact v.off ho q.n0 q.n1
theorem CN.at {E : Ev} {M : Mm} {n kk H m k c : Nat} {D : Int} {P : Nat → Int} {w : Nat → Nat → Int} (h : CN E M n kk H D P w) (hW : Wts E m) (hk : kk ≤ 30) (hn : n ≤ 8) (hkk : k < kk) (hc : c < n) : ∃ a, rE E 181 (k * 8 + c) = some a ∧ NatAt M a (w k c) ∧ isNa E a ∧ m ≤ a ∧ f_Co_weightOf E M (k : Int) (c : Int) = some a := by
  obtain ⟨a, r, v⟩ := h.2.2.2.2 k c hkk hc
  obtain ⟨i, ha, -⟩ := hW _ a (by omega) r
  refine ⟨a, r, v, i, ha, ?_⟩
  unfold f_Co_weightOf
  have e : (k : Int) * 8 + (c : Int) = ((k * 8 + c : Nat) : Int) := by omega
  rw [e, Int.toNat_natCast, r, ck_i (inN (by omega) (by decide))]
  show ck (isNa E a) (ck (isNa E a) (some a)) = some a
  rw [ck_i i, ck_i i]
/-- what each taker gets -/
theorem L46_ok {E : Ev} {M : Mm} {n kk H m k T : Nat} {D v : Int} {P : Nat → Int} {w : Nat → Nat → Int} (hL : Lay E) (h22 : M 2 2 = (n : Int)) (hW : Wts E m) (hm : 250 ≤ m) (hk : kk ≤ 30) (hn : n ≤ 8) (hkk : k < kk) (hT : T < 2 ^ n) (h : CN E M n kk H D P w) (hv : NatAt M 185 v) (hb : ∀ c, c < n → T.testBit c = true → P c + v < pB 13 ∧ w k c + v < pB 13) : Ok (l_Co_passOn_46 E (k : Int) (T : Int) FU M 0) (fun r => r.1 = 1 ∧ Off (oPa m) M r.2.2 ∧ CN E r.2.2 n kk H D (fun c => if T.testBit c = true then P c + v else P c) (fun k' c => if k' = k ∧ T.testBit c = true then w k' c + v else w k' c)) := by
  have hp := pow_lt hn
  refine L_Co_passOn_46 E (k : Int) (T : Int) (I := fun N x => ∃ i : Nat, x = (i : Int) ∧ i ≤ n ∧ Off (oPa m) M N ∧ NatAt N 185 v ∧ CN E N n kk H D (fun c => if c < i ∧ T.testBit c = true then P c + v else P c) (fun k' c => if k' = k ∧ c < i ∧ T.testBit c = true then w k' c + v else w k' c)) (μ := fun _ x => n - x.toNat) ?_ FU M 0 ⟨0, rfl, Nat.zero_le _, Off.refl, hv, h.congr (fun c _ => by rw [if_neg (fun q => Nat.not_lt_zero _ q.1)]) (fun k' c _ _ => by rw [if_neg (fun q => Nat.not_lt_zero _ q.2.1)])⟩ (by show n - _ < 5000; omega)
  rintro N x ⟨i, rfl, hi, oN, vN, cN'⟩
  have e22 : N 2 2 = (n : Int) := by rw [oN 2 (by unfold oPa; omega)]; exact h22
  unfold Co_passOn_46b
  rw [e22]
  refine ok_ck (rgN (by omega)) (ok_ck (rgN (by omega)) (ok_if (fun q => ?_) (fun q => ?_)))
  · have e : i = n := by omega
    subst e
    refine ok_some (ok_out ne0 ⟨rfl, oN, cN'.congr (fun c hc => ?_) (fun k' c _ hc => ?_)⟩)
    · by_cases d : T.testBit c = true
      · rw [if_pos d, if_pos ⟨tb_lt hT d, d⟩]
      · rw [if_neg d, if_neg (fun z => d z.2)]
    · by_cases d : k' = k ∧ T.testBit c = true
      · rw [if_pos d, if_pos ⟨d.1, hc, d.2⟩]
      · rw [if_neg d, if_neg (fun z => d ⟨z.1, z.2.2⟩)]
  · have hin : i < n := by omega
    rw [has_tb (by omega) (by omega)]
    by_cases d : T.testBit i = true
    · rw [if_pos d]
      obtain ⟨a, r, va, ia, ha, ew⟩ := cN'.at hW hk hn hkk hin
      have va : NatAt N a (w k i) := by
        have e : (fun k' c => if k' = k ∧ c < i ∧ T.testBit c = true then w k' c + v else w k' c) k i = w k i := if_neg (fun z => Nat.lt_irrefl _ z.2.1)
        rw [← e]; exact va
      obtain ⟨hb1, hb2⟩ := hb i hin d
      refine ok_sb (ok_ck (by decide) (ok_if (fun z => absurd z (by decide)) (fun _ => ?_)))
      rw [ew]
      refine ok_sb (ok_ck ia (ok_bm (ok_add ia (yo_185 hL) (Or.inr (by omega)) va vN hb2) ?_))
      rintro N1 ⟨n1, o1⟩
      have c1' := cN'.setW hW hk hn hm r hkk hin o1 n1
      have v1 : NatAt N1 185 v := vN.off o1 (by unfold nn; omega) (by unfold nn; omega)
      have p1 : NatAt N1 (201 + 2 * i) (P i) := by
        have e : (fun c => if c < i ∧ T.testBit c = true then P c + v else P c) i = P i := if_neg (fun z => Nat.lt_irrefl _ z.1)
        rw [← e]; exact c1'.2.2.2.1 i (by omega)
      have hin9 : inb (i : Int) 9 := inN (by omega) (by decide)
      have ni := yg_182 hL hin9
      rw [Int.toNat_natCast] at ni ⊢
      refine ok_ck hin9 (ok_bm (ok_add ni (yo_185 hL) (Or.inr (by omega)) p1 v1 hb1) ?_)
      rintro N2 ⟨n2, o2⟩
      have c2 := c1'.setP hW hk hn hm (show i < 9 by omega) o2 n2
      refine ok_some (ok_go rfl ⟨⟨i + 1, c1 i, by omega, (oN.trans (o1.mono fun c hc => by unfold nn at hc; unfold oPa; omega)).trans (o2.mono fun c hc => by unfold nn at hc; unfold oPa; omega), v1.off o2 (by unfold nn; omega) (by unfold nn; omega), c2.congr (fun c hc => ?_) (fun k' c _ hc => ?_)⟩, cnt hin⟩)
      · by_cases e : c = i
        · rw [e, nw_at, if_pos ⟨Nat.lt_succ_self i, d⟩]
        · rw [nw_ne e]
          by_cases z : c < i ∧ T.testBit c = true
          · rw [if_pos z, if_pos ⟨by omega, z.2⟩]
          · rw [if_neg z, if_neg (fun y => z ⟨by omega, y.2⟩)]
      · unfold w1
        by_cases e : k' = k ∧ c = i
        · obtain ⟨rfl, rfl⟩ := e
          rw [if_pos ⟨rfl, rfl⟩, if_pos ⟨rfl, Nat.lt_succ_self _, d⟩]
        · rw [if_neg e]
          show (if k' = k ∧ c < i ∧ T.testBit c = true then w k' c + v else w k' c) = if k' = k ∧ c < i + 1 ∧ T.testBit c = true then w k' c + v else w k' c
          by_cases z : k' = k ∧ c < i ∧ T.testBit c = true
          · rw [if_pos z, if_pos ⟨z.1, by omega, z.2.2⟩]
          · rw [if_neg z, if_neg (fun y => z ⟨y.1, by omega, y.2.2⟩)]
    · rw [if_neg d]
      refine ok_sb (ok_ck (by decide) (ok_if (fun _ => ok_some (ok_go rfl ⟨⟨i + 1, c1 i, by omega, oN, vN, cN'.congr (fun c hc => ?_) (fun k' c _ hc => ?_)⟩, cnt hin⟩)) (fun z => absurd rfl z)))
      · by_cases z : c < i ∧ T.testBit c = true
        · rw [if_pos z, if_pos ⟨by omega, z.2⟩]
        · rw [if_neg z, if_neg (fun y => z ⟨by have : c ≠ i := fun e => d (e ▸ y.2); omega, y.2⟩)]
      · by_cases z : k' = k ∧ c < i ∧ T.testBit c = true
        · rw [if_pos z, if_pos ⟨z.1, by omega, z.2.2⟩]
        · rw [if_neg z, if_neg (fun y => z ⟨y.1, by have : c ≠ i := fun e => d (e ▸ y.2.2); omega, y.2.2⟩)]
/-- the amount in 185 passed on, of the kind k -/
theorem passOn_ok {E : Ev} {M : Mm} {n kb kk H m k : Nat} {C : Nat → Int} {G : Nat → Nat} {R : Nat → Nat → Nat} {A : Nat → Nat} {D a : Int} {P : Nat → Int} {w : Nat → Nat → Int} (hL : Lay E) (hB : BX M n kb C G R A) (hkb : kk ≤ kb) (hW : Wts E m) (hm : 250 ≤ m) (hkk : k < kk) (h : CN E M n kk H D P w) (ha : NatAt M 185 a) (hb : ∀ c, c < 9 → P c + a < pB 13) (hb2 : ∀ c, c < n → H.testBit c = true → w k c + a < pB 13) : Ok (f_Co_passOn E M (k : Int)) (fun N => Off (oPa m) M N ∧ CN E N n kk H D (fun c => P c + sh (R k) (G k) n H a c) (fun k' c => if k' = k then w k' c + sh (R k) (G k) n H a c else w k' c)) := by
  have h22 := hB.1
  have hn := hB.2.1
  have hk : kk ≤ 30 := Nat.le_trans hkb hB.2.2.2.1
  have hp := pow_lt hn
  have rk := (hB.2.2.2.2.1 k (Nat.lt_of_lt_of_le hkk hkb)).1
  have ha0 := ha.lo
  unfold f_Co_passOn
  rw [h.1]
  refine ok_bm (topOf_ok rk (by omega) hn h.2.1) ?_
  rintro r ⟨S, rfl, hS, hb'⟩
  have eS : S = tps (R k) (G k) n H := tps_eq hS hb'
  refine ok_ck (rgN (by omega)) (ok_if (fun z => ?_) (fun z => ?_))
  · have z0 : tps (R k) (G k) n H = 0 := by rw [← eS]; omega
    have n8 : isNa E (201 + 2 * (8 : Int).toNat) := yg_182 hL (by decide)
    have p8 : NatAt M 217 (P 8) := h.2.2.2.1 8 (by decide)
    refine ok_bm (ok_add (q := 217) n8 (yo_185 hL) (Or.inr (by decide)) p8 ha (hb 8 (by decide))) ?_
    rintro N ⟨n1, o1⟩
    refine ok_some ⟨o1.mono fun c hc => by unfold nn at hc; unfold oPa; omega, (h.setP (i := 8) hW hk hn hm (by decide) o1 n1).congr (fun c hc => ?_) (fun k' c _ hc => ?_)⟩
    · show nw 8 (P 8 + a) P c = P c + sh (R k) (G k) n H a c
      unfold sh
      rw [if_pos z0]
      by_cases e : c = 8
      · rw [e, nw_at, if_pos rfl]
      · rw [nw_ne e, if_neg e, Int.add_zero]
    · have e8 : sh (R k) (G k) n H a c = 0 := by
        unfold sh
        rw [if_pos z0, if_neg (by omega)]
      rw [e8, Int.add_zero]
      by_cases e : k' = k
      · rw [if_pos e]
      · rw [if_neg e]
  · have z0 : tps (R k) (G k) n H ≠ 0 := by rw [← eS]; omega
    have hS1 : S ≠ 0 := by omega
    have g0 := cS_gt hS hS1
    have gb := cS_bounds S n
    rw [bitCount_cS E M (show n ≤ 12 by omega) hS]
    refine ok_sb (ok_bm (ok_divSmall (yo_185 hL) ha g0 (by omega)) ?_)
    rintro ⟨r1, N⟩ ⟨-, n1r, o1r⟩
    have n1 : NatAt N 185 (a / cS S n) := n1r
    have o1 : Off (nn 185) M N := o1r
    have q1 := Int.ediv_le_self (cS S n) ha0
    refine ok_bm (L46_ok (m := m) hL (by rw [o1 2 (by unfold nn; decide)]; exact h22) hW hm hk hn hkk hS (h.off hW hk hn o1 (fun c hc => by unfold nn; omega)) n1 (fun c hc q => ⟨?_, ?_⟩)) ?_
    · have := hb c (by omega); omega
    · have := hb2 c hc ((hb' c hc).mp q).1; omega
    rintro ⟨t, x3, N2⟩ ⟨t1, o2r, c2r⟩
    have o2 : Off (oPa m) N N2 := o2r
    refine ok_ck t1 (ok_some ⟨(o1.mono fun c hc => by unfold nn at hc; unfold oPa; omega).trans o2, CN.congr c2r (fun c hc => ?_) (fun k' c _ hc => ?_)⟩)
    · show (if S.testBit c = true then P c + a / cS S n else P c) = P c + sh (R k) (G k) n H a c
      unfold sh
      rw [if_neg z0, ← eS]
      by_cases d : S.testBit c = true
      · rw [if_pos d, if_pos d]
      · rw [if_neg d, if_neg d, Int.add_zero]
    · show (if k' = k ∧ S.testBit c = true then w k' c + a / cS S n else w k' c) = if k' = k then w k' c + sh (R k) (G k) n H a c else w k' c
      unfold sh
      rw [if_neg z0, ← eS]
      by_cases e : k' = k
      · rw [if_pos e]
        by_cases d : S.testBit c = true
        · rw [if_pos ⟨e, d⟩, if_pos d]
        · rw [if_neg (fun q => d q.2), if_neg d, Int.add_zero]
      · rw [if_neg e, if_neg (fun q => e q.1)]
