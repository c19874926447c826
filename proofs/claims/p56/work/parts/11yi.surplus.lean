/-! THE COUNT: all made finer, a surplus passed on -/
theorem coMul_ok {E : Ev} {M : Mm} {q f : Nat} {a b : Int} (hL : Lay E) (hq : isNa E q) (hf : isNa E f) (h1 : ap q 199) (h2 : ap f 199) (ha : NatAt M q a) (hb : NatAt M f b) (hlt : a * b < pB 13) : Ok (f_Co_multiply E M q f) (fun N => NatAt N q (a * b) ∧ Off (fun i => nn q i ∨ i = 199 ∨ i = 200) M N) := by
  obtain ⟨s, ha'⟩ := ha
  unfold f_Co_multiply
  rw [ha'.1]
  refine ok_ck hq (ok_ck hf (ok_ck (rgI_nat (by have := ha'.2.1; omega)) (ok_if (fun z => ?_) (fun z => ?_))))
  · have e : a = 0 := ha'.zero.mp (by omega)
    subst e
    rw [Int.zero_mul]
    exact ok_some ⟨⟨s, ha'⟩, Off.refl⟩
  · refine ok_bm (ok_multiply (yo_199 hL) hq hf h1.symm h2.symm ⟨s, ha'⟩ hb hlt) ?_
    rintro N ⟨⟨t, n1⟩, o1⟩
    refine ok_bm (ok_copy hq (yo_199 hL) h1 n1) ?_
    rintro K ⟨k1, o2⟩
    exact ok_some ⟨⟨t, k1⟩, (o1.mono fun c hc => by unfold nn at hc; omega).trans (o2.mono fun c hc => Or.inl hc)⟩
def oMu (m i : Nat) : Prop := i = 183 ∨ i = 184 ∨ (199 ≤ i ∧ i ≤ 218) ∨ m ≤ i
theorem CN.setD {E : Ev} {M N : Mm} {n kk H m : Nat} {D x : Int} {P : Nat → Int} {w : Nat → Nat → Int} (h : CN E M n kk H D P w) (hW : Wts E m) (hk : kk ≤ 30) (hn : n ≤ 8) (hm : 250 ≤ m) (ho : Off (fun i => nn 183 i ∨ i = 199 ∨ i = 200) M N) (hx : NatAt N 183 x) : CN E N n kk H x P w := by
  obtain ⟨a1, a2, a3, a4, a5⟩ := h
  refine ⟨by rw [ho 179 (by unfold nn; omega)]; exact a1, a2, hx, fun c hc => (a4 c hc).off ho (by unfold nn; omega) (by unfold nn; omega), fun k c hk' hc => ?_⟩
  obtain ⟨a, r, v⟩ := a5 k c hk' hc
  have := (hW _ a (by omega) r).2.1
  exact ⟨a, r, v.off ho (by unfold nn; omega) (by unfold nn; omega)⟩
theorem CN.setP' {E : Ev} {M N : Mm} {n kk H m i : Nat} {D x : Int} {P : Nat → Int} {w : Nat → Nat → Int} (h : CN E M n kk H D P w) (hW : Wts E m) (hk : kk ≤ 30) (hn : n ≤ 8) (hm : 250 ≤ m) (hi : i < 9) (ho : Off (fun j => nn (201 + 2 * i) j ∨ j = 199 ∨ j = 200) M N) (hx : NatAt N (201 + 2 * i) x) : CN E N n kk H D (nw i x P) w := by
  obtain ⟨a1, a2, a3, a4, a5⟩ := h
  refine ⟨by rw [ho 179 (by unfold nn; omega)]; exact a1, a2, a3.off ho (by unfold nn; omega) (by unfold nn; omega), fun c hc => ?_, fun k c hk' hc => ?_⟩
  · by_cases e : c = i
    · rw [e, nw_at]; exact hx
    · rw [nw_ne e]; exact (a4 c hc).off ho (by unfold nn; omega) (by unfold nn; omega)
  · obtain ⟨a, r, v⟩ := a5 k c hk' hc
    have := (hW _ a (by omega) r).2.1
    exact ⟨a, r, v.off ho (by unfold nn; omega) (by unfold nn; omega)⟩
theorem CN.setW' {E : Ev} {M N : Mm} {n kk H m k c a : Nat} {D x : Int} {P : Nat → Int} {w : Nat → Nat → Int} (h : CN E M n kk H D P w) (hW : Wts E m) (hk : kk ≤ 30) (hn : n ≤ 8) (hm : 250 ≤ m) (hr : rE E 181 (k * 8 + c) = some a) (hkk : k < kk) (hc : c < n) (ho : Off (fun j => nn a j ∨ j = 199 ∨ j = 200) M N) (hx : NatAt N a x) : CN E N n kk H D P (w1 w k c x) := by
  obtain ⟨a1, a2, a3, a4, a5⟩ := h
  obtain ⟨-, ha, hap⟩ := hW _ a (by omega) hr
  refine ⟨by rw [ho 179 (by unfold nn; omega)]; exact a1, a2, a3.off ho (by unfold nn; omega) (by unfold nn; omega), fun c hc => (a4 c hc).off ho (by unfold nn; omega) (by unfold nn; omega), fun k' c' hk' hc' => ?_⟩
  by_cases e : k' = k ∧ c' = c
  · obtain ⟨rfl, rfl⟩ := e
    refine ⟨a, hr, ?_⟩
    unfold w1
    rw [if_pos ⟨rfl, rfl⟩]
    exact hx
  · obtain ⟨b, r, v⟩ := a5 k' c' hk' hc'
    obtain ⟨-, hb, -⟩ := hW _ b (by omega) r
    have q := hap _ b (by omega) r (by omega)
    have q0 := q.n0
    have q1 := q.n1
    refine ⟨b, r, ?_⟩
    unfold w1
    rw [if_neg e]
    exact v.off ho (by rintro (z | z | z); exact q0 z; omega; omega) (by rintro (z | z | z); exact q1 z; omega; omega)
theorem L11_ok {E : Ev} {M : Mm} {n kk H m : Nat} {D f : Int} {P : Nat → Int} {w : Nat → Nat → Int} (hL : Lay E) (hW : Wts E m) (hm : 250 ≤ m) (hk : kk ≤ 30) (hn : n ≤ 8) (h : CN E M n kk H D P w) (hf : NatAt M 191 f) (hb : ∀ c, c < 9 → P c * f < pB 13) : Ok (l_Co_multiplyAll_11 E 191 FU M 0) (fun r => r.1 = 1 ∧ Off (oMu m) M r.2.2 ∧ CN E r.2.2 n kk H D (fun c => P c * f) w) := by
  refine (L_Co_multiplyAll_11 E 191 (I := fun N y => ∃ i : Nat, y = (i : Int) ∧ i ≤ 9 ∧ Off (oMu m) M N ∧ CN E N n kk H D (fun c => if c < i then P c * f else P c) w) (μ := fun _ y => 9 - y.toNat) (Q := fun r => r.1 = 1 ∧ Off (oMu m) M r.2.2 ∧ CN E r.2.2 n kk H D (fun c => P c * f) w) ?_ FU M 0 ⟨0, rfl, Nat.zero_le _, Off.refl, h.congr (fun c _ => (if_neg (Nat.not_lt_zero c)).symm) (fun _ _ _ _ => rfl)⟩ (by show 9 - _ < 5000; omega))
  rintro N y ⟨i, rfl, hi, oN, g⟩
  have n191 := yo_191 hL
  unfold Co_multiplyAll_11b
  refine ok_ck n191 (ok_ck (rgN (by omega)) (ok_if (fun q => ?_) (fun q => ?_)))
  · have e : i = 9 := by omega
    subst e
    exact ok_some (ok_out ne0 ⟨rfl, oN, g.congr (fun c hc => if_pos hc) (fun _ _ _ _ => rfl)⟩)
  · have hi9 : i < 9 := by omega
    have i9 : inb (i : Int) 9 := inN hi9 (by decide)
    have ni := yg_182 hL i9
    rw [Int.toNat_natCast] at ni ⊢
    have pi : NatAt N (201 + 2 * i) (P i) := by
      have e : (fun c => if c < i then P c * f else P c) i = P i := if_neg (Nat.lt_irrefl i)
      rw [← e]; exact g.2.2.2.1 i hi9
    have fN : NatAt N 191 f := hf.off oN (by unfold oMu; omega) (by unfold oMu; omega)
    refine ok_ck i9 (ok_bm (coMul_ok hL ni n191 (Or.inr (by omega)) (Or.inl (by decide)) pi fN (hb i hi9)) ?_)
    rintro N1 ⟨n1, o1⟩
    refine ok_some (ok_go rfl ⟨⟨i + 1, c1 i, by omega, oN.trans (o1.mono fun c hc => by unfold nn at hc; unfold oMu; omega), (g.setP' hW hk hn hm hi9 o1 n1).congr (fun c hc => ?_) (fun _ _ _ _ => rfl)⟩, cnt hi9⟩)
    by_cases e : c = i
    · rw [e, nw_at, if_pos (Nat.lt_succ_self i)]
    · rw [nw_ne e]
      by_cases z : c < i
      · rw [if_pos z, if_pos (by omega)]
      · rw [if_neg z, if_neg (by omega)]
theorem Lm49_ok {E : Ev} {M : Mm} {n kk H m k : Nat} {D f : Int} {P : Nat → Int} {w : Nat → Nat → Int} (hL : Lay E) (h22 : M 2 2 = (n : Int)) (hW : Wts E m) (hm : 250 ≤ m) (hk : kk ≤ 30) (hn : n ≤ 8) (hkk : k < kk) (h : CN E M n kk H D P w) (hf : NatAt M 191 f) (hb : ∀ c, c < n → H.testBit c = true → w k c * f < pB 13) : Ok (l_Co_multiplyAll_49 E 191 (k : Int) FU M 0) (fun r => r.1 = 1 ∧ Off (oMu m) M r.2.2 ∧ CN E r.2.2 n kk H D P (fun k' c => if k' = k ∧ H.testBit c = true then w k' c * f else w k' c)) := by
  have hpw := pow_lt hn
  have hH2 := h.2.1
  have n191 := yo_191 hL
  refine (L_Co_multiplyAll_49 E 191 (k : Int) (I := fun N y => ∃ i : Nat, y = (i : Int) ∧ i ≤ n ∧ Off (oMu m) M N ∧ CN E N n kk H D P (fun k' c => if k' = k ∧ c < i ∧ H.testBit c = true then w k' c * f else w k' c)) (μ := fun _ y => n - y.toNat) (Q := fun r => r.1 = 1 ∧ Off (oMu m) M r.2.2 ∧ CN E r.2.2 n kk H D P (fun k' c => if k' = k ∧ H.testBit c = true then w k' c * f else w k' c)) ?_ FU M 0 ⟨0, rfl, Nat.zero_le _, Off.refl, h.congr (fun _ _ => rfl) (fun k' c _ _ => (if_neg (fun q => Nat.not_lt_zero _ q.2.1)).symm)⟩ (by show n - _ < 5000; omega))
  rintro N y ⟨i, rfl, hi, oN, g⟩
  have e22 : N 2 2 = (n : Int) := by rw [oN 2 (by unfold oMu; omega)]; exact h22
  unfold Co_multiplyAll_49b
  rw [e22, g.1]
  refine ok_ck n191 (ok_ck (rgN (by omega)) (ok_ck (rgN (by omega)) (ok_if (fun q => ?_) (fun q => ?_))))
  · have e : i = n := by omega
    subst e
    refine ok_some (ok_out ne0 ⟨rfl, oN, g.congr (fun _ _ => rfl) (fun k' c _ hc => ?_)⟩)
    by_cases d : k' = k ∧ H.testBit c = true
    · rw [if_pos d, if_pos ⟨d.1, hc, d.2⟩]
    · rw [if_neg d, if_neg (fun z => d ⟨z.1, z.2.2⟩)]
  · have hin : i < n := by omega
    rw [has_tb (by omega) (by omega)]
    by_cases d : H.testBit i = true
    · rw [if_pos d]
      obtain ⟨a, r, va, ia, ha, ew⟩ := g.at hW hk hn hkk hin
      have va : NatAt N a (w k i) := by
        have e : (fun k' c => if k' = k ∧ c < i ∧ H.testBit c = true then w k' c * f else w k' c) k i = w k i := if_neg (fun z => Nat.lt_irrefl _ z.2.1)
        rw [← e]; exact va
      have fN : NatAt N 191 f := hf.off oN (by unfold oMu; omega) (by unfold oMu; omega)
      refine ok_sb (ok_ck (by decide) (ok_if (fun z => absurd z (by decide)) (fun _ => ?_)))
      rw [ew]
      refine ok_sb (ok_ck ia (ok_bm (coMul_ok hL ia n191 (Or.inr (by omega)) (Or.inl (by decide)) va fN (hb i hin d)) ?_))
      rintro N1 ⟨n1, o1⟩
      refine ok_some (ok_go rfl ⟨⟨i + 1, c1 i, by omega, oN.trans (o1.mono fun c hc => by unfold nn at hc; unfold oMu; omega), (g.setW' hW hk hn hm r hkk hin o1 n1).congr (fun _ _ => rfl) (fun k' c _ hc => ?_)⟩, cnt hin⟩)
      unfold w1
      by_cases e : k' = k ∧ c = i
      · obtain ⟨rfl, rfl⟩ := e
        rw [if_pos ⟨rfl, rfl⟩, if_pos ⟨rfl, Nat.lt_succ_self _, d⟩]
      · rw [if_neg e]
        show (if k' = k ∧ c < i ∧ H.testBit c = true then w k' c * f else w k' c) = if k' = k ∧ c < i + 1 ∧ H.testBit c = true then w k' c * f else w k' c
        by_cases z : k' = k ∧ c < i ∧ H.testBit c = true
        · rw [if_pos z, if_pos ⟨z.1, by omega, z.2.2⟩]
        · rw [if_neg z, if_neg (fun y => z ⟨y.1, by omega, y.2.2⟩)]
    · rw [if_neg d]
      refine ok_sb (ok_ck (by decide) (ok_if (fun _ => ok_some (ok_go rfl ⟨⟨i + 1, c1 i, by omega, oN, g.congr (fun _ _ => rfl) (fun k' c _ hc => ?_)⟩, cnt hin⟩)) (fun z => absurd rfl z)))
      by_cases z : k' = k ∧ c < i ∧ H.testBit c = true
      · rw [if_pos z, if_pos ⟨z.1, by omega, z.2.2⟩]
      · rw [if_neg z, if_neg (fun y => z ⟨y.1, by have : c ≠ i := fun e => d (e ▸ y.2.2); omega, y.2.2⟩)]
theorem multiplyAll_ok {E : Ev} {M : Mm} {n kk H m : Nat} {D f : Int} {P : Nat → Int} {w : Nat → Nat → Int} (hL : Lay E) (h22 : M 2 2 = (n : Int)) (h23 : M 2 3 = (kk : Int)) (hW : Wts E m) (hm : 250 ≤ m) (hk : kk ≤ 30) (hn : n ≤ 8) (h : CN E M n kk H D P w) (hf : NatAt M 191 f) (hD : D * f < pB 13) (hb : ∀ c, c < 9 → P c * f < pB 13) (hb2 : ∀ k c, k < kk → c < n → H.testBit c = true → w k c * f < pB 13) : Ok (f_Co_multiplyAll E M 191) (fun N => Off (oMu m) M N ∧ CN E N n kk H (D * f) (fun c => P c * f) (fun k c => if H.testBit c = true then w k c * f else w k c)) := by
  have n191 := yo_191 hL
  unfold f_Co_multiplyAll
  refine ok_ck n191 (ok_bm (coMul_ok hL (yo_183 hL) n191 (Or.inl (by decide)) (Or.inl (by decide)) h.2.2.1 hf hD) ?_)
  rintro N1 ⟨n1, o1⟩
  have c1' := h.setD hW hk hn hm o1 n1
  have f1 : NatAt N1 191 f := hf.off o1 (by unfold nn; omega) (by unfold nn; omega)
  refine ok_bm (L11_ok hL hW hm hk hn c1' f1 hb) ?_
  rintro ⟨t, y, N2⟩ ⟨t1, o2r, c2r⟩
  have o2 : Off (oMu m) N1 N2 := o2r
  have c2 : CN E N2 n kk H (D * f) (fun c => P c * f) w := c2r
  have f2 : NatAt N2 191 f := f1.off o2 (by unfold oMu; omega) (by unfold oMu; omega)
  have o12 : Off (oMu m) M N2 := (o1.mono fun c hc => by unfold nn at hc; unfold oMu; omega).trans o2
  refine ok_ck t1 (ok_bm (L_Co_multiplyAll_36 E 191 (I := fun N y => ∃ j : Nat, y = (j : Int) ∧ j ≤ kk ∧ Off (oMu m) N2 N ∧ CN E N n kk H (D * f) (fun c => P c * f) (fun k c => if k < j ∧ H.testBit c = true then w k c * f else w k c)) (μ := fun _ y => kk - y.toNat) (Q := fun r => r.1 = 1 ∧ Off (oMu m) N2 r.2.2 ∧ CN E r.2.2 n kk H (D * f) (fun c => P c * f) (fun k c => if H.testBit c = true then w k c * f else w k c)) ?_ FU N2 0 ⟨0, rfl, Nat.zero_le _, Off.refl, c2.congr (fun _ _ => rfl) (fun k c _ _ => (if_neg (fun q => Nat.not_lt_zero _ q.1)).symm)⟩ (by show kk - _ < 5000; omega)) ?_)
  · rintro N y ⟨j, rfl, hj, oN, g⟩
    have o2N : Off (oMu m) M N := o12.trans oN
    have e23 : N 2 3 = (kk : Int) := by rw [o2N 2 (by unfold oMu; omega)]; exact h23
    unfold Co_multiplyAll_36b
    rw [e23]
    refine ok_ck n191 (ok_ck (rgN (by omega)) (ok_ck (rgN (by omega)) (ok_if (fun q => ?_) (fun q => ?_))))
    · have e : j = kk := by omega
      subst e
      refine ok_some (ok_out ne0 ⟨rfl, oN, g.congr (fun _ _ => rfl) (fun k c hk' _ => ?_)⟩)
      by_cases d : H.testBit c = true
      · rw [if_pos d, if_pos ⟨hk', d⟩]
      · rw [if_neg d, if_neg (fun z => d z.2)]
    · have hjk : j < kk := by omega
      refine ok_bm (Lm49_ok hL (by rw [o2N 2 (by unfold oMu; omega)]; exact h22) hW hm hk hn hjk g (f2.off oN (by unfold oMu; omega) (by unfold oMu; omega)) (fun c hc q => ?_)) ?_
      · rw [if_neg (fun z => Nat.lt_irrefl _ z.1)]
        exact hb2 j c hjk hc q
      rintro ⟨t, y, N3⟩ ⟨t1', o3r, c3r⟩
      have o3 : Off (oMu m) N N3 := o3r
      refine ok_ck t1' (ok_some (ok_go rfl ⟨⟨j + 1, c1 j, by omega, oN.trans o3, CN.congr c3r (fun _ _ => rfl) (fun k c _ _ => ?_)⟩, cnt hjk⟩))
      by_cases e : k = j
      · subst e
        by_cases d : H.testBit c = true
        · rw [if_pos ⟨rfl, d⟩, if_neg (fun z => Nat.lt_irrefl _ z.1), if_pos ⟨Nat.lt_succ_self _, d⟩]
        · rw [if_neg (fun z => d z.2), if_neg (fun z => d z.2), if_neg (fun z => d z.2)]
      · rw [if_neg (fun z => e z.1)]
        by_cases z : k < j ∧ H.testBit c = true
        · rw [if_pos z, if_pos ⟨by omega, z.2⟩]
        · rw [if_neg z, if_neg (fun y => z ⟨by omega, y.2⟩)]
  · rintro ⟨t, y, N⟩ ⟨t1', oN, gN⟩
    exact ok_ck t1' (ok_some ⟨o12.trans oN, gN⟩)
/-- the surplus of x, who is elected, passed on; the quota's pile in 187 -/
theorem passSurplus_ok {E : Ev} {M : Mm} {n kk H m x : Nat} {C : Nat → Int} {G : Nat → Nat} {R : Nat → Nat → Nat} {A : Nat → Nat} {D h Z : Int} {P : Nat → Int} {w : Nat → Nat → Int} (hL : Lay E) (hB : BX M n kk C G R A) (hW : Wts E m) (hm : 250 ≤ m) (hx : x < n) (hxH : ¬ H.testBit x = true) (g : CN E M n kk H D P w) (hh : NatAt M 187 h) (hlt : h < P x) (hZ0 : 0 ≤ Z) (hZ : Z < pB 11) (hZ2 : Z * Z + Z * Z < pB 13) (hDZ : 0 ≤ D ∧ D ≤ Z) (hP : ∀ c, c < 9 → 0 ≤ P c ∧ P c ≤ Z) (hw : ∀ k c, k < kk → c < n → H.testBit c = true → 0 ≤ w k c ∧ w k c ≤ Z) (hwx : ∀ k, k < kk → 0 ≤ w k x) (hsx : sN (fun k => w k x) kk ≤ P x) : Ok (f_Co_passSurplus E M (x : Int)) (fun N => Off (oCn m) M N ∧ ∃ gg num den, 0 < gg ∧ 0 < num ∧ 0 < den ∧ num * gg = P x - h ∧ den * gg = P x ∧ CN E N n kk H (D * den) (shP R G n H (fun k => w k x * num) (fun c => nw x h P c * den) kk) (shW R G n H (fun k => w k x * num) (fun k c => if H.testBit c = true then w k c * den else w k c) kk)) := by
  have hk := hB.2.2.2.1
  have hn := hB.2.1
  have x9 : inb (x : Int) 9 := inN (by omega) (by decide)
  have nx := yg_182 hL x9
  rw [Int.toNat_natCast] at nx
  have h0 := hh.lo
  obtain ⟨px0, pxZ⟩ := hP x (by omega)
  have n187 := yo_187 hL
  have n189 := yo_189 hL
  have n191 := yo_191 hL
  obtain ⟨s, px⟩ := g.2.2.2.1 x (by omega)
  unfold f_Co_passSurplus
  rw [Int.toNat_natCast]
  refine ok_ck x9 (ok_bm (ok_copy n189 nx (Or.inl (by omega)) px) ?_)
  rintro M1 ⟨a1, o1⟩
  refine ok_bm (ok_subtract n189 n187 (Or.inr (by decide)) ⟨s, a1⟩ (hh.off o1 (by unfold nn; omega) (by unfold nn; omega)) (Int.le_of_lt hlt)) ?_
  rintro M2 ⟨a2, o2⟩
  have px2 : NatS M2 (201 + 2 * x) s (P x) := (px.off o1 (by unfold nn; omega) (by unfold nn; omega)).off o2 (by unfold nn; omega) (by unfold nn; omega)
  refine ok_bm (ok_copy n191 nx (Or.inl (by omega)) px2) ?_
  rintro M3 ⟨a3, o3⟩
  have a2' : NatAt M3 189 (P x - h) := a2.off o3 (by unfold nn; omega) (by unfold nn; omega)
  refine ok_bm (reduce_ok hL a2' ⟨s, a3⟩ (by omega) (by omega) (by omega)) ?_
  rintro M4 ⟨o4, gg, ⟨gg0, gg1, gg2, -⟩, a4, b4⟩
  have o14 : Off (fun i => 189 ≤ i ∧ i ≤ 200) M M4 := (o1.mono fun c hc => by unfold nn at hc; omega).trans ((o2.mono fun c hc => by unfold nn at hc; omega).trans ((o3.mono fun c hc => by unfold nn at hc; omega).trans o4))
  obtain ⟨num, hnum⟩ : ∃ num, num = (P x - h) / gg := ⟨_, rfl⟩
  obtain ⟨den, hden⟩ : ∃ den, den = P x / gg := ⟨_, rfl⟩
  rw [← hnum] at a4
  rw [← hden] at b4
  have e1 : num * gg = P x - h := by rw [hnum]; exact Int.ediv_mul_cancel gg1
  have e2 : den * gg = P x := by rw [hden]; exact Int.ediv_mul_cancel gg2
  have num0 : 0 < num := by
    have := a4.lo
    rcases Int.lt_or_eq_of_le this with q | q
    · exact q
    · rw [← q, Int.zero_mul] at e1; omega
  have den0 : 0 < den := by
    have := b4.lo
    rcases Int.lt_or_eq_of_le this with q | q
    · exact q
    · rw [← q, Int.zero_mul] at e2; omega
  have numZ : num ≤ Z := by rw [hnum]; have := Int.ediv_le_self gg (show 0 ≤ P x - h by omega); omega
  have denZ : den ≤ Z := by rw [hden]; have := Int.ediv_le_self gg px0; omega
  have mulZ : ∀ a b : Int, 0 ≤ a → a ≤ Z → 0 ≤ b → b ≤ Z → a * b ≤ Z * Z := fun a b p1 p2 p3 p4 => Int.le_trans (Int.mul_le_mul_of_nonneg_right p2 p3) (Int.mul_le_mul_of_nonneg_left p4 hZ0)
  obtain ⟨s', hh4⟩ := hh.off o14 (by omega) (by omega)
  refine ok_bm (ok_copy nx n187 (Or.inr (by omega)) hh4) ?_
  rintro M5 ⟨a5, o5⟩
  have g5 : CN E M5 n kk H D (nw x h P) w := (g.off hW hk hn o14 (fun c hc => by omega)).setP hW hk hn hm (show x < 9 by omega) o5 ⟨s', a5⟩
  have b5 : NatAt M5 191 den := b4.off o5 (by unfold nn; omega) (by unfold nn; omega)
  have o15 : Off (oCn m) M M5 := (o14.mono fun c hc => by unfold oCn; omega).trans (o5.mono fun c hc => by unfold nn at hc; unfold oCn; omega)
  have b15 : BX M5 n kk C G R A := hB.off o15 (by unfold oCn; omega) (by unfold oCn; omega) (by unfold oCn; omega) (by unfold oCn; omega) (fun k hk => by unfold oCn; omega)
  have hP5 : ∀ c, c < 9 → 0 ≤ nw x h P c ∧ nw x h P c ≤ Z := fun c hc => by
    by_cases e : c = x
    · rw [e, nw_at]; omega
    · rw [nw_ne e]; exact hP c hc
  have zz : 0 ≤ Z * Z := Int.mul_nonneg hZ0 hZ0
  refine ok_bm (multiplyAll_ok hL b15.1 b15.2.2.1 hW hm hk hn g5 b5 ?_ (fun c hc => ?_) (fun k c hk' hc q => ?_)) ?_
  · have := mulZ D den hDZ.1 hDZ.2 (by omega) denZ; omega
  · have := mulZ _ den (hP5 c hc).1 (hP5 c hc).2 (by omega) denZ; omega
  · have := mulZ _ den (hw k c hk' hc q).1 (hw k c hk' hc q).2 (by omega) denZ; omega
  rintro M6 ⟨o6, g6⟩
  have o16 : Off (oCn m) M M6 := o15.trans (o6.mono fun c hc => by unfold oMu at hc; unfold oCn; omega)
  have a6 : NatAt M6 189 num := (a4.off o5 (by unfold nn; omega) (by unfold nn; omega)).off o6 (by unfold oMu; omega) (by unfold oMu; omega)
  have sum : sN (fun k => w k x * num) kk ≤ Z * Z := by
    have e : sN (fun k => w k x * num) kk = num * sN (fun k => w k x) kk := by
      rw [← sN_mul]
      exact sN_congr fun k _ => Int.mul_comm _ _
    rw [e]
    have s0 : 0 ≤ sN (fun k => w k x) kk := sN_nonneg hwx
    exact mulZ _ _ (by omega) numZ s0 (by omega)
  have am0 : ∀ k, k < kk → 0 ≤ w k x * num := fun k hk' => Int.mul_nonneg (hwx k hk') (by omega)
  have am1 : ∀ k, k < kk → w k x * num ≤ Z * Z := fun k hk' => by
    have q1 : sN (fun k => w k x * num) (k + 1) ≤ sN (fun k => w k x * num) kk := sN_part (by omega) am0
    have q2 : 0 ≤ sN (fun k => w k x * num) k := sN_nonneg fun i hi => am0 i (by omega)
    rw [sN_succ] at q1
    omega
  refine ok_bm (L_Co_passSurplus_64 E (x : Int) (I := fun N y => ∃ j : Nat, y = (j : Int) ∧ j ≤ kk ∧ Off (oCn m) M6 N ∧ NatAt N 189 num ∧ CN E N n kk H (D * den) (shP R G n H (fun k => w k x * num) (fun c => nw x h P c * den) j) (shW R G n H (fun k => w k x * num) (fun k c => if H.testBit c = true then w k c * den else w k c) j)) (μ := fun _ y => kk - y.toNat) (Q := fun r => r.1 = 1 ∧ Off (oCn m) M6 r.2.2 ∧ CN E r.2.2 n kk H (D * den) (shP R G n H (fun k => w k x * num) (fun c => nw x h P c * den) kk) (shW R G n H (fun k => w k x * num) (fun k c => if H.testBit c = true then w k c * den else w k c) kk)) ?_ FU M6 0 ⟨0, rfl, Nat.zero_le _, Off.refl, a6, g6.congr (fun c _ => (shP_0 (P := fun c => nw x h P c * den)).symm) (fun k c _ _ => (shW_0 (w := fun k c => if H.testBit c = true then w k c * den else w k c)).symm)⟩ (by show kk - _ < 5000; omega)) ?_
  · rintro N y ⟨j, rfl, hj, oN, aN, gN⟩
    have o1N : Off (oCn m) M N := o16.trans oN
    have bN : BX N n kk C G R A := hB.off o1N (by unfold oCn; omega) (by unfold oCn; omega) (by unfold oCn; omega) (by unfold oCn; omega) (fun k hk => by unfold oCn; omega)
    unfold Co_passSurplus_64b
    rw [bN.2.2.1]
    refine ok_ck (rgN (by omega)) (ok_ck (rgN (by omega)) (ok_if (fun q => ?_) (fun q => ?_)))
    · have e : j = kk := by omega
      subst e
      exact ok_some (ok_out ne0 ⟨rfl, oN, gN⟩)
    · have hjk : j < kk := by omega
      obtain ⟨a, r, va, ia, ha, ew⟩ := gN.at hW hk hn hjk hx
      have ev : shW R G n H (fun k => w k x * num) (fun k c => if H.testBit c = true then w k c * den else w k c) j j x = w j x := by
        unfold shW
        rw [if_neg (Nat.lt_irrefl j)]
        exact if_neg hxH
      rw [ev] at va
      have q1 := am1 j hjk
      rw [ew]
      refine ok_sb (ok_ck ia (ok_bm (ok_multiply (yo_185 hL) ia n189 (Or.inl (by omega)) (Or.inl (by decide)) va aN (by omega)) ?_))
      rintro N1 ⟨n1, o1⟩
      have b1 : BX N1 n kk C G R A := bN.off o1 (by unfold nn; omega) (by unfold nn; omega) (by unfold nn; omega) (by unfold nn; omega) (fun k hk => by unfold nn; omega)
      refine ok_bm (pass_step (am := fun k => w k x * num) hL b1 (Nat.le_refl _) hW hm hjk (gN.off hW hk hn o1 (fun c hc => by unfold nn; omega)) n1 am0 (fun c hc => ?_) (fun k c hk' hc q => ?_)) ?_
      · have := mulZ _ den (hP5 c hc).1 (hP5 c hc).2 (by omega) denZ
        show nw x h P c * den + sN (fun k => w k x * num) kk < pB 13
        omega
      · have q2 := am1 k hk'
        have := mulZ _ den (hw k c hk' hc q).1 (hw k c hk' hc q).2 (by omega) denZ
        show (if H.testBit c = true then w k c * den else w k c) + w k x * num < pB 13
        rw [if_pos q]
        omega
      rintro N2 ⟨o2, g2⟩
      exact ok_some (ok_go rfl ⟨⟨j + 1, c1 j, by omega, (oN.trans (o1.mono fun c hc => by unfold nn at hc; unfold oCn; omega)).trans (o2.mono fun c hc => oPa_up hc), (aN.off o1 (by unfold nn; omega) (by unfold nn; omega)).off o2 (by unfold oPa; omega) (by unfold oPa; omega), g2⟩, cnt hjk⟩)
  · rintro ⟨t, y, N⟩ ⟨t1, oN, gN⟩
    exact ok_ck t1 (ok_some ⟨o16.trans oN, gg, num, den, gg0, num0, den0, e1, e2, gN⟩)
