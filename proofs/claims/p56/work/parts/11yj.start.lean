/-! THE COUNT'S START: weights made, all nothing, then each kind's ballots passed on; a moment kept -/
theorem ok_mOs {α : Type} {a : Option α} {b : Nat → Option α} {p : Nat} {Q : α → Prop} (h : Ok (b p) Q) : Ok (mO (some p) a b) Q := h
theorem ok_mOn {α : Type} {a : Option α} {b : Nat → Option α} {Q : α → Prop} (h : Ok a Q) : Ok (mO none a b) Q := h
theorem weightOfA_ok {E : Ev} {M : Mm} {m k c : Nat} (hL : Lay E) (hW : Wts E m) (hm : 250 ≤ m) (hmE : m ≤ nE E) (hk : k < 30) (hc : c < 8) : Ok (f_Co_weightOfA E M (k : Int) (c : Int)) (fun r => Gw E r.2.1 ∧ Lay r.2.1 ∧ Wts r.2.1 m ∧ isNa r.2.1 r.1 ∧ m ≤ r.1 ∧ rE r.2.1 181 (k * 8 + c) = some r.1 ∧ (∀ i a, rE E 181 i = some a → rE r.2.1 181 i = some a) ∧ (∀ i, i < nE E → i ≠ 181 → rE r.2.1 i = rE E i) ∧ Off (fun i => nE E ≤ i) M r.2.2) := by
  have h250 := hL.1
  have e : (k : Int) * 8 + (c : Int) = ((k * 8 + c : Nat) : Int) := by omega
  unfold f_Co_weightOfA
  rw [e, Int.toNat_natCast]
  refine ok_ck hL (ok_ck (inN (by omega) (by decide)) ?_)
  cases hr : rE E 181 (k * 8 + c) with
  | some a =>
    obtain ⟨ia, ha, -⟩ := hW _ a (by omega) hr
    refine ok_mOs (ok_sb (ok_ck ia (ok_some ?_)))
    exact ⟨gw_self E, hL, hW, ia, ha, hr, fun i a h => h, fun i _ _ => rfl, Off.refl⟩
  | none =>
    obtain ⟨X, hX⟩ : ∃ X, X = eRef (eNew (eNew E (108, 0)) (0, 13)) (nE E) 0 (nE E + 1) := ⟨_, rfl⟩
    obtain ⟨F, hF⟩ : ∃ F, F = eRef X 181 (k * 8 + c) (nE E) := ⟨_, rfl⟩
    have n2 : nE (eNew (eNew E (108, 0)) (0, 13)) = nE E + 2 := rfl
    have nX : nE X = nE E + 2 := by rw [hX, nE_ref]; exact n2
    have nF : nE F = nE E + 2 := by rw [hF, nE_ref]; exact nX
    have geX : Ge E X := by rw [hX]; exact ge_ref ((ge_new E _).trans (ge_new _ _)) (Nat.le_refl _)
    have lX : Lay X := by rw [hX]; exact lay_ref (lay_new (lay_new hL)) (by omega)
    have lF : Lay F := by rw [hF]; exact lay_put181 lX
    have gX : Gw (eNew E (108, 0)) X := by rw [hX]; exact gw_trans (gw_new _ _) (gw_ref _ _ _ _)
    have tX0 : tE X (nE E) = (108, 0) := by
      rw [hX, tE_ref, new_t (by show nE E ≠ nE E + 1; omega)]
      exact new_T E _
    have tX1 : tE X (nE E + 1) = (0, 13) := by
      rw [hX, tE_ref]
      exact new_T (eNew E (108, 0)) (0, 13)
    have rX0 : rE X (nE E) 0 = some (nE E + 1) := by
      rw [hX, rE_ref (by omega), va_up_self, va_up_self]
    have tF : tE F = tE X := by rw [hF, tE_ref]
    have rF : ∀ i, i ≠ 181 → rE F i = rE X i := fun i hi => by rw [hF, rE_ref (by omega), va_up_ne _ _ hi]
    have r181 : rE X 181 = rE E 181 := funext fun j => geX.2 181 (Nat.zero_le _) (by omega) j
    have rF1 : ∀ j, rE F 181 j = if j = k * 8 + c then some (nE E) else rE E 181 j := fun j => by
      rw [hF, rE_ref (by omega), va_up_self]
      by_cases q : j = k * 8 + c
      · rw [if_pos q, q, va_up_self]
      · rw [if_neg q, va_up_ne _ _ q, r181]
    have iF : isNa F (nE E) := ⟨by omega, by rw [tF]; exact tX0, by rw [rF _ (by omega)]; exact rX0, by rw [tF]; exact tX1⟩
    have old : ∀ a, m ≤ a → isNa E a → isNa F a := fun a ha ia => by
      have i1 := ia.1
      refine ⟨by omega, ?_, ?_, ?_⟩
      · rw [tF, geX.1.2 a (by omega)]; exact ia.2.1
      · rw [rF a (by omega), geX.2 a (Nat.zero_le _) (by omega)]; exact ia.2.2.1
      · rw [tF, geX.1.2 (a + 1) i1]; exact ia.2.2.2
    have wF : Wts F m := fun i a hi hri => by
      rw [rF1] at hri
      by_cases q : i = k * 8 + c
      · rw [if_pos q] at hri
        have ea := Option.some.inj hri
        subst ea
        refine ⟨iF, hmE, fun j b hj hrj hne => ?_⟩
        rw [rF1, if_neg (fun z => hne (q.trans z.symm))] at hrj
        have := (hW j b hj hrj).1.1
        exact Or.inr this
      · rw [if_neg q] at hri
        obtain ⟨ia, ha, hap⟩ := hW i a hi hri
        refine ⟨old a ha ia, ha, fun j b hj hrj hne => ?_⟩
        rw [rF1] at hrj
        by_cases z : j = k * 8 + c
        · rw [if_pos z] at hrj
          have eb := Option.some.inj hrj
          rw [← eb]
          exact Or.inl ia.1
        · rw [if_neg z] at hrj
          exact hap j b hj hrj hne
    refine ok_mOn (ok_nb (ok_nb (ok_nb ?_)))
    unfold f_Na_init
    have o1 : isO 8 (eNew E (108, 0)) (nE E) := ⟨new_i E _, new_T E _⟩
    refine ok_bm (R := fun r => r.1 = X ∧ r.2 = mN (mN M (nE E)) (nE E + 1)) (ok_ck o1 (ok_nb (ok_nb (ok_nb (ok_nbx fun Y hY => ok_some ⟨?_, rfl⟩))))) ?_
    · show Y = X
      rw [hY, hX]; rfl
    rintro ⟨Y, N⟩ ⟨y1r, y2r⟩
    have y1 : Y = X := y1r
    have y2 : N = mN (mN M (nE E)) (nE E + 1) := y2r
    subst y1 y2
    refine ok_ck gX (ok_ck lX (ok_nb ?_))
    rw [← hF, rF1, if_pos rfl]
    refine ok_sb (ok_ck iF (ok_some ⟨?_, lF, wF, iF, hmE, ?_, ?_, ?_, ?_⟩))
    · exact gw_trans geX.1 (by rw [hF]; exact gw_ref _ _ _ _)
    · show rE F 181 (k * 8 + c) = some (nE E)
      rw [rF1, if_pos rfl]
    · intro i a h
      show rE F 181 i = some a
      rw [rF1, if_neg (fun z => by rw [z, hr] at h; cases h)]
      exact h
    · intro i hi hne
      show rE F i = rE E i
      rw [rF i hne]
      exact funext fun j => geX.2 i (Nat.zero_le _) hi j
    · exact (off_mN (Nat.le_refl _)).trans (off_mN (Nat.le_succ _))
theorem CN.grow {E F : Ev} {M N : Mm} {n kk H m : Nat} {D : Int} {P : Nat → Int} {w : Nat → Nat → Int} (h : CN E M n kk H D P w) (hL : Lay E) (hW : Wts E m) (hk : kk ≤ 30) (hn : n ≤ 8) (hr : ∀ i a, rE E 181 i = some a → rE F 181 i = some a) (ho : Off (fun i => nE E ≤ i) M N) : CN F N n kk H D P w := by
  have h250 := hL.1
  obtain ⟨a1, a2, a3, a4, a5⟩ := h
  refine ⟨by rw [ho 179 (by omega)]; exact a1, a2, a3.off ho (by omega) (by omega), fun c hc => (a4 c hc).off ho (by omega) (by omega), fun k c hk' hc => ?_⟩
  obtain ⟨a, r, v⟩ := a5 k c hk' hc
  have := (hW _ a (by omega) r).1.1
  exact ⟨a, hr _ a r, v.off ho (by omega) (by omega)⟩
theorem CN.offA {E : Ev} {M N : Mm} {n kk H m i a : Nat} {D : Int} {P : Nat → Int} {w : Nat → Nat → Int} (h : CN E M n kk H D P w) (hW : Wts E m) (hm : 250 ≤ m) (hk : kk ≤ 30) (hn : n ≤ 8) (hi : i < 240) (hr : rE E 181 i = some a) (hik : kk * 8 ≤ i) (ho : Off (nn a) M N) : CN E N n kk H D P w := by
  obtain ⟨a1, a2, a3, a4, a5⟩ := h
  obtain ⟨-, ha, hap⟩ := hW i a hi hr
  refine ⟨by rw [ho 179 (by unfold nn; omega)]; exact a1, a2, a3.off ho (by unfold nn; omega) (by unfold nn; omega), fun c hc => (a4 c hc).off ho (by unfold nn; omega) (by unfold nn; omega), fun k c hk' hc => ?_⟩
  obtain ⟨b, r, v⟩ := a5 k c hk' hc
  have q := hap _ b (by omega) r (by omega)
  exact ⟨b, r, v.off ho q.n0 q.n1⟩
/-- what a loop of the start leaves of the room -/
def GR (m : Nat) (E F : Ev) : Prop := Gw E F ∧ Lay F ∧ Wts F m ∧ ∀ i, i < nE E → i ≠ 181 → rE F i = rE E i
theorem GR.refl {m : Nat} {E : Ev} (hL : Lay E) (hW : Wts E m) : GR m E E := ⟨gw_self E, hL, hW, fun _ _ _ => rfl⟩
theorem GR.trans {m : Nat} {E F H : Ev} (h : GR m E F) (g : GR m F H) : GR m E H := ⟨gw_trans h.1 g.1, g.2.1, g.2.2.1, fun i hi hne => (g.2.2.2 i (Nat.lt_of_lt_of_le hi h.1.1) hne).trans (h.2.2.2 i hi hne)⟩
/-- the weights of the kind j made, all 0 -/
theorem L162_ok {E : Ev} {M : Mm} {n j H m : Nat} {D x3 : Int} {P : Nat → Int} {w : Nat → Nat → Int} (hL : Lay E) (h22 : M 2 2 = (n : Int)) (hW : Wts E m) (hm : 250 ≤ m) (hmE : m ≤ nE E) (hj : j < 30) (hn : n ≤ 8) (h : CN E M n j H D P w) (hw : ∀ c, c < n → w j c = 0) : Ok (l_Co_start_162 x3 (j : Int) 32 E M 0) (fun r => r.1 = 1 ∧ GR m E r.2.2.1 ∧ Off (fun i => m ≤ i) M r.2.2.2 ∧ CN r.2.2.1 r.2.2.2 n (j + 1) H D P w) := by
  refine (L_Co_start_162 x3 (j : Int) (I := fun F N y => ∃ c : Nat, y = (c : Int) ∧ c ≤ n ∧ GR m E F ∧ Off (fun i => m ≤ i) M N ∧ CN F N n j H D P w ∧ ∀ d, d < c → ∃ a, rE F 181 (j * 8 + d) = some a ∧ NatAt N a 0) (μ := fun _ _ y => n - y.toNat) (Q := fun r => r.1 = 1 ∧ GR m E r.2.2.1 ∧ Off (fun i => m ≤ i) M r.2.2.2 ∧ CN r.2.2.1 r.2.2.2 n (j + 1) H D P w) ?_ 32 E M 0 ⟨0, rfl, Nat.zero_le _, GR.refl hL hW, Off.refl, h, fun d hd => absurd hd (Nat.not_lt_zero d)⟩ (by show n - _ < 32; omega))
  rintro F N y ⟨c, rfl, hc, gF, oN, g, hd⟩
  have e22 : N 2 2 = (n : Int) := by rw [oN 2 (by omega)]; exact h22
  have lF := gF.2.1
  have wF := gF.2.2.1
  unfold Co_start_162b
  rw [e22]
  refine ok_ck lF (ok_ck (rgN (by omega)) (ok_ck (rgN (by omega)) (ok_if (fun q => ?_) (fun q => ?_))))
  · have e : c = n := by omega
    subst e
    refine ok_some (ok_out ne0 ⟨rfl, gF, oN, g.1, g.2.1, g.2.2.1, g.2.2.2.1, fun k d hk hd' => ?_⟩)
    by_cases e : k = j
    · subst e
      obtain ⟨a, r, v⟩ := hd d hd'
      exact ⟨a, r, by rw [hw d hd']; exact v⟩
    · exact g.2.2.2.2 k d (by omega) hd'
  · have hcn : c < n := by omega
    refine ok_bm (weightOfA_ok (m := m) lF wF hm (Nat.le_trans hmE gF.1.1) hj (show c < 8 by omega)) ?_
    rintro ⟨a, K, N1⟩ ⟨k1r, k2r, k3r, k4r, k5r, k6r, k7r, k8r, o1r⟩
    have k1 : Gw F K := k1r
    have k2 : Lay K := k2r
    have k3 : Wts K m := k3r
    have k4 : isNa K a := k4r
    have k5 : m ≤ a := k5r
    have k6 : rE K 181 (j * 8 + c) = some a := k6r
    have k7 : ∀ i b, rE F 181 i = some b → rE K 181 i = some b := k7r
    have o1 : Off (fun i => nE F ≤ i) N N1 := o1r
    have hF := gF.1.1
    have g1 := g.grow lF wF (by omega) hn k7 o1
    refine ok_ck k1 (ok_ck k2 (ok_ck k4 (ok_bm (ok_become k4 (Int.le_refl 0) (by decide)) ?_)))
    rintro N2 ⟨n2, o2⟩
    have g2 := g1.offA k3 hm (by omega) hn (show j * 8 + c < 240 by omega) k6 (by omega) o2
    refine ok_some (ok_go rfl ⟨⟨c + 1, c1 c, by omega, gF.trans ⟨k1, k2, k3, k8r⟩, oN.trans ((o1.mono fun i hi => by omega).trans (o2.mono fun i hi => by unfold nn at hi; omega)), g2, fun d hd' => ?_⟩, cnt hcn⟩)
    by_cases e : d = c
    · subst e
      exact ⟨a, k6, n2⟩
    · obtain ⟨b, r, v⟩ := hd d (by omega)
      have ib := (wF _ b (by omega) r).1.1
      have q := (k3 _ a (by omega) k6).2.2 _ b (by omega) (k7 _ b r) (by omega)
      exact ⟨b, k7 _ b r, (v.off o1 (by omega) (by omega)).off o2 q.n0 q.n1⟩
theorem fac_fc {n : Nat} (h : n ≤ 5) : facF n = ((fcN n : Nat) : Int) ∧ 0 < facF n ∧ facF n ≤ 120 := by
  have key : ∀ i, i < 6 → facF i = ((fcN i : Nat) : Int) ∧ 0 < facF i ∧ facF i ≤ 120 := by decide
  exact key n (by omega)
/-- each kind's ballots passed on -/
theorem L147_ok {E : Ev} {M : Mm} {n kk H m : Nat} {C : Nat → Int} {G : Nat → Nat} {R : Nat → Nat → Nat} {A : Nat → Nat} {D f : Int} (hL : Lay E) (hB : BX M n kk C G R A) (hn : n ≤ 5) (hs : sN C kk ≤ 8100) (hW : Wts E m) (hm : 250 ≤ m) (hmE : m ≤ nE E) (hf0 : 0 < f) (hf1 : f ≤ 120) (h : CN E M n 0 H D (fun _ => 0) (fun _ _ => 0)) : Ok (l_Co_start_147 f 32 E M 0) (fun r => r.1 = 1 ∧ GR m E r.2.2.1 ∧ Off (oCn m) M r.2.2.2 ∧ CN r.2.2.1 r.2.2.2 n kk H D (shP R G n H (fun k => C k * f) (fun _ => 0) kk) (shW R G n H (fun k => C k * f) (fun _ _ => 0) kk)) := by
  have hk := hB.2.2.2.1
  have hC0 : ∀ k, k < kk → 0 ≤ C k := fun k hk => (hB.2.2.2.2.1 k hk).2.2
  have am0 : ∀ k, k < kk → 0 ≤ C k * f := fun k hk => Int.mul_nonneg (hC0 k hk) (by omega)
  have big : (2000000 : Int) < pB 13 := by decide +kernel
  have hC1 : ∀ k, k < kk → C k ≤ 8100 := fun k hk' => by
    have q1 : sN C (k + 1) ≤ sN C kk := sN_part (by omega) hC0
    have q2 : 0 ≤ sN C k := sN_nonneg fun i hi => hC0 i (by omega)
    rw [sN_succ] at q1
    omega
  have am1 : ∀ k, k < kk → C k * f ≤ 972000 := fun k hk' => by
    have h1 := hC1 k hk'
    have h2 := hC0 k hk'
    have h3 : C k * f ≤ C k * 120 := Int.mul_le_mul_of_nonneg_left hf1 h2
    omega
  have ams : sN (fun k => C k * f) kk ≤ 972000 := by
    have e : sN (fun k => C k * f) kk = f * sN C kk := by
      rw [← sN_mul]
      exact sN_congr fun k _ => Int.mul_comm _ _
    rw [e]
    have s0 : 0 ≤ sN C kk := sN_nonneg hC0
    have h3 : f * sN C kk ≤ 120 * sN C kk := Int.mul_le_mul_of_nonneg_right hf1 s0
    omega
  refine (L_Co_start_147 f (I := fun F N y => ∃ j : Nat, y = (j : Int) ∧ j ≤ kk ∧ GR m E F ∧ Off (oCn m) M N ∧ CN F N n j H D (shP R G n H (fun k => C k * f) (fun _ => 0) j) (shW R G n H (fun k => C k * f) (fun _ _ => 0) j)) (μ := fun _ _ y => kk - y.toNat) (Q := fun r => r.1 = 1 ∧ GR m E r.2.2.1 ∧ Off (oCn m) M r.2.2.2 ∧ CN r.2.2.1 r.2.2.2 n kk H D (shP R G n H (fun k => C k * f) (fun _ => 0) kk) (shW R G n H (fun k => C k * f) (fun _ _ => 0) kk)) ?_ 32 E M 0 ⟨0, rfl, Nat.zero_le _, GR.refl hL hW, Off.refl, h.congr (fun c _ => (shP_0 (P := fun _ => 0)).symm) (fun k c _ _ => (shW_0 (w := fun _ _ => 0)).symm)⟩ (by show kk - _ < 32; omega))
  rintro F N y ⟨j, rfl, hj, gF, oN, g⟩
  have bN : BX N n kk C G R A := hB.off oN (by unfold oCn; omega) (by unfold oCn; omega) (by unfold oCn; omega) (by unfold oCn; omega) (fun k hk => by unfold oCn; omega)
  have lF := gF.2.1
  unfold Co_start_147b
  rw [bN.2.2.1]
  refine ok_ck lF (ok_ck (rgN (by omega)) (ok_ck (rgN (by omega)) (ok_if (fun q => ?_) (fun q => ?_))))
  · have e : j = kk := by omega
    subst e
    exact ok_some (ok_out ne0 ⟨rfl, gF, oN, g⟩)
  · have hjk : j < kk := by omega
    refine ok_bm (L162_ok (m := m) lF bN.1 gF.2.2.1 hm (Nat.le_trans hmE gF.1.1) (show j < 30 by omega) (show n ≤ 8 by omega) g (fun c _ => if_neg (Nat.lt_irrefl j))) ?_
    rintro ⟨t, y, K, N1⟩ ⟨t1, gKr, o1r, g1r⟩
    have gK : GR m F K := gKr
    have o1 : Off (fun i => m ≤ i) N N1 := o1r
    have g1 : CN K N1 n (j + 1) H D (shP R G n H (fun k => C k * f) (fun _ => 0) j) (shW R G n H (fun k => C k * f) (fun _ _ => 0) j) := g1r
    have b1 : BX N1 n kk C G R A := bN.off o1 (by omega) (by omega) (by omega) (by omega) (fun k hk => by omega)
    have e5 := (b1.2.2.2.2.1 j hjk).2.1
    refine ok_ck gK.1 (ok_ck gK.2.1 (ok_ck t1 (ok_ck (inN (by omega) (by decide)) ?_)))
    rw [Int.toNat_natCast, e5]
    have c0 := hC0 j hjk
    have c1' := hC1 j hjk
    have a0 := am0 j hjk
    have a1 := am1 j hjk
    refine ok_ck (show rgI (C j) from ⟨by omega, by omega⟩) (ok_bm (ok_become (yo_185 gK.2.1) a0 (by omega)) ?_)
    rintro N2 ⟨n2, o2⟩
    have b2 : BX N2 n kk C G R A := b1.off o2 (by unfold nn; omega) (by unfold nn; omega) (by unfold nn; omega) (by unfold nn; omega) (fun k hk => by unfold nn; omega)
    refine ok_bm (pass_step (kb := kk) (am := fun k => C k * f) gK.2.1 b2 (show j + 1 ≤ kk by omega) gK.2.2.1 hm (Nat.lt_succ_self j) (g1.off gK.2.2.1 (by omega) (show n ≤ 8 by omega) o2 (fun c hc => by unfold nn; omega)) n2 (fun k hk' => am0 k (by omega)) (fun c hc => ?_) (fun k c hk' hc q => ?_)) ?_
    · have q1 : sN (fun k => C k * f) (j + 1) ≤ sN (fun k => C k * f) kk := sN_part (by omega) am0
      show (0 : Int) + sN (fun k => C k * f) (j + 1) < pB 13
      omega
    · have := am1 k (by omega)
      show (0 : Int) + C k * f < pB 13
      omega
    rintro N3 ⟨o3, g3⟩
    exact ok_some (ok_go rfl ⟨⟨j + 1, c1 j, by omega, gF.trans gK, oN.trans ((o1.mono fun i hi => by unfold oCn; omega).trans ((o2.mono fun i hi => by unfold nn at hi; unfold oCn; omega).trans (o3.mono fun i hi => oPa_up hi))), g3⟩, cnt hjk⟩)
