/-! THE COUNT: all steps -/
/-- the books: hopefuls H, el elected (in the order eo), ex excluded -/
def BK (n kk : Nat) (C : Nat → Int) (R : Nat → Nat → Nat) (q : Int) (st H el ex : Nat) (eo : Nat → Nat) (D : Int) (P : Nat → Int) : Prop := (∀ i, i < el → eo i < n) ∧ (∀ i, ¬ (H.testBit i = true ∧ (wu eo el).testBit i = true)) ∧ cS (wu eo el) n = (el : Int) ∧ cS H n + (el : Int) + (ex : Int) = (n : Int) ∧ el ≤ st ∧ min (st : Int) (n : Int) ≤ cS H n + (el : Int) ∧ D ≤ DB el ∧ 0 < D ∧ (∀ c, c < 9 → 0 ≤ P c) ∧ sN P 9 = D * sN C kk ∧ Pt n kk C R q (H ||| wu eo el)
theorem wu_nw {eo : Nat → Nat} {el x : Nat} (i : Nat) : (wu (nw el x eo) (el + 1)).testBit i = ((wu eo el).testBit i || decide (i = x)) := by
  rw [Bool.eq_iff_iff, Bool.or_eq_true, decide_eq_true_iff, wu_tb, wu_tb]
  constructor
  · rintro ⟨j, h1, h2⟩
    by_cases e : j = el
    · rw [e, nw_at] at h2; exact Or.inr h2.symm
    · rw [nw_ne e] at h2; exact Or.inl ⟨j, by omega, h2⟩
  · rintro (⟨j, h1, h2⟩ | h)
    · exact ⟨j, by omega, by rw [nw_ne (by omega)]; exact h2⟩
    · exact ⟨el, Nat.lt_succ_self _, by rw [nw_at]; exact h.symm⟩
theorem wo.cS {H H' x n : Nat} (h : wo H H' x) (hx : x < n) : cS H n = cS H' n + 1 := cS_del hx h.1 h.2.1 (fun i _ hne => h.2.2 i hne)
theorem BK_elect {n kk : Nat} {C : Nat → Int} {R : Nat → Nat → Nat} {q : Int} {st H H' el ex x : Nat} {eo : Nat → Nat} {D D' : Int} {P P' : Nat → Int} (h : BK n kk C R q st H el ex eo D P) (hst : el < st) (hx : x < n) (ho : wo H H' x) (hD1 : D' ≤ DB (el + 1)) (hD0 : 0 < D') (hP : ∀ c, c < 9 → 0 ≤ P' c) (hs : sN P' 9 = D' * sN C kk) : BK n kk C R q st H' (el + 1) ex (nw el x eo) D' P' := by
  obtain ⟨h1, h2, h3, h4, h5, h6, h7, h8, h9, h10, h11⟩ := h
  have hxT : (wu eo el).testBit x = false := Bool.eq_false_iff.mpr fun z => h2 x ⟨ho.1, z⟩
  have hc := ho.cS hx
  refine ⟨fun i hi => ?_, fun i z => ?_, ?_, by omega, by omega, by omega, hD1, hD0, hP, hs, fun S s1 s2 s3 => ?_⟩
  · by_cases e : i = el
    · rw [e, nw_at]; exact hx
    · rw [nw_ne e]; exact h1 i (by omega)
  · obtain ⟨z1, z2⟩ := z
    rw [wu_nw, Bool.or_eq_true, decide_eq_true_iff] at z2
    rcases z2 with z2 | z2
    · exact h2 i ⟨ho.sub z1, z2⟩
    · rw [z2, ho.2.1] at z1; cases z1
  · rw [cS_del (T := wu eo el) hx (by rw [wu_nw, decide_eq_true rfl]; exact Bool.or_true _) hxT (fun i _ hne => by rw [wu_nw, decide_eq_false hne, Bool.or_false]), h3]
    omega
  · have a := h11 S s1 s2 s3
    have ee : cS (S &&& (H' ||| wu (nw el x eo) (el + 1))) n = cS (S &&& (H ||| wu eo el)) n := cS_congr fun i _ => by
      rw [Nat.testBit_and, Nat.testBit_and, Nat.testBit_or, Nat.testBit_or, wu_nw]
      by_cases e : i = x
      · rw [e, ho.1, decide_eq_true rfl, Bool.or_true, Bool.or_true, Bool.true_or]
      · rw [ho.2.2 i e, decide_eq_false e, Bool.or_false]
    rw [ee]
    exact a
theorem BK_excl {n kk : Nat} {C : Nat → Int} {G : Nat → Nat} {R : Nat → Nat → Nat} {q : Int} {st H H' el ex x : Nat} {eo : Nat → Nat} {D : Int} {P P' : Nat → Int} {w : Nat → Nat → Int} (h : BK n kk C R q st H el ex eo D P) (hq : 0 < q) (hx : x < n) (ho : wo H H' x) (hop : (st : Int) - (el : Int) < cS H n) (hm : MI n kk C G R q H (wu eo el) D P w) (hall : ∀ c, c < n → H.testBit c = true → P c < q * D) (hP : ∀ c, c < 9 → 0 ≤ P' c) (hs : sN P' 9 = D * sN C kk) : BK n kk C R q st H' el (ex + 1) eo D P' := by
  obtain ⟨h1, h2, h3, h4, h5, h6, h7, h8, h9, h10, h11⟩ := h
  have hc := ho.cS hx
  exact ⟨h1, fun i z => h2 i ⟨ho.sub z.1, z.2⟩, h3, by omega, h5, by omega, h7, h8, hP, hs, Pt_excl hq hx ho h2 hm hall h11⟩
/-- a kept moment that is sound -/
def MG (M : Mm) (p s : Nat) (B : Int) : Prop := (∀ c, c < 10 → Lr (fun i => M (p + 4) ((s * 10 + c) * 13 + i)) 13) ∧ sN (fun c => MV M p s c) 9 = MV M p s 9 * B ∧ (0 < MV M p s 9 ∧ MV M p s 9 < pB 11) ∧ ∀ c, c < 9 → MV M p s c < pB 11
theorem MG.keep {M N : Mm} {p s : Nat} {B : Int} (h : MG M p s B) (he : ∀ i, i < (s + 1) * 130 → N (p + 4) i = M (p + 4) i) : MG N p s B := by
  have ev : ∀ c, c < 10 → MV N p s c = MV M p s c := fun c hc => by
    unfold MV
    exact Sg_congr fun i hi => he _ (by omega)
  obtain ⟨h1, h2, h3, h4⟩ := h
  refine ⟨fun c hc i hi => ?_, ?_, by rw [ev 9 (by decide)]; exact h3, fun c hc => by rw [ev c (by omega)]; exact h4 c hc⟩
  · show 0 ≤ N (p + 4) ((s * 10 + c) * 13 + i) ∧ N (p + 4) ((s * 10 + c) * 13 + i) < 1073741824
    rw [he _ (by omega)]
    exact h1 c hc i hi
  · rw [ev 9 (by decide), ← h2]
    exact sN_congr fun c hc => ev c (by omega)
theorem j119_ok {E : Ev} {M : Mm} {n kk H m p el ex st : Nat} {C : Nat → Int} {R : Nat → Nat → Nat} {D q x1 x3 : Int} {P : Nat → Int} {w : Nat → Nat → Int} {eo : Nat → Nat} (hL : Lay E) (hW : Wts E m) (hp : isCt E p) (hp2 : 250 ≤ p) (hpm : p + 5 ≤ m) (hk : kk ≤ 30) (hn : n ≤ 8) (hst : st ≤ 3) (h : CN E M n kk H D P w) (hc : CK M p n kk el ex q (sN C kk) C eo) (hb : BK n kk C R q st H el ex eo D P) (hB0 : 0 ≤ sN C kk) (hB1 : sN C kk ≤ 8100) : Ok (Co_holdCount_j119 E M x1 p x3) (fun r => r.1 = 0 ∧ r.2.1 = x3 + 1 ∧ r.2.2.1 = E ∧ Off (fun i => i = p + 4) M r.2.2.2 ∧ (∀ i, i < (el + ex) * 130 → r.2.2.2 (p + 4) i = M (p + 4) i) ∧ CN E r.2.2.2 n kk H D P w ∧ CK r.2.2.2 p n kk el ex q (sN C kk) C eo ∧ MG r.2.2.2 p (el + ex) (sN C kk) ∧ KP r.2.2.2 p (el + ex) D P) := by
  obtain ⟨h1, h2, h3, h4, h5, h6, h7, h8, h9, h10, h11⟩ := hb
  have bs := cS_bounds H n
  unfold Co_holdCount_j119
  refine ok_ck hL (ok_ck hp (ok_bm (keepMoment_ok hL hp hp2 h hc.2.2.2.2.1 hc.2.2.2.2.2.1 (by omega)) ?_))
  rintro N ⟨o1, o2, o3⟩
  refine ok_some ⟨rfl, rfl, rfl, o1, fun i hi => o3 i (Or.inl hi), h.off hW hk hn o1 (fun c hc => by omega), ?_, ?_, o2⟩
  · show CK N p n kk el ex q (sN C kk) C eo
    unfold CK
    rw [o1 p (by omega), o1 (p + 1) (by omega), o1 (p + 2) (by omega)]
    exact hc
  · obtain ⟨k1, k2, k3⟩ := o2
    obtain ⟨b1, b2, b3, b4, b5⟩ := DB_big
    have d3 : D ≤ DB 3 := Int.le_trans h7 (DB_top (by omega))
    have z1 : D * sN C kk ≤ DB 3 * 8100 := Int.le_trans (Int.mul_le_mul_of_nonneg_right d3 hB0) (Int.mul_le_mul_of_nonneg_left hB1 (by omega))
    refine ⟨k1, ?_, ?_, fun c hc => ?_⟩
    · show sN (fun c => MV N p (el + ex) c) 9 = MV N p (el + ex) 9 * sN C kk
      rw [k3, ← h10]
      exact sN_congr fun c hc => k2 c hc
    · show 0 < MV N p (el + ex) 9 ∧ MV N p (el + ex) 9 < pB 11
      rw [k3]
      omega
    · show MV N p (el + ex) c < pB 11
      rw [k2 c hc]
      have := sN_single h9 hc
      omega
/-- the state of a count between its steps -/
def LV (E : Ev) (M : Mm) (n kk : Nat) (C : Nat → Int) (G : Nat → Nat) (R : Nat → Nat → Nat) (p st : Nat) (q : Int) (H el ex : Nat) (eo : Nat → Nat) (D : Int) (P : Nat → Int) (w : Nat → Nat → Int) : Prop := CN E M n kk H D P w ∧ CK M p n kk el ex q (sN C kk) C eo ∧ BK n kk C R q st H el ex eo D P ∧ (cS H n ≤ (st : Int) - (el : Int) ∨ MI n kk C G R q H (wu eo el) D P w) ∧ ∀ s, s ≤ el + ex → MG M p s (sN C kk)
theorem BX.rk {M : Mm} {n kk : Nat} {C : Nat → Int} {G : Nat → Nat} {R : Nat → Nat → Nat} {A : Nat → Nat} (h : BX M n kk C G R A) : ∀ k, k < kk → ∀ c, c < n → R k c ≤ G k := fun k hk => (h.2.2.2.2.1 k hk).1.2.2.2.2.2.1
theorem EL.ck {M N : Mm} {n kk p x el ex : Nat} {q B : Int} {C : Nat → Int} {eo : Nat → Nat} (h : EL M N p x el) (hc : CK M p n kk el ex q B C eo) (hp : 250 ≤ p) : CK N p n kk (el + 1) ex q B C (nw el x eo) := by
  obtain ⟨c1, c2, c3, c4, c5, c6, c7, c8⟩ := hc
  obtain ⟨e1, e2, e3, e4, e5, e6⟩ := h
  refine ⟨by rw [e3 0 (by decide)]; exact c1, by rw [e3 1 (by decide)]; exact c2, by rw [e3 2 (by decide)]; exact c3, by rw [e3 3 (by decide)]; exact c4, e4, by rw [e3 5 (by decide)]; exact c6, fun k hk => by rw [e1 (p + 1) (by omega)]; exact c7 k hk, fun i hi => ?_⟩
  by_cases e : i = el
  · rw [e, e6, nw_at]
  · rw [e5 i e, nw_ne e]; exact c8 i (by omega)
def oHo (m p i : Nat) : Prop := oCn m i ∨ i = 179 ∨ (p ≤ i ∧ i ≤ p + 4)
set_option maxHeartbeats 1000000 in
theorem holdLoop_ok {E : Ev} {M : Mm} {n kk m p st : Nat} {C : Nat → Int} {G : Nat → Nat} {R : Nat → Nat → Nat} {A : Nat → Nat} {lo : Nat → Int} {q : Int} (hL : Lay E) (hB : BX M n kk C G R A) (hl : LT M n lo) (hn : n ≤ 5) (hs : sN C kk ≤ 8100) (hW : Wts E m) (hp : isCt E p) (hp2 : 250 ≤ p) (hpm : p + 5 ≤ m) (hst1 : 1 ≤ st) (hst : st ≤ 3) (hq0 : 0 < q) (hq1 : q ≤ 1000001) {H0 : Nat} {eo0 : Nat → Nat} {D0 : Int} {P0 : Nat → Int} {w0 : Nat → Nat → Int} (h0 : LV E M n kk C G R p st q H0 0 0 eo0 D0 P0 w0) : Ok (l_Co_holdCount_64 (st : Int) p 5000 E M 0) (fun r => r.1 = 1 ∧ r.2.2.1 = E ∧ Off (oHo m p) M r.2.2.2 ∧ r.2.2.2 179 2 = M 179 2 ∧ (∀ j, j < 130 → r.2.2.2 (p + 4) j = M (p + 4) j) ∧ ∃ H el ex eo D P w, LV E r.2.2.2 n kk C G R p st q H el ex eo D P w ∧ (st ≤ el ∨ H = 0 ∨ el + ex = n)) := by
  have hk := hB.2.2.2.1
  have hR := hB.rk
  have hB0 : 0 ≤ sN C kk := sN_nonneg fun k hk => (hB.2.2.2.2.1 k hk).2.2
  obtain ⟨b1, b2, b3, b4, b5⟩ := DB_big
  refine (L_Co_holdCount_64 (st : Int) p (I := fun F N y => F = E ∧ ∃ i : Nat, y = (i : Int) ∧ i ≤ n ∧ Off (oHo m p) M N ∧ N 179 2 = M 179 2 ∧ (∀ j, j < 130 → N (p + 4) j = M (p + 4) j) ∧ ∃ H el ex eo D P w, LV E N n kk C G R p st q H el ex eo D P w ∧ (st ≤ el ∨ H = 0 ∨ el + ex = i)) (μ := fun _ _ y => n - y.toNat) (Q := fun r => r.1 = 1 ∧ r.2.2.1 = E ∧ Off (oHo m p) M r.2.2.2 ∧ r.2.2.2 179 2 = M 179 2 ∧ (∀ j, j < 130 → r.2.2.2 (p + 4) j = M (p + 4) j) ∧ ∃ H el ex eo D P w, LV E r.2.2.2 n kk C G R p st q H el ex eo D P w ∧ (st ≤ el ∨ H = 0 ∨ el + ex = n)) ?_ 5000 E M 0 ⟨rfl, 0, rfl, Nat.zero_le _, Off.refl, rfl, fun _ _ => rfl, H0, 0, 0, eo0, D0, P0, w0, h0, Or.inr (Or.inr rfl)⟩ (by show n - _ < 5000; omega))
  rintro F N y ⟨rfl, i, rfl, hi, oN, e2, ez, H, el, ex, eo, D, P, w, hv, hend⟩
  obtain ⟨v1, v2, v3, v4, v5⟩ := hv
  have oN2 : N 2 = M 2 := oN 2 (by unfold oHo oCn; omega)
  have bN : BX N n kk C G R A := hB.off oN (by unfold oHo oCn; omega) (by unfold oHo oCn; omega) (by unfold oHo oCn; omega) (by unfold oHo oCn; omega) (fun k hk => by unfold oHo oCn; omega)
  have lN : LT N n lo := hl.off oN (by unfold oHo oCn; omega)
  obtain ⟨k1, k2, k3, k4, k5, k6, k7, k8, k9, k10, k11⟩ := v3
  have bs := cS_bounds H n
  have hpw := pow_lt (show n ≤ 8 by omega)
  have hH2 := v1.2.1
  unfold Co_holdCount_64b
  rw [bN.1, v2.2.2.2.2.1, v1.1]
  refine ok_ck hL (ok_ck hp (ok_ck (rgN (by omega)) (ok_ck (rgN (by omega)) (ok_if (fun z => ?_) (fun z => ?_)))))
  · have e : i = n := by omega
    subst e
    exact ok_some (ok_out ne0 ⟨rfl, rfl, oN, e2, ez, H, el, ex, eo, D, P, w, ⟨v1, v2, ⟨k1, k2, k3, k4, k5, k6, k7, k8, k9, k10, k11⟩, v4, v5⟩, hend⟩)
  · have hin : i < n := by omega
    refine ok_ck ⟨by omega, by omega⟩ (ok_if (fun z1 => ?_) (fun z1 => ok_ck (rgN (by omega)) (ok_if (fun z2 => ?_) (fun z2 => ?_))))
    · exact ok_some (ok_go rfl ⟨⟨rfl, i + 1, c1 i, by omega, oN, e2, ez, H, el, ex, eo, D, P, w, ⟨v1, v2, ⟨k1, k2, k3, k4, k5, k6, k7, k8, k9, k10, k11⟩, v4, v5⟩, Or.inl (by omega)⟩, cnt hin⟩)
    · exact ok_some (ok_go rfl ⟨⟨rfl, i + 1, c1 i, by omega, oN, e2, ez, H, el, ex, eo, D, P, w, ⟨v1, v2, ⟨k1, k2, k3, k4, k5, k6, k7, k8, k9, k10, k11⟩, v4, v5⟩, Or.inr (Or.inl (by omega))⟩, cnt hin⟩)
    · have hel : el < st := by omega
      have hH0 : H ≠ 0 := by omega
      have hs1 : el + ex = i := by rcases hend with q | q | q <;> omega
      -- behind a step
      have fin : ∀ (K : Mm) (H' el' ex' : Nat) (eo' : Nat → Nat) (D' : Int) (P' : Nat → Int) (w' : Nat → Nat → Int), Off (oHo m p) N K → K 179 2 = N 179 2 → K (p + 4) = N (p + 4) → el' + ex' = i + 1 → CN F K n kk H' D' P' w' → CK K p n kk el' ex' q (sN C kk) C eo' → BK n kk C R q st H' el' ex' eo' D' P' → (cS H' n ≤ (st : Int) - (el' : Int) ∨ MI n kk C G R q H' (wu eo' el') D' P' w') → Ok (Co_holdCount_j119 F K (st : Int) p (i : Int)) (fun r => (r.1 = 0 → (r.2.2.1 = F ∧ ∃ i : Nat, r.2.1 = (i : Int) ∧ i ≤ n ∧ Off (oHo m p) M r.2.2.2 ∧ r.2.2.2 179 2 = M 179 2 ∧ (∀ j, j < 130 → r.2.2.2 (p + 4) j = M (p + 4) j) ∧ ∃ H el ex eo D P w, LV F r.2.2.2 n kk C G R p st q H el ex eo D P w ∧ (st ≤ el ∨ H = 0 ∨ el + ex = i)) ∧ n - r.2.1.toNat < n - (i : Int).toNat) ∧ (r.1 ≠ 0 → r.1 = 1 ∧ r.2.2.1 = F ∧ Off (oHo m p) M r.2.2.2 ∧ r.2.2.2 179 2 = M 179 2 ∧ (∀ j, j < 130 → r.2.2.2 (p + 4) j = M (p + 4) j) ∧ ∃ H el ex eo D P w, LV F r.2.2.2 n kk C G R p st q H el ex eo D P w ∧ (st ≤ el ∨ H = 0 ∨ el + ex = n))) := by
        intro K H' el' ex' eo' D' P' w' q1 q2 q3 q4 q5 q6 q7 q8
        refine (j119_ok (m := m) (R := R) hL hW hp hp2 hpm hk (show n ≤ 8 by omega) hst q5 q6 q7 hB0 hs).mono ?_
        rintro ⟨t, y, F2, N2⟩ ⟨t1r, t2r, t3r, t4r, t5r, t6r, t7r, t8r, -⟩
        have t1 : t = 0 := t1r
        have t2 : y = (i : Int) + 1 := t2r
        have t3 : F2 = F := t3r
        have t4 : Off (fun i => i = p + 4) K N2 := t4r
        have t5 : ∀ j, j < (el' + ex') * 130 → N2 (p + 4) j = K (p + 4) j := t5r
        subst t1 t2 t3
        refine ok_go rfl ⟨⟨rfl, i + 1, c1 i, by omega, (oN.trans q1).trans (t4.mono fun j hj => by unfold oHo; omega), ?_, fun j hj => ?_, H', el', ex', eo', D', P', w', ⟨t6r, t7r, q7, q8, fun s hs' => ?_⟩, Or.inr (Or.inr q4)⟩, cnt hin⟩
        · show N2 179 2 = M 179 2
          rw [t4 179 (by omega), q2, e2]
        · show N2 (p + 4) j = M (p + 4) j
          rw [t5 j (by omega), q3, ez j hj]
        · by_cases e : s = el' + ex'
          · rw [e]; exact t8r
          · refine (v5 s (by omega)).keep fun j hj => ?_
            show N2 (p + 4) j = N (p + 4) j
            rw [t5 j (by omega), q3]
      obtain ⟨d1, d2, d3⟩ := DB_up (show el < 3 by omega)
      have hD2 : D ≤ DB 2 := Int.le_trans k7 d3
      have z9 : D * sN C kk ≤ D * 8100 := Int.mul_le_mul_of_nonneg_left hs (Int.le_of_lt k8)
      have hPZ : ∀ c, c < 9 → 0 ≤ P c ∧ P c ≤ 8100 * DB 2 := fun c hc => by
        have := k9 c hc
        have := sN_single k9 hc
        omega
      have hDq : D * q < pB 13 := by
        have a1 : D * q ≤ D * 1000001 := Int.mul_le_mul_of_nonneg_left hq1 (Int.le_of_lt k8)
        omega
      have nonf : (st : Int) - (el : Int) < cS H n → MI n kk C G R q H (wu eo el) D P w := fun z => v4.resolve_left (by omega)
      have p1113 : pB 11 ≤ pB 13 := pB_le (by decide)
      refine ok_bm (greatest_ok hL bN.1 (show n ≤ 8 by omega) lN v1 hH0) ?_
      rintro r ⟨b, rfl, hb1, hb2, hb3⟩
      refine ok_bm (takeStep_ok (m := m) (ex := ex) (Z := 8100 * DB 2) (o := (st : Int) - (el : Int)) hL bN lN hW hp hpm hp2 v1 v2 (show el < 3 by omega) (by omega) hb1 hb2 ⟨by omega, by omega⟩ (Int.le_of_lt hq0) hq1 hDq hPZ (by omega) (fun z => ⟨(nonf z).2.2.1, (nonf z).2.2.2.1⟩)) ?_
      have wb := wo_dN (show n ≤ 8 by omega) hH2 hb1 hb2
      have hbT : ¬ (wu eo el).testBit b = true := fun y => k2 b ⟨hb2, y⟩
      have cb := wb.cS hb1
      have bk : BK n kk C R q st H el ex eo D P := ⟨k1, k2, k3, k4, k5, k6, k7, k8, k9, k10, k11⟩
      rintro ⟨r, K⟩ hr
      have hr2 : (r = 0 ∧ cS H n ≤ (st : Int) - (el : Int) ∧ EL N K p b el ∧ CN F K n kk (dN H (2 ^ b)) D P w) ∨ ((st : Int) - (el : Int) < cS H n ∧ ((r = 0 ∧ P b = q * D ∧ EL N K p b el ∧ CN F K n kk (dN H (2 ^ b)) D P w) ∨ (r = 1 ∧ q * D < P b ∧ EL N K p b el ∧ CN F K n kk (dN H (2 ^ b)) D P w ∧ NatAt K 187 (q * D)) ∨ (r = 0 ∧ P b < q * D ∧ ∃ y, y < n ∧ H.testBit y = true ∧ Off (fun i => oCn m i ∨ i = 179 ∨ i = p ∨ i = p + 3) N K ∧ K 179 2 = N 179 2 ∧ (∀ k, k ≠ 5 → K p k = N p k) ∧ K p 5 = ((ex + 1 : Nat) : Int) ∧ CN F K n kk (dN H (2 ^ y)) D (shP R G n (dN H (2 ^ y)) (fun k => w k y) (nw y 0 P) kk) (shW R G n (dN H (2 ^ y)) (fun k => w k y) w kk)))) := hr
      have oEL : ∀ K, EL N K p b el → Off (oHo m p) N K := fun K g => g.1.mono fun j hj => by unfold oHo oCn; omega
      have DBu : D ≤ DB (el + 1) := by omega
      rcases hr2 with ⟨rfl, g1, g2, g3⟩ | ⟨g0, ⟨rfl, g1, g2, g3⟩ | ⟨rfl, g1, g2, g3, g4⟩ | ⟨rfl, g1, y, y1, y2, y3, y4, y5, y6, y7⟩⟩
      · refine ok_ck (by decide) (ok_if (fun _ => fin K _ (el + 1) ex (nw el b eo) D P w (oEL K g2) g2.2.1 (g2.1 _ (by omega)) (by omega) g3 (g2.ck v2 hp2) (BK_elect bk hel hb1 wb DBu k8 k9 k10) (Or.inl (by omega))) (fun z => absurd rfl z))
      · refine ok_ck (by decide) (ok_if (fun _ => fin K _ (el + 1) ex (nw el b eo) D P w (oEL K g2) g2.2.1 (g2.1 _ (by omega)) (by omega) g3 (g2.ck v2 hp2) (BK_elect bk hel hb1 wb DBu k8 k9 k10) (Or.inr (MI_elect hb1 wb hbT (fun i _ => wu_nw i) g1 (nonf g0)))) (fun z => absurd rfl z))
      · have mi := nonf g0
        have bK : BX K n kk C G R A := bN.off (oEL K g2) (by unfold oHo oCn; omega) (by unfold oHo oCn; omega) (by unfold oHo oCn; omega) (by unfold oHo oCn; omega) (fun k hk => by unfold oHo oCn; omega)
        have mw : ∀ k c, k < kk → c < n → (dN H (2 ^ b)).testBit c = true → 0 ≤ w k c ∧ w k c ≤ 8100 * DB 2 := fun k c hk' hc y => by
          have a0 := mi.2.2.1 k c hk' hc
          have a1 := sN_single (f := fun k => w k c) (fun k hk => mi.2.2.1 k c hk hc) hk'
          have a1 : w k c ≤ sN (fun k => w k c) kk := a1
          rw [← mi.2.2.2.1 c hc (wb.sub y)] at a1
          have := hPZ c (by omega)
          omega
        refine ok_ck (by decide) (ok_if (fun z => absurd z (by decide)) (fun _ => ok_bm (passSurplus_ok (m := m) (Z := 8100 * DB 2) hL bK hW (by omega) hb1 (fun y => by rw [wb.2.1] at y; cases y) g3 g4 g1 (by omega) (by omega) b2 ⟨Int.le_of_lt k8, by omega⟩ hPZ mw (fun k hk' => mi.2.2.1 k b hk' hb1) (by rw [mi.2.2.2.1 b hb1 hb2]; exact Int.le_refl _)) ?_))
        rintro L ⟨l1, gg, num, den, l2, l3, l4, l5, l6, l7⟩
        have mi2 := MI_surplus (show n ≤ 8 by omega) hR hb1 wb hbT (T' := wu (nw el b eo) (el + 1)) (fun i _ => wu_nw i) (Int.le_of_lt hq0) l2 l3 l4 l5 l6 mi
        have hden : den ≤ D * 8100 := by
          have a1 : den * 1 ≤ den * gg := Int.mul_le_mul_of_nonneg_left (by omega) (Int.le_of_lt l4)
          have := sN_single k9 (show b < 9 by omega)
          omega
        have hDd : D * den ≤ DB (el + 1) := by
          have a1 : D * den ≤ D * (D * 8100) := Int.mul_le_mul_of_nonneg_left hden (Int.le_of_lt k8)
          have a2 : D * D ≤ DB el * DB el := Int.le_trans (Int.mul_le_mul_of_nonneg_right k7 (Int.le_of_lt k8)) (Int.mul_le_mul_of_nonneg_left k7 (Int.le_of_lt d2))
          have a3 : DB (el + 1) = 8100 * (DB el * DB el) := rfl
          have a4 : D * (D * 8100) = 8100 * (D * D) := by grind
          omega
        refine fin L _ (el + 1) ex (nw el b eo) (D * den) _ _ ((oEL K g2).trans (l1.mono fun j hj => Or.inl hj)) ?_ ?_ (by omega) l7 ?_ (BK_elect bk hel hb1 wb hDd mi2.1 mi2.2.1 mi2.2.2.2.2.1) (Or.inr mi2)
        · rw [l1 179 (by unfold oCn; omega)]; exact g2.2.1
        · rw [l1 (p + 4) (by unfold oCn; omega)]; exact g2.1 _ (by omega)
        · have := g2.ck v2 hp2
          unfold CK at this ⊢
          rw [l1 p (by unfold oCn; omega), l1 (p + 1) (by unfold oCn; omega), l1 (p + 2) (by unfold oCn; omega)]
          exact this
      · have mi := nonf g0
        have wy := wo_dN (show n ≤ 8 by omega) hH2 y1 y2
        have hyT : ¬ (wu eo el).testBit y = true := fun z => k2 y ⟨y2, z⟩
        have mi2 := MI_excl (show n ≤ 8 by omega) hR y1 wy hyT mi
        refine ok_ck (by decide) (ok_if (fun _ => fin K _ el (ex + 1) eo D _ _ (y3.mono fun j hj => by unfold oHo; unfold oCn at hj ⊢; omega) y4 (y3 _ (by unfold oCn; omega)) (by omega) y7 ?_ (BK_excl bk hq0 y1 wy g0 mi (fun c hc z => by have := hb3 c hc z; omega) mi2.2.1 mi2.2.2.2.2.1) (Or.inr mi2)) (fun z => absurd rfl z))
        obtain ⟨u1, u2', u3, u4, u5, u6, u7, u8⟩ := v2
        exact ⟨by rw [y5 0 (by decide)]; exact u1, by rw [y5 1 (by decide)]; exact u2', by rw [y5 2 (by decide)]; exact u3, by rw [y5 3 (by decide)]; exact u4, by rw [y5 4 (by decide)]; exact u5, y6, fun k hk => by rw [y3 (p + 1) (by unfold oCn; omega)]; exact u7 k hk, fun i hi => by rw [y3 (p + 2) (by unfold oCn; omega)]; exact u8 i hi⟩
