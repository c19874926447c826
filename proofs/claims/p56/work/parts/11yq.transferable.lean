/-! THE LAW'S COUNT ANSWERS 1 -/
theorem transferable_ok {E : Ev} {M : Mm} {n kk : Nat} {C : Nat → Int} {G : Nat → Nat} {R : Nat → Nat → Nat} {A : Nat → Nat} {lo : Nat → Int} (h : HQ E M n kk C G R A lo) : Ok (f_La_transferable E M 250 0) (fun r => r.1 = 1 ∧ Gw E r.2.1 ∧ Lay r.2.1 ∧ BX r.2.2 n kk C G R A ∧ LB r.2.1 r.2.2 250 n kk C G R ∧ LT r.2.2 n lo ∧ Ring r.2.2 ∧ r.2.2 2 1 = 0 ∧ TC n kk C G R r.2.1 r.2.2) := by
  obtain ⟨hL, hB, hLB, hl, hr, h21, hn2, hn, hk9, hs, hz, hz249, hz8, hz243, r180, r181⟩ := h
  have h250 := hL.1
  have hq1 := hLB.1
  have hC0 : ∀ k, k < kk → 0 ≤ C k := fun k hk => (hB.2.2.2.2.1 k hk).2.2
  have s0 : 0 ≤ sN C kk := sN_nonneg hC0
  unfold f_La_transferable
  refine ok_ck hL (ok_ck hq1 (ok_ck ⟨yi_0 hL, by rw [yt_0 hL]⟩ (ok_bm (next_ok ⟨yi_0 hL, by rw [yt_0 hL]⟩ (by rw [yt_0 hL]) (by decide) (by decide)) ?_)))
  rintro ⟨r0, M1⟩ ⟨⟨r1r, r2r⟩, o1r⟩
  have r1 : 0 ≤ r0 := r1r
  have r2 : r0 < 3 := r2r
  have o1 : Off (fun i => i = 0) M M1 := o1r
  obtain ⟨x, hx⟩ : ∃ x : Nat, 1 + r0 = (x : Int) := ⟨(1 + r0).toNat, by omega⟩
  have hx1 : 1 ≤ x := by omega
  have hx3 : x ≤ 3 := by omega
  have b1 : BX M1 n kk C G R A := hB.off o1 (by decide) (by decide) (by decide) (by decide) (fun k hk => by omega)
  have l1 : LT M1 n lo := hl.off o1 (by decide)
  show Ok ((f_B_transferable E M1 (1 + r0)).bind _) _
  rw [hx]
  have trans : Ok (f_B_transferable E M1 (x : Int)) (fun r => ∃ N, HC E M1 n kk x C G R r.1 r.2.1 N ∧ Off (fun i => i = 1 ∨ i = 246 ∨ i = 247 ∨ i = 248) N r.2.2 ∧ Ring r.2.2) := by
    unfold f_B_transferable
    rw [needRange_ok (by decide) (show (1 : Int) ≤ (x : Int) by omega) (show (x : Int) ≤ 3 by omega) (by decide), b1.1]
    refine ok_ck hL (ok_sb (ok_ck (rgN (by omega)) (ok_if (fun z => by omega) (fun _ => ok_bm (holdCount_ok hL b1 l1 hn hs (by rw [o1 179 (by decide), hz 179 (by decide) (by decide) (by decide)]) r180 r181 hx1 hx3) ?_))))
    rintro ⟨v, F, N⟩ hc
    have hc : HC E M1 n kk x C G R v F N := hc
    refine ok_ck hc.1 (ok_ck hc.2.1 (ok_bm (remember_ok 9 0 0 ((hr.of (o1 1 (by decide))).of (hc.2.2.2.1 1 (by unfold oHc; omega)))) ?_))
    rintro K ⟨k1, k2, -⟩
    exact ok_some ⟨N, hc, k1, k2⟩
  refine ok_bm trans ?_
  rintro ⟨v, F, K⟩ ⟨N, hcr, okr, rkr⟩
  have hc : HC E M1 n kk x C G R v F N := hcr
  have ok' : Off (fun i => i = 1 ∨ i = 246 ∨ i = 247 ∨ i = 248) N K := okr
  have rk : Ring K := rkr
  obtain ⟨gF, lF, rF, oN, el, ex, eo, ev, eel, ecs, tc, sz, hF, hFb, hM0⟩ := hc
  subst ev
  have oK : Off (fun i => i = 0 ∨ i = 1 ∨ i = 246 ∨ i = 247 ∨ i = 248 ∨ i = 179 ∨ (183 ≤ i ∧ i ≤ 218) ∨ nE E ≤ i) M K := (o1.mono fun i hi => by omega).trans ((oN.mono fun i hi => by unfold oHc at hi; omega).trans (ok'.mono fun i hi => by omega))
  have bK : BX K n kk C G R A := hB.off oK (by omega) (by omega) (by omega) (by omega) (fun k hk => by omega)
  have lK : LT K n lo := hl.off oK (by omega)
  have lbK : LB F K 250 n kk C G R := by
    have z := hLB.off oK (fun c h1 h2 => by omega)
    obtain ⟨a1, a2, a3, a4, a5, pr, pm, c1', c2, c3, c4, c5, c6, c7, c8, c9, c10⟩ := z
    have up : ∀ {i}, i < nE E → i < nE F := fun hi => Nat.lt_of_lt_of_le hi gF.1
    have tp : ∀ {i}, i < nE E → tE F i = tE E i := fun hi => gF.2 _ hi
    have rp : ∀ {i}, 250 ≤ i → i < nE E → rE F i = rE E i := fun h1 h2 => rF _ h2 (by omega) (by omega)
    refine ⟨⟨up a1.1, by rw [tp a1.1]; exact a1.2⟩, a2, a3, a4, a5, pr, pm, by rw [rp a2 a1.1]; exact c1', ⟨up c2.1, by rw [tp c2.1]; exact c2.2⟩, by rw [tp c2.1]; exact c3, c4, by rw [rp a2 a1.1]; exact c5, ⟨up c6.1, by rw [tp c6.1]; exact c6.2⟩, by rw [tp c6.1]; exact c7, c8, c9, fun k hk => ?_⟩
    obtain ⟨p, p1, p2, p3, p4, p5⟩ := c10 k hk
    exact ⟨p, by rw [rp c4 c2.1]; exact p1, p2, ⟨up p3.1, by rw [tp p3.1]; exact p3.2⟩, by rw [tp p3.1]; exact p4, p5⟩
  have tcK : TCx n kk C R F K 1 (nE E) el ex (sN C kk / ((x : Int) + 1) + 1) (sN C kk) eo := tc.off ok' (by decide) (fun c h1 h2 => by omega)
  have eMV : ∀ s c, MV K (nE E) s c = MV N (nE E) s c := fun s c => MV_off (ok' _ (by omega))
  have szK : SZ K (nE E) el ex := fun s hs' => by
    obtain ⟨d1, d2, d3⟩ := sz s hs'
    exact ⟨by rw [eMV]; exact d1, by rw [eMV]; exact d2, fun c hc => by rw [eMV]; exact d3 c hc⟩
  have hx' : r0 = (x : Int) - 1 := by omega
  refine ok_ck gF (ok_ck lF (ok_bm (t21_ok (x3 := (x : Int)) lF lbK.1 hn tcK) ?_))
  rintro ⟨t, x5, x6, F2, K2⟩ ⟨t1, t2r, t3r, t4r⟩
  have t2 : x5 = ((wu eo el : Nat) : Int) := t2r
  have t3 : F2 = F := t3r
  have t4 : K2 = K := t4r
  subst t2 t3 t4
  refine ok_ck (gw_self _) (ok_ck lF (ok_ck t1 (ok_bm (lbAll_ok lbK) ?_)))
  rintro r rfl
  refine ok_bm (quota_ok tcK) ?_
  rintro r rfl
  rw [lbK.2.2.1, ← eel]
  have q0 : 0 ≤ sN C kk / ((x : Int) + 1) := Int.ediv_nonneg s0 (by omega)
  have q1 : sN C kk / ((x : Int) + 1) ≤ sN C kk := Int.ediv_le_self _ s0
  have hwu := wu_lt (o := eo) (n := n) (kw := el) (fun i hi => (tcK.2.2.2.2.2.2.2.2.2.2.2.2.2.2.2.2.1 i hi).2) el (Nat.le_refl _)
  refine ok_ck ⟨s0, by omega⟩ (ok_ck ⟨by omega, by omega⟩ (ok_ck ⟨by omega, by omega⟩ (ok_ck ⟨by omega, by omega⟩ (ok_if (fun _ => ?_) (fun z => absurd rfl z)))))
  refine ok_ck (rgN (by omega)) (ok_ck (rgN (by omega)) (ok_ck (rgN (by omega)) (ok_if (fun _ => ?_) (fun z => absurd rfl z))))
  rw [bitCount_cS F2 K2 (show n ≤ 12 by omega) hwu, ecs]
  refine ok_sb (ok_ck (rgN (by omega)) (ok_if (fun _ => ?_) (fun z => absurd rfl z)))
  refine ok_bm (t101_ok lF bK lbK (by omega) hn tcK) ?_
  rintro ⟨t, x7, x8, F3, K3⟩ ⟨u1, u2r, u3r, u4r⟩
  have u2' : x7 = 1 := u2r
  have u3 : F3 = F2 := u3r
  have u4 : Off (fun i => i = 40) K2 K3 := u4r
  subst u2' u3
  have b3 : BX K3 n kk C G R A := bK.off u4 (by decide) (by decide) (by decide) (by decide) (fun k hk => by omega)
  have lb3 : LB F3 K3 250 n kk C G R := lbK.off u4 (fun c h1 h2 => by omega)
  have tc3 : TCx n kk C R F3 K3 1 (nE E) el ex (sN C kk / ((x : Int) + 1) + 1) (sN C kk) eo := tcK.off u4 (by decide) (fun c h1 h2 => by omega)
  have eMV3 : ∀ s c, MV K3 (nE E) s c = MV K2 (nE E) s c := fun s c => MV_off (u4 _ (by omega))
  have sz3 : SZ K3 (nE E) el ex := fun s hs' => by
    obtain ⟨d1, d2, d3⟩ := szK s hs'
    exact ⟨by rw [eMV3]; exact d1, by rw [eMV3]; exact d2, fun c hc => by rw [eMV3]; exact d3 c hc⟩
  refine ok_ck (gw_self _) (ok_ck lF (ok_ck u1 (ok_bm (t188_ok lF b3 lb3 hn tc3 sz3 (fun c hc => by rw [eMV3, eMV3, eMV, eMV]; exact hF c hc) hFb (fun c hc => by rw [eMV3, eMV]; exact hM0 c hc)) ?_)))
  rintro ⟨t, x7, x8, F4, K4⟩ ⟨v1, v2r, v3r, v4r, v5r⟩
  have v2 : x7 = 1 := v2r
  have v3 : F4 = F3 := v3r
  have v4 : Off oWr K3 K4 := v4r
  have v5 : ∀ k, k ≠ 13 → K4 1 k = K3 1 k := v5r
  subst v2 v3
  have b4 : BX K4 n kk C G R A := b3.off v4 (by unfold oWr; decide) (by unfold oWr; decide) (by unfold oWr; decide) (by unfold oWr; decide) (fun k hk => by unfold oWr; omega)
  have tc4 : TCx n kk C R F4 K4 1 (nE E) el ex (sN C kk / ((x : Int) + 1) + 1) (sN C kk) eo := tc3.off v4 (by unfold oWr; decide) (fun c h1 h2 => by unfold oWr; omega)
  have sz4 : SZ K4 (nE E) el ex := fun s hs' => by
    obtain ⟨d1, d2, d3⟩ := sz3 s hs'
    have e : ∀ c, MV K4 (nE E) s c = MV K3 (nE E) s c := fun c => MV_off (v4 _ (by unfold oWr; omega))
    exact ⟨by rw [e]; exact d1, by rw [e]; exact d2, fun c hc => by rw [e]; exact d3 c hc⟩
  refine ok_ck (gw_self _) (ok_ck lF (ok_ck v1 ((j335_ok lF b4.1 hn tc4 sz4).mono ?_)))
  rintro ⟨a, F5, K5⟩ ⟨w1', w2r, w3r, w4r⟩
  have w2 : F5 = F4 := w2r
  have w3 : Off oWr K4 K5 := w3r
  have w4 : ∀ k, k ≠ 13 → K5 1 k = K4 1 k := w4r
  subst w2
  have o25 : Off (fun i => i = 40 ∨ oWr i) K2 K5 := (u4.mono fun i hi => Or.inl hi).trans ((v4.mono fun i hi => Or.inr hi).trans (w3.mono fun i hi => Or.inr hi))
  have rg5 : Ring K5 := by
    unfold Ring
    rw [w4 10 (by decide), w4 11 (by decide), v5 10 (by decide), v5 11 (by decide), u4 1 (by decide)]
    exact rk
  have o5 : ∀ c, c ≠ 0 → c ≠ 1 → ¬ (246 ≤ c ∧ c ≤ 248) → c ≠ 179 → ¬ (183 ≤ c ∧ c ≤ 218) → c < nE E → c ≠ 40 → ¬ oWr c → K5 c = M c := fun c a1 a2 a3 a4 a5 a6 a7 a8 => by
    rw [o25 c (fun z => z.elim a7 a8), oK c (by omega)]
  refine ⟨w1', gF, lF, b4.off w3 (by unfold oWr; decide) (by unfold oWr; decide) (by unfold oWr; decide) (by unfold oWr; decide) (fun k hk => by unfold oWr; omega), lbK.off o25 (fun c h1 h2 => by unfold oWr; omega), lK.off o25 (by unfold oWr; decide), rg5, ?_, ⟨1, nE E, el, ex, _, _, eo, tc4.off w3 (by unfold oWr; decide) (fun c h1 h2 => by unfold oWr; omega)⟩, ?_, ?_, ?_, ?_⟩
  · show K5 2 1 = 0
    rw [o5 2 (by decide) (by decide) (by decide) (by decide) (by decide) (by omega) (by decide) (by unfold oWr; decide)]
    exact h21
  · show K5 53 = fun _ => 0
    rw [o5 53 (by decide) (by decide) (by decide) (by decide) (by decide) (by omega) (by decide) (by unfold oWr; decide)]
    exact hz 53 (by decide) (by decide) (by decide)
  · show K5 243 = _
    rw [o5 243 (by decide) (by decide) (by decide) (by decide) (by decide) (by omega) (by decide) (by unfold oWr; decide)]
    exact hz243
  · show K5 244 = _
    rw [o5 244 (by decide) (by decide) (by decide) (by decide) (by decide) (by omega) (by decide) (by unfold oWr; decide)]
    exact hz 244 (by decide) (by decide) (by decide)
  · show K5 245 = _
    rw [o5 245 (by decide) (by decide) (by decide) (by decide) (by decide) (by omega) (by decide) (by unfold oWr; decide)]
    exact hz 245 (by decide) (by decide) (by decide)
