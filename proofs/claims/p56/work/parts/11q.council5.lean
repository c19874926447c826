/-- the law's council answers 1, whatever was drawn -/
theorem council_ok {E : Ev} {M : Mm} (hE : nE E = 1) (hD : Desc (eNew E (111, 0)) kc0) (h0 : isIA E 0) : Ok (f_La_council E M 0) (fun r => r.1 = 1 ∧ Gw E r.2.1) := by
  unfold f_La_council
  refine ok_ck h0 ?_
  refine ok_nbx fun p1 hp1 => ok_nbx fun E1 hE1 => ok_nbx fun M1 hM1 => ?_
  rw [hE] at hp1 hM1
  subst hp1
  rw [← hE1] at hD
  have gw1 : Gw E E1 := by rw [hE1]; exact gw_new E _
  refine ok_bm (ctor_ok hD (by rw [hM1]; exact va_up_self _ _ _)) ?_
  rintro ⟨E2, M2⟩ ⟨D2, -, z2, z243⟩
  have D2 : Desc E2 kc85 := D2
  have z2 : ∀ i, 0 < i → i < 250 → i ≠ 243 → M2 i = fun _ => 0 := z2
  have z243 : M2 243 = va_up (fun _ => 0) 1 1 := z243
  have hG : Gw E1 E2 := hD.gw2 D2 (by decide +kernel)
  obtain ⟨hL, hn, -, -⟩ := lay_of D2
  refine ok_ck hG (ok_ck ⟨hL, rfl⟩ ?_)
  refine ok_bm (next_ok ⟨yi_0 hL, by rw [yt_0 hL]⟩ (by rw [yt_0 hL]) (by decide) (by decide)) ?_
  rintro ⟨x, M3⟩ ⟨⟨x0, x7⟩, o3⟩
  have x0 : 0 ≤ x := x0
  have x7 : x < 7 := x7
  have o3 : Off (fun i => i = 0) M2 M3 := o3
  obtain ⟨n, hxn⟩ : ∃ n : Nat, 1 + x = (n : Int) := ⟨(1 + x).toNat, by omega⟩
  show Ok (ck (0 ≤ 1 + x ∧ 1 + x ≤ 64) (nb (nE E2) fun p104 => nb (eNew E2 (0, (1 + x).toNat)) fun E104 => _)) _
  rw [hxn]
  refine ok_ck ⟨by omega, by omega⟩ ?_
  rw [Int.toNat_natCast]
  refine ok_nbx fun q hq => ok_nbx fun E4 hE4 => ok_nbx fun M4 hM4 => ?_
  rw [hn] at hq hM4
  subst hq
  have gw4 : Gw E2 E4 := by rw [hE4]; exact gw_new E2 _
  have n4 : nE E4 = 251 := by rw [hE4]; show nE E2 + 1 = 251; rw [hn]
  have t4 : tE E4 250 = (0, n) := by
    rw [hE4]
    show va_up E2.1.2.1 E2.1.1 (0, n) 250 = _
    rw [show E2.1.1 = 250 from hn, va_up_self]
  have hL4 : Lay E4 := by
    refine ⟨by omega, fun i hi => (gw4.2 i (by omega)).trans (hL.2.1 i hi), fun i hi h5 h6 k hk => ?_⟩
    rw [hE4]
    show va_up E2.1.2.2 E2.1.1 (fun _ => none) i k = _
    rw [show E2.1.1 = 250 from hn, va_up_ne _ _ (by omega)]
    exact hL.2.2 i hi h5 h6 k hk
  have hq4 : isIA E4 250 := ⟨by omega, by rw [t4]⟩
  have hl : (tE E4 250).2 = n := by rw [t4]
  have e4 : ∀ i, 0 < i → i < 250 → M4 i = M2 i := fun i h1 h2 => by
    rw [hM4]
    show va_up M3 250 _ i = _
    rw [va_up_ne _ _ (by omega)]
    exact o3 i (by omega)
  have c243 : M4 243 = va_up (fun _ => 0) 1 1 := (e4 243 (by decide) (by decide)).trans z243
  have c245 : M4 245 0 = 0 := by rw [e4 245 (by decide) (by decide), z2 245 (by decide) (by decide) (by decide)]
  have c1 : M4 1 = fun _ => 0 := (e4 1 (by decide) (by decide)).trans (z2 1 (by decide) (by decide) (by decide))
  refine ok_bm (L30_ok hL4 hq4 hl (by decide) (by omega) (by rw [c243]; exact va_up_ne _ _ (by decide)) c245 (by unfold Ring; rw [c1]; decide)) ?_
  rintro ⟨t, tot, pr, x8, E5, M5⟩ ⟨i1, i2, w, hw, i3, i4, i5, i6, i7⟩
  have g1 : t = 1 := i1
  have g2 : E5 = E4 := i2
  have g3 : tot = sN w n := i3
  have g4 : pr = facF n := i4
  have g5 : CS M5 n w (M5 243 1) := i5
  have g6 : ∀ k, k < n → M5 250 k = w k := i6
  have g7 : Ring M5 := i7
  subst g1 g2 g3 g4
  refine ok_ck (gw_self E5) (ok_ck hL4 (ok_ck rfl ?_))
  have tb : 0 ≤ sN w n ∧ sN w n ≤ 77 := by
    have h9 := wS_bounds (w := w) (2 ^ n - 1) (c := 11) hw
    rw [wS_all] at h9
    omega
  show Ok ((f_La_next E5 M5 0 (sN w n + 3)).bind _) _
  refine ok_bm (next_ok ⟨yi_0 hL4, by rw [yt_0 hL4]⟩ (by rw [yt_0 hL4]) (by omega) (by omega)) ?_
  rintro ⟨y, M6⟩ ⟨⟨y0, y1⟩, o6⟩
  have y0 : 0 ≤ y := y0
  have y1 : y < sN w n + 3 := y1
  have o6 : Off (fun i => i = 0) M5 M6 := o6
  show Ok ((f_B_setQuota E5 M6 (1 + y)).bind _) _
  refine ok_bm (setQuota_ok (by omega) (by omega) (g7.of (o6 1 (by decide)))) ?_
  rintro ⟨a, M7⟩ ⟨o7, -, s0, s1⟩
  have o7 : Off (fun i => i = 1 ∨ i = 243 ∨ i = 246 ∨ i = 247 ∨ i = 248) M6 M7 := o7
  have s0 : M7 243 0 = M6 243 0 := s0
  have s1 : M7 243 1 = 1 + y := s1
  have C7 : CS M7 n w (1 + y) := ⟨by rw [s0, o6 243 (by decide)]; exact g5.1, s1, fun k hk => by rw [o7 244 (by decide), o6 244 (by decide)]; exact g5.2.2.1 k hk, by rw [o7 245 (by decide), o6 245 (by decide)]; exact g5.2.2.2⟩
  have w7 : ∀ k, k < n → M7 250 k = w k := fun k hk => by rw [o7 250 (by decide), o6 250 (by decide)]; exact g6 k hk
  have hw2 : ∀ k, k < n → 0 ≤ w k ∧ w k ≤ 1000 := fun k hk => ⟨(hw k hk).1, by have := (hw k hk).2; omega⟩
  refine ok_bm (L110_ok hL4 hq4 hl (by decide) (by omega) (by omega) w7 hw2 (by omega) ⟨by omega, by omega⟩ C7) ?_
  rintro ⟨t, r9, r11, r12, E8, M8⟩ ⟨j1, j2, j3, j4⟩
  have k1 : t = 1 := j1
  have k2 : r9 = sN (fun m => otN w (1 + y) n m) n := j2
  have k3 : r11 = 1 := j3
  have k4 : E8 = E5 := j4
  rw [orders_all (by omega) (by omega) (by omega) (fun k hk => (hw k hk).1), wS_all] at k2
  subst k1 k3 k4
  have fb := facF7 (show n ≤ 7 by omega)
  have gE : Gw E E8 := gw_trans gw1 (gw_trans hG gw4)
  refine ok_ck (gw_self E8) (ok_ck hL4 (ok_ck rfl (ok_ck (by decide) (ok_if (fun d => absurd d (by decide)) (fun _ => ?_)))))
  show Ok (ck (rgI (1 + y)) (ck (rgI (sN w n)) (if sN w n < 1 + y then La_council_j300 E8 M8 0 r9 else La_council_j300 E8 M8 (facF n) r9))) _
  refine ok_ck ⟨by omega, by omega⟩ (ok_ck ⟨by omega, by omega⟩ (ok_if (fun d => ?_) (fun d => ?_)))
  · rw [if_neg (by omega)] at k2
    subst k2
    unfold La_council_j300
    exact ok_ck hL4 (ok_ck (by decide) (ok_ck (by decide) (ok_if (fun _ => ok_some ⟨rfl, gE⟩) (fun d3 => absurd rfl d3))))
  · rw [if_pos (by omega)] at k2
    subst k2
    unfold La_council_j300
    exact ok_ck hL4 (ok_ck ⟨by omega, by omega⟩ (ok_ck ⟨by omega, by omega⟩ (ok_if (fun _ => ok_some ⟨rfl, gE⟩) (fun d3 => absurd rfl d3))))
