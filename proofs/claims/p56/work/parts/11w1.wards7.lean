/-! THE LAW'S DISTRICTS -/
theorem DW.low {M N : Mm} {n d : Nat} {w : Nat → Int} (h : DW M n d w) (e : ∀ i, i < 250 → N i = M i) : DW N n d w := by
  refine ⟨⟨by rw [e 219 (by decide)]; exact h.ws.1, fun k hk => by rw [e 220 (by decide)]; exact h.ws.2 k hk⟩, fun x hx k hk => ?_, h.n1, h.n16, h.d1, h.dn, h.wr⟩
  rw [e (222 + x) (by omega)]
  exact h.vm x hx k hk
/-- the search's best is what the class chooses -/
theorem best_eq {M : Mm} {n d q6 : Nat} {x5 : Int} {w : Nat → Int} (h : DW M n d w) (hb : bestB M w n d x5 q6 (2 ^ (n - 1))) : x5 = wT w n d 0 ∧ ∃ b : List Nat, (∀ i, i < d → M q6 i = (b.getD i 0 : Int)) ∧ ∀ p, PL w n (wT w n d 0) d 0 p → p = b := by
  have n1 := h.n1
  have d1 := h.d1
  have dn := h.dn
  obtain ⟨-, l, a2, a3, a4⟩ := wT_at h.smb d 0 (by omega) (by omega)
  obtain ⟨S, s1, s2⟩ := mE_surj n1 a2
  rcases hb with ⟨-, -, c3⟩ | ⟨b, b1, b2, b3, b4, b5⟩
  · exact absurd (by rw [s2]; exact a3) (c3 S s1)
  · have g1 := b5 S s1 (by rw [s2]; exact a3)
    rw [s2] at g1
    have g2 := wT_le (w := w) b1
    rw [b2] at g2
    have g3 : gr w 0 b = wT w n d 0 := by
      rcases g1 with g | ⟨g, -⟩ <;> omega
    refine ⟨by omega, b, b4, fun p hp => ?_⟩
    obtain ⟨p1, p2', p3, p4⟩ := h.best hp
    obtain ⟨T, t1, t2⟩ := mE_surj n1 p1
    have g5 := b5 T t1 (by rw [t2]; exact p3)
    rw [t2] at g5
    have g6 : lx b p := by
      rcases g5 with g | ⟨-, g⟩
      · omega
      · exact g
    exact lx_anti (by omega) (p4 b b1 b2 (by omega)) g6
theorem L291_ok {E : Ev} {M : Mm} {n d q6 : Nat} {w : Nat → Int} {b : List Nat} (hL : Lay E) (hq6 : isIA E q6) (hl6 : (tE E q6).2 = d) (hbig : 250 ≤ q6) (h : DW M n d w) (hb : ∀ i, i < d → M q6 i = (b.getD i 0 : Int)) (hu : ∀ p, PL w n (wT w n d 0) d 0 p → p = b) : Ok (l_La_districts_291 (d : Int) q6 5000 E M 1 0) (fun r => r.1 = 1 ∧ r.2.1 = 1 ∧ r.2.2.2.1 = E ∧ Off dC M r.2.2.2.2) := by
  have d1 := h.d1
  have dn := h.dn
  have n16 := h.n16
  refine L_La_districts_291 (d : Int) q6 (I := fun F N x7 x8 => F = E ∧ x7 = 1 ∧ Off dC M N ∧ ∃ i : Nat, x8 = (i : Int) ∧ i ≤ d) (μ := fun _ _ _ y => d - y.toNat) (Q := fun r => r.1 = 1 ∧ r.2.1 = 1 ∧ r.2.2.2.1 = E ∧ Off dC M r.2.2.2.2) ?_ 5000 E M 1 0 ⟨rfl, rfl, Off.refl, 0, rfl, Nat.zero_le _⟩ (by show d - _ < 5000; omega)
  rintro F N x7 x8 ⟨rfl, rfl, ho, i, rfl, hi⟩
  unfold La_districts_291b
  refine ok_ck hL (ok_ck hq6 (ok_ck ⟨by omega, by omega⟩ (ok_ck ⟨by omega, by omega⟩ (ok_if (fun c => ?_) (fun c => ?_)))))
  · exact ok_some (ok_out (by show (1 : Nat) ≠ 0; decide) ⟨rfl, rfl, rfl, ho⟩)
  · have hid : i < d := by omega
    refine ok_ck (by decide) (ok_if (fun q => absurd q (by decide)) (fun _ => ?_))
    refine ok_bm (districtEnd_ok (h.off ho) hid) ?_
    rintro ⟨r, K⟩ ⟨k1, p, k2, k3⟩
    have k1 : Off dC N K := k1
    have k3 : r = (p.getD i 0 : Int) := k3
    obtain ⟨p1, -, -, -⟩ := h.best k2
    have hp := DV_getD p1 h.n1 i
    have eK : K q6 i = (p.getD i 0 : Int) := by
      rw [k1 q6 (fun q => by have := q.2; omega), ho q6 (fun q => by have := q.2; omega), hb i hid, hu p k2]
    show Ok (ck (inb (i : Int) (tE F q6).2) (ck (rgI r) (ck (rgI (K q6 (i : Int).toNat)) (if r = K q6 (i : Int).toNat then some (0, 1, (i : Int) + 1, F, K) else some (0, 0, (i : Int) + 1, F, K))))) _
    rw [Int.toNat_natCast, eK, hl6]
    refine ok_ck ⟨by omega, by omega, by omega⟩ (ok_ck ⟨by omega, by omega⟩ (ok_ck ⟨by omega, by omega⟩ (ok_if (fun _ => ?_) (fun q => absurd k3 q))))
    exact ok_some (ok_go rfl ⟨⟨rfl, rfl, ho.trans k1, i + 1, by show (i : Int) + 1 = _; omega, by omega⟩, by show d - ((i : Int) + 1).toNat < d - (i : Int).toNat; omega⟩)
theorem won_sum {M N : Mm} {p : List Nat} {d : Nat} (h : Off dC M N) : sN (fun i => if vt M p (1 - 0) i < vt M p 0 i then (1 : Int) else 0) d + sN (fun i => if vt N p (1 - 1) i < vt N p 1 i then (1 : Int) else 0) d ≤ d ∧ 0 ≤ sN (fun i => if vt M p (1 - 0) i < vt M p 0 i then (1 : Int) else 0) d ∧ 0 ≤ sN (fun i => if vt N p (1 - 1) i < vt N p 1 i then (1 : Int) else 0) d := by
  induction d with
  | zero => exact ⟨by show (0 : Int) + 0 ≤ 0; decide, Int.le_refl 0, Int.le_refl 0⟩
  | succ d ih =>
    obtain ⟨i1, i2, i3⟩ := ih
    rw [sN_succ, sN_succ, vt_off h p (by decide), vt_off h p (by decide)]
    show _ + (if vt M p 1 d < vt M p 0 d then (1 : Int) else 0) + (_ + (if vt M p 0 d < vt M p 1 d then (1 : Int) else 0)) ≤ _ ∧ 0 ≤ _ + (if vt M p 1 d < vt M p 0 d then (1 : Int) else 0) ∧ 0 ≤ _ + (if vt M p 0 d < vt M p 1 d then (1 : Int) else 0)
    by_cases c1 : vt M p 1 d < vt M p 0 d
    · rw [if_pos c1, if_neg (show ¬ vt M p 0 d < vt M p 1 d by omega)]
      omega
    · rw [if_neg c1]
      by_cases c2 : vt M p 0 d < vt M p 1 d
      · rw [if_pos c2]; omega
      · rw [if_neg c2]; omega
theorem districts_ok {E : Ev} {M : Mm} (hE : nE E = 1) (hD : Desc (eNew E (111, 0)) kc0) (h0 : isIA E 0) : Ok (f_La_districts E M 0) (fun r => r.1 = 1 ∧ Gw E r.2.1) := by
  unfold f_La_districts
  refine ok_ck h0 ?_
  refine ok_nbx fun p1 hp1 => ok_nbx fun E1 hE1 => ok_nbx fun M1 hM1 => ?_
  rw [hE] at hp1 hM1
  subst hp1
  rw [← hE1] at hD
  have gw1 : Gw E E1 := by rw [hE1]; exact gw_new E _
  refine ok_bm (ctor_ok hD (by rw [hM1]; exact va_up_self _ _ _)) ?_
  rintro ⟨E2, M2⟩ ⟨D2', -, z2', -⟩
  have D2 : Desc E2 kc85 := D2'
  have z2 : ∀ i, 0 < i → i < 250 → i ≠ 243 → M2 i = fun _ => 0 := z2'
  have hG : Gw E1 E2 := hD.gw2 D2 (by decide +kernel)
  obtain ⟨hL, hn, -, -⟩ := lay_of D2
  refine ok_ck hG (ok_ck ⟨hL, rfl⟩ ?_)
  refine ok_bm (next_ok ⟨yi_0 hL, by rw [yt_0 hL]⟩ (by rw [yt_0 hL]) (by decide) (by decide)) ?_
  rintro ⟨x, M3⟩ ⟨⟨ux0, ux7⟩, uo3⟩
  have x0 : 0 ≤ x := ux0
  have x8 : x < 8 := ux7
  have o3 : Off (fun i => i = 0) M2 M3 := uo3
  obtain ⟨n, hxn⟩ : ∃ n : Nat, 1 + x = (n : Int) := ⟨(1 + x).toNat, by omega⟩
  show Ok (ck (0 ≤ 1 + x ∧ 1 + x ≤ 8) (nb (nE E2) fun p104 => nb (eNew E2 (0, (1 + x).toNat)) fun E104 => _)) _
  rw [hxn]
  refine ok_ck ⟨by omega, by omega⟩ ?_
  rw [Int.toNat_natCast]
  refine ok_nbx fun q hq => ok_nbx fun E4 hE4 => ok_nbx fun M4 hM4 => ?_
  rw [hn] at hq hM4
  subst hq
  have gw4 : Gw E2 E4 := by rw [hE4]; exact gw_new E2 _
  have n4 : nE E4 = 251 := by rw [hE4]; show nE E2 + 1 = 251; rw [hn]
  have t4 : tE E4 250 = (0, n) := by
    rw [hE4]
    show va_up E2.1.2.1 E2.1.1 (0, n) 250 = _
    rw [show E2.1.1 = 250 from hn, va_up_self]
  have hL4 : Lay E4 := by
    refine ⟨by omega, fun i hi => (gw4.2 i (by omega)).trans (hL.2.1 i hi), fun i hi h5 h6 k hk => ?_⟩
    rw [hE4]
    show va_up E2.1.2.2 E2.1.1 (fun _ => none) i k = _
    rw [show E2.1.1 = 250 from hn, va_up_ne _ _ (by omega)]
    exact hL.2.2 i hi h5 h6 k hk
  have hq4 : isIA E4 250 := ⟨by omega, by rw [t4]⟩
  have hl : (tE E4 250).2 = n := by rw [t4]
  have e4 : ∀ i, 0 < i → i < 250 → M4 i = M2 i := fun i h1 h2 => by
    rw [hM4]
    show va_up M3 250 _ i = _
    rw [va_up_ne _ _ (by omega)]
    exact o3 i (by omega)
  have c219 : M4 219 0 = 0 := by rw [e4 219 (by decide) (by decide), z2 219 (by decide) (by decide) (by decide)]
  have c1 : M4 1 = fun _ => 0 := (e4 1 (by decide) (by decide)).trans (z2 1 (by decide) (by decide) (by decide))
  refine ok_bm (L24_ok hL4 hq4 hl (by decide) (by omega) c219 (by unfold Ring; rw [c1]; decide)) ?_
  rintro ⟨t, y, E5, M5⟩ ⟨i1, i2, i3, i4⟩
  have g1 : t = 1 := i1
  have g2 : E5 = E4 := i2
  have hW : WM M5 250 n := i3
  subst g1 g2
  refine ok_ck (gw_self E5) (ok_ck hL4 (ok_ck rfl ?_))
  refine ok_bm (next_ok ⟨yi_0 hL4, by rw [yt_0 hL4]⟩ (by rw [yt_0 hL4]) (show 0 < (n : Int) by omega) (by omega)) ?_
  rintro ⟨z, M6⟩ ⟨⟨uz0, uz1⟩, uo6⟩
  have z0 : 0 ≤ z := uz0
  have z1 : z < (n : Int) := uz1
  have o6 : Off (fun i => i = 0) M5 M6 := uo6
  obtain ⟨d, hd⟩ : ∃ d : Nat, 1 + z = (d : Int) := ⟨(1 + z).toNat, by omega⟩
  show Ok (ck (0 ≤ 1 + z ∧ 1 + z ≤ 8) (nb (nE E5) fun p115 => nb (eNew E5 (0, (1 + z).toNat)) fun E115 => _)) _
  rw [hd]
  refine ok_ck ⟨by omega, by omega⟩ ?_
  rw [Int.toNat_natCast]
  refine ok_nbx fun q hq => ok_nbx fun E7 hE7 => ok_nbx fun M7 hM7 => ?_
  rw [n4] at hq hM7
  subst hq
  have gw7 : Gw E5 E7 := by rw [hE7]; exact gw_new E5 _
  have n7 : nE E7 = 252 := by rw [hE7]; show nE E5 + 1 = 252; rw [n4]
  have t7 : tE E7 251 = (0, d) := by
    rw [hE7]
    show va_up E5.1.2.1 E5.1.1 (0, d) 251 = _
    rw [show E5.1.1 = 251 from n4, va_up_self]
  have hL7 : Lay E7 := by
    refine ⟨by omega, fun i hi => (gw7.2 i (by omega)).trans (hL4.2.1 i hi), fun i hi h5 h6 k hk => ?_⟩
    rw [hE7]
    show va_up E5.1.2.2 E5.1.1 (fun _ => none) i k = _
    rw [show E5.1.1 = 251 from n4, va_up_ne _ _ (by omega)]
    exact hL4.2.2 i hi h5 h6 k hk
  have e7 : ∀ i, 0 < i → i < 251 → M7 i = M5 i := fun i h1 h2 => by
    rw [hM7]
    show va_up M6 251 _ i = _
    rw [va_up_ne _ _ (by omega)]
    exact o6 i (by omega)
  obtain ⟨w, hw⟩ : ∃ w : Nat → Int, w = fun k => if k < n then M5 220 k else 0 := ⟨_, rfl⟩
  have wk : ∀ k, k < n → w k = M5 220 k := fun k hk => by rw [hw]; exact if_pos hk
  have w50 : ∀ k, 0 ≤ w k ∧ w k ≤ 50 := fun k => by
    by_cases c : k < n
    · rw [wk k c]
      have := (hW.2 k c).2.1
      omega
    · rw [hw]
      show 0 ≤ (if k < n then M5 220 k else 0) ∧ (if k < n then M5 220 k else 0) ≤ 50
      rw [if_neg c]
      decide
  have dw : DW M7 n d w := by
    refine ⟨⟨by rw [e7 219 (by decide) (by decide)]; exact hW.1, fun k hk => by rw [e7 220 (by decide) (by decide), wk k hk]⟩, fun x hx k hk => ?_, by omega, by omega, by omega, by omega, fun k => ⟨(w50 k).1, by have := (w50 k).2; omega⟩⟩
    rw [e7 (222 + x) (by omega) (by omega)]
    have h9 := hW.2 k hk
    rcases (show x = 0 ∨ x = 1 by omega) with e | e
    · subst e
      have := h9.2.2.1
      show 0 ≤ M5 222 k ∧ M5 222 k ≤ 1000
      omega
    · subst e
      have := h9.2.2.2
      show 0 ≤ M5 223 k ∧ M5 223 k ≤ 1000
      omega
  refine ok_bm (L93_ok (w := w) (d := d) hL7 (isA_up gw7 hq4) (by rw [gw7.2 250 hq4.1]; exact hl) ⟨by omega, by rw [t7]⟩ (by rw [t7]) (by decide) (by decide) (by decide) (by omega) (by omega) (by omega) (by omega) w50 (fun k hk => by rw [e7 250 (by decide) (by decide), (hW.2 k hk).1, wk k hk]) (fun i _ => by rw [hM7]; show va_up M6 251 (fun _ => 0) 251 i = 0; rw [va_up_self])) ?_
  rintro ⟨t, x5, q6, y7, E8, M8⟩ ⟨j1, j2, j3, j4, j5, j6, j7, j8⟩
  have k1 : t = 1 := j1
  have k2 : Gw E7 E8 := j2
  have k3 : Lay E8 := j3
  have k4 : isIA E8 q6 := j4
  have k5 : (tE E8 q6).2 = d := j5
  have k6 : 250 ≤ q6 := j6
  have k7 : ∀ i, i < 250 → M8 i = M7 i := j7
  have k8 : bestB M8 w n d x5 q6 (2 ^ (n - 1)) := j8
  subst k1
  have dw8 := dw.low k7
  obtain ⟨m1, b, m2, m3⟩ := best_eq dw8 k8
  have gE : Gw E E8 := gw_trans gw1 (gw_trans hG (gw_trans gw4 (gw_trans gw7 k2)))
  have wr := wT_range w n d 0
  refine ok_ck k2 (ok_ck k3 (ok_ck rfl (ok_ck k4 ?_)))
  refine ok_bm (greatestDistrict_ok dw8) ?_
  rintro ⟨r, M9⟩ ⟨u1, u2'⟩
  have v1 : r = wT w n d 0 := u1
  have v2 : Off dC M8 M9 := u2'
  refine ok_ck ⟨by omega, by omega⟩ (ok_ck ⟨by omega, by omega⟩ (ok_if (fun _ => ?_) (fun q => absurd (show r = x5 by omega) q)))
  refine ok_bm (L291_ok (b := b) k3 k4 k5 k6 (dw8.off v2) (fun i hi => by rw [v2 q6 (fun q => by have := q.2; omega)]; exact m2 i hi) m3) ?_
  rintro ⟨t, o7, o8, E9, M10⟩ ⟨s1, s2, s3, s4⟩
  have a1 : t = 1 := s1
  have a2 : o7 = 1 := s2
  have a3 : E9 = E8 := s3
  have a4 : Off dC M9 M10 := s4
  subst a1 a2 a3
  refine ok_ck (gw_self E9) (ok_ck k3 (ok_ck rfl (ok_ck (by decide) (ok_if (fun q => absurd q (by decide)) (fun _ => ?_)))))
  have dwA := (dw8.off v2).off a4
  refine ok_bm (districtsWon_ok (x := 0) dwA (by decide)) ?_
  rintro ⟨ra, MA⟩ ⟨ua1, pa, ua2, ua3⟩
  have oA : Off dC M10 MA := ua1
  have eA : ra = sN (fun i => if vt M10 pa (1 - 0) i < vt M10 pa 0 i then 1 else 0) d := ua3
  have dwB := dwA.off oA
  refine ok_bm (districtsWon_ok (x := 1) dwB (by decide)) ?_
  rintro ⟨rb, MB⟩ ⟨ub1, pb, ub2, ub3⟩
  have oB : Off dC MA MB := ub1
  have eB : rb = sN (fun i => if vt MA pb (1 - 1) i < vt MA pb 1 i then 1 else 0) d := ub3
  rw [show pb = pa from (m3 pb ub2).trans (m3 pa ua2).symm] at eB
  have ws := won_sum (p := pa) (d := d) oA
  rw [← eA, ← eB] at ws
  have dwC := dwB.off oB
  refine ok_ck (show rgI (ra + rb) from ⟨by omega, by omega⟩) (ok_ck (show rgI (d : Int) from ⟨by omega, by omega⟩) (ok_if (fun q => absurd (show (d : Int) < ra + rb from q) (by omega)) (fun _ => ?_)))
  refine ok_bm (wasted_ok (x := 0) dwC (by decide)) ?_
  rintro ⟨rc, MC⟩ ⟨uc1, uc2, uc3⟩
  have oC : Off dC MB MC := uc1
  have c2 : 0 ≤ rc := uc2
  have c3 : rc ≤ 1000000 := uc3
  refine ok_ck ⟨by omega, by omega⟩ (ok_if (fun q => absurd (show rc < 0 from q) (by omega)) (fun _ => ?_))
  refine ok_bm (wasted_ok (x := 1) (dwC.off oC) (by decide)) ?_
  rintro ⟨re, ME⟩ ⟨ue1, ue2, ue3⟩
  have d2 : 0 ≤ re := ue2
  have d3 : re ≤ 1000000 := ue3
  exact ok_ck ⟨by omega, by omega⟩ (ok_if (fun q => absurd (show re < 0 from q) (by omega)) (fun _ => ok_some ⟨rfl, gE⟩))
