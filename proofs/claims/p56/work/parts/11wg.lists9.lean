/-! THE LAW'S LISTS: all -/
/-- a house without candidates, counts, members -/
def Bare (E : Ev) (M : Mm) : Prop := M 2 2 = 0 ∧ M 2 3 = 0 ∧ M 179 2 = 0 ∧ rE E 180 0 = none ∧ CS M 0 (fun _ => 0) (M 243 1)
theorem Bare.off {E : Ev} {M N : Mm} {S : Nat → Prop} (h : Bare E M) (ho : Off S M N) (h1 : ¬ S 2) (h2 : ¬ S 179) (h3 : ¬ S 243) (h4 : ¬ S 244) (h5 : ¬ S 245) : Bare E N := by
  obtain ⟨a, b, c, d, e⟩ := h
  exact ⟨by rw [ho 2 h1]; exact a, by rw [ho 2 h1]; exact b, by rw [ho 179 h2]; exact c, d, by rw [ho 243 h3]; exact e.off ho h3 h4 h5⟩
theorem j390_ok {E : Ev} {M : Mm} {n j g K : Nat} {r y : Int} (hL : Lay E) (hn1 : nE E = 251) (h1 : 1 ≤ n) (h : LwC M n j g K r) (hR : Ring M) (hB : Bare E M) (hg : g = if (∀ l, l < n → M 54 l = 0) then 0 else K) (hy : y = (g : Int)) : Ok (La_seats_j390 E M 0 (n : Int) r (K : Int) (g : Int) y (g : Int)) (fun w => w.1 = 1 ∧ Gw E w.2.1) := by
  have hSC := h
  obtain ⟨hS, hK, h250, hr0, hr5, hK1, hK60⟩ := h
  have h8 := hS.2.1
  have hg60 := hK.2.2.2.1
  have hi0 : isIA E 0 := ⟨yi_0 hL, by rw [yt_0 hL]⟩
  unfold La_seats_j390
  refine ok_ck hL (ok_ck hi0 (ok_ck ⟨by omega, by omega⟩ (ok_ck ⟨by omega, by omega⟩ (ok_if (fun _ => ?_) (fun q => absurd hy.symm q)))))
  rw [hn1, Int.toNat_natCast]
  refine ok_ck ⟨by omega, by omega⟩ (ok_nb (ok_nbx fun F hF => ok_nbx fun A hA => ?_))
  have gwF : Gw E F := by rw [hF]; exact gw_new E _
  have nF : nE F = 252 := by rw [hF]; show nE E + 1 = 252; omega
  have tF : tE F 251 = (0, n) := by
    rw [hF]
    show va_up E.1.2.1 E.1.1 (0, n) 251 = _
    rw [show E.1.1 = 251 from hn1, va_up_self]
  have rF : ∀ i k, i ≠ 251 → rE F i k = rE E i k := fun i k hi => by
    rw [hF]
    show va_up E.1.2.2 E.1.1 (fun _ => none) i k = _
    rw [show E.1.1 = 251 from hn1, va_up_ne _ _ hi]
    rfl
  have hLF : Lay F := ⟨by omega, fun i hi => (gwF.2 i (by omega)).trans (hL.2.1 i hi), fun i hi h5 h6 k hk => by rw [rF i k (by omega)]; exact hL.2.2 i hi h5 h6 k hk⟩
  have hqF : isIA F 251 := ⟨by omega, by rw [tF]⟩
  have hlF : (tE F 251).2 = n := by rw [tF]
  have hiF : isIA F 0 := ⟨yi_0 hLF, by rw [yt_0 hLF]⟩
  have oA : Off (fun c => c = 251) M A := fun c hc => by rw [hA]; exact va_up_ne _ _ hc
  have zA : ∀ l, A 251 l = 0 := fun l => by rw [hA]; show va_up M 251 (fun _ => 0) 251 l = 0; rw [va_up_self]
  have BA : Bare F A := by
    have := hB.off oA (by decide) (by decide) (by decide) (by decide) (by decide)
    exact ⟨this.1, this.2.1, this.2.2.1, by rw [rF 180 0 (by decide)]; exact this.2.2.2.1, this.2.2.2.2⟩
  have SA : LwC A n j g K r := ⟨hS.of (by rw [oA 53 (by decide)]) (oA 54 (by decide)) (oA 55 (by decide)) (oA 56 (by decide)), by rw [oA 54 (by decide), oA 55 (by decide)]; exact hK.off oA (by rw [oA 53 (by decide)]) (fun c q1 q2 q3 => by omega), fun k hk => by rw [oA 250 (by decide), oA 54 (by decide), oA 55 (by decide)]; exact h250 k hk, hr0, hr5, hK1, hK60⟩
  refine ok_bm (l410_ok (x7 := (K : Int)) (x11 := 1) hLF hqF hlF (by decide) SA zA) ?_
  rintro ⟨t, x, F2, B⟩ ⟨g1r, g2r, g3r, g4r⟩
  have g1 : t = 1 := g1r
  have g2 : F2 = F := g2r
  have g3 : Off (fun c => c = 251) A B := g3r
  have g4 : ∀ l, l < n → B 251 l = A (74 + 5 * j + 2) l := g4r
  subst g1 g2
  have hj := hK.1
  have SB : LiS B n := SA.1.of (by rw [g3 53 (by decide)]) (g3 54 (by decide)) (g3 55 (by decide)) (g3 56 (by decide))
  have KB : KpS B j (A 54) (A 55) n g K r := SA.2.1.off g3 (by rw [g3 53 (by decide)]) (fun c q1 q2 q3 => by omega)
  refine ok_ck (gw_self F2) (ok_ck hLF (ok_ck rfl (ok_bm (l441_ok (x7 := (K : Int)) (x9 := (g : Int)) (r := r) hLF hqF hlF SB KB (fun l hl => by rw [g4 l hl, g3 _ (by omega)])) ?_)))
  rintro ⟨t, y2, x, F3, C⟩ ⟨i1r, i2r, i3r, i4r⟩
  have i1 : t = 1 := i1r
  have i2 : y2 = 1 := i2r
  have i3 : F3 = F2 := i3r
  have i4 : C = B := i4r
  subst i1 i2 i3 i4
  refine ok_ck (gw_self F3) (ok_ck hLF (ok_ck rfl (ok_bm (next_ok hiF (by rw [yt_0 hLF]) (show 0 < (n : Int) by omega) (by omega)) ?_)))
  rintro ⟨a, D⟩ ⟨⟨a0r, a1r⟩, d1r⟩
  have a0 : 0 ≤ a := a0r
  have a1 : a < (n : Int) := a1r
  have d1 : Off (fun c => c = 0) C D := d1r
  refine ok_bm (next_ok hiF (by rw [yt_0 hLF]) (show 0 < (n : Int) by omega) (by omega)) ?_
  rintro ⟨b, D2⟩ ⟨⟨b0r, b1r⟩, d2r⟩
  have b0 : 0 ≤ b := b0r
  have b1 : b < (n : Int) := b1r
  have d2 : Off (fun c => c = 0) D D2 := d2r
  obtain ⟨la, hla⟩ : ∃ la : Nat, a = (la : Int) := ⟨a.toNat, by omega⟩
  obtain ⟨lb, hlb⟩ : ∃ lb : Nat, b = (lb : Int) := ⟨b.toNat, by omega⟩
  subst hla hlb
  have d12 : Off (fun c => c = 0) C D2 := d1.trans d2
  have SD : LiS D2 n := SB.of (by rw [d12 53 (by decide)]) (d12 54 (by decide)) (d12 55 (by decide)) (d12 56 (by decide))
  have RD2 : Ring D2 := hR.of ((d12 1 (by decide)).trans ((g3 1 (by decide)).trans (oA 1 (by decide))))
  refine ok_bm (ally_ok SD (by omega) RD2) ?_
  rintro ⟨x1, G⟩ ⟨p1r, p2, p3⟩
  have p1 : Off (fun c => c = 1 ∨ c = 55 ∨ (246 ≤ c ∧ c ≤ 248)) D2 G := p1r
  refine ok_bm (ally_ok p3 (show lb < n by omega) p2) ?_
  rintro ⟨x2, H⟩ ⟨q1r, q2r, q3r⟩
  have q1 : Off (fun c => c = 1 ∨ c = 55 ∨ (246 ≤ c ∧ c ≤ 248)) G H := q1r
  have q2 : Ring H := q2r
  have q3 : LiS H n := q3r
  have oH : Off (fun c => c = 0 ∨ c = 1 ∨ c = 55 ∨ (246 ≤ c ∧ c ≤ 248) ∨ c = 251) M H := (oA.mono (fun c hc => by omega)).trans ((g3.mono (fun c hc => by omega)).trans ((d12.mono (fun c hc => by omega)).trans ((p1.mono (fun c hc => by omega)).trans (q1.mono (fun c hc => by omega)))))
  refine ok_bm (seats_call (j := j) hLF q3 q2 hr0 hr5 hK1 hK60 hj (by rw [oH 53 (by omega)]; exact hK.2.1)) ?_
  rintro ⟨x3, P⟩ ⟨m2, gg, j2, s1, s2, s3, s4, s5, s6r, s7, s8r, s9r⟩
  have s6 : Off oSe H P := s6r
  have s8 : LiS P n := s8r
  have s9 : KpS P j2 (H 54) (H 55) n gg K r := s9r
  refine ok_bm (l527_ok (x9 := (g : Int)) (x11 := 1) hLF s8 s9) ?_
  rintro ⟨t, w17, x, F4, U⟩ ⟨e1r, e2r, e3r, e4r⟩
  have e1 : t = 1 := e1r
  have e2 : w17 = (gg : Int) := e2r
  have e3 : F4 = F3 := e3r
  have e4 : U = P := e4r
  subst e1 e2 e3 e4
  have egg : gg = g := by
    rw [hg]
    by_cases c : ∀ l, l < n → M 54 l = 0
    · rw [if_pos c]
      exact s3 (s5.mpr (fun l hl => by rw [oH 54 (by omega)]; exact c l hl))
    · rw [if_neg c]
      exact s4 (fun q => c (fun l hl => by rw [← oH 54 (by omega)]; exact s5.mp q l hl))
  have gg60 := s9.2.2.2.1
  refine ok_ck (gw_self F4) (ok_ck hLF (ok_ck rfl (ok_ck (by decide) (ok_if (fun d => absurd d (by decide)) (fun _ => ?_)))))
  show Ok (ck (rgJ (gg : Int)) (ck (rgJ (g : Int)) (if (gg : Int) = (g : Int) then _ else _))) _
  refine ok_ck ⟨by omega, by omega⟩ (ok_ck ⟨by omega, by omega⟩ (ok_if (fun _ => ?_) (fun d => absurd (by rw [egg]) d)))
  have BU : Bare F4 U := by
    have b1 := BA.off g3 (by decide) (by decide) (by decide) (by decide) (by decide)
    have b2 := b1.off d12 (by decide) (by decide) (by decide) (by decide) (by decide)
    have b3 := b2.off p1 (by decide) (by decide) (by decide) (by decide) (by decide)
    have b4 := b3.off q1 (by decide) (by decide) (by decide) (by decide) (by decide)
    exact b4.off s6 (by unfold oSe; decide) (by unfold oSe; decide) (by unfold oSe; decide) (by unfold oSe; decide) (by unfold oSe; decide)
  refine ok_bm (errors0_ok (n := n) (g := gg) (K := K) (j := j2) (r := r) hLF s8 (by rw [s6 54 (by unfold oSe; decide), s6 55 (by unfold oSe; decide)]; exact s9) BU.1 BU.2.1 BU.2.2.1 BU.2.2.2.1 BU.2.2.2.2) ?_
  rintro ⟨z, V⟩ hzr
  have hz : z = 0 := hzr
  subst hz
  exact ok_ck (by decide) (ok_if (fun _ => ok_some ⟨rfl, gwF⟩) (fun d => absurd rfl d))
/-- the law's lists answer 1, whatever was drawn -/
theorem seats_ok {E : Ev} {M : Mm} (hE : nE E = 1) (hD : Desc (eNew E (111, 0)) kc0) (h0 : isIA E 0) : Ok (f_La_seats E M 0) (fun r => r.1 = 1 ∧ Gw E r.2.1) := by
  unfold f_La_seats
  refine ok_ck h0 ?_
  refine ok_nbx fun p1 hp1 => ok_nbx fun E1 hE1 => ok_nbx fun M1 hM1 => ?_
  rw [hE] at hp1 hM1
  subst hp1
  rw [← hE1] at hD
  have gw1 : Gw E E1 := by rw [hE1]; exact gw_new E _
  refine ok_bm (ctor_ok hD (by rw [hM1]; exact va_up_self _ _ _)) ?_
  rintro ⟨E2, M2⟩ ⟨D2r, -, z2r, z243r⟩
  have D2 : Desc E2 kc85 := D2r
  have z2 : ∀ i, 0 < i → i < 250 → i ≠ 243 → M2 i = fun _ => 0 := z2r
  have z243 : M2 243 = va_up (fun _ => 0) 1 1 := z243r
  have hG : Gw E1 E2 := hD.gw2 D2 (by decide +kernel)
  obtain ⟨hL, hn, hr180, -⟩ := lay_of D2
  refine ok_ck hG (ok_ck ⟨hL, rfl⟩ ?_)
  refine ok_bm (next_ok ⟨yi_0 hL, by rw [yt_0 hL]⟩ (by rw [yt_0 hL]) (by decide) (by decide)) ?_
  rintro ⟨x, M3⟩ ⟨⟨x0r, x7r⟩, o3r⟩
  have x0 : 0 ≤ x := x0r
  have x7 : x < 8 := x7r
  have o3 : Off (fun i => i = 0) M2 M3 := o3r
  obtain ⟨n, hxn⟩ : ∃ n : Nat, 1 + x = (n : Int) := ⟨(1 + x).toNat, by omega⟩
  show Ok (ck (0 ≤ 1 + x ∧ 1 + x ≤ 64) (nb (nE E2) fun p104 => nb (eNew E2 (0, (1 + x).toNat)) fun E104 => _)) _
  rw [hxn]
  refine ok_ck ⟨by omega, by omega⟩ ?_
  rw [Int.toNat_natCast]
  refine ok_nbx fun q hq => ok_nbx fun E4 hE4 => ok_nbx fun M4 hM4 => ?_
  rw [hn] at hq hM4
  subst hq
  have gw4 : Gw E2 E4 := by rw [hE4]; exact gw_new E2 _
  have n4 : nE E4 = 251 := by rw [hE4]; show nE E2 + 1 = 251; rw [hn]
  have t4 : tE E4 250 = (0, n) := by
    rw [hE4]
    show va_up E2.1.2.1 E2.1.1 (0, n) 250 = _
    rw [show E2.1.1 = 250 from hn, va_up_self]
  have r4 : ∀ i k, i ≠ 250 → rE E4 i k = rE E2 i k := fun i k hi => by
    rw [hE4]
    show va_up E2.1.2.2 E2.1.1 (fun _ => none) i k = _
    rw [show E2.1.1 = 250 from hn, va_up_ne _ _ hi]
    rfl
  have hL4 : Lay E4 := ⟨by omega, fun i hi => (gw4.2 i (by omega)).trans (hL.2.1 i hi), fun i hi h5 h6 k hk => by rw [r4 i k (by omega)]; exact hL.2.2 i hi h5 h6 k hk⟩
  have hq4 : isIA E4 250 := ⟨by omega, by rw [t4]⟩
  have hl : (tE E4 250).2 = n := by rw [t4]
  have hi4 : isIA E4 0 := ⟨yi_0 hL4, by rw [yt_0 hL4]⟩
  have e4 : ∀ i, 0 < i → i < 250 → M4 i = M2 i := fun i h1 h2 => by
    rw [hM4]
    show va_up M3 250 _ i = _
    rw [va_up_ne _ _ (by omega)]
    exact o3 i (by omega)
  have z4 : ∀ i k, 0 < i → i < 250 → i ≠ 243 → M4 i k = 0 := fun i k h1 h2 h3 => by rw [e4 i h1 h2, z2 i h1 h2 h3]
  have hB4 : Bare E4 M4 := ⟨z4 2 2 (by decide) (by decide) (by decide), z4 2 3 (by decide) (by decide) (by decide), z4 179 2 (by decide) (by decide) (by decide), by rw [r4 180 0 (by decide)]; exact hr180 0, by rw [e4 243 (by decide) (by decide), z243]; exact va_up_ne _ _ (by decide), rfl, fun k hk => absurd hk (Nat.not_lt_zero k), z4 245 0 (by decide) (by decide) (by decide)⟩
  have hR4 : Ring M4 := by
    unfold Ring
    rw [z4 1 10 (by decide) (by decide) (by decide), z4 1 11 (by decide) (by decide) (by decide)]
    decide
  refine ok_bm (l27_ok hL4 hq4 hl (by omega) ⟨z4 53 0 (by decide) (by decide) (by decide), by decide, fun k hk => absurd hk (Nat.not_lt_zero k)⟩ hR4) ?_
  rintro ⟨t, all, x6, E5, M5⟩ ⟨i1, i2, i3r⟩
  have g1 : t = 1 := i1
  have g2 : E5 = E4 := i2
  have i3 : LwI M4 M5 n all := i3r
  subst g1 g2
  obtain ⟨s1, s2, s3, s4, s5, s6⟩ := i3
  have B5 : Bare E5 M5 := hB4.off s5 (by unfold oLs; decide) (by unfold oLs; decide) (by unfold oLs; decide) (by unfold oLs; decide) (by unfold oLs; decide)
  refine ok_ck (gw_self E5) (ok_ck hL4 (ok_ck rfl ?_))
  refine ok_bm (next_ok hi4 (by rw [yt_0 hL4]) (by decide) (by decide)) ?_
  rintro ⟨r, M6⟩ ⟨⟨r0r, r6r⟩, o6r⟩
  have r0 : 0 ≤ r := r0r
  have r6 : r < 6 := r6r
  have o6 : Off (fun i => i = 0) M5 M6 := o6r
  refine ok_bm (next_ok hi4 (by rw [yt_0 hL4]) (by decide) (by decide)) ?_
  rintro ⟨y, M7⟩ ⟨⟨y0r, y60r⟩, o7r⟩
  have y0 : 0 ≤ y := y0r
  have y60 : y < 60 := y60r
  have o7 : Off (fun i => i = 0) M6 M7 := o7r
  obtain ⟨K, hyK⟩ : ∃ K : Nat, 1 + y = (K : Int) := ⟨(1 + y).toNat, by omega⟩
  show Ok ((f_B_seats E5 M7 r (1 + y) 0).bind _) _
  rw [hyK]
  have o57 : Off (fun i => i = 0) M5 M7 := o6.trans o7
  have S7 : LiS M7 n := s1.of (by rw [o57 53 (by decide)]) (o57 54 (by decide)) (o57 55 (by decide)) (o57 56 (by decide))
  refine ok_bm (seats_call (j := 0) hL4 S7 (s4.of (o57 1 (by decide))) r0 (by omega) (by omega) (by omega) (by decide) (by rw [o57 53 (by decide), s6 10 (by decide)]; exact z4 53 10 (by decide) (by decide) (by decide))) ?_
  rintro ⟨un, M8⟩ ⟨m, g, j2, k1r, k2, k3, k4, k5, k6r, k7r, k8r, k9r⟩
  have k1 : un = (m : Int) := k1r
  have k6 : Off oSe M7 M8 := k6r
  have k7 : Ring M8 := k7r
  have k8 : LiS M8 n := k8r
  have k9 : KpS M8 j2 (M7 54) (M7 55) n g K r := k9r
  have e54 : M8 54 = M7 54 := k6 54 (by unfold oSe; decide)
  have e55 : M8 55 = M7 55 := k6 55 (by unfold oSe; decide)
  have f54 : M7 54 = M5 54 := o57 54 (by decide)
  have f55 : M7 55 = M5 55 := o57 55 (by decide)
  have f250 : M8 250 = M5 250 := (k6 250 (by unfold oSe; decide)).trans (o57 250 (by decide))
  have C8 : LwC M8 n j2 g K r := ⟨k8, by rw [e54, e55]; exact k9, fun k hk => by rw [f250, e54, e55, f54, f55]; exact s3 k hk, r0, by omega, by omega, by omega⟩
  have B8 : Bare E5 M8 := (B5.off o57 (by decide) (by decide) (by decide) (by decide) (by decide)).off k6 (by unfold oSe; decide) (by unfold oSe; decide) (by unfold oSe; decide) (by unfold oSe; decide) (by unfold oSe; decide)
  have eall : all = sN (M8 54) n := by rw [s2, e54, f54]
  subst eall
  refine ok_bm (l151_ok (x8 := un) hL4 hq4 hl C8) ?_
  rintro ⟨t, giv, okk, x12, E9, M9⟩ ⟨v1r, v2r, v3r, v4r, v5r⟩
  have v1 : t = 1 := v1r
  have v2 : giv = (g : Int) := v2r
  have v3 : okk = 1 := v3r
  have v4 : E9 = E5 := v4r
  have v5 : M9 = M8 := v5r
  subst v1 v2 v3 v4 v5
  refine ok_ck (gw_self E9) (ok_ck hL4 (ok_ck rfl (ok_ck (by decide) (ok_if (fun d => absurd d (by decide)) (fun _ => ?_)))))
  have gE : Gw E E9 := gw_trans gw1 (gw_trans hG gw4)
  have hgg : g = if (∀ l, l < n → M9 54 l = 0) then 0 else K := by
    by_cases c : ∀ l, l < n → M9 54 l = 0
    · rw [if_pos c]
      exact k3 (k5.mpr (fun l hl => by rw [← e54]; exact c l hl))
    · rw [if_neg c]
      exact k4 (fun q => c (fun l hl => by rw [e54]; exact k5.mp q l hl))
  show Ok (ck (rgI un) (if un = 0 then La_seats_j390 E9 M9 0 (n : Int) r (K : Int) (g : Int) 0 (g : Int) else La_seats_j390 E9 M9 0 (n : Int) r (K : Int) (g : Int) (K : Int) (g : Int))) _
  refine ok_ck ⟨by omega, by omega⟩ (ok_if (fun d => ?_) (fun d => ?_))
  · refine (j390_ok hL4 n4 (by omega) C8 k7 B8 hgg ?_).mono (fun w hw => ⟨hw.1, gw_trans gE hw.2⟩)
    rw [k3 (by omega)]; rfl
  · refine (j390_ok hL4 n4 (by omega) C8 k7 B8 hgg ?_).mono (fun w hw => ⟨hw.1, gw_trans gE hw.2⟩)
    rw [k4 (by omega)]
