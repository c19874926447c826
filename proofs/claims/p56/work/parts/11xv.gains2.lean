/-- what the false ballots may touch -/
def oGa (c : Nat) : Prop := c ≤ 52 ∨ (246 ≤ c ∧ c ≤ 248)
theorem oGa_Ba {M N : Mm} {m : Nat} (h : Off oBa M N) : Off (fun c => oGa c ∨ m ≤ c) M N := h.mono fun c hc => by unfold oBa at hc; unfold oGa; omega
theorem oGa_P2 {M N : Mm} {m : Nat} (h : Off oP2 M N) : Off (fun c => oGa c ∨ m ≤ c) M N := h.mono fun c hc => by unfold oP2 at hc; unfold oGa; omega
theorem plC_back {C : Nat → Int} {k : Nat} {x : Int} : plC (plC C k x) k (-x) = C := by
  funext i
  unfold plC
  by_cases e : i = k
  · rw [if_pos e, if_pos e]; omega
  · rw [if_neg e, if_neg e]
theorem tx_62 {o : Nat → Nat} {n : Nat} (h : Pm o n) (hn : n ≤ 5) (i : Nat) (hi : i < 2 * n - 1) : 1 ≤ tx o s62 i ∧ tx o s62 i ≤ 127 := by
  unfold tx
  by_cases e : i % 2 = 0
  · rw [if_pos e]
    have := h.1 (i / 2) (by omega)
    omega
  · rw [if_neg e]
    show 1 ≤ 62 ∧ 62 ≤ 127
    decide
/-- the ballot undone: the box as before -/
theorem undoBallot_ok {E : Ev} {M D : Mm} {n kk : Nat} {C : Nat → Int} {G : Nat → Nat} {R : Nat → Nat → Nat} {A : Nat → Nat} {g a : Nat} {r : Nat → Nat} {x1 : Int} (hR : Ring D) (h0 : D 1 11 ≠ 0) (hkk : kk < 30) (hs : sN C kk ≤ 1000000) (hC : ∀ k, k < kk → 0 ≤ C k) (h : (∃ j : Nat, j < kk ∧ BX D n kk (plC C j x1) G R A ∧ Rm M D 4 (j : Int) (C j)) ∨ (BX D n (kk + 1) (nw kk x1 C) (nw kk g G) (nw kk r R) (nw kk a A) ∧ Rm M D 3 (kk : Int) 0)) : Ok (f_B_undo E D) (fun y => Ring y.2 ∧ y.2 1 10 = (D 1 10 + 19) % 20 ∧ y.2 1 11 = D 1 11 - 1 ∧ Off (fun c => c = 1 ∨ c = 2 ∨ c = 5) D y.2 ∧ BX y.2 n kk C G R A ∧ y.2 2 1 = D 2 1) := by
  rcases h with ⟨j, hj, hB, m1, m2, m3, m4, m5, m6⟩ | ⟨hB, m1, m2, m3, m4, m5, m6⟩
  · refine (undo_ok hR h0 m3 m4 m5 (Or.inr ⟨rfl, j, rfl, by omega⟩)).mono ?_
    rintro ⟨y, N⟩ ⟨n1r, n2, n3r, n4r, n5⟩
    have n5 : ∀ c, c ≠ 1 → N c = u2 D 5 j (C j) c := fun c hc => by
      have := n5 c hc
      rw [if_neg (by decide), Int.toNat_natCast] at this
      exact this
    have hb := hB.cnt (j := j) (x := -x1) hj (by
      unfold plC
      rw [if_pos rfl]
      have := hC j hj
      omega) (by rw [plC_sum hj]; omega)
    have e : plC C j x1 j + -x1 = C j := by
      unfold plC
      rw [if_pos rfl]; omega
    rw [e, plC_back] at hb
    have oo : Off (fun c => c = 1) (u2 D 5 j (C j)) N := fun c hc => n5 c hc
    refine ⟨n1r, n3r, n4r, ?_, hb.off oo (by decide) (by decide) (by decide) (by decide) (fun k hk => by omega), ?_⟩
    · exact ((Off.refl.u2 (M := D) (S := fun c => c = 1 ∨ c = 2 ∨ c = 5) (Or.inr (Or.inr rfl))).trans (oo.mono fun c hc => Or.inl hc))
    · show N 2 1 = _
      rw [n5 2 (by decide), u2_ne (Or.inl (by decide))]
  · refine (undo_ok hR h0 m3 m4 m5 (Or.inl ⟨rfl, rgN (by omega)⟩)).mono ?_
    rintro ⟨y, N⟩ ⟨n1r, n2, n3r, n4r, n5⟩
    have n5 : ∀ c, c ≠ 1 → N c = u2 D 2 3 (kk : Int) c := fun c hc => by
      have := n5 c hc
      rw [if_pos rfl] at this
      exact this
    have oo : Off (fun c => c = 1) (u2 D 2 3 (kk : Int)) N := fun c hc => n5 c hc
    obtain ⟨b1, b2, b3, b4, b5, b6⟩ := hB
    have hb : BX (u2 D 2 3 (kk : Int)) n kk C G R A := by
      refine ⟨by rw [u2_ne (Or.inr (by decide))]; exact b1, b2, by rw [u2_at], by omega, fun k hk => ?_, hs⟩
      obtain ⟨r1, r2, r3⟩ := b5 k (by omega)
      rw [nw_ne (by omega), nw_ne (by omega), nw_ne (by omega)] at r1
      rw [nw_ne (by omega)] at r2
      exact ⟨r1.of (u2_ne (Or.inl (by decide))) (u2_ne (Or.inl (by decide))) (u2_row (by omega)), by rw [u2_ne (Or.inl (by decide))]; exact r2, hC k hk⟩
    refine ⟨n1r, n3r, n4r, ?_, hb.off oo (by decide) (by decide) (by decide) (by decide) (fun k hk => by omega), ?_⟩
    · exact ((Off.refl.u2 (M := D) (S := fun c => c = 1 ∨ c = 2 ∨ c = 5) (Or.inr (Or.inl rfl))).trans (oo.mono fun c hc => Or.inl hc))
    · show N 2 1 = _
      rw [n5 2 (by decide), u2_ne (Or.inr (by decide))]
theorem min20 {a : Int} (h : 0 ≤ a) : min (min (a + 1) 20 + 1) 20 - 1 ≠ 0 := by omega
theorem gains_ok {E : Ev} {M : Mm} {q1 n kk : Nat} {C : Nat → Int} {G : Nat → Nat} {R : Nat → Nat → Nat} {A : Nat → Nat} {lo : Nat → Int} (hL : Lay E) (hq1 : isO 12 E q1) (hq2 : 250 ≤ q1) (hq0 : M q1 0 = (n : Int)) (h : BX M n kk C G R A) (hl : LT M n lo) (hr : Ring M) (h21 : M 2 1 = 0) (hkk : kk < 30) (hs9 : sN C kk ≤ 999999) (hn2 : 2 ≤ n) (hn : n ≤ 5) : Ok (f_La_gains E M q1 0) (fun r => r.1 = 1 ∧ Ge E r.2.1 ∧ Lay r.2.1 ∧ BX r.2.2 n kk C G R A ∧ Off (fun c => oGa c ∨ nE E ≤ c) M r.2.2) := by
  have h250 := hL.1
  have hC : ∀ k, k < kk → 0 ≤ C k := fun k hk => (h.2.2.2.2.1 k hk).2.2
  unfold f_La_gains
  refine ok_ck hL (ok_ck hq1 (ok_ck ⟨yi_0 hL, by rw [yt_0 hL]⟩ (ok_bm (next_ok ⟨yi_0 hL, by rw [yt_0 hL]⟩ (by rw [yt_0 hL]) (by decide) (by decide)) ?_)))
  rintro ⟨way, A1⟩ ⟨⟨w0r, w5r⟩, a1r⟩
  have w0 : 0 ≤ way := w0r
  have w5 : way < 5 := w5r
  have a1 : Off (fun i => i = 0) M A1 := a1r
  have hA1 : BX A1 n kk C G R A := h.off a1 (by decide) (by decide) (by decide) (by decide) (fun k hk => by omega)
  have lA1 : LT A1 n lo := hl.off a1 (by decide)
  refine ok_bm (gain_ok hL hA1 lA1 hs9 hn2 hn w0 (by omega)) ?_
  rintro ⟨x, A2⟩ ⟨a2r, b0, hb0, hbb, hxr⟩
  have a2 : FKs A1 A2 := a2r
  have hA2 := hA1.fk a2
  have lA2 := lA1.fk a2
  have o2 : Off (fun c => oGa c ∨ nE E ≤ c) M A2 := (a1.mono fun c hc => by unfold oGa; omega).trans (a2.1.mono fun c hc => by unfold oFK at hc; unfold oGa; omega)
  rcases hxr with ⟨exr, -⟩ | ⟨k, o, exr, hf, hO, hP⟩
  · have ex : x = -1 := exr
    subst ex
    exact ok_ck (by decide) (ok_if (fun _ => ok_some ⟨rfl, Ge.refl E, hL, hA2, o2⟩) (fun z => absurd rfl z))
  have ex : x = (k : Int) := exr
  subst ex
  have hkf := hf.1
  have hCk := hf.2.1
  refine ok_ck (rgN (by omega)) (ok_if (fun z => by omega) (fun _ => ok_bm (winner_ok hL hA2 lA2 (by omega) w0 (by omega)) ?_))
  rintro ⟨y, A3⟩ ⟨a3r, b1, y1r, hb1, hbb1⟩
  have a3 : Off oP2 A2 A3 := a3r
  have ey : y = (b1 : Int) := y1r
  have eb := BB_unique hbb1 hbb
  subst ey
  subst eb
  have hA3 := hA2.o2 a3
  have lA3 : LT A3 n lo := lA2.off a3 (by unfold oP2; decide)
  have o3 : Off (fun c => oGa c ∨ nE E ≤ c) M A3 := o2.trans (oGa_P2 a3)
  refine ok_nb (ok_nb (ok_nb (ok_bm (sbInit_ok (tx o s62) hL) ?_)))
  rintro ⟨E5, A5⟩ ⟨e1r, e2r, e3r, e4r, e5r, e6r⟩
  have e1 : Gw (eNew E (114, 0)) E5 := e1r
  have e2 : Lay E5 := e2r
  have e3 : Ge E E5 := e3r
  have e4 : nE E5 = nE E + 2 := e4r
  have e5 : SBd E5 A5 (nE E) (nE E + 1) 0 (tx o s62) := e5r
  have e6 : Off (fun c => nE E ≤ c) A3 A5 := e6r
  have hA5 : BX A5 n kk C G R A := hA3.off e6 (by omega) (by omega) (by omega) (by omega) (fun k hk => by omega)
  have lA5 : LT A5 n lo := lA3.off e6 (by omega)
  have o5 : Off (fun c => oGa c ∨ nE E ≤ c) M A5 := o3.trans (e6.mono fun c hc => Or.inr hc)
  have q5 : isO 12 E5 q1 := ⟨by rw [e4]; have := hq1.1; omega, by rw [e3.1.2 q1 hq1.1]; exact hq1.2⟩
  have q50 : A5 q1 0 = (n : Int) := by rw [o5 q1 (by have := hq1.1; unfold oGa; have := hL.1; by_cases c : q1 ≤ 248 <;> omega)]; exact hq0
  refine ok_ck e1 (ok_ck e2 (ok_bm (gains40_ok e2 q5 hq2 (by exact hq1.1) q50 hA5 lA5 hs9 hn2 hn w0 (by omega) hbb hf hP e5) ?_))
  rintro ⟨t, x7, E6, A6⟩ ⟨g1, g2r, g3r, g4r, g5r, g6r⟩
  have g2 : E6 = E5 := g2r
  subst g2
  have g3 : Off (fun c => oFK c ∨ nE E ≤ c) A5 A6 := g3r
  have g4 : BX A6 n kk C G R A := g4r
  have g5 : LT A6 n lo := g5r
  have g6 : SBd E6 A6 (nE E) (nE E + 1) (2 * n - 1) (tx o s62) := g6r
  have o6 : Off (fun c => oGa c ∨ nE E ≤ c) M A6 := o5.trans (g3.mono fun c hc => by unfold oFK at hc; unfold oGa; omega)
  have k1 : ∀ c, c = 1 ∨ (246 ≤ c ∧ c ≤ 248) → A6 c = M c := fun c hc => by
    rw [g3 c (by unfold oFK; omega), e6 c (by omega), a3 c (by unfold oP2; omega), a2.1 c (by unfold oFK; omega), a1 c (by omega)]
  have k2 : A6 2 = M 2 := by rw [g3 2 (by unfold oFK; omega), e6 2 (by omega), a3 2 (by unfold oP2; omega), a2.1 2 (by unfold oFK; omega), a1 2 (by omega)]
  have hr6 : Ring A6 := hr.of (k1 1 (Or.inl rfl))
  refine ok_ck (gw_self E6) (ok_ck e2 (ok_ck g1 (ok_bm (takeBack_ok g4 hr6 hkf hCk) ?_)))
  rintro ⟨y, A7⟩ ⟨p1r, p2r, -, p4r, p5r, p6r⟩
  have p1 : Off oBa A6 A7 := p1r
  have p2 : Ring A7 := p2r
  have p4 : A7 2 = A6 2 := p4r
  have p5 : BX A7 n kk (plC C k (-1)) G R A := p5r
  have p6 : Rm A6 A7 4 (k : Int) (C k) := p6r
  have l7 : LT A7 n lo := g5.off p1 (by unfold oBa; decide)
  have s7 : SBd E6 A7 (nE E) (nE E + 1) (2 * n - 1) (tx o s62) := g6.off p1 (by unfold oBa; omega) (by unfold oBa; omega)
  refine ok_bm (toString_ok e2 s7 (by omega) (fun i hi => (tx_62 hP hn i hi).2)) ?_
  rintro ⟨q, E8, A8⟩ ⟨q1r, q2r, q3r, q4r, q5r⟩
  have eq : q = nE E6 := q1r
  have q2 : Ge E6 E8 := q2r
  have q3 : Lay E8 := q3r
  have q4 : STR E8 A8 q (2 * n - 1) (tx o s62) := q4r
  have q5' : Off (fun c => nE E6 ≤ c) A7 A8 := q5r
  rw [e4] at q5'
  have gE : Ge E E8 := e3.trans q2
  refine ok_ck q2.1 (ok_ck q3 (ok_ck q4.1 ?_))
  have r8 : ∀ c, c < 250 → A8 c = A7 c := fun c hc => q5' c (by omega)
  refine ok_bm (type_ok q4 (by omega) (fun i hi => tx_62 hP hn i hi) (by rw [r8 2 (by decide), p4, k2]; exact h21)) ?_
  rintro A9 ⟨t1, t2, t3, t4⟩
  have h8 : BX A8 n kk (plC C k (-1)) G R A := p5.off q5' (by omega) (by omega) (by omega) (by omega) (fun k hk => by omega)
  have h9 : BX A9 n kk (plC C k (-1)) G R A := by
    obtain ⟨b1', b2, b3, b4, b5, b6⟩ := h8
    refine ⟨by rw [t2 2 (by decide)]; exact b1', b2, by rw [t2 3 (by decide)]; exact b3, b4, fun k hk => ?_, b6⟩
    obtain ⟨r1, r2, r3⟩ := b5 k hk
    exact ⟨r1.of (by rw [t1 7 (by decide)]) (by rw [t1 6 (by decide)]) (t1 _ (by omega)), by rw [t1 5 (by decide)]; exact r2, r3⟩
  have z1 : ∀ c, c = 1 ∨ (246 ≤ c ∧ c ≤ 248) → A9 c = A7 c := fun c hc => by rw [t1 c (by omega), r8 c (by omega)]
  have l9 : LT A9 n lo := (l7.off q5' (by omega)).off t1 (by decide)
  have r9 : Ring A9 := p2.of (z1 1 (Or.inl rfl))
  have hsum : sN (plC C k (-1)) kk + 1 ≤ 1000000 := by rw [plC_sum hkf]; omega
  have o7 : Off (fun c => oGa c ∨ nE E ≤ c) M A7 := o6.trans (oGa_Ba p1)
  have o9 : Off (fun c => oGa c ∨ nE E ≤ c) M A9 := (o7.trans (q5'.mono fun c hc => by omega)).trans (t1.mono fun c hc => by unfold oGa; omega)
  refine ok_bm (ballots_ok q3 h9 r9 (WT_62 hP) t3 t4 (by decide) (by decide) hsum hkk) ?_
  rintro ⟨v, B1⟩ ⟨b1r, b2r, -, b4r, b5r⟩
  have b1' : Off oBa A9 B1 := b1r
  have b2 : Ring B1 := b2r
  have b4 : B1 2 1 = 0 := b4r
  have lB1 : LT B1 n lo := l9.off b1' (by unfold oBa; decide)
  have oB1 : Off (fun c => oGa c ∨ nE E ≤ c) M B1 := o9.trans (oGa_Ba b1')
  rw [wc_62, apv_62 hP (by omega)] at b5r
  obtain ⟨bh, hbh, hBh, hth⟩ := hf.2.2.2.1
  have hCm : ∀ i, i < kk → 0 ≤ plC C k (-1) i := fun i hi => by
    unfold plC
    by_cases e : i = k
    · rw [if_pos e, e]; omega
    · rw [if_neg e]; exact hC i hi
  have hv0 : 0 ≤ v ∧ v ≤ 30 := by
    rcases b5r with ⟨j, ejr, j1, -⟩ | ⟨ejr, -⟩
    · have ej : v = (j : Int) := ejr
      omega
    · have ej : v = (kk : Int) := ejr
      omega
  -- the winner with the false ballot
  have win : Ok (f_B_winner E8 B1 way) (fun r => Off oP2 B1 r.2 ∧ r.1 = (bh : Int)) := by
    rcases b5r with ⟨j, ejr, j1, j2, j3, j4, j5, -⟩ | ⟨ejr, j5, -⟩
    · refine (winner_ok q3 j5 lB1 (by omega) w0 (by omega)).mono ?_
      rintro ⟨r, N⟩ ⟨nr, b9, e9, hb9, hbb9⟩
      have pq := PQ_hit (C := C) (kk := kk) (G := G) (R := R) (A := A) hP (by omega) hkf (by omega) j1 j2 j3 (fun c hc => by rw [j4 c hc, wR_62 hP hc])
      have := BB_unique (BB_pq pq hbb9) hBh
      exact ⟨nr, by rw [← this]; exact e9⟩
    · refine (winner_ok q3 j5 lB1 (by omega) w0 (by omega)).mono ?_
      rintro ⟨r, N⟩ ⟨nr, b9, e9, hb9, hbb9⟩
      have pq := PQ_hit2 (C := C) (kk := kk) (G := G) (R := R) (A := A) (g := n) (a := 2 ^ o 0) (r := wRr o s62 n n) hP (by omega) hkf hkk rfl rfl (fun c hc => wR_62 hP hc)
      have := BB_unique (BB_pq pq hbb9) hBh
      exact ⟨nr, by rw [← this]; exact e9⟩
  refine ok_bm win ?_
  rintro ⟨x9, B2⟩ ⟨c1r, c2r⟩
  have c1' : Off oP2 B1 B2 := c1r
  have ex9 : x9 = (bh : Int) := c2r
  subst ex9
  have u1 : ∀ c, c = 1 ∨ (246 ≤ c ∧ c ≤ 248) → B2 c = B1 c := fun c hc => c1' c (by unfold oP2; omega)
  have oB2 : Off (fun c => oGa c ∨ nE E ≤ c) M B2 := oB1.trans (oGa_P2 c1')
  have rB2 : Ring B2 := b2.of (u1 1 (Or.inl rfl))
  have ring7 := p6
  obtain ⟨f1, f2, f3, f4, f5, f6⟩ := p6
  obtain ⟨ri1, ri2, ri3, ri4⟩ := hr6
  have hcase : (∃ j : Nat, j < kk ∧ BX B2 n kk (plC (plC C k (-1)) j 1) G R A ∧ Rm A9 B2 4 (j : Int) (plC C k (-1) j)) ∨ (BX B2 n (kk + 1) (nw kk 1 (plC C k (-1))) (nw kk n G) (nw kk (wRr o s62 n n) R) (nw kk (2 ^ o 0) A) ∧ Rm A9 B2 3 (kk : Int) 0) := by
    have e1' := u1 1 (Or.inl rfl)
    have e2' := u1 246 (Or.inr ⟨by decide, by decide⟩)
    have e3' := u1 247 (Or.inr ⟨by decide, by decide⟩)
    have e4' := u1 248 (Or.inr ⟨by decide, by decide⟩)
    rcases b5r with ⟨j, ejr, j1, j2, j3, j4, j5, j6⟩ | ⟨ejr, j5, j6⟩
    · exact Or.inl ⟨j, j1, j5.o2 c1', Rm.of (M := A9) (N := B1) j6 rfl rfl rfl rfl e1' e2' e3' e4'⟩
    · exact Or.inr ⟨BX.o2 j5 c1', Rm.of (M := A9) (N := B1) j6 rfl rfl rfl rfl e1' e2' e3' e4'⟩
  have rm2 : B2 1 10 = (A7 1 10 + 1) % 20 ∧ B2 1 11 = min (A7 1 11 + 1) 20 ∧ ∀ i, i ≠ (B2 1 10).toNat → B2 246 i = A7 246 i ∧ B2 247 i = A7 247 i ∧ B2 248 i = A7 248 i := by
    have e1' := z1 1 (Or.inl rfl)
    have e2' := z1 246 (Or.inr ⟨by decide, by decide⟩)
    have e3' := z1 247 (Or.inr ⟨by decide, by decide⟩)
    have e4' := z1 248 (Or.inr ⟨by decide, by decide⟩)
    rcases hcase with ⟨j, -, -, m1, m2, -, -, -, m6⟩ | ⟨-, m1, m2, -, -, -, m6⟩
    all_goals
      rw [e1'] at m1 m2
      rw [e2', e3', e4'] at m6
      exact ⟨m1, m2, m6⟩
  obtain ⟨rm1, rm3, rm4⟩ := rm2
  refine ok_bm (undoBallot_ok (M := A9) rB2 (by rw [rm3, f2]; omega) hkk (by rw [plC_sum hkf]; omega) hCm hcase) ?_
  rintro ⟨y8, B3⟩ ⟨d1r, d2r, d3r, d4r, d5r, d6r⟩
  have d1 : Ring B3 := d1r
  have d2 : B3 1 10 = (B2 1 10 + 19) % 20 := d2r
  have d3 : B3 1 11 = B2 1 11 - 1 := d3r
  have d4 : Off (fun c => c = 1 ∨ c = 2 ∨ c = 5) B2 B3 := d4r
  have d5 : BX B3 n kk (plC C k (-1)) G R A := d5r
  have e10 : B3 1 10 = A7 1 10 := by rw [d2, rm1, f1]; omega
  have ne10 : (A7 1 10).toNat ≠ (B2 1 10).toNat := by rw [rm1, f1]; omega
  obtain ⟨w1, w2, w3⟩ := rm4 _ ne10
  have v246 : B3 246 (B3 1 10).toNat = 4 := by rw [e10, d4 246 (by decide), w1]; exact f3
  have v247 : B3 247 (B3 1 10).toNat = (k : Int) := by rw [e10, d4 247 (by decide), w2]; exact f4
  have v248 : B3 248 (B3 1 10).toNat = C k := by rw [e10, d4 248 (by decide), w3]; exact f5
  refine ok_bm (undo_ok d1 (by rw [d3, rm3, f2]; exact min20 ri3) v246 v247 v248 (Or.inr ⟨rfl, k, rfl, by omega⟩)) ?_
  rintro ⟨y9, B4⟩ ⟨-, -, -, -, h5r⟩
  have h5 : ∀ c, c ≠ 1 → B4 c = u2 B3 5 k (C k) c := fun c hc => by
    have := h5r c hc
    rw [if_neg (by decide), Int.toNat_natCast] at this
    exact this
  have oo : Off (fun c => c = 1) (u2 B3 5 k (C k)) B4 := fun c hc => h5 c hc
  have hB4 : BX B4 n kk C G R A := by
    have hb := d5.cnt (j := k) (x := 1) hkf (by
      unfold plC
      rw [if_pos rfl]; omega) hsum
    have e : plC C k (-1) k + 1 = C k := by
      unfold plC
      rw [if_pos rfl]; omega
    have e2 : plC (plC C k (-1)) k 1 = C := plC_back (x := -1)
    rw [e, e2] at hb
    exact hb.off oo (by decide) (by decide) (by decide) (by decide) (fun k hk => by omega)
  have o34 : Off (fun c => c = 1 ∨ c = 2 ∨ c = 5) B3 B4 := (Off.refl.u2 (M := B3) (S := fun c => c = 1 ∨ c = 2 ∨ c = 5) (Or.inr (Or.inr rfl))).trans (oo.mono fun c hc => Or.inl hc)
  have oB4 : Off (fun c => oGa c ∨ nE E ≤ c) M B4 := (oB2.trans (d4.mono fun c hc => by unfold oGa; omega)).trans (o34.mono fun c hc => by unfold oGa; omega)
  have lB4 : LT B4 n lo := ((lB1.off c1' (by unfold oP2; decide)).off d4 (by decide)).off o34 (by decide)
  have hlt : R k bh < R k b1 := by
    unfold prf at hth
    rw [fS_tb _ hbh] at hth
    exact of_decide_eq_true hth
  refine ok_ck ⟨by omega, by omega⟩ (ok_if (fun z => by omega) (fun _ => ok_bm (kindAt_ok hB4 hkf hbh) ?_))
  rintro r1 rfl
  refine ok_bm (kindAt_ok hB4 hkf hb0) ?_
  rintro r2 rfl
  have rk1 := (hB4.2.2.2.2.1 k hkf).1
  have rkb := rk1.2.2.2.2.2.1 b1 hb0
  have rkG := rk1.2.2.1
  refine ok_ck (rgN (by omega)) (ok_ck (rgN (by omega)) (ok_if (fun z => by omega) (fun _ => ok_bm (winner_ok q3 hB4 lB4 (by omega) w0 (by omega)) ?_)))
  rintro ⟨r3, B5⟩ ⟨i1r, b9, e9r, hb9, hbb9⟩
  have i1 : Off oP2 B4 B5 := i1r
  have e9 : r3 = (b9 : Int) := e9r
  have e8 := BB_unique hbb9 hbb
  rw [e8] at e9
  subst e9
  exact ok_ck (rgN (by omega)) (ok_ck (rgN (by omega)) (ok_if (fun _ => ok_some ⟨rfl, gE, q3, hB4.o2 i1, oB4.trans (oGa_P2 i1)⟩) (fun z => absurd rfl z)))
