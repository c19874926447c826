theorem LZ.off {E : Ev} {M N : Mm} {q kk : Nat} {S : Nat → Prop} (h : LZ E M q kk) (ho : Off S M N) (hS : ∀ pm, rE E q 2 = some pm → ¬ S pm) : LZ E N q kk := by
  obtain ⟨pm, h1, h2⟩ := h
  exact ⟨pm, h1, fun k a b => by rw [ho pm (hS pm h1)]; exact h2 k a b⟩
theorem LZ.ge {E F : Ev} {M : Mm} {q kk : Nat} (h : LZ E M q kk) (hg : Ge E F) (h1 : 182 ≤ q) (h2 : q < nE E) : LZ F M q kk := by
  obtain ⟨pm, a, b⟩ := h
  exact ⟨pm, by rw [hg.2 q (Nat.zero_le q) h2]; exact a, b⟩
theorem j89_ok {E0 E : Ev} {M0 M : Mm} {q1 q3 q4 n kk kw : Nat} {C : Nat → Int} {G : Nat → Nat} {R : Nat → Nat → Nat} {A : Nat → Nat} {o : Nat → Nat} (hE : Gz E0 E) (hM : Off oLw M0 M) (hL : Lay E) (hB : BX M n kk C G R A) (hLB : LB E M q1 n kk C G R) (hz : LZ E M q1 kk) (hr : Ring M) (h21 : M 2 1 = 0) (hk : kk ≤ 10) (hs : sN C kk ≤ 100000) (hn : n ≤ 5) (hkw : kw ≤ n) (hq3 : isIA E q3) (hq30 : 250 ≤ q3) (hq32 : (tE E q3).2 = n) (hq4 : isIA E q4) (h34 : q3 < q4) (hq42 : (tE E q4).2 = n) (hP : Pm o n) (h4 : ∀ i, i < n → M q4 i = (o i : Int)) (h9 : ∀ c, c < n → M q3 c = 9) (hpm : ∀ pm, rE E q1 2 = some pm → pm < nE E) (hq13 : ∀ pm, rE E q1 2 = some pm → pm ≠ q3) (hLq : ∀ c, c = q3 → ∀ N : Mm, Off (fun i => i = c) M N → LB E N q1 n kk C G R) : Ok (La_ballots_j89 E M q1 0 q3 q4 (kw : Int)) (LW E0 M0 q1 n kk (sN C kk)) := by
  have h250 := hL.1
  have a1 := hLB.1
  have hq3n := hq3.1
  have hq4n := hq4.1
  unfold La_ballots_j89
  refine ok_ck hL (ok_ck a1 (ok_ck ⟨yi_0 hL, by rw [yt_0 hL]⟩ (ok_ck hq3 (ok_ck hq4 (ok_nb (ok_nb (ok_nb (ok_bm (sbInit_ok (tx o s62) hL) ?_))))))))
  rintro ⟨E5, A5⟩ ⟨e1r, e2r, e3r, e4r, e5r, e6r⟩
  have e1 : Gw (eNew E (114, 0)) E5 := e1r
  have e2 : Lay E5 := e2r
  have e3 : Ge E E5 := e3r
  have e4 : nE E5 = nE E + 2 := e4r
  have e5 : SBd E5 A5 (nE E) (nE E + 1) 0 (tx o s62) := e5r
  have e6 : Off (fun c => nE E ≤ c) M A5 := e6r
  have up : ∀ {i}, i < nE E → i < nE E5 ∧ tE E5 i = tE E i := fun hi => ⟨by omega, e3.1.2 _ hi⟩
  have q1F : isO 12 E5 q1 := ⟨(up a1.1).1, by rw [(up a1.1).2]; exact a1.2⟩
  have q3F : isIA E5 q3 := ⟨(up hq3n).1, by rw [(up hq3n).2]; exact hq3.2⟩
  have q4F : isIA E5 q4 := ⟨(up hq4n).1, by rw [(up hq4n).2]; exact hq4.2⟩
  have t3 : (tE E5 q3).2 = n := by rw [(up hq3n).2]; exact hq32
  have t4 : (tE E5 q4).2 = n := by rw [(up hq4n).2]; exact hq42
  refine ok_ck e1 (ok_ck e2 (ok_bm (draw109_ok e2 q1F q3F q4F hq30 h34 hq4n t3 t4 hn hP hkw e5 (fun c hc => by rw [e6 q3 (by omega)]; exact h9 c hc) (fun j hj => by rw [e6 q4 (by omega)]; exact h4 j hj)) ?_))
  rintro ⟨t, x7, x8, x9, E6, A6⟩ ⟨g1, g2r, g3r, sp, g4r, dSr, dWr, d1r, d2r, d4r⟩
  have g2 : E6 = E5 := g2r
  subst g2
  have g3 : Off (fun c => c = 0 ∨ c = q3 ∨ c = nE E ∨ c = nE E + 1) A5 A6 := g3r
  have g4 : x7 = (wr sp (kw - 1) : Int) := g4r
  subst g4
  have dS : SBd E6 A6 (nE E) (nE E + 1) (2 * kw - 1) (tx o sp) := dSr
  have hk127 : ∀ i, i < 2 * kw - 1 → 1 ≤ tx o sp i ∧ tx o sp i ≤ 127 := fun i hi => by
    unfold tx
    by_cases e : i % 2 = 0
    · rw [if_pos e]
      have := hP.1 (i / 2) (by omega)
      omega
    · rw [if_neg e]
      rcases dWr.2.2.2 (i / 2) (by omega) with q | q | ⟨q, -⟩ <;> rw [q] <;> decide
  refine ok_ck (gw_self E6) (ok_ck e2 (ok_ck g1 (ok_bm (toString_ok e2 dS (by omega) (fun i hi => (hk127 i hi).2)) ?_)))
  rintro ⟨q, E8, A8⟩ ⟨q1r, q2r, q3r, q4r, q5r⟩
  have q2 : Ge E6 E8 := q2r
  have q3' : Lay E8 := q3r
  have q4' : STR E8 A8 q (2 * kw - 1) (tx o sp) := q4r
  have q5 : Off (fun c => nE E6 ≤ c) A6 A8 := q5r
  rw [e4] at q5
  have gE : Ge E E8 := e3.trans q2
  have lo8 : ∀ c, c < nE E → c ≠ 0 → c ≠ q3 → A8 c = M c := fun c h1 h2 h3 => by
    rw [q5 c (by omega), g3 c (by omega), e6 c (by omega)]
  refine ok_ck q2.1 (ok_ck q3' (ok_ck q4'.1 (ok_bm (type_ok q4' (by omega) hk127 (by rw [lo8 2 (by omega) (by decide) (by omega)]; exact h21)) ?_)))
  rintro A9 ⟨t1, t2, t3', t4'⟩
  have up8 : ∀ {i}, i < nE E → i < nE E8 ∧ tE E8 i = tE E i := fun hi => ⟨Nat.lt_of_lt_of_le hi gE.1.1, gE.1.2 _ hi⟩
  refine ok_bm (next_ok ⟨yi_0 q3', by rw [yt_0 q3']⟩ (by rw [yt_0 q3']) (by decide) (by decide)) ?_
  rintro ⟨y, B⟩ ⟨⟨y1r, y2r⟩, br⟩
  have y1 : 0 ≤ y := y1r
  have y2 : y < 3 := y2r
  have b1 : Off (fun c => c = 0) A9 B := br
  have lo9 : ∀ c, c < nE E → c ≠ 0 → c ≠ 2 → c ≠ 3 → c ≠ q3 → B c = M c := fun c h1 h2 h3 h4 h5 => by
    rw [b1 c h2, t1 c (by omega), lo8 c h1 h2 h5]
  have B3 : B 3 = A9 3 := b1 3 (by decide)
  have B2 : B 2 = A9 2 := b1 2 (by decide)
  have Bq3 : ∀ c, B q3 c = A6 q3 c := fun c => by rw [b1 q3 (by omega), t1 q3 (by omega), q5 q3 (by omega)]
  have oB : Off oLw M0 B := by
    have o1 : Off oLw M A5 := e6.mono fun c hc => Or.inr (Or.inr (Or.inr (by omega)))
    have o2 : Off oLw A5 A6 := g3.mono fun c hc => by unfold oLw; omega
    have o3 : Off oLw A6 A8 := q5.mono fun c hc => Or.inr (Or.inr (Or.inr (by omega)))
    have o4 : Off oLw A8 A9 := t1.mono fun c hc => by unfold oLw oBa; omega
    have o5 : Off oLw A9 B := b1.mono fun c hc => Or.inl hc
    exact hM.trans (o1.trans (o2.trans (o3.trans (o4.trans o5))))
  have hBB : BX B n kk C G R A := by
    obtain ⟨c1', c2, c3, c4, c5, c6⟩ := hB
    refine ⟨by rw [B2, t2 2 (by decide), lo8 2 (by omega) (by decide) (by omega)]; exact c1', c2, by rw [B2, t2 3 (by decide), lo8 2 (by omega) (by decide) (by omega)]; exact c3, c4, fun k hk => ?_, c6⟩
    obtain ⟨r1, r2, r3⟩ := c5 k hk
    exact ⟨r1.of (by rw [lo9 7 (by omega) (by decide) (by decide) (by decide) (by omega)]) (by rw [lo9 6 (by omega) (by decide) (by decide) (by decide) (by omega)]) (lo9 _ (by omega) (by omega) (by omega) (by omega) (by omega)), by rw [lo9 5 (by omega) (by decide) (by decide) (by decide) (by omega)]; exact r2, r3⟩
  -- the box of the law's own: an M that differs in q3 alone, then what lies behind
  have hLBB : LB E8 B q1 n kk C G R := by
    have l1 : LB E (fun c => if c = q3 then B c else M c) q1 n kk C G R := hLq q3 rfl _ (fun c hc => by
      show (if c = q3 then B c else M c) = M c
      rw [if_neg hc])
    have l2 : LB E B q1 n kk C G R := l1.off (S := fun c => c < 250 ∨ nE E ≤ c) (fun c hc => by
      show B c = (if c = q3 then B c else M c)
      by_cases e : c = q3
      · rw [if_pos e]
      · rw [if_neg e]; exact lo9 c (by omega) (by omega) (by omega) (by omega) e) (fun c h1 h2 => by omega)
    exact l2.ge gE
  have hzB : LZ E8 B q1 kk := by
    obtain ⟨pm, z1, z2⟩ := hz
    have p1 := hpm pm z1
    have p2 := hq13 pm z1
    have p3 : 250 ≤ pm := by
      obtain ⟨-, -, -, -, -, pr, pm', -, -, -, -, b5, -, -, b8, -⟩ := hLB
      rw [z1] at b5
      rw [Option.some.inj b5]; exact b8
    exact ⟨pm, by rw [gE.2 q1 (by have := hLB.2.1; omega) a1.1]; exact z1, fun k h1 h2 => by rw [lo9 pm p1 (by omega) (by omega) (by omega) p2]; exact z2 k h1 h2⟩
  have j265 : ∀ y0 : Int, 0 < y0 → y0 ≤ 900 → Ok (La_ballots_j265 E8 B q1 q3 (kw : Int) (wr sp (kw - 1) : Int) y0 0 1) (LW E0 M0 q1 n kk (sN C kk)) := fun y0 h1 h2 =>
    j265_ok (o := o) (hE.trans (Gz.ge hL.1 gE)) oB q3' hBB hLBB hzB (hr.of (lo9 1 (by omega) (by decide) (by decide) (by decide) (by omega))) hk hs hn h1 h2 dWr (by rw [B2]; exact t3') (fun i hi => by rw [B3]; exact t4' i hi) ⟨(up8 hq3n).1, by rw [(up8 hq3n).2]; exact hq3.2⟩ hq30 (by rw [(up8 hq3n).2]; exact hq32) (fun j hj => by rw [Bq3]; exact d1r j hj) (fun c hc hno => by rw [Bq3]; exact d2r c hc hno)
  exact ok_ck ⟨by omega, by omega⟩ (ok_if (fun _ => j265 900 (by decide) (by decide)) (fun _ => j265 12 (by decide) (by decide)))
theorem lawBallots_ok {E : Ev} {M : Mm} {q1 n kk : Nat} {C : Nat → Int} {G : Nat → Nat} {R : Nat → Nat → Nat} {A : Nat → Nat} (hL : Lay E) (hB : BX M n kk C G R A) (hLB : LB E M q1 n kk C G R) (hz : LZ E M q1 kk) (hr : Ring M) (h21 : M 2 1 = 0) (hk : kk ≤ 10) (hs : sN C kk ≤ 100000) (hn1 : 1 ≤ n) (hn : n ≤ 5) : Ok (f_La_ballots E M q1 0) (LW E M q1 n kk (sN C kk)) := by
  have h250 := hL.1
  have a1 := hLB.1
  have a2 := hLB.2.1
  have a3 := hLB.2.2.1
  obtain ⟨E2, hE2⟩ : ∃ E2, E2 = eNew (eNew E (0, n)) (0, n) := ⟨_, rfl⟩
  obtain ⟨M2, hM2⟩ : ∃ M2, M2 = mN (mN M (nE E)) (nE E + 1) := ⟨_, rfl⟩
  have hL2 : Lay E2 := by rw [hE2]; exact lay_new (lay_new hL)
  have gE : Ge E E2 := by rw [hE2]; exact (ge_new E _).trans (ge_new _ _)
  have nE2 : nE E2 = nE E + 2 := by rw [hE2]; rfl
  have o2 : Off (fun c => nE E ≤ c) M M2 := by rw [hM2]; exact Off.trans (off_mN (Nat.le_refl _)) (off_mN (by omega))
  have i3 : isIA E2 (nE E) := ⟨by omega, by rw [hE2, new_t (by show nE E ≠ nE E + 1; omega)]; exact congrArg Prod.fst (new_T E (0, n))⟩
  have t3 : (tE E2 (nE E)).2 = n := by rw [hE2, new_t (by show nE E ≠ nE E + 1; omega)]; exact congrArg Prod.snd (new_T E (0, n))
  have i4 : isIA E2 (nE E + 1) := ⟨by omega, by rw [hE2]; exact congrArg Prod.fst (new_T (eNew E (0, n)) (0, n))⟩
  have t4 : (tE E2 (nE E + 1)).2 = n := by rw [hE2]; exact congrArg Prod.snd (new_T (eNew E (0, n)) (0, n))
  have hq1 : isO 12 E2 q1 := ⟨by have := a1.1; omega, by rw [gE.1.2 q1 a1.1]; exact a1.2⟩
  have q12 : M2 q1 0 = (n : Int) := by rw [o2 q1 (by have := a1.1; omega)]; exact a3
  unfold f_La_ballots
  rw [a3]
  refine ok_ck hL (ok_ck a1 (ok_ck ⟨yi_0 hL, by rw [yt_0 hL]⟩ (ok_ck ⟨by omega, by omega⟩ (ok_nb (ok_nb (ok_nbx fun M101 eM => ?_))))))
  have e101 : M101 q1 0 = (n : Int) := by rw [eM, mN_row (by have := a1.1; omega)]; exact a3
  rw [e101, Int.toNat_natCast]
  refine ok_ck ⟨by omega, by omega⟩ (ok_nb (ok_nb (ok_nb ?_)))
  rw [eM]
  show Ok ((l_La_ballots_18 q1 0 (nE E) (nE E + 1) 5000 (eNew (eNew E (0, n)) (0, n)) (mN (mN M (nE E)) (nE E + 1)) 0).bind _) _
  rw [← hE2, ← hM2]
  refine ok_bm (draw18_ok hL2 hq1 a2 i3 i4 (by omega) (by omega) (by have := a1.1; omega) t3 t4 q12 hn) ?_
  rintro ⟨t, x5, E3, M3⟩ ⟨g1, g2r, g3r, o, g4r, g5r, g6r⟩
  have g2 : E3 = E2 := g2r
  subst g2
  have g3 : Off (fun c => c = 0 ∨ c = nE E ∨ c = nE E + 1) M2 M3 := g3r
  have g5 : ∀ i, i < n → M3 (nE E + 1) i = (o i : Int) := g5r
  have g6 : ∀ c, c < n → M3 (nE E) c = 9 := g6r
  refine ok_ck (gw_self _) (ok_ck hL2 (ok_ck g1 (ok_bm (next_ok ⟨yi_0 hL2, by rw [yt_0 hL2]⟩ (by rw [yt_0 hL2]) (by decide) (by decide)) ?_)))
  rintro ⟨y, M4⟩ ⟨⟨y1r, y2r⟩, k4r⟩
  have k4 : Off (fun c => c = 0) M3 M4 := k4r
  have y1 : 0 ≤ y := y1r
  have y2 : y < 9 := y2r
  have fin : ∀ (N : Mm) (kw : Nat), Off (fun c => c = 0) M3 N → kw ≤ n → Ok (La_ballots_j89 E3 N q1 0 (nE E) (nE E + 1) (kw : Int)) (LW E M q1 n kk (sN C kk)) := fun N kw oN hkw => by
    have oM : Off (fun c => c = 0 ∨ nE E ≤ c) M N := (o2.mono fun c hc => Or.inr hc).trans ((g3.mono fun c hc => by omega).trans (oN.mono fun c hc => Or.inl hc))
    have lb : ∀ K : Mm, Off (fun c => c = 0 ∨ nE E ≤ c) M K → LB E3 K q1 n kk C G R := fun K oK => (hLB.off oK (fun c h1 h2 => by omega)).ge gE
    have pmI : ∀ pm, rE E3 q1 2 = some pm → pm < nE E ∧ 250 ≤ pm := fun pm hpm => by
      rw [gE.2 q1 (by omega) a1.1] at hpm
      obtain ⟨-, -, -, -, -, pr, pm', -, -, -, -, b5, b6, -, b8, -⟩ := hLB
      rw [hpm] at b5
      have := Option.some.inj b5
      rw [this]; exact ⟨b6.1, b8⟩
    refine j89_ok (Gz.ge hL.1 gE) (oM.mono fun c hc => by unfold oLw; omega) hL2 (hB.off oM (by omega) (by omega) (by omega) (by omega) (fun k hk => by omega)) (lb N oM) ((LZ.ge hz gE (by omega) a1.1).off oM (fun pm hpm => by have := pmI pm hpm; omega)) (hr.of (oM 1 (by omega))) (by rw [oM 2 (by omega)]; exact h21) hk hs hn hkw i3 (by omega) t3 i4 (by omega) t4 g4r (fun i hi => by rw [oN _ (by omega)]; exact g5 i hi) (fun c hc => by rw [oN _ (by omega)]; exact g6 c hc) (fun pm hpm => by have := pmI pm hpm; omega) (fun pm hpm => by have := pmI pm hpm; omega) (fun c hc K oK => lb K (oM.trans (oK.mono fun i hi => by omega)))
  refine ok_ck ⟨by omega, by omega⟩ (ok_if (fun _ => fin M4 0 k4 (by omega)) (fun _ => ?_))
  have e4 : M4 q1 0 = (n : Int) := by rw [k4 q1 (by omega), g3 q1 (by have := a1.1; omega)]; exact q12
  rw [e4]
  refine ok_bm (next_ok ⟨yi_0 hL2, by rw [yt_0 hL2]⟩ (by rw [yt_0 hL2]) (by omega) (by omega)) ?_
  rintro ⟨z, M5⟩ ⟨⟨z1r, z2r⟩, k5r⟩
  have z1 : 0 ≤ z := z1r
  have z2 : z < (n : Int) := z2r
  have k5 : Off (fun c => c = 0) M4 M5 := k5r
  have ez : 1 + z = ((z.toNat + 1 : Nat) : Int) := by omega
  show Ok (La_ballots_j89 E3 M5 q1 0 (nE E) (nE E + 1) (1 + z)) _
  rw [ez]
  exact fin M5 _ (k4.trans k5) (by omega)
