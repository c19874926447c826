/-! A POLL OPENED; WHO BEATS WHOM -/
def BX (M : Mm) (n kk : Nat) (C : Nat → Int) (G : Nat → Nat) (R : Nat → Nat → Nat) (A : Nat → Nat) : Prop := M 2 2 = (n : Int) ∧ n ≤ 8 ∧ M 2 3 = (kk : Int) ∧ kk ≤ 30 ∧ (∀ k, k < kk → Rk M k n (G k) (R k) (A k) ∧ M 5 k = C k ∧ 0 ≤ C k) ∧ sN C kk ≤ 1000000
theorem BX.off {M N : Mm} {n kk : Nat} {C : Nat → Int} {G : Nat → Nat} {R : Nat → Nat → Nat} {A : Nat → Nat} {S : Nat → Prop} (h : BX M n kk C G R A) (ho : Off S M N) (h2 : ¬ S 2) (h5 : ¬ S 5) (h6 : ¬ S 6) (h7 : ¬ S 7) (h9 : ∀ k, k < 30 → ¬ S (9 + k)) : BX N n kk C G R A := by
  obtain ⟨a, b, c, d, e, f⟩ := h
  refine ⟨by rw [ho 2 h2]; exact a, b, by rw [ho 2 h2]; exact c, d, fun k hk => ?_, f⟩
  obtain ⟨e1, e2, e3⟩ := e k hk
  exact ⟨e1.of (by rw [ho 7 h7]) (by rw [ho 6 h6]) (ho _ (h9 k (by omega))), by rw [ho 5 h5]; exact e2, e3⟩
/-- the counts of the kinds as weights of rows -/
def wB (kk : Nat) (C : Nat → Int) (k : Nat) : Int := if k < kk then C k else 0
theorem wB_sum {kk : Nat} {C : Nat → Int} {f : Nat → Int} {n : Nat} (h : kk ≤ n) : sN (fun k => wB kk C k * f k) n = sN (fun k => C k * f k) kk := by
  obtain ⟨d, rfl⟩ := Nat.exists_eq_add_of_le h
  rw [sN_split, sN_congr (g := fun k => C k * f k) (fun i hi => by unfold wB; rw [if_pos hi]), sN_congr (f := fun i => wB kk C (kk + i) * f (kk + i)) (g := fun _ => 0) (fun i hi => by unfold wB; rw [if_neg (by omega), Int.zero_mul]), sN_zero]
  omega
theorem everybody_eq {E : Ev} {M : Mm} {n : Nat} (h : M 2 2 = (n : Int)) (hn : n ≤ 8) : f_Bx_everybody E M = some (((2 ^ n - 1 : Nat)) : Int) := by
  have hp1 := Nat.two_pow_pos n
  unfold f_Bx_everybody
  rw [h, ck_i ⟨by omega, by omega⟩, Int.toNat_natCast, p2]
  congr 1
  omega
theorem open_ok {E : Ev} {M : Mm} {n kk : Nat} {C : Nat → Int} {G : Nat → Nat} {R : Nat → Nat → Nat} {A : Nat → Nat} (hL : Lay E) (h : BX M n kk C G R A) : Ok (f_Po_open E M ((2 ^ n - 1 : Nat) : Int)) (fun N => Off oPo M N ∧ PS N n (wB kk C) R G A) := by
  obtain ⟨a2, an, a3, ak, aR, aS⟩ := h
  unfold f_Po_open
  refine ok_bm (ok_fillI (n := 31) (yi_42 hL) (yt_42 hL) (by decide)) ?_
  rintro B ⟨b1, b2, -⟩
  refine ok_bm (ok_fillI (n := 8) (yi_43 hL) (yt_43 hL) (by decide)) ?_
  rintro D ⟨d1, d2, -⟩
  refine ok_bm (ok_fillI (n := 8) (yi_44 hL) (yt_44 hL) (by decide)) ?_
  rintro F ⟨f1, f2, -⟩
  refine ok_bm (ok_fillI (n := 64) (yi_45 hL) (yt_45 hL) (by decide)) ?_
  rintro H ⟨h1, h2, -⟩
  have o : Off oPo M H := by
    refine ((Off.refl.u2 (by unfold oPo; decide)).u2 (by unfold oPo; decide)).trans ((b1.mono ?_).trans ((d1.mono ?_).trans ((f1.mono ?_).trans (h1.mono ?_)))) <;> (intro c hc; unfold oPo; omega)
  have h41 : H 41 = u2 (u2 M 41 1 ((2 ^ n - 1 : Nat) : Int)) 41 2 0 41 := (h1 41 (by decide)).trans ((f1 41 (by decide)).trans ((d1 41 (by decide)).trans (b1 41 (by decide))))
  have z : ∀ f : Nat → Int, sN (fun k => (fun _ => (0 : Int)) k * f k) 31 = 0 := fun f => by
    rw [sN_congr (g := fun _ => 0) (fun i _ => Int.zero_mul _), sN_zero]
  have P0 : PS H n (wB 0 C) R G A := by
    have w0 : wB 0 C = fun _ => 0 := by
      funext k
      unfold wB
      rw [if_neg (Nat.not_lt_zero k)]
    rw [w0]
    refine ⟨by rw [h41, u2_ne (Or.inr (by decide)), u2_at], by rw [h41, u2_at, sN_zero], fun k hk => ?_, fun c hc => ?_, fun c hc => ?_, fun c o hc ho => ?_⟩
    · rw [h1 42 (by decide), f1 42 (by decide), d1 42 (by decide)]; exact b2 k hk
    · rw [h1 43 (by decide), f1 43 (by decide), d2 c (by omega)]; exact (z _).symm
    · rw [h1 44 (by decide), f2 c (by omega)]; exact (z _).symm
    · rw [h2 _ (by omega)]; exact (z _).symm
  refine ok_bm (R := fun a => a.1 = 1 ∧ Off oPo M a.2.2 ∧ PS a.2.2 n (wB kk C) R G A) ?_ ?_
  · refine L_Po_open_44 E (I := fun N x => ∃ k : Nat, x = (k : Int) ∧ k ≤ kk ∧ Off oPo M N ∧ PS N n (wB k C) R G A) (μ := fun _ x => kk - x.toNat) ?_ FU H 0 ⟨0, rfl, Nat.zero_le _, o, P0⟩ (by show kk - _ < 5000; omega)
    rintro N x ⟨k, rfl, hk, oN, hP⟩
    unfold Po_open_44b
    rw [oN 2 (by unfold oPo; decide), a3]
    refine ok_ck (rgN (by omega)) (ok_ck (rgN (by omega)) (ok_if (fun q => ?_) (fun q => ?_)))
    · have e : k = kk := by omega
      subst e
      exact ok_some (ok_out ne0 ⟨rfl, oN, hP⟩)
    · have hkk : k < kk := by omega
      obtain ⟨r1, r2, r3⟩ := aR k hkk
      have hC : C k ≤ 1000000 := by
        have := sN_term (f := C) (fun i hi => (aR i hi).2.2) hkk
        omega
      rw [Int.toNat_natCast, oN 5 (by unfold oPo; decide), r2]
      refine ok_ck (inN (by omega) (by decide)) (ok_bm (change_ok an (by rw [oN 2 (by unfold oPo; decide)]; exact a2) hP (by omega) (r1.of (by rw [oN 7 (by unfold oPo; decide)]) (by rw [oN 6 (by unfold oPo; decide)]) (oN _ (by unfold oPo; omega))) ⟨by omega, by omega⟩) ?_)
      rintro K ⟨g1, g2⟩
      refine ok_some (ok_go rfl ⟨⟨k + 1, c1 k, by omega, oN.trans g1, ?_⟩, cnt hkk⟩)
      have ew : (fun j => if j = k then wB k C k + C k else wB k C j) = wB (k + 1) C := by
        funext j
        unfold wB
        by_cases e : j = k
        · rw [if_pos e, e, if_neg (Nat.lt_irrefl k), if_pos (Nat.lt_succ_self k)]; omega
        · rw [if_neg e]
          by_cases w : j < k
          · rw [if_pos w, if_pos (by omega)]
          · rw [if_neg w, if_neg (by omega)]
      rw [ew] at g2
      exact g2
  · rintro ⟨t, x, N⟩ ⟨g1, g2⟩
    exact ok_ck g1 (ok_some g2)
/-- the pairs of weights -/
noncomputable def dw (w : Nat → Int) (R : Nat → Nat → Nat) (c o : Nat) : Int := sN (fun k => w k * ind (R k c < R k o)) 31
theorem dw_bounds {w : Nat → Int} {R : Nat → Nat → Nat} (hw : ∀ k, k < 31 → 0 ≤ w k) (hs : sN w 31 ≤ 1000000) (c o : Nat) : 0 ≤ dw w R c o ∧ dw w R c o ≤ 1000000 := by
  have key : ∀ k, k < 31 → 0 ≤ w k * ind (R k c < R k o) ∧ w k * ind (R k c < R k o) ≤ w k := fun k hk => by
    by_cases q : R k c < R k o
    · rw [ind_t q]; have := hw k hk; omega
    · rw [ind_f q]; have := hw k hk; omega
  have h1 := sN_nonneg (f := fun k => w k * ind (R k c < R k o)) (fun k hk => (key k hk).1)
  have h2 := sN_le (f := fun k => w k * ind (R k c < R k o)) (g := w) (n := 31) (fun k hk => (key k hk).2)
  unfold dw
  omega
theorem PS.pd {M : Mm} {n : Nat} {w : Nat → Int} {R : Nat → Nat → Nat} {G A : Nat → Nat} (h : PS M n w R G A) (h2 : M 2 2 = (n : Int)) (hn : n ≤ 8) (hw : ∀ k, k < 31 → 0 ≤ w k) (hs : sN w 31 ≤ 1000000) : PD M n (dw w R) := ⟨h2, hn, h.2.2.2.2.2, fun c o _ _ => dw_bounds hw hs c o⟩
theorem beaten23_ok {E : Ev} {M : Mm} {n c : Nat} {d : Nat → Nat → Int} (h : PD M n d) (hc : c < n) (h0 : M 46 c = 0) : Ok (l_Po_findBeaten_23 E (c : Int) FU M 0) (fun r => r.1 = 1 ∧ Off (fun i => i = 46) M r.2.2 ∧ (∀ k, k ≠ c → r.2.2 46 k = M 46 k) ∧ ∃ S : Nat, r.2.2 46 c = (S : Int) ∧ S < 2 ^ n ∧ ∀ o, o < n → (S.testBit o = true ↔ d o c < d c o)) := by
  have h8 := h.2.1
  have hpw := pow_lt h8
  refine L_Po_findBeaten_23 E (c : Int) (I := fun N x => ∃ k S : Nat, x = (k : Int) ∧ k ≤ n ∧ Off (fun i => i = 46) M N ∧ (∀ j, j ≠ c → N 46 j = M 46 j) ∧ N 46 c = (S : Int) ∧ S < 2 ^ n ∧ ∀ o, o < n → (S.testBit o = true ↔ o < k ∧ d o c < d c o)) (μ := fun _ x => n - x.toNat) ?_ FU M 0 ⟨0, 0, rfl, Nat.zero_le _, Off.refl, fun _ _ => rfl, h0, Nat.two_pow_pos n, fun o _ => by rw [Nat.zero_testBit]; exact ⟨fun q => (by cases q), fun q => absurd q.1 (Nat.not_lt_zero _)⟩⟩ (by show n - _ < 5000; omega)
  rintro N x ⟨k, S, rfl, hk, oN, hj, hS, hSl, hB⟩
  have hPN : PD N n d := h.off oN (by decide) (by decide)
  unfold Po_findBeaten_23b
  rw [hPN.1]
  refine ok_ck (rgN (by omega)) (ok_ck (rgN (by omega)) (ok_if (fun q => ?_) (fun q => ?_)))
  · have e : k = n := by omega
    subst e
    exact ok_some (ok_out ne0 ⟨rfl, oN, hj, S, hS, hSl, fun o ho => (hB o ho).trans ⟨fun z => z.2, fun z => ⟨ho, z⟩⟩⟩)
  · have hkn : k < n := by omega
    rw [beats_eq hPN hc hkn]
    refine ok_sb ?_
    by_cases w : d k c < d c k
    · have hpk : 2 ^ k < 2 ^ n := Nat.pow_lt_pow_right (by decide) hkn
      have hpk0 := Nat.two_pow_pos k
      rw [if_pos w, Int.toNat_natCast, Int.toNat_natCast, hS, p2, orI_nat]
      refine ok_ck (by decide) (ok_if (fun z => absurd z (by decide)) (fun _ => ok_ck (inN (by omega) (by decide)) (ok_ck ⟨by omega, by omega⟩ (ok_ck ⟨by omega, by omega⟩ (ok_ck ⟨by omega, by omega⟩ (ok_nb (ok_some (ok_go rfl ⟨⟨k + 1, S ||| 2 ^ k, c1 k, by omega, oN.u2 rfl, fun j hjc => ?_, (by show u2 N 46 c _ 46 c = _; rw [u2_at]), or_lt hSl hpk, fun o ho => ?_⟩, cnt hkn⟩))))))))
      · show u2 N 46 c _ 46 j = _
        rw [u2_ne (Or.inr hjc)]; exact hj j hjc
      · rw [Nat.testBit_or, one_tb, Bool.or_eq_true, hB o ho]
        constructor
        · rintro (z | z)
          · exact ⟨by omega, z.2⟩
          · have := of_decide_eq_true z
            exact ⟨by omega, by rw [← this]; exact w⟩
        · rintro ⟨z1, z2⟩
          by_cases e : k = o
          · exact Or.inr (decide_eq_true e)
          · exact Or.inl ⟨by omega, z2⟩
    · rw [if_neg w]
      refine ok_ck (by decide) (ok_if (fun _ => ok_some (ok_go rfl ⟨⟨k + 1, S, c1 k, by omega, oN, hj, hS, hSl, fun o ho => (hB o ho).trans ⟨fun z => ⟨by omega, z.2⟩, fun z => ⟨?_, z.2⟩⟩⟩, cnt hkn⟩)) (fun z => absurd rfl z))
      by_cases e : o = k
      · have := z.2
        rw [e] at this
        exact absurd this w
      · omega
/-- whom each beats -/
def BH (M : Mm) (n : Nat) (d : Nat → Nat → Int) : Prop := ∀ c, c < n → ∃ S : Nat, M 46 c = (S : Int) ∧ S < 2 ^ n ∧ ∀ o, o < n → (S.testBit o = true ↔ d o c < d c o)
theorem findBeaten_ok {E : Ev} {M : Mm} {n : Nat} {d : Nat → Nat → Int} (hL : Lay E) (h : PD M n d) : Ok (f_Po_findBeaten E M) (fun N => Off (fun i => i = 46) M N ∧ BH N n d) := by
  have h8 := h.2.1
  unfold f_Po_findBeaten
  refine ok_bm (ok_fillI (n := 8) (yi_46 hL) (yt_46 hL) (by decide)) ?_
  rintro A ⟨a1, a2, -⟩
  refine ok_bm (R := fun r => r.1 = 1 ∧ Off (fun i => i = 46) M r.2.2 ∧ BH r.2.2 n d) ?_ ?_
  · refine L_Po_findBeaten_10 E (I := fun N x => ∃ c : Nat, x = (c : Int) ∧ c ≤ n ∧ Off (fun i => i = 46) M N ∧ (∀ k, c ≤ k → k < n → N 46 k = 0) ∧ ∀ k, k < c → ∃ S : Nat, N 46 k = (S : Int) ∧ S < 2 ^ n ∧ ∀ o, o < n → (S.testBit o = true ↔ d o k < d k o)) (μ := fun _ x => n - x.toNat) ?_ FU A 0 ⟨0, rfl, Nat.zero_le _, a1, fun k _ hk => a2 k (by omega), fun k hk => absurd hk (Nat.not_lt_zero k)⟩ (by show n - _ < 5000; omega)
    rintro N x ⟨c, rfl, hc, oN, hz, hN⟩
    have hPN : PD N n d := h.off oN (by decide) (by decide)
    unfold Po_findBeaten_10b
    rw [hPN.1]
    refine ok_ck (rgN (by omega)) (ok_ck (rgN (by omega)) (ok_if (fun q => ?_) (fun q => ?_)))
    · have e : c = n := by omega
      subst e
      exact ok_some (ok_out ne0 ⟨rfl, oN, hN⟩)
    · have hcn : c < n := by omega
      refine ok_bm (beaten23_ok hPN hcn (hz c (Nat.le_refl c) hcn)) ?_
      rintro ⟨t, y, K⟩ ⟨g1, g2, g3, g4⟩
      refine ok_ck g1 (ok_some (ok_go rfl ⟨⟨c + 1, c1 c, by omega, oN.trans g2, fun k h1 h2 => ?_, fun k hk => ?_⟩, cnt hcn⟩))
      · exact (g3 k (by omega)).trans (hz k (by omega) h2)
      · by_cases e : k = c
        · rw [e]; exact g4
        · obtain ⟨S, s1, s2⟩ := hN k (by omega)
          exact ⟨S, (g3 k e).trans s1, s2⟩
  · rintro ⟨t, x, N⟩ ⟨g1, g2⟩
    exact ok_ck g1 (ok_some g2)
def bAll (d : Nat → Nat → Int) (n c : Nat) : Prop := ∀ o, o < n → o ≠ c → d o c < d c o
theorem beaterOfAll_ok {E : Ev} {M : Mm} {n : Nat} {d : Nat → Nat → Int} (hL : Lay E) (h : PD M n d) (hp : M 41 1 = ((2 ^ n - 1 : Nat) : Int)) : Ok (f_Po_beaterOfAll E M) (fun r => Off (fun i => i = 46) M r.2 ∧ ((r.1 = -1 ∧ ∀ c, c < n → ¬ bAll d n c) ∨ ∃ c : Nat, r.1 = (c : Int) ∧ c < n ∧ bAll d n c)) := by
  have h8 := h.2.1
  have hpw := pow_lt h8
  have hp1 := Nat.two_pow_pos n
  unfold f_Po_beaterOfAll
  refine ok_bm (findBeaten_ok hL h) ?_
  rintro A ⟨a1, hB⟩
  have hPA : PD A n d := h.off a1 (by decide) (by decide)
  refine ok_bm (R := fun r => r.2.2 = A ∧ ((r.1 = 2 ∧ ∀ c, c < n → ¬ bAll d n c) ∨ (r.1 = 1 ∧ ∃ c : Nat, r.2.1 = (c : Int) ∧ c < n ∧ bAll d n c))) ?_ ?_
  · refine L_Po_beaterOfAll_6 E (I := fun N x => N = A ∧ ∃ c : Nat, x = (c : Int) ∧ c ≤ n ∧ ∀ k, k < c → ¬ bAll d n k) (μ := fun _ x => n - x.toNat) ?_ FU A 0 ⟨rfl, 0, rfl, Nat.zero_le _, fun k hk => absurd hk (Nat.not_lt_zero k)⟩ (by show n - _ < 5000; omega)
    rintro N x ⟨rfl, c, rfl, hc, hno⟩
    unfold Po_beaterOfAll_6b
    rw [hPA.1, Int.toNat_natCast, a1 41 (by decide), hp, p2, dfI_nat]
    refine ok_ck (rgN (by omega)) (ok_ck (rgN (by omega)) (ok_if (fun q => ?_) (fun q => ?_)))
    · have e : c = n := by omega
      subst e
      exact ok_some (ok_out (by show (2 : Nat) ≠ 0; decide) ⟨rfl, Or.inl ⟨rfl, hno⟩⟩)
    · have hcn : c < n := by omega
      have hpc : 2 ^ c < 2 ^ n := Nat.pow_lt_pow_right (by decide) hcn
      have hpc0 := Nat.two_pow_pos c
      obtain ⟨S, s1, s2, s3⟩ := hB c hcn
      have hd : ∀ o, o < n → ((dN (2 ^ n - 1) (2 ^ c)).testBit o = true ↔ o ≠ c) := fun o ho => by
        rw [dN_tb (by omega) (by omega), full_tb, one_tb, decide_eq_true ho]
        by_cases e : c = o
        · rw [decide_eq_true e]; exact ⟨fun z => (by cases z), fun z => absurd e.symm z⟩
        · rw [decide_eq_false e]; exact ⟨fun _ z => e z.symm, fun _ => rfl⟩
      rw [s1]
      refine ok_ck (inN (by omega) (by decide)) (ok_ck ⟨by omega, by omega⟩ (ok_ck ⟨by omega, by omega⟩ (ok_ck ⟨by omega, by omega⟩ (ok_ck ⟨by omega, by omega⟩ (ok_if (fun z => ?_) (fun z => ?_))))))
      · have eS : S = dN (2 ^ n - 1) (2 ^ c) := by omega
        exact ok_some (ok_out ne0 ⟨rfl, Or.inr ⟨rfl, c, rfl, hcn, fun o ho hne => (s3 o ho).mp (by rw [eS]; exact (hd o ho).mpr hne)⟩⟩)
      · refine ok_some (ok_go rfl ⟨⟨rfl, c + 1, c1 c, by omega, fun k hk => ?_⟩, cnt hcn⟩)
        by_cases e : k = c
        · rw [e]
          intro hb
          refine z (congrArg (fun x : Nat => (x : Int)) (eq_tb s2 (dN_lt (by omega)) fun i hi => Bool.eq_iff_iff.mpr ?_))
          rw [s3 i hi, hd i hi]
          exact ⟨fun w e2 => by rw [e2] at w; omega, fun w => hb i hi w⟩
        · exact hno k (by omega)
  · rintro ⟨t, x, N⟩ ⟨g1r, g2⟩
    have g1 : N = A := g1r
    subst g1
    rcases g2 with ⟨e, q⟩ | ⟨e, c, ec, q⟩
    · have e : t = 2 := e
      subst e
      exact ok_if (fun w => absurd w (by decide)) (fun _ => ok_if (fun _ => ok_some ⟨a1, Or.inl ⟨rfl, q⟩⟩) (fun w => absurd rfl w))
    · have e : t = 1 := e
      have ec : x = (c : Int) := ec
      subst e ec
      exact ok_if (fun _ => ok_some ⟨a1, Or.inr ⟨c, rfl, q⟩⟩) (fun w => absurd rfl w)
/-- a set whose members beat all others -/
def bSet (d : Nat → Nat → Int) (n S : Nat) : Prop := ∀ c o, c < n → o < n → S.testBit c = true → S.testBit o = false → d o c < d c o
theorem isBeatingSet_ok {E : Ev} {M : Mm} {n S : Nat} {d : Nat → Nat → Int} (h : PD M n d) (hp : M 41 1 = ((2 ^ n - 1 : Nat) : Int)) (hB : BH M n d) (hS : S < 2 ^ n) : Ok (f_Po_isBeatingSet E M (S : Int)) (fun r => (r = 1 ∧ bSet d n S) ∨ (r = 0 ∧ ¬ bSet d n S)) := by
  have h8 := h.2.1
  have hpw := pow_lt h8
  have hp1 := Nat.two_pow_pos n
  unfold f_Po_isBeatingSet
  refine ok_bm (R := fun r => (r.1 = 2 ∧ bSet d n S) ∨ (r.1 = 1 ∧ ¬ bSet d n S)) ?_ ?_
  · refine L_Po_isBeatingSet_2 E (S : Int) M (I := fun x => ∃ c : Nat, x = (c : Int) ∧ c ≤ n ∧ ∀ k o, k < c → o < n → S.testBit k = true → S.testBit o = false → d o k < d k o) (μ := fun x => n - x.toNat) ?_ FU 0 ⟨0, rfl, Nat.zero_le _, fun k o hk => absurd hk (Nat.not_lt_zero k)⟩ (by show n - _ < 5000; omega)
    rintro x ⟨c, rfl, hc, hN⟩
    unfold Po_isBeatingSet_2b
    rw [h.1]
    refine ok_ck (rgN (by omega)) (ok_ck (rgN (by omega)) (ok_if (fun q => ?_) (fun q => ?_)))
    · have e : c = n := by omega
      subst e
      exact ok_some (ok_out (by show (2 : Nat) ≠ 0; decide) (Or.inl ⟨rfl, fun k o hk ho => hN k o hk ho⟩))
    · have hcn : c < n := by omega
      rw [has_tb (by omega) (by omega)]
      refine ok_sb ?_
      by_cases w : S.testBit c = true
      · obtain ⟨T, t1, t2, t3⟩ := hB c hcn
        rw [if_pos w, Int.toNat_natCast, t1, hp, orI_nat]
        have hor := or_lt t2 hS
        refine ok_ck (by decide) (ok_if (fun z => absurd z (by decide)) (fun _ => ok_ck (inN (by omega) (by decide)) (ok_ck ⟨by omega, by omega⟩ (ok_ck ⟨by omega, by omega⟩ (ok_ck ⟨by omega, by omega⟩ (ok_ck ⟨by omega, by omega⟩ (ok_if (fun z => ?_) (fun z => ?_))))))))
        · have ef : T ||| S = 2 ^ n - 1 := by omega
          refine ok_some (ok_go rfl ⟨⟨c + 1, c1 c, by omega, fun k o hk ho s1 s2 => ?_⟩, cnt hcn⟩)
          by_cases e : k = c
          · rw [e]
            have : (T ||| S).testBit o = true := by rw [ef, full_tb]; exact decide_eq_true ho
            rw [Nat.testBit_or, s2, Bool.or_false] at this
            exact (t3 o ho).mp this
          · exact hN k o (by omega) ho s1 s2
        · refine ok_some (ok_out ne0 (Or.inr ⟨rfl, fun hb => z (congrArg (fun x : Nat => (x : Int)) (eq_tb hor (by omega) fun i hi => ?_))⟩))
          rw [full_tb, decide_eq_true hi, Nat.testBit_or]
          by_cases si : S.testBit i = true
          · rw [si, Bool.or_true]
          · rw [(t3 i hi).mpr (hb c i hcn hi w (Bool.eq_false_iff.mpr si))]; rfl
      · rw [if_neg w]
        refine ok_ck (by decide) (ok_if (fun _ => ok_some (ok_go rfl ⟨⟨c + 1, c1 c, by omega, fun k o hk ho s1 s2 => ?_⟩, cnt hcn⟩)) (fun z => absurd rfl z))
        by_cases e : k = c
        · rw [e] at s1; exact absurd s1 w
        · exact hN k o (by omega) ho s1 s2
  · rintro ⟨t, x⟩ (⟨g, q⟩ | ⟨g, q⟩)
    · have g : t = 2 := g
      subst g
      exact ok_if (fun w => absurd w (by decide)) (fun _ => ok_if (fun _ => ok_some (Or.inl ⟨rfl, q⟩)) (fun w => absurd rfl w))
    · have g : t = 1 := g
      subst g
      exact ok_if (fun _ => ok_some (Or.inr ⟨rfl, q⟩)) (fun w => absurd rfl w)
theorem smallestBeatingSet_ok {E : Ev} {M : Mm} {n : Nat} {d : Nat → Nat → Int} (hL : Lay E) (h : PD M n d) (hn1 : 1 ≤ n) (hp : M 41 1 = ((2 ^ n - 1 : Nat) : Int)) : Ok (f_Po_smallestBeatingSet E M) (fun r => Off (fun i => i = 46) M r.2 ∧ ∃ S : Nat, r.1 = (S : Int) ∧ 1 ≤ S ∧ S < 2 ^ n ∧ bSet d n S ∧ ∀ T, 1 ≤ T → T < 2 ^ n → bSet d n T → cS S n ≤ cS T n) := by
  have h8 := h.2.1
  have hpw := pow_lt h8
  have hp2 : 2 ≤ 2 ^ n := Nat.pow_le_pow_right (show 1 ≤ 2 by decide) hn1
  have hfull : bSet d n (2 ^ n - 1) := fun c o _ ho _ s => by
    rw [full_tb, decide_eq_true ho] at s
    cases s
  unfold f_Po_smallestBeatingSet
  refine ok_bm (findBeaten_ok hL h) ?_
  rintro A ⟨a1, hB⟩
  have hPA : PD A n d := h.off a1 (by decide) (by decide)
  have hpA : A 41 1 = ((2 ^ n - 1 : Nat) : Int) := by rw [a1 41 (by decide)]; exact hp
  rw [hpA]
  refine ok_bm (R := fun r => r.1 = 1 ∧ r.2.2.2 = A ∧ ∃ S : Nat, r.2.1 = (S : Int) ∧ 1 ≤ S ∧ S < 2 ^ n ∧ bSet d n S ∧ ∀ T, 1 ≤ T → T < 2 ^ n → bSet d n T → cS S n ≤ cS T n) ?_ ?_
  · refine L_Po_smallestBeatingSet_11 E (I := fun N x y => N = A ∧ ∃ S T : Nat, x = (S : Int) ∧ y = (T : Int) ∧ 1 ≤ T ∧ T ≤ 2 ^ n - 1 ∧ 1 ≤ S ∧ S < 2 ^ n ∧ bSet d n S ∧ cS S n ≤ (n : Int) ∧ ∀ U, 1 ≤ U → U < T → bSet d n U → cS S n ≤ cS U n) (μ := fun _ _ y => 2 ^ n - y.toNat) ?_ FU A ((2 ^ n - 1 : Nat) : Int) 1 ⟨rfl, 2 ^ n - 1, 1, rfl, rfl, Nat.le_refl _, by omega, by omega, by omega, hfull, (cS_bounds _ n).2, fun U h1 h2 => by omega⟩ (by show 2 ^ n - _ < 5000; omega)
    rintro N x y ⟨rfl, S, T, rfl, rfl, t1, t2, s1, s2, s3, s4, s5⟩
    unfold Po_smallestBeatingSet_11b
    rw [hpA]
    refine ok_ck ⟨by omega, by omega⟩ (ok_ck ⟨by omega, by omega⟩ (ok_if (fun q => ?_) (fun q => ?_)))
    · have e : T = 2 ^ n - 1 := by omega
      refine ok_some (ok_out ne0 ⟨rfl, rfl, S, rfl, s1, s2, s3, fun U u1 u2 ub => ?_⟩)
      by_cases w : U < T
      · exact s5 U u1 w ub
      · have eU : U = 2 ^ n - 1 := by omega
        rw [eU, cS_full]; exact s4
    · have cT := cS_bounds T n
      rw [bitCount_cS E N (by omega) (show T < 2 ^ n by omega), bitCount_cS E N (by omega) s2]
      have cSS := cS_bounds S n
      refine ok_sb (ok_sb (ok_ck ⟨by omega, by omega⟩ (ok_ck ⟨by omega, by omega⟩ (ok_if (fun w => ?_) (fun w => ?_)))))
      · refine ok_some (ok_go rfl ⟨⟨rfl, S, T + 1, rfl, c1 T, by omega, by omega, s1, s2, s3, s4, fun U u1 u2 ub => ?_⟩, cnt (by omega)⟩)
        by_cases e : U = T
        · rw [e]; exact w
        · exact s5 U u1 (by omega) ub
      · refine ok_bm (isBeatingSet_ok hPA hpA hB (show T < 2 ^ n by omega)) ?_
        rintro r (⟨rfl, hb⟩ | ⟨rfl, hb⟩)
        · refine ok_ck (by decide) (ok_if (fun z => absurd z (by decide)) (fun _ => ok_some (ok_go rfl ⟨⟨rfl, T, T + 1, rfl, c1 T, by omega, by omega, t1, by omega, hb, cT.2, fun U u1 u2 ub => ?_⟩, cnt (by omega)⟩)))
          by_cases e : U = T
          · rw [e]; exact Int.le_refl _
          · have := s5 U u1 (by omega) ub
            omega
        · refine ok_ck (by decide) (ok_if (fun _ => ok_some (ok_go rfl ⟨⟨rfl, S, T + 1, rfl, c1 T, by omega, by omega, s1, s2, s3, s4, fun U u1 u2 ub => ?_⟩, cnt (by omega)⟩)) (fun z => absurd rfl z))
          by_cases e : U = T
          · rw [e] at ub; exact absurd ub hb
          · exact s5 U u1 (by omega) ub
  · rintro ⟨t, x, y, N⟩ ⟨g1, g2r, S, g3r, g4⟩
    have g2 : N = A := g2r
    have g3 : x = (S : Int) := g3r
    subst g2 g3
    exact ok_ck g1 (ok_some ⟨a1, S, rfl, g4⟩)
