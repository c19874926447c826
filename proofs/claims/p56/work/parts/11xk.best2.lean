/-! SCORES, THE RUNOFF, THE BEST -/
/-- what a look at the ballots stands on: rows where there is weight, lots -/
def PB (M : Mm) (n : Nat) (w : Nat → Int) (R : Nat → Nat → Nat) (G A : Nat → Nat) (lo : Nat → Int) : Prop := PS M n w R G A ∧ M 2 2 = (n : Int) ∧ n ≤ 8 ∧ LT M n lo ∧ (∀ k, k < 31 → 0 ≤ w k) ∧ sN w 31 ≤ 1000000 ∧ ∀ k, k < 31 → w k ≠ 0 → Rk M k n (G k) (R k) (A k)
def oSc (c : Nat) : Prop := 47 ≤ c ∧ c ≤ 49
theorem PB.off {M N : Mm} {n : Nat} {w : Nat → Int} {R : Nat → Nat → Nat} {G A : Nat → Nat} {lo : Nat → Int} (h : PB M n w R G A lo) (ho : Off oSc M N) : PB N n w R G A lo := by
  obtain ⟨a, b, c, d, e, f, g⟩ := h
  have q : ∀ i, ¬ oSc i → N i = M i := ho
  refine ⟨?_, by rw [q 2 (by unfold oSc; decide)]; exact b, c, fun i hi => by rw [q 4 (by unfold oSc; decide)]; exact d i hi, e, f, fun k hk hw => (g k hk hw).of (by rw [q 7 (by unfold oSc; decide)]) (by rw [q 6 (by unfold oSc; decide)]) (q _ (by unfold oSc; omega))⟩
  unfold PS
  rw [q 41 (by unfold oSc; decide), q 42 (by unfold oSc; decide), q 43 (by unfold oSc; decide), q 44 (by unfold oSc; decide), q 45 (by unfold oSc; decide)]
  exact a
/-- a sum of weights over rows -/
noncomputable def wsum (w : Nat → Int) (p : Nat → Prop) : Int := sN (fun k => w k * ind (p k)) 31
theorem wsum_bounds {w : Nat → Int} {p : Nat → Prop} (hw : ∀ k, k < 31 → 0 ≤ w k) (hs : sN w 31 ≤ 1000000) : 0 ≤ wsum w p ∧ wsum w p ≤ 1000000 := by
  have key : ∀ k, k < 31 → 0 ≤ w k * ind (p k) ∧ w k * ind (p k) ≤ w k := fun k hk => by
    by_cases q : p k
    · rw [ind_t q]; have := hw k hk; omega
    · rw [ind_f q]; have := hw k hk; omega
  have h1 := sN_nonneg (f := fun k => w k * ind (p k)) (fun k hk => (key k hk).1)
  have h2 := sN_le (f := fun k => w k * ind (p k)) (g := w) (n := 31) (fun k hk => (key k hk).2)
  unfold wsum
  omega
noncomputable def tops (w : Nat → Int) (R : Nat → Nat → Nat) (G : Nat → Nat) (n T c : Nat) : Int := wsum w (fun k => sole (R k) (G k) n T c)
theorem scoreTops_ok {E : Ev} {M : Mm} {n T : Nat} {w : Nat → Int} {R : Nat → Nat → Nat} {G A : Nat → Nat} {lo : Nat → Int} (hL : Lay E) (h : PB M n w R G A lo) (hT : T < 2 ^ n) : Ok (f_Po_scoreTopsOf E M (T : Int)) (fun N => Off (fun i => i = 48) M N ∧ SCr N n (tops w R G n T)) := by
  have hH := h
  obtain ⟨hPS, h2, hn, hl, hw, hs, hr⟩ := h
  have hpw := pow_lt hn
  unfold f_Po_scoreTopsOf
  refine ok_bm (ok_fillL (n := 8) (yi_48 hL) (yt_48 hL) (by decide)) ?_
  rintro B ⟨b1, b2⟩
  refine ok_bm (R := fun r => r.1 = 1 ∧ Off (fun i => i = 48) M r.2.2 ∧ ∀ c, c < n → r.2.2 48 c = tops w R G n T c) ?_ ?_
  · refine L_Po_scoreTopsOf_10 E (T : Int) (I := fun N x => ∃ k : Nat, x = (k : Int) ∧ k ≤ 31 ∧ Off (fun i => i = 48) M N ∧ ∀ c, c < n → N 48 c = sN (fun k => w k * ind (sole (R k) (G k) n T c)) k) (μ := fun _ x => 31 - x.toNat) ?_ FU B 0 ⟨0, rfl, by decide, b1, fun c hc => b2 c (by omega)⟩ (by decide)
    rintro N x ⟨k, rfl, hk, ho, hN⟩
    have hBN := hH.off (ho.mono fun c hc => by unfold oSc; omega)
    unfold Po_scoreTopsOf_10b
    rw [Int.toNat_natCast, ho 42 (by decide)]
    refine ok_ck (rgN (by omega)) (ok_if (fun q => ?_) (fun q => ?_))
    · have e : k = 31 := by omega
      rw [e] at hN
      exact ok_some (ok_out ne0 ⟨rfl, ho, hN⟩)
    · have hk31 : k < 31 := by omega
      have wk : w k ≤ 1000000 := by
        have := sN_term hw hk31
        omega
      have w0 := hw k hk31
      rw [hPS.2.2.1 k hk31]
      refine ok_ck (inN hk31 (by decide)) (ok_ck ⟨by omega, by omega⟩ (ok_if (fun z => ?_) (fun z => ok_bm (soleTop_ok (hBN.2.2.2.2.2.2 k hk31 z) hk31 hn hT) ?_)))
      · unfold Po_scoreTopsOf_j38
        refine ok_ck (by decide) (ok_if (fun _ => ok_some (ok_go rfl ⟨⟨k + 1, c1 k, by omega, ho, fun c hc => ?_⟩, cnt hk31⟩)) (fun z2 => absurd rfl z2))
        show N 48 c = _
        rw [sN_succ, z, Int.zero_mul, hN c hc, Int.add_zero]
      · rintro r (⟨rfl, hno⟩ | ⟨c, rfl, hc, hso⟩)
        · unfold Po_scoreTopsOf_j38
          refine ok_ck (by decide) (ok_if (fun _ => ok_some (ok_go rfl ⟨⟨k + 1, c1 k, by omega, ho, fun c hc => ?_⟩, cnt hk31⟩)) (fun z2 => absurd rfl z2))
          show N 48 c = _
          rw [sN_succ, ind_f (hno c hc), Int.mul_zero, hN c hc, Int.add_zero]
        · unfold Po_scoreTopsOf_j38
          rw [Int.toNat_natCast, Int.toNat_natCast, ho 42 (by decide), hPS.2.2.1 k hk31]
          refine ok_ck ⟨by omega, by omega⟩ (ok_if (fun z2 => by omega) (fun _ => ok_ck (inN (by omega) (by decide)) (ok_ck (inN hk31 (by decide)) (ok_ck ⟨by omega, by omega⟩ (ok_nb (ok_some (ok_go rfl ⟨⟨k + 1, c1 k, by omega, ho.u2 rfl, fun i hi => ?_⟩, cnt hk31⟩)))))))
          show u2 N 48 c (N 48 c + w k) 48 i = _
          rw [sN_succ, u2_if]
          by_cases e : i = c
          · rw [if_pos ⟨rfl, e⟩, e, ind_t hso, hN c hc, Int.mul_one]
          · rw [if_neg (fun z2 => e z2.2), hN i hi, ind_f (fun z2 => e (((sole_top hc).mp hso).2 i hi ((sole_top hi).mp z2).1)), Int.mul_zero, Int.add_zero]
  · rintro ⟨t, x, N⟩ ⟨g1, g2, g3⟩
    refine ok_ck g1 (ok_some ⟨g2, fun c hc => ⟨g3 c hc, ?_⟩⟩)
    have := wsum_bounds (p := fun k => sole (R k) (G k) n T c) hw hs
    unfold tops
    exact ⟨by omega, by omega⟩
/-- points: 2 for each ballot ahead, 1 for each equal -/
noncomputable def points (w : Nat → Int) (R : Nat → Nat → Nat) (n c : Nat) : Int := sN (fun o => if o = c then 0 else sN w 31 + dw w R c o - dw w R o c) n
theorem pointsOf_ok {E : Ev} {M : Mm} {n c : Nat} {w : Nat → Int} {R : Nat → Nat → Nat} {G A : Nat → Nat} {lo : Nat → Int} (h : PB M n w R G A lo) (hc : c < n) : Ok (f_Po_pointsOf E M (c : Int)) (fun r => r = points w R n c) := by
  obtain ⟨hPS, h2, hn, hl, hw, hs, hr⟩ := h
  have hpw := pow_lt hn
  have hp1 := Nat.two_pow_pos n
  have hPD := hPS.pd h2 hn hw hs
  have sn0 := sN_nonneg (f := w) (n := 31) hw
  unfold f_Po_pointsOf
  refine ok_bm (R := fun r => r.1 = 1 ∧ r.2.1 = points w R n c) ?_ ?_
  · refine L_Po_pointsOf_5 E (c : Int) M (I := fun x y => ∃ k : Nat, y = (k : Int) ∧ k ≤ n ∧ x = sN (fun o => if o = c then 0 else sN w 31 + dw w R c o - dw w R o c) k) (μ := fun _ x => n - x.toNat) ?_ FU 0 0 ⟨0, rfl, Nat.zero_le _, rfl⟩ (by show n - _ < 5000; omega)
    rintro x y ⟨k, rfl, hk, hx⟩
    unfold Po_pointsOf_5b
    rw [h2]
    refine ok_ck (rgN (by omega)) (ok_ck (rgN (by omega)) (ok_if (fun q => ?_) (fun q => ok_ck (rgN (by omega)) (ok_if (fun z => ?_) (fun z => ?_)))))
    · have e : k = n := by omega
      rw [e] at hx
      exact ok_some (ok_out ne0 ⟨rfl, hx⟩)
    · refine ok_some (ok_go rfl ⟨⟨k + 1, c1 k, by omega, ?_⟩, cnt (by omega)⟩)
      show x = _
      rw [sN_succ, if_pos (by omega), hx, Int.add_zero]
    · have hkn : k < n := by omega
      have b1 := dw_bounds (R := R) hw hs c k
      have b2 := dw_bounds (R := R) hw hs k c
      rw [hPS.1, has_tb (by omega) (by omega), full_tb, decide_eq_true hkn, if_pos rfl, hPS.2.1]
      refine ok_sb (ok_ck (by decide) (ok_if (fun z2 => absurd z2 (by decide)) (fun _ => ?_)))
      rw [pair_eq hPD hc hkn, pair_eq hPD hkn hc]
      refine ok_sb (ok_sb (ok_ck ⟨by omega, by omega⟩ (ok_nb (ok_some (ok_go rfl ⟨⟨k + 1, c1 k, by omega, ?_⟩, cnt hkn⟩)))))
      show x + (sN w 31 + dw w R c k - dw w R k c) = sN (fun o => if o = c then 0 else sN w 31 + dw w R c o - dw w R o c) k + (if k = c then 0 else sN w 31 + dw w R c k - dw w R k c)
      rw [if_neg (show ¬ k = c by omega), hx]
  · rintro ⟨t, x, y⟩ ⟨g1, g2⟩
    exact ok_ck g1 (ok_some g2)
theorem points_rg {w : Nat → Int} {R : Nat → Nat → Nat} {n c : Nat} (hn : n ≤ 8) (hw : ∀ k, k < 31 → 0 ≤ w k) (hs : sN w 31 ≤ 1000000) : rgJ (points w R n c) := by
  have sn0 := sN_nonneg (f := w) (n := 31) hw
  have key : ∀ o, o < n → -1000000 ≤ (if o = c then 0 else sN w 31 + dw w R c o - dw w R o c) ∧ (if o = c then 0 else sN w 31 + dw w R c o - dw w R o c) ≤ 2000000 := fun o _ => by
    have b1 := dw_bounds (R := R) hw hs c o
    have b2 := dw_bounds (R := R) hw hs o c
    by_cases e : o = c
    · rw [if_pos e]; omega
    · rw [if_neg e]; omega
  have h1 := sN_le (f := fun o => if o = c then 0 else sN w 31 + dw w R c o - dw w R o c) (g := fun _ => 2000000) (n := n) (fun o ho => (key o ho).2)
  have h2 := sN_le (f := fun _ => -1000000) (g := fun o => if o = c then 0 else sN w 31 + dw w R c o - dw w R o c) (n := n) (fun o ho => (key o ho).1)
  have h3 : ∀ (a : Int) (k : Nat), sN (fun _ => a) k = a * (k : Int) := fun a k => by
    induction k with
    | zero => show (0 : Int) = a * 0; omega
    | succ k ih => rw [sN_succ, ih, show ((k + 1 : Nat) : Int) = (k : Int) + 1 from rfl, Int.mul_add]; omega
  rw [h3] at h1 h2
  unfold points
  exact ⟨by omega, by omega⟩
/-- what is counted by a way -/
noncomputable def scF (w : Nat → Int) (R : Nat → Nat → Nat) (G A : Nat → Nat) (n : Nat) (way : Int) (c : Nat) : Int := if way = 3 then points w R n c else if way = 4 then wsum w (fun k => (A k).testBit c = true) else tops w R G n (2 ^ n - 1) c
theorem findScores_ok {E : Ev} {M : Mm} {n : Nat} {w : Nat → Int} {R : Nat → Nat → Nat} {G A : Nat → Nat} {lo : Nat → Int} {way : Int} (hL : Lay E) (h : PB M n w R G A lo) (hway : rgI way) : Ok (f_Po_findScores E M way) (fun N => Off (fun i => i = 48) M N ∧ SCr N n (scF w R G A n way)) := by
  have hH := h
  obtain ⟨hPS, h2, hn, hl, hw, hs, hr⟩ := h
  unfold f_Po_findScores
  refine ok_bm (R := fun r => r.1 = 1 ∧ Off (fun i => i = 48) M r.2.2 ∧ SCr r.2.2 n (scF w R G A n way)) ?_ ?_
  · refine L_Po_findScores_2 E way (I := fun N x => ∃ k : Nat, x = (k : Int) ∧ k ≤ n ∧ Off (fun i => i = 48) M N ∧ ∀ c, c < k → N 48 c = scF w R G A n way c ∧ rgJ (scF w R G A n way c)) (μ := fun _ x => n - x.toNat) ?_ FU M 0 ⟨0, rfl, Nat.zero_le _, Off.refl, fun c hc => absurd hc (Nat.not_lt_zero c)⟩ (by show n - _ < 5000; omega)
    rintro N x ⟨k, rfl, hk, ho, hN⟩
    have hBN := hH.off (ho.mono fun c hc => by unfold oSc; omega)
    unfold Po_findScores_2b
    rw [hBN.2.1, Int.toNat_natCast, ho 44 (by decide), ho 43 (by decide)]
    refine ok_ck (rgN (by omega)) (ok_ck (rgN (by omega)) (ok_if (fun q => ?_) (fun q => ok_ck hway ?_)))
    · have e : k = n := by omega
      rw [e] at hN
      exact ok_some (ok_out ne0 ⟨rfl, ho, hN⟩)
    · have hkn : k < n := by omega
      have fin : ∀ v : Int, v = scF w R G A n way k → rgJ v → Ok (some (0, (k : Int) + 1, u2 N 48 k v) : Option (Nat × Int × Mm)) (fun r => (r.1 = 0 → (∃ k : Nat, r.2.1 = (k : Int) ∧ k ≤ n ∧ Off (fun i => i = 48) M r.2.2 ∧ ∀ c, c < k → r.2.2 48 c = scF w R G A n way c ∧ rgJ (scF w R G A n way c)) ∧ n - r.2.1.toNat < n - (k : Int).toNat) ∧ (r.1 ≠ 0 → r.1 = 1 ∧ Off (fun i => i = 48) M r.2.2 ∧ SCr r.2.2 n (scF w R G A n way))) := fun v hv hvr => by
        refine ok_some (ok_go rfl ⟨⟨k + 1, c1 k, by omega, ho.u2 rfl, fun c hc => ?_⟩, cnt hkn⟩)
        show u2 N 48 k v 48 c = _ ∧ _
        rw [u2_if]
        by_cases e : c = k
        · rw [if_pos ⟨rfl, e⟩, e, ← hv]; exact ⟨rfl, hvr⟩
        · rw [if_neg (fun z => e z.2)]; exact hN c (by omega)
      have fin2 : ∀ v : Int, v = scF w R G A n way k → rgJ v → Ok (Po_findScores_j59 E N way (k : Int) v (k : Int) 48) (fun r => (r.1 = 0 → (∃ k : Nat, r.2.1 = (k : Int) ∧ k ≤ n ∧ Off (fun i => i = 48) M r.2.2 ∧ ∀ c, c < k → r.2.2 48 c = scF w R G A n way c ∧ rgJ (scF w R G A n way c)) ∧ n - r.2.1.toNat < n - (k : Int).toNat) ∧ (r.1 ≠ 0 → r.1 = 1 ∧ Off (fun i => i = 48) M r.2.2 ∧ SCr r.2.2 n (scF w R G A n way))) := fun v hv hvr => by
        have t48 : (tE E 48).2 = 8 := by rw [yt_48 hL]
        unfold Po_findScores_j59
        rw [Int.toNat_natCast]
        exact ok_ck ⟨yi_48 hL, by rw [yt_48 hL]⟩ (ok_ck (by rw [t48]; exact inN (by omega) (by decide)) (fin v hv hvr))
      refine ok_if (fun z => ?_) (fun z => ok_if (fun z2 => ?_) (fun z2 => ?_))
      · refine ok_bm (pointsOf_ok hBN hkn) ?_
        rintro r rfl
        refine ok_ck (inN (by omega) (by decide)) (fin _ ?_ (points_rg hn hw hs))
        unfold scF
        rw [if_pos z]
      · have b := wsum_bounds (p := fun j => (A j).testBit k = true) hw hs
        have e : M 44 k = wsum w (fun j => (A j).testBit k = true) := hPS.2.2.2.2.1 k hkn
        rw [e]
        refine ok_ck (inN (by omega) (by decide)) (ok_ck ⟨by omega, by omega⟩ (fin2 _ ?_ ⟨by omega, by omega⟩))
        unfold scF
        rw [if_neg z, if_pos z2]
      · have b := wsum_bounds (p := fun j => sole (R j) (G j) n (2 ^ n - 1) k) hw hs
        have e : M 43 k = wsum w (fun j => sole (R j) (G j) n (2 ^ n - 1) k) := hPS.2.2.2.1 k hkn
        rw [e]
        refine ok_ck (inN (by omega) (by decide)) (ok_ck ⟨by omega, by omega⟩ (fin2 _ ?_ ⟨by omega, by omega⟩))
        unfold scF
        rw [if_neg z, if_neg z2]
        rfl
  · rintro ⟨t, x, N⟩ ⟨g1, g2⟩
    exact ok_ck g1 (ok_some g2)
/-- the runoff from those left -/
def rn (w : Nat → Int) (R : Nat → Nat → Nat) (G : Nat → Nat) (lo : Nat → Int) (n : Nat) : Nat → Nat → Nat → Prop
  | 0, T, r => pk (wl lo) n T r
  | m + 1, T, r => ∃ g, pk (pl (tops w R G n T) lo) n T g ∧ rn w R G lo n m (dN T (2 ^ g)) r
theorem rn_unique {w : Nat → Int} {R : Nat → Nat → Nat} {G : Nat → Nat} {lo : Nat → Int} {n : Nat} : ∀ {m T r s : Nat}, rn w R G lo n m T r → rn w R G lo n m T s → r = s
  | 0, _, _, _, h, g => pk_unique (wl_str lo) h g
  | m + 1, T, r, s, ⟨a, a1, a2⟩, ⟨b, b1, b2⟩ => by
    have e := pk_unique (pl_str _ lo) a1 b1
    rw [← e] at b2
    exact rn_unique a2 b2
theorem runoff_ok {E : Ev} {M : Mm} {n : Nat} {w : Nat → Int} {R : Nat → Nat → Nat} {G A : Nat → Nat} {lo : Nat → Int} (hL : Lay E) (h : PB M n w R G A lo) (h1 : 1 ≤ n) : Ok (f_Po_lastOfRunoff E M) (fun r => (∃ b : Nat, r.1 = (b : Int) ∧ b < n ∧ rn w R G lo n (n - 1) (2 ^ n - 1) b) ∧ Off oSc M r.2) := by
  have hH := h
  obtain ⟨hPS, h2, hn, hl, hw, hs, hr⟩ := h
  have hpw := pow_lt hn
  have hp1 := Nat.two_pow_pos n
  unfold f_Po_lastOfRunoff
  rw [hPS.1, bitCount_cS E M (by omega) (show 2 ^ n - 1 < 2 ^ n by omega), cS_full]
  refine ok_sb ?_
  rw [show (n : Int) - 1 = ((n - 1 : Nat) : Int) by omega]
  refine ok_bm (R := fun r => r.1 = 1 ∧ Off oSc M r.2.2.2 ∧ ∃ T : Nat, r.2.1 = (T : Int) ∧ T < 2 ^ n ∧ 1 ≤ T ∧ ∀ b, rn w R G lo n 0 T b → rn w R G lo n (n - 1) (2 ^ n - 1) b) ?_ ?_
  · refine L_Po_lastOfRunoff_17 E ((n - 1 : Nat) : Int) (I := fun N x y => ∃ i T : Nat, y = (i : Int) ∧ i ≤ n - 1 ∧ x = (T : Int) ∧ T < 2 ^ n ∧ cS T n = (n : Int) - (i : Int) ∧ Off oSc M N ∧ ∀ b, rn w R G lo n (n - 1 - i) T b → rn w R G lo n (n - 1) (2 ^ n - 1) b) (μ := fun _ _ x => n - 1 - x.toNat) ?_ FU M ((2 ^ n - 1 : Nat) : Int) 0 ⟨0, 2 ^ n - 1, rfl, Nat.zero_le _, rfl, by omega, by rw [cS_full]; omega, Off.refl, fun b hb => hb⟩ (by show n - 1 - _ < 5000; omega)
    rintro N x y ⟨i, T, rfl, hi, rfl, hT, hcT, ho, hb⟩
    have pos : 1 ≤ T := by
      rcases Nat.eq_zero_or_pos T with e | e
      · rw [e, cS_zero] at hcT; omega
      · exact e
    unfold Po_lastOfRunoff_17b
    refine ok_ck (rgN (by omega)) (ok_ck (rgN (by omega)) (ok_if (fun q => ?_) (fun q => ?_)))
    · have e : i = n - 1 := by omega
      rw [e, Nat.sub_self] at hb
      exact ok_some (ok_out ne0 ⟨rfl, ho, T, rfl, hT, pos, hb⟩)
    · have hBN := hH.off ho
      refine ok_bm (scoreTops_ok hL hBN hT) ?_
      rintro K ⟨k1, k2⟩
      have hBK := hBN.off (k1.mono fun c hc => by unfold oSc; omega)
      refine ok_bm (smallestOf_ok hBK.2.1 hn hBK.2.2.2.1 k2 hT pos) ?_
      rintro r ⟨g, rfl, hg⟩
      have hgn := hg.1
      have hpg : 2 ^ g < 2 ^ n := Nat.pow_lt_pow_right (by decide) hgn
      have hpg0 := Nat.two_pow_pos g
      rw [Int.toNat_natCast, p2, dfI_nat]
      refine ok_ck (inN (by omega) (by decide)) (ok_ck ⟨by omega, by omega⟩ (ok_ck ⟨by omega, by omega⟩ (ok_ck ⟨by omega, by omega⟩ (ok_some (ok_go rfl ⟨⟨i + 1, dN T (2 ^ g), c1 i, by omega, rfl, dN_lt hT, ?_, ?_, fun b hb2 => hb b ?_⟩, by show n - 1 - ((i : Int) + 1).toNat < n - 1 - (i : Int).toNat; omega⟩)))))
      · have := cS_dn hT hn hgn hg.2.1
        omega
      · exact (ho.trans (k1.mono fun c hc => by unfold oSc; omega)).u2 (by unfold oSc; decide)
      · rw [show n - 1 - i = (n - 1 - (i + 1)) + 1 by omega]
        exact ⟨g, hg, hb2⟩
  · rintro ⟨t, x, y, N⟩ ⟨g1, g2, T, g3r, g4, g5, g6⟩
    have g2 : Off oSc M N := g2
    have g3 : x = (T : Int) := g3r
    subst g3
    have hBN := hH.off g2
    refine ok_ck g1 (ok_bm (bestByLot_ok hBN.2.1 hn hBN.2.2.2.1 g4 g5) ?_)
    rintro r ⟨b, rfl, hb⟩
    exact ok_some ⟨⟨b, rfl, hb.1, g6 b hb⟩, g2⟩
/-- who is the best by a way -/
def BB (w : Nat → Int) (R : Nat → Nat → Nat) (G A : Nat → Nat) (lo : Nat → Int) (n : Nat) (way : Int) (b : Nat) : Prop := if way = 1 then rn w R G lo n (n - 1) (2 ^ n - 1) b else if way = 2 then ∃ P W, PI (dw w R) n n P ∧ wSet P n W ∧ pk (wl lo) n W b else pk (pg (scF w R G A n way) lo) n (2 ^ n - 1) b
theorem BB_unique {w : Nat → Int} {R : Nat → Nat → Nat} {G A : Nat → Nat} {lo : Nat → Int} {n : Nat} {way : Int} {a b : Nat} (h : BB w R G A lo n way a) (g : BB w R G A lo n way b) : a = b := by
  unfold BB at h g
  by_cases c1' : way = 1
  · rw [if_pos c1'] at h g
    exact rn_unique h g
  · rw [if_neg c1'] at h g
    by_cases c2 : way = 2
    · rw [if_pos c2] at h g
      obtain ⟨P, W, h1, h2, h3⟩ := h
      obtain ⟨Q, V, g1, g2, g3⟩ := g
      rw [wSet_unique (wSet_of h1 g1 g2) h2] at g3
      exact pk_unique (wl_str lo) h3 g3
    · rw [if_neg c2] at h g
      exact pk_unique (pg_str _ lo) h g
theorem BB_1 {w : Nat → Int} {R : Nat → Nat → Nat} {G A : Nat → Nat} {lo : Nat → Int} {n : Nat} {way : Int} {b : Nat} (q : way = 1) (h : rn w R G lo n (n - 1) (2 ^ n - 1) b) : BB w R G A lo n way b := by
  unfold BB
  rw [if_pos q]
  exact h
theorem BB_2 {w : Nat → Int} {R : Nat → Nat → Nat} {G A : Nat → Nat} {lo : Nat → Int} {n : Nat} {way : Int} {b : Nat} (q : ¬ way = 1) (q2 : way = 2) (h : ∃ P W, PI (dw w R) n n P ∧ wSet P n W ∧ pk (wl lo) n W b) : BB w R G A lo n way b := by
  unfold BB
  rw [if_neg q, if_pos q2]
  exact h
theorem BB_3 {w : Nat → Int} {R : Nat → Nat → Nat} {G A : Nat → Nat} {lo : Nat → Int} {n : Nat} {way : Int} {b : Nat} (q : ¬ way = 1) (q2 : ¬ way = 2) (h : pk (pg (scF w R G A n way) lo) n (2 ^ n - 1) b) : BB w R G A lo n way b := by
  unfold BB
  rw [if_neg q, if_neg q2]
  exact h
theorem bestBy_ok {E : Ev} {M : Mm} {n : Nat} {w : Nat → Int} {R : Nat → Nat → Nat} {G A : Nat → Nat} {lo : Nat → Int} {way : Int} (hL : Lay E) (h : PB M n w R G A lo) (h1 : 1 ≤ n) (hway : rgI way) : Ok (f_Po_bestBy E M way) (fun r => (∃ b : Nat, r.1 = (b : Int) ∧ b < n ∧ BB w R G A lo n way b) ∧ Off oSc M r.2) := by
  have hH := h
  obtain ⟨hPS, h2, hn, hl, hw, hs, hr⟩ := h
  have hpw := pow_lt hn
  have hp2 : 2 ≤ 2 ^ n := Nat.pow_le_pow_right (show 1 ≤ 2 by decide) h1
  have hPD := hPS.pd h2 hn hw hs
  unfold f_Po_bestBy
  rw [hPS.1]
  refine ok_ck ⟨by omega, by omega⟩ (ok_if (fun q => by omega) (fun _ => ok_ck hway (ok_if (fun q => ?_) (fun q => ok_if (fun q2 => ?_) (fun q2 => ?_)))))
  · refine ok_bm (runoff_ok hL hH h1) ?_
    rintro ⟨x, N⟩ ⟨⟨b, b1, b2, b3⟩, hx⟩
    exact ok_some ⟨⟨b, b1, b2, BB_1 q b3⟩, hx⟩
  · refine ok_bm (winners_ok hL hPD hPS.1) ?_
    rintro ⟨x, N⟩ ⟨o1, P, hP, -, W, e1r, hW, hB⟩
    have e1 : x = (W : Int) := e1r
    have o1 : Off (fun i => i = 47) M N := o1
    subst e1
    have hBN := hH.off (o1.mono fun c hc => by unfold oSc; omega)
    have pos : 1 ≤ W := by
      obtain ⟨c, hc, hw2⟩ := win_some hP h1
      have := (hB c hc).mpr hw2
      rcases Nat.eq_zero_or_pos W with e | e
      · rw [e, Nat.zero_testBit] at this; cases this
      · exact e
    refine ok_bm (bestByLot_ok hBN.2.1 hn hBN.2.2.2.1 hW pos) ?_
    rintro r ⟨b, rfl, hb⟩
    exact ok_some ⟨⟨b, rfl, hb.1, BB_2 q q2 ⟨P, W, hP, ⟨hW, hB⟩, hb⟩⟩, o1.mono fun c hc => by unfold oSc; omega⟩
  · refine ok_bm (findScores_ok hL hH hway) ?_
    rintro N ⟨o1, hsc⟩
    have hBN := hH.off (o1.mono fun c hc => by unfold oSc; omega)
    rw [o1 41 (by decide), hPS.1]
    refine ok_bm (greatestOf_ok' hBN.2.1 hn hBN.2.2.2.1 hsc (show 2 ^ n - 1 < 2 ^ n by omega) (by omega)) ?_
    rintro r ⟨b, rfl, hb⟩
    exact ok_some ⟨⟨b, rfl, hb.1, BB_3 q q2 hb⟩, o1.mono fun c hc => by unfold oSc; omega⟩
