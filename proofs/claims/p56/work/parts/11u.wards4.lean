/-! THE LAW'S DISTRICTS: its loops -/
theorem Wappend_ok {E : Ev} {M : Mm} {x a b : Int} {n : Nat} (h0 : M 219 0 = (n : Int)) (hn : n < 16) : Ok (f_Wa_append E M x a b) (fun r => r = ((n : Int), u2 (u2 (u2 (u2 M 220 n x) 222 n a) 223 n b) 219 0 ((n : Int) + 1))) := by
  unfold f_Wa_append
  rw [h0, Int.toNat_natCast]
  refine ok_ck ⟨by omega, by omega, by omega⟩ (ok_nb (ok_some ?_))
  rw [u2_ne (Or.inl (by decide)), u2_ne (Or.inl (by decide)), u2_ne (Or.inl (by decide)), h0]
theorem ward_ok {E : Ev} {M : Mm} {x a b : Int} {n : Nat} (hx0 : 1 ≤ x) (hx1 : x ≤ 100000) (ha0 : 0 ≤ a) (ha1 : a ≤ 100000) (hb0 : 0 ≤ b) (hb1 : b ≤ 100000) (h0 : M 219 0 = (n : Int)) (hn : n < 16) (hR : Ring M) : Ok (f_B_ward E M x a b) (fun r => r.1 = (n : Int) ∧ Off (fun i => i = 1 ∨ i = 219 ∨ i = 220 ∨ i = 222 ∨ i = 223 ∨ i = 246 ∨ i = 247 ∨ i = 248) M r.2 ∧ Ring r.2 ∧ r.2 219 0 = (n : Int) + 1 ∧ r.2 220 n = x ∧ r.2 222 n = a ∧ r.2 223 n = b ∧ ∀ k, k ≠ n → r.2 220 k = M 220 k ∧ r.2 222 k = M 222 k ∧ r.2 223 k = M 223 k) := by
  unfold f_B_ward
  rw [needRange_ok (by omega) hx0 hx1 (by omega), needRange_ok (by omega) ha0 ha1 (by omega), needRange_ok (by omega) hb0 hb1 (by omega), needRoom_ok (by omega) (by omega) (by omega)]
  refine ok_sb (ok_sb (ok_sb (ok_sb (ok_bm (Wappend_ok h0 hn) ?_))))
  rintro r rfl
  refine ok_bm (remember_ok 10 (n : Int) 0 (hR.of (by rw [u2_row (by decide), u2_row (by decide), u2_row (by decide), u2_row (by decide)]))) ?_
  rintro N ⟨a1, a2, -⟩
  have e0 : N 219 = _ := a1 219 (by decide)
  have e1 : N 220 = _ := a1 220 (by decide)
  have e2 : N 222 = _ := a1 222 (by decide)
  have e3 : N 223 = _ := a1 223 (by decide)
  refine ok_some ⟨rfl, ?_, a2, ?_, ?_, ?_, ?_, fun k hk => ⟨?_, ?_, ?_⟩⟩
  · exact ((((Off.refl.u2 (Or.inr (Or.inr (Or.inl rfl)))).u2 (Or.inr (Or.inr (Or.inr (Or.inl rfl))))).u2 (Or.inr (Or.inr (Or.inr (Or.inr (Or.inl rfl)))))).u2 (Or.inr (Or.inl rfl))).trans (a1.mono fun i hi => by omega)
  · show N 219 0 = _
    rw [e0, u2_at]
  · show N 220 n = _
    rw [e1, u2_ne (Or.inl (by decide)), u2_ne (Or.inl (by decide)), u2_ne (Or.inl (by decide)), u2_at]
  · show N 222 n = _
    rw [e2, u2_ne (Or.inl (by decide)), u2_ne (Or.inl (by decide)), u2_at]
  · show N 223 n = _
    rw [e3, u2_ne (Or.inl (by decide)), u2_at]
  · show N 220 k = _
    rw [e1, u2_ne (Or.inl (by decide)), u2_ne (Or.inl (by decide)), u2_ne (Or.inl (by decide)), u2_ne (Or.inr hk)]
  · show N 222 k = _
    rw [e2, u2_ne (Or.inl (by decide)), u2_ne (Or.inl (by decide)), u2_ne (Or.inr hk), u2_ne (Or.inl (by decide))]
  · show N 223 k = _
    rw [e3, u2_ne (Or.inl (by decide)), u2_ne (Or.inr hk), u2_ne (Or.inl (by decide)), u2_ne (Or.inl (by decide))]
/-- wards drawn: what memory holds -/
def WM (M : Mm) (q3 n : Nat) : Prop := M 219 0 = (n : Int) ∧ ∀ k, k < n → M q3 k = M 220 k ∧ (1 ≤ M 220 k ∧ M 220 k ≤ 50) ∧ (0 ≤ M 222 k ∧ M 222 k ≤ 29) ∧ (0 ≤ M 223 k ∧ M 223 k ≤ 29)
theorem L24_ok {E : Ev} {M : Mm} {n q3 : Nat} (hL : Lay E) (hq3 : isIA E q3) (hl : (tE E q3).2 = n) (hbig : 250 ≤ q3) (hn : n ≤ 8) (h0 : M 219 0 = 0) (hR : Ring M) : Ok (l_La_districts_24 0 (n : Int) q3 5000 E M 0) (fun r => r.1 = 1 ∧ r.2.2.1 = E ∧ WM r.2.2.2 q3 n ∧ Ring r.2.2.2) := by
  refine L_La_districts_24 0 (n : Int) q3 (I := fun F N x => F = E ∧ ∃ m : Nat, x = (m : Int) ∧ m ≤ n ∧ WM N q3 m ∧ Ring N) (μ := fun _ _ x => n - x.toNat) (Q := fun r => r.1 = 1 ∧ r.2.2.1 = E ∧ WM r.2.2.2 q3 n ∧ Ring r.2.2.2) ?_ 5000 E M 0 ⟨rfl, 0, rfl, Nat.zero_le _, ⟨h0, fun k hk => absurd hk (Nat.not_lt_zero k)⟩, hR⟩ (by show n - _ < 5000; omega)
  rintro F N x ⟨rfl, m, rfl, hm, hW, hRN⟩
  unfold La_districts_24b
  have hi0 : isIA F 0 := ⟨yi_0 hL, by rw [yt_0 hL]⟩
  have h02 : (tE F 0).2 = 1 := by rw [yt_0 hL]
  refine ok_ck hL (ok_ck hi0 (ok_ck hq3 (ok_ck (rgI_nat (by omega)) (ok_ck (rgI_nat (by omega)) (ok_if (fun c => ?_) (fun c => ?_))))))
  · have e : m = n := by omega
    subst e
    exact ok_some (ok_out (by show (1 : Nat) ≠ 0; decide) ⟨rfl, rfl, hW, hRN⟩)
  · have hmn : m < n := by omega
    refine ok_bm (next_ok hi0 h02 (by decide) (by decide)) ?_
    rintro ⟨x, N2⟩ ⟨⟨ux0, ux1⟩, uo⟩
    have x0 : 0 ≤ x := ux0
    have x1 : x < 50 := ux1
    have o2 : Off (fun i => i = 0) N N2 := uo
    refine ok_ck (show inb (m : Int) (tE F q3).2 from ⟨by omega, by omega, by omega⟩) ?_
    refine ok_bm (next_ok hi0 h02 (by decide) (by decide)) ?_
    rintro ⟨a, N3⟩ ⟨⟨ua0, ua1⟩, ua⟩
    have a0 : 0 ≤ a := ua0
    have a1 : a < 30 := ua1
    have o3 : Off (fun i => i = 0) (u2 N2 q3 (m : Int).toNat (1 + x)) N3 := ua
    refine ok_bm (next_ok hi0 h02 (by decide) (by decide)) ?_
    rintro ⟨b, N4⟩ ⟨⟨ub0, ub1⟩, ub⟩
    have b0 : 0 ≤ b := ub0
    have b1 : b < 30 := ub1
    have o4 : Off (fun i => i = 0) N3 N4 := ub
    show Ok ((f_B_ward F N4 (u2 N2 q3 (m : Int).toNat (1 + x) q3 (m : Int).toNat) a b).bind _) _
    rw [Int.toNat_natCast] at o3 ⊢
    rw [u2_at]
    have ee : ∀ i, i ≠ 0 → i ≠ q3 → N4 i = N i := fun i h1 h2 => by rw [o4 i h1, o3 i h1, u2_row h2, o2 i h1]
    have eq : ∀ k, N4 q3 k = if k = m then 1 + x else N q3 k := fun k => by
      rw [o4 q3 (by omega), o3 q3 (by omega)]
      by_cases e : k = m
      · rw [if_pos e, e, u2_at]
      · rw [if_neg e, u2_ne (Or.inr e), o2 q3 (by omega)]
    refine ok_bm (ward_ok (n := m) (by omega) (by omega) a0 (by omega) b0 (by omega) (by rw [ee 219 (by decide) (by omega)]; exact hW.1) (by omega) (hRN.of (ee 1 (by decide) (by omega)))) ?_
    rintro ⟨y, K⟩ ⟨-, u1, u2', u3, u4, u5, u6, u7⟩
    have u1 : Off (fun i => i = 1 ∨ i = 219 ∨ i = 220 ∨ i = 222 ∨ i = 223 ∨ i = 246 ∨ i = 247 ∨ i = 248) N4 K := u1
    have u3 : K 219 0 = (m : Int) + 1 := u3
    have u4 : K 220 m = 1 + x := u4
    have u5 : K 222 m = a := u5
    have u6 : K 223 m = b := u6
    have u7 : ∀ k, k ≠ m → K 220 k = N4 220 k ∧ K 222 k = N4 222 k ∧ K 223 k = N4 223 k := u7
    refine ok_some (ok_go rfl ⟨⟨rfl, m + 1, by show (m : Int) + 1 = _; omega, by omega, ⟨by show K 219 0 = _; rw [u3]; omega, fun k hk => ?_⟩, u2'⟩, by show n - ((m : Int) + 1).toNat < n - (m : Int).toNat; omega⟩)
    show K q3 k = K 220 k ∧ (1 ≤ K 220 k ∧ K 220 k ≤ 50) ∧ (0 ≤ K 222 k ∧ K 222 k ≤ 29) ∧ (0 ≤ K 223 k ∧ K 223 k ≤ 29)
    rw [u1 q3 (by omega), eq k]
    by_cases e : k = m
    · subst e
      rw [if_pos rfl, u4, u5, u6]
      exact ⟨rfl, ⟨by omega, by omega⟩, ⟨by omega, by omega⟩, by omega, by omega⟩
    · obtain ⟨v1, v2, v3⟩ := u7 k e
      rw [if_neg e, v1, v2, v3, ee 220 (by decide) (by omega), ee 222 (by decide) (by omega), ee 223 (by decide) (by omega)]
      exact hW.2 k (by omega)
/-- a mask's districts: their ends, the greatest -/
theorem L136_ok2 {E : Ev} {M : Mm} {n d S q3 q6 q10 : Nat} {x5 : Int} {w : Nat → Int} (hL : Lay E) (hq3 : isIA E q3) (hl3 : (tE E q3).2 = n) (hq6 : isIA E q6) (hq10 : isIA E q10) (hl : (tE E q10).2 = d) (hne : q10 ≠ q3) (hn1 : 1 ≤ n) (hn : n ≤ 8) (hd : (mE S n n).length = d) (hw : ∀ k, 0 ≤ w k ∧ w k ≤ 50) (hM : ∀ k, k < n → M q3 k = w k) (hS : S < 2147483648) : Ok (l_La_districts_136 (n : Int) q3 (d : Int) x5 q6 (S : Int) q10 5000 E M 0 0 0 0) (fun r => r.1 = 1 ∧ r.2.1 = gr w 0 (mE S n n) ∧ r.2.2.2.2.2.1 = E ∧ Off (fun i => i = q10) M r.2.2.2.2.2.2 ∧ ∀ i, i < d → r.2.2.2.2.2.2 q10 i = ((mE S n n).getD i 0 : Int)) := by
  have bN := fun k => sN_bound hw k
  have hd8 := DV_len (mE_DV S n hn1 (Nat.le_refl n) (Nat.zero_le _))
  rw [hd] at hd8
  refine L_La_districts_136 (n : Int) q3 (d : Int) x5 q6 (S : Int) q10 (I := fun F N x8 x9 x11 x12 => F = E ∧ ∃ (k s : Nat) (pre : List Nat), x12 = (k : Int) ∧ k ≤ n ∧ s ≤ k ∧ x11 = (pre.length : Int) ∧ pre ++ mE S n (n - k) = mE S n n ∧ x9 = sN w k - sN w s ∧ (0 ≤ x8 ∧ x8 ≤ 400) ∧ max x8 (gr w s (mE S n (n - k))) = gr w 0 (mE S n n) ∧ Off (fun i => i = q10) M N ∧ ∀ i, i < pre.length → N q10 i = (pre.getD i 0 : Int)) (μ := fun _ _ _ _ _ x => n - x.toNat) (Q := fun r => r.1 = 1 ∧ r.2.1 = gr w 0 (mE S n n) ∧ r.2.2.2.2.2.1 = E ∧ Off (fun i => i = q10) M r.2.2.2.2.2.2 ∧ ∀ i, i < d → r.2.2.2.2.2.2 q10 i = ((mE S n n).getD i 0 : Int)) ?_ 5000 E M 0 0 0 0 ⟨rfl, 0, 0, [], rfl, Nat.zero_le _, Nat.le_refl _, rfl, rfl, rfl, ⟨Int.le_refl 0, by decide⟩, ?_, Off.refl, fun i hi => absurd hi (Nat.not_lt_zero i)⟩ (by show n - _ < 5000; omega)
  · rintro F N x8 x9 x11 x12 ⟨rfl, k, s, pre, rfl, hk, hs, rfl, happ, hx9, hx8, hmax, ho, hpre⟩
    unfold La_districts_136b
    refine ok_ck hL (ok_ck hq3 (ok_ck hq6 (ok_ck hq10 (ok_ck (rgI_nat (by omega)) (ok_ck (rgI_nat (by omega)) (ok_if (fun c => ?_) (fun c => ?_)))))))
    · have e : k = n := by omega
      subst e
      rw [Nat.sub_self] at happ hmax
      have happ : pre ++ [] = mE S k k := happ
      rw [List.append_nil] at happ
      have hmax : max x8 0 = gr w 0 (mE S k k) := hmax
      refine ok_some (ok_out (by show (1 : Nat) ≠ 0; decide) ⟨rfl, ?_, rfl, ho, fun i hi => ?_⟩)
      · show x8 = _
        omega
      · show N q10 i = _
        rw [← happ]
        exact hpre i (by rw [happ]; omega)
    · have hkn : k < n := by omega
      have b1 := bN s
      have b2 := bN k
      have b3 := hw k
      have b4 := sN_mono (fun k => (hw k).1) hs
      have b5 : (k : Int) * 50 ≤ 350 := by omega
      rw [Int.toNat_natCast, ho q3 (Ne.symm hne), hM k hkn, hl3]
      refine ok_ck ⟨by omega, by omega, by omega⟩ (ok_ck ⟨by omega, by omega⟩ ?_)
      rw [mE_step S hkn] at happ hmax
      -- an end at k
      have fin : (k + 1 = n ∨ bt S k = 1) → Ok (La_districts_j170 F N (n : Int) q3 (d : Int) x5 q6 (S : Int) x8 (x9 + w k) q10 (pre.length : Int) (k : Int)) (fun r => (r.1 = 0 → (r.2.2.2.2.2.1 = F ∧ ∃ (k s : Nat) (pre : List Nat), r.2.2.2.2.1 = (k : Int) ∧ k ≤ n ∧ s ≤ k ∧ r.2.2.2.1 = (pre.length : Int) ∧ pre ++ mE S n (n - k) = mE S n n ∧ r.2.2.1 = sN w k - sN w s ∧ (0 ≤ r.2.1 ∧ r.2.1 ≤ 400) ∧ max r.2.1 (gr w s (mE S n (n - k))) = gr w 0 (mE S n n) ∧ Off (fun i => i = q10) M r.2.2.2.2.2.2 ∧ ∀ i, i < pre.length → r.2.2.2.2.2.2 q10 i = (pre.getD i 0 : Int)) ∧ n - r.2.2.2.2.1.toNat < n - (k : Int).toNat) ∧ (r.1 ≠ 0 → r.1 = 1 ∧ r.2.1 = gr w 0 (mE S n n) ∧ r.2.2.2.2.2.1 = F ∧ Off (fun i => i = q10) M r.2.2.2.2.2.2 ∧ ∀ i, i < d → r.2.2.2.2.2.2 q10 i = ((mE S n n).getD i 0 : Int))) := fun hc => by
        rw [if_pos hc] at happ hmax
        have hlen : pre.length < d := by
          rw [← hd, ← happ, List.length_append, List.length_cons]
          omega
        have hmax : max x8 (max (sm w s k) (gr w (k + 1) (mE S n (n - k - 1)))) = gr w 0 (mE S n n) := hmax
        have e9 : sm w s k = x9 + w k := by unfold sm; rw [sN_succ]; omega
        unfold La_districts_j170
        rw [Int.toNat_natCast]
        refine ok_ck hL (ok_ck hq3 (ok_ck hq6 (ok_ck hq10 (ok_ck ⟨by omega, by omega⟩ (ok_ck ⟨by omega, by omega⟩ (ok_ck ⟨by omega, by omega, by omega⟩ (ok_some (ok_go rfl ⟨⟨rfl, k + 1, k + 1, pre ++ [k], by show (k : Int) + 1 = _; omega, by omega, Nat.le_refl _, ?_, ?_, by show (0 : Int) = _; omega, ⟨by show 0 ≤ max x8 (x9 + w k); omega, by show max x8 (x9 + w k) ≤ 400; omega⟩, ?_, ho.u2 rfl, fun i hi => ?_⟩, by show n - ((k : Int) + 1).toNat < n - (k : Int).toNat; omega⟩))))))))
        · show (pre.length : Int) + 1 = _
          rw [List.length_append]
          rfl
        · rw [List.append_assoc, show n - (k + 1) = n - k - 1 by omega]
          exact happ
        · show max (max x8 (x9 + w k)) (gr w (k + 1) (mE S n (n - (k + 1)))) = _
          rw [show n - (k + 1) = n - k - 1 by omega, ← hmax, e9]
          omega
        · rw [List.length_append] at hi
          have hi : i < pre.length + 1 := hi
          show u2 N q10 pre.length (k : Int) q10 i = _
          by_cases e : i = pre.length
          · rw [e, u2_at, getD_app_at]
          · rw [u2_ne (Or.inr e), hpre i (by omega), getD_app_l _ _ _ (by omega)]
      refine ok_if (fun c1 => fin (Or.inl (by omega))) (fun c1 => ?_)
      rw [bt_int]
      refine ok_ck ⟨by omega, by omega⟩ (ok_ck ⟨by omega, by omega⟩ (ok_if (fun c2 => fin (Or.inr (by omega))) (fun c2 => ?_)))
      have hc : ¬ (k + 1 = n ∨ bt S k = 1) := fun q => by
        rcases q with q | q <;> omega
      rw [if_neg hc] at happ hmax
      refine ok_some (ok_go rfl ⟨⟨rfl, k + 1, s, pre, by show (k : Int) + 1 = _; omega, by omega, by omega, rfl, by rw [show n - (k + 1) = n - k - 1 by omega]; exact happ, ?_, hx8, by rw [show n - (k + 1) = n - k - 1 by omega]; exact hmax, ho, hpre⟩, by show n - ((k : Int) + 1).toNat < n - (k : Int).toNat; omega⟩)
      show x9 + w k = _
      rw [sN_succ]; omega
  · rw [Nat.sub_zero]
    have : 0 ≤ gr w 0 (mE S n n) := by
      have h1 := wT_le (w := w) (mE_DV S n hn1 (Nat.le_refl n) (Nat.zero_le _))
      have h2 := (wT_range w n (mE S n n).length 0).1
      omega
    omega
