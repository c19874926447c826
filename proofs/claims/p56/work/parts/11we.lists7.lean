/-! THE LAW'S LISTS: drawn -/
theorem list_call {E : Ev} {M : Mm} {l : Nat} {x : Int} (h : LiS M l) (hl : l < 8) (hx0 : 0 ≤ x) (hx1 : x ≤ 10000000) (hR : Ring M) : Ok (f_B_list E M x) (fun a => Off (fun c => c = 1 ∨ (53 ≤ c ∧ c ≤ 56) ∨ (246 ≤ c ∧ c ≤ 248)) M a.2 ∧ Ring a.2 ∧ LiS a.2 (l + 1) ∧ (∀ k, k ≠ 0 → a.2 53 k = M 53 k) ∧ a.2 54 l = x ∧ a.2 55 l = 0 ∧ ∀ k, k < l → a.2 54 k = M 54 k ∧ a.2 55 k = M 55 k) := by
  unfold f_B_list
  rw [h.1, needRange_ok (by decide) hx0 hx1 (by decide), needRoom_ok (by omega) (by omega) (by decide)]
  refine ok_sb (ok_sb ?_)
  unfold f_Li_append
  rw [h.1, Int.toNat_natCast]
  obtain ⟨A, hA⟩ : ∃ A, A = u2 (u2 (u2 M 54 l x) 55 l 0) 56 l (l : Int) := ⟨_, rfl⟩
  rw [← hA]
  have a0 : A 53 0 = (l : Int) := by rw [hA, u2_ne (Or.inl (by decide)), u2_ne (Or.inl (by decide)), u2_ne (Or.inl (by decide))]; exact h.1
  rw [a0]
  refine ok_bm (R := fun a => a = ((l : Int), u2 A 53 0 ((l : Int) + 1))) (ok_ck (inN hl (by decide)) (ok_nb (ok_some rfl))) ?_
  rintro a rfl
  have oA : Off (fun c => 53 ≤ c ∧ c ≤ 56) M (u2 A 53 0 ((l : Int) + 1)) := by
    rw [hA]
    exact (((Off.refl.u2 (by decide)).u2 (by decide)).u2 (by decide)).u2 (by decide)
  refine ok_bm (remember_ok 5 (l : Int) 0 (hR.of (oA 1 (by decide)))) ?_
  rintro N ⟨n1, n2, -⟩
  have e53 : N 53 = u2 A 53 0 ((l : Int) + 1) 53 := n1 53 (by decide)
  have e54 : N 54 = A 54 := (n1 54 (by decide)).trans (u2_row (by decide))
  have e55 : N 55 = A 55 := (n1 55 (by decide)).trans (u2_row (by decide))
  have e56 : N 56 = A 56 := (n1 56 (by decide)).trans (u2_row (by decide))
  have a54 : ∀ k, A 54 k = if k = l then x else M 54 k := fun k => by
    rw [hA, u2_ne (Or.inl (by decide)), u2_ne (Or.inl (by decide)), u2_if]
    by_cases c : k = l
    · rw [if_pos ⟨rfl, c⟩, if_pos c]
    · rw [if_neg (fun q => c q.2), if_neg c]
  have a55 : ∀ k, A 55 k = if k = l then 0 else M 55 k := fun k => by
    rw [hA, u2_ne (Or.inl (by decide)), u2_if]
    by_cases c : k = l
    · rw [if_pos ⟨rfl, c⟩, if_pos c]
    · rw [if_neg (fun q => c q.2), if_neg c, u2_ne (Or.inl (by decide))]
  have a56 : ∀ k, A 56 k = if k = l then (l : Int) else M 56 k := fun k => by
    rw [hA, u2_if]
    by_cases c : k = l
    · rw [if_pos ⟨rfl, c⟩, if_pos c]
    · rw [if_neg (fun q => c q.2), if_neg c, u2_ne (Or.inl (by decide)), u2_ne (Or.inl (by decide))]
  have a53 : ∀ k, k ≠ 0 → A 53 k = M 53 k := fun k _ => by rw [hA, u2_row (by decide), u2_row (by decide), u2_row (by decide)]
  refine ok_some ⟨(oA.mono (fun c hc => Or.inr (Or.inl hc))).trans (n1.mono (fun c hc => by omega)), n2, ⟨?_, by omega, fun k hk => ?_⟩, fun k hk => ?_, ?_, ?_, fun k hk => ⟨?_, ?_⟩⟩
  · show N 53 0 = _
    rw [e53, u2_at]; rfl
  · show (0 ≤ N 54 k ∧ N 54 k ≤ 10000000) ∧ (0 ≤ N 55 k ∧ N 55 k ≤ 4) ∧ rgI (N 56 k)
    rw [e54, e55, e56, a54 k, a55 k, a56 k]
    by_cases c : k = l
    · rw [if_pos c, if_pos c, if_pos c]
      exact ⟨⟨hx0, hx1⟩, by decide, by omega, by omega⟩
    · rw [if_neg c, if_neg c, if_neg c]
      exact h.2.2 k (by omega)
  · show N 53 k = _
    rw [e53, u2_ne (Or.inr hk)]; exact a53 k hk
  · show N 54 l = x
    rw [e54, a54 l, if_pos rfl]
  · show N 55 l = 0
    rw [e55, a55 l, if_pos rfl]
  · show N 54 k = _
    rw [e54, a54 k, if_neg (by omega)]
  · show N 55 k = _
    rw [e55, a55 k, if_neg (by omega)]
theorem setLot_list {E : Ev} {M : Mm} {n l : Nat} {x : Int} (hL : Lay E) (h : LiS M n) (hl : l < n) (hx0 : 0 ≤ x) (hx1 : x ≤ 99) (hR : Ring M) : Ok (f_B_setLot E M 1 (l : Int) x) (fun a => Off (fun c => c = 1 ∨ c = 56 ∨ (246 ≤ c ∧ c ≤ 248)) M a.2 ∧ Ring a.2 ∧ LiS a.2 n) := by
  have h8 := h.2.1
  unfold f_B_setLot
  refine ok_ck (by decide) (ok_if (fun q => absurd q (by decide)) (fun _ => ?_))
  unfold B_setLot_j22
  rw [h.1, needIndex_ok (by omega) (by omega) (by omega), needRange_ok (by decide) hx0 hx1 (by decide)]
  refine ok_sb (ok_sb (ok_ck (by decide) (ok_if (fun q => absurd q (by decide)) (fun _ => ?_))))
  unfold B_setLot_j53
  rw [Int.toNat_natCast]
  refine ok_ck ⟨yi_56 hL, by rw [yt_56 hL]⟩ (ok_ck ⟨by omega, by rw [yt_56 hL]; show (l : Int) < 8; omega, by omega⟩ (ok_ck (by decide) (ok_if (fun q => absurd q (by decide)) (fun _ => ?_))))
  unfold B_setLot_j76
  refine ok_bm (remember_ok 2 (l : Int) (M 56 l) (hR.of (by rw [u2_row (by decide)]))) ?_
  rintro N ⟨n1, n2, -⟩
  refine ok_some ⟨(Off.refl.u2 (Or.inr (Or.inl rfl))).trans (n1.mono fun c hc => by omega), n2, ?_⟩
  have e53 : N 53 = M 53 := (n1 53 (by decide)).trans (u2_row (by decide))
  have e54 : N 54 = M 54 := (n1 54 (by decide)).trans (u2_row (by decide))
  have e55 : N 55 = M 55 := (n1 55 (by decide)).trans (u2_row (by decide))
  have e56 : N 56 = u2 M 56 l x 56 := n1 56 (by decide)
  refine ⟨by show N 53 0 = _; rw [e53]; exact h.1, h8, fun k hk => ?_⟩
  obtain ⟨b1, b2, b3⟩ := h.2.2 k hk
  refine ⟨by show 0 ≤ N 54 k ∧ N 54 k ≤ 10000000; rw [e54]; exact b1, by show 0 ≤ N 55 k ∧ N 55 k ≤ 4; rw [e55]; exact b2, ?_⟩
  show rgI (N 56 k)
  rw [e56, u2_if]
  by_cases c : k = l
  · rw [if_pos ⟨rfl, c⟩]; exact ⟨by omega, by omega⟩
  · rw [if_neg (fun q => c q.2)]; exact b3
def oLs (c : Nat) : Prop := c = 0 ∨ c = 1 ∨ (53 ≤ c ∧ c ≤ 56) ∨ (246 ≤ c ∧ c ≤ 248) ∨ c = 250
def LwI (M0 N : Mm) (l : Nat) (x : Int) : Prop := LiS N l ∧ x = sN (N 54) l ∧ (∀ k, k < l → N 250 k = N 54 k ∧ N 55 k = 0 ∧ N 54 k ≤ 100000) ∧ Ring N ∧ Off oLs M0 N ∧ ∀ k, k ≠ 0 → N 53 k = M0 53 k
theorem lj59_ok {E : Ev} {M0 M : Mm} {n l : Nat} {x4 y : Int} (hL : Lay E) (hq : isIA E 250) (ht : (tE E 250).2 = n) (hn : n ≤ 8) (hln : l < n) (h : LwI M0 M l x4) (hy0 : 0 ≤ y) (hy1 : y < 100000) : Ok (La_seats_j59 E M 0 (n : Int) 250 x4 (l : Int) y (l : Int) 250) (fun r => r.1 = 0 ∧ r.2.2.2.1 = E ∧ r.2.2.1 = ((l + 1 : Nat) : Int) ∧ LwI M0 r.2.2.2.2 (l + 1) r.2.1) := by
  obtain ⟨h1, h2, h3, h4, h5, h6⟩ := h
  have hi0 : isIA E 0 := ⟨yi_0 hL, by rw [yt_0 hL]⟩
  unfold La_seats_j59
  rw [ht, Int.toNat_natCast, u2_at]
  refine ok_ck hL (ok_ck hi0 (ok_ck hq (ok_ck hq (ok_ck (inN hln (by omega)) (ok_ck (inN hln (by omega)) (ok_ck ⟨by omega, by omega⟩ (ok_nb ?_)))))))
  have r53 : u2 M 250 l y 53 = M 53 := u2_row (by decide)
  have r54 : u2 M 250 l y 54 = M 54 := u2_row (by decide)
  have r55 : u2 M 250 l y 55 = M 55 := u2_row (by decide)
  refine ok_bm (list_call (l := l) (h1.of (by rw [r53]) r54 r55 (u2_row (by decide))) (by omega) hy0 (by omega) (h4.of (u2_row (by decide)))) ?_
  rintro ⟨a, A⟩ ⟨a1, a2, a3, a4, a5, a6, a7⟩
  have a1 : Off (fun c => c = 1 ∨ (53 ≤ c ∧ c ≤ 56) ∨ (246 ≤ c ∧ c ≤ 248)) (u2 M 250 l y) A := a1
  have a4 : ∀ k, k ≠ 0 → A 53 k = u2 M 250 l y 53 k := a4
  have a5 : A 54 l = y := a5
  have a6 : A 55 l = 0 := a6
  have a7 : ∀ k, k < l → A 54 k = u2 M 250 l y 54 k ∧ A 55 k = u2 M 250 l y 55 k := a7
  rw [r54, r55] at a7
  rw [r53] at a4
  have a250 : ∀ k, A 250 k = if k = l then y else M 250 k := fun k => by
    rw [a1 250 (by decide), u2_if]
    by_cases c : k = l
    · rw [if_pos ⟨rfl, c⟩, if_pos c]
    · rw [if_neg (fun q => c q.2), if_neg c]
  have oA : Off oLs M0 A := h5.trans ((Off.refl.u2 (by unfold oLs; decide)).trans (a1.mono (fun c hc => by unfold oLs; omega)))
  have key : ∀ B : Mm, B 54 = A 54 → B 55 = A 55 → B 250 = A 250 → (∀ k, k ≠ 0 → B 53 k = A 53 k) → LiS B (l + 1) → Ring B → Off oLs M0 B → LwI M0 B (l + 1) (x4 + y) := fun B b1 b2 b3 b4 b5 b6 b7 => by
    refine ⟨b5, ?_, fun k hk => ?_, b6, b7, fun k hk => ?_⟩
    · rw [b1, sN_succ, a5, h2, sN_congr (f := A 54) (g := M 54) (fun k hk => (a7 k hk).1)]
    · rw [b1, b2, b3, a250 k]
      by_cases c : k = l
      · rw [if_pos c, c, a5, a6]; exact ⟨rfl, rfl, by omega⟩
      · rw [if_neg c, (a7 k (by omega)).1, (a7 k (by omega)).2]; exact h3 k (by omega)
    · rw [b4 k hk, a4 k hk]; exact h6 k hk
  refine ok_bm (next_ok hi0 (by rw [yt_0 hL]) (by decide) (by decide)) ?_
  rintro ⟨b, B⟩ ⟨⟨b0, b3⟩, bo⟩
  have b0 : 0 ≤ b := b0
  have b3 : b < 3 := b3
  have bo : Off (fun c => c = 0) A B := bo
  have lsB : LiS B (l + 1) := LiS.of a3 (by rw [bo 53 (by decide)]) (bo 54 (by decide)) (bo 55 (by decide)) (bo 56 (by decide))
  have rB : Ring B := Ring.of a2 (bo 1 (by decide))
  refine ok_ck ⟨by omega, by omega⟩ (ok_if (fun _ => ?_) (fun _ => ?_))
  · refine ok_bm (next_ok hi0 (by rw [yt_0 hL]) (by decide) (by decide)) ?_
    rintro ⟨c, C⟩ ⟨⟨c0, c9⟩, co⟩
    have c0 : 0 ≤ c := c0
    have c9 : c < 100 := c9
    have co : Off (fun c => c = 0) B C := co
    refine ok_bm (setLot_list hL (lsB.of (by rw [co 53 (by decide)]) (co 54 (by decide)) (co 55 (by decide)) (co 56 (by decide))) (by omega) c0 (by omega) (rB.of (co 1 (by decide)))) ?_
    rintro ⟨d, D⟩ ⟨d1, d2, d3⟩
    have d1 : Off (fun c => c = 1 ∨ c = 56 ∨ (246 ≤ c ∧ c ≤ 248)) C D := d1
    have tr : ∀ i, i ≠ 0 → i ≠ 1 → i ≠ 56 → ¬ (246 ≤ i ∧ i ≤ 248) → D i = A i := fun i k1 k2 k3 k4 => (d1 i (by omega)).trans ((co i k1).trans (bo i k1))
    exact ok_some ⟨rfl, rfl, rfl, key D (tr 54 (by decide) (by decide) (by decide) (by decide)) (tr 55 (by decide) (by decide) (by decide) (by decide)) (tr 250 (by decide) (by decide) (by decide) (by decide)) (fun k _ => by rw [tr 53 (by decide) (by decide) (by decide) (by decide)]) d3 d2 (oA.trans ((bo.mono (fun c hc => by unfold oLs; omega)).trans ((co.mono (fun c hc => by unfold oLs; omega)).trans (d1.mono (fun c hc => by unfold oLs; omega)))))⟩
  · exact ok_some ⟨rfl, rfl, rfl, key B (bo 54 (by decide)) (bo 55 (by decide)) (bo 250 (by decide)) (fun k _ => by rw [bo 53 (by decide)]) lsB rB (oA.trans (bo.mono (fun c hc => by unfold oLs; omega)))⟩
theorem l27_ok {E : Ev} {M : Mm} {n : Nat} (hL : Lay E) (hq : isIA E 250) (ht : (tE E 250).2 = n) (hn : n ≤ 8) (h0 : LiS M 0) (hR : Ring M) : Ok (l_La_seats_27 0 (n : Int) 250 5000 E M 0 0) (fun r => r.1 = 1 ∧ r.2.2.2.1 = E ∧ LwI M r.2.2.2.2 n r.2.1) := by
  have hi0 : isIA E 0 := ⟨yi_0 hL, by rw [yt_0 hL]⟩
  refine L_La_seats_27 0 (n : Int) 250 (I := fun F N x4 x6 => F = E ∧ ∃ l : Nat, x6 = (l : Int) ∧ l ≤ n ∧ LwI M N l x4) (μ := fun _ _ _ x => n - x.toNat) ?_ 5000 E M 0 0 ⟨rfl, 0, rfl, Nat.zero_le _, h0, rfl, fun k hk => absurd hk (Nat.not_lt_zero k), hR, Off.refl, fun _ _ => rfl⟩ (by show n - _ < 5000; omega)
  rintro F N x4 x6 ⟨rfl, l, rfl, hl, hS⟩
  unfold La_seats_27b
  refine ok_ck hL (ok_ck hi0 (ok_ck hq (ok_ck (rgN (by omega)) (ok_ck (rgN (by omega)) (ok_if (fun c => ?_) (fun c => ?_))))))
  · have e : l = n := by omega
    subst e
    exact ok_some (ok_out ne0 ⟨rfl, rfl, hS⟩)
  · have hln : l < n := by omega
    have keep : ∀ B, Off (fun c => c = 0) N B → LwI M B l x4 := fun B bo => by
      obtain ⟨h1, h2, h3, h4, h5, h6⟩ := hS
      exact ⟨h1.of (by rw [bo 53 (by decide)]) (bo 54 (by decide)) (bo 55 (by decide)) (bo 56 (by decide)), by rw [bo 54 (by decide)]; exact h2, fun k hk => by rw [bo 250 (by decide), bo 54 (by decide), bo 55 (by decide)]; exact h3 k hk, h4.of (bo 1 (by decide)), h5.trans (bo.mono (fun c hc => by unfold oLs; omega)), fun k hk => by rw [bo 53 (by decide)]; exact h6 k hk⟩
    refine ok_bm (next_ok hi0 (by rw [yt_0 hL]) (by decide) (by decide)) ?_
    rintro ⟨b, B⟩ ⟨⟨b0, b3⟩, bo⟩
    have b0 : 0 ≤ b := b0
    have b3 : b < 3 := b3
    have bo : Off (fun c => c = 0) N B := bo
    refine ok_ck ⟨by omega, by omega⟩ (ok_if (fun _ => ?_) (fun _ => ?_))
    · refine ok_bm (next_ok hi0 (by rw [yt_0 hL]) (by decide) (by decide)) ?_
      rintro ⟨c, C⟩ ⟨⟨c0, c9⟩, co⟩
      have c0 : 0 ≤ c := c0
      have c9 : c < 20 := c9
      refine (lj59_ok hL hq ht hn hln (keep C (bo.trans co)) c0 (by omega)).mono ?_
      rintro ⟨t, w4, w6, F2, K⟩ ⟨g1, g2, g3, g4⟩
      have g1 : t = 0 := g1
      have g3 : w6 = ((l + 1 : Nat) : Int) := g3
      subst g1 g3
      exact ok_go rfl ⟨⟨g2, l + 1, rfl, by omega, g4⟩, cnt hln⟩
    · refine ok_bm (next_ok hi0 (by rw [yt_0 hL]) (by decide) (by decide)) ?_
      rintro ⟨c, C⟩ ⟨⟨c0, c9⟩, co⟩
      have c0 : 0 ≤ c := c0
      have c9 : c < 100000 := c9
      refine (lj59_ok hL hq ht hn hln (keep C (bo.trans co)) c0 (by omega)).mono ?_
      rintro ⟨t, w4, w6, F2, K⟩ ⟨g1, g2, g3, g4⟩
      have g1 : t = 0 := g1
      have g3 : w6 = ((l + 1 : Nat) : Int) := g3
      subst g1 g3
      exact ok_go rfl ⟨⟨g2, l + 1, rfl, by omega, g4⟩, cnt hln⟩
