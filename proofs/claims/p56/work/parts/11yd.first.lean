theorem t223_ok {E : Ev} {M : Mm} {q1 n kk k : Nat} {C : Nat → Int} {G : Nat → Nat} {R : Nat → Nat → Nat} {x8 x9 : Int} (hL : Lay E) (h : LB E M q1 n kk C G R) (hn : n ≤ 5) (hk : k < kk) (hg : G k ≤ 5) : Ok (l_La_transferable_223 q1 x8 x9 (k : Int) 5000 E M 0 0) (fun r => r.1 = 1 ∧ r.2.1 = tN (R k) (G k) n ∧ r.2.2.2.1 = E ∧ r.2.2.2.2 = M) := by
  obtain ⟨a1, a2, a3, a4, a5, pr, pm, b1, b2, b3, b4, b5, b6, b7, b8, b9, b10⟩ := h
  obtain ⟨p, p1, p2, p3, p4, p5⟩ := b10 k hk
  refine L_La_transferable_223 q1 x8 x9 (k : Int) (I := fun F N x12 x13 => F = E ∧ N = M ∧ ∃ i : Nat, x13 = (i : Int) ∧ i ≤ n ∧ x12 = sN (fun c => ind (lrk (R k c) (G k) = 0)) i) (μ := fun _ _ _ x13 => n - x13.toNat) ?_ 5000 E M 0 0 ⟨rfl, rfl, 0, rfl, Nat.zero_le _, rfl⟩ (by show n - _ < 5000; omega)
  rintro F N x12 x13 ⟨rfl, rfl, i, rfl, hi, rfl⟩
  unfold La_transferable_223b
  rw [a3]
  refine ok_ck hL (ok_ck a1 (ok_ck (rgN (by omega)) (ok_ck (rgN (by omega)) (ok_if (fun z => ?_) (fun z => ?_)))))
  · have e : i = n := by omega
    subst e
    exact ok_some (ok_out ne0 ⟨rfl, rfl, rfl, rfl⟩)
  · have hin : i < n := by omega
    rw [b1]
    refine ok_sb (ok_ck b2 (ok_ck (by rw [b3]; exact inN (by omega) (by decide)) ?_))
    rw [Int.toNat_natCast, p1]
    refine ok_sb (ok_ck p3 (ok_ck (by rw [p4]; exact inN hin (by omega)) ?_))
    have lb := lrk_b (R k i) (G k) hg
    rw [Int.toNat_natCast, p5 i hin]
    refine ok_ck ⟨by omega, by omega⟩ (ok_if (fun w => ?_) (fun w => ?_))
    · refine ok_some (ok_go rfl ⟨⟨rfl, rfl, i + 1, c1 i, by omega, ?_⟩, cnt hin⟩)
      show sN (fun c => ind (lrk (R k c) (G k) = 0)) i + 1 = _
      rw [sN_succ, ind_t w]
    · refine ok_some (ok_go rfl ⟨⟨rfl, rfl, i + 1, c1 i, by omega, ?_⟩, cnt hin⟩)
      show sN (fun c => ind (lrk (R k c) (G k) = 0)) i + 0 = _
      rw [sN_succ, ind_f w]
theorem t208_ok {E : Ev} {M : Mm} {q1 n kk c : Nat} {C : Nat → Int} {G : Nat → Nat} {R : Nat → Nat → Nat} {A : Nat → Nat} (hL : Lay E) (h : LB E M q1 n kk C G R) (hB : BX M n kk C G R A) (hn : n ≤ 5) (hc : c < n) : Ok (l_La_transferable_208 q1 (c : Int) 5000 E M 0 0) (fun r => r.1 = 1 ∧ r.2.1 = FP kk C G R n c ∧ r.2.2.2.1 = E ∧ r.2.2.2.2 = M) := by
  have hh := h
  obtain ⟨a1, a2, a3, a4, a5, pr, pm, b1, b2, b3, b4, b5, b6, b7, b8, b9, b10⟩ := h
  refine L_La_transferable_208 q1 (c : Int) (I := fun F N x9 x11 => F = E ∧ N = M ∧ ∃ k : Nat, x11 = (k : Int) ∧ k ≤ kk ∧ x9 = sN (fun k => C k * ind (lrk (R k c) (G k) = 0) * (840 / tN (R k) (G k) n)) k) (μ := fun _ _ _ x11 => kk - x11.toNat) ?_ 5000 E M 0 0 ⟨rfl, rfl, 0, rfl, Nat.zero_le _, rfl⟩ (by show kk - _ < 5000; omega)
  rintro F N x9 x11 ⟨rfl, rfl, k, rfl, hk, rfl⟩
  unfold La_transferable_208b
  rw [a4]
  refine ok_ck hL (ok_ck a1 (ok_ck (rgN (by omega)) (ok_ck (rgN (by omega)) (ok_if (fun z => ?_) (fun z => ?_)))))
  · have e : k = kk := by omega
    subst e
    exact ok_some (ok_out ne0 ⟨rfl, rfl, rfl, rfl⟩)
  · have hkk : k < kk := by omega
    obtain ⟨rk, ck', cp⟩ := hB.2.2.2.2.1 k hkk
    have hg : G k ≤ 5 := by have := rk.2.2.1; omega
    have cs := sN_term (f := C) (fun i hi => (hB.2.2.2.2.1 i hi).2.2) hkk
    have hs := hB.2.2.2.2.2
    obtain ⟨p, p1, p2, p3, p4, p5⟩ := b10 k hkk
    have lb := lrk_b (R k c) (G k) hg
    refine ok_bm (t223_ok hL hh hn hkk hg) ?_
    rintro ⟨t, x12, x13, F2, N2⟩ ⟨g1, g2r, g3r, g4r⟩
    have g2 : x12 = tN (R k) (G k) n := g2r
    have g3 : F2 = F := g3r
    have g4 : N2 = N := g4r
    subst g2 g3 g4
    refine ok_ck (gw_self _) (ok_ck hL (ok_ck g1 ?_))
    show Ok ((rE F2 q1 1).bind _) _
    rw [b1]
    refine ok_sb (ok_ck b2 (ok_ck (by rw [b3]; exact inN (by omega) (by decide)) ?_))
    rw [Int.toNat_natCast, p1]
    refine ok_sb (ok_ck p3 (ok_ck (by rw [p4]; exact inN hc (by omega)) ?_))
    rw [Int.toNat_natCast, p5 c hc]
    refine ok_ck ⟨by omega, by omega⟩ (ok_if (fun w => ?_) (fun w => ?_))
    · have t0 : ∀ i, i < n → 0 ≤ ind (lrk (R k i) (G k) = 0) := fun i _ => (ind_01 _).1
      have t1 := sN_term (f := fun c => ind (lrk (R k c) (G k) = 0)) t0 hc
      have e1 : ind (lrk (R k c) (G k) = 0) = 1 := ind_t w
      have tp : 1 ≤ tN (R k) (G k) n := by
        have t1 : ind (lrk (R k c) (G k) = 0) ≤ tN (R k) (G k) n := t1
        omega
      have t9 : tN (R k) (G k) n ≤ 2147483647 := by
        have := sN_le (f := fun c => ind (lrk (R k c) (G k) = 0)) (g := fun _ => 1) (n := n) (fun i _ => (ind_01 _).2)
        have e : sN (fun _ => (1 : Int)) n ≤ 5 := by
          have key : ∀ m : Nat, sN (fun _ => (1 : Int)) m = (m : Int) := fun m => by
            induction m with
            | zero => rfl
            | succ m ih => rw [sN_succ, ih]; rfl
          rw [key]; omega
        unfold tN
        omega
      have d0 : 0 ≤ 840 / tN (R k) (G k) n := Int.ediv_nonneg (by decide) (by omega)
      have d1 : 840 / tN (R k) (G k) n ≤ 840 := Int.ediv_le_self _ (by decide)
      rw [b5]
      refine ok_sb (ok_ck b6 (ok_ck (by rw [b7]; exact inN (by omega) (by decide)) ?_))
      rw [b9 k hkk]
      refine ok_ck ⟨by omega, by omega⟩ (ok_ck ⟨by omega, t9⟩ (ok_ck ⟨by omega, by omega⟩ (ok_nb (ok_some (ok_go rfl ⟨⟨rfl, rfl, k + 1, c1 k, by omega, ?_⟩, cnt hkk⟩)))))
      show sN (fun k => C k * ind (lrk (R k c) (G k) = 0) * (840 / tN (R k) (G k) n)) k + C k * (840 / tN (R k) (G k) n) = _
      rw [sN_succ, e1, Int.mul_one]
    · refine ok_some (ok_go rfl ⟨⟨rfl, rfl, k + 1, c1 k, by omega, ?_⟩, cnt hkk⟩)
      show sN (fun k => C k * ind (lrk (R k c) (G k) = 0) * (840 / tN (R k) (G k) n)) k + 0 = _
      rw [sN_succ, ind_f w, Int.mul_zero, Int.zero_mul]
