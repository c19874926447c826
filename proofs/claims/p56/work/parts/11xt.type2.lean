theorem STR.off {E : Ev} {M N : Mm} {q L : Nat} {s : Nat → Nat} {S : Nat → Prop} (h : STR E M q L s) (ho : Off S M N) (hS : ∀ c, 250 ≤ c → c < nE E → ¬ S c) : STR E N q L s := by
  obtain ⟨a, b, qa, c, d, e, f, g, i⟩ := h
  exact ⟨a, b, qa, c, d, e, f, by rw [ho q (hS q b a.1)]; exact g, fun k hk => by rw [ho qa (hS qa e d.1)]; exact i k hk⟩
theorem stLen_ok {E : Ev} {M : Mm} {q L : Nat} {s : Nat → Nat} (h : STR E M q L s) (hL : L ≤ 30) : Ok (f_St_length E M q) (fun r => r = (L : Int)) := by
  obtain ⟨a, b, qa, c, d, e, f, g, i⟩ := h
  unfold f_St_length f_St_coder
  rw [c, g]
  refine ok_ck a (ok_sb (ok_ck d (ok_bm (R := fun y => y = 0) (ok_ck a (ok_ck (by decide) (ok_some rfl))) ?_)))
  rintro y rfl
  refine ok_ck (by rw [f]; exact rgN (by omega)) (ok_ck (by decide) (ok_some ?_))
  rw [f, show (2 : Int) ^ (Int.toNat 0) = 1 by decide, Int.ediv_one]
theorem charAt_ok {E : Ev} {M : Mm} {q L x : Nat} {s : Nat → Nat} (h : STR E M q L s) (hL : L ≤ 30) (hx : x < L) (hs : s x ≤ 127) : Ok (f_St_charAt E M q (x : Int)) (fun r => r = (s x : Int)) := by
  obtain ⟨a, b, qa, c, d, e, f, g, i⟩ := h
  unfold f_St_charAt f_St_isLatin1
  rw [c, g]
  refine ok_ck a (ok_bm (R := fun y => y = 1) (ok_ck a (ok_ck (by decide) (ok_if (fun _ => ok_some rfl) (fun z => absurd rfl z)))) ?_)
  rintro y rfl
  refine ok_ck (by decide) (ok_if (fun z => absurd z (by decide)) (fun _ => ok_sb (ok_ck d (ok_bm (R := fun y => y = (s x : Int)) ?_ ?_))))
  · unfold f_Sl_charAt f_St_checkIndex f_Pr_checkIndex
    have e256 : M qa (x : Int).toNat % 256 = (s x : Int) := by rw [Int.toNat_natCast, i x hx]; omega
    rw [e256]
    refine ok_ck d (ok_bm (R := fun _ => True) (ok_bm (R := fun _ => True) (ok_ck (rgN (by omega)) (ok_if (fun z => by omega) (fun _ => ok_ck (by rw [f]; exact rgN (by omega)) (ok_if (fun _ => ok_some trivial) (fun z => by rw [f] at z; omega))))) (fun _ _ => ok_some trivial)) ?_)
    intro _ _
    exact ok_ck (by rw [f]; exact inN hx (by omega)) (ok_ck ⟨by omega, by omega⟩ (ok_ck ⟨by omega, by omega⟩ (ok_some rfl)))
  · rintro y rfl
    exact ok_ck ⟨by omega, by omega⟩ (ok_some rfl)
theorem type_ok {E : Ev} {M : Mm} {q L : Nat} {s : Nat → Nat} (h : STR E M q L s) (hL : L ≤ 30) (h1 : ∀ i, i < L → 1 ≤ s i ∧ s i ≤ 127) (hM : M 2 1 = 0) : Ok (f_La_type E M q) (fun N => Off (fun c => c = 2 ∨ c = 3) M N ∧ (∀ c, c ≠ 1 → N 2 c = M 2 c) ∧ N 2 1 = (L : Int) ∧ ∀ i, i < L → N 3 i = (s i : Int)) := by
  have hq := h.1
  unfold f_La_type
  refine ok_ck hq (ok_bm (R := fun r => r.1 = 1 ∧ Off (fun c => c = 2 ∨ c = 3) M r.2.2 ∧ (∀ c, c ≠ 1 → r.2.2 2 c = M 2 c) ∧ r.2.2 2 1 = (L : Int) ∧ ∀ i, i < L → r.2.2 3 i = (s i : Int)) ?_ ?_)
  · refine L_La_type_2 E q (I := fun N x => ∃ j : Nat, x = ((8 * j : Nat) : Int) ∧ Off (fun c => c = 2 ∨ c = 3) M N ∧ (∀ c, c ≠ 1 → N 2 c = M 2 c) ∧ N 2 1 = ((min (8 * j) L : Nat) : Int) ∧ (∀ i, i < min (8 * j) L → N 3 i = (s i : Int)) ∧ 8 * j ≤ L + 8) (μ := fun _ x => 40 - x.toNat) ?_ FU M 0 ⟨0, rfl, Off.refl, fun c _ => rfl, by rw [hM, Nat.mul_zero, Nat.zero_min]; rfl, fun i hi => absurd hi (by rw [Nat.mul_zero, Nat.zero_min]; exact Nat.not_lt_zero i), by omega⟩ (by decide)
    rintro N x ⟨j, rfl, oN, nc, n21, n3, hj⟩
    have hN := h.off oN (fun c h1 _ => by omega)
    unfold La_type_2b
    refine ok_ck hq (ok_bm (stLen_ok hN hL) ?_)
    rintro r rfl
    refine ok_ck (rgN (by omega)) (ok_ck (rgN (by omega)) (ok_if (fun z => ?_) (fun z => ?_)))
    · have e : min (8 * j) L = L := by omega
      rw [e] at n21 n3
      exact ok_some (ok_out ne0 ⟨rfl, oN, nc, n21, n3⟩)
    · have h8 : 8 * j < L := by omega
      have e : min (8 * j) L = 8 * j := by omega
      rw [e] at n21 n3
      refine ok_bm (R := fun r => r.1 = 1 ∧ r.2.2.2 = N ∧ ∃ k, 1 ≤ k ∧ k ≤ 8 ∧ 8 * j + k = min (8 * (j + 1)) L ∧ r.2.1 = ((vK s (8 * j) k : Nat) : Int)) ?_ ?_
      · refine L_La_type_15 E q ((8 * j : Nat) : Int) (I := fun K x3 x5 => K = N ∧ ∃ k, x5 = ((8 * j + k : Nat) : Int) ∧ k ≤ 8 ∧ 8 * j + k ≤ L ∧ x3 = ((vK s (8 * j) k : Nat) : Int)) (μ := fun _ _ x5 => L - x5.toNat) ?_ FU N 0 _ ⟨rfl, 0, rfl, by omega, by omega, rfl⟩ (by show L - _ < 5000; omega)
        rintro K x3 x5 ⟨rfl, k, rfl, hk8, hkL, rfl⟩
        unfold La_type_15b
        have out : 8 * j + 8 ≤ 8 * j + k ∨ L ≤ 8 * j + k → Ok (some (1, ((vK s (8 * j) k : Nat) : Int), ((8 * j + k : Nat) : Int), K) : Option (Nat × Int × Int × Mm)) (fun r => (r.1 = 0 → (r.2.2.2 = K ∧ ∃ k, r.2.2.1 = ((8 * j + k : Nat) : Int) ∧ k ≤ 8 ∧ 8 * j + k ≤ L ∧ r.2.1 = ((vK s (8 * j) k : Nat) : Int)) ∧ L - r.2.2.1.toNat < L - (((8 * j + k : Nat) : Int)).toNat) ∧ (r.1 ≠ 0 → r.1 = 1 ∧ r.2.2.2 = K ∧ ∃ k, 1 ≤ k ∧ k ≤ 8 ∧ 8 * j + k = min (8 * (j + 1)) L ∧ r.2.1 = ((vK s (8 * j) k : Nat) : Int))) := fun w => ok_some (ok_out ne0 ⟨rfl, rfl, k, by omega, hk8, by omega, rfl⟩)
        refine ok_ck hq (ok_ck (rgN (by omega)) (ok_ck ⟨by omega, by omega⟩ (ok_if (fun w => out (by omega)) (fun w => ok_bm (stLen_ok hN hL) ?_))))
        rintro r rfl
        refine ok_ck (rgN (by omega)) (ok_if (fun w2 => out (by omega)) (fun w2 => ok_bm (charAt_ok hN hL (show 8 * j + k < L by omega) (h1 _ (by omega)).2) ?_))
        rintro r rfl
        have hs := (h1 (8 * j + k) (by omega)).2
        have vl := vK_lt (s := s) (a := 8 * j) (k := k) (fun i hi => (h1 _ (by omega)).2)
        have vl2 : 256 ^ k ≤ 256 ^ 7 := Nat.pow_le_pow_right (by decide) (by omega)
        have v7 : 256 ^ 7 = 72057594037927936 := by decide
        have vg : k = 7 → vK s (8 * j) 7 < 128 * 256 ^ 6 := fun e7 => vK_ge (s := s) (a := 8 * j) (k := 6) (h1 _ (by omega)).2 (fun i hi => (h1 _ (by omega)).2)
        have v6 : 256 ^ 6 = 281474976710656 := by decide
        have vl6 : k ≤ 6 → 256 ^ k ≤ 256 ^ 6 := fun z => Nat.pow_le_pow_right (by decide) z
        have vb : vK s (8 * j) k ≤ 36028797018963967 := by
          by_cases e7 : k = 7
          · have := vg e7
            rw [e7]; omega
          · have := vl6 (by omega)
            omega
        refine ok_ck (rgN (by omega)) (ok_ck ⟨by omega, by omega⟩ (ok_ck ⟨by omega, by omega⟩ (ok_some (ok_go rfl ⟨⟨rfl, k + 1, by show ((8 * j + k : Nat) : Int) + 1 = _; omega, by omega, by omega, ?_⟩, by show L - (((8 * j + k : Nat) : Int) + 1).toNat < L - (((8 * j + k : Nat) : Int)).toNat; omega⟩))))
        show orI (((vK s (8 * j) k : Nat) : Int) * 256) ((s (8 * j + k) : Nat) : Int) = ((vK s (8 * j) k * 256 + s (8 * j + k) : Nat) : Int)
        have eo := Nat.two_pow_add_eq_or_of_lt (show s (8 * j + k) < 2 ^ 8 by omega) (vK s (8 * j) k)
        have e1 : ((vK s (8 * j) k : Nat) : Int) * 256 = ((2 ^ 8 * vK s (8 * j) k : Nat) : Int) := by omega
        rw [e1, orI_nat, ← eo]
        omega
      · rintro ⟨t, x3, x5, K⟩ ⟨g1r, g2r, k, k1, k8, ke, g3r⟩
        have g1 : t = 1 := g1r
        have g2 : K = N := g2r
        have g3 : x3 = ((vK s (8 * j) k : Nat) : Int) := g3r
        subst g1 g2 g3
        unfold La_type_j52
        refine ok_ck rfl (ok_ck hq (ok_bm (bType_ok (s := s) (a := 8 * j) (k := k) (fun i hi => h1 _ (by omega)) k8 k1 (by omega) n21 n3) ?_))
        rintro ⟨r, P⟩ ⟨p1, p2, p3, p4⟩
        refine ok_some (ok_go rfl ⟨⟨j + 1, by show ((8 * j : Nat) : Int) + 8 = _; omega, oN.trans p1, fun c hc => (p2 c hc).trans (nc c hc), by rw [← ke]; exact p3, fun i hi => p4 i (by omega), by omega⟩, ?_⟩)
        show 40 - (((8 * j : Nat) : Int) + 8).toNat < 40 - (((8 * j : Nat) : Int)).toNat
        omega
  · rintro ⟨t, x, N⟩ ⟨g1, g2⟩
    exact ok_ck g1 (ok_some g2)
