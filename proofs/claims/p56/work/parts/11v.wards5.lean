/-- the first place where the best ends and the new ones differ -/
theorem L201_ok {E : Ev} {M : Mm} {d q3 q6 q10 : Nat} {x2 x5 x7 x8 : Int} {a b : List Nat} (hL : Lay E) (hq3 : isIA E q3) (hq6 : isIA E q6) (hq10 : isIA E q10) (hl6 : (tE E q6).2 = d) (hl10 : (tE E q10).2 = d) (hd0 : 1 ≤ d) (hd : d ≤ 8) (ha : ∀ i, i < d → M q6 i = (a.getD i 0 : Int)) (hb : ∀ i, i < d → M q10 i = (b.getD i 0 : Int)) (ha8 : ∀ i, a.getD i 0 < 8) (hb8 : ∀ i, b.getD i 0 < 8) : Ok (l_La_districts_201 x2 q3 (d : Int) x5 q6 x7 x8 q10 5000 E M 0) (fun r => r.1 = 1 ∧ r.2.2 = (E, M) ∧ ∃ i : Nat, r.2.1 = (i : Int) ∧ i + 1 ≤ d ∧ (∀ j, j < i → a.getD j 0 = b.getD j 0) ∧ (i + 1 = d ∨ a.getD i 0 ≠ b.getD i 0)) := by
  refine L_La_districts_201 x2 q3 (d : Int) x5 q6 x7 x8 q10 (I := fun F N x => (F, N) = (E, M) ∧ ∃ i : Nat, x = (i : Int) ∧ i + 1 ≤ d ∧ ∀ j, j < i → a.getD j 0 = b.getD j 0) (μ := fun _ _ x => d - x.toNat) (Q := fun r => r.1 = 1 ∧ r.2.2 = (E, M) ∧ ∃ i : Nat, r.2.1 = (i : Int) ∧ i + 1 ≤ d ∧ (∀ j, j < i → a.getD j 0 = b.getD j 0) ∧ (i + 1 = d ∨ a.getD i 0 ≠ b.getD i 0)) ?_ 5000 E M 0 ⟨rfl, 0, rfl, hd0, fun j hj => absurd hj (Nat.not_lt_zero j)⟩ (by show d - _ < 5000; omega)
  rintro F N x ⟨e, i, rfl, hi, hj⟩
  cases e
  unfold La_districts_201b
  refine ok_ck hL (ok_ck hq3 (ok_ck hq6 (ok_ck hq10 (ok_ck (rgI_nat (by omega)) (ok_ck ⟨by omega, by omega⟩ (ok_if (fun c => ?_) (fun c => ?_)))))))
  · exact ok_some (ok_out (by show (1 : Nat) ≠ 0; decide) ⟨rfl, rfl, i, rfl, hi, hj, Or.inl (by omega)⟩)
  · have h1 := ha8 i
    have h2 := hb8 i
    rw [Int.toNat_natCast, ha i (by omega), hb i (by omega), hl6, hl10]
    refine ok_ck ⟨by omega, by omega, by omega⟩ (ok_ck ⟨by omega, by omega, by omega⟩ (ok_ck ⟨by omega, by omega⟩ (ok_ck ⟨by omega, by omega⟩ (ok_if (fun q => ?_) (fun q => ?_)))))
    · refine ok_some (ok_go rfl ⟨⟨rfl, i + 1, by show (i : Int) + 1 = _; omega, by omega, fun j j1 => ?_⟩, by show d - ((i : Int) + 1).toNat < d - (i : Int).toNat; omega⟩)
      by_cases e : j = i
      · rw [e]; omega
      · exact hj j (by omega)
    · exact ok_some (ok_out (by show (1 : Nat) ≠ 0; decide) ⟨rfl, rfl, i, rfl, hi, hj, Or.inr (fun e => q (by rw [e]))⟩)
theorem DV_getD {n : Nat} {l : List Nat} {s : Nat} (h : DV n s l) (hn : 1 ≤ n) (i : Nat) : l.getD i 0 < n := by
  rw [List.getD_eq_getElem?_getD]
  cases e : l[i]? with
  | none => exact hn
  | some x => exact (DV_mem h x (List.mem_of_getElem? e)).2
/-- better or as good: a lesser greatest, or as great and ends in their order -/
def bet (w : Nat → Int) (a b : List Nat) : Prop := gr w 0 a < gr w 0 b ∨ (gr w 0 a = gr w 0 b ∧ lx a b)
theorem bet_refl (w : Nat → Int) (a : List Nat) : bet w a a := Or.inr ⟨rfl, lx_refl a⟩
theorem bet_trans {w : Nat → Int} {a b c : List Nat} (h : bet w a b) (g : bet w b c) : bet w a c := by
  rcases h with h | ⟨h1, h2⟩
  · rcases g with g | ⟨g1, _⟩
    · exact Or.inl (by omega)
    · exact Or.inl (by omega)
  · rcases g with g | ⟨g1, g2⟩
    · exact Or.inl (by omega)
    · exact Or.inr ⟨by omega, lx_trans h2 g2⟩
/-- what the law's search has found among the masks below a bound -/
def bestB (M : Mm) (w : Nat → Int) (n d : Nat) (x5 : Int) (q6 B : Nat) : Prop :=
  (x5 = 1000 ∧ (∀ i, i < d → M q6 i = 0) ∧ ∀ S, S < B → (mE S n n).length ≠ d) ∨
  (∃ b, DV n 0 b ∧ b.length = d ∧ x5 = gr w 0 b ∧ (∀ i, i < d → M q6 i = (b.getD i 0 : Int)) ∧ ∀ S, S < B → (mE S n n).length = d → bet w b (mE S n n))
theorem gr_bound {w : Nat → Int} {n : Nat} (hw : ∀ k, 0 ≤ w k ∧ w k ≤ 50) (hn : n ≤ 8) : ∀ {l : List Nat} {s : Nat}, DV n s l → 0 ≤ gr w s l ∧ gr w s l ≤ 400
  | [], _, _ => ⟨Int.le_refl 0, by show (0 : Int) ≤ 400; decide⟩
  | e :: l, s, h => by
    obtain ⟨h1, h2, h3⟩ := h
    have ih := gr_bound hw hn h3
    have b1 := sN_bound hw s
    have b2 := sN_bound hw (e + 1)
    have b3 : ((e + 1 : Nat) : Int) * 50 ≤ 400 := by omega
    show 0 ≤ max (sm w s e) (gr w (e + 1) l) ∧ max (sm w s e) (gr w (e + 1) l) ≤ 400
    unfold sm
    omega
theorem L93_ok {E : Ev} {M : Mm} {n d q3 p : Nat} {w : Nat → Int} (hL : Lay E) (hq3 : isIA E q3) (hl3 : (tE E q3).2 = n) (hq6 : isIA E p) (hl6 : (tE E p).2 = d) (hbig : 250 ≤ q3) (hne : q3 ≠ p) (hbig6 : 250 ≤ p) (hn1 : 1 ≤ n) (hn : n ≤ 8) (hd0 : 1 ≤ d) (hd : d ≤ 8) (hw : ∀ k, 0 ≤ w k ∧ w k ≤ 50) (hM : ∀ k, k < n → M q3 k = w k) (hz : ∀ i, i < d → M p i = 0) : Ok (l_La_districts_93 (n : Int) q3 (d : Int) 132 E M 1000 p 0) (fun r => r.1 = 1 ∧ Gw E r.2.2.2.2.1 ∧ Lay r.2.2.2.2.1 ∧ isIA r.2.2.2.2.1 r.2.2.1 ∧ (tE r.2.2.2.2.1 r.2.2.1).2 = d ∧ 250 ≤ r.2.2.1 ∧ (∀ i, i < 250 → r.2.2.2.2.2 i = M i) ∧ bestB r.2.2.2.2.2 w n d r.2.1 r.2.2.1 (2 ^ (n - 1))) := by
  have hP : 2 ^ (n - 1) ≤ 128 := show 2 ^ (n - 1) ≤ 2 ^ 7 from Nat.pow_le_pow_right (by decide) (by omega)
  refine L_La_districts_93 (n : Int) q3 (d : Int) (I := fun F N x5 q6 x7 => Gw E F ∧ Lay F ∧ isIA F q6 ∧ (tE F q6).2 = d ∧ (250 ≤ q6 ∧ q6 ≠ q3) ∧ (∀ i, i < 250 → N i = M i) ∧ (∀ k, N q3 k = M q3 k) ∧ ∃ B : Nat, x7 = (B : Int) ∧ B ≤ 2 ^ (n - 1) ∧ bestB N w n d x5 q6 B) (μ := fun _ _ _ _ x => 2 ^ (n - 1) - x.toNat) (Q := fun r => r.1 = 1 ∧ Gw E r.2.2.2.2.1 ∧ Lay r.2.2.2.2.1 ∧ isIA r.2.2.2.2.1 r.2.2.1 ∧ (tE r.2.2.2.2.1 r.2.2.1).2 = d ∧ 250 ≤ r.2.2.1 ∧ (∀ i, i < 250 → r.2.2.2.2.2 i = M i) ∧ bestB r.2.2.2.2.2 w n d r.2.1 r.2.2.1 (2 ^ (n - 1))) ?_ 132 E M 1000 p 0 ⟨gw_self E, hL, hq6, hl6, ⟨hbig6, Ne.symm hne⟩, fun _ _ => rfl, fun _ => rfl, 0, rfl, Nat.zero_le _, Or.inl ⟨rfl, hz, fun S hS => absurd hS (Nat.not_lt_zero S)⟩⟩ (by show 2 ^ (n - 1) - _ < 132; omega)
  rintro F N x5 q6 x7 ⟨hG, hLF, h6, hl6', ⟨h6b, h6n⟩, hlow, h3, B, rfl, hB, hbest⟩
  have hq3F : isIA F q3 := isA_up hG hq3
  have hl3F : (tE F q3).2 = n := by rw [hG.2 q3 hq3.1]; exact hl3
  have e1 : (n : Int) - 1 = ((n - 1 : Nat) : Int) := by omega
  unfold La_districts_93b
  rw [e1, Int.toNat_natCast, p2]
  refine ok_ck hLF (ok_ck hq3F (ok_ck h6 (ok_ck ⟨by omega, by omega⟩ (ok_ck (rgI_nat (by omega)) (ok_ck (rgI_nat (by omega)) (ok_if (fun c => ?_) (fun c => ?_)))))))
  · have e : B = 2 ^ (n - 1) := by omega
    rw [e] at hbest
    exact ok_some (ok_out (by show (1 : Nat) ≠ 0; decide) ⟨rfl, hG, hLF, h6, hl6', h6b, hlow, hbest⟩)
  · have hBl : B < 2 ^ (n - 1) := by omega
    have hpc : pc B 12 = pc B (n - 1) := by
      have := pc_more hBl (12 - (n - 1))
      rw [show n - 1 + (12 - (n - 1)) = 12 by omega] at this
      exact this
    have hpb := pc_bounds B (n - 1)
    have hlen := mE_len B n hn1 (Nat.le_refl n)
    rw [Nat.sub_self, show pc B 0 = 0 from rfl] at hlen
    rw [bitCount_eq F N (by omega), hpc]
    refine ok_sb (ok_ck ⟨by omega, by omega⟩ (ok_ck ⟨by omega, by omega⟩ (ok_if (fun g => ?_) (fun g => ?_))))
    · have hld : (mE B n n).length = d := by omega
      refine ok_ck ⟨by omega, by omega⟩ ?_
      rw [Int.toNat_natCast]
      refine ok_nbx fun r hr => ok_nbx fun E2 hE2 => ok_nbx fun M2 hM2 => ?_
      rw [← hr] at hM2
      have g2 : Gw F E2 := by rw [hE2]; exact gw_new F _
      have n2 : nE E2 = r + 1 := by rw [hE2, hr]; rfl
      have hrb : 250 ≤ r := by rw [hr]; exact hLF.1
      have t2 : tE E2 r = (0, d) := by
        rw [hE2, hr]
        show va_up F.1.2.1 F.1.1 (0, d) (nE F) = _
        exact va_up_self _ _ _
      have hL2 : Lay E2 := by
        refine ⟨by omega, fun i hi => (g2.2 i (by omega)).trans (hLF.2.1 i hi), fun i hi h5 h7 k hk => ?_⟩
        rw [hE2]
        show va_up F.1.2.2 F.1.1 (fun _ => none) i k = _
        rw [va_up_ne _ _ (show i ≠ F.1.1 from fun e => by have : nE F = F.1.1 := rfl; omega)]
        exact hLF.2.2 i hi h5 h7 k hk
      have h3r : q3 ≠ r := fun e => by have := hq3F.1; omega
      have h6r : q6 ≠ r := fun e => by have := h6.1; omega
      have hir : isIA E2 r := ⟨by omega, by rw [t2]⟩
      have hlr : (tE E2 r).2 = d := by rw [t2]
      have h62 : isIA E2 q6 := isA_up g2 h6
      have hl62 : (tE E2 q6).2 = d := by rw [g2.2 q6 h6.1]; exact hl6'
      have h32 : isIA E2 q3 := isA_up g2 hq3F
      have hl32 : (tE E2 q3).2 = n := by rw [g2.2 q3 hq3F.1]; exact hl3F
      have eM2 : ∀ i, i ≠ r → M2 i = N i := fun i hi => by rw [hM2]; exact va_up_ne _ _ hi
      refine ok_bm (L136_ok2 (w := w) (x5 := x5) hL2 h32 hl32 h62 hir hlr (Ne.symm h3r) hn1 hn hld hw (fun k hk => by rw [eM2 q3 h3r, h3]; exact hM k hk) (by omega)) ?_
      rintro ⟨t, y8, y9, y11, y12, E3, M3⟩ ⟨i1, i2, i3, i4, i5⟩
      have j1 : t = 1 := i1
      have j2 : y8 = gr w 0 (mE B n n) := i2
      have j3 : E3 = E2 := i3
      have j4 : Off (fun i => i = r) M2 M3 := i4
      have j5 : ∀ i, i < d → M3 r i = ((mE B n n).getD i 0 : Int) := i5
      subst j1 j2 j3
      clear i1 i2 i3 i4 i5
      have hDm := mE_DV B n hn1 (Nat.le_refl n) (Nat.zero_le (n - n))
      have hDm : DV n 0 (mE B n n) := mE_DV B n hn1 (Nat.le_refl n) (Nat.zero_le _)
      have hgm := gr_bound hw hn hDm
      have e6 : M3 q6 = N q6 := (j4 q6 h6r).trans (eM2 q6 h6r)
      refine ok_ck (gw_self E3) (ok_ck hL2 (ok_ck rfl ?_))
      -- the two ways on
      have keep : (∃ b, DV n 0 b ∧ b.length = d ∧ x5 = gr w 0 b ∧ (∀ i, i < d → N q6 i = (b.getD i 0 : Int)) ∧ (∀ S, S < B → (mE S n n).length = d → bet w b (mE S n n)) ∧ bet w b (mE B n n)) → bestB M3 w n d x5 q6 (B + 1) := by
        rintro ⟨b, b1, b2, b3, b4, b5, b6⟩
        refine Or.inr ⟨b, b1, b2, b3, fun i hi => by rw [e6]; exact b4 i hi, fun S hS hSl => ?_⟩
        by_cases e : S = B
        · rw [e]; exact b6
        · exact b5 S (by omega) hSl
      have take : (∀ S, S < B → (mE S n n).length = d → bet w (mE B n n) (mE S n n)) → bestB M3 w n d (gr w 0 (mE B n n)) r (B + 1) := fun h => by
        refine Or.inr ⟨mE B n n, hDm, hld, rfl, j5, fun S hS hSl => ?_⟩
        by_cases e : S = B
        · rw [e]; exact bet_refl w _
        · exact h S (by omega) hSl
      have goK : ∀ x : Int, x = x5 → bestB M3 w n d x5 q6 (B + 1) → Ok (some (0, x, q6, (B : Int) + 1, E3, M3) : Option (Nat × Int × Nat × Int × Ev × Mm)) (fun r => (r.1 = 0 → (Gw E r.2.2.2.2.1 ∧ Lay r.2.2.2.2.1 ∧ isIA r.2.2.2.2.1 r.2.2.1 ∧ (tE r.2.2.2.2.1 r.2.2.1).2 = d ∧ (250 ≤ r.2.2.1 ∧ r.2.2.1 ≠ q3) ∧ (∀ i, i < 250 → r.2.2.2.2.2 i = M i) ∧ (∀ k, r.2.2.2.2.2 q3 k = M q3 k) ∧ ∃ B : Nat, r.2.2.2.1 = (B : Int) ∧ B ≤ 2 ^ (n - 1) ∧ bestB r.2.2.2.2.2 w n d r.2.1 r.2.2.1 B) ∧ 2 ^ (n - 1) - r.2.2.2.1.toNat < 2 ^ (n - 1) - (B : Int).toNat) ∧ (r.1 ≠ 0 → r.1 = 1 ∧ Gw E r.2.2.2.2.1 ∧ Lay r.2.2.2.2.1 ∧ isIA r.2.2.2.2.1 r.2.2.1 ∧ (tE r.2.2.2.2.1 r.2.2.1).2 = d ∧ 250 ≤ r.2.2.1 ∧ (∀ i, i < 250 → r.2.2.2.2.2 i = M i) ∧ bestB r.2.2.2.2.2 w n d r.2.1 r.2.2.1 (2 ^ (n - 1)))) := fun x ex hbb => by
        subst ex
        refine ok_some (ok_go rfl ⟨⟨gw_trans hG g2, hL2, h62, hl62, ⟨h6b, h6n⟩, fun i hi => ?_, fun k => ?_, B + 1, by show (B : Int) + 1 = _; omega, by omega, hbb⟩, by show 2 ^ (n - 1) - ((B : Int) + 1).toNat < 2 ^ (n - 1) - (B : Int).toNat; omega⟩)
        · show M3 i = _
          rw [j4 i (show ¬ i = r by omega), eM2 i (by omega)]; exact hlow i hi
        · show M3 q3 k = _
          rw [j4 q3 h3r, eM2 q3 h3r]; exact h3 k
      have goT : bestB M3 w n d (gr w 0 (mE B n n)) r (B + 1) → Ok (some (0, gr w 0 (mE B n n), r, (B : Int) + 1, E3, M3) : Option (Nat × Int × Nat × Int × Ev × Mm)) (fun r => (r.1 = 0 → (Gw E r.2.2.2.2.1 ∧ Lay r.2.2.2.2.1 ∧ isIA r.2.2.2.2.1 r.2.2.1 ∧ (tE r.2.2.2.2.1 r.2.2.1).2 = d ∧ (250 ≤ r.2.2.1 ∧ r.2.2.1 ≠ q3) ∧ (∀ i, i < 250 → r.2.2.2.2.2 i = M i) ∧ (∀ k, r.2.2.2.2.2 q3 k = M q3 k) ∧ ∃ B : Nat, r.2.2.2.1 = (B : Int) ∧ B ≤ 2 ^ (n - 1) ∧ bestB r.2.2.2.2.2 w n d r.2.1 r.2.2.1 B) ∧ 2 ^ (n - 1) - r.2.2.2.1.toNat < 2 ^ (n - 1) - (B : Int).toNat) ∧ (r.1 ≠ 0 → r.1 = 1 ∧ Gw E r.2.2.2.2.1 ∧ Lay r.2.2.2.2.1 ∧ isIA r.2.2.2.2.1 r.2.2.1 ∧ (tE r.2.2.2.2.1 r.2.2.1).2 = d ∧ 250 ≤ r.2.2.1 ∧ (∀ i, i < 250 → r.2.2.2.2.2 i = M i) ∧ bestB r.2.2.2.2.2 w n d r.2.1 r.2.2.1 (2 ^ (n - 1)))) := fun hbb => by
        refine ok_some (ok_go rfl ⟨⟨gw_trans hG g2, hL2, hir, hlr, ⟨hrb, Ne.symm h3r⟩, fun i hi => ?_, fun k => ?_, B + 1, by show (B : Int) + 1 = _; omega, by omega, hbb⟩, by show 2 ^ (n - 1) - ((B : Int) + 1).toNat < 2 ^ (n - 1) - (B : Int).toNat; omega⟩)
        · show M3 i = _
          rw [j4 i (show ¬ i = r by omega), eM2 i (by omega)]; exact hlow i hi
        · show M3 q3 k = _
          rw [j4 q3 h3r, eM2 q3 h3r]; exact h3 k
      obtain ⟨a, a1, a2, a3⟩ : ∃ a : List Nat, (∀ i, i < d → N q6 i = (a.getD i 0 : Int)) ∧ (∀ i, a.getD i 0 < 8) ∧ ((x5 = 1000 ∧ ∀ S, S < B → (mE S n n).length ≠ d) ∨ (DV n 0 a ∧ a.length = d ∧ x5 = gr w 0 a ∧ ∀ S, S < B → (mE S n n).length = d → bet w a (mE S n n))) := by
        rcases hbest with ⟨c1, c2, c3⟩ | ⟨b, b1, b2, b3, b4, b5⟩
        · exact ⟨[], fun i hi => c2 i hi, fun i => by show 0 < 8; decide, Or.inl ⟨c1, c3⟩⟩
        · exact ⟨b, b4, fun i => Nat.lt_of_lt_of_le (DV_getD b1 hn1 i) hn, Or.inr ⟨b1, b2, b3, b5⟩⟩
      have hx5 : 0 ≤ x5 ∧ x5 ≤ 1000 := by
        rcases a3 with ⟨c1, -⟩ | ⟨b1, -, b3, -⟩
        · omega
        · have := gr_bound hw hn b1
          omega
      refine ok_bm (L201_ok (x2 := (n : Int)) (x5 := x5) (x7 := (B : Int)) (x8 := gr w 0 (mE B n n)) (a := a) (b := mE B n n) hL2 h32 h62 hir hl62 hlr hd0 hd (fun i hi => by rw [e6]; exact a1 i hi) j5 a2 (fun i => Nat.lt_of_lt_of_le (DV_getD hDm hn1 i) hn)) ?_
      rintro ⟨t, z, E4, M4⟩ ⟨k1, k2, i, k3, k4, k5, k6⟩
      cases k2
      have m1 : t = 1 := k1
      have m3 : z = (i : Int) := k3
      subst m1 m3
      refine ok_ck (gw_self E3) (ok_ck hL2 (ok_ck rfl ?_))
      show Ok (La_districts_j229 E3 M3 (n : Int) q3 (d : Int) x5 q6 (B : Int) (gr w 0 (mE B n n)) r (i : Int)) _
      unfold La_districts_j229
      have v1 := a2 i
      have v2 := DV_getD hDm hn1 i
      rw [Int.toNat_natCast, j5 i (by omega), show M3 q6 i = (a.getD i 0 : Int) by rw [e6]; exact a1 i (by omega), hl62, hlr]
      refine ok_ck hL2 (ok_ck h32 (ok_ck h62 (ok_ck hir (ok_ck ⟨by omega, by omega⟩ (ok_ck ⟨by omega, by omega⟩ (ok_if (fun q => ?_) (fun q => ok_if (fun q2 => ?_) (fun q2 => ?_))))))))
      · refine goT (take fun S hS hSl => ?_)
        rcases a3 with ⟨-, c3⟩ | ⟨b1, b2, b3, b5⟩
        · exact absurd hSl (c3 S hS)
        · exact bet_trans (Or.inl (by omega)) (b5 S hS hSl)
      · rcases a3 with ⟨c1, -⟩ | ⟨b1, b2, b3, b5⟩
        · omega
        · refine ok_ck ⟨by omega, by omega, by omega⟩ (ok_ck ⟨by omega, by omega, by omega⟩ (ok_ck ⟨by omega, by omega⟩ (ok_ck ⟨by omega, by omega⟩ (ok_if (fun q3 => ?_) (fun q3 => ?_)))))
          · exact goK x5 rfl (keep ⟨a, b1, b2, b3, a1, b5, Or.inr ⟨by omega, lx_first (i := i) (by omega) (by omega) k5 (by rw [b2]; exact k6) (by omega)⟩⟩)
          · exact goT (take fun S hS hSl => bet_trans (Or.inr ⟨by omega, lx_first (i := i) (by omega) (by omega) (fun j hj => (k5 j hj).symm) (by rw [hld]; exact k6.imp id (fun h => Ne.symm h)) (by omega)⟩) (b5 S hS hSl))
      · rcases a3 with ⟨c1, -⟩ | ⟨b1, b2, b3, b5⟩
        · omega
        · exact goK x5 rfl (keep ⟨a, b1, b2, b3, a1, b5, Or.inl (by omega)⟩)
    · refine ok_some (ok_go rfl ⟨⟨hG, hLF, h6, hl6', ⟨h6b, h6n⟩, hlow, h3, B + 1, by show (B : Int) + 1 = _; omega, by omega, ?_⟩, by show 2 ^ (n - 1) - ((B : Int) + 1).toNat < 2 ^ (n - 1) - (B : Int).toNat; omega⟩)
      have hld : (mE B n n).length ≠ d := fun e => g (by omega)
      rcases hbest with ⟨c1, c2, c3⟩ | ⟨b, b1, b2, b3, b4, b5⟩
      · refine Or.inl ⟨c1, c2, fun S hS => ?_⟩
        by_cases e : S = B
        · rw [e]; exact hld
        · exact c3 S (by omega)
      · refine Or.inr ⟨b, b1, b2, b3, b4, fun S hS hSl => ?_⟩
        by_cases e : S = B
        · exact absurd (e ▸ hSl) hld
        · exact b5 S (by omega) hSl
