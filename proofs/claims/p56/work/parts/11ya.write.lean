/-! A PILE WRITTEN AND READ -/
/-- what stands in the output: u, and l behind a slash when it isn't 1 -/
def OUT (M : Mm) (len : Nat) (u l : Int) : Prop := M 1 13 = (len : Int) ∧ len ≤ 230 ∧ ∃ m, 1 ≤ m ∧ (∀ i, i < m → 48 ≤ M 249 i ∧ M 249 i ≤ 57) ∧ gV (fun i => M 249 i - 48) m = u ∧ (2 ≤ m → ((10 ^ (m - 1) : Nat) : Int) ≤ u) ∧ ((l = 1 ∧ len = m) ∨ (l ≠ 1 ∧ M 249 m = 47 ∧ ∃ m2, 1 ≤ m2 ∧ len = m + 1 + m2 ∧ (∀ i, i < m2 → 48 ≤ M 249 (m + 1 + i) ∧ M 249 (m + 1 + i) ≤ 57) ∧ gV (fun i => M 249 (m + 1 + i) - 48) m2 = l ∧ (2 ≤ m2 → ((10 ^ (m2 - 1) : Nat) : Int) ≤ l)))
def oWr (c : Nat) : Prop := c = 1 ∨ c = 249 ∨ (189 ≤ c ∧ c ≤ 200)
theorem j72_ok {E : Ev} {M : Mm} {p s c : Nat} (hL : Lay E) (hp : isCt E p) (hp2 : 250 ≤ p) (hs : s ≤ 8) (hc : c < 9) (h : ∀ c, c < 10 → Lr (fun i => M (p + 4) ((s * 10 + c) * 13 + i)) 13) (hd0 : 0 < MV M p s 9) (hd : MV M p s 9 < pB 11) (ha : MV M p s c < pB 11) : Ok (B_writePile_j72 E M (c : Int) (s : Int) p) (fun r => Off oWr M r.2 ∧ (∀ k, k ≠ 13 → r.2 1 k = M 1 k) ∧ ∃ len g, r.1 = ((len : Nat) : Int) ∧ GC (MV M p s c) (MV M p s 9) g ∧ OUT r.2 len (MV M p s c / g) (MV M p s 9 / g)) := by
  unfold B_writePile_j72
  refine ok_ck hp (ok_bm (loadPile_ok hL hp hp2 hs hc h) ?_)
  rintro A ⟨a1, a2, a3⟩
  refine ok_bm (reduce_ok hL a1 a2 hd0 hd ha) ?_
  rintro B ⟨b1, g, b2, b3, b4⟩
  have gp := b2.1
  have u0 := b3.lo
  have a0 := a1.lo
  have ul : MV M p s c / g ≤ MV M p s c := Int.ediv_le_self _ a0
  have ll : MV M p s 9 / g ≤ MV M p s 9 := Int.ediv_le_self _ (by omega)
  have eB1 : B 1 = M 1 := by rw [b1 1 (by decide), a3 1 (by decide)]
  have b3' : NatAt (u2 B 1 13 0) 189 (MV M p s c / g) := b3.keep (u2_row (by decide)) (u2_row (by decide))
  have b4' : NatAt (u2 B 1 13 0) 191 (MV M p s 9 / g) := b4.keep (u2_row (by decide)) (u2_row (by decide))
  have oB : Off oWr M (u2 B 1 13 0) := ((a3.mono fun i hi => by unfold oWr; omega).trans (b1.mono fun i hi => by unfold oWr; omega)).u2 (Or.inl rfl)
  refine ok_bm (digits_ok (f := 0) (yo_189 hL) (by decide) (by decide) b3' (by omega) (u2_at _ _ _ _) (by decide)) ?_
  rintro K ⟨m, m1, m2, k1, k2, -, k4, k5, k6, k7⟩
  have k2' : ∀ k, k ≠ 13 → K 1 k = M 1 k := fun k hk => by rw [k2 k hk, u2_ne (Or.inr hk), eB1]
  have oK : Off oWr M K := oB.trans (k7.mono fun i hi => by unfold oDg nn at hi; unfold oWr; omega)
  have d9 : NatAt K 191 (MV M p s 9 / g) := b4'.off k7 (by unfold oDg nn; decide) (by unfold oDg nn; decide)
  have dg : ∀ i, i < m → 48 ≤ K 249 i ∧ K 249 i ≤ 57 := fun i hi => by
    have := k4 i hi
    rw [Nat.zero_add] at this
    exact this
  have gg : gV (fun i => K 249 i - 48) m = MV M p s c / g := by
    rw [← k5]
    exact gV_congr fun i _ => by rw [Nat.zero_add]
  rw [Nat.zero_add] at k1
  refine ok_bm (isOne_ok (yo_191 hL) d9) ?_
  rintro r (⟨rfl, e1⟩ | ⟨rfl, e1⟩)
  · exact ok_ck (by decide) (ok_if (fun z => absurd z (by decide)) (fun _ => ok_some ⟨oK, k2', m, g, k1, b2, k1, by omega, m, m1, dg, gg, k6, Or.inl ⟨e1, rfl⟩⟩))
  · refine ok_ck (by decide) (ok_if (fun _ => ok_bm (appendByte_ok (x := 47) k1 (by omega)) ?_) (fun z => absurd rfl z))
    rintro P ⟨p1, p2', p3, p4⟩
    refine ok_bm (digits_ok (f := m + 1) (yo_191 hL) (by decide) (by decide) (d9.off p4 (by decide) (by decide)) (by omega) p1 (by omega)) ?_
    rintro Q ⟨n, n1, n2, q1, q2, q3, q4, q5, q6, q7⟩
    have e249 : ∀ i, i < m → Q 249 i = K 249 i := fun i hi => by rw [q3 i (by omega), p3, if_neg (by omega)]
    refine ok_some ⟨(oK.trans (p4.mono fun i hi => by unfold oWr; omega)).trans (q7.mono fun i hi => by unfold oDg nn at hi; unfold oWr; omega), fun k hk => ?_, m + 1 + n, g, q1, b2, q1, by omega, m, m1, fun i hi => ?_, ?_, k6, Or.inr ⟨e1, ?_, n, n1, rfl, q4, q5, q6⟩⟩
    · show Q 1 k = _
      rw [q2 k hk, p2' k hk]; exact k2' k hk
    · show 48 ≤ Q 249 i ∧ Q 249 i ≤ 57
      rw [e249 i hi]; exact dg i hi
    · rw [← gg]
      exact gV_congr fun i hi => by
        show Q 249 i - 48 = _
        rw [e249 i hi]
    · show Q 249 m = 47
      rw [q3 m (by omega), p3, if_pos rfl]
theorem gV_pos {x : Nat → Int} : ∀ {m : Nat}, (∀ i, i < m → 0 ≤ x i) → 0 ≤ gV x m
  | 0, _ => Int.le_refl 0
  | m + 1, h => by
    have a := gV_pos (m := m) fun i hi => h i (by omega)
    have b := h m (by omega)
    show 0 ≤ 10 * gV x m + x m
    omega
theorem gV_hi {x : Nat → Int} : ∀ {m : Nat}, (∀ i, i < m → x i ≤ 9) → gV x m < ((10 ^ m : Nat) : Int)
  | 0, _ => by show (0 : Int) < ((10 ^ 0 : Nat) : Int); decide
  | m + 1, h => by
    have a := gV_hi (m := m) fun i hi => h i (by omega)
    have b := h m (by omega)
    show 10 * gV x m + x m < ((10 ^ (m + 1) : Nat) : Int)
    rw [Nat.pow_succ, Int.natCast_mul]
    omega
theorem outByte_ok {E : Ev} {M : Mm} {len i : Nat} (h : M 1 13 = (len : Int)) (hl : len ≤ 230) (hi : i < len) : Ok (f_B_outputByte E M (i : Int)) (fun r => r = M 249 i) := by
  unfold f_B_outputByte
  rw [h, Int.toNat_natCast]
  exact ok_ck (rgN (by omega)) (ok_if (fun z => by omega) (fun _ => ok_ck (rgN (by omega)) (ok_if (fun _ => ok_ck (inN (by omega) (by decide)) (ok_some rfl)) (fun z => by omega))))
theorem reads_ok {E : Ev} {M : Mm} {len : Nat} {u l : Int} (h : OUT M len u l) (hl : 0 < l) : Ok (f_La_reads E M (len : Int)) (fun r => 0 ≤ r ∧ rgJ r ∧ (len ≤ 16 → 840 % l = 0 → r = u * (840 / l))) := by
  obtain ⟨h1, h2, m, m1, hd, hu, -, hc⟩ := h
  unfold f_La_reads
  refine ok_ck (rgN (by omega)) (ok_if (fun z => ?_) (fun z => ok_some ⟨Int.le_refl 0, by decide, fun w => by omega⟩))
  have h16 : len ≤ 16 := by omega
  have hml : m ≤ len := by rcases hc with ⟨-, e⟩ | ⟨-, -, n, n1, e, -⟩ <;> omega
  have u0 : 0 ≤ u := by rw [← hu]; exact gV_pos fun i hi => by have := hd i hi; omega
  have u16 : u < 10000000000000000 := by
    have a := gV_hi (x := fun i => M 249 i - 48) (m := m) fun i hi => by have := hd i hi; omega
    have b := Nat.pow_le_pow_right (n := 10) (by decide) (show m ≤ 16 by omega)
    have c : ((10 ^ m : Nat) : Int) ≤ ((10 ^ 16 : Nat) : Int) := Int.ofNat_le.mpr b
    have d : ((10 ^ 16 : Nat) : Int) = 10000000000000000 := by decide
    omega
  refine ok_bm (R := fun r => r.1 = 1 ∧ r.2.1 = u ∧ ((l = 1 ∧ r.2.2.2.1 = 0) ∨ (l ≠ 1 ∧ r.2.2.1 = l ∧ r.2.2.2.1 = 1))) ?_ ?_
  · refine L_La_reads_19 E (len : Int) M (I := fun x2 x4 x6 x7 => ∃ i : Nat, x7 = (i : Int) ∧ i ≤ len ∧ ((i ≤ m ∧ x2 = gV (fun i => M 249 i - 48) i ∧ x4 = 0 ∧ x6 = 0) ∨ (l ≠ 1 ∧ m < i ∧ x2 = u ∧ x4 = gV (fun i => M 249 (m + 1 + i) - 48) (i - (m + 1)) ∧ x6 = 1))) (μ := fun _ _ _ x7 => len - x7.toNat) ?_ FU 0 0 0 0 ⟨0, rfl, Nat.zero_le _, Or.inl ⟨Nat.zero_le _, rfl, rfl, rfl⟩⟩ (by show len - _ < 5000; omega)
    rintro x2 x4 x6 x7 ⟨i, rfl, hi, hs⟩
    unfold La_reads_19b
    refine ok_ck (rgN (by omega)) (ok_ck (rgN (by omega)) (ok_if (fun w => ?_) (fun w => ?_)))
    · have e : i = len := by omega
      refine ok_some (ok_out ne0 ⟨rfl, ?_⟩)
      rcases hs with ⟨s1, rfl, rfl, rfl⟩ | ⟨s1, s2, rfl, rfl, rfl⟩
      · rcases hc with ⟨c1', c2⟩ | ⟨-, -, n, n1, c2, -⟩
        · refine ⟨?_, Or.inl ⟨c1', rfl⟩⟩
          show gV _ i = u
          rw [e, c2]; exact hu
        · omega
      · rcases hc with ⟨c1', c2⟩ | ⟨-, -, n, n1, c2, -, c4, -⟩
        · exact absurd c1' s1
        · refine ⟨rfl, Or.inr ⟨s1, ?_, rfl⟩⟩
          show gV _ (i - (m + 1)) = l
          rw [show i - (m + 1) = n by omega]; exact c4
    · have hil : i < len := by omega
      refine ok_bm (outByte_ok (E := E) h1 h2 hil) ?_
      rintro r rfl
      have dec : len - ((i : Int) + 1).toNat < len - (i : Int).toNat := by omega
      rcases hs with ⟨s1, rfl, rfl, rfl⟩ | ⟨s1, s2, rfl, rfl, rfl⟩
      · by_cases e : i < m
        · have b := hd i e
          exact ok_ck ⟨by omega, by omega⟩ (ok_if (fun y => by omega) (fun _ => ok_ck (by decide) (ok_if (fun _ => ok_some (ok_go rfl ⟨⟨i + 1, c1 i, by omega, Or.inl ⟨by omega, by show 10 * gV (fun i => M 249 i - 48) i + M 249 i - 48 = 10 * gV (fun i => M 249 i - 48) i + (M 249 i - 48); omega, rfl, rfl⟩⟩, dec⟩)) (fun y => absurd rfl y))))
        · have e : i = m := by omega
          subst e
          rcases hc with ⟨-, c2⟩ | ⟨cl, c47, n, n1, c2, -⟩
          · omega
          · rw [c47]
            exact ok_ck (by decide) (ok_if (fun _ => ok_some (ok_go rfl ⟨⟨i + 1, c1 i, by omega, Or.inr ⟨cl, by omega, hu, by rw [Nat.sub_self]; rfl, rfl⟩⟩, dec⟩)) (fun y => absurd rfl y))
      · rcases hc with ⟨c1', -⟩ | ⟨-, -, n, n1, c2, c3, -⟩
        · exact absurd c1' s1
        · obtain ⟨k, rfl⟩ : ∃ k, i = m + 1 + k := ⟨i - (m + 1), by omega⟩
          have b := c3 k (by omega)
          refine ok_ck ⟨by omega, by omega⟩ (ok_if (fun y => by omega) (fun _ => ok_ck (by decide) (ok_if (fun y => absurd y (by decide)) (fun _ => ok_some (ok_go rfl ⟨⟨m + 1 + k + 1, c1 _, by omega, Or.inr ⟨s1, by omega, rfl, ?_, rfl⟩⟩, dec⟩)))))
          rw [show m + 1 + k - (m + 1) = k by omega, show m + 1 + k + 1 - (m + 1) = k + 1 by omega]
          show 10 * gV (fun i => M 249 (m + 1 + i) - 48) k + M 249 (m + 1 + k) - 48 = 10 * gV (fun i => M 249 (m + 1 + i) - 48) k + (M 249 (m + 1 + k) - 48)
          omega
  · rintro ⟨t, x2, x4, x6, x7⟩ ⟨g1, g2r, g3r⟩
    have g2 : x2 = u := g2r
    subst g2
    refine ok_ck g1 ?_
    rcases g3r with ⟨e1, e6r⟩ | ⟨e1, e4r, e6r⟩
    · have e6 : x6 = 0 := e6r
      subst e6
      refine ok_ck (by decide) (ok_if (fun _ => ok_some ⟨by omega, ⟨by omega, by omega⟩, fun _ _ => ?_⟩) (fun y => absurd rfl y))
      rw [e1]; rfl
    · have e4 : x4 = l := e4r
      have e6 : x6 = 1 := e6r
      subst e4 e6
      have lJ : x4 ≤ 9223372036854775807 := by
        rcases hc with ⟨c1', -⟩ | ⟨-, -, n, n1, c2, c3, c4, -⟩
        · exact absurd c1' e1
        · have a := gV_hi (x := fun i => M 249 (m + 1 + i) - 48) (m := n) fun i hi => by have := c3 i hi; omega
          have b := Nat.pow_le_pow_right (n := 10) (by decide) (show n ≤ 16 by omega)
          have c : ((10 ^ n : Nat) : Int) ≤ ((10 ^ 16 : Nat) : Int) := Int.ofNat_le.mpr b
          have d : ((10 ^ 16 : Nat) : Int) = 10000000000000000 := by decide
          omega
      have q0 := Int.emod_nonneg 840 (show x4 ≠ 0 by omega)
      have q1 := Int.emod_lt_of_pos 840 hl
      have d0 : 0 ≤ 840 / x4 := Int.ediv_nonneg (by decide) (by omega)
      have d1 : 840 / x4 ≤ 840 := Int.ediv_le_self _ (by decide)
      have p0 : 0 ≤ x2 * (840 / x4) := Int.mul_nonneg u0 d0
      have p1 : x2 * (840 / x4) ≤ x2 * 840 := Int.mul_le_mul_of_nonneg_left d1 u0
      refine ok_ck (by decide) (ok_if (fun y => absurd y (by decide)) (fun _ => ok_ck ⟨hl, lJ⟩ (ok_ck ⟨by omega, by omega⟩ (ok_if (fun _ => ok_ck ⟨hl, lJ⟩ (ok_some ⟨p0, ⟨by omega, by omega⟩, fun _ _ => rfl⟩)) (fun y => ok_some ⟨Int.le_refl 0, by decide, fun _ w => absurd w y⟩)))))
