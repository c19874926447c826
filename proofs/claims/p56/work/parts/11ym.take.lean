/-! THE COUNT: one step -/
theorem sN_single {f : Nat → Int} {n i : Nat} (h : ∀ k, k < n → 0 ≤ f k) (hi : i < n) : f i ≤ sN f n := by
  have q1 : sN f (i + 1) ≤ sN f n := sN_part (by omega) h
  have q2 : 0 ≤ sN f i := sN_nonneg fun k hk => h k (by omega)
  rw [sN_succ] at q1
  omega
/-- x elected in the count p -/
def EL (M N : Mm) (p x el : Nat) : Prop := Off (fun i => i = 179 ∨ i = p ∨ i = p + 2 ∨ i = 187 ∨ i = 188) M N ∧ N 179 2 = M 179 2 ∧ (∀ k, k ≠ 4 → N p k = M p k) ∧ N p 4 = ((el + 1 : Nat) : Int) ∧ (∀ k, k ≠ el → N (p + 2) k = M (p + 2) k) ∧ N (p + 2) el = (x : Int)
theorem takeStep_ok {E : Ev} {M : Mm} {n kk H m p b el ex : Nat} {C : Nat → Int} {G : Nat → Nat} {R : Nat → Nat → Nat} {A : Nat → Nat} {lo : Nat → Int} {D q B o Z : Int} {P : Nat → Int} {w : Nat → Nat → Int} {eo : Nat → Nat} (hL : Lay E) (hB : BX M n kk C G R A) (hl : LT M n lo) (hW : Wts E m) (hp : isCt E p) (hpm : p + 5 ≤ m) (hp2 : 250 ≤ p) (h : CN E M n kk H D P w) (hc : CK M p n kk el ex q B C eo) (hel : el < 3) (hex : ex < 8) (hb : b < n) (hbH : H.testBit b = true) (ho : rgI o) (hq0 : 0 ≤ q) (hq1 : q ≤ 1000001) (hqD : D * q < pB 13) (hP : ∀ c, c < 9 → 0 ≤ P c ∧ P c ≤ Z) (hZ : Z + Z < pB 13) (hw : o < cS H n → (∀ k c, k < kk → c < n → 0 ≤ w k c) ∧ ∀ c, c < n → H.testBit c = true → P c = sN (fun k => w k c) kk) : Ok (f_Co_takeStep E M p (b : Int) o) (fun r => (r.1 = 0 ∧ cS H n ≤ o ∧ EL M r.2 p b el ∧ CN E r.2 n kk (dN H (2 ^ b)) D P w) ∨ (o < cS H n ∧ ((r.1 = 0 ∧ P b = q * D ∧ EL M r.2 p b el ∧ CN E r.2 n kk (dN H (2 ^ b)) D P w) ∨ (r.1 = 1 ∧ q * D < P b ∧ EL M r.2 p b el ∧ CN E r.2 n kk (dN H (2 ^ b)) D P w ∧ NatAt r.2 187 (q * D)) ∨ (r.1 = 0 ∧ P b < q * D ∧ ∃ y, y < n ∧ H.testBit y = true ∧ Off (fun i => oCn m i ∨ i = 179 ∨ i = p ∨ i = p + 3) M r.2 ∧ r.2 179 2 = M 179 2 ∧ (∀ k, k ≠ 5 → r.2 p k = M p k) ∧ r.2 p 5 = ((ex + 1 : Nat) : Int) ∧ CN E r.2 n kk (dN H (2 ^ y)) D (shP R G n (dN H (2 ^ y)) (fun k => w k y) (nw y 0 P) kk) (shW R G n (dN H (2 ^ y)) (fun k => w k y) w kk))))) := by
  have hk := hB.2.2.2.1
  have hn := hB.2.1
  have hH2 := h.2.1
  have bs := cS_bounds H n
  have hH0 : H ≠ 0 := fun z => by rw [z, Nat.zero_testBit] at hbH; cases hbH
  unfold f_Co_takeStep
  rw [h.1, bitCount_cS E M (show n ≤ 12 by omega) hH2]
  refine ok_ck hp (ok_sb (ok_ck ⟨by omega, by omega⟩ (ok_ck ho (ok_if (fun z => ?_) (fun z => ?_)))))
  · obtain ⟨s, d0⟩ := h.2.2.1
    refine ok_bm (ok_copy (yo_187 hL) (yo_183 hL) (Or.inr (by decide)) d0) ?_
    rintro M3 ⟨a3, o3⟩
    rw [show M3 p 0 = q by rw [o3 p (by unfold nn; omega)]; exact hc.1]
    refine ok_bm (ok_mulSmall (yo_187 hL) ⟨s, a3⟩ hq0 (by omega) hqD) ?_
    rintro M4 ⟨a4, o4⟩
    have eqD : D * q = q * D := Int.mul_comm D q
    rw [eqD] at a4
    have o34 : Off (fun i => i = 187 ∨ i = 188) M M4 := (o3.mono fun c hc => by unfold nn at hc; omega).trans (o4.mono fun c hc => by unfold nn at hc; omega)
    have h4 : CN E M4 n kk H D P w := h.off hW hk hn o34 (fun c hc => by omega)
    have b4 : BX M4 n kk C G R A := hB.off o34 (by omega) (by omega) (by omega) (by omega) (fun k hk => by omega)
    have l4 : LT M4 n lo := hl.off o34 (by omega)
    have p4 : M4 p = M p := o34 p (by omega)
    have b9 : inb (b : Int) 9 := inN (by omega) (by decide)
    have nb9 := yg_182 hL b9
    rw [Int.toNat_natCast] at nb9 ⊢
    obtain ⟨s1, pb1⟩ := h4.2.2.2.1 b (by omega)
    obtain ⟨s2, pb2⟩ := a4
    refine ok_ck b9 (ok_bm (ok_compare nb9 (yo_187 hL) pb1 pb2) ?_)
    rintro r rfl
    have elect : Ok (f_Co_elect E M4 p (b : Int)) (fun N => EL M N p b el ∧ CN E N n kk (dN H (2 ^ b)) D P w ∧ NatAt N 187 (q * D)) := by
      refine (elect_ok hp hp2 hpm hW hk hn h4 hb (by rw [p4]; exact hc.2.2.2.2.1) hel).mono ?_
      rintro N ⟨n1, n2, n3, n4, n5, n6, n7⟩
      refine ⟨⟨(o34.mono fun i hi => by omega).trans (n1.mono fun i hi => by omega), ?_, fun k hk => by rw [n3 k hk, p4], n4, fun k hk => by rw [n5 k hk, o34 (p + 2) (by omega)], n6⟩, n7, NatAt.off ⟨s2, pb2⟩ n1 (by omega) (by omega)⟩
      rw [n2, o34 179 (by omega)]
    by_cases c1' : P b < q * D
    · rw [if_pos c1']
      refine ok_ck (by decide) (ok_if (fun _ => ok_bm (smallest_ok hL b4.1 hn l4 h4 hH0) ?_) (fun z => absurd (by decide) z))
      rintro r ⟨y, rfl, hy, hyH⟩
      obtain ⟨w0, w1'⟩ := hw z
      have py := w1' y hy hyH
      have pyb := hP y (by omega)
      refine ok_bm (exclude_ok (m := m) (ex := ex) hL b4 hW hp hpm hp2 (by rw [p4]; exact hc.2.2.1) hy h4 (fun k hk' => w0 k y hk' hy) (fun c hc' => ?_) (fun k c hk' hc' qH => ?_) (by rw [p4]; exact hc.2.2.2.2.2.1) hex) ?_
      · have := hP c hc'
        rw [← py]
        omega
      · have a1 := sN_single (f := fun k => w k c) (fun k hk => w0 k c hk hc') hk'
        have a2 := sN_single (f := fun k => w k y) (fun k hk => w0 k y hk hy) hk'
        have a1 : w k c ≤ sN (fun k => w k c) kk := a1
        have a2 : w k y ≤ sN (fun k => w k y) kk := a2
        rw [← w1' c hc' qH] at a1
        rw [← py] at a2
        have := hP c (by omega)
        omega
      rintro N ⟨n1, n2, n3, n4, n5⟩
      unfold Co_takeStep_j79
      refine ok_ck (by decide) (ok_if (fun _ => ok_some (Or.inr ⟨z, Or.inr (Or.inr ⟨rfl, c1', y, hy, hyH, (o34.mono fun i hi => by unfold oCn; omega).trans n1, ?_, fun k hk => ?_, n4, n5⟩)⟩)) (fun z => absurd (by decide) z))
      · show N 179 2 = M 179 2
        rw [n2, o34 179 (by omega)]
      · show N p k = M p k
        rw [n3 k hk, p4]
    · rw [if_neg c1']
      by_cases c2 : q * D < P b
      · rw [if_pos c2]
        refine ok_ck (by decide) (ok_if (fun z => absurd z (by decide)) (fun _ => ok_bm elect ?_))
        rintro N ⟨n1, n2, n3⟩
        unfold Co_takeStep_j79
        exact ok_ck (by decide) (ok_if (fun z => absurd z (by decide)) (fun _ => ok_some (Or.inr ⟨z, Or.inr (Or.inl ⟨rfl, c2, n1, n2, n3⟩)⟩)))
      · rw [if_neg c2]
        refine ok_ck (by decide) (ok_if (fun z => absurd z (by decide)) (fun _ => ok_bm elect ?_))
        rintro N ⟨n1, n2, n3⟩
        unfold Co_takeStep_j79
        exact ok_ck (by decide) (ok_if (fun _ => ok_some (Or.inr ⟨z, Or.inl ⟨rfl, by omega, n1, n2⟩⟩)) (fun z => absurd (by decide) z))
  · refine ok_bm (elect_ok hp hp2 hpm hW hk hn h hb hc.2.2.2.2.1 hel) ?_
    rintro N ⟨n1, n2, n3, n4, n5, n6, n7⟩
    exact ok_some (Or.inl ⟨rfl, by omega, ⟨n1.mono fun i hi => by omega, n2, n3, n4, n5, n6⟩, n7⟩)
/-! the bounds that hold after so many were elected -/
def DB : Nat → Int
  | 0 => 120
  | e + 1 => 8100 * (DB e * DB e)
theorem DB_up {e : Nat} (h : e < 3) : DB e ≤ DB (e + 1) ∧ 0 < DB e ∧ DB e ≤ DB 2 := by
  have key : ∀ e, e < 3 → DB e ≤ DB (e + 1) ∧ 0 < DB e ∧ DB e ≤ DB 2 := by decide +kernel
  exact key e h
theorem DB_top {e : Nat} (h : e ≤ 3) : DB e ≤ DB 3 := by
  have key : ∀ e, e < 4 → DB e ≤ DB 3 := by decide +kernel
  exact key e (by omega)
theorem DB_big : 8100 * DB 2 + 1 < pB 11 ∧ (8100 * DB 2) * (8100 * DB 2) + (8100 * DB 2) * (8100 * DB 2) < pB 13 ∧ 8100 * DB 3 + 1 < pB 11 ∧ DB 2 * 1000001 < pB 13 ∧ pB 11 * 8100 < pB 13 := by decide +kernel
/-- what a set may hope for -/
def Pt (n kk : Nat) (C : Nat → Int) (R : Nat → Nat → Nat) (q : Int) (U : Nat) : Prop := ∀ S, 1 ≤ S → S < 2 ^ n → S ≠ 2 ^ n - 1 → min (Vs kk C R n S / q) (cS S n) ≤ cS (S &&& U) n
theorem sN_ifS {P : Nat → Int} {v : Int} {S n : Nat} (h : ∀ c, c < n → S.testBit c = true → P c ≤ v) : sN (fun c => if S.testBit c = true then P c else 0) n ≤ v * cS S n := by
  rw [← sN_ifc]
  refine sN_le fun c hc => ?_
  by_cases e : S.testBit c = true
  · show (if S.testBit c = true then P c else 0) ≤ if S.testBit c = true then v else 0
    rw [if_pos e, if_pos e]; exact h c hc e
  · show (if S.testBit c = true then P c else 0) ≤ if S.testBit c = true then v else 0
    rw [if_neg e, if_neg e]; exact Int.le_refl 0
theorem sN_ifS' {P : Nat → Int} {v : Int} {S n : Nat} (h : ∀ c, c < n → S.testBit c = true → v ≤ P c) : v * cS S n ≤ sN (fun c => if S.testBit c = true then P c else 0) n := by
  rw [← sN_ifc]
  refine sN_le fun c hc => ?_
  by_cases e : S.testBit c = true
  · show (if S.testBit c = true then v else 0) ≤ if S.testBit c = true then P c else 0
    rw [if_pos e, if_pos e]; exact h c hc e
  · show (if S.testBit c = true then v else 0) ≤ if S.testBit c = true then P c else 0
    rw [if_neg e, if_neg e]; exact Int.le_refl 0
theorem cS_both {S H T n : Nat} (h : ∀ i, ¬ (H.testBit i = true ∧ T.testBit i = true)) : cS (S &&& (H ||| T)) n = cS (H &&& S) n + cS (S &&& T) n := by
  unfold cS
  rw [← sN_add]
  refine sN_congr fun c _ => ?_
  show (if (S &&& (H ||| T)).testBit c = true then (1 : Int) else 0) = (if (H &&& S).testBit c = true then (1 : Int) else 0) + (if (S &&& T).testBit c = true then (1 : Int) else 0)
  rw [Nat.testBit_and, Nat.testBit_or, Nat.testBit_and, Nat.testBit_and]
  have := h c
  cases S.testBit c <;> cases hH : H.testBit c <;> cases hT : T.testBit c <;> simp_all
theorem div_lt_of {v q D k : Int} (hq : 0 < q) (hD : 0 < D) (h : v * D < q * D * k) : v / q < k := by
  have h2 : v < k * q := by
    rcases Int.lt_or_le v (k * q) with z | z
    · exact z
    · have a := Int.mul_le_mul_of_nonneg_right z (Int.le_of_lt hD)
      have e : k * q * D = q * D * k := by grind
      omega
  exact Int.ediv_lt_of_lt_mul hq h2
/-- an exclusion leaves each set what it may hope for -/
theorem Pt_excl {n kk : Nat} {C : Nat → Int} {G : Nat → Nat} {R : Nat → Nat → Nat} {q : Int} {H H' T x : Nat} {D : Int} {P : Nat → Int} {w : Nat → Nat → Int} (hq : 0 < q) (hx : x < n) (ho : wo H H' x) (hd : ∀ i, ¬ (H.testBit i = true ∧ T.testBit i = true)) (h : MI n kk C G R q H T D P w) (hall : ∀ c, c < n → H.testBit c = true → P c < q * D) (hp : Pt n kk C R q (H ||| T)) : Pt n kk C R q (H' ||| T) := by
  intro S s1 s2 s3
  obtain ⟨h1, h2, h3, h4, h5, h6, h7, h8⟩ := h
  have hd' : ∀ i, ¬ (H'.testBit i = true ∧ T.testBit i = true) := fun i z => hd i ⟨ho.sub z.1, z.2⟩
  rw [cS_both hd']
  by_cases e : S.testBit x = true
  · have hHS : H &&& S ≠ 0 := fun z => by
      have : (H &&& S).testBit x = true := by rw [Nat.testBit_and, ho.1, e]; rfl
      rw [z, Nat.zero_testBit] at this
      cases this
    have a := h8 S s1 s2 s3 hHS
    have b : RS kk R n S H w ≤ sN (fun c => if (H &&& S).testBit c = true then P c else 0) n := RS_le fun c hc q => by rw [h4 c hc q]; exact (zS_b fun k hk => h3 k c hk hc).2
    have d : sN (fun c => if (H &&& S).testBit c = true then P c else 0) n ≤ (q * D - 1) * cS (H &&& S) n := sN_ifS fun c hc z => by
      rw [Nat.testBit_and, Bool.and_eq_true] at z
      have := hall c hc z.1
      omega
    have f : cS (H &&& S) n = cS (H' &&& S) n + 1 := cS_del hx (by rw [Nat.testBit_and, ho.1, e]; rfl) (by rw [Nat.testBit_and, ho.2.1]; rfl) (fun i _ hne => by rw [Nat.testBit_and, Nat.testBit_and, ho.2.2 i hne])
    have f0 := (cS_bounds (H' &&& S) n).1
    have g : Vs kk C R n S / q < cS (H &&& S) n + cS (S &&& T) n := by
      refine div_lt_of hq h1 ?_
      generalize cS (H &&& S) n = hh at d f
      have e1 : (q * D - 1) * hh = q * D * hh - hh := by grind
      have e2 : q * D * (hh + cS (S &&& T) n) = q * D * hh + q * D * cS (S &&& T) n := by grind
      omega
    omega
  · have a := hp S s1 s2 s3
    rw [cS_both hd] at a
    have f : cS (H &&& S) n = cS (H' &&& S) n := cS_congr fun i _ => by
      rw [Nat.testBit_and, Nat.testBit_and]
      by_cases d : i = x
      · rw [d, Bool.eq_false_iff.mpr e, Bool.and_false, Bool.and_false]
      · rw [ho.2.2 i d]
    omega
/-- when all seats are taken -/
theorem Pt_full {n kk : Nat} {C : Nat → Int} {G : Nat → Nat} {R : Nat → Nat → Nat} {q st : Int} {H T : Nat} {D : Int} {P : Nat → Int} {w : Nat → Nat → Int} (hn : n ≤ 8) (hq : 0 < q) (hB : sN C kk < q * (st + 1)) (hT : cS T n = st) (hd : ∀ i, ¬ (H.testBit i = true ∧ T.testBit i = true)) (h : MI n kk C G R q H T D P w) (hp : Pt n kk C R q (H ||| T)) : ∀ S, 1 ≤ S → S < 2 ^ n → S ≠ 2 ^ n - 1 → min (Vs kk C R n S / q) (cS S n) ≤ cS (S &&& T) n := by
  intro S s1 s2 s3
  obtain ⟨h1, h2, h3, h4, h5, h6, h7, h8⟩ := h
  by_cases hHS : H &&& S = 0
  · have a := hp S s1 s2 s3
    rw [cS_both hd, hHS, cS_zero] at a
    omega
  · have a := h8 S s1 s2 s3 hHS
    have b : RS kk R n S H w ≤ sN (fun c => if (H &&& S).testBit c = true then P c else 0) n := RS_le fun c hc q => by rw [h4 c hc q]; exact (zS_b fun k hk => h3 k c hk hc).2
    have t := sN_ifS' (P := P) (S := T) (n := n) h7
    rw [hT] at t
    have s : sN (fun c => if (H &&& S).testBit c = true then P c else 0) n + sN (fun c => if T.testBit c = true then P c else 0) n ≤ sN P 9 := by
      rw [← sN_add]
      refine Int.le_trans (sN_le (g := P) fun c hc => ?_) (sN_part (by omega) h2)
      have p0 := h2 c (by omega)
      have dd := hd c
      show (if (H &&& S).testBit c = true then P c else 0) + (if T.testBit c = true then P c else 0) ≤ P c
      by_cases z : T.testBit c = true
      · rw [if_pos z, if_neg (fun y => by rw [Nat.testBit_and, Bool.and_eq_true] at y; exact dd ⟨y.1, z⟩)]; omega
      · rw [if_neg z]
        by_cases y : (H &&& S).testBit c = true
        · rw [if_pos y]; omega
        · rw [if_neg y]; omega
    rw [h5] at s
    have g : Vs kk C R n S / q < 1 + cS (S &&& T) n := by
      refine div_lt_of hq h1 ?_
      have e1 := Int.mul_lt_mul_of_pos_left hB h1
      have e2 : D * (q * (st + 1)) = q * D * st + q * D := by grind
      have e3 : q * D * (1 + cS (S &&& T) n) = q * D + q * D * cS (S &&& T) n := by grind
      omega
    omega
