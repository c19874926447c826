theorem reduce_ok {E : Ev} {M : Mm} {a d : Int} (hL : Lay E) (ha : NatAt M 189 a) (hd : NatAt M 191 d) (hd0 : 0 < d) (hd11 : d < pB 11) (ha11 : a < pB 11) : Ok (f_Co_reduce E M) (fun N => Off (fun i => 189 ≤ i ∧ i ≤ 200) M N ∧ ∃ g, GC a d g ∧ NatAt N 189 (a / g) ∧ NatAt N 191 (d / g)) := by
  have n189 := yo_189 hL
  have n191 := yo_191 hL
  have n193 := yo_193 hL
  have n195 := yo_195 hL
  have n197 := yo_197 hL
  have n199 := yo_199 hL
  have hS := ha
  obtain ⟨s1, ha'⟩ := ha
  obtain ⟨s2, hd'⟩ := hd
  unfold f_Co_reduce
  refine ok_bm (ok_copy n193 n191 (Or.inr (by decide)) hd') ?_
  rintro B ⟨b1, b2⟩
  have aB : NatS B 189 s1 a := ha'.off b2 (by unfold nn; decide) (by unfold nn; decide)
  refine ok_bm (ok_copy n195 n189 (Or.inr (by decide)) aB) ?_
  rintro K ⟨k1, k2⟩
  have oK : Off (fun i => 189 ≤ i ∧ i ≤ 200) M K := (b2.mono fun i hi => by unfold nn at hi; omega).trans (k2.mono fun i hi => by unfold nn at hi; omega)
  have d3 : NatAt K 193 d := ⟨s2, b1.off k2 (by unfold nn; decide) (by unfold nn; decide)⟩
  have a9 : NatAt K 189 a := ⟨s1, aB.off k2 (by unfold nn; decide) (by unfold nn; decide)⟩
  have d9 : NatAt K 191 d := ⟨s2, (hd'.off b2 (by unfold nn; decide) (by unfold nn; decide)).off k2 (by unfold nn; decide) (by unfold nn; decide)⟩
  refine ok_bm (gcd_ok hL d3 ⟨s1, k1⟩ hd0 hS.lo hd11 ha11) ?_
  rintro ⟨t, q1, q2, x3, N⟩ ⟨t1, g, g1, gd, g2r, g3r, g4r⟩
  have g2 : q1 = 193 ∨ q1 = 195 := g2r
  have g3 : NatAt N q1 g := g3r
  have g4 : Off (fun i => 193 ≤ i ∧ i ≤ 200) K N := g4r
  have nq : isNa E q1 := by rcases g2 with e | e <;> rw [e]; exact n193; exact n195
  have aN : NatAt N 189 a := a9.off g4 (by decide) (by decide)
  have dN' : NatAt N 191 d := d9.off g4 (by decide) (by decide)
  have oN : Off (fun i => 189 ≤ i ∧ i ≤ 200) M N := oK.trans (g4.mono fun i hi => by omega)
  refine ok_ck t1 (ok_ck nq ?_)
  unfold Co_reduce_j69
  refine ok_ck nq (ok_bm (isOne_ok nq g3) ?_)
  rintro r (⟨rfl, e1⟩ | ⟨rfl, e1⟩)
  · refine ok_ck (by decide) (ok_if (fun z => absurd z (by decide)) (fun _ => ok_some ⟨oN, g, g1, ?_, ?_⟩))
    · rw [e1, Int.ediv_one]; exact aN
    · rw [e1, Int.ediv_one]; exact dN'
  · have a1 : ap 189 q1 := by rcases g2 with e | e <;> rw [e] <;> exact Or.inl (by decide)
    have a2 : ap 191 q1 := by rcases g2 with e | e <;> rw [e] <;> exact Or.inl (by decide)
    have a3 : ap q1 197 := by rcases g2 with e | e <;> rw [e] <;> exact Or.inl (by decide)
    have a4 : ap q1 199 := by rcases g2 with e | e <;> rw [e] <;> exact Or.inl (by decide)
    refine ok_ck (by decide) (ok_if (fun _ => ok_bm (ok_divide n189 nq n197 n199 a1 (Or.inl (by decide)) (Or.inl (by decide)) a3 a4 (Or.inl (by decide)) aN g3 g1.1 ha11) ?_) (fun z => absurd rfl z))
    rintro P ⟨-, ⟨s3, p1⟩, p2'⟩
    have gP : NatAt P q1 g := g3.off p2' (by unfold n3 nn; omega) (by unfold n3 nn; omega)
    have dP : NatAt P 191 d := dN'.off p2' (by unfold n3 nn; omega) (by unfold n3 nn; omega)
    refine ok_bm (ok_copy n189 n197 (Or.inl (by decide)) p1) ?_
    rintro Q ⟨u1, u2'⟩
    have gQ : NatAt Q q1 g := gP.off u2' (by unfold nn; omega) (by unfold nn; omega)
    have dQ : NatAt Q 191 d := dP.off u2' (by unfold nn; decide) (by unfold nn; decide)
    refine ok_bm (ok_divide n191 nq n197 n199 a2 (Or.inl (by decide)) (Or.inl (by decide)) a3 a4 (Or.inl (by decide)) dQ gQ g1.1 hd11) ?_
    rintro U ⟨-, ⟨s4, v1⟩, v2⟩
    have aU : NatS U 189 s3 (a / g) := u1.off v2 (by unfold n3 nn; omega) (by unfold n3 nn; omega)
    refine ok_bm (ok_copy n191 n197 (Or.inl (by decide)) v1) ?_
    rintro W ⟨w1, w2⟩
    exact ok_some ⟨oN.trans ((p2'.mono fun i hi => by unfold n3 nn at hi; omega).trans ((u2'.mono fun i hi => by unfold nn at hi; omega).trans ((v2.mono fun i hi => by unfold n3 nn at hi; omega).trans (w2.mono fun i hi => by unfold nn at hi; omega)))), g, g1, ⟨s3, aU.off w2 (by unfold nn; decide) (by unfold nn; decide)⟩, ⟨s4, w1⟩⟩
/-- digits from the least -/
def lV (x : Nat → Int) : Nat → Int
  | 0 => 0
  | i + 1 => lV x i + x i * ((10 ^ i : Nat) : Int)
/-- digits from the greatest -/
def gV (x : Nat → Int) : Nat → Int
  | 0 => 0
  | i + 1 => 10 * gV x i + x i
theorem gV_congr {x y : Nat → Int} : ∀ {m : Nat}, (∀ i, i < m → x i = y i) → gV x m = gV y m
  | 0, _ => rfl
  | m + 1, h => by
    show 10 * gV x m + x m = 10 * gV y m + y m
    rw [gV_congr (m := m) fun i hi => h i (by omega), h m (by omega)]
theorem lV_shift (x : Nat → Int) : ∀ m, lV x (m + 1) = x 0 + 10 * lV (fun i => x (i + 1)) m
  | 0 => by
    show 0 + x 0 * ((10 ^ 0 : Nat) : Int) = x 0 + 10 * 0
    rw [Nat.pow_zero]; omega
  | m + 1 => by
    have ih := lV_shift x m
    show lV x (m + 1) + x (m + 1) * ((10 ^ (m + 1) : Nat) : Int) = x 0 + 10 * (lV (fun i => x (i + 1)) m + x (m + 1) * ((10 ^ m : Nat) : Int))
    rw [ih, Nat.pow_succ, Int.natCast_mul]
    grind
theorem gV_rev : ∀ (m : Nat) (x : Nat → Int), gV (fun i => x (m - 1 - i)) m = lV x m
  | 0, _ => rfl
  | m + 1, x => by
    have ih := gV_rev m (fun i => x (i + 1))
    show 10 * gV (fun i => x (m + 1 - 1 - i)) m + x (m + 1 - 1 - m) = _
    rw [gV_congr (x := fun i => x (m + 1 - 1 - i)) (y := fun i => x (m - 1 - i + 1)) (fun i hi => congrArg x (by omega)), ih, lV_shift, show m + 1 - 1 - m = 0 by omega]
    omega
theorem lV_lo {x : Nat → Int} : ∀ {m : Nat}, (∀ i, i < m → 0 ≤ x i) → 0 ≤ lV x m
  | 0, _ => Int.le_refl 0
  | m + 1, h => by
    have a := lV_lo (m := m) fun i hi => h i (by omega)
    have b := Int.mul_nonneg (h m (by omega)) (Int.natCast_nonneg (10 ^ m))
    show 0 ≤ lV x m + x m * ((10 ^ m : Nat) : Int)
    omega
