/-! THE LAW PUT TOGETHER, but for the count and the errors -/
/-- the house when the ballots are in: E M, n candidates -/
def HQ (E : Ev) (M : Mm) (n kk : Nat) (C : Nat → Int) (G : Nat → Nat) (R : Nat → Nat → Nat) (A : Nat → Nat) (lo : Nat → Int) : Prop := Lay E ∧ BX M n kk C G R A ∧ LB E M 250 n kk C G R ∧ LT M n lo ∧ Ring M ∧ M 2 1 = 0 ∧ 2 ≤ n ∧ n ≤ 5 ∧ kk ≤ 9 ∧ sN C kk ≤ 8100 ∧ (∀ c, 40 ≤ c → c < 246 → c ≠ 243 → M c = fun _ => 0) ∧ (M 249 = fun _ => 0) ∧ (M 8 = fun _ => 0) ∧ M 243 = va_up (fun _ => 0) 1 1 ∧ (∀ k, rE E 180 k = none) ∧ ∀ k, rE E 181 k = none
/-- what the count left, kept by all that comes after it -/
def Kp (TC : Ev → Mm → Prop) : Prop := ∀ E F M N, TC E M → Ge E F → Off (fun c => c ≤ 52 ∨ (246 ≤ c ∧ c ≤ 248) ∨ nE E ≤ c) M N → TC F N
theorem law_asm {TC : Nat → Nat → (Nat → Int) → (Nat → Nat) → (Nat → Nat → Nat) → Ev → Mm → Prop} (hK : ∀ n kk C G R, Kp (TC n kk C G R)) (hT : ∀ E M n kk C G R A lo, HQ E M n kk C G R A lo → Ok (f_La_transferable E M 250 0) (fun r => r.1 = 1 ∧ Gw E r.2.1 ∧ Lay r.2.1 ∧ BX r.2.2 n kk C G R A ∧ LB r.2.1 r.2.2 250 n kk C G R ∧ LT r.2.2 n lo ∧ Ring r.2.2 ∧ r.2.2 2 1 = 0 ∧ TC n kk C G R r.2.1 r.2.2)) (hEr : ∀ E M n kk C G R A, Lay E → BX M n kk C G R A → 2 ≤ n → n ≤ 5 → TC n kk C G R E M → Ok (f_B_errors E M) (fun r => r.1 = 0)) {L : Nat} {xs : Nat → Int32} (hL9 : L ≤ 260) : Ok (f_La_law L xs eNil (fun _ _ => 0)) (fun r => r = 1) := by
  have fin : ∀ (F : Ev) (N : Mm), Lay F → Ok (La_law_j211 L xs F N 0 1) (fun r => r = 1) := fun F N hF => by
    have i0 : isIA eOne 0 := ⟨by show 0 < 1; decide, rfl⟩
    unfold La_law_j211
    refine ok_ck hF (ok_ck ⟨yi_0 hF, by rw [yt_0 hF]⟩ (ok_ck (by decide) (ok_if (fun z => absurd z (by decide)) (fun _ => ok_ck ⟨rfl, by rw [yt_0 hF]⟩ (ok_bm (seats_ok (E := eOne) rfl desc_one i0) ?_)))))
    rintro ⟨a, F1, N1⟩ ⟨e1r, g1r⟩
    have e1 : a = 1 := e1r
    have g1 : Gw eOne F1 := g1r
    subst e1
    refine ok_ck g1 (ok_ck (by decide) (ok_if (fun z => absurd z (by decide)) (fun _ => ok_ck ⟨rfl, by rw [g1.2 0 (by decide)]; rfl⟩ (ok_bm (districts_ok (E := eOne) rfl desc_one i0) ?_))))
    rintro ⟨a, F2, N2⟩ ⟨e2r, g2r⟩
    have e2 : a = 1 := e2r
    have g2 : Gw eOne F2 := g2r
    subst e2
    refine ok_ck g2 (ok_ck (by decide) (ok_if (fun z => absurd z (by decide)) (fun _ => ok_ck ⟨rfl, by rw [g2.2 0 (by decide)]; rfl⟩ (ok_bm (council_ok (E := eOne) rfl desc_one i0) ?_))))
    rintro ⟨a, F3, N3⟩ ⟨e3r, g3r⟩
    have e3 : a = 1 := e3r
    have g3 : Gw eOne F3 := g3r
    subst e3
    exact ok_ck g3 (ok_ck (by decide) (ok_if (fun z => absurd z (by decide)) (fun _ => ok_some rfl)))
  have mid : ∀ (F : Ev) (N : Mm) n kk C G R A lo, HQ F N n kk C G R A lo → Ok (La_law_j136 L xs F N 0 250 1) (fun r => r = 1) := fun F N n kk C G R A lo h => by
    obtain ⟨h1, h2, h3, h4, h5, h6, h7, h8, h9, h10, h11, h12, h13, h14, h15⟩ := h
    unfold La_law_j136
    refine ok_ck h1 (ok_ck ⟨yi_0 h1, by rw [yt_0 h1]⟩ (ok_ck h3.1 ?_))
    rw [h3.2.2.1]
    refine ok_bm (next_ok ⟨yi_0 h1, by rw [yt_0 h1]⟩ (by rw [yt_0 h1]) (by omega) (by omega)) ?_
    rintro ⟨c0, N1⟩ ⟨⟨c1r, c2r⟩, n1r⟩
    have n1 : Off (fun i => i = 0) N N1 := n1r
    obtain ⟨c, rfl⟩ : ∃ c : Nat, c0 = (c : Int) := ⟨c0.toNat, by have : 0 ≤ c0 := c1r; omega⟩
    have hc : c < n := by have : (c : Int) < (n : Int) := c2r; omega
    refine ok_bm (next_ok ⟨yi_0 h1, by rw [yt_0 h1]⟩ (by rw [yt_0 h1]) (by decide) (by decide)) ?_
    rintro ⟨v0, N2⟩ ⟨⟨v1r, v2r⟩, n2r⟩
    have n2 : Off (fun i => i = 0) N1 N2 := n2r
    obtain ⟨v, rfl⟩ : ∃ v : Nat, v0 = (v : Int) := ⟨v0.toNat, by have : 0 ≤ v0 := v1r; omega⟩
    have hv : v ≤ 99 := by have : (v : Int) < 100 := v2r; omega
    have n12 : Off (fun i => i = 0) N N2 := n1.trans n2
    have hB2 : BX N2 n kk C G R A := h2.off n12 (by decide) (by decide) (by decide) (by decide) (fun k hk => by omega)
    refine ok_bm (setLot_ok h1 hB2.1 h8 (h4.off n12 (by decide)) (h5.of (n12 1 (by decide))) hc hv) ?_
    rintro ⟨y, P⟩ ⟨p1r, p2r, p3r⟩
    have p1 : Off (fun i => i = 1 ∨ i = 4 ∨ i = 246 ∨ i = 247 ∨ i = 248) N2 P := p1r
    have p2 : Ring P := p2r
    have p3 : LT P n (nw c (v : Int) lo) := p3r
    have hBP : BX P n kk C G R A := hB2.off p1 (by decide) (by decide) (by decide) (by decide) (fun k hk => by omega)
    have oP : Off (fun i => i = 0 ∨ i = 1 ∨ i = 4 ∨ i = 246 ∨ i = 247 ∨ i = 248) N P := (n12.mono fun c hc => Or.inl hc).trans (p1.mono fun c hc => Or.inr hc)
    have lbP : LB F P 250 n kk C G R := h3.off oP (fun c a b => by omega)
    have hq : HQ F P n kk C G R A (nw c (v : Int) lo) := ⟨h1, hBP, lbP, p3, p2, by rw [oP 2 (by decide)]; exact h6, h7, h8, h9, h10, fun d d1 d2 d3 => by rw [oP d (by omega)]; exact h11 d d1 d2 d3, by rw [oP 249 (by decide)]; exact h12, by rw [oP 8 (by decide)]; exact h13, by rw [oP 243 (by decide)]; exact h14, h15⟩
    refine ok_ck (by decide) (ok_if (fun z => absurd z (by decide)) (fun _ => ok_bm (allBallots_ok h1 hBP) ?_))
    rintro r rfl
    refine ok_bm (lbAll_ok lbP) ?_
    rintro r rfl
    have s0 := sN_nonneg (f := C) (fun k hk => (h2.2.2.2.2.1 k hk).2.2)
    refine ok_ck ⟨by omega, by omega⟩ (ok_ck ⟨by omega, by omega⟩ (ok_if (fun _ => ok_bm (hT F P n kk C G R A _ hq) ?_) (fun z => absurd rfl z)))
    rintro ⟨a, F1, P1⟩ ⟨t1r, t2r, t3r, t4r, t5r, t6r, t7r, t8r, t9r⟩
    have t1 : a = 1 := t1r
    have t2 : Gw F F1 := t2r
    have t3 : Lay F1 := t3r
    have t4 : BX P1 n kk C G R A := t4r
    have t5 : LB F1 P1 250 n kk C G R := t5r
    have t6 : LT P1 n (nw c (v : Int) lo) := t6r
    have t7 : Ring P1 := t7r
    have t8 : P1 2 1 = 0 := t8r
    have t9 : TC n kk C G R F1 P1 := t9r
    subst t1
    refine ok_ck t2 (ok_ck t3 (ok_ck (by decide) (ok_if (fun z => absurd z (by decide)) (fun _ => ok_bm (pairs_ok t3 t4 t5 h7 h8) ?_))))
    rintro ⟨a, F2, P2⟩ ⟨u1r, u2r, u3r, u4r⟩
    have u1 : a = 1 := u1r
    have u2' : Ge F1 F2 := u2r
    have u3 : Lay F2 := u3r
    have u4 : Off (fun c => oP2 c ∨ nE F1 ≤ c) P1 P2 := u4r
    have n250 := t3.1
    subst u1
    have t4' : BX P2 n kk C G R A := t4.off u4 (by unfold oP2; omega) (by unfold oP2; omega) (by unfold oP2; omega) (by unfold oP2; omega) (fun k hk => by unfold oP2; omega)
    have lb2 : LB F2 P2 250 n kk C G R := (t5.off u4 (fun c a b => by unfold oP2; omega)).ge u2'
    refine ok_ck u2'.1 (ok_ck u3 (ok_ck (by decide) (ok_if (fun z => absurd z (by decide)) (fun _ => ok_bm (gains_ok u3 lb2.1 lb2.2.1 lb2.2.2.1 t4' (t6.off u4 (by unfold oP2; omega)) (t7.of (u4 1 (by unfold oP2; omega))) (by rw [u4 2 (by unfold oP2; omega)]; exact t8) (by omega) (by omega) h7 h8) ?_))))
    rintro ⟨a, F3, P3⟩ ⟨w1r, w2r, w3r, w4r, w5r⟩
    have w1 : a = 1 := w1r
    have w2 : Ge F2 F3 := w2r
    have w3 : Lay F3 := w3r
    have w4 : BX P3 n kk C G R A := w4r
    have w5 : Off (fun c => oGa c ∨ nE F2 ≤ c) P2 P3 := w5r
    subst w1
    have tc2 : TC n kk C G R F2 P2 := hK n kk C G R _ _ _ _ t9 u2' (u4.mono fun c hc => by unfold oP2 at hc; omega)
    have tc3 : TC n kk C G R F3 P3 := hK n kk C G R _ _ _ _ tc2 w2 (w5.mono fun c hc => by unfold oGa at hc; omega)
    refine ok_ck w2.1 (ok_ck w3 (ok_ck (by decide) (ok_if (fun z => absurd z (by decide)) (fun _ => ok_bm (hEr F3 P3 n kk C G R A w3 w4 h7 h8 tc3) ?_))))
    rintro ⟨a, P4⟩ e0r
    have e0 : a = 0 := e0r
    subst e0
    exact ok_ck (by decide) (ok_if (fun _ => fin F3 P4 w3) (fun z => absurd rfl z))
  unfold f_La_law
  refine ok_nb (ok_nbx fun E1 hE1 => ok_nbx fun M1 hM1 => ?_)
  have n1 : nE E1 = 1 := by rw [hE1]; rfl
  have i1 : isIA E1 0 := ⟨by omega, by rw [hE1]; exact congrArg Prod.fst (new_T eNil (0, 1))⟩
  have t1 : (tE E1 0).2 = 1 := by rw [hE1]; exact congrArg Prod.snd (new_T eNil (0, 1))
  refine ok_ck (by show inb 0 (tE E1 0).2; rw [t1]; decide) (ok_bm (hash_ok (L := L) (xs := xs) (E := E1) (M := u2 M1 0 0 13) hL9 i1 t1) ?_)
  rintro ⟨t, x2, E2, M2⟩ ⟨g1, g2r, g3r⟩
  have g2 : E2 = E1 := g2r
  subst g2
  refine ok_ck (gw_self _) (ok_ck g1 (ok_nbx fun p2 hp2 => ok_nbx fun E3 hE3 => ok_nbx fun M3 hM3 => ?_))
  have hp2 : p2 = 1 := hp2.trans n1
  subst hp2
  have hM3 : M3 = mN M2 1 := by rw [hM3]; exact congrArg (mN M2) n1
  have hD : Desc E3 kc0 := by rw [hE3, hE1]; exact desc_nil
  refine ok_bm (ctor_ok hD (by rw [hM3, mN_at])) ?_
  rintro ⟨E4, M4⟩ ⟨D4r, -, z4r, z243r⟩
  have D4 : Desc E4 kc85 := D4r
  have z4 : ∀ i, 0 < i → i < 250 → i ≠ 243 → M4 i = fun _ => 0 := z4r
  have z243 : M4 243 = va_up (fun _ => 0) 1 1 := z243r
  have hG : Gw E3 E4 := hD.gw2 D4 (by decide +kernel)
  obtain ⟨hL4, n4, z180, z181⟩ := lay_of D4
  refine ok_ck hG (ok_ck ⟨hL4, rfl⟩ (ok_nbx fun p5 hp5 => ok_nbx fun E5 hE5 => ok_nbx fun M5 hM5 => ?_))
  have hp5 : p5 = 250 := hp5.trans n4
  subst hp5
  have hM5 : M5 = mN M4 250 := by rw [hM5]; exact congrArg (mN M4) n4
  have hL5 : Lay E5 := by rw [hE5]; exact lay_new hL4
  have o5 : Off (fun c => c = 250) M4 M5 := by rw [hM5]; exact off_mN rfl
  refine ok_bm (next_ok (p := 0) ⟨yi_0 hL5, by rw [yt_0 hL5]⟩ (by rw [yt_0 hL5]) (by decide) (by decide)) ?_
  rintro ⟨r0, M6⟩ ⟨⟨r1r, r2r⟩, m6r⟩
  have r1 : 0 ≤ r0 := r1r
  have r2 : r0 < 4 := r2r
  have m6 : Off (fun c => c = 0) M5 M6 := m6r
  obtain ⟨n, hn⟩ : ∃ n : Nat, 2 + r0 = (n : Int) := ⟨(2 + r0).toNat, by omega⟩
  have hn2 : 2 ≤ n := by omega
  have hn5 : n ≤ 5 := by omega
  have init := lbInit_ok (E := E4) (M := M6) (n := n) hL4
  rw [n4, ← hE5] at init
  show Ok ((f_Lb_init E5 M6 250 (2 + r0)).bind _) _
  rw [hn]
  refine ok_bm init ?_
  rintro ⟨E7, M7⟩ ⟨a1r, a0r, a2r, a3r, a4r⟩
  have a0 : Gz E4 E7 := Gz.ge hL4.1 a0r
  have a1 : Gw E5 E7 := a1r
  have a2 : Lay E7 := a2r
  have a3 : Off (fun c => c = 250 ∨ 250 < c) M6 M7 := a3r
  obtain ⟨lb7, lz7⟩ := a4r (by rw [m6 250 (by decide), hM5, mN_at])
  have lb7 : LB E7 M7 250 n 0 (fun _ => 0) (fun _ => 0) (fun _ _ => 0) := lb7
  have lz7 : LZ E7 M7 250 0 := lz7
  have z7 : ∀ i, 0 < i → i < 250 → i ≠ 243 → M7 i = fun _ => 0 := fun i h1 h2 h3 => by
    rw [a3 i (by omega), m6 i (by omega), o5 i (by omega)]; exact z4 i h1 h2 h3
  have z7' : M7 243 = va_up (fun _ => 0) 1 1 := by rw [a3 243 (by decide), m6 243 (by decide), o5 243 (by decide)]; exact z243
  have rg7 : Ring M7 := by
    unfold Ring
    rw [z7 1 (by decide) (by decide) (by decide)]
    decide
  refine ok_ck a1 (ok_ck a2 (ok_bm (cand_ok (L := L) (xs := xs) a2 ⟨yi_0 a2, by rw [yt_0 a2]⟩ lb7.1 lb7.2.1 lb7.2.2.1 hn5 rg7 (by rw [z7 2 (by decide) (by decide) (by decide)]) (by rw [z7 2 (by decide) (by decide) (by decide)])) ?_))
  rintro ⟨t, x4, E8, M8⟩ ⟨b1, b2r, b3r, b4r, b5r, b6r, b7r⟩
  have b2 : E8 = E7 := b2r
  subst b2
  have b3 : Off oBx M7 M8 := b3r
  have b4 : Ring M8 := b4r
  have b5 : BX M8 n 0 (fun _ => 0) (fun _ => 0) (fun _ _ => 0) (fun _ => 0) := b5r
  have b6 : LT M8 n (fun c => (c : Int)) := b6r
  have b7 : M8 2 1 = 0 := by
    have : M8 2 1 = M7 2 1 := b7r
    rw [this, z7 2 (by decide) (by decide) (by decide)]
  have lb8 : LB E8 M8 250 n 0 (fun _ => 0) (fun _ => 0) (fun _ _ => 0) := lb7.off b3 (fun c h1 h2 => by unfold oBx oBa; omega)
  have lz8 : LZ E8 M8 250 0 := lz7.off b3 (fun pm hpm => by
    obtain ⟨-, -, -, -, -, pr, pm', -, -, -, -, c5, -, -, c8, -⟩ := lb8
    rw [hpm] at c5
    have := Option.some.inj c5
    unfold oBx oBa
    omega)
  refine ok_ck (gw_self _) (ok_ck a2 (ok_ck b1 (ok_bm (next_ok (p := 0) ⟨yi_0 a2, by rw [yt_0 a2]⟩ (by rw [yt_0 a2]) (by decide) (by decide)) ?_)))
  rintro ⟨s0, M9⟩ ⟨⟨s1r, s2r⟩, m9r⟩
  have s1 : 0 ≤ s0 := s1r
  have s2 : s0 < 8 := s2r
  have m9 : Off (fun c => c = 0) M8 M9 := m9r
  obtain ⟨m, hm⟩ : ∃ m : Nat, 2 + s0 = (m : Int) := ⟨(2 + s0).toNat, by omega⟩
  have lb9 : LB E8 M9 250 n 0 (fun _ => 0) (fun _ => 0) (fun _ _ => 0) := lb8.off m9 (fun c h1 h2 => by omega)
  have lz9 : LZ E8 M9 250 0 := lz8.off m9 (fun pm hpm => by
    obtain ⟨-, -, -, -, -, pr, pm', -, -, -, -, c5, -, -, c8, -⟩ := lb9
    rw [hpm] at c5
    have := Option.some.inj c5
    omega)
  show Ok ((l_La_law_112 L xs 0 250 32 E8 M9 1 (2 + s0)).bind _) _
  rw [hm]
  refine ok_bm (boxes_ok (L := L) (xs := xs) a2 (b5.off m9 (by decide) (by decide) (by decide) (by decide) (fun k hk => by omega)) lb9 lz9 (b4.of (m9 1 (by decide))) (by rw [m9 2 (by decide)]; exact b7) (by omega) hn5 (by omega)) ?_
  rintro ⟨t, x4, x5, E9, M10⟩ ⟨d1r, d2r, d3r, d4r, d5r, d6r, d7r, kk, C, G, R, A, d8, d9, d10r, d11r, -⟩
  have d1 : t = 1 := d1r
  have d2 : x4 = 1 := d2r
  have d3' : Gz E8 E9 := d3r
  have d3 : Gw E8 E9 := d3'.1
  have zr := a0.trans d3'
  have d4 : Lay E9 := d4r
  have d5 : Off oLw M9 M10 := d5r
  subst d2
  have zz : ∀ i, 0 < i → i < 250 → ¬ oBx i → ¬ oLw i → M10 i = M7 i := fun i h1 h2 h3 h4 => by rw [d5 i h4, m9 i (by omega), b3 i h3]
  have hq : HQ E9 M10 n kk C G R A (fun c => (c : Int)) := ⟨d4, d10r, d11r, (b6.off m9 (by decide)).off d5 (by unfold oLw oBa; decide), d6r, d7r, hn2, hn5, d8, d9, fun c h1 h2 h3 => by rw [zz c (by omega) (by omega) (by unfold oBx oBa; omega) (by unfold oLw oBa; omega)]; exact z7 c (by omega) (by omega) h3, by rw [zz 249 (by decide) (by decide) (by unfold oBx oBa; omega) (by unfold oLw oBa; omega)]; exact z7 249 (by decide) (by decide) (by decide), by rw [zz 8 (by decide) (by decide) (by unfold oBx oBa; omega) (by unfold oLw oBa; omega)]; exact z7 8 (by decide) (by decide) (by decide), by rw [zz 243 (by decide) (by decide) (by unfold oBx oBa; omega) (by unfold oLw oBa; omega)]; exact z7', fun k => by rw [zr.2.1]; exact z180 k, fun k => by rw [zr.2.2]; exact z181 k⟩
  exact ok_ck d3 (ok_ck d4 (ok_ck d1 (mid E9 M10 n kk C G R A _ hq)))
