theorem place_of {E : Ev} {M : Mm} {p s c : Nat} (hp : isCt E p) : f_Ct_placeOf E M p (s : Int) (c : Int) = some (((s * 10 + c) * 13 : Nat) : Int) := by
  unfold f_Ct_placeOf
  rw [ck_i hp]
  congr 1
theorem loadPile_ok {E : Ev} {M : Mm} {p s c : Nat} (hL : Lay E) (hp : isCt E p) (hp2 : 250 ≤ p) (hs : s ≤ 8) (hc : c < 9) (h : ∀ c, c < 10 → Lr (fun i => M (p + 4) ((s * 10 + c) * 13 + i)) 13) : Ok (f_Co_loadPile E M p (s : Int) (c : Int)) (fun N => NatAt N 189 (MV M p s c) ∧ NatAt N 191 (MV M p s 9) ∧ Off (fun i => 189 ≤ i ∧ i ≤ 192) M N) := by
  have ha : isIA E (p + 4) := ⟨isCt_i4 hp, by rw [isCt_t4 hp]⟩
  have ht : (tE E (p + 4)).2 = 1170 := by rw [isCt_t4 hp]
  unfold f_Co_loadPile
  rw [place_of hp]
  refine ok_ck hp (ok_sb (ok_bm (ok_load (yo_189 hL) ha ht (o := (s * 10 + c) * 13) (by omega) (by decide) (h c (by omega))) ?_))
  rintro N ⟨n1, n2⟩
  have e4 : N (p + 4) = M (p + 4) := n2 _ (by unfold nn; omega)
  show Ok ((f_Ct_placeOf E N p (s : Int) ((9 : Nat) : Int)).bind _) _
  rw [place_of hp]
  refine ok_sb (ok_bm (ok_load (yo_191 hL) ha ht (o := (s * 10 + 9) * 13) (by omega) (by decide) (by rw [e4]; exact h 9 (by decide))) ?_)
  rintro K ⟨k1, k2⟩
  rw [e4] at k1
  exact ok_some ⟨n1.off k2 (by unfold nn; omega) (by unfold nn; omega), k1, (n2.mono fun i hi => by unfold nn at hi; omega).trans (k2.mono fun i hi => by unfold nn at hi; omega)⟩
theorem sN_part {f : Nat → Int} {i n : Nat} (h : i ≤ n) (hf : ∀ k, k < n → 0 ≤ f k) : sN f i ≤ sN f n := by
  obtain ⟨d, rfl⟩ := Nat.exists_eq_add_of_le h
  rw [sN_split]
  have := sN_nonneg (f := fun k => f (i + k)) (n := d) (fun k hk => hf (i + k) (by omega))
  omega
theorem unbalanced_ok {E : Ev} {M : Mm} {p el ex : Nat} {B : Int} (hL : Lay E) (hp : isCt E p) (hp2 : 250 ≤ p) (hB : M p 3 = B) (hB0 : 0 ≤ B) (hB1 : B ≤ 1000000) (h4 : M p 4 = (el : Int)) (h5 : M p 5 = (ex : Int)) (hx : el + ex ≤ 8) (h : ∀ s, s ≤ el + ex → (∀ c, c < 10 → Lr (fun i => M (p + 4) ((s * 10 + c) * 13 + i)) 13) ∧ sN (fun c => MV M p s c) 9 = MV M p s 9 * B ∧ MV M p s 9 * B < pB 13) : Ok (f_Co_unbalancedSteps E M p) (fun r => r.1 = 0 ∧ Off (fun i => 185 ≤ i ∧ i ≤ 192) M r.2) := by
  unfold f_Co_unbalancedSteps
  refine ok_ck hp (ok_bm (R := fun r => r.1 = 1 ∧ r.2.1 = 0 ∧ Off (fun i => 185 ≤ i ∧ i ≤ 192) M r.2.2.2) ?_ ?_)
  · refine L_Co_unbalancedSteps_4 E p (I := fun N x2 x3 => x2 = 0 ∧ Off (fun i => 185 ≤ i ∧ i ≤ 192) M N ∧ ∃ s : Nat, x3 = (s : Int) ∧ s ≤ el + ex + 1) (μ := fun _ _ x3 => 10 - x3.toNat) ?_ FU M 0 1 ⟨rfl, Off.refl, 1, rfl, by omega⟩ (by decide)
    rintro N x2 x3 ⟨rfl, oN, s, rfl, hs⟩
    have eN : ∀ i, i = p ∨ i = p + 4 → N i = M i := fun i hi => oN i (by omega)
    have e4 := eN (p + 4) (Or.inr rfl)
    unfold Co_unbalancedSteps_4b
    rw [eN p (Or.inl rfl), h4, h5]
    refine ok_ck hp (ok_ck (rgN (by omega)) (ok_ck ⟨by omega, by omega⟩ (ok_if (fun z => ok_some (ok_out ne0 ⟨rfl, rfl, oN⟩)) (fun z => ?_))))
    obtain ⟨g1, g2, g3⟩ := h s (by omega)
    have nn' : ∀ c, c < 9 → 0 ≤ MV M p s c := fun c hc => (g1 c (by omega)).lo
    refine ok_bm (ok_become (yo_185 hL) (by decide) (by decide)) ?_
    rintro K0 ⟨k1, k2⟩
    refine ok_bm (R := fun r => r.1 = 1 ∧ NatAt r.2.2 185 (MV M p s 9 * B) ∧ NatAt r.2.2 191 (MV M p s 9) ∧ Off (fun i => 185 ≤ i ∧ i ≤ 192) N r.2.2) ?_ ?_
    · refine L_Co_unbalancedSteps_28 E p 0 (s : Int) (I := fun K x4 => ∃ c : Nat, x4 = (c : Int) ∧ c ≤ 9 ∧ NatAt K 185 (sN (fun c => MV M p s c) c) ∧ (1 ≤ c → NatAt K 191 (MV M p s 9)) ∧ Off (fun i => 185 ≤ i ∧ i ≤ 192) N K) (μ := fun _ x4 => 9 - x4.toNat) ?_ FU K0 0 ⟨0, rfl, by decide, k1, fun z => absurd z (by decide), k2.mono fun i hi => by unfold nn at hi; omega⟩ (by decide)
      rintro K x4 ⟨c, rfl, hc, d1, d2, d3⟩
      have eK : K (p + 4) = M (p + 4) := by rw [d3 _ (by omega)]; exact e4
      have eMV : ∀ c, MV K p s c = MV M p s c := fun c => by unfold MV; rw [eK]
      unfold Co_unbalancedSteps_28b
      refine ok_ck hp (ok_ck (rgN (by omega)) (ok_if (fun w => ?_) (fun w => ?_)))
      · have e : c = 9 := by omega
        subst e
        rw [g2] at d1
        exact ok_some (ok_out ne0 ⟨rfl, d1, d2 (by decide), d3⟩)
      · have hc9 : c < 9 := by omega
        refine ok_bm (loadPile_ok hL hp hp2 (by omega) hc9 (fun c hc => by rw [eK]; exact g1 c hc)) ?_
        rintro P ⟨q1, q2, q3⟩
        rw [eMV] at q1 q2
        have hpart := sN_part (f := fun c => MV M p s c) (i := c + 1) (n := 9) (by omega) nn'
        rw [sN_succ, g2] at hpart
        refine ok_bm (ok_add (yo_185 hL) (yo_189 hL) (Or.inl (by decide)) (d1.off q3 (by omega) (by omega)) q1 (by omega)) ?_
        rintro Q ⟨u1, u2'⟩
        refine ok_some (ok_go rfl ⟨⟨c + 1, c1 c, by omega, ?_, fun _ => q2.off u2' (by unfold nn; omega) (by unfold nn; omega), (d3.trans (q3.mono fun i hi => by omega)).trans (u2'.mono fun i hi => by unfold nn at hi; omega)⟩, cnt hc9⟩)
        show NatAt Q 185 _
        rw [sN_succ]; exact u1
    · rintro ⟨t, x4, K⟩ ⟨d0, d1r, d2r, d3r⟩
      have d1 : NatAt K 185 (MV M p s 9 * B) := d1r
      have d2 : NatAt K 191 (MV M p s 9) := d2r
      have d3 : Off (fun i => 185 ≤ i ∧ i ≤ 192) N K := d3r
      have eB : K p 3 = B := by rw [d3 p (by omega), eN p (Or.inl rfl)]; exact hB
      refine ok_ck d0 ?_
      show Ok ((f_Na_multiplySmall E K 191 (K p 3)).bind _) _
      rw [eB]
      refine ok_bm (ok_mulSmall (yo_191 hL) d2 hB0 (by omega) g3) ?_
      rintro P ⟨u1, u2'⟩
      obtain ⟨s1, v1⟩ := (d1.off u2' (by unfold nn; omega) (by unfold nn; omega)).S
      obtain ⟨s2, v2⟩ := u1.S
      refine ok_bm (ok_compare (yo_185 hL) (yo_191 hL) v1 v2) ?_
      rintro r rfl
      rw [if_neg (Int.lt_irrefl _), if_neg (Int.lt_irrefl _)]
      refine ok_ck (by decide) (ok_if (fun _ => ok_some (ok_go rfl ⟨⟨rfl, oN.trans (d3.trans (u2'.mono fun i hi => by unfold nn at hi; omega)), s + 1, c1 s, by omega⟩, ?_⟩)) (fun z => absurd rfl z))
      show 10 - ((s : Int) + 1).toNat < 10 - (s : Int).toNat
      omega
  · rintro ⟨t, x2, x3, N⟩ ⟨g1, g2r, g3⟩
    have g2 : x2 = 0 := g2r
    subst g2
    exact ok_ck g1 (ok_some ⟨rfl, g3⟩)
theorem dn_zero {S X n : Nat} (hS : S < 2 ^ n) (hn : n ≤ 8) (hX : X < 2 ^ n) (h : cS S n ≤ cS (S &&& X) n) : dN S X = 0 := by
  have hpw := pow_lt hn
  refine zero_of (n := n) (dN_lt hS) fun i hi q => ?_
  rw [dN_tb (by omega) (by omega), Bool.and_eq_true] at q
  obtain ⟨q1, q2⟩ := q
  have q3 : X.testBit i = false := by
    cases e : X.testBit i with
    | false => rfl
    | true => rw [e] at q2; cases q2
  have e1 := cS_del (S := S) (T := dN S (2 ^ i)) hi q1 (by
    rw [del_tb hS hn hi, decide_eq_false (fun q => q rfl)]; exact Bool.and_false _) (fun k _ hk => by rw [del_tb hS hn hi, decide_eq_true hk]; exact Bool.and_true _)
  have e2 : cS (S &&& X) n ≤ cS (dN S (2 ^ i)) n := cS_le fun k hk w => by
    rw [Nat.testBit_and, Bool.and_eq_true] at w
    rw [del_tb hS hn hi, w.1]
    have : k ≠ i := fun e => by rw [e, q3] at w; cases w.2
    rw [decide_eq_true this]; rfl
  omega
theorem countErrors_ok {E : Ev} {M : Mm} {n kk : Nat} {C : Nat → Int} {G : Nat → Nat} {R : Nat → Nat → Nat} {A : Nat → Nat} {j p el ex : Nat} {q B : Int} {eo : Nat → Nat} (hL : Lay E) (hB : BX M n kk C G R A) (hn1 : 1 ≤ n) (h : TCx n kk C R E M j p el ex q B eo) : Ok (f_B_countErrors E M) (fun r => r.1 = 0 ∧ Off (fun i => i = 40 ∨ (185 ≤ i ∧ i ≤ 192)) M r.2) := by
  have hn := hB.2.1
  have hpw := pow_lt hn
  have hp1 := Nat.two_pow_pos n
  have hkk := hB.2.2.2.1
  obtain ⟨h1, h2, h3, h4, h5, h6, ⟨h70, h71⟩, h8, h9, h10, ⟨h110, h111⟩, h12, h13, h14, h15, h16, h17, h18, h19, h20, h21⟩ := h
  have hX : wu eo el < 2 ^ n := wu_lt (kw := el) (fun i hi => (h17 i hi).2) el (Nat.le_refl _)
  have e2n : (2 : Int) ^ n - 1 = ((2 ^ n - 1 : Nat) : Int) := by
    rw [p2]; omega
  unfold f_B_countErrors f_Co_latest
  rw [h2, ck_i (inN h1 (by decide)), Int.toNat_natCast]
  refine ok_sb ?_
  show Ok (match rE E 180 j with | none => _ | some p => _) _
  rw [h3]
  show Ok (ck (isCt E p) (ck (rgI (M p 0)) _)) _
  rw [h6]
  refine ok_ck h4 (ok_ck ⟨by omega, by omega⟩ (ok_if (fun _ => ?_) (fun z => absurd h70 z)))
  rw [h8, Int.toNat_natCast, e2n]
  refine ok_ck ⟨by omega, by omega⟩ (ok_bm (R := fun r => r.1 = 1 ∧ r.2.1 = ((wu eo el : Nat) : Int) ∧ r.2.2.2 = M) ?_ ?_)
  · refine L_B_countErrors_36 E p _ (I := fun N x3 x4 => N = M ∧ ∃ i : Nat, x4 = (i : Int) ∧ i ≤ el ∧ x3 = ((wu eo i : Nat) : Int)) (μ := fun _ _ x4 => el - x4.toNat) ?_ FU M 0 0 ⟨rfl, 0, rfl, Nat.zero_le _, rfl⟩ (by show el - _ < 5000; omega)
    rintro N x3 x4 ⟨rfl, i, rfl, hi, rfl⟩
    unfold B_countErrors_36b
    rw [h12, Int.toNat_natCast]
    refine ok_ck h4 (ok_ck (rgN (by omega)) (ok_ck (rgN (by omega)) (ok_if (fun z => ?_) (fun z => ?_))))
    · have e : i = el := by omega
      rw [e]
      exact ok_some (ok_out ne0 ⟨rfl, rfl, rfl⟩)
    · have hil : i < el := by omega
      obtain ⟨v1, v2⟩ := h17 i hil
      have ul := wu_lt (o := eo) (n := n) (kw := el) (fun i hi => (h17 i hi).2) i (by omega)
      have pw := Nat.pow_lt_pow_right (a := 2) (by decide) v2
      have pw0 := Nat.two_pow_pos (eo i)
      rw [v1, Int.toNat_natCast, p2, orI_nat]
      exact ok_ck (inN (by omega) (by decide)) (ok_ck ⟨by omega, by omega⟩ (ok_ck ⟨by omega, by omega⟩ (ok_ck ⟨by omega, by omega⟩ (ok_nb (ok_some (ok_go rfl ⟨⟨rfl, i + 1, c1 i, by omega, rfl⟩, cnt hil⟩))))))
  · rintro ⟨t, x3, x4, N⟩ ⟨g1, g2r, g3r⟩
    have g2 : x3 = ((wu eo el : Nat) : Int) := g2r
    have g3 : N = M := g3r
    subst g2 g3
    refine ok_ck g1 (ok_bm (unbalanced_ok hL h4 h5 h10 h110 h111 h12 h14 h15 h18) ?_)
    rintro ⟨r, K⟩ ⟨r0r, k1r⟩
    have r0 : r = 0 := r0r
    have k1 : Off (fun i => 185 ≤ i ∧ i ≤ 192) N K := k1r
    subst r0
    have eK : ∀ i, i = p ∨ i = p + 1 → K i = N i := fun i hi => k1 i (by omega)
    have hBK : BX K n kk C G R A := hB.off k1 (by decide) (by decide) (by decide) (by decide) (fun k hk => by omega)
    show Ok ((f_Bx_findSupport E K (p + 1) (K p 2) _).bind _) _
    rw [eK p (Or.inl rfl), h9]
    refine ok_bm (findSupport_ok (C := C) hL (fun k hk => (hBK.2.2.2.2.1 k hk).1) hn hn1 ⟨isCt_i1 h4, by rw [isCt_t1 h4]⟩ (by rw [isCt_t1 h4]) hkk hkk (by decide) (by omega) (fun k hk => by rw [eK _ (Or.inr rfl)]; exact h16 k hk)) ?_
    rintro P ⟨p1, p2'⟩
    have eP : P p 0 = q := by rw [p1 p (by omega), eK p (Or.inl rfl)]; exact h6
    have oP : Off (fun i => i = 40 ∨ (185 ≤ i ∧ i ≤ 192)) N P := (k1.mono fun i hi => Or.inr hi).trans (p1.mono fun i hi => Or.inl hi)
    refine ok_bm (R := fun r => r.1 = 1 ∧ r.2.1 = 0 ∧ r.2.2.2 = P) ?_ ?_
    · refine L_B_countErrors_92 E p _ _ (I := fun Z x4 x5 => Z = P ∧ x4 = 0 ∧ ∃ S : Nat, x5 = (S : Int) ∧ 1 ≤ S ∧ S ≤ 2 ^ n) (μ := fun _ _ x5 => 2 ^ n - x5.toNat) ?_ FU P 0 1 ⟨rfl, rfl, 1, rfl, Nat.le_refl _, by omega⟩ (by show 2 ^ n - _ < 5000; omega)
      rintro Z x4 x5 ⟨rfl, rfl, S, rfl, s1, s2⟩
      unfold B_countErrors_92b
      refine ok_ck h4 (ok_ck (rgN (by omega)) (ok_ck (rgN (by omega)) (ok_if (fun z => ok_some (ok_out ne0 ⟨rfl, rfl, rfl⟩)) (fun z => ?_))))
      have hS : S < 2 ^ n := by omega
      have hV := p2' S s1 hS
      have v0 : 0 ≤ Vs kk C R n S := sN_nonneg fun k hk => Int.mul_nonneg (h20 k hk) (ind_01 _).1
      have v1 : Vs kk C R n S ≤ sN C kk := sN_le fun k hk => by
        have a := ind_01 (sol (R k) n S)
        have b := h20 k hk
        by_cases e : sol (R k) n S
        · rw [ind_t e]; omega
        · rw [ind_f e]; omega
      have hF := h19 S s1 hS
      have cb := cS_bounds (S &&& wu eo el) n
      have hdn := dN_lt (b := wu eo el) hS
      have dq : 0 ≤ Vs kk C R n S / q := Int.ediv_nonneg v0 (by omega)
      have dq2 : Vs kk C R n S / q ≤ Vs kk C R n S := Int.ediv_le_self _ v0
      rw [Int.toNat_natCast, hV, eP, andI_nat, bitCount_cS E Z (n := n) (by omega) (and_lt hX)]
      have next : Ok (some (0, 0, (S : Int) + 1, Z) : Option (Nat × Int × Int × Mm)) (fun r => (r.1 = 0 → (r.2.2.2 = Z ∧ r.2.1 = 0 ∧ ∃ S : Nat, r.2.2.1 = (S : Int) ∧ 1 ≤ S ∧ S ≤ 2 ^ n) ∧ 2 ^ n - r.2.2.1.toNat < 2 ^ n - (S : Int).toNat) ∧ (r.1 ≠ 0 → r.1 = 1 ∧ r.2.1 = 0 ∧ r.2.2.2 = Z)) := ok_some (ok_go rfl ⟨⟨rfl, rfl, S + 1, c1 S, by omega, by omega⟩, cnt hS⟩)
      refine ok_ck (inN (by omega) (by decide)) (ok_ck ⟨by omega, by omega⟩ (ok_ck ⟨by omega, by omega⟩ (ok_ck ⟨by omega, by omega⟩ (ok_sb (ok_ck ⟨by omega, by omega⟩ (ok_ck ⟨by omega, by omega⟩ (ok_if (fun w => ?_) (fun w => ?_))))))))
      · unfold B_countErrors_j128
        exact ok_ck h4 (ok_ck (by decide) (ok_if (fun _ => next) (fun w => absurd rfl w)))
      · unfold B_countErrors_j128
        have e0 := dn_zero hS hn hX (by omega)
        refine ok_ck h4 (ok_ck (by decide) (ok_if (fun w => absurd w (by decide)) (fun _ => ok_ck ⟨by omega, by omega⟩ (ok_ck ⟨by omega, by omega⟩ ?_))))
        rw [dfI_nat, e0]
        exact ok_if (fun _ => next) (fun w => absurd rfl w)
    · rintro ⟨t, x4, x5, Z⟩ ⟨d1, d2r, d3r⟩
      have d2 : x4 = 0 := d2r
      have d3 : Z = P := d3r
      subst d2 d3
      exact ok_ck d1 (ok_some ⟨rfl, oP⟩)
theorem errors_ok {E : Ev} {M : Mm} {n kk : Nat} {C : Nat → Int} {G : Nat → Nat} {R : Nat → Nat → Nat} {A : Nat → Nat} (hL : Lay E) (hB : BX M n kk C G R A) (hn2 : 2 ≤ n) (_hn : n ≤ 5) (h : TC n kk C G R E M) : Ok (f_B_errors E M) (fun r => r.1 = 0) := by
  obtain ⟨⟨j, p, el, ex, q, B, eo, hx⟩, z1, z2, z3, z4⟩ := h
  unfold f_B_errors
  refine ok_bm (unjust0_ok hL z1) ?_
  rintro x rfl
  refine ok_ck (by decide) (ok_if (fun _ => ?_) (fun z => absurd rfl z))
  unfold B_errors_j15
  refine ok_bm (countErrors_ok hL hB (by omega) hx) ?_
  rintro ⟨a, N⟩ ⟨a1r, a2r⟩
  have a1 : a = 0 := a1r
  have a2 : Off (fun i => i = 40 ∨ (185 ≤ i ∧ i ≤ 192)) M N := a2r
  subst a1
  have hBN : BX N n kk C G R A := hB.off a2 (by decide) (by decide) (by decide) (by decide) (fun k hk => by omega)
  refine ok_bm (missed_ok hL hBN (by omega)) ?_
  rintro ⟨b, K⟩ ⟨b1r, b2r⟩
  have b1 : b = 0 := b1r
  have b2 : Off oP2 N K := b2r
  subst b1
  have e : ∀ c, 243 ≤ c → c ≤ 245 → K c = M c := fun c h1 h2 => by rw [b2 c (by unfold oP2; omega), a2 c (by omega)]
  have cs : CS K 0 (fun _ => 0) 1 := ⟨by rw [e 243 (by decide) (by decide), z2]; rfl, by rw [e 243 (by decide) (by decide), z2]; rfl, fun k hk => absurd hk (Nat.not_lt_zero k), by rw [e 245 (by decide) (by decide), z4]⟩
  exact ok_ck (by decide) (ok_if (fun _ => j32_ok cs) (fun z => absurd rfl z))
