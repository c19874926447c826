/-! THE COUNT'S LAWS: what each step keeps -/
noncomputable def zS (kk : Nat) (R : Nat → Nat → Nat) (n S : Nat) (w : Nat → Nat → Int) (c : Nat) : Int := sN (fun k => ind (sol (R k) n S) * w k c) kk
noncomputable def RS (kk : Nat) (R : Nat → Nat → Nat) (n S H : Nat) (w : Nat → Nat → Int) : Int := sN (fun c => if (H &&& S).testBit c = true then zS kk R n S w c else 0) n
theorem ind_mul {p : Prop} {a : Int} (h : 0 ≤ a) : 0 ≤ ind p * a ∧ ind p * a ≤ a := by
  by_cases c : p
  · rw [ind_t c, Int.one_mul]; omega
  · rw [ind_f c, Int.zero_mul]; omega
theorem zS_b {kk : Nat} {R : Nat → Nat → Nat} {n S : Nat} {w : Nat → Nat → Int} {c : Nat} (h : ∀ k, k < kk → 0 ≤ w k c) : 0 ≤ zS kk R n S w c ∧ zS kk R n S w c ≤ sN (fun k => w k c) kk := ⟨sN_nonneg fun k hk => (ind_mul (h k hk)).1, sN_le fun k hk => (ind_mul (h k hk)).2⟩
/-- H without x -/
def wo (H H' x : Nat) : Prop := H.testBit x = true ∧ H'.testBit x = false ∧ ∀ i, i ≠ x → H'.testBit i = H.testBit i
theorem wo_dN {H n x : Nat} (hn : n ≤ 8) (hH : H < 2 ^ n) (hx : x < n) (h : H.testBit x = true) : wo H (dN H (2 ^ x)) x := ⟨h, (dN_at hn hH hx).1, (dN_at hn hH hx).2⟩
theorem wo.sub {H H' x i : Nat} (h : wo H H' x) (hi : H'.testBit i = true) : H.testBit i = true := by
  by_cases e : i = x
  · rw [e]; exact h.1
  · rw [← h.2.2 i e]; exact hi
theorem wo.and {H H' x S : Nat} (h : wo H H' x) (hS : H' &&& S ≠ 0) : H &&& S ≠ 0 := by
  obtain ⟨i, hi⟩ := ne_zero hS
  rw [Nat.testBit_and, Bool.and_eq_true] at hi
  intro z
  have : (H &&& S).testBit i = true := by rw [Nat.testBit_and, h.sub hi.1, hi.2]; rfl
  rw [z, Nat.zero_testBit] at this
  cases this
theorem RS_del {kk : Nat} {R : Nat → Nat → Nat} {n S H H' x : Nat} {w : Nat → Nat → Int} (hx : x < n) (h : wo H H' x) : RS kk R n S H w = RS kk R n S H' w + (if S.testBit x = true then zS kk R n S w x else 0) := by
  unfold RS
  refine sN_at (f := fun c => if (H' &&& S).testBit c = true then zS kk R n S w c else 0) (i := x) hx (fun k _ => ?_)
  by_cases e : k = x
  · subst e
    show (if (H &&& S).testBit k = true then zS kk R n S w k else 0) = if k = k then (if (H' &&& S).testBit k = true then zS kk R n S w k else 0) + (if S.testBit k = true then zS kk R n S w k else 0) else _
    rw [if_pos rfl, Nat.testBit_and, Nat.testBit_and, h.1, h.2.1, Bool.true_and, Bool.false_and, if_neg (show ¬ (false = true) by decide), Int.zero_add]
  · rw [if_neg e]
    show (if (H &&& S).testBit k = true then zS kk R n S w k else 0) = if (H' &&& S).testBit k = true then zS kk R n S w k else 0
    rw [Nat.testBit_and, Nat.testBit_and, h.2.2 k e]
theorem RS_le {kk : Nat} {R : Nat → Nat → Nat} {n S H : Nat} {w : Nat → Nat → Int} {P : Nat → Int} (h : ∀ c, c < n → H.testBit c = true → zS kk R n S w c ≤ P c) : RS kk R n S H w ≤ sN (fun c => if (H &&& S).testBit c = true then P c else 0) n := by
  refine sN_le fun c hc => ?_
  by_cases e : (H &&& S).testBit c = true
  · show (if (H &&& S).testBit c = true then zS kk R n S w c else 0) ≤ if (H &&& S).testBit c = true then P c else 0
    rw [if_pos e, if_pos e]
    rw [Nat.testBit_and, Bool.and_eq_true] at e
    exact h c hc e.1
  · show (if (H &&& S).testBit c = true then zS kk R n S w c else 0) ≤ if (H &&& S).testBit c = true then P c else 0
    rw [if_neg e, if_neg e]
    exact Int.le_refl 0
/-- a solid ballot goes to its set, as long as one of it is hopeful -/
theorem sol_top {R : Nat → Nat} {G n S H : Nat} (hR : ∀ c, c < n → R c ≤ G) (h : sol R n S) (hS : S < 2 ^ n) (hf : S ≠ 2 ^ n - 1) (hH : H &&& S ≠ 0) : tps R G n H ≠ 0 ∧ ∀ c, c < n → (tps R G n H).testBit c = true → (H &&& S).testBit c = true := by
  obtain ⟨s0, hs0⟩ := ne_zero hH
  rw [Nat.testBit_and, Bool.and_eq_true] at hs0
  have hs1 : s0 < n := tb_lt hS hs0.2
  have hp := Nat.two_pow_pos n
  obtain ⟨d0, hd0, hd1⟩ : ∃ d, d < n ∧ ¬ S.testBit d = true := by
    refine Classical.byContradiction fun q => hf (eq_tb hS (by omega) fun i hi => ?_)
    rw [full_tb, decide_eq_true hi]
    exact Classical.byContradiction fun z => q ⟨i, hi, z⟩
  have h1 := h s0 d0 hs1 hd0 hs0.2 hd1
  have h2 := hR d0 hd0
  constructor
  · intro z
    obtain ⟨r, hr1, ⟨c, hc1, hc2, hc3⟩, hr3⟩ := leastN (P := fun r => ∃ c, c < n ∧ H.testBit c = true ∧ R c = r) (R s0) ⟨s0, hs1, hs0.1, rfl⟩
    have : (tps R G n H).testBit c = true := (tps_tb hc1).mpr ⟨hc2, by omega, fun d hd q => by
      rcases Nat.lt_or_ge (R d) (R c) with y | y
      · exact absurd ⟨d, hd, q, rfl⟩ (hr3 (R d) (by omega))
      · exact y⟩
    rw [z, Nat.zero_testBit] at this
    cases this
  · intro c hc q
    obtain ⟨q1, q2, q3⟩ := (tps_tb hc).mp q
    rw [Nat.testBit_and, q1, Bool.true_and]
    refine Classical.byContradiction fun z => ?_
    have := h s0 c hs1 hc hs0.2 z
    have := q3 s0 hs1 hs0.1
    omega
theorem RS_pass {kk : Nat} {R : Nat → Nat → Nat} {G : Nat → Nat} {n S H : Nat} {w : Nat → Nat → Int} {am : Nat → Int} (hR : ∀ k, k < kk → ∀ c, c < n → R k c ≤ G k) (hS : S < 2 ^ n) (hf : S ≠ 2 ^ n - 1) (hH : H &&& S ≠ 0) (hd : ∀ k, k < kk → ((ph (R k) n H (G k) : Nat) : Int) ∣ am k) : RS kk R n S H (shW R G n H am w kk) = RS kk R n S H w + sN (fun k => ind (sol (R k) n S) * am k) kk := by
  unfold RS
  have e1 : ∀ c, zS kk R n S (shW R G n H am w kk) c = zS kk R n S w c + sN (fun k => ind (sol (R k) n S) * sh (R k) (G k) n H (am k) c) kk := fun c => by
    unfold zS
    rw [← sN_add]
    refine sN_congr fun k hk => ?_
    show ind (sol (R k) n S) * shW R G n H am w kk k c = ind (sol (R k) n S) * w k c + ind (sol (R k) n S) * sh (R k) (G k) n H (am k) c
    unfold shW
    rw [if_pos hk, Int.mul_add]
  have e2 : sN (fun c => if (H &&& S).testBit c = true then sN (fun k => ind (sol (R k) n S) * sh (R k) (G k) n H (am k) c) kk else 0) n = sN (fun k => ind (sol (R k) n S) * am k) kk := by
    rw [sN_congr (g := fun c => sN (fun k => ind (sol (R k) n S) * (if (H &&& S).testBit c = true then sh (R k) (G k) n H (am k) c else 0)) kk) (fun c _ => ?_), sN_comm]
    · refine sN_congr fun k hk => ?_
      show sN (fun c => ind (sol (R k) n S) * (if (H &&& S).testBit c = true then sh (R k) (G k) n H (am k) c else 0)) n = ind (sol (R k) n S) * am k
      rw [sN_mul]
      by_cases q : sol (R k) n S
      · obtain ⟨t1, t2⟩ := sol_top (hR k hk) q hS hf hH
        rw [sh_sumS t1 ((part_ok (hd k hk)).1.resolve_left t1) t2]
      · rw [ind_f q, Int.zero_mul, Int.zero_mul]
    · show (if (H &&& S).testBit c = true then sN (fun k => ind (sol (R k) n S) * sh (R k) (G k) n H (am k) c) kk else 0) = _
      by_cases q : (H &&& S).testBit c = true
      · rw [if_pos q]
        exact sN_congr fun k _ => by show _ = ind (sol (R k) n S) * (if (H &&& S).testBit c = true then _ else _); rw [if_pos q]
      · rw [if_neg q, sN_congr (g := fun _ => 0) (fun k _ => by show ind (sol (R k) n S) * (if (H &&& S).testBit c = true then _ else _) = 0; rw [if_neg q, Int.mul_zero]), sN_zero]
  rw [← e2, ← sN_add]
  refine sN_congr fun c _ => ?_
  show (if (H &&& S).testBit c = true then zS kk R n S (shW R G n H am w kk) c else 0) = (if (H &&& S).testBit c = true then zS kk R n S w c else 0) + (if (H &&& S).testBit c = true then _ else 0)
  by_cases q : (H &&& S).testBit c = true
  · rw [if_pos q, if_pos q, if_pos q, e1]
  · rw [if_neg q, if_neg q, if_neg q]; rfl
/-- what holds of the numbers while somebody may still be excluded: hopefuls H, elected T -/
def MI (n kk : Nat) (C : Nat → Int) (G : Nat → Nat) (R : Nat → Nat → Nat) (q : Int) (H T : Nat) (D : Int) (P : Nat → Int) (w : Nat → Nat → Int) : Prop := 0 < D ∧ (∀ c, c < 9 → 0 ≤ P c) ∧ (∀ k c, k < kk → c < n → 0 ≤ w k c) ∧ (∀ c, c < n → H.testBit c = true → P c = sN (fun k => w k c) kk) ∧ sN P 9 = D * sN C kk ∧ (∀ k c H', k < kk → c < n → wo H H' c → ((ph (R k) n H' (G k) : Nat) : Int) ∣ w k c) ∧ (∀ c, c < n → T.testBit c = true → q * D ≤ P c) ∧ ∀ S, 1 ≤ S → S < 2 ^ n → S ≠ 2 ^ n - 1 → H &&& S ≠ 0 → Vs kk C R n S * D ≤ RS kk R n S H w + q * D * cS (S &&& T) n
/-- numbers passed on among H: from what holds of the parts -/
theorem MI_pass {n kk : Nat} {C : Nat → Int} {G : Nat → Nat} {R : Nat → Nat → Nat} {q : Int} {H T : Nat} {D : Int} {P : Nat → Int} {w : Nat → Nat → Int} {am : Nat → Int} (hn : n ≤ 8) (hR : ∀ k, k < kk → ∀ c, c < n → R k c ≤ G k) (hD : 0 < D) (hP : ∀ c, c < 9 → 0 ≤ P c) (hw : ∀ k c, k < kk → c < n → 0 ≤ w k c) (hPw : ∀ c, c < n → H.testBit c = true → P c = sN (fun k => w k c) kk) (ham : ∀ k, k < kk → 0 ≤ am k) (hsum : sN P 9 + sN am kk = D * sN C kk) (hd : ∀ k c H', k < kk → c < n → wo H H' c → ((ph (R k) n H' (G k) : Nat) : Int) ∣ w k c) (hda : ∀ k, k < kk → ((ph (R k) n H (G k) : Nat) : Int) ∣ am k) (hT : ∀ c, c < n → T.testBit c = true → q * D ≤ P c) (hS : ∀ S, 1 ≤ S → S < 2 ^ n → S ≠ 2 ^ n - 1 → H &&& S ≠ 0 → Vs kk C R n S * D ≤ RS kk R n S H w + sN (fun k => ind (sol (R k) n S) * am k) kk + q * D * cS (S &&& T) n) : MI n kk C G R q H T D (shP R G n H am P kk) (shW R G n H am w kk) := by
  have s0 : ∀ c, 0 ≤ sN (fun k => sh (R k) (G k) n H (am k) c) kk := fun c => sN_nonneg fun k hk => sh_0 (ham k hk) c
  refine ⟨hD, fun c hc => ?_, fun k c hk hc => ?_, fun c hc hH => ?_, ?_, fun k c H' hk hc ho => ?_, fun c hc hTc => ?_, fun S h1 h2 h3 h4 => ?_⟩
  · have := hP c hc
    have := s0 c
    show 0 ≤ P c + sN (fun k => sh (R k) (G k) n H (am k) c) kk
    omega
  · have := hw k c hk hc
    have := sh_0 (R := R k) (G := G k) (n := n) (H := H) (ham k hk) c
    unfold shW
    rw [if_pos hk]
    omega
  · show P c + sN (fun k => sh (R k) (G k) n H (am k) c) kk = _
    rw [hPw c hc hH, ← sN_add]
    exact sN_congr fun k hk => by unfold shW; rw [if_pos hk]
  · rw [← hsum]
    show sN (fun c => P c + sN (fun k => sh (R k) (G k) n H (am k) c) kk) 9 = _
    rw [sN_add P (fun c => sN (fun k => sh (R k) (G k) n H (am k) c) kk) 9, sN_comm (fun c k => sh (R k) (G k) n H (am k) c) kk 9]
    congr 1
    exact sN_congr fun k hk => sh_sum hn (part_ok (hda k hk)).1
  · unfold shW
    rw [if_pos hk]
    refine Int.dvd_add (hd k c H' hk hc ho) ?_
    exact (part_ok (hda k hk)).2 c H' hc ho.2.1 ho.1 (fun i _ hne => ho.2.2 i hne)
  · have := hT c hc hTc
    have := s0 c
    show q * D ≤ P c + sN (fun k => sh (R k) (G k) n H (am k) c) kk
    omega
  · rw [RS_pass hR h2 h3 h4 hda]
    exact hS S h1 h2 h3 h4
theorem wo.ph {R : Nat → Nat} {n H H' x G c K : Nat} (h : wo H H' x) (hc : wo H' K c) (hc2 : c < n) : ∃ L, wo H L c ∧ ph R n K G ∣ ph R n L G := by
  have hcx : c ≠ x := fun e => by
    have := hc.1
    rw [e, h.2.1] at this
    cases this
  refine ⟨K ||| 2 ^ x, ⟨h.sub hc.1, ?_, fun i hi => ?_⟩, ph_sub (fun i _ q => ?_) G⟩
  · rw [Nat.testBit_or, hc.2.1, one_tb, decide_eq_false (fun z => hcx z.symm)]; rfl
  · rw [Nat.testBit_or, hc.2.2 i hi, one_tb]
    by_cases e : x = i
    · rw [decide_eq_true e, ← e, h.1]
      exact Bool.or_true _
    · rw [decide_eq_false e, Bool.or_false]
      exact h.2.2 i (fun z => e z.symm)
  · rw [Nat.testBit_or, q]; rfl
theorem sN_nw {P : Nat → Int} {x n : Nat} {v : Int} (hx : x < n) : sN P n = sN (nw x v P) n + (P x - v) := by
  refine sN_at (f := nw x v P) (i := x) hx (fun k _ => ?_)
  by_cases e : k = x
  · rw [if_pos e, e, nw_at]; omega
  · rw [if_neg e, nw_ne e]
/-- x excluded -/
theorem MI_excl {n kk : Nat} {C : Nat → Int} {G : Nat → Nat} {R : Nat → Nat → Nat} {q : Int} {H H' T x : Nat} {D : Int} {P : Nat → Int} {w : Nat → Nat → Int} (hn : n ≤ 8) (hR : ∀ k, k < kk → ∀ c, c < n → R k c ≤ G k) (hx : x < n) (ho : wo H H' x) (hxT : ¬ T.testBit x = true) (h : MI n kk C G R q H T D P w) : MI n kk C G R q H' T D (shP R G n H' (fun k => w k x) (nw x 0 P) kk) (shW R G n H' (fun k => w k x) w kk) := by
  obtain ⟨h1, h2, h3, h4, h5, h6, h7, h8⟩ := h
  refine MI_pass hn hR h1 (fun c hc => ?_) h3 (fun c hc q => ?_) (fun k hk => h3 k x hk hx) ?_ (fun k c K hk hc hK => ?_) (fun k hk => h6 k x H' hk hx ho) (fun c hc hTc => ?_) (fun S s1 s2 s3 s4 => ?_)
  · by_cases e : c = x
    · rw [e, nw_at]; exact Int.le_refl 0
    · rw [nw_ne e]; exact h2 c hc
  · have e : c ≠ x := fun e => by rw [e, ho.2.1] at q; cases q
    rw [nw_ne e]
    exact h4 c hc (ho.sub q)
  · rw [← h5, sN_nw (P := P) (v := 0) (show x < 9 by omega), h4 x hx ho.1]
    omega
  · obtain ⟨L, hL1, hL2⟩ := ho.ph (R := R k) (G := G k) hK hc
    exact Int.dvd_trans (Int.natCast_dvd_natCast.mpr hL2) (h6 k c L hk hc hL1)
  · have e : c ≠ x := fun e => hxT (e ▸ hTc)
    rw [nw_ne e]
    exact h7 c hc hTc
  · have a := h8 S s1 s2 s3 (ho.and s4)
    rw [RS_del (kk := kk) (R := R) (S := S) (w := w) hx ho] at a
    have z := zS_b (R := R) (n := n) (S := S) (w := w) (c := x) (fun k hk => h3 k x hk hx)
    show _ ≤ RS kk R n S H' w + zS kk R n S w x + _
    by_cases e : S.testBit x = true
    · rw [if_pos e] at a; exact a
    · rw [if_neg e] at a; omega
theorem cS_or {S T T' n x : Nat} (hx : x < n) (h : ∀ i, i < n → T'.testBit i = (T.testBit i || decide (i = x))) (hT : ¬ T.testBit x = true) : cS (S &&& T') n = cS (S &&& T) n + (if S.testBit x = true then 1 else 0) := by
  by_cases e : S.testBit x = true
  · rw [if_pos e]
    refine cS_del hx ?_ ?_ (fun i hi hne => ?_)
    · rw [Nat.testBit_and, e, h x hx, decide_eq_true rfl]
      exact Bool.or_true _
    · rw [Nat.testBit_and, Bool.eq_false_iff.mpr hT]
      exact Bool.and_false _
    · rw [Nat.testBit_and, Nat.testBit_and, h i hi, decide_eq_false hne, Bool.or_false]
  · rw [if_neg e, Int.add_zero]
    refine cS_congr fun i hi => ?_
    rw [Nat.testBit_and, Nat.testBit_and]
    by_cases d : i = x
    · rw [d, Bool.eq_false_iff.mpr e]; rfl
    · rw [h i hi, decide_eq_false d, Bool.or_false]
/-- x elected with just the quota -/
theorem MI_elect {n kk : Nat} {C : Nat → Int} {G : Nat → Nat} {R : Nat → Nat → Nat} {q : Int} {H H' T T' x : Nat} {D : Int} {P : Nat → Int} {w : Nat → Nat → Int} (hx : x < n) (ho : wo H H' x) (hxT : ¬ T.testBit x = true) (hT' : ∀ i, i < n → T'.testBit i = (T.testBit i || decide (i = x))) (hPx : P x = q * D) (h : MI n kk C G R q H T D P w) : MI n kk C G R q H' T' D P w := by
  obtain ⟨h1, h2, h3, h4, h5, h6, h7, h8⟩ := h
  refine ⟨h1, h2, h3, fun c hc q => h4 c hc (ho.sub q), h5, fun k c K hk hc hK => ?_, fun c hc hTc => ?_, fun S s1 s2 s3 s4 => ?_⟩
  · obtain ⟨L, hL1, hL2⟩ := ho.ph (R := R k) (G := G k) hK hc
    exact Int.dvd_trans (Int.natCast_dvd_natCast.mpr hL2) (h6 k c L hk hc hL1)
  · by_cases e : c = x
    · rw [e, hPx]; exact Int.le_refl _
    · rw [hT' c hc, decide_eq_false e, Bool.or_false] at hTc
      exact h7 c hc hTc
  · have a := h8 S s1 s2 s3 (ho.and s4)
    rw [RS_del (kk := kk) (R := R) (S := S) (w := w) hx ho] at a
    have z := zS_b (R := R) (n := n) (S := S) (w := w) (c := x) (fun k hk => h3 k x hk hx)
    rw [← h4 x hx ho.1, hPx] at z
    rw [cS_or hx hT' hxT]
    by_cases e : S.testBit x = true
    · rw [if_pos e] at a ⊢
      rw [Int.mul_add, Int.mul_one]
      omega
    · rw [if_neg e] at a ⊢
      rw [Int.add_zero]
      omega
/-- x elected, its surplus passed on -/
theorem MI_surplus {n kk : Nat} {C : Nat → Int} {G : Nat → Nat} {R : Nat → Nat → Nat} {q : Int} {H H' T T' x : Nat} {D gg num den : Int} {P : Nat → Int} {w : Nat → Nat → Int} (hn : n ≤ 8) (hR : ∀ k, k < kk → ∀ c, c < n → R k c ≤ G k) (hx : x < n) (ho : wo H H' x) (hxT : ¬ T.testBit x = true) (hT' : ∀ i, i < n → T'.testBit i = (T.testBit i || decide (i = x))) (hq : 0 ≤ q) (hgg : 0 < gg) (hnum : 0 < num) (hden : 0 < den) (e1 : num * gg = P x - q * D) (e2 : den * gg = P x) (h : MI n kk C G R q H T D P w) : MI n kk C G R q H' T' (D * den) (shP R G n H' (fun k => w k x * num) (fun c => nw x (q * D) P c * den) kk) (shW R G n H' (fun k => w k x * num) (fun k c => if H'.testBit c = true then w k c * den else w k c) kk) := by
  obtain ⟨h1, h2, h3, h4, h5, h6, h7, h8⟩ := h
  have px := h4 x hx ho.1
  have am0 : ∀ k, k < kk → 0 ≤ w k x * num := fun k hk => Int.mul_nonneg (h3 k x hk hx) (Int.le_of_lt hnum)
  have qD0 : 0 ≤ q * D := Int.mul_nonneg hq (Int.le_of_lt h1)
  have ams : sN (fun k => w k x * num) kk = num * P x := by
    rw [px, ← sN_mul]
    exact sN_congr fun k _ => Int.mul_comm _ _
  have e3 : num * P x = den * (P x - q * D) := by rw [← e1, ← e2]; grind
  have e4 : (den - num) * gg = q * D := by rw [Int.sub_mul, e1, e2]; omega
  have dn0 : 0 ≤ den - num := by
    rcases Int.lt_or_le (den - num) 0 with z | z
    · have := Int.mul_neg_of_neg_of_pos z hgg
      omega
    · exact z
  refine MI_pass hn hR (Int.mul_pos h1 hden) (fun c hc => ?_) (fun k c hk hc => ?_) (fun c hc z => ?_) am0 ?_ (fun k c K hk hc hK => ?_) (fun k hk => ?_) (fun c hc hTc => ?_) (fun S s1 s2 s3 s4 => ?_)
  · refine Int.mul_nonneg ?_ (Int.le_of_lt hden)
    by_cases e : c = x
    · rw [e, nw_at]; exact qD0
    · rw [nw_ne e]; exact h2 c hc
  · show 0 ≤ if H'.testBit c = true then w k c * den else w k c
    by_cases e : H'.testBit c = true
    · rw [if_pos e]; exact Int.mul_nonneg (h3 k c hk hc) (Int.le_of_lt hden)
    · rw [if_neg e]; exact h3 k c hk hc
  · have e : c ≠ x := fun e => by rw [e, ho.2.1] at z; cases z
    show nw x (q * D) P c * den = _
    rw [nw_ne e, h4 c hc (ho.sub z), Int.mul_comm, ← sN_mul]
    refine sN_congr fun k _ => ?_
    show den * w k c = if H'.testBit c = true then w k c * den else w k c
    rw [if_pos z]
    exact Int.mul_comm _ _
  · rw [ams, e3]
    have e5 : sN (fun c => nw x (q * D) P c * den) 9 = den * sN (nw x (q * D) P) 9 := by
      rw [← sN_mul]
      exact sN_congr fun k _ => Int.mul_comm _ _
    have e6 := sN_nw (P := P) (v := q * D) (show x < 9 by omega)
    rw [e5]
    rw [h5] at e6
    have e7 : D * den * sN C kk = den * (D * sN C kk) := by grind
    rw [e7, e6]
    grind
  · have z := hK.1
    show ((ph (R k) n K (G k) : Nat) : Int) ∣ if H'.testBit c = true then w k c * den else w k c
    rw [if_pos z]
    obtain ⟨L, hL1, hL2⟩ := ho.ph (R := R k) (G := G k) hK hc
    exact Int.dvd_mul_of_dvd_left (Int.dvd_trans (Int.natCast_dvd_natCast.mpr hL2) (h6 k c L hk hc hL1))
  · exact Int.dvd_mul_of_dvd_left (h6 k x H' hk hx ho)
  · show q * (D * den) ≤ nw x (q * D) P c * den
    rw [← Int.mul_assoc]
    refine Int.mul_le_mul_of_nonneg_right ?_ (Int.le_of_lt hden)
    by_cases e : c = x
    · rw [e, nw_at]; exact Int.le_refl _
    · rw [nw_ne e]
      rw [hT' c hc, decide_eq_false e, Bool.or_false] at hTc
      exact h7 c hc hTc
  · have a := h8 S s1 s2 s3 (ho.and s4)
    rw [RS_del (kk := kk) (R := R) (S := S) (w := w) hx ho] at a
    have z := zS_b (R := R) (n := n) (S := S) (w := w) (c := x) (fun k hk => h3 k x hk hx)
    rw [← px] at z
    have r1 : RS kk R n S H' (fun k c => if H'.testBit c = true then w k c * den else w k c) = den * RS kk R n S H' w := by
      unfold RS
      rw [← sN_mul]
      refine sN_congr fun c _ => ?_
      show (if (H' &&& S).testBit c = true then zS kk R n S (fun k c => if H'.testBit c = true then w k c * den else w k c) c else 0) = den * (if (H' &&& S).testBit c = true then zS kk R n S w c else 0)
      by_cases y : (H' &&& S).testBit c = true
      · rw [if_pos y, if_pos y]
        rw [Nat.testBit_and, Bool.and_eq_true] at y
        unfold zS
        rw [← sN_mul]
        refine sN_congr fun k _ => ?_
        show ind (sol (R k) n S) * (if H'.testBit c = true then w k c * den else w k c) = den * (ind (sol (R k) n S) * w k c)
        rw [if_pos y.1]
        grind
      · rw [if_neg y, if_neg y, Int.mul_zero]
    have r2 : sN (fun k => ind (sol (R k) n S) * (w k x * num)) kk = num * zS kk R n S w x := by
      unfold zS
      rw [← sN_mul]
      refine sN_congr fun k _ => ?_
      grind
    rw [r1, r2, cS_or hx hT' hxT]
    generalize RS kk R n S H' w = r at a ⊢
    generalize zS kk R n S w x = y at a z ⊢
    generalize Vs kk C R n S = v at a ⊢
    generalize cS (S &&& T) n = t at a ⊢
    have ny : 0 ≤ num * y := Int.mul_nonneg (Int.le_of_lt hnum) z.1
    by_cases e : S.testBit x = true
    · rw [if_pos e] at a ⊢
      have b : (den - num) * y ≤ q * D * den := by
        have b1 := Int.mul_le_mul_of_nonneg_left z.2 dn0
        have b2 : (den - num) * P x = q * D * den := by rw [← e2, ← e4]; grind
        omega
      have c := Int.mul_le_mul_of_nonneg_left a (Int.le_of_lt hden)
      have d1 : den * (v * D) = v * (D * den) := by grind
      have d2 : den * (r + y + q * D * t) = den * r + den * y + q * (D * den) * t := by grind
      have d3 : (den - num) * y = den * y - num * y := Int.sub_mul _ _ _
      have d4 : q * (D * den) * (t + 1) = q * (D * den) * t + q * D * den := by grind
      omega
    · rw [if_neg e] at a ⊢
      have c := Int.mul_le_mul_of_nonneg_left a (Int.le_of_lt hden)
      have d1 : den * (v * D) = v * (D * den) := by grind
      have d2 : den * (r + 0 + q * D * t) = den * r + q * (D * den) * t := by grind
      rw [Int.add_zero]
      omega
