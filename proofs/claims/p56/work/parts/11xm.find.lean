/-! FALSE BALLOTS THAT GAIN -/
def oFK (c : Nat) : Prop := c = 6 ∨ c = 7 ∨ (39 ≤ c ∧ c ≤ 52)
def FKs (M N : Mm) : Prop := Off oFK M N ∧ ∀ k, k ≠ 30 → N 6 k = M 6 k ∧ N 7 k = M 7 k
theorem FKs.refl (M : Mm) : FKs M M := ⟨Off.refl, fun _ _ => ⟨rfl, rfl⟩⟩
theorem FKs.trans {M N K : Mm} (h : FKs M N) (g : FKs N K) : FKs M K := ⟨h.1.trans g.1, fun k hk => ⟨(g.2 k hk).1.trans (h.2 k hk).1, (g.2 k hk).2.trans (h.2 k hk).2⟩⟩
theorem FKs.of {M N : Mm} {S : Nat → Prop} (h : Off S M N) (hS : ∀ c, S c → 39 ≤ c ∧ c ≤ 52) : FKs M N := ⟨h.mono fun c hc => Or.inr (Or.inr (hS c hc)), fun k _ => ⟨by rw [h 6 (fun q => by have := hS 6 q; omega)], by rw [h 7 (fun q => by have := hS 7 q; omega)]⟩⟩
theorem FKs.rk {M N : Mm} (h : FKs M N) {k n G A : Nat} {R : Nat → Nat} (hk : k < 30) (g : Rk M k n G R A) : Rk N k n G R A := g.of (h.2 k (by omega)).2 (h.2 k (by omega)).1 (h.1 _ (by unfold oFK; omega))
theorem BX.fk {M N : Mm} {n kk : Nat} {C : Nat → Int} {G : Nat → Nat} {R : Nat → Nat → Nat} {A : Nat → Nat} (h : BX M n kk C G R A) (g : FKs M N) : BX N n kk C G R A := by
  obtain ⟨a, b, c, d, e, f⟩ := h
  have q : ∀ i, ¬ oFK i → N i = M i := g.1
  refine ⟨by rw [q 2 (by unfold oFK; decide)]; exact a, b, by rw [q 2 (by unfold oFK; decide)]; exact c, d, fun k hk => ?_, f⟩
  obtain ⟨e1, e2, e3⟩ := e k hk
  exact ⟨g.rk (by omega) e1, by rw [q 5 (by unfold oFK; decide)]; exact e2, e3⟩
theorem LT.fk {M N : Mm} {n : Nat} {lo : Nat → Int} (h : LT M n lo) (g : FKs M N) : LT N n lo := fun c hc => by rw [g.1 4 (by unfold oFK; decide)]; exact h c hc
theorem PS_rows {M : Mm} {n : Nat} {w : Nat → Int} {R R' : Nat → Nat → Nat} {G G' A A' : Nat → Nat} (h : PS M n w R G A) (h30 : w 30 = 0) (hR : ∀ k, k ≠ 30 → R' k = R k ∧ G' k = G k ∧ A' k = A k) : PS M n w R' G' A' := by
  obtain ⟨a, b, c, d, e, f⟩ := h
  refine ⟨a, b, c, fun i hi => ?_, fun i hi => ?_, fun i j hi hj => ?_⟩
  · rw [d i hi]
    refine sN_congr fun k _ => ?_
    by_cases q : k = 30
    · rw [q, h30, Int.zero_mul, Int.zero_mul]
    · obtain ⟨r1, r2, r3⟩ := hR k q
      rw [r1, r2]
  · rw [e i hi]
    refine sN_congr fun k _ => ?_
    by_cases q : k = 30
    · rw [q, h30, Int.zero_mul, Int.zero_mul]
    · obtain ⟨r1, r2, r3⟩ := hR k q
      rw [r3]
  · rw [f i j hi hj]
    refine sN_congr fun k _ => ?_
    by_cases q : k = 30
    · rw [q, h30, Int.zero_mul, Int.zero_mul]
    · obtain ⟨r1, r2, r3⟩ := hR k q
      rw [r1]
def twF (w : Nat → Int) (j : Nat) : Int := if j = 30 then w 30 + 1 else w j
def rT (R : Nat → Nat → Nat) (o : Nat → Nat) (n k : Nat) : Nat → Nat := if k = 30 then pos o n else R k
def gTr (G : Nat → Nat) (n k : Nat) : Nat := if k = 30 then n else G k
def aT (A : Nat → Nat) (o : Nat → Nat) (k : Nat) : Nat := if k = 30 then 2 ^ o 0 else A k
/-- the orders one behind another -/
def rc (n : Nat) : Nat → (Nat → Nat) → Prop
  | 0, o => o = fun i => i
  | i + 1, o => ∃ p, rc n i p ∧ NX n p o
theorem rc_unique {n : Nat} : ∀ {i : Nat} {a b : Nat → Nat}, rc n i a → rc n i b → a = b
  | 0, _, _, h, g => h.trans g.symm
  | i + 1, a, b, ⟨p, p1, p2⟩, ⟨q, q1, q2⟩ => by
    rw [rc_unique p1 q1] at p2
    exact NX_unique p2 q2
/-- this false ballot gains -/
def hit (w : Nat → Int) (R : Nat → Nat → Nat) (G A : Nat → Nat) (lo : Nat → Int) (n : Nat) (way : Int) (pref : Nat) (o : Nat → Nat) : Prop := ∃ b, b < n ∧ BB (twF w) (rT R o n) (gTr G n) (aT A o) lo n way b ∧ pref.testBit b = true
def nF (n : Nat) : Nat := (facF n).toNat
theorem nF_b {n : Nat} (h : n ≤ 5) : facF n = (nF n : Int) ∧ 1 ≤ nF n ∧ nF n ≤ 120 := by
  have key : ∀ n : Nat, n < 6 → facF n = (nF n : Int) ∧ 1 ≤ nF n ∧ nF n ≤ 120 := by decide +kernel
  exact key n (by omega)
theorem findOrder_ok {E : Ev} {M : Mm} {n pref : Nat} {w : Nat → Int} {R : Nat → Nat → Nat} {G A : Nat → Nat} {lo : Nat → Int} {way : Int} (hL : Lay E) (h : PB M n w R G A lo) (h30 : w 30 = 0) (hs9 : sN w 31 ≤ 999999) (hn2 : 2 ≤ n) (hn : n ≤ 5) (hway : rgI way) (hpr : pref < 2 ^ n) : Ok (f_Fb_findOrder E M way (pref : Int)) (fun r => FKs M r.2 ∧ PB r.2 n w R G A lo ∧ ((r.1 = 1 ∧ ∃ i o, i < nF n ∧ rc n i o ∧ OH r.2 n o ∧ Pm o n ∧ hit w R G A lo n way pref o ∧ ∀ j, j < i → ∀ p, rc n j p → ¬ hit w R G A lo n way pref p) ∨ (r.1 = 0 ∧ ∀ j, j < nF n → ∀ p, rc n j p → ¬ hit w R G A lo n way pref p))) := by
  have hpw := pow_lt (show n ≤ 8 by omega)
  obtain ⟨f1, f2, f3⟩ := nF_b hn
  unfold f_Fb_findOrder
  refine ok_bm (R := fun r => r.1 = 1 ∧ Off (fun i => i = 52) M r.2.2 ∧ OH r.2.2 n (fun i => i)) ?_ ?_
  · refine L_Fb_findOrder_2 E way (pref : Int) (I := fun N x => ∃ k : Nat, x = (k : Int) ∧ k ≤ 5 ∧ Off (fun i => i = 52) M N ∧ ∀ i, i < k → N 52 i = (i : Int)) (μ := fun _ x => 5 - x.toNat) ?_ FU M 0 ⟨0, rfl, by decide, Off.refl, fun i hi => absurd hi (Nat.not_lt_zero i)⟩ (by decide)
    rintro N x ⟨k, rfl, hk, hO, hN⟩
    unfold Fb_findOrder_2b
    rw [Int.toNat_natCast]
    refine ok_ck (rgN (by omega)) (ok_if (fun q => ?_) (fun q => ?_))
    · have e : k = 5 := by omega
      rw [e] at hN
      exact ok_some (ok_out ne0 ⟨rfl, hO, fun i hi => hN i (by omega)⟩)
    · refine ok_ck (inN (by omega) (by decide)) (ok_some (ok_go rfl ⟨⟨k + 1, c1 k, by omega, hO.u2 rfl, fun i hi => ?_⟩, cnt (by omega)⟩))
      show u2 N 52 k (k : Int) 52 i = (i : Int)
      rw [u2_if]
      by_cases e : i = k
      · rw [if_pos ⟨rfl, e⟩, e]
      · rw [if_neg (fun z => e z.2)]; exact hN i (by omega)
  · rintro ⟨t, x, B⟩ ⟨g1, g2, g3⟩
    have g2 : Off (fun i => i = 52) M B := g2
    have g3 : OH B n (fun i => i) := g3
    have pbk : ∀ {M N : Mm}, PB M n w R G A lo → FKs M N → PS N n w R G A → PB N n w R G A lo := fun {M N} h g hps => ⟨hps, by rw [g.1 2 (by unfold oFK; decide)]; exact h.2.1, h.2.2.1, h.2.2.2.1.fk g, h.2.2.2.2.1, h.2.2.2.2.2.1, fun k hk hw => g.rk (by
      rcases Nat.lt_or_ge k 30 with q | q
      · exact q
      · exact absurd (by rw [show k = 30 by omega]; exact h30) hw) (h.2.2.2.2.2.2 k hk hw)⟩
    have fkB : FKs M B := FKs.of g2 (fun c hc => by omega)
    have psB : PS B n w R G A := by
      unfold PS
      rw [g2 41 (by decide), g2 42 (by decide), g2 43 (by decide), g2 44 (by decide), g2 45 (by decide)]
      exact h.1
    have hB := pbk h fkB psB
    refine ok_ck g1 ?_
    show Ok (ck (inb (B 2 2) 13) ((l_Fb_findOrder_35 E way (pref : Int) (facF (B 2 2).toNat) FU B 0).bind _)) _
    rw [hB.2.1, Int.toNat_natCast, f1]
    refine ok_ck (inN (by omega) (by decide)) (ok_bm (R := fun r => FKs M r.2.2 ∧ PB r.2.2 n w R G A lo ∧ ((r.1 = 1 ∧ ∃ i o, i < nF n ∧ rc n i o ∧ OH r.2.2 n o ∧ Pm o n ∧ hit w R G A lo n way pref o ∧ ∀ j, j < i → ∀ p, rc n j p → ¬ hit w R G A lo n way pref p) ∨ (r.1 = 2 ∧ ∀ j, j < nF n → ∀ p, rc n j p → ¬ hit w R G A lo n way pref p))) ?_ ?_)
    · refine L_Fb_findOrder_35 E way (pref : Int) (nF n : Int) (I := fun N x => ∃ i o, x = ((i : Nat) : Int) ∧ i ≤ nF n ∧ rc n i o ∧ FKs M N ∧ PB N n w R G A lo ∧ OH N n o ∧ Pm o n ∧ ∀ j, j < i → ∀ p, rc n j p → ¬ hit w R G A lo n way pref p) (μ := fun _ x => nF n - x.toNat) ?_ FU B 0 ⟨0, _, rfl, Nat.zero_le _, rfl, fkB, hB, g3, Pm_id n, fun j hj => absurd hj (Nat.not_lt_zero j)⟩ (by show nF n - _ < 5000; omega)
      rintro N x ⟨i, o, rfl, hi, hrc, hF, hPB, hOH, hPm, hno⟩
      unfold Fb_findOrder_35b
      refine ok_ck (rgN (by omega)) (ok_ck ⟨by omega, by omega⟩ (ok_if (fun q => ?_) (fun q => ?_)))
      · have e : i = nF n := by omega
        rw [e] at hno
        exact ok_some (ok_out (by show (2 : Nat) ≠ 0; decide) ⟨hF, hPB, Or.inr ⟨rfl, hno⟩⟩)
      · refine ok_bm (writeTrial_ok hL hPB.2.1 (by omega) hn hOH hPm) ?_
        rintro K ⟨k1, k2, k3⟩
        have fkK : FKs N K := ⟨k1.mono fun c hc => by unfold oTr at hc; unfold oFK; omega, k2⟩
        have psK0 : PS K n w R G A := by
          unfold PS
          rw [k1 41 (by unfold oTr; decide), k1 42 (by unfold oTr; decide), k1 43 (by unfold oTr; decide), k1 44 (by unfold oTr; decide), k1 45 (by unfold oTr; decide)]
          exact hPB.1
        have hoff : ∀ k, k ≠ 30 → rT R o n k = R k ∧ gTr G n k = G k ∧ aT A o k = A k := fun k hk => by
          unfold rT gTr aT
          rw [if_neg hk, if_neg hk, if_neg hk]
          exact ⟨rfl, rfl, rfl⟩
        have psK := PS_rows psK0 h30 hoff
        have rk30 : Rk K 30 n (gTr G n 30) (rT R o n 30) (aT A o 30) := by
          unfold rT gTr aT
          rw [if_pos rfl, if_pos rfl, if_pos rfl]
          exact k3
        have hK2 : K 2 2 = (n : Int) := by rw [fkK.1 2 (by unfold oFK; decide)]; exact hPB.2.1
        refine ok_bm (change_ok (k := 30) (show n ≤ 8 by omega) hK2 psK (by decide) rk30 (by decide)) ?_
        rintro Q ⟨q1, q2⟩
        have etw : (fun j => if j = 30 then w 30 + 1 else w j) = twF w := rfl
        rw [etw] at q2
        have fkQ : FKs K Q := FKs.of q1 (fun c hc => by unfold oPo at hc; omega)
        have wnn := hPB.2.2.2.2.1
        have twn : ∀ k, k < 31 → 0 ≤ twF w k := fun k hk => by
          unfold twF
          by_cases e : k = 30
          · rw [if_pos e, h30]; decide
          · rw [if_neg e]; exact wnn k hk
        have tws : sN (twF w) 31 ≤ 1000000 := by
          have := sN_at (f := w) (g := twF w) (i := 30) (c := 1) (n := 31) (by decide) (fun j _ => rfl)
          omega
        have pbQ : PB Q n (twF w) (rT R o n) (gTr G n) (aT A o) lo := by
          refine ⟨q2, by rw [fkQ.1 2 (by unfold oFK; decide)]; exact hK2, by omega, (hPB.2.2.2.1.fk fkK).fk fkQ, twn, tws, fun k hk hwk => ?_⟩
          by_cases e : k = 30
          · subst e
            exact rk30.of (by rw [q1 7 (by unfold oPo; decide)]) (by rw [q1 6 (by unfold oPo; decide)]) (q1 39 (by unfold oPo; decide))
          · obtain ⟨r1, r2, r3⟩ := hoff k e
            rw [r1, r2, r3]
            refine (fkK.trans fkQ).rk (by omega) (hPB.2.2.2.2.2.2 k hk (fun z => hwk ?_))
            unfold twF
            rw [if_neg e]; exact z
        refine ok_bm (bestBy_ok hL pbQ (by omega) hway) ?_
        rintro ⟨b9, V⟩ ⟨⟨b, e9r, hb1, hb2⟩, v1r⟩
        have e9 : b9 = (b : Int) := e9r
        have v1 : Off oSc Q V := v1r
        subst e9
        have pbV := pbQ.off v1
        have fkV : FKs Q V := FKs.of v1 (fun c hc => by unfold oSc at hc; omega)
        have rkV : Rk V 30 n (gTr G n 30) (rT R o n 30) (aT A o 30) := (rk30.of (by rw [q1 7 (by unfold oPo; decide)]) (by rw [q1 6 (by unfold oPo; decide)]) (q1 39 (by unfold oPo; decide))).of (by rw [v1 7 (by unfold oSc; decide)]) (by rw [v1 6 (by unfold oSc; decide)]) (v1 39 (by unfold oSc; decide))
        refine ok_bm (change_ok (k := 30) (b := -1) (show n ≤ 8 by omega) pbV.2.1 pbV.1 (by decide) rkV (by decide)) ?_
        rintro U ⟨u1, u2'⟩
        have ew : (fun j => if j = 30 then twF w 30 + -1 else twF w j) = w := by
          funext j
          by_cases e : j = 30
          · show (if j = 30 then twF w 30 + -1 else twF w j) = w j
            rw [if_pos e, e]
            unfold twF
            rw [if_pos rfl]; omega
          · show (if j = 30 then twF w 30 + -1 else twF w j) = w j
            rw [if_neg e]
            unfold twF
            rw [if_neg e]
        rw [ew] at u2'
        have fkU : FKs V U := FKs.of u1 (fun c hc => by unfold oPo at hc; omega)
        have psU : PS U n w R G A := PS_rows u2' h30 (fun k hk => by obtain ⟨r1, r2, r3⟩ := hoff k hk; exact ⟨r1.symm, r2.symm, r3.symm⟩)
        have fkall : FKs N U := fkK.trans (fkQ.trans (fkV.trans fkU))
        have pbU := pbk hPB fkall psU
        have ohU : OH U n o := fun j hj => by
          rw [u1 52 (by unfold oPo; decide), v1 52 (by unfold oSc; decide), q1 52 (by unfold oPo; decide), k1 52 (by unfold oTr; decide)]
          exact hOH j hj
        have next : ¬ pref.testBit b = true → Ok (Fb_findOrder_j94 E U way (pref : Int) (nF n : Int) (i : Int)) (fun r => (r.1 = 0 → (∃ i o, r.2.1 = ((i : Nat) : Int) ∧ i ≤ nF n ∧ rc n i o ∧ FKs M r.2.2 ∧ PB r.2.2 n w R G A lo ∧ OH r.2.2 n o ∧ Pm o n ∧ ∀ j, j < i → ∀ p, rc n j p → ¬ hit w R G A lo n way pref p) ∧ nF n - r.2.1.toNat < nF n - (i : Int).toNat) ∧ (r.1 ≠ 0 → FKs M r.2.2 ∧ PB r.2.2 n w R G A lo ∧ ((r.1 = 1 ∧ ∃ i o, i < nF n ∧ rc n i o ∧ OH r.2.2 n o ∧ Pm o n ∧ hit w R G A lo n way pref o ∧ ∀ j, j < i → ∀ p, rc n j p → ¬ hit w R G A lo n way pref p) ∨ (r.1 = 2 ∧ ∀ j, j < nF n → ∀ p, rc n j p → ¬ hit w R G A lo n way pref p)))) := fun hb9 => by
          unfold Fb_findOrder_j94
          refine ok_bm (nextOrder_ok hn2 hn pbU.2.1 ohU hPm) ?_
          rintro Z ⟨z1, o', z2, z3, z4⟩
          have fkZ : FKs U Z := FKs.of z1 (fun c hc => by omega)
          have psZ : PS Z n w R G A := by
            unfold PS
            rw [z1 41 (by decide), z1 42 (by decide), z1 43 (by decide), z1 44 (by decide), z1 45 (by decide)]
            exact pbU.1
          refine ok_some (ok_go rfl ⟨⟨i + 1, o', c1 i, by omega, ⟨o, hrc, z2⟩, hF.trans (fkall.trans fkZ), pbk pbU fkZ psZ, z4, z3, fun j hj p hp => ?_⟩, cnt (by omega)⟩)
          by_cases e : j = i
          · rw [e] at hp
            have ep := rc_unique hp hrc
            rw [ep]
            rintro ⟨b', h1', h2', h3'⟩
            rw [BB_unique h2' hb2] at h3'
            exact hb9 h3'
          · exact hno j (by omega) p hp
        refine ok_ck ⟨by omega, by omega⟩ (ok_if (fun z => by omega) (fun _ => ?_))
        rw [has_tb (by omega) (by omega)]
        refine ok_sb ?_
        by_cases hbt : pref.testBit b = true
        · rw [if_pos hbt]
          exact ok_ck (by decide) (ok_if (fun z => absurd z (by decide)) (fun _ => ok_some (ok_out ne0 ⟨hF.trans fkall, pbU, Or.inl ⟨rfl, i, o, by omega, hrc, ohU, hPm, ⟨b, hb1, hb2, hbt⟩, hno⟩⟩)))
        · rw [if_neg hbt]
          exact ok_ck (by decide) (ok_if (fun _ => next hbt) (fun z => absurd rfl z))
    · rintro ⟨t2, x2, N⟩ ⟨d1, d2, d3⟩
      rcases d3 with ⟨e, d3⟩ | ⟨e, d3⟩
      · have e : t2 = 1 := e
        subst e
        exact ok_if (fun _ => ok_some ⟨d1, d2, Or.inl ⟨rfl, d3⟩⟩) (fun z => absurd rfl z)
      · have e : t2 = 2 := e
        subst e
        exact ok_if (fun z => absurd z (by decide)) (fun _ => ok_if (fun _ => ok_some ⟨d1, d2, Or.inr ⟨rfl, d3⟩⟩) (fun z => absurd rfl z))
/-- whom a kind ranks ahead of one -/
def prf (R : Nat → Nat → Nat) (n k b : Nat) : Nat := fS (fun c => decide (R k c < R k b)) n
theorem aheadOf_ok {E : Ev} {M : Mm} {n k b G A : Nat} {R : Nat → Nat → Nat} (h : Rk M k n G (R k) A) (hk : k < 30) (hn : n ≤ 8) (hb : b < n) : Ok (f_Fb_aheadOf E M (k : Int) (b : Int)) (fun r => r = (prf R n k b : Int)) := by
  have hpw := pow_lt hn
  have hR := h
  obtain ⟨h7, h6, hG, hA, h9, hRG, hne⟩ := h
  unfold f_Fb_aheadOf
  refine ok_bm (rankOf_ok hR (by omega) hn hb) ?_
  rintro r rfl
  have rb := hRG b hb
  refine ok_bm (R := fun r => r.1 = 1 ∧ r.2.1 = (prf R n k b : Int)) ?_ ?_
  · refine L_Fb_aheadOf_16 E (k : Int) (R k b : Int) M (I := fun x y => ∃ g S : Nat, y = (g : Int) ∧ g ≤ R k b ∧ x = (S : Int) ∧ S < 2 ^ n ∧ ∀ c, c < n → (S.testBit c = true ↔ R k c < g)) (μ := fun _ y => R k b - y.toNat) ?_ FU 0 0 ⟨0, 0, rfl, Nat.zero_le _, rfl, Nat.two_pow_pos n, fun c _ => by rw [Nat.zero_testBit]; exact ⟨fun q => (by cases q), fun q => absurd q (Nat.not_lt_zero _)⟩⟩ (by show R k b - _ < 5000; omega)
    rintro x y ⟨g, S, rfl, hg, rfl, hS, hB⟩
    unfold Fb_aheadOf_16b
    refine ok_ck (rgN (by omega)) (ok_ck (rgN (by omega)) (ok_if (fun q => ?_) (fun q => ?_)))
    · have e : g = R k b := by omega
      refine ok_some (ok_out ne0 ⟨rfl, ?_⟩)
      show (S : Int) = _
      congr 1
      refine eq_tb hS (fS_lt _ n) fun i hi => ?_
      unfold prf
      rw [fS_tb _ hi]
      rw [e] at hB
      exact Bool.eq_iff_iff.mpr ((hB i hi).trans decide_eq_true_iff.symm)
    · have gl := gS_lt (R k) n g
      rw [Int.toNat_natCast, Int.toNat_natCast, h9 g (by omega), orI_nat]
      refine ok_ck (inN (by omega) (by decide)) (ok_ck (inN (by omega) (by decide)) (ok_ck ⟨by omega, by omega⟩ (ok_ck ⟨by omega, by omega⟩ (ok_nb (ok_some (ok_go rfl ⟨⟨g + 1, S ||| gS (R k) n g, c1 g, by omega, rfl, or_lt hS gl, fun c hc => ?_⟩, cnt (by omega)⟩))))))
      rw [Nat.testBit_or, gS_tb hc, Bool.or_eq_true, hB c hc]
      constructor
      · rintro (z | z)
        · omega
        · have := of_decide_eq_true z; omega
      · intro z
        by_cases e : R k c = g
        · exact Or.inr (decide_eq_true e)
        · exact Or.inl (by omega)
  · rintro ⟨t, x, y⟩ ⟨g1, g2⟩
    exact ok_ck g1 (ok_some g2)
/-- the weights with one ballot of a kind less -/
def wM (w : Nat → Int) (k j : Nat) : Int := if j = k then w k + -1 else w j
def hitK (kk : Nat) (C : Nat → Int) (R : Nat → Nat → Nat) (G A : Nat → Nat) (lo : Nat → Int) (n : Nat) (way : Int) (b0 k : Nat) (o : Nat → Nat) : Prop := hit (wM (wB kk C) k) R G A lo n way (prf R n k b0) o
/-- nothing of this kind gains -/
def noK (kk : Nat) (C : Nat → Int) (R : Nat → Nat → Nat) (G A : Nat → Nat) (lo : Nat → Int) (n : Nat) (way : Int) (b0 k : Nat) : Prop := 1 ≤ C k → ∀ j, j < nF n → ∀ p, rc n j p → ¬ hitK kk C R G A lo n way b0 k p
/-- the first that gains -/
def fkr (kk : Nat) (C : Nat → Int) (R : Nat → Nat → Nat) (G A : Nat → Nat) (lo : Nat → Int) (n : Nat) (way : Int) (b0 k : Nat) (o : Nat → Nat) : Prop := k < kk ∧ 1 ≤ C k ∧ (∃ i, i < nF n ∧ rc n i o ∧ ∀ j, j < i → ∀ p, rc n j p → ¬ hitK kk C R G A lo n way b0 k p) ∧ hitK kk C R G A lo n way b0 k o ∧ ∀ j, j < k → noK kk C R G A lo n way b0 j
theorem fkr_unique {kk : Nat} {C : Nat → Int} {R : Nat → Nat → Nat} {G A : Nat → Nat} {lo : Nat → Int} {n : Nat} {way : Int} {b0 k l : Nat} {o p : Nat → Nat} (h : fkr kk C R G A lo n way b0 k o) (g : fkr kk C R G A lo n way b0 l p) : k = l ∧ o = p := by
  obtain ⟨h1, h2, ⟨i, i1, i2, i3⟩, h4, h5⟩ := h
  obtain ⟨g1, g2, ⟨j, j1, j2, j3⟩, g4, g5⟩ := g
  have e : k = l := by
    rcases Nat.lt_trichotomy k l with w | w | w
    · exact absurd h4 (g5 k w h2 i i1 o i2)
    · exact w
    · exact absurd g4 (h5 l w g2 j j1 p j2)
  subst e
  refine ⟨rfl, ?_⟩
  rcases Nat.lt_trichotomy i j with w | w | w
  · exact absurd h4 (j3 i w o i2)
  · rw [w] at i2; exact rc_unique i2 j2
  · exact absurd g4 (i3 j w p j2)
theorem findKind_ok {E : Ev} {M : Mm} {n kk : Nat} {C : Nat → Int} {G : Nat → Nat} {R : Nat → Nat → Nat} {A : Nat → Nat} {lo : Nat → Int} {way : Int} (hL : Lay E) (h : BX M n kk C G R A) (hl : LT M n lo) (hs9 : sN C kk ≤ 999999) (hn2 : 2 ≤ n) (hn : n ≤ 5) (hway : rgI way) : Ok (f_Fb_findKind E M way) (fun r => FKs M r.2 ∧ ∃ b0, b0 < n ∧ BB (wB kk C) R G A lo n way b0 ∧ ((r.1 = -1 ∧ ∀ k, k < kk → noK kk C R G A lo n way b0 k) ∨ ∃ k o, r.1 = ((k : Nat) : Int) ∧ fkr kk C R G A lo n way b0 k o ∧ OH r.2 n o ∧ Pm o n)) := by
  have hpw := pow_lt (show n ≤ 8 by omega)
  have hkk := h.2.2.2.1
  have w30 : wB kk C 30 = 0 := by unfold wB; rw [if_neg (by omega)]
  have wsum9 : sN (wB kk C) 31 ≤ 999999 := by
    have := wB_sum (kk := kk) (C := C) (f := fun _ => 1) (n := 31) (by omega)
    rw [sN_congr (g := wB kk C) (fun i _ => Int.mul_one _), sN_congr (g := C) (fun i _ => Int.mul_one _)] at this
    omega
  unfold f_Fb_findKind
  rw [everybody_eq h.1 h.2.1]
  refine ok_sb (ok_bm (open_pd hL h) ?_)
  rintro N ⟨o1, o2, -, -, o5⟩
  have fkN : FKs M N := FKs.of o1 (fun c hc => by unfold oP2 at hc; omega)
  have mkPB : ∀ K, FKs M K → PS K n (wB kk C) R G A → PB K n (wB kk C) R G A lo := fun K hK hp => ⟨hp, (h.fk hK).1, by omega, hl.fk hK, (wB_nn h).1, (wB_nn h).2, fun k hk hw => by
    have : k < kk := by
      rcases Nat.lt_or_ge k kk with q | q
      · exact q
      · exact absurd (by unfold wB; rw [if_neg (by omega)]) hw
    exact ((h.fk hK).2.2.2.2.1 k this).1⟩
  refine ok_bm (bestBy_ok hL (mkPB N fkN o2) (by omega) hway) ?_
  rintro ⟨b9, V⟩ ⟨⟨b, e9r, hb1, hb2⟩, v1r⟩
  have e9 : b9 = (b : Int) := e9r
  have v1 : Off oSc N V := v1r
  subst e9
  have fkV : FKs M V := fkN.trans (FKs.of v1 (fun c hc => by unfold oSc at hc; omega))
  have psV := ((mkPB N fkN o2).off v1).1
  refine ok_ck ⟨by omega, by omega⟩ (ok_if (fun z => by omega) (fun _ => ?_))
  refine ok_bm (R := fun r => FKs M r.2.2 ∧ ((r.1 = 2 ∧ ∀ k, k < kk → noK kk C R G A lo n way b k) ∨ (r.1 = 1 ∧ ∃ k o, r.2.1 = ((k : Nat) : Int) ∧ fkr kk C R G A lo n way b k o ∧ OH r.2.2 n o ∧ Pm o n))) ?_ ?_
  · refine L_Fb_findKind_32 E way (b : Int) (I := fun K x => ∃ k : Nat, x = (k : Int) ∧ k ≤ kk ∧ FKs M K ∧ PS K n (wB kk C) R G A ∧ ∀ j, j < k → noK kk C R G A lo n way b j) (μ := fun _ x => kk - x.toNat) ?_ FU V 0 ⟨0, rfl, Nat.zero_le _, fkV, psV, fun j hj => absurd hj (Nat.not_lt_zero j)⟩ (by show kk - _ < 5000; omega)
    rintro K x ⟨k, rfl, hk, hF, hPS, hno⟩
    have hBK := h.fk hF
    unfold Fb_findKind_32b
    rw [hBK.2.2.1, Int.toNat_natCast]
    refine ok_ck (rgN (by omega)) (ok_ck (rgN (by omega)) (ok_if (fun q => ?_) (fun q => ?_)))
    · have e : k = kk := by omega
      rw [e] at hno
      exact ok_some (ok_out (by show (2 : Nat) ≠ 0; decide) ⟨hF, Or.inl ⟨rfl, hno⟩⟩)
    · have hkk2 : k < kk := by omega
      obtain ⟨r1, r2, r3⟩ := hBK.2.2.2.2.1 k hkk2
      have ck9 : C k ≤ 1000000 := by
        have := sN_term (f := C) (fun i hi => (h.2.2.2.2.1 i hi).2.2) hkk2
        omega
      have wk : wB kk C k = C k := by unfold wB; rw [if_pos hkk2]
      have next : ∀ Z, FKs M Z → PS Z n (wB kk C) R G A → noK kk C R G A lo n way b k → Ok (some (0, (k : Int) + 1, Z) : Option (Nat × Int × Mm)) (fun r => (r.1 = 0 → (∃ k : Nat, r.2.1 = (k : Int) ∧ k ≤ kk ∧ FKs M r.2.2 ∧ PS r.2.2 n (wB kk C) R G A ∧ ∀ j, j < k → noK kk C R G A lo n way b j) ∧ kk - r.2.1.toNat < kk - (k : Int).toNat) ∧ (r.1 ≠ 0 → FKs M r.2.2 ∧ ((r.1 = 2 ∧ ∀ k, k < kk → noK kk C R G A lo n way b k) ∨ (r.1 = 1 ∧ ∃ k o, r.2.1 = ((k : Nat) : Int) ∧ fkr kk C R G A lo n way b k o ∧ OH r.2.2 n o ∧ Pm o n)))) := fun Z z1 z2 z3 => by
        refine ok_some (ok_go rfl ⟨⟨k + 1, c1 k, by omega, z1, z2, fun j hj => ?_⟩, cnt hkk2⟩)
        by_cases e : j = k
        · rw [e]; exact z3
        · exact hno j (by omega)
      rw [r2]
      refine ok_ck (inN (by omega) (by decide)) (ok_ck ⟨by omega, by omega⟩ (ok_if (fun z => ?_) (fun z => ok_bm (aheadOf_ok r1 (by omega) (by omega) hb1) ?_)))
      · unfold Fb_findKind_j65
        exact ok_ck (by decide) (ok_if (fun _ => next K hF hPS (fun w => by omega)) (fun w => absurd rfl w))
      · rintro r rfl
        have pl9 : prf R n k b < 2 ^ n := fS_lt _ n
        unfold Fb_findKind_j65
        refine ok_ck (rgN (by omega)) (ok_if (fun w => ?_) (fun w => ?_))
        · refine next K hF hPS (fun _ j hj p hp => ?_)
          rintro ⟨b', -, -, hbt⟩
          rw [show prf R n k b = 0 by omega, Nat.zero_testBit] at hbt
          cases hbt
        · refine ok_bm (change_ok (k := k) (b := -1) (show n ≤ 8 by omega) hBK.1 hPS (by omega) r1 (by decide)) ?_
          rintro Q ⟨q1, q2⟩
          have fkQ : FKs K Q := FKs.of q1 (fun c hc => by unfold oPo at hc; omega)
          have ewM : (fun j => if j = k then wB kk C k + -1 else wB kk C j) = wM (wB kk C) k := rfl
          rw [ewM] at q2
          have wMn : ∀ j, j < 31 → 0 ≤ wM (wB kk C) k j := fun j hj => by
            unfold wM
            by_cases e : j = k
            · rw [if_pos e, wk]; omega
            · rw [if_neg e]; exact (wB_nn h).1 j hj
          have wMs : sN (wM (wB kk C) k) 31 ≤ 999999 := by
            have := sN_at (f := wB kk C) (g := wM (wB kk C) k) (i := k) (c := -1) (n := 31) (by omega) (fun j _ => rfl)
            omega
          have wM30 : wM (wB kk C) k 30 = 0 := by unfold wM; rw [if_neg (by omega)]; exact w30
          have pbQ : PB Q n (wM (wB kk C) k) R G A lo := ⟨q2, (h.fk (hF.trans fkQ)).1, by omega, hl.fk (hF.trans fkQ), wMn, by omega, fun j hj hw => by
            have : j < kk := by
              rcases Nat.lt_or_ge j kk with q | q
              · exact q
              · exfalso
                refine hw ?_
                unfold wM
                rw [if_neg (by omega)]
                unfold wB
                rw [if_neg (by omega)]
            exact ((h.fk (hF.trans fkQ)).2.2.2.2.1 j this).1⟩
          refine ok_bm (findOrder_ok hL pbQ wM30 wMs hn2 hn hway pl9) ?_
          rintro ⟨t, U⟩ ⟨u1, u2', u3⟩
          have u1 : FKs Q U := u1
          rcases u3 with ⟨e, i, o, i1, i2, i3, i4, i5, i6⟩ | ⟨e, u3⟩
          · have e : t = 1 := e
            subst e
            exact ok_ck (by decide) (ok_if (fun y => absurd y (by decide)) (fun _ => ok_some (ok_out ne0 ⟨hF.trans (fkQ.trans u1), Or.inr ⟨rfl, k, o, rfl, ⟨hkk2, by omega, ⟨i, i1, i2, i6⟩, i5, hno⟩, i3, i4⟩⟩)))
          · have e : t = 0 := e
            subst e
            refine ok_ck (by decide) (ok_if (fun _ => ok_bm (change_ok (k := k) (b := 1) (show n ≤ 8 by omega) (h.fk (hF.trans (fkQ.trans u1))).1 u2'.1 (by omega) ((h.fk (hF.trans (fkQ.trans u1))).2.2.2.2.1 k hkk2).1 (by decide)) ?_) (fun y => absurd rfl y))
            rintro Y ⟨y1, y2⟩
            have ew : (fun j => if j = k then wM (wB kk C) k k + 1 else wM (wB kk C) k j) = wB kk C := by
              funext j
              show (if j = k then wM (wB kk C) k k + 1 else wM (wB kk C) k j) = wB kk C j
              by_cases e : j = k
              · rw [if_pos e, e]; unfold wM; rw [if_pos rfl]; omega
              · rw [if_neg e]; unfold wM; rw [if_neg e]
            rw [ew] at y2
            exact next Y (hF.trans (fkQ.trans (u1.trans (FKs.of y1 (fun c hc => by unfold oPo at hc; omega))))) y2 (fun _ => u3)
  · rintro ⟨t, x, Z⟩ ⟨z1, z2⟩
    rcases z2 with ⟨e, z2⟩ | ⟨e, k, o, ekr, z2⟩
    · have e : t = 2 := e
      subst e
      exact ok_if (fun y => absurd y (by decide)) (fun _ => ok_if (fun _ => ok_some ⟨z1, b, hb1, hb2, Or.inl ⟨rfl, z2⟩⟩) (fun y => absurd rfl y))
    · have e : t = 1 := e
      have ek : x = ((k : Nat) : Int) := ekr
      subst e ek
      exact ok_if (fun _ => ok_some ⟨z1, b, hb1, hb2, Or.inr ⟨k, o, rfl, z2⟩⟩) (fun y => absurd rfl y)
