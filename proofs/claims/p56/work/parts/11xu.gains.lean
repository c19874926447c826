/-! A GAINING BALLOT GAINS -/
def s62 : Nat → Nat := fun _ => 62
theorem wr_62 : ∀ i, wr s62 i = i
  | 0 => rfl
  | i + 1 => by
    show wr s62 i + (if s62 (i + 1) = 61 then 0 else 1) = i + 1
    rw [wr_62 i, if_neg (show ¬ s62 (i + 1) = 61 from (by decide : ¬ (62 : Nat) = 61))]
theorem wc_62 (n : Nat) : wc s62 n = n := by
  cases n with
  | zero => rfl
  | succ k => show wr s62 k + 1 = k + 1; rw [wr_62]
theorem wb_62 (o : Nat → Nat) : ∀ i, wbar o s62 i = -1
  | 0 => rfl
  | i + 1 => by
    show (if s62 (i + 1) = 124 then (wu o (i + 1) : Int) else wbar o s62 i) = -1
    rw [if_neg (show ¬ s62 (i + 1) = 124 from (by decide : ¬ (62 : Nat) = 124)), wb_62 o i]
theorem WT_62 {n : Nat} {o : Nat → Nat} (h : Pm o n) : WT n n o s62 := ⟨Nat.le_refl n, h.1, fun i j hi hj e => h.2.2 i j hi hj e, fun i _ => Or.inr (Or.inl rfl)⟩
theorem apv_62 {n : Nat} {o : Nat → Nat} (h : Pm o n) (h1 : 1 ≤ n) : apv o s62 n = 2 ^ o 0 := by
  unfold apv
  rw [wb_62, if_pos rfl]
  refine eq_tb (wg_lt h.1 n (Nat.le_refl n)) (Nat.pow_lt_pow_right (by decide) (h.1 0 (by omega))) fun c hc => Bool.eq_iff_iff.mpr ?_
  rw [wg_tb, one_tb, decide_eq_true_iff]
  constructor
  · rintro ⟨j, j1, j2, j3⟩
    rw [wr_62] at j3
    rw [← j2, j3]
  · intro e
    exact ⟨0, by omega, e, wr_62 0⟩
theorem wR_62 {n c G : Nat} {o : Nat → Nat} (h : Pm o n) (hc : c < n) : wRr o s62 G n c = pos o n c := by
  obtain ⟨i, hi, e⟩ := h.2.1 c hc
  rw [← e, wR_at (WT_62 h).2.2.1 hi, pos_at h hi, wr_62]
theorem LT.off {M N : Mm} {n : Nat} {lo : Nat → Int} {S : Nat → Prop} (h : LT M n lo) (ho : Off S M N) (h4 : ¬ S 4) : LT N n lo := fun c hc => by rw [ho 4 h4]; exact h c hc
theorem gains40_ok {E : Ev} {M : Mm} {q1 p pa n kk k b0 : Nat} {C : Nat → Int} {G : Nat → Nat} {R : Nat → Nat → Nat} {A : Nat → Nat} {lo : Nat → Int} {way x4 x5 : Int} {o : Nat → Nat} (hL : Lay E) (hq1 : isO 12 E q1) (hq2 : 250 ≤ q1) (hqp : q1 < p) (hq0 : M q1 0 = (n : Int)) (h : BX M n kk C G R A) (hl : LT M n lo) (hs9 : sN C kk ≤ 999999) (hn2 : 2 ≤ n) (hn : n ≤ 5) (w0 : 0 ≤ way) (w4 : way ≤ 4) (hb : BB (wB kk C) R G A lo n way b0) (hf : fkr kk C R G A lo n way b0 k o) (hP : Pm o n) (hS : SBd E M p pa 0 (tx o s62)) : Ok (l_La_gains_40 q1 way x4 x5 p 5000 E M 0) (fun r => r.1 = 1 ∧ r.2.2.1 = E ∧ Off (fun c => oFK c ∨ p ≤ c) M r.2.2.2 ∧ BX r.2.2.2 n kk C G R A ∧ LT r.2.2.2 n lo ∧ SBd E r.2.2.2 p pa (2 * n - 1) (tx o s62)) := by
  have hp := hS.1
  have hp2 := hS.2.1
  have hppa := hS.2.2.2.2.1
  refine L_La_gains_40 q1 way x4 x5 p (I := fun F N x => F = E ∧ ∃ i : Nat, x = (i : Int) ∧ i ≤ n ∧ Off (fun c => oFK c ∨ p ≤ c) M N ∧ BX N n kk C G R A ∧ LT N n lo ∧ SBd E N p pa (2 * i - 1) (tx o s62)) (μ := fun _ _ x => n - x.toNat) ?_ 5000 E M 0 ⟨rfl, 0, rfl, Nat.zero_le _, Off.refl, h, hl, hS⟩ (by show n - _ < 5000; omega)
  rintro F N x ⟨rfl, i, rfl, hi, oN, hB, hLT, hSB⟩
  have eq0 : N q1 0 = (n : Int) := by rw [oN q1 (by unfold oFK; omega)]; exact hq0
  unfold La_gains_40b
  rw [eq0]
  refine ok_ck hL (ok_ck hq1 (ok_ck hp (ok_ck (rgN (by omega)) (ok_ck (rgN (by omega)) (ok_if (fun z => ?_) (fun z => ?_))))))
  · have e : i = n := by omega
    subst e
    exact ok_some (ok_out ne0 ⟨rfl, rfl, oN, hB, hLT, hSB⟩)
  · have hin : i < n := by omega
    have oi := hP.1 i hin
    have rest : ∀ (K : Mm), Off (fun c => c = p ∨ c = pa) N K → SBd F K p pa (2 * i) (tx o s62) → Ok ((f_B_gainAt F K way (i : Int)).bind fun r => ck (0 ≤ (65 + r.1) ∧ (65 + r.1) ≤ 65535) ((f_Sb_appendC F r.2 p (65 + r.1)).bind fun y => ck (isO 14 F y.1) (some (0, ((i : Int) + 1), F, y.2)))) (fun r => (r.1 = 0 → (r.2.2.1 = F ∧ ∃ i : Nat, r.2.1 = (i : Int) ∧ i ≤ n ∧ Off (fun c => oFK c ∨ p ≤ c) M r.2.2.2 ∧ BX r.2.2.2 n kk C G R A ∧ LT r.2.2.2 n lo ∧ SBd F r.2.2.2 p pa (2 * i - 1) (tx o s62)) ∧ n - r.2.1.toNat < n - (i : Int).toNat) ∧ (r.1 ≠ 0 → r.1 = 1 ∧ r.2.2.1 = F ∧ Off (fun c => oFK c ∨ p ≤ c) M r.2.2.2 ∧ BX r.2.2.2 n kk C G R A ∧ LT r.2.2.2 n lo ∧ SBd F r.2.2.2 p pa (2 * n - 1) (tx o s62))) := fun K oK sK => by
      have hBK : BX K n kk C G R A := hB.off oK (by omega) (by omega) (by omega) (by omega) (fun k hk => by omega)
      have hLK : LT K n lo := hLT.off oK (by omega)
      refine ok_bm (gainAt_ok hL hBK hLK hs9 hn2 hn w0 w4 hb hf hin) ?_
      rintro ⟨r, P⟩ ⟨p1r, p2r⟩
      have p1 : FKs K P := p1r
      have p2 : r = (o i : Int) := p2r
      subst p2
      refine ok_ck ⟨by omega, by omega⟩ (ok_bm (appendC_ok (s := tx o s62) (m := 2 * i) (sK.off p1.1 (by unfold oFK; omega) (by unfold oFK; omega)) (by omega) (by rw [tx_0]; omega) (by rw [tx_0]; omega)) ?_)
      rintro ⟨y, Q⟩ ⟨y1r, y2r, y3r⟩
      have y1 : y = p := y1r
      have y2 : SBd F Q p pa (2 * i + 1) (tx o s62) := y2r
      have y3 : Off (fun c => c = p ∨ c = pa) P Q := y3r
      subst y1
      refine ok_ck hp (ok_some (ok_go rfl ⟨⟨rfl, i + 1, c1 i, by omega, ?_, ?_, ?_, ?_⟩, cnt hin⟩))
      · exact ((oN.trans (oK.mono fun c hc => by omega)).trans (p1.1.mono fun c hc => Or.inl hc)).trans (y3.mono fun c hc => by omega)
      · exact (hBK.fk p1).off y3 (by omega) (by omega) (by omega) (by omega) (fun k hk => by omega)
      · exact (hLK.fk p1).off y3 (by omega)
      · rw [show 2 * (i + 1) - 1 = 2 * i + 1 by omega]
        exact y2
    refine ok_if (fun w => ?_) (fun w => ?_)
    · have e : i = 0 := by omega
      refine ok_bm (appendS0_ok hSB (by omega)) ?_
      rintro ⟨y, K⟩ ⟨y1r, y2r, y3r⟩
      have y1 : y = p := y1r
      subst y1
      refine ok_ck hp (rest K y3r ?_)
      have y2 : SBd F K y pa (2 * i - 1) (tx o s62) := y2r
      rw [show 2 * i = 2 * i - 1 by omega]
      exact y2
    · refine ok_bm (appendS1_ok hSB (by omega) ?_) ?_
      · rw [show 2 * i - 1 = 2 * (i - 1) + 1 by omega, tx_1]; rfl
      · rintro ⟨y, K⟩ ⟨y1r, y2r, y3r⟩
        have y1 : y = p := y1r
        subst y1
        refine ok_ck hp (rest K y3r ?_)
        have y2 : SBd F K y pa (2 * i - 1 + 1) (tx o s62) := y2r
        rw [show 2 * i = 2 * i - 1 + 1 by omega]
        exact y2
theorem wB_in {kk i : Nat} {C : Nat → Int} (h : i < kk) : wB kk C i = C i := if_pos h
theorem wB_out {kk i : Nat} {C : Nat → Int} (h : ¬ i < kk) : wB kk C i = 0 := if_neg h
/-- the false ballot in the box: the same poll -/
theorem PQ_hit {n kk k j : Nat} {C : Nat → Int} {G : Nat → Nat} {R : Nat → Nat → Nat} {A : Nat → Nat} {o : Nat → Nat} (hP : Pm o n) (h1 : 1 ≤ n) (hk : k < kk) (hkk : kk ≤ 30) (hj : j < kk) (hG : G j = n) (hA : A j = 2 ^ o 0) (hR : ∀ c, c < n → R j c = pos o n c) : PQ n (wB kk (plC (plC C k (-1)) j 1)) R G A (twF (wM (wB kk C) k)) (rT R o n) (gTr G n) (aT A o) := by
  refine PQ_row (k := j) (l := 30) (f := wM (wB kk C) k) (R := R) (G := G) (A := A) (by omega) (by decide) (fun i => ?_) (fun i => ?_) (fun i _ => Or.inr ⟨fun _ _ => rfl, rfl, rfl⟩) (fun i hi => Or.inr ⟨fun c _ => ?_, ?_, ?_⟩) (Or.inr ⟨fun _ _ => rfl, rfl, rfl⟩) (Or.inl ?_) (fun c hc => ?_) ?_ ?_
  · by_cases a : i < kk
    · rw [wB_in a]
      unfold wM plC
      by_cases b : i = j
      · rw [if_pos b, if_pos b]
        by_cases c : i = k
        · rw [if_pos c, if_pos c, c, wB_in hk]
        · rw [if_neg c, if_neg c, wB_in a]
      · rw [if_neg b, if_neg b]
        by_cases c : i = k
        · rw [if_pos c, if_pos c, c, wB_in hk]
        · rw [if_neg c, if_neg c, wB_in a]
    · rw [wB_out a, if_neg (by omega)]
      unfold wM
      rw [if_neg (by omega), wB_out a]
  · unfold twF
    by_cases a : i = 30
    · rw [if_pos a, if_pos a, a]
    · rw [if_neg a, if_neg a]
  · unfold rT; rw [if_neg hi]
  · unfold gTr; rw [if_neg hi]
  · unfold aT; rw [if_neg hi]
  · unfold wM
    rw [if_neg (by omega), wB_out (by omega)]
  · unfold rT; rw [if_pos rfl]; exact hR c hc
  · unfold gTr; rw [if_pos rfl]; exact hG
  · unfold aT; rw [if_pos rfl]; exact hA
theorem PQ_hit2 {n kk k g a : Nat} {C : Nat → Int} {G : Nat → Nat} {R : Nat → Nat → Nat} {A : Nat → Nat} {o r : Nat → Nat} (hP : Pm o n) (h1 : 1 ≤ n) (hk : k < kk) (hkk : kk < 30) (hG : g = n) (hA : a = 2 ^ o 0) (hR : ∀ c, c < n → r c = pos o n c) : PQ n (wB (kk + 1) (nw kk 1 (plC C k (-1)))) (nw kk r R) (nw kk g G) (nw kk a A) (twF (wM (wB kk C) k)) (rT R o n) (gTr G n) (aT A o) := by
  refine PQ_row (k := kk) (l := 30) (f := wM (wB kk C) k) (R := R) (G := G) (A := A) (by omega) (by decide) (fun i => ?_) (fun i => ?_) (fun i hi => Or.inr ⟨fun _ _ => by rw [nw_ne hi], nw_ne hi, nw_ne hi⟩) (fun i hi => Or.inr ⟨fun c _ => ?_, ?_, ?_⟩) (Or.inl ?_) (Or.inl ?_) (fun c hc => ?_) ?_ ?_
  · by_cases a : i < kk
    · rw [wB_in (show i < kk + 1 by omega), nw_ne (by omega), if_neg (by omega)]
      unfold wM plC
      by_cases c : i = k
      · rw [if_pos c, if_pos c, c, wB_in hk]
      · rw [if_neg c, if_neg c, wB_in a]
    · by_cases b : i = kk
      · rw [wB_in (show i < kk + 1 by omega), if_pos b, b, nw_at]
        unfold wM
        rw [if_neg (by omega), wB_out (Nat.lt_irrefl kk)]; rfl
      · rw [wB_out (show ¬ i < kk + 1 by omega), if_neg b]
        unfold wM
        rw [if_neg (by omega), wB_out a]
  · unfold twF
    by_cases a : i = 30
    · rw [if_pos a, if_pos a, a]
    · rw [if_neg a, if_neg a]
  · unfold rT; rw [if_neg hi]
  · unfold gTr; rw [if_neg hi]
  · unfold aT; rw [if_neg hi]
  · unfold wM
    rw [if_neg (by omega), wB_out (by omega)]
  · unfold wM
    rw [if_neg (by omega), wB_out (by omega)]
  · unfold rT; rw [if_pos rfl, nw_at]; exact hR c hc
  · unfold gTr; rw [if_pos rfl, nw_at]; exact hG
  · unfold aT; rw [if_pos rfl, nw_at]; exact hA
