/-! SETS AS NUMBERS, BIT BY BIT -/
theorem bt_tb (S k : Nat) : bt S k = if S.testBit k = true then 1 else 0 := by
  rw [Nat.testBit_eq_decide_div_mod_eq]
  unfold bt
  by_cases h : S / 2 ^ k % 2 = 1
  · rw [h, if_pos (decide_eq_true rfl)]
  · rw [if_neg (fun q => h (of_decide_eq_true q))]
    have := Nat.mod_lt (S / 2 ^ k) (show 2 > 0 by decide)
    omega
theorem has_tb {E : Ev} {M : Mm} {S k : Nat} (hS : S < 2147483648) (hk : k < 32) : f_B_has E M (S : Int) (k : Int) = some (if S.testBit k = true then 1 else 0) := by
  rw [has_eq hS hk, bt_tb]
  by_cases h : S.testBit k = true
  · rw [if_pos h, if_pos h, if_neg (by decide)]
  · rw [if_neg h, if_neg h, if_pos rfl]
theorem andI_nat (a b : Nat) : andI (a : Int) (b : Int) = ((a &&& b : Nat) : Int) := by unfold andI; rw [Int.toNat_natCast, Int.toNat_natCast]
theorem orI_nat (a b : Nat) : orI (a : Int) (b : Int) = ((a ||| b : Nat) : Int) := by unfold orI; rw [Int.toNat_natCast, Int.toNat_natCast]
/-- a set without another -/
def dN (a b : Nat) : Nat := a &&& (4294967296 - (b + 1))
theorem dfI_nat (a b : Nat) : dfI (a : Int) (b : Int) = ((dN a b : Nat) : Int) := by unfold dfI dN; rw [Int.toNat_natCast, Int.toNat_natCast]
theorem dN_tb {a b : Nat} (ha : a < 4294967296) (hb : b < 4294967296) (i : Nat) : (dN a b).testBit i = (a.testBit i && !b.testBit i) := by
  unfold dN
  rw [Nat.testBit_and, show (4294967296 : Nat) = 2 ^ 32 from rfl, Nat.testBit_two_pow_sub_succ (by exact hb)]
  by_cases h : i < 32
  · rw [decide_eq_true h, Bool.true_and]
  · rw [Nat.testBit_lt_two_pow (Nat.lt_of_lt_of_le ha (show 2 ^ 32 ≤ 2 ^ i from Nat.pow_le_pow_right (by decide) (by omega)))]
    rfl
theorem dN_le (a b : Nat) : dN a b ≤ a := Nat.and_le_left
theorem pow_lt {n : Nat} (h : n ≤ 8) : 2 ^ n ≤ 256 := Nat.pow_le_pow_right (by decide) h
theorem tb_ge {S n i : Nat} (hS : S < 2 ^ n) (h : n ≤ i) : S.testBit i = false := Nat.testBit_lt_two_pow (Nat.lt_of_lt_of_le hS (Nat.pow_le_pow_right (by decide) h))
theorem tb_lt {S n i : Nat} (hS : S < 2 ^ n) (h : S.testBit i = true) : i < n := by
  rcases Nat.lt_or_ge i n with q | q
  · exact q
  · rw [tb_ge hS q] at h; cases h
theorem eq_tb {S T n : Nat} (hS : S < 2 ^ n) (hT : T < 2 ^ n) (h : ∀ i, i < n → S.testBit i = T.testBit i) : S = T := Nat.eq_of_testBit_eq fun i => by
  rcases Nat.lt_or_ge i n with q | q
  · exact h i q
  · rw [tb_ge hS q, tb_ge hT q]
theorem lt_tb {S n : Nat} (h : ∀ i, n ≤ i → S.testBit i = false) : S < 2 ^ n := Nat.lt_pow_two_of_testBit S (fun i hi => h i hi)
theorem and_lt {a b n : Nat} (h : b < 2 ^ n) : a &&& b < 2 ^ n := Nat.lt_of_le_of_lt Nat.and_le_right h
theorem or_lt {a b n : Nat} (ha : a < 2 ^ n) (hb : b < 2 ^ n) : a ||| b < 2 ^ n := lt_tb fun i hi => by rw [Nat.testBit_or, tb_ge ha hi, tb_ge hb hi]; rfl
theorem dN_lt {a b n : Nat} (h : a < 2 ^ n) : dN a b < 2 ^ n := Nat.lt_of_le_of_lt (dN_le a b) h
theorem full_tb (n i : Nat) : (2 ^ n - 1).testBit i = decide (i < n) := Nat.testBit_two_pow_sub_one n i
theorem one_tb (c i : Nat) : (2 ^ c).testBit i = decide (c = i) := Nat.testBit_two_pow
theorem zero_of {S n : Nat} (hS : S < 2 ^ n) (h : ∀ i, i < n → ¬ S.testBit i = true) : S = 0 := eq_tb hS (Nat.two_pow_pos n) fun i hi => by
  rw [Nat.zero_testBit]
  exact Bool.eq_false_iff.mpr (h i hi)
theorem ne_zero {S : Nat} (h : S ≠ 0) : ∃ i, S.testBit i = true := Nat.exists_testBit_of_ne_zero h
/-- the set of those with a property -/
def fS (f : Nat → Bool) : Nat → Nat
  | 0 => 0
  | n + 1 => fS f n + (if f n = true then 2 ^ n else 0)
theorem fS_lt (f : Nat → Bool) : ∀ n, fS f n < 2 ^ n
  | 0 => by show 0 < 1; decide
  | n + 1 => by
    have h := fS_lt f n
    show fS f n + (if f n = true then 2 ^ n else 0) < 2 ^ (n + 1)
    rw [Nat.pow_succ]
    by_cases c : f n = true
    · rw [if_pos c]; omega
    · rw [if_neg c]; omega
theorem fS_tb (f : Nat → Bool) : ∀ {n i : Nat}, i < n → (fS f n).testBit i = f i
  | 0, _, h => absurd h (Nat.not_lt_zero _)
  | n + 1, i, h => by
    show (fS f n + (if f n = true then 2 ^ n else 0)).testBit i = f i
    have hl := fS_lt f n
    by_cases e : i = n
    · subst e
      by_cases c : f i = true
      · rw [if_pos c, Nat.add_comm, Nat.testBit_two_pow_add_eq, tb_ge hl (Nat.le_refl i), c]; rfl
      · rw [if_neg c, Nat.add_zero, tb_ge hl (Nat.le_refl i), Bool.eq_false_iff.mpr c]
    · have hi : i < n := by omega
      by_cases c : f n = true
      · rw [if_pos c, Nat.add_comm, Nat.testBit_two_pow_add_gt hi]; exact fS_tb f hi
      · rw [if_neg c, Nat.add_zero]; exact fS_tb f hi
/-- how many of a set -/
def cS (S n : Nat) : Int := sN (fun c => if S.testBit c = true then 1 else 0) n
theorem pc_cS (S : Nat) : ∀ n, pc S n = cS S n := fun n => by
  unfold pc wS cS
  refine sN_congr fun k _ => ?_
  rw [bt_tb]
  by_cases c : S.testBit k = true
  · rw [if_pos c, if_pos c]; rfl
  · rw [if_neg c, if_neg c]; rfl
theorem bitCount_cS (E : Ev) (M : Mm) {S n : Nat} (hn : n ≤ 12) (hS : S < 2 ^ n) : f_In_bitCount E M (S : Int) = some (cS S n) := by
  have hp := pow12 hn
  have e := pc_more hS (12 - n)
  rw [show n + (12 - n) = 12 by omega] at e
  rw [bitCount_eq E M (by omega), ← pc_cS, e]
theorem cS_bounds (S n : Nat) : 0 ≤ cS S n ∧ cS S n ≤ n := by rw [← pc_cS]; exact pc_bounds S n
theorem cS_zero (n : Nat) : cS 0 n = 0 := by
  unfold cS
  rw [sN_congr (g := fun _ => 0) (fun i _ => by rw [Nat.zero_testBit]; rfl), sN_zero]
theorem ifnn (p : Prop) [Decidable p] : (0 : Int) ≤ (if p then 1 else 0) := by
  by_cases c : p
  · rw [if_pos c]; decide
  · rw [if_neg c]; exact Int.le_refl 0
theorem cS_pos {S n : Nat} : 0 < cS S n ↔ ∃ c, c < n ∧ S.testBit c = true := by
  unfold cS
  rw [sN_pos (fun i _ => ifnn (S.testBit i = true))]
  constructor
  · rintro ⟨i, hi, h⟩
    refine ⟨i, hi, ?_⟩
    by_cases c : S.testBit i = true
    · exact c
    · have h : 0 < (if S.testBit i = true then (1 : Int) else 0) := h
      rw [if_neg c] at h; exact absurd h (by decide)
  · rintro ⟨i, hi, h⟩
    exact ⟨i, hi, by show 0 < (if S.testBit i = true then (1 : Int) else 0); rw [if_pos h]; decide⟩
/-- one less -/
theorem cS_del {S T n c : Nat} (hc : c < n) (hS : S.testBit c = true) (hT : T.testBit c = false) (h : ∀ i, i < n → i ≠ c → T.testBit i = S.testBit i) : cS S n = cS T n + 1 := by
  unfold cS
  refine sN_at (f := fun i => if T.testBit i = true then (1 : Int) else 0) (i := c) hc (fun k hk => ?_)
  by_cases e : k = c
  · rw [if_pos e, e, hS, hT]; rfl
  · rw [if_neg e, h k hk e]
theorem cS_le {S T n : Nat} (h : ∀ i, i < n → S.testBit i = true → T.testBit i = true) : cS S n ≤ cS T n := by
  unfold cS
  refine sN_le fun i hi => ?_
  by_cases c : S.testBit i = true
  · rw [if_pos c, if_pos (h i hi c)]; exact Int.le_refl 1
  · rw [if_neg c]
    by_cases d : T.testBit i = true
    · rw [if_pos d]; decide
    · rw [if_neg d]; exact Int.le_refl 0
theorem cS_congr {S T n : Nat} (h : ∀ i, i < n → S.testBit i = T.testBit i) : cS S n = cS T n := sN_congr fun i hi => by rw [h i hi]
theorem cS_full (n : Nat) : cS (2 ^ n - 1) n = (n : Int) := by
  unfold cS
  rw [sN_congr (g := fun _ => 1) (fun i hi => by rw [full_tb, decide_eq_true hi]; rfl)]
  induction n with
  | zero => rfl
  | succ n ih => rw [sN_succ, ih]; omega
/-- a set of one -/
theorem cS_one {S n : Nat} (hS : S < 2 ^ n) (h : cS S n = 1) : ∃ c, c < n ∧ S = 2 ^ c := by
  obtain ⟨c, hc, hb⟩ := cS_pos.mp (show 0 < cS S n by omega)
  have h2 := cS_del (S := S) (T := fS (fun j => S.testBit j && decide (j ≠ c)) n) hc hb (by rw [fS_tb _ hc, decide_eq_false (fun q => q rfl)]; exact Bool.and_false _) (fun j hj hne => by rw [fS_tb _ hj, decide_eq_true hne]; exact Bool.and_true _)
  have hz : ∀ j, j < n → j ≠ c → S.testBit j = false := fun j hj hne => Bool.eq_false_iff.mpr fun q => by
    have : 0 < cS (fS (fun j => S.testBit j && decide (j ≠ c)) n) n := cS_pos.mpr ⟨j, hj, by rw [fS_tb _ hj, q, decide_eq_true hne]; rfl⟩
    omega
  refine ⟨c, hc, eq_tb hS (Nat.pow_lt_pow_right (by decide) hc) fun i hi => ?_⟩
  rw [one_tb]
  by_cases e : c = i
  · rw [decide_eq_true e, ← e, hb]
  · rw [decide_eq_false e]; exact hz i hi (fun q => e q.symm)
theorem cS_single {c n : Nat} (hc : c < n) : cS (2 ^ c) n = 1 := by
  unfold cS
  rw [sN_one hc (fun i _ hne => by rw [one_tb, decide_eq_false (fun q => hne q.symm)]; rfl), one_tb, decide_eq_true rfl]
  rfl
theorem cS_below {c n : Nat} (hc : c ≤ n) : cS (2 ^ c - 1) n = (c : Int) := by
  obtain ⟨d, rfl⟩ := Nat.exists_eq_add_of_le hc
  have h := cS_full c
  rw [← pc_cS] at h ⊢
  rw [pc_more (by have := Nat.two_pow_pos c; omega)]
  exact h
/-! A KIND'S ROW -/
/-- the group g of the ranks R -/
def gS (R : Nat → Nat) (n g : Nat) : Nat := fS (fun c => decide (R c = g)) n
theorem gS_tb {R : Nat → Nat} {n g c : Nat} (hc : c < n) : (gS R n g).testBit c = decide (R c = g) := fS_tb _ hc
theorem gS_lt (R : Nat → Nat) (n g : Nat) : gS R n g < 2 ^ n := fS_lt _ n
/-- the row k of the box: G groups, ranks R (G behind all that is written), approved A -/
def Rk (M : Mm) (k n G : Nat) (R : Nat → Nat) (A : Nat) : Prop := M 7 k = (G : Int) ∧ M 6 k = (A : Int) ∧ G ≤ n ∧ A < 2 ^ n ∧ (∀ g, g < G → M (9 + k) g = ((gS R n g : Nat) : Int)) ∧ (∀ c, c < n → R c ≤ G) ∧ ∀ g, g < G → ∃ c, c < n ∧ R c = g
theorem Rk.of {M N : Mm} {k n G A : Nat} {R : Nat → Nat} (h : Rk M k n G R A) (h7 : N 7 k = M 7 k) (h6 : N 6 k = M 6 k) (h9 : N (9 + k) = M (9 + k)) : Rk N k n G R A := by
  unfold Rk
  rw [h7, h6, h9]
  exact h
/-- those of T in the first group that has any of T -/
def topP (R : Nat → Nat) (G n T c : Nat) : Prop := T.testBit c = true ∧ R c < G ∧ ∀ d, d < n → T.testBit d = true → R c ≤ R d
theorem topOf_ok {E : Ev} {M : Mm} {k n G A T : Nat} {R : Nat → Nat} (h : Rk M k n G R A) (hk : k < 31) (hn : n ≤ 8) (hT : T < 2 ^ n) : Ok (f_Bx_topOf E M (k : Int) (T : Int)) (fun r => ∃ S : Nat, r = (S : Int) ∧ S < 2 ^ n ∧ ∀ c, c < n → (S.testBit c = true ↔ topP R G n T c)) := by
  obtain ⟨h7, h6, hG, hA, h9, hR, hne⟩ := h
  have hp := pow_lt hn
  unfold f_Bx_topOf
  refine ok_bm (R := fun r => (r.1 = 1 ∧ ∃ S : Nat, r.2.2 = (S : Int) ∧ S < 2 ^ n ∧ ∀ c, c < n → (S.testBit c = true ↔ topP R G n T c)) ∨ (r.1 = 2 ∧ ∀ c, c < n → ¬ topP R G n T c)) ?_ ?_
  · refine L_Bx_topOf_2 E (k : Int) (T : Int) M (I := fun x => ∃ g : Nat, x = (g : Int) ∧ g ≤ G ∧ ∀ c, c < n → T.testBit c = true → g ≤ R c) (μ := fun x => G - x.toNat) ?_ FU 0 ⟨0, rfl, Nat.zero_le _, fun _ _ _ => Nat.zero_le _⟩ (by show G - _ < 5000; omega)
    rintro x ⟨g, rfl, hg, hlow⟩
    unfold Bx_topOf_2b
    rw [Int.toNat_natCast, Int.toNat_natCast, h7]
    refine ok_ck (inN hk (by decide)) (ok_ck (rgN (by omega)) (ok_ck (rgN (by omega)) (ok_if (fun c => ?_) (fun c => ?_))))
    · have e : g = G := by omega
      subst e
      exact ok_some (ok_out (by show (2 : Nat) ≠ 0; decide) (Or.inr ⟨rfl, fun c hc q => by have := hlow c hc q.1; have := q.2.1; omega⟩))
    · have hgG : g < G := by omega
      have gl := gS_lt R n g
      rw [h9 g hgG, andI_nat]
      refine ok_ck (inN (by omega) (by decide)) (ok_ck ⟨by omega, by omega⟩ (ok_ck ⟨by omega, by omega⟩ (ok_nb (ok_if (fun z => ?_) (fun z => ?_)))))
      · have z0 : gS R n g &&& T = 0 := by omega
        refine ok_some (ok_go rfl ⟨⟨g + 1, c1 g, by omega, fun c hc q => ?_⟩, cnt hgG⟩)
        have h1 := hlow c hc q
        rcases Nat.lt_or_ge g (R c) with w | w
        · exact w
        · exfalso
          have : (gS R n g &&& T).testBit c = true := by rw [Nat.testBit_and, gS_tb hc, decide_eq_true (show R c = g by omega), q]; rfl
          rw [z0, Nat.zero_testBit] at this; cases this
      · refine ok_some (ok_out ne0 (Or.inl ⟨rfl, _, rfl, and_lt hT, fun c hc => ?_⟩))
        obtain ⟨i, hi⟩ := ne_zero (show gS R n g &&& T ≠ 0 by omega)
        have hin : i < n := tb_lt (and_lt hT) hi
        rw [Nat.testBit_and, gS_tb hin, Bool.and_eq_true] at hi
        have ri : R i = g := of_decide_eq_true hi.1
        rw [Nat.testBit_and, gS_tb hc, Bool.and_eq_true]
        constructor
        · rintro ⟨q1, q2⟩
          have q1 := of_decide_eq_true q1
          exact ⟨q2, by omega, fun d hd q => by have := hlow d hd q; omega⟩
        · rintro ⟨q1, q2, q3⟩
          have := hlow c hc q1
          have := q3 i hin hi.2
          exact ⟨decide_eq_true (by omega), q1⟩
  · rintro ⟨t, x, y⟩ (⟨g, S, e, q⟩ | ⟨g, q⟩)
    · have g : t = 1 := g
      have e : y = (S : Int) := e
      subst g e
      exact ok_if (fun _ => ok_some ⟨S, rfl, q⟩) (fun w => absurd rfl w)
    · have g : t = 2 := g
      subst g
      refine ok_if (fun w => absurd w (by decide)) (fun _ => ok_if (fun _ => ok_some ⟨0, rfl, Nat.two_pow_pos n, fun c hc => ?_⟩) (fun w => absurd rfl w))
      rw [Nat.zero_testBit]
      exact ⟨fun w => (by cases w), fun w => absurd w (q c hc)⟩
/-- alone at the top among T -/
def sole (R : Nat → Nat) (G n T c : Nat) : Prop := T.testBit c = true ∧ R c < G ∧ ∀ d, d < n → d ≠ c → T.testBit d = true → R c < R d
theorem sole_top {R : Nat → Nat} {G n T c : Nat} (hc : c < n) : sole R G n T c ↔ topP R G n T c ∧ ∀ d, d < n → topP R G n T d → d = c := by
  constructor
  · rintro ⟨h1, h2, h3⟩
    refine ⟨⟨h1, h2, fun d hd q => ?_⟩, fun d hd q => ?_⟩
    · by_cases e : d = c
      · rw [e]; exact Nat.le_refl _
      · exact Nat.le_of_lt (h3 d hd e q)
    · refine Decidable.byContradiction fun e => ?_
      have := h3 d hd e q.1
      have := q.2.2 c hc h1
      omega
  · rintro ⟨⟨h1, h2, h3⟩, h4⟩
    refine ⟨h1, h2, fun d hd e q => ?_⟩
    have := h3 d hd q
    rcases Nat.lt_or_ge (R c) (R d) with w | w
    · exact w
    · exact absurd (h4 d hd ⟨q, by omega, fun e he qe => by have := h3 e he qe; omega⟩) e
theorem soleTop_ok {E : Ev} {M : Mm} {k n G A T : Nat} {R : Nat → Nat} (h : Rk M k n G R A) (hk : k < 31) (hn : n ≤ 8) (hT : T < 2 ^ n) : Ok (f_Bx_soleTopOf E M (k : Int) (T : Int)) (fun r => (r = -1 ∧ ∀ c, c < n → ¬ sole R G n T c) ∨ ∃ c : Nat, r = (c : Int) ∧ c < n ∧ sole R G n T c) := by
  have hp := pow_lt hn
  unfold f_Bx_soleTopOf
  refine ok_bm (topOf_ok h hk hn hT) ?_
  rintro r ⟨S, rfl, hS, hb⟩
  rw [bitCount_cS E M (by omega) hS]
  have bs := cS_bounds S n
  refine ok_sb (ok_ck ⟨by omega, by omega⟩ (ok_if (fun e => ?_) (fun e => ?_)))
  · obtain ⟨c, hc, rfl⟩ := cS_one hS e
    have hpc := Nat.two_pow_pos c
    have e1 : ((2 ^ c : Nat) : Int) - 1 = ((2 ^ c - 1 : Nat) : Int) := by omega
    rw [e1, bitCount_cS E M (n := n) (by omega) (by omega), cS_below (by omega)]
    refine ok_sb (ok_some (Or.inr ⟨c, rfl, hc, (sole_top hc).mpr ⟨(hb c hc).mp (by rw [one_tb, decide_eq_true rfl]), fun d hd q => ?_⟩⟩))
    have := (hb d hd).mpr q
    rw [one_tb] at this
    exact (of_decide_eq_true this).symm
  · refine ok_some (Or.inl ⟨rfl, fun c hc q => e ?_⟩)
    obtain ⟨q1, q2⟩ := (sole_top hc).mp q
    have : S = 2 ^ c := eq_tb hS (Nat.pow_lt_pow_right (by decide) hc) fun i hi => by
      rw [one_tb]
      by_cases w : c = i
      · rw [decide_eq_true w, ← w, (hb c hc).mpr q1]
      · rw [decide_eq_false w]
        exact Bool.eq_false_iff.mpr fun z => w (q2 i hi ((hb i hi).mp z)).symm
    rw [this, cS_single hc]
theorem rankOf_ok {E : Ev} {M : Mm} {k n G A c : Nat} {R : Nat → Nat} (h : Rk M k n G R A) (hk : k < 31) (hn : n ≤ 8) (hc : c < n) : Ok (f_Bx_rankOf E M (k : Int) (c : Int)) (fun r => r = (R c : Int)) := by
  obtain ⟨h7, h6, hG, hA, h9, hR, hne⟩ := h
  have hp := pow_lt hn
  unfold f_Bx_rankOf
  refine ok_bm (R := fun r => (r.1 = 1 ∧ r.2 = (R c : Int)) ∨ (r.1 = 2 ∧ R c = G)) ?_ ?_
  · refine L_Bx_rankOf_2 E (k : Int) (c : Int) M (I := fun x => ∃ g : Nat, x = (g : Int) ∧ g ≤ R c) (μ := fun x => G - x.toNat) ?_ FU 0 ⟨0, rfl, Nat.zero_le _⟩ (by show G - _ < 5000; omega)
    rintro x ⟨g, rfl, hg⟩
    have hRc := hR c hc
    unfold Bx_rankOf_2b
    rw [Int.toNat_natCast, Int.toNat_natCast, h7]
    refine ok_ck (inN hk (by decide)) (ok_ck (rgN (by omega)) (ok_ck (rgN (by omega)) (ok_if (fun q => ?_) (fun q => ?_))))
    · exact ok_some (ok_out (by show (2 : Nat) ≠ 0; decide) (Or.inr ⟨rfl, by omega⟩))
    · have gl := gS_lt R n g
      rw [h9 g (by omega), has_tb (by omega) (by omega), gS_tb hc]
      refine ok_ck (inN (by omega) (by decide)) (ok_sb ?_)
      by_cases e : R c = g
      · rw [decide_eq_true e, if_pos rfl]
        exact ok_ck (by decide) (ok_if (fun w => absurd w (by decide)) (fun _ => ok_some (ok_out ne0 (Or.inl ⟨rfl, by rw [e]⟩))))
      · rw [decide_eq_false e, if_neg (fun w => by cases w)]
        exact ok_ck (by decide) (ok_if (fun _ => ok_some (ok_go rfl ⟨⟨g + 1, c1 g, by omega⟩, cnt (by omega)⟩)) (fun w => absurd rfl w))
  · rintro ⟨t, x⟩ (⟨g, e⟩ | ⟨g, e⟩)
    · have g : t = 1 := g
      have e : x = (R c : Int) := e
      subst g e
      exact ok_if (fun _ => ok_some rfl) (fun w => absurd rfl w)
    · have g : t = 2 := g
      subst g
      rw [Int.toNat_natCast, h7]
      exact ok_if (fun w => absurd w (by decide)) (fun _ => ok_if (fun _ => ok_ck (inN hk (by decide)) (ok_some (by rw [e]))) (fun w => absurd rfl w))
