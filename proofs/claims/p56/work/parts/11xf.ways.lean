/-! WHO WINS BY PATHS; ALL WAYS -/
theorem bset_out {d : Nat → Nat → Int} {n S : Nat} {v : Int} (hb : bSet d n S) {y : Nat} (hy : y < n) (hyS : S.testBit y = true) : ∀ {k x : Nat}, x < n → S.testBit x = false → ¬ wA d n v (fun _ => False) k x y
  | 0, x, hx, h, w => by
    have w : x = y := w
    rw [w, hyS] at h; cases h
  | k + 1, x, hx, h, ⟨c, hc, _, hl, hw⟩ => by
    by_cases e : S.testBit c = true
    · have := hb c x hc hx e h
      have := hl.1
      omega
    · exact bset_out hb hy hyS hc (Bool.eq_false_iff.mpr e) hw
/-- none outside a beating set wins -/
theorem win_in {d P : Nat → Nat → Int} {n S : Nat} (h : PI d n n P) (hd : ∀ c o, c < n → o < n → 0 ≤ d c o) (hb : bSet d n S) {x y : Nat} (hx : x < n) (hy : y < n) (hxS : S.testBit x = true) (hyS : S.testBit y = false) : P y x = 0 ∧ 0 < P x y := by
  have hne : x ≠ y := fun e => by rw [e, hyS] at hxS; cases hxS
  refine ⟨?_, ?_⟩
  · have nn := (h.2.1 y x hy hx).2.1
    rcases Int.lt_or_le 0 (P y x) with w | w
    · obtain ⟨k, hk⟩ := (PI_char h w hy hx (fun e => hne e.symm)).mp (Int.le_refl _)
      exact absurd hk (bset_out hb hx hxS hy hyS)
    · omega
  · have l := hb x y hx hy hxS hyS
    have := (h.2.1 x y hx hy).1
    unfold p0 at this
    rw [if_pos l] at this
    have := hd y x hy hx
    omega
/-- better by paths goes on -/
theorem better_trans {d P : Nat → Nat → Int} {n : Nat} (h : PI d n n P) {a b c : Nat} (ha : a < n) (hb : b < n) (hc : c < n) (h1 : P b a < P a b) (h2 : P c b < P b c) : P c a < P a c := by
  have ab : a ≠ b := fun e => by rw [e] at h1; omega
  have bc : b ≠ c := fun e => by rw [e] at h2; omega
  have ac : a ≠ c := fun e => by rw [e] at h1; omega
  have e1 := h.2.2.2 b hb a c ha hc ac ab bc
  have e2 := h.2.2.2 c hc b a hb ha (fun q => ab q.symm) bc (fun q => ac q.symm)
  have e3 := h.2.2.2 a ha c b hc hb (fun q => bc q.symm) (fun q => ac q.symm) ab
  omega
theorem win_some {d P : Nat → Nat → Int} {n : Nat} (h : PI d n n P) (hn : 1 ≤ n) : ∃ c, c < n ∧ ∀ o, o < n → P o c ≤ P c o := by
  have key : ∀ m, m + 1 ≤ n → ∃ c, c < m + 1 ∧ ∀ o, o < m + 1 → P o c ≤ P c o := fun m => by
    induction m with
    | zero => intro _; exact ⟨0, by omega, fun o ho => by rw [show o = 0 by omega]; exact Int.le_refl _⟩
    | succ m ih =>
      intro hm
      obtain ⟨c, hc, hb⟩ := ih (by omega)
      by_cases w : P c (m + 1) < P (m + 1) c
      · refine ⟨m + 1, by omega, fun o ho => ?_⟩
        by_cases e : o = m + 1
        · rw [e]; exact Int.le_refl _
        · rcases Int.lt_or_le (P (m + 1) o) (P o (m + 1)) with q | q
          · have := better_trans h (by omega) (show m + 1 < n by omega) (by omega) q w
            have := hb o (by omega)
            omega
          · exact q
      · refine ⟨c, by omega, fun o ho => ?_⟩
        by_cases e : o = m + 1
        · rw [e]; omega
        · exact hb o (by omega)
  obtain ⟨m, rfl⟩ : ∃ m, n = m + 1 := ⟨n - 1, by omega⟩
  exact key m (Nat.le_refl _)
theorem one_bset {d : Nat → Nat → Int} {n x : Nat} (hx : x < n) : bAll d n x ↔ bSet d n (2 ^ x) := by
  constructor
  · intro h c o hc ho h1 h2
    rw [one_tb] at h1 h2
    have e := of_decide_eq_true h1
    rw [← e]
    exact h o ho (fun q => by rw [q, decide_eq_true rfl] at h2; cases h2)
  · intro h o ho hne
    exact h x o hx ho (by rw [one_tb, decide_eq_true rfl]) (by rw [one_tb, decide_eq_false (fun q => hne q.symm)])
/-- the smallest beating set of one who beats all -/
theorem small_one {d : Nat → Nat → Int} {n x S : Nat} (hx : x < n) (hb : bAll d n x) (h1 : 1 ≤ S) (hS : S < 2 ^ n) (hbS : bSet d n S) (hm : ∀ T, 1 ≤ T → T < 2 ^ n → bSet d n T → cS S n ≤ cS T n) : S = 2 ^ x := by
  have hp : 2 ^ x < 2 ^ n := Nat.pow_lt_pow_right (by decide) hx
  have hp0 := Nat.two_pow_pos x
  have le := hm (2 ^ x) hp0 hp ((one_bset hx).mp hb)
  rw [cS_single hx] at le
  obtain ⟨i, hi⟩ := ne_zero (show S ≠ 0 by omega)
  have pos : 0 < cS S n := cS_pos.mpr ⟨i, tb_lt hS hi, hi⟩
  obtain ⟨c, hc, rfl⟩ := cS_one hS (by omega)
  have b2 := (one_bset hc).mpr hbS
  by_cases e : c = x
  · rw [e]
  · have q1 := b2 x hx (fun q => e q.symm)
    have q2 := hb c hc e
    omega
/-- the winner by paths of one who beats all -/
theorem win_one {d P : Nat → Nat → Int} {n x W : Nat} (h : PI d n n P) (hd : ∀ c o, c < n → o < n → 0 ≤ d c o) (hx : x < n) (hb : bAll d n x) (hW : W < 2 ^ n) (hB : ∀ c, c < n → (W.testBit c = true ↔ ∀ o, o < n → P o c ≤ P c o)) : W = 2 ^ x := by
  have bs := (one_bset hx).mp hb
  have xb : (2 ^ x).testBit x = true := by rw [one_tb, decide_eq_true rfl]
  refine eq_tb hW (Nat.pow_lt_pow_right (by decide) hx) fun i hi => ?_
  rw [one_tb]
  by_cases e : x = i
  · rw [decide_eq_true e]
    refine (hB i hi).mpr fun o ho => ?_
    rw [← e]
    by_cases eo : o = x
    · rw [eo]; exact Int.le_refl _
    · have := win_in h hd bs hx ho xb (by rw [one_tb, decide_eq_false (fun q => eo q.symm)])
      omega
  · rw [decide_eq_false e]
    refine Bool.eq_false_iff.mpr fun w => ?_
    have := (hB i hi).mp w x hx
    have := win_in h hd bs hx hi xb (by rw [one_tb, decide_eq_false e])
    omega
/-- some winner is in each beating set -/
theorem win_set {d P : Nat → Nat → Int} {n S W : Nat} (h : PI d n n P) (hd : ∀ c o, c < n → o < n → 0 ≤ d c o) (hn : 1 ≤ n) (h1 : 1 ≤ S) (hS : S < 2 ^ n) (hbS : bSet d n S) (hB : ∀ c, c < n → (W.testBit c = true ↔ ∀ o, o < n → P o c ≤ P c o)) : ∃ c, c < n ∧ W.testBit c = true ∧ S.testBit c = true := by
  obtain ⟨c, hc, hw⟩ := win_some h hn
  refine ⟨c, hc, (hB c hc).mpr hw, ?_⟩
  obtain ⟨i, hi⟩ := ne_zero (show S ≠ 0 by omega)
  have hin := tb_lt hS hi
  by_cases e : S.testBit c = true
  · exact e
  · have := win_in h hd hbS hin hc hi (Bool.eq_false_iff.mpr e)
    have := hw i hin
    omega
/-! WAYS THAT COME NOWHERE TWICE -/
theorem wA_meet {d : Nat → Nat → Int} {n : Nat} {v : Int} {X : Nat → Prop} (z : Nat) : ∀ {k x y : Nat}, wA d n v X k x y → wA d n v (fun c => X c ∨ c = z) k x y ∨ ∃ j, j < k ∧ wA d n v X j z y
  | 0, _, _, h => Or.inl h
  | k + 1, x, y, ⟨c, a, b, e, h⟩ => by
    by_cases ec : c = z
    · exact Or.inr ⟨k, Nat.lt_succ_self k, by rw [← ec]; exact h⟩
    · rcases wA_meet z h with q | ⟨j, j1, j2⟩
      · exact Or.inl ⟨c, a, fun w => w.elim b ec, e, q⟩
      · exact Or.inr ⟨j, by omega, j2⟩
/-- a way needn't come back to its start -/
theorem wA_start {d : Nat → Nat → Int} {n : Nat} {v : Int} {X : Nat → Prop} {x y : Nat} : ∀ k, wA d n v X k x y → ∃ j, wA d n v (fun c => X c ∨ c = x) j x y := fun k => by
  induction k using Nat.strongRecOn with
  | ind k ih =>
    intro h
    rcases wA_meet x h with q | ⟨j, j1, j2⟩
    · exact ⟨k, q⟩
    · exact ih j j1 j2
/-- the grid of pairs that the law makes -/
def Gd (E : Ev) (M : Mm) (q n : Nat) (d : Nat → Nat → Int) : Prop := isQ 6 E q ∧ (tE E q).2 = n ∧ n ≤ 8 ∧ (∀ i, i < n → ∃ p, rE E q i = some p ∧ isIA E p ∧ (tE E p).2 = n ∧ ∀ j, j < n → M p j = d i j) ∧ ∀ c o, c < n → o < n → 0 ≤ d c o ∧ d c o ≤ 1000000
/-- by a way that comes, behind its start, nowhere in S -/
def wN (d : Nat → Nat → Int) (n : Nat) (v : Int) (S x y : Nat) : Prop := ∃ k, wA d n v (fun c => S.testBit c = true) (k + 1) x y
theorem wN_step {d : Nat → Nat → Int} {n : Nat} {v : Int} {S x y : Nat} (hn : n ≤ 8) (hS : S < 2 ^ n) : wN d n v S x y ↔ ∃ c, c < n ∧ S.testBit c = false ∧ lk d v x c ∧ (c = y ∨ wN d n v (S ||| 2 ^ c) c y) := by
  have or_eq : ∀ c i, ((S ||| 2 ^ c).testBit i = true ↔ S.testBit i = true ∨ i = c) := fun c i => by
    rw [Nat.testBit_or, one_tb, Bool.or_eq_true]
    exact ⟨fun h => h.imp id (fun q => (of_decide_eq_true q).symm), fun h => h.imp id (fun q => decide_eq_true q.symm)⟩
  constructor
  · rintro ⟨k, c, hc, hX, hl, hw⟩
    refine ⟨c, hc, Bool.eq_false_iff.mpr hX, hl, ?_⟩
    by_cases e : c = y
    · exact Or.inl e
    · right
      obtain ⟨j, hj⟩ := wA_start k hw
      match j, hj with
      | 0, h => exact absurd h e
      | j + 1, h => exact ⟨j, wA_more (fun i hi => (or_eq c i).mp hi) h⟩
  · rintro ⟨c, hc, hX, hl, e | ⟨k, hk⟩⟩
    · exact ⟨0, c, hc, fun q => absurd (hX.symm.trans q) (by decide), hl, e⟩
    · exact ⟨k + 1, c, hc, fun q => absurd (hX.symm.trans q) (by decide), hl, wA_more (fun i hi => (or_eq c i).mpr (Or.inl hi)) hk⟩
/-- r is the greatest strength of these ways -/
def WV (d : Nat → Nat → Int) (n S x y : Nat) (r : Int) : Prop := 0 ≤ r ∧ r ≤ 1000000 ∧ ∀ v, 1 ≤ v → (v ≤ r ↔ wN d n v S x y)
/-- the greatest strength so far, with first stops below m -/
def WF (d : Nat → Nat → Int) (n S x y m : Nat) (r : Int) : Prop := 0 ≤ r ∧ r ≤ 1000000 ∧ ∀ v, 1 ≤ v → (v ≤ r ↔ ∃ c, c < m ∧ S.testBit c = false ∧ lk d v x c ∧ (c = y ∨ wN d n v (S ||| 2 ^ c) c y))
theorem WF_end {d : Nat → Nat → Int} {n S x y : Nat} {r : Int} (hn : n ≤ 8) (hS : S < 2 ^ n) (h : WF d n S x y n r) : WV d n S x y r := ⟨h.1, h.2.1, fun v hv => (h.2.2 v hv).trans (wN_step hn hS).symm⟩
theorem WF_skip {d : Nat → Nat → Int} {n S x y m : Nat} {r : Int} (h : WF d n S x y m r) (hs : ∀ v, 1 ≤ v → S.testBit m = false → ¬ lk d v x m) : WF d n S x y (m + 1) r := ⟨h.1, h.2.1, fun v hv => (h.2.2 v hv).trans ⟨fun ⟨c, q, w⟩ => ⟨c, by omega, w⟩, fun ⟨c, q, w1, w2, w3⟩ => by
  by_cases e : c = m
  · rw [e] at w1 w2
    exact absurd w2 (hs v hv w1)
  · exact ⟨c, by omega, w1, w2, w3⟩⟩⟩
theorem WF_take {d : Nat → Nat → Int} {n S x y m : Nat} {r z : Int} (h : WF d n S x y m r) (hz0 : 0 ≤ z) (hz1 : z ≤ 1000000) (hm : S.testBit m = false) (hz : ∀ v, 1 ≤ v → (v ≤ z ↔ lk d v x m ∧ (m = y ∨ wN d n v (S ||| 2 ^ m) m y))) : WF d n S x y (m + 1) (max r z) := by
  obtain ⟨h1, h2, h3⟩ := h
  refine ⟨by omega, by omega, fun v hv => ?_⟩
  have e : v ≤ max r z ↔ v ≤ r ∨ v ≤ z := by omega
  rw [e, h3 v hv, hz v hv]
  constructor
  · rintro (⟨c, q, w⟩ | w)
    · exact ⟨c, by omega, w⟩
    · exact ⟨m, by omega, hm, w⟩
  · rintro ⟨c, q, w1, w2⟩
    by_cases e : c = m
    · rw [e] at w2
      exact Or.inr w2
    · exact Or.inl ⟨c, by omega, w1, w2⟩
theorem bit_odd {S k : Nat} : ((S : Int) / 2 ^ k) % 2 = 1 ↔ S.testBit k = true := by
  rw [bt_int, bt_tb]
  by_cases w : S.testBit k = true
  · rw [if_pos w]; exact ⟨fun _ => w, fun _ => rfl⟩
  · rw [if_neg w]; exact ⟨fun q => absurd q (by decide), fun q => absurd q w⟩
theorem way0_ok {E : Ev} {M : Mm} {q n S x y : Nat} {d : Nat → Nat → Int} (h : Gd E M q n d) (hS : S < 2 ^ n) (hx : x < n) (hy : y < n) (hyS : S.testBit y = false) (hc1 : (n : Int) - cS S n ≤ 1) : Ok (f_La_way_D0 E M q (x : Int) (y : Int) (S : Int)) (WV d n S x y) := by
  obtain ⟨hq, hql, h8, hrow, hd⟩ := h
  have hpw := pow_lt h8
  have only : ∀ c, c < n → S.testBit c = false → c = y := fun c hc hcS => by
    refine Decidable.byContradiction fun e => ?_
    have k1 := cS_del (S := S ||| 2 ^ c) (T := S) hc (by rw [Nat.testBit_or, one_tb, decide_eq_true rfl, Bool.or_true]) hcS (fun i _ hi => by rw [Nat.testBit_or, one_tb, decide_eq_false (fun w => hi w.symm), Bool.or_false])
    have k2 := cS_del (S := (S ||| 2 ^ c) ||| 2 ^ y) (T := S ||| 2 ^ c) hy (by rw [Nat.testBit_or, one_tb, decide_eq_true rfl, Bool.or_true]) (by rw [Nat.testBit_or, hyS, one_tb, decide_eq_false e]; rfl) (fun i _ hi => by rw [Nat.testBit_or (S ||| 2 ^ c) (2 ^ y), one_tb y, decide_eq_false (fun w => hi w.symm), Bool.or_false])
    have := (cS_bounds ((S ||| 2 ^ c) ||| 2 ^ y) n).2
    omega
  unfold f_La_way_D0
  refine ok_ck hq (ok_bm (R := fun r => r.1 = 2 ∧ WV d n S x y r.2.1) ?_ ?_)
  · refine L_La_way_D0_6 E q (x : Int) (y : Int) (S : Int) M (I := fun a b => ∃ c : Nat, b = (c : Int) ∧ c ≤ n ∧ WF d n S x y c a) (μ := fun _ b => n - b.toNat) ?_ FU 0 0 ⟨0, rfl, Nat.zero_le _, Int.le_refl 0, by decide, fun v hv => ⟨fun q => by omega, fun ⟨c, q, _⟩ => absurd q (Nat.not_lt_zero c)⟩⟩ (by show n - _ < 5000; omega)
    rintro a b ⟨c, rfl, hc, hW⟩
    unfold La_way_D0_6b
    rw [hql, Int.toNat_natCast, Int.toNat_natCast]
    refine ok_ck hq (ok_ck (rgN (by omega)) (ok_ck (rgN (by omega)) (ok_if (fun w => ?_) (fun w => ?_))))
    · have e : c = n := by omega
      rw [e] at hW
      exact ok_some (ok_out (by show (2 : Nat) ≠ 0; decide) ⟨rfl, WF_end h8 hS hW⟩)
    · have hcn : c < n := by omega
      refine ok_ck (rgN (by omega)) (ok_ck ⟨by omega, by omega⟩ (ok_if (fun z => ?_) (fun z => ?_)))
      · have zb := bit_odd.mp z
        exact ok_some (ok_go rfl ⟨⟨c + 1, c1 c, by omega, WF_skip hW (fun v _ w2 => by rw [zb] at w2; cases w2)⟩, cnt hcn⟩)
      · have zb : S.testBit c = false := Bool.eq_false_iff.mpr fun w2 => z (bit_odd.mpr w2)
        obtain ⟨p, e1, e2, e3, e4⟩ := hrow x hx
        obtain ⟨p', f1, f2, f3, f4⟩ := hrow c hcn
        have b1 := hd x c hx hcn
        have b2 := hd c x hcn hx
        rw [e1, f1]
        refine ok_ck (inN hx (by omega)) (ok_sb (ok_ck e2 (ok_ck (by rw [e3]; exact inN hcn (by omega)) (ok_ck (inN hcn (by omega)) (ok_sb (ok_ck f2 (ok_ck (by rw [f3]; exact inN hx (by omega)) ?_)))))))
        rw [e4 c hcn, f4 x hx]
        refine ok_ck ⟨by omega, by omega⟩ (ok_ck ⟨by omega, by omega⟩ (ok_if (fun l => ok_ck (rgN (by omega)) (ok_if (fun ey => ok_sb (ok_ck e2 (ok_ck (by rw [e3]; exact inN hcn (by omega)) ?_))) (fun ey => absurd (only c hcn zb) (fun w2 => ey (by rw [w2]))))) (fun l => ?_)))
        · have hW1 := hW.1
          have hW2 := hW.2.1
          rw [e4 c hcn]
          refine ok_ck ⟨by omega, by omega⟩ (ok_ck ⟨by omega, by omega⟩ (ok_some (ok_go rfl ⟨⟨c + 1, c1 c, by omega, WF_take hW b1.1 b1.2 zb (fun v hv => ⟨fun w2 => ⟨⟨l, w2⟩, Or.inl (by omega)⟩, fun w2 => w2.1.2⟩)⟩, cnt hcn⟩)))
        · exact ok_some (ok_go rfl ⟨⟨c + 1, c1 c, by omega, WF_skip hW (fun v _ _ w2 => l w2.1)⟩, cnt hcn⟩)
  · rintro ⟨t, a, b⟩ ⟨g1, g2⟩
    have g1 : t = 2 := g1
    subst g1
    exact ok_if (fun w => absurd w (by decide)) (fun _ => ok_if (fun _ => ok_some g2) (fun w => absurd rfl w))
theorem way1_ok {E : Ev} {M : Mm} {q n S x y : Nat} {d : Nat → Nat → Int} (h : Gd E M q n d) (hS : S < 2 ^ n) (hx : x < n) (hy : y < n) (hyS : S.testBit y = false) (hc1 : (n : Int) - cS S n ≤ 1 + 1) : Ok (f_La_way_D1 E M q (x : Int) (y : Int) (S : Int)) (WV d n S x y) := by
  have hG := h
  obtain ⟨hq, hql, h8, hrow, hd⟩ := h
  have hpw := pow_lt h8
  unfold f_La_way_D1
  refine ok_ck hq (ok_bm (R := fun r => r.1 = 1 ∧ WV d n S x y r.2.1) ?_ ?_)
  · refine L_La_way_D1_6 E q (x : Int) (y : Int) (S : Int) M (I := fun a b => ∃ c : Nat, b = (c : Int) ∧ c ≤ n ∧ WF d n S x y c a) (μ := fun _ b => n - b.toNat) ?_ FU 0 0 ⟨0, rfl, Nat.zero_le _, Int.le_refl 0, by decide, fun v hv => ⟨fun q => by omega, fun ⟨c, q, _⟩ => absurd q (Nat.not_lt_zero c)⟩⟩ (by show n - _ < 5000; omega)
    rintro a b ⟨c, rfl, hc, hW⟩
    have hW1 := hW.1
    have hW2 := hW.2.1
    unfold La_way_D1_6b
    rw [hql, Int.toNat_natCast, Int.toNat_natCast]
    refine ok_ck hq (ok_ck (rgN (by omega)) (ok_ck (rgN (by omega)) (ok_if (fun w => ?_) (fun w => ?_))))
    · have e : c = n := by omega
      rw [e] at hW
      exact ok_some (ok_out ne0 ⟨rfl, WF_end h8 hS hW⟩)
    · have hcn : c < n := by omega
      refine ok_ck (rgN (by omega)) (ok_ck ⟨by omega, by omega⟩ (ok_if (fun z => ?_) (fun z => ?_)))
      · have zb := bit_odd.mp z
        exact ok_some (ok_go rfl ⟨⟨c + 1, c1 c, by omega, WF_skip hW (fun v _ w2 => by rw [zb] at w2; cases w2)⟩, cnt hcn⟩)
      · have zb : S.testBit c = false := Bool.eq_false_iff.mpr fun w2 => z (bit_odd.mpr w2)
        obtain ⟨p, e1, e2, e3, e4⟩ := hrow x hx
        obtain ⟨p', f1, f2, f3, f4⟩ := hrow c hcn
        have b1 := hd x c hx hcn
        have b2 := hd c x hcn hx
        have hpc : 2 ^ c < 2 ^ n := Nat.pow_lt_pow_right (by decide) hcn
        have hpc0 := Nat.two_pow_pos c
        rw [e1, f1]
        refine ok_ck (inN hx (by omega)) (ok_sb (ok_ck e2 (ok_ck (by rw [e3]; exact inN hcn (by omega)) (ok_ck (inN hcn (by omega)) (ok_sb (ok_ck f2 (ok_ck (by rw [f3]; exact inN hx (by omega)) ?_)))))))
        rw [e4 c hcn, f4 x hx]
        refine ok_ck ⟨by omega, by omega⟩ (ok_ck ⟨by omega, by omega⟩ (ok_if (fun l => ok_ck (rgN (by omega)) (ok_if (fun ey => ok_sb (ok_ck e2 (ok_ck (by rw [e3]; exact inN hcn (by omega)) ?_))) (fun ey => ok_sb (ok_ck e2 (ok_ck (by rw [e3]; exact inN hcn (by omega)) ?_))))) (fun l => ?_)))
        · unfold La_way_D1_j78
          rw [e4 c hcn]
          exact ok_ck hq (ok_ck ⟨by omega, by omega⟩ (ok_ck ⟨by omega, by omega⟩ (ok_some (ok_go rfl ⟨⟨c + 1, c1 c, by omega, WF_take hW b1.1 b1.2 zb (fun v hv => ⟨fun w2 => ⟨⟨l, w2⟩, Or.inl (by omega)⟩, fun w2 => w2.1.2⟩)⟩, cnt hcn⟩))))
        · rw [p2, orI_nat, e4 c hcn]
          have hyc : (S ||| 2 ^ c).testBit y = false := by
            rw [Nat.testBit_or, hyS, one_tb, decide_eq_false (fun w2 : c = y => ey (by rw [w2]))]; rfl
          have k1 := cS_del (S := S ||| 2 ^ c) (T := S) hcn (by rw [Nat.testBit_or, one_tb, decide_eq_true rfl, Bool.or_true]) zb (fun i _ hi => by rw [Nat.testBit_or, one_tb, decide_eq_false (fun w => hi w.symm), Bool.or_false])
          refine ok_ck ⟨by omega, by omega⟩ (ok_ck ⟨by omega, by omega⟩ (ok_ck ⟨by omega, by omega⟩ (ok_bm (way0_ok hG (or_lt hS hpc) hcn hy hyc (by omega)) ?_)))
          rintro z2 ⟨z0, z1, zv⟩
          unfold La_way_D1_j78
          refine ok_ck ⟨by omega, by omega⟩ (ok_ck ⟨by omega, by omega⟩ (ok_ck hq (ok_ck ⟨by omega, by omega⟩ (ok_ck ⟨by omega, by omega⟩ (ok_some (ok_go rfl ⟨⟨c + 1, c1 c, by omega, WF_take hW (by omega) (by omega) zb (fun v hv => ?_)⟩, cnt hcn⟩))))))
          have e5 : v ≤ min (d x c) z2 ↔ v ≤ d x c ∧ v ≤ z2 := by omega
          rw [e5, zv v hv]
          exact ⟨fun w2 => ⟨⟨l, w2.1⟩, Or.inr w2.2⟩, fun w2 => ⟨w2.1.2, w2.2.elim (fun w3 => absurd (by rw [w3]) ey) id⟩⟩
        · exact ok_some (ok_go rfl ⟨⟨c + 1, c1 c, by omega, WF_skip hW (fun v _ _ w2 => l w2.1)⟩, cnt hcn⟩)
  · rintro ⟨t, a, b⟩ ⟨g1, g2⟩
    exact ok_ck g1 (ok_some g2)
theorem way2_ok {E : Ev} {M : Mm} {q n S x y : Nat} {d : Nat → Nat → Int} (h : Gd E M q n d) (hS : S < 2 ^ n) (hx : x < n) (hy : y < n) (hyS : S.testBit y = false) (hc1 : (n : Int) - cS S n ≤ 2 + 1) : Ok (f_La_way_D2 E M q (x : Int) (y : Int) (S : Int)) (WV d n S x y) := by
  have hG := h
  obtain ⟨hq, hql, h8, hrow, hd⟩ := h
  have hpw := pow_lt h8
  unfold f_La_way_D2
  refine ok_ck hq (ok_bm (R := fun r => r.1 = 1 ∧ WV d n S x y r.2.1) ?_ ?_)
  · refine L_La_way_D2_6 E q (x : Int) (y : Int) (S : Int) M (I := fun a b => ∃ c : Nat, b = (c : Int) ∧ c ≤ n ∧ WF d n S x y c a) (μ := fun _ b => n - b.toNat) ?_ FU 0 0 ⟨0, rfl, Nat.zero_le _, Int.le_refl 0, by decide, fun v hv => ⟨fun q => by omega, fun ⟨c, q, _⟩ => absurd q (Nat.not_lt_zero c)⟩⟩ (by show n - _ < 5000; omega)
    rintro a b ⟨c, rfl, hc, hW⟩
    have hW1 := hW.1
    have hW2 := hW.2.1
    unfold La_way_D2_6b
    rw [hql, Int.toNat_natCast, Int.toNat_natCast]
    refine ok_ck hq (ok_ck (rgN (by omega)) (ok_ck (rgN (by omega)) (ok_if (fun w => ?_) (fun w => ?_))))
    · have e : c = n := by omega
      rw [e] at hW
      exact ok_some (ok_out ne0 ⟨rfl, WF_end h8 hS hW⟩)
    · have hcn : c < n := by omega
      refine ok_ck (rgN (by omega)) (ok_ck ⟨by omega, by omega⟩ (ok_if (fun z => ?_) (fun z => ?_)))
      · have zb := bit_odd.mp z
        exact ok_some (ok_go rfl ⟨⟨c + 1, c1 c, by omega, WF_skip hW (fun v _ w2 => by rw [zb] at w2; cases w2)⟩, cnt hcn⟩)
      · have zb : S.testBit c = false := Bool.eq_false_iff.mpr fun w2 => z (bit_odd.mpr w2)
        obtain ⟨p, e1, e2, e3, e4⟩ := hrow x hx
        obtain ⟨p', f1, f2, f3, f4⟩ := hrow c hcn
        have b1 := hd x c hx hcn
        have b2 := hd c x hcn hx
        have hpc : 2 ^ c < 2 ^ n := Nat.pow_lt_pow_right (by decide) hcn
        have hpc0 := Nat.two_pow_pos c
        rw [e1, f1]
        refine ok_ck (inN hx (by omega)) (ok_sb (ok_ck e2 (ok_ck (by rw [e3]; exact inN hcn (by omega)) (ok_ck (inN hcn (by omega)) (ok_sb (ok_ck f2 (ok_ck (by rw [f3]; exact inN hx (by omega)) ?_)))))))
        rw [e4 c hcn, f4 x hx]
        refine ok_ck ⟨by omega, by omega⟩ (ok_ck ⟨by omega, by omega⟩ (ok_if (fun l => ok_ck (rgN (by omega)) (ok_if (fun ey => ok_sb (ok_ck e2 (ok_ck (by rw [e3]; exact inN hcn (by omega)) ?_))) (fun ey => ok_sb (ok_ck e2 (ok_ck (by rw [e3]; exact inN hcn (by omega)) ?_))))) (fun l => ?_)))
        · unfold La_way_D2_j78
          rw [e4 c hcn]
          exact ok_ck hq (ok_ck ⟨by omega, by omega⟩ (ok_ck ⟨by omega, by omega⟩ (ok_some (ok_go rfl ⟨⟨c + 1, c1 c, by omega, WF_take hW b1.1 b1.2 zb (fun v hv => ⟨fun w2 => ⟨⟨l, w2⟩, Or.inl (by omega)⟩, fun w2 => w2.1.2⟩)⟩, cnt hcn⟩))))
        · rw [p2, orI_nat, e4 c hcn]
          have hyc : (S ||| 2 ^ c).testBit y = false := by
            rw [Nat.testBit_or, hyS, one_tb, decide_eq_false (fun w2 : c = y => ey (by rw [w2]))]; rfl
          have k1 := cS_del (S := S ||| 2 ^ c) (T := S) hcn (by rw [Nat.testBit_or, one_tb, decide_eq_true rfl, Bool.or_true]) zb (fun i _ hi => by rw [Nat.testBit_or, one_tb, decide_eq_false (fun w => hi w.symm), Bool.or_false])
          refine ok_ck ⟨by omega, by omega⟩ (ok_ck ⟨by omega, by omega⟩ (ok_ck ⟨by omega, by omega⟩ (ok_bm (way1_ok hG (or_lt hS hpc) hcn hy hyc (by omega)) ?_)))
          rintro z2 ⟨z0, z1, zv⟩
          unfold La_way_D2_j78
          refine ok_ck ⟨by omega, by omega⟩ (ok_ck ⟨by omega, by omega⟩ (ok_ck hq (ok_ck ⟨by omega, by omega⟩ (ok_ck ⟨by omega, by omega⟩ (ok_some (ok_go rfl ⟨⟨c + 1, c1 c, by omega, WF_take hW (by omega) (by omega) zb (fun v hv => ?_)⟩, cnt hcn⟩))))))
          have e5 : v ≤ min (d x c) z2 ↔ v ≤ d x c ∧ v ≤ z2 := by omega
          rw [e5, zv v hv]
          exact ⟨fun w2 => ⟨⟨l, w2.1⟩, Or.inr w2.2⟩, fun w2 => ⟨w2.1.2, w2.2.elim (fun w3 => absurd (by rw [w3]) ey) id⟩⟩
        · exact ok_some (ok_go rfl ⟨⟨c + 1, c1 c, by omega, WF_skip hW (fun v _ _ w2 => l w2.1)⟩, cnt hcn⟩)
  · rintro ⟨t, a, b⟩ ⟨g1, g2⟩
    exact ok_ck g1 (ok_some g2)
theorem way3_ok {E : Ev} {M : Mm} {q n S x y : Nat} {d : Nat → Nat → Int} (h : Gd E M q n d) (hS : S < 2 ^ n) (hx : x < n) (hy : y < n) (hyS : S.testBit y = false) (hc1 : (n : Int) - cS S n ≤ 3 + 1) : Ok (f_La_way_D3 E M q (x : Int) (y : Int) (S : Int)) (WV d n S x y) := by
  have hG := h
  obtain ⟨hq, hql, h8, hrow, hd⟩ := h
  have hpw := pow_lt h8
  unfold f_La_way_D3
  refine ok_ck hq (ok_bm (R := fun r => r.1 = 1 ∧ WV d n S x y r.2.1) ?_ ?_)
  · refine L_La_way_D3_6 E q (x : Int) (y : Int) (S : Int) M (I := fun a b => ∃ c : Nat, b = (c : Int) ∧ c ≤ n ∧ WF d n S x y c a) (μ := fun _ b => n - b.toNat) ?_ FU 0 0 ⟨0, rfl, Nat.zero_le _, Int.le_refl 0, by decide, fun v hv => ⟨fun q => by omega, fun ⟨c, q, _⟩ => absurd q (Nat.not_lt_zero c)⟩⟩ (by show n - _ < 5000; omega)
    rintro a b ⟨c, rfl, hc, hW⟩
    have hW1 := hW.1
    have hW2 := hW.2.1
    unfold La_way_D3_6b
    rw [hql, Int.toNat_natCast, Int.toNat_natCast]
    refine ok_ck hq (ok_ck (rgN (by omega)) (ok_ck (rgN (by omega)) (ok_if (fun w => ?_) (fun w => ?_))))
    · have e : c = n := by omega
      rw [e] at hW
      exact ok_some (ok_out ne0 ⟨rfl, WF_end h8 hS hW⟩)
    · have hcn : c < n := by omega
      refine ok_ck (rgN (by omega)) (ok_ck ⟨by omega, by omega⟩ (ok_if (fun z => ?_) (fun z => ?_)))
      · have zb := bit_odd.mp z
        exact ok_some (ok_go rfl ⟨⟨c + 1, c1 c, by omega, WF_skip hW (fun v _ w2 => by rw [zb] at w2; cases w2)⟩, cnt hcn⟩)
      · have zb : S.testBit c = false := Bool.eq_false_iff.mpr fun w2 => z (bit_odd.mpr w2)
        obtain ⟨p, e1, e2, e3, e4⟩ := hrow x hx
        obtain ⟨p', f1, f2, f3, f4⟩ := hrow c hcn
        have b1 := hd x c hx hcn
        have b2 := hd c x hcn hx
        have hpc : 2 ^ c < 2 ^ n := Nat.pow_lt_pow_right (by decide) hcn
        have hpc0 := Nat.two_pow_pos c
        rw [e1, f1]
        refine ok_ck (inN hx (by omega)) (ok_sb (ok_ck e2 (ok_ck (by rw [e3]; exact inN hcn (by omega)) (ok_ck (inN hcn (by omega)) (ok_sb (ok_ck f2 (ok_ck (by rw [f3]; exact inN hx (by omega)) ?_)))))))
        rw [e4 c hcn, f4 x hx]
        refine ok_ck ⟨by omega, by omega⟩ (ok_ck ⟨by omega, by omega⟩ (ok_if (fun l => ok_ck (rgN (by omega)) (ok_if (fun ey => ok_sb (ok_ck e2 (ok_ck (by rw [e3]; exact inN hcn (by omega)) ?_))) (fun ey => ok_sb (ok_ck e2 (ok_ck (by rw [e3]; exact inN hcn (by omega)) ?_))))) (fun l => ?_)))
        · unfold La_way_D3_j78
          rw [e4 c hcn]
          exact ok_ck hq (ok_ck ⟨by omega, by omega⟩ (ok_ck ⟨by omega, by omega⟩ (ok_some (ok_go rfl ⟨⟨c + 1, c1 c, by omega, WF_take hW b1.1 b1.2 zb (fun v hv => ⟨fun w2 => ⟨⟨l, w2⟩, Or.inl (by omega)⟩, fun w2 => w2.1.2⟩)⟩, cnt hcn⟩))))
        · rw [p2, orI_nat, e4 c hcn]
          have hyc : (S ||| 2 ^ c).testBit y = false := by
            rw [Nat.testBit_or, hyS, one_tb, decide_eq_false (fun w2 : c = y => ey (by rw [w2]))]; rfl
          have k1 := cS_del (S := S ||| 2 ^ c) (T := S) hcn (by rw [Nat.testBit_or, one_tb, decide_eq_true rfl, Bool.or_true]) zb (fun i _ hi => by rw [Nat.testBit_or, one_tb, decide_eq_false (fun w => hi w.symm), Bool.or_false])
          refine ok_ck ⟨by omega, by omega⟩ (ok_ck ⟨by omega, by omega⟩ (ok_ck ⟨by omega, by omega⟩ (ok_bm (way2_ok hG (or_lt hS hpc) hcn hy hyc (by omega)) ?_)))
          rintro z2 ⟨z0, z1, zv⟩
          unfold La_way_D3_j78
          refine ok_ck ⟨by omega, by omega⟩ (ok_ck ⟨by omega, by omega⟩ (ok_ck hq (ok_ck ⟨by omega, by omega⟩ (ok_ck ⟨by omega, by omega⟩ (ok_some (ok_go rfl ⟨⟨c + 1, c1 c, by omega, WF_take hW (by omega) (by omega) zb (fun v hv => ?_)⟩, cnt hcn⟩))))))
          have e5 : v ≤ min (d x c) z2 ↔ v ≤ d x c ∧ v ≤ z2 := by omega
          rw [e5, zv v hv]
          exact ⟨fun w2 => ⟨⟨l, w2.1⟩, Or.inr w2.2⟩, fun w2 => ⟨w2.1.2, w2.2.elim (fun w3 => absurd (by rw [w3]) ey) id⟩⟩
        · exact ok_some (ok_go rfl ⟨⟨c + 1, c1 c, by omega, WF_skip hW (fun v _ _ w2 => l w2.1)⟩, cnt hcn⟩)
  · rintro ⟨t, a, b⟩ ⟨g1, g2⟩
    exact ok_ck g1 (ok_some g2)
/-- all ways from one to another tell the path -/
theorem way_path {d P : Nat → Nat → Int} {n x y : Nat} {r : Int} (h : PI d n n P) (hn : n ≤ 8) (hx : x < n) (hy : y < n) (hne : x ≠ y) (hr : WV d n (2 ^ x) x y r) : r = P x y := by
  obtain ⟨r0, r1, rv⟩ := hr
  have b := (h.2.1 x y hx hy).2
  have eqv : ∀ v, 1 ≤ v → (v ≤ r ↔ v ≤ P x y) := fun v hv => by
    rw [rv v hv, PI_char h (by omega) hx hy hne]
    constructor
    · rintro ⟨k, hk⟩
      exact ⟨k + 1, wA_more (fun c hc => hc.elim) hk⟩
    · rintro ⟨k, hk⟩
      obtain ⟨j, hj⟩ := wA_start k hk
      match j, hj with
      | 0, hj => exact absurd hj hne
      | j + 1, hj => exact ⟨j, wA_more (fun c hc => Or.inr (by rw [one_tb] at hc; exact (of_decide_eq_true hc).symm)) hj⟩
  rcases Int.lt_trichotomy r (P x y) with w | w | w
  · have := (eqv (P x y) (by omega)).mpr (Int.le_refl _); omega
  · exact w
  · have := (eqv r (by omega)).mp (Int.le_refl _); omega
