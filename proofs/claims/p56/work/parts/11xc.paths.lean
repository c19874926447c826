/-! PAIRS AND PATHS -/
def PD (M : Mm) (n : Nat) (d : Nat → Nat → Int) : Prop := M 2 2 = (n : Int) ∧ n ≤ 8 ∧ (∀ c o, c < n → o < n → M 45 (c * 8 + o) = d c o) ∧ ∀ c o, c < n → o < n → 0 ≤ d c o ∧ d c o ≤ 1000000
theorem PD.off {M N : Mm} {n : Nat} {d : Nat → Nat → Int} {S : Nat → Prop} (h : PD M n d) (ho : Off S M N) (h2 : ¬ S 2) (h45 : ¬ S 45) : PD N n d := by
  unfold PD
  rw [ho 2 h2, ho 45 h45]
  exact h
theorem ix8 (c o : Nat) : (c : Int) * 8 + (o : Int) = ((c * 8 + o : Nat) : Int) := by omega
theorem pair_eq {E : Ev} {M : Mm} {n c o : Nat} {d : Nat → Nat → Int} (h : PD M n d) (hc : c < n) (ho : o < n) : f_Po_pair E M (c : Int) (o : Int) = some (d c o) := by
  have h8 := h.2.1
  unfold f_Po_pair
  rw [ix8, ck_i (inN (by omega) (by decide)), Int.toNat_natCast, h.2.2.1 c o hc ho]
theorem beats_eq {E : Ev} {M : Mm} {n c o : Nat} {d : Nat → Nat → Int} (h : PD M n d) (hc : c < n) (ho : o < n) : f_Po_beats E M (c : Int) (o : Int) = some (if d o c < d c o then 1 else 0) := by
  have b1 := h.2.2.2 c o hc ho
  have b2 := h.2.2.2 o c ho hc
  unfold f_Po_beats
  rw [pair_eq h hc ho, pair_eq h ho hc]
  show ck (rgI (d c o)) (ck (rgI (d o c)) _) = _
  rw [ck_i ⟨by omega, by omega⟩, ck_i ⟨by omega, by omega⟩]
  by_cases w : d o c < d c o
  · rw [if_neg (by omega), if_pos w]
  · rw [if_pos (by omega), if_neg w]
/-- a link of at least this strength -/
def lk (d : Nat → Nat → Int) (v : Int) (x c : Nat) : Prop := d c x < d x c ∧ v ≤ d x c
/-- a way of k links that comes, behind its start, nowhere in X -/
def wA (d : Nat → Nat → Int) (n : Nat) (v : Int) (X : Nat → Prop) : Nat → Nat → Nat → Prop
  | 0, x, y => x = y
  | k + 1, x, y => ∃ c, c < n ∧ ¬ X c ∧ lk d v x c ∧ wA d n v X k c y
theorem wA_cat {d : Nat → Nat → Int} {n : Nat} {v : Int} {X : Nat → Prop} {k y z : Nat} (h2 : wA d n v X k y z) : ∀ {j x : Nat}, wA d n v X j x y → wA d n v X (j + k) x z
  | 0, x, h => by
    have h : x = y := h
    rw [h, Nat.zero_add]; exact h2
  | j + 1, x, ⟨c, a, b, e, h⟩ => by
    rw [show j + 1 + k = (j + k) + 1 by omega]
    exact ⟨c, a, b, e, wA_cat h2 h⟩
theorem wA_weak {d : Nat → Nat → Int} {n : Nat} {v w : Int} {X : Nat → Prop} (hv : w ≤ v) : ∀ {k x y : Nat}, wA d n v X k x y → wA d n w X k x y
  | 0, _, _, h => h
  | k + 1, _, _, ⟨c, a, b, e, h⟩ => ⟨c, a, b, ⟨e.1, Int.le_trans hv e.2⟩, wA_weak hv h⟩
theorem wA_more {d : Nat → Nat → Int} {n : Nat} {v : Int} {X Y : Nat → Prop} (hv : ∀ c, Y c → X c) : ∀ {k x y : Nat}, wA d n v X k x y → wA d n v Y k x y
  | 0, _, _, h => h
  | k + 1, _, _, ⟨c, a, b, e, h⟩ => ⟨c, a, fun q => b (hv c q), e, wA_more hv h⟩
/-- some way at all -/
def wW (d : Nat → Nat → Int) (n : Nat) (v : Int) (x y : Nat) : Prop := ∃ k, wA d n v (fun _ => False) k x y
def p0 (d : Nat → Nat → Int) (c o : Nat) : Int := if d o c < d c o then d c o else 0
/-- the paths when the first m middles are through -/
def PI (d : Nat → Nat → Int) (n m : Nat) (P : Nat → Nat → Int) : Prop := (∀ c, c < n → P c c = 0) ∧ (∀ c o, c < n → o < n → p0 d c o ≤ P c o ∧ 0 ≤ P c o ∧ P c o ≤ 1000000) ∧ (∀ c o, c < n → o < n → 0 < P c o → wW d n (P c o) c o) ∧ ∀ k, k < m → ∀ c o, c < n → o < n → c ≠ o → c ≠ k → k ≠ o → min (P c k) (P k o) ≤ P c o
theorem PI_start {d : Nat → Nat → Int} {n : Nat} (hd : ∀ c o, c < n → o < n → 0 ≤ d c o ∧ d c o ≤ 1000000) : PI d n 0 (p0 d) := by
  refine ⟨fun c hc => ?_, fun c o hc ho => ⟨Int.le_refl _, ?_⟩, fun c o hc ho q => ?_, fun k hk => absurd hk (Nat.not_lt_zero k)⟩
  · unfold p0
    rw [if_neg (Int.lt_irrefl _)]
  · have b := hd c o hc ho
    unfold p0
    by_cases w : d o c < d c o
    · rw [if_pos w]; exact b
    · rw [if_neg w]; decide
  · unfold p0 at q ⊢
    by_cases w : d o c < d c o
    · rw [if_pos w] at q ⊢
      exact ⟨1, o, ho, fun f => f, ⟨w, Int.le_refl _⟩, rfl⟩
    · rw [if_neg w] at q; exact absurd q (by decide)
/-- one middle more -/
def uPa (P : Nat → Nat → Int) (m c o : Nat) : Int := if c = m ∨ o = c then P c o else max (P c o) (min (P c m) (P m o))
theorem uPa_ge (P : Nat → Nat → Int) (m c o : Nat) : P c o ≤ uPa P m c o := by
  unfold uPa
  by_cases w : c = m ∨ o = c
  · rw [if_pos w]; exact Int.le_refl _
  · rw [if_neg w]; omega
theorem uPa_congr {P Q : Nat → Nat → Int} {m c b : Nat} (h1 : P c b = Q c b) (h2 : P c m = Q c m) (h3 : P m b = Q m b) : uPa P m c b = uPa Q m c b := by
  unfold uPa
  rw [h1, h2, h3]
theorem PI_step {d : Nat → Nat → Int} {n m : Nat} {P : Nat → Nat → Int} (hm : m < n) (h : PI d n m P) : PI d n (m + 1) (uPa P m) := by
  obtain ⟨h1, h2, h3, h4⟩ := h
  refine ⟨fun c hc => ?_, fun c o hc ho => ?_, fun c o hc ho q => ?_, fun k hk c o hc ho q1 q2 q3 => ?_⟩
  · unfold uPa
    rw [if_pos (Or.inr rfl)]; exact h1 c hc
  · have b := h2 c o hc ho
    have b1 := h2 c m hc hm
    have b2 := h2 m o hm ho
    unfold uPa
    by_cases w : c = m ∨ o = c
    · rw [if_pos w]; exact b
    · rw [if_neg w]
      refine ⟨by omega, by omega, by omega⟩
  · unfold uPa at q ⊢
    by_cases w : c = m ∨ o = c
    · rw [if_pos w] at q ⊢; exact h3 c o hc ho q
    · rw [if_neg w] at q ⊢
      rcases Int.le_total (min (P c m) (P m o)) (P c o) with z | z
      · rw [Int.max_eq_left z] at q ⊢
        exact h3 c o hc ho q
      · rw [Int.max_eq_right z] at q ⊢
        obtain ⟨i, hi⟩ := h3 c m hc hm (by omega)
        obtain ⟨j, hj⟩ := h3 m o hm ho (by omega)
        exact ⟨i + j, wA_cat (wA_weak (by omega) hj) (wA_weak (by omega) hi)⟩
  · -- the values at stake
    have b := h2 c o hc ho
    have nn := fun a b ha hb => (h2 a b ha hb).2.1
    have mm : ∀ x, x < n → uPa P m x m = P x m := fun x hx => by
      unfold uPa
      by_cases w : x = m ∨ m = x
      · rw [if_pos w]
      · rw [if_neg w, h1 m hm]
        have := nn x m hx hm
        omega
    have mr : ∀ x, uPa P m m x = P m x := fun x => by unfold uPa; rw [if_pos (Or.inl rfl)]
    by_cases ek : k = m
    · rw [ek, mm c hc, mr o]
      unfold uPa
      rw [if_neg (by omega)]
      omega
    · have hkm : k < m := by omega
      have hkn : k < n := by omega
      have iv : ∀ a b, a < n → b < n → a ≠ b → a ≠ k → k ≠ b → min (P a k) (P k b) ≤ P a b := fun a b => h4 k hkm a b
      -- each new value is an old one or goes by m
      have new : ∀ a b, a < n → b < n → a ≠ b → uPa P m a b = P a b ∨ (a ≠ m ∧ b ≠ m ∧ uPa P m a b = min (P a m) (P m b)) := fun a b ha hb hab => by
        by_cases am : a = m
        · left; rw [am]; exact mr b
        · by_cases bm : b = m
          · left; rw [bm]; exact mm a ha
          · unfold uPa
            rw [if_neg (by omega)]
            rcases Int.le_total (min (P a m) (P m b)) (P a b) with z | z
            · left; exact Int.max_eq_left z
            · right; exact ⟨am, bm, Int.max_eq_right z⟩
      have g := uPa_ge P m c o
      have gm : c ≠ m → o ≠ m → min (P c m) (P m o) ≤ uPa P m c o := fun cm om => by
        unfold uPa
        rw [if_neg (by omega)]
        omega
      have i0 := iv c o hc ho q1 q2 q3
      rcases new c k hc hkn q2 with e1 | ⟨a1, a2, e1⟩
      · rcases new k o hkn ho q3 with e2 | ⟨b1, b2, e2⟩
        · rw [e1, e2]; omega
        · rw [e1, e2]
          by_cases cm : c = m
          · rw [cm] at g ⊢
            rw [mr o] at g ⊢
            have := nn m k hm hkn
            omega
          · have := iv c m hc hm cm q2 b1
            have := gm cm b2
            omega
      · rcases new k o hkn ho q3 with e2 | ⟨b1, b2, e2⟩
        · rw [e1, e2]
          by_cases om : o = m
          · rw [om, mm c hc]; omega
          · have := iv m o hm ho (fun q => om q.symm) (fun q => a2 q.symm) q3
            have := gm a1 om
            omega
        · rw [e1, e2]
          have := gm a1 b2
          omega
/-- what the paths are -/
theorem PI_char {d : Nat → Nat → Int} {n : Nat} {P : Nat → Nat → Int} (h : PI d n n P) {v : Int} (hv : 0 < v) {c o : Nat} (hc : c < n) (ho : o < n) (hne : c ≠ o) : v ≤ P c o ↔ wW d n v c o := by
  obtain ⟨h1, h2, h3, h4⟩ := h
  constructor
  · intro q
    obtain ⟨k, hk⟩ := h3 c o hc ho (by omega)
    exact ⟨k, wA_weak q hk⟩
  · rintro ⟨k, hk⟩
    have key : ∀ k c, c < n → c ≠ o → wA d n v (fun _ => False) k c o → v ≤ P c o := fun k => by
      induction k with
      | zero => intro c _ hne h; exact absurd h hne
      | succ k ih =>
        rintro c hc hne ⟨x, hx, -, hl, hw⟩
        have hcx : c ≠ x := fun e => by
          have := hl.1
          rw [e] at this
          omega
        have e1 : v ≤ P c x := by
          have := (h2 c x hc hx).1
          unfold p0 at this
          rw [if_pos hl.1] at this
          have := hl.2
          omega
        by_cases xo : x = o
        · rw [← xo]; exact e1
        · have e2 := ih x hx xo hw
          have := h4 x hx c o hc ho hne hcx xo
          omega
    exact key k c hc hne hk
theorem PI_unique {d : Nat → Nat → Int} {n : Nat} {P Q : Nat → Nat → Int} (h : PI d n n P) (g : PI d n n Q) : ∀ c o, c < n → o < n → P c o = Q c o := fun c o hc ho => by
  by_cases e : c = o
  · rw [e, h.1 o ho, g.1 o ho]
  · have a := (h.2.1 c o hc ho).2.1
    have b := (g.2.1 c o hc ho).2.1
    have le : ∀ {P Q : Nat → Nat → Int}, PI d n n P → PI d n n Q → P c o ≤ Q c o := fun {P Q} h g => by
      rcases Int.lt_or_le 0 (P c o) with w | w
      · exact (PI_char g w hc ho e).mpr ((PI_char h w hc ho e).mp (Int.le_refl _))
      · have := (g.2.1 c o hc ho).2.1
        omega
    have := le h g
    have := le g h
    omega
/-- the row of paths -/
def PH (M : Mm) (n : Nat) (P : Nat → Nat → Int) : Prop := ∀ c o, c < n → o < n → M 47 (c * 8 + o) = P c o
theorem path_eq {E : Ev} {M : Mm} {n c o : Nat} {P : Nat → Nat → Int} (h : PH M n P) (hn : n ≤ 8) (hc : c < n) (ho : o < n) : f_Po_path E M (c : Int) (o : Int) = some (P c o) := by
  unfold f_Po_path
  rw [ix8, ck_i (inN (by omega) (by decide)), Int.toNat_natCast, h c o hc ho]
theorem u47 {M : Mm} {c o c' o' : Nat} {x : Int} (ho : o < 8) (ho' : o' < 8) : u2 M 47 (c * 8 + o) x 47 (c' * 8 + o') = if c' = c ∧ o' = o then x else M 47 (c' * 8 + o') := by
  rw [u2_if]
  by_cases w : c' = c ∧ o' = o
  · rw [if_pos w, if_pos ⟨rfl, by rw [w.1, w.2]⟩]
  · rw [if_neg w, if_neg (fun q => w (by omega))]
theorem paths15_ok {E : Ev} {M : Mm} {n c : Nat} {d : Nat → Nat → Int} (hL : Lay E) (h : PD M n d) (hc : c < n) : Ok (l_Po_findPaths_15 E (c : Int) FU M 0) (fun r => r.1 = 1 ∧ Off (fun i => i = 47) M r.2.2 ∧ ∀ c' o', c' < n → o' < n → r.2.2 47 (c' * 8 + o') = if c' = c then p0 d c' o' else M 47 (c' * 8 + o')) := by
  have h8 := h.2.1
  refine L_Po_findPaths_15 E (c : Int) (I := fun N x => ∃ o : Nat, x = (o : Int) ∧ o ≤ n ∧ Off (fun i => i = 47) M N ∧ ∀ c' o', c' < n → o' < n → N 47 (c' * 8 + o') = if c' = c ∧ o' < o then p0 d c' o' else M 47 (c' * 8 + o')) (μ := fun _ x => n - x.toNat) ?_ FU M 0 ⟨0, rfl, Nat.zero_le _, Off.refl, fun c' o' _ _ => by rw [if_neg (fun q => absurd q.2 (Nat.not_lt_zero _))]⟩ (by show n - _ < 5000; omega)
  rintro N x ⟨o, rfl, hon, hO, hN⟩
  have hPN : PD N n d := h.off hO (by decide) (by decide)
  unfold Po_findPaths_15b
  rw [hPN.1]
  refine ok_ck (rgN (by omega)) (ok_ck (rgN (by omega)) (ok_if (fun q => ?_) (fun q => ?_)))
  · have e : o = n := by omega
    subst e
    refine ok_some (ok_out ne0 ⟨rfl, hO, fun c' o' h1 h2 => ?_⟩)
    show N 47 _ = _
    rw [hN c' o' h1 h2]
    by_cases w : c' = c
    · rw [if_pos ⟨w, h2⟩, if_pos w]
    · rw [if_neg (fun z => w z.1), if_neg w]
  · have ho : o < n := by omega
    rw [beats_eq hPN hc ho]
    have fin : ∀ y : Int, y = p0 d c o → Ok (Po_findPaths_j55 E N (c : Int) (o : Int) y ((c : Int) * 8 + (o : Int)) 47) (fun r => (r.1 = 0 → (∃ o : Nat, r.2.1 = (o : Int) ∧ o ≤ n ∧ Off (fun i => i = 47) M r.2.2 ∧ ∀ c' o', c' < n → o' < n → r.2.2 47 (c' * 8 + o') = if c' = c ∧ o' < o then p0 d c' o' else M 47 (c' * 8 + o')) ∧ n - r.2.1.toNat < n - (o : Int).toNat) ∧ (r.1 ≠ 0 → r.1 = 1 ∧ Off (fun i => i = 47) M r.2.2 ∧ ∀ c' o', c' < n → o' < n → r.2.2 47 (c' * 8 + o') = if c' = c then p0 d c' o' else M 47 (c' * 8 + o'))) := fun y hy => by
      unfold Po_findPaths_j55
      rw [ix8, Int.toNat_natCast]
      refine ok_ck ⟨yi_47 hL, by rw [yt_47 hL]⟩ (ok_ck ⟨by omega, by rw [yt_47 hL]; show ((c * 8 + o : Nat) : Int) < 64; omega, by omega⟩ (ok_some (ok_go rfl ⟨⟨o + 1, c1 o, by omega, hO.u2 rfl, fun c' o' h1 h2 => ?_⟩, cnt ho⟩)))
      show u2 N 47 (c * 8 + o) y 47 (c' * 8 + o') = _
      rw [u47 (by omega) (by omega)]
      by_cases w : c' = c ∧ o' = o
      · rw [if_pos w, if_pos ⟨w.1, by omega⟩, w.1, w.2, hy]
      · rw [if_neg w, hN c' o' h1 h2]
        by_cases z : c' = c ∧ o' < o
        · rw [if_pos z, if_pos ⟨z.1, by omega⟩]
        · rw [if_neg z, if_neg (fun q => by omega)]
    refine ok_sb ?_
    by_cases w : d o c < d c o
    · rw [if_pos w]
      refine ok_ck (by decide) (ok_if (fun z => absurd z (by decide)) (fun _ => ?_))
      rw [pair_eq hPN hc ho]
      exact ok_sb (fin _ (by unfold p0; rw [if_pos w]))
    · rw [if_neg w]
      exact ok_ck (by decide) (ok_if (fun _ => fin 0 (by unfold p0; rw [if_neg w])) (fun z => absurd rfl z))
theorem paths2_ok {E : Ev} {M : Mm} {n : Nat} {d : Nat → Nat → Int} (hL : Lay E) (h : PD M n d) : Ok (l_Po_findPaths_2 E FU M 0) (fun r => r.1 = 1 ∧ Off (fun i => i = 47) M r.2.2 ∧ PH r.2.2 n (p0 d)) := by
  have h8 := h.2.1
  refine L_Po_findPaths_2 E (I := fun N x => ∃ c : Nat, x = (c : Int) ∧ c ≤ n ∧ Off (fun i => i = 47) M N ∧ ∀ c' o', c' < c → o' < n → N 47 (c' * 8 + o') = p0 d c' o') (μ := fun _ x => n - x.toNat) ?_ FU M 0 ⟨0, rfl, Nat.zero_le _, Off.refl, fun c' o' h => absurd h (Nat.not_lt_zero _)⟩ (by show n - _ < 5000; omega)
  rintro N x ⟨c, rfl, hc, hO, hN⟩
  have hPN : PD N n d := h.off hO (by decide) (by decide)
  unfold Po_findPaths_2b
  rw [hPN.1]
  refine ok_ck (rgN (by omega)) (ok_ck (rgN (by omega)) (ok_if (fun q => ?_) (fun q => ?_)))
  · have e : c = n := by omega
    subst e
    exact ok_some (ok_out ne0 ⟨rfl, hO, fun c' o' h1 h2 => hN c' o' h1 h2⟩)
  · refine ok_bm (paths15_ok hL hPN (by omega)) ?_
    rintro ⟨t, y, K⟩ ⟨g1, g2, g3⟩
    refine ok_ck g1 (ok_some (ok_go rfl ⟨⟨c + 1, c1 c, by omega, hO.trans g2, fun c' o' h1 h2 => ?_⟩, cnt (by omega)⟩))
    have g3 : K 47 (c' * 8 + o') = if c' = c then p0 d c' o' else N 47 (c' * 8 + o') := g3 c' o' (by omega) h2
    show K 47 _ = _
    rw [g3]
    by_cases w : c' = c
    · rw [if_pos w]
    · rw [if_neg w]; exact hN c' o' (by omega) h2
theorem widen_ok {E : Ev} {M : Mm} {n c m : Nat} {d P : Nat → Nat → Int} (h : PD M n d) (hP : PH M n P) (hb : ∀ c o, c < n → o < n → 0 ≤ P c o ∧ P c o ≤ 1000000) (hc : c < n) (hm : m < n) (hcm : c ≠ m) : Ok (f_Po_widenPaths E M (c : Int) (m : Int)) (fun N => Off (fun i => i = 47) M N ∧ ∀ c' o', c' < n → o' < n → N 47 (c' * 8 + o') = if c' = c then uPa P m c' o' else P c' o') := by
  have h8 := h.2.1
  have bm := hb c m hc hm
  unfold f_Po_widenPaths
  rw [path_eq hP h8 hc hm]
  refine ok_sb (ok_bm (R := fun r => r.1 = 1 ∧ Off (fun i => i = 47) M r.2.2 ∧ ∀ c' o', c' < n → o' < n → r.2.2 47 (c' * 8 + o') = if c' = c then uPa P m c' o' else P c' o') ?_ ?_)
  · refine L_Po_widenPaths_10 E (c : Int) (m : Int) (P c m) (I := fun N x => ∃ o : Nat, x = (o : Int) ∧ o ≤ n ∧ Off (fun i => i = 47) M N ∧ ∀ c' o', c' < n → o' < n → N 47 (c' * 8 + o') = if c' = c ∧ o' < o then uPa P m c' o' else P c' o') (μ := fun _ x => n - x.toNat) ?_ FU M 0 ⟨0, rfl, Nat.zero_le _, Off.refl, fun c' o' h1 h2 => by rw [if_neg (fun q => absurd q.2 (Nat.not_lt_zero _))]; exact hP c' o' h1 h2⟩ (by show n - _ < 5000; omega)
    rintro N x ⟨o, rfl, hon, hO, hN⟩
    have hPN : PD N n d := h.off hO (by decide) (by decide)
    unfold Po_widenPaths_10b
    rw [hPN.1]
    refine ok_ck (rgN (by omega)) (ok_ck (rgN (by omega)) (ok_if (fun q => ?_) (fun q => ?_)))
    · have e : o = n := by omega
      subst e
      refine ok_some (ok_out ne0 ⟨rfl, hO, fun c' o' h1 h2 => ?_⟩)
      show N 47 _ = _
      rw [hN c' o' h1 h2]
      by_cases w : c' = c
      · rw [if_pos ⟨w, h2⟩, if_pos w]
      · rw [if_neg (fun z => w z.1), if_neg w]
    · have ho : o < n := by omega
      have b1 := hb m o hm ho
      have b2 := hb c o hc ho
      have e1 : N 47 (m * 8 + o) = P m o := by rw [hN m o hm ho, if_neg (fun q => hcm q.1.symm)]
      have e2 : N 47 (c * 8 + o) = P c o := by rw [hN c o hc ho, if_neg (fun q => by omega)]
      -- nothing is written
      have skip : uPa P m c o = P c o → Ok (some (0, (o : Int) + 1, N) : Option (Nat × Int × Mm)) (fun r => (r.1 = 0 → (∃ o : Nat, r.2.1 = (o : Int) ∧ o ≤ n ∧ Off (fun i => i = 47) M r.2.2 ∧ ∀ c' o', c' < n → o' < n → r.2.2 47 (c' * 8 + o') = if c' = c ∧ o' < o then uPa P m c' o' else P c' o') ∧ n - r.2.1.toNat < n - (o : Int).toNat) ∧ (r.1 ≠ 0 → r.1 = 1 ∧ Off (fun i => i = 47) M r.2.2 ∧ ∀ c' o', c' < n → o' < n → r.2.2 47 (c' * 8 + o') = if c' = c then uPa P m c' o' else P c' o')) := fun eu => by
        refine ok_some (ok_go rfl ⟨⟨o + 1, c1 o, by omega, hO, fun c' o' h1 h2 => ?_⟩, cnt ho⟩)
        show N 47 _ = _
        rw [hN c' o' h1 h2]
        by_cases w : c' = c ∧ o' < o
        · rw [if_pos w, if_pos ⟨w.1, by omega⟩]
        · rw [if_neg w]
          by_cases z : c' = c ∧ o' = o
          · rw [if_pos ⟨z.1, by omega⟩, z.1, z.2, eu]
          · rw [if_neg (fun q => by omega)]
      unfold f_Po_path
      rw [ix8, ix8, ck_i (inN (show m * 8 + o < 64 by omega) (by decide)), Int.toNat_natCast, Int.toNat_natCast, e1]
      refine ok_sb (ok_ck ⟨by omega, by omega⟩ (ok_ck ⟨by omega, by omega⟩ (ok_ck (rgN (by omega)) (ok_if (fun q => ?_) (fun q => ?_)))))
      · exact skip (by unfold uPa; rw [if_pos (Or.inr (by omega))])
      · rw [ck_i (inN (show c * 8 + o < 64 by omega) (by decide)), e2]
        refine ok_sb (ok_ck ⟨by omega, by omega⟩ (ok_if (fun w => ?_) (fun w => ?_)))
        · refine skip ?_
          unfold uPa
          rw [if_neg (by omega)]
          omega
        · refine ok_ck (inN (by omega) (by decide)) (ok_some (ok_go rfl ⟨⟨o + 1, c1 o, by omega, hO.u2 rfl, fun c' o' h1 h2 => ?_⟩, cnt ho⟩))
          show u2 N 47 (c * 8 + o) (min (P c m) (P m o)) 47 (c' * 8 + o') = _
          rw [u47 (by omega) (by omega)]
          by_cases z : c' = c ∧ o' = o
          · rw [if_pos z, if_pos ⟨z.1, by omega⟩, z.1, z.2]
            unfold uPa
            rw [if_neg (by omega)]
            omega
          · rw [if_neg z, hN c' o' h1 h2]
            by_cases y : c' = c ∧ o' < o
            · rw [if_pos y, if_pos ⟨y.1, by omega⟩]
            · rw [if_neg y, if_neg (fun q => by omega)]
  · rintro ⟨t, x, N⟩ ⟨g1, g2⟩
    exact ok_ck g1 (ok_some g2)
/-- one phase -/
theorem paths83_ok {E : Ev} {M : Mm} {n m : Nat} {d P : Nat → Nat → Int} (h : PD M n d) (hP : PH M n P) (hI : PI d n m P) (hm : m < n) : Ok (l_Po_findPaths_83 E (m : Int) FU M 0) (fun r => r.1 = 1 ∧ Off (fun i => i = 47) M r.2.2 ∧ PH r.2.2 n (uPa P m)) := by
  have h8 := h.2.1
  have hb : ∀ c o, c < n → o < n → 0 ≤ P c o ∧ P c o ≤ 1000000 := fun c o hc ho => (hI.2.1 c o hc ho).2
  refine L_Po_findPaths_83 E (m : Int) (I := fun N x => ∃ c : Nat, x = (c : Int) ∧ c ≤ n ∧ Off (fun i => i = 47) M N ∧ PH N n (fun a b => if a < c then uPa P m a b else P a b)) (μ := fun _ x => n - x.toNat) ?_ FU M 0 ⟨0, rfl, Nat.zero_le _, Off.refl, fun c o h1 h2 => by show _ = if c < 0 then _ else _; rw [if_neg (Nat.not_lt_zero _)]; exact hP c o h1 h2⟩ (by show n - _ < 5000; omega)
  rintro N x ⟨c, rfl, hc, hO, hN⟩
  have hPN : PD N n d := h.off hO (by decide) (by decide)
  unfold Po_findPaths_83b
  rw [hPN.1]
  refine ok_ck (rgN (by omega)) (ok_ck (rgN (by omega)) (ok_if (fun q => ?_) (fun q => ?_)))
  · have e : c = n := by omega
    subst e
    refine ok_some (ok_out ne0 ⟨rfl, hO, fun a b h1 h2 => ?_⟩)
    have this : N 47 (a * 8 + b) = if a < c then uPa P m a b else P a b := hN a b h1 h2
    rw [if_pos h1] at this
    exact this
  · have hcn : c < n := by omega
    have skip : (∀ b, b < n → uPa P m c b = P c b) → PH N n (fun a b => if a < c + 1 then uPa P m a b else P a b) := fun eu a b h1 h2 => by
      rw [hN a b h1 h2]
      show (if a < c then uPa P m a b else P a b) = if a < c + 1 then uPa P m a b else P a b
      rcases Nat.lt_trichotomy a c with w | w | w
      · rw [if_pos w, if_pos (by omega)]
      · rw [if_neg (by omega), if_pos (by omega), w, eu b h2]
      · rw [if_neg (by omega), if_neg (by omega)]
    refine ok_ck (rgN (by omega)) (ok_if (fun q2 => ?_) (fun q2 => ?_))
    · refine ok_some (ok_go rfl ⟨⟨c + 1, c1 c, by omega, hO, skip (fun b _ => ?_)⟩, cnt hcn⟩)
      unfold uPa
      rw [if_pos (Or.inl (by omega))]
    · have hcm : c ≠ m := by omega
      rw [path_eq hN h8 hcn hm]
      have ev : (if c < c then uPa P m c m else P c m) = P c m := if_neg (Nat.lt_irrefl c)
      have b := hb c m hcn hm
      show Ok (ck (rgI (if c < c then uPa P m c m else P c m)) _) _
      rw [ev]
      refine ok_ck ⟨by omega, by omega⟩ (ok_if (fun w => ?_) (fun w => ?_))
      · refine ok_some (ok_go rfl ⟨⟨c + 1, c1 c, by omega, hO, skip (fun b hb2 => ?_)⟩, cnt hcn⟩)
        have := hb c b hcn hb2
        unfold uPa
        by_cases z : c = m ∨ b = c
        · rw [if_pos z]
        · rw [if_neg z]; omega
      · -- rows m and c are as at the phase's start
        refine ok_bm (widen_ok (P := fun a b => if a < c then uPa P m a b else P a b) hPN hN (fun a b ha hb2 => ?_) hcn hm hcm) ?_
        · have k := hb a b ha hb2
          have k1 := hb a m ha hm
          have k2 := hb m b hm hb2
          show 0 ≤ (if a < c then uPa P m a b else P a b) ∧ (if a < c then uPa P m a b else P a b) ≤ 1000000
          by_cases z : a < c
          · rw [if_pos z]
            unfold uPa
            by_cases y : a = m ∨ b = a
            · rw [if_pos y]; exact k
            · rw [if_neg y]; omega
          · rw [if_neg z]; exact k
        · rintro K ⟨g1, g2⟩
          refine ok_some (ok_go rfl ⟨⟨c + 1, c1 c, by omega, hO.trans g1, fun a b h1 h2 => ?_⟩, cnt hcn⟩)
          have mrow : (fun a b => if a < c then uPa P m a b else P a b) m b = P m b := by
            show (if m < c then uPa P m m b else P m b) = P m b
            by_cases z : m < c
            · rw [if_pos z]; unfold uPa; rw [if_pos (Or.inl rfl)]
            · rw [if_neg z]
          have crow : ∀ b, (fun a b => if a < c then uPa P m a b else P a b) c b = P c b := fun b => if_neg (Nat.lt_irrefl c)
          show K 47 (a * 8 + b) = if a < c + 1 then uPa P m a b else P a b
          rw [g2 a b h1 h2]
          by_cases z : a = c
          · rw [if_pos z, if_pos (by omega), z]
            exact uPa_congr (crow b) (crow m) mrow
          · rw [if_neg z]
            show (if a < c then uPa P m a b else P a b) = _
            by_cases y : a < c
            · rw [if_pos y, if_pos (by omega)]
            · rw [if_neg y, if_neg (by omega)]
theorem findPaths_ok {E : Ev} {M : Mm} {n : Nat} {d : Nat → Nat → Int} (hL : Lay E) (h : PD M n d) : Ok (f_Po_findPaths E M) (fun N => Off (fun i => i = 47) M N ∧ ∃ P, PI d n n P ∧ PH N n P) := by
  have h8 := h.2.1
  unfold f_Po_findPaths
  refine ok_bm (paths2_ok hL h) ?_
  rintro ⟨t, x, A⟩ ⟨g1, g2, g3⟩
  have g2 : Off (fun i => i = 47) M A := g2
  have g3 : PH A n (p0 d) := g3
  refine ok_ck g1 (ok_bm (R := fun r => r.1 = 1 ∧ Off (fun i => i = 47) M r.2.2 ∧ ∃ P, PI d n n P ∧ PH r.2.2 n P) ?_ ?_)
  · refine L_Po_findPaths_70 E (I := fun N x => ∃ m : Nat, x = (m : Int) ∧ m ≤ n ∧ Off (fun i => i = 47) M N ∧ ∃ P, PI d n m P ∧ PH N n P) (μ := fun _ x => n - x.toNat) ?_ FU A 0 ⟨0, rfl, Nat.zero_le _, g2, p0 d, PI_start h.2.2.2, g3⟩ (by show n - _ < 5000; omega)
    rintro N x ⟨m, rfl, hm, hO, P, hI, hH⟩
    have hPN : PD N n d := h.off hO (by decide) (by decide)
    unfold Po_findPaths_70b
    rw [hPN.1]
    refine ok_ck (rgN (by omega)) (ok_ck (rgN (by omega)) (ok_if (fun q => ?_) (fun q => ?_)))
    · have e : m = n := by omega
      subst e
      exact ok_some (ok_out ne0 ⟨rfl, hO, P, hI, hH⟩)
    · refine ok_bm (paths83_ok hPN hH hI (by omega)) ?_
      rintro ⟨t, y, K⟩ ⟨i1, i2, i3⟩
      exact ok_ck i1 (ok_some (ok_go rfl ⟨⟨m + 1, c1 m, by omega, hO.trans i2, uPa P m, PI_step (by omega) hI, i3⟩, cnt (by omega)⟩))
  · rintro ⟨t, x, N⟩ ⟨i1, i2⟩
    exact ok_ck i1 (ok_some i2)
/-- who is behind nobody -/
theorem winners_ok {E : Ev} {M : Mm} {n : Nat} {d : Nat → Nat → Int} (hL : Lay E) (h : PD M n d) (hp : M 41 1 = ((2 ^ n - 1 : Nat) : Int)) : Ok (f_Po_winnersByPaths E M) (fun r => Off (fun i => i = 47) M r.2 ∧ ∃ P, PI d n n P ∧ PH r.2 n P ∧ ∃ W : Nat, r.1 = (W : Int) ∧ W < 2 ^ n ∧ ∀ c, c < n → (W.testBit c = true ↔ ∀ o, o < n → P o c ≤ P c o)) := by
  have h8 := h.2.1
  have hpw := pow_lt h8
  have hp1 := Nat.two_pow_pos n
  unfold f_Po_winnersByPaths
  refine ok_bm (findPaths_ok hL h) ?_
  rintro A ⟨a1, P, hI, hH⟩
  have hPA : PD A n d := h.off a1 (by decide) (by decide)
  have hb : ∀ c o, c < n → o < n → 0 ≤ P c o ∧ P c o ≤ 1000000 := fun c o hc ho => (hI.2.1 c o hc ho).2
  rw [a1 41 (by decide), hp]
  refine ok_bm (R := fun r => r.1 = 1 ∧ r.2.2.2 = A ∧ ∃ W : Nat, r.2.1 = (W : Int) ∧ W < 2 ^ n ∧ ∀ c, c < n → (W.testBit c = true ↔ ∀ o, o < n → P o c ≤ P c o)) ?_ ?_
  · refine L_Po_winnersByPaths_11 E (I := fun N x y => N = A ∧ ∃ c W : Nat, y = (c : Int) ∧ c ≤ n ∧ x = (W : Int) ∧ W < 2 ^ n ∧ ∀ b, b < n → (W.testBit b = true ↔ (b < c → ∀ o, o < n → P o b ≤ P b o))) (μ := fun _ _ x => n - x.toNat) ?_ FU A ((2 ^ n - 1 : Nat) : Int) 0 ⟨rfl, 0, 2 ^ n - 1, rfl, Nat.zero_le _, rfl, by omega, fun b hb => by rw [full_tb]; exact ⟨fun _ q => absurd q (Nat.not_lt_zero _), fun _ => decide_eq_true hb⟩⟩ (by show n - _ < 5000; omega)
    rintro N x y ⟨rfl, c, W, rfl, hc, rfl, hW, hB⟩
    unfold Po_winnersByPaths_11b
    rw [hPA.1]
    refine ok_ck (rgN (by omega)) (ok_ck (rgN (by omega)) (ok_if (fun q => ?_) (fun q => ?_)))
    · have e : c = n := by omega
      subst e
      exact ok_some (ok_out ne0 ⟨rfl, rfl, W, rfl, hW, fun b hb => (hB b hb).trans ⟨fun z => z hb, fun z _ => z⟩⟩)
    · have hcn : c < n := by omega
      refine ok_bm (R := fun r => r.1 = 1 ∧ r.2.2.2 = N ∧ ∃ W : Nat, r.2.1 = (W : Int) ∧ W < 2 ^ n ∧ ∀ b, b < n → (W.testBit b = true ↔ (b < c + 1 → ∀ o, o < n → P o b ≤ P b o))) ?_ ?_
      · refine L_Po_winnersByPaths_24 E (c : Int) (I := fun K x y => K = N ∧ ∃ k V : Nat, y = (k : Int) ∧ k ≤ n ∧ x = (V : Int) ∧ V < 2 ^ n ∧ ∀ b, b < n → (V.testBit b = true ↔ (b < c → ∀ o, o < n → P o b ≤ P b o) ∧ (b = c → ∀ o, o < k → P o b ≤ P b o))) (μ := fun _ _ x => n - x.toNat) ?_ FU N (W : Int) 0 ⟨rfl, 0, W, rfl, Nat.zero_le _, rfl, hW, fun b hb => (hB b hb).trans ⟨fun z => ⟨z, fun _ o ho => absurd ho (Nat.not_lt_zero o)⟩, fun z => z.1⟩⟩ (by show n - _ < 5000; omega)
        rintro K x y ⟨rfl, k, V, rfl, hk, rfl, hV, hVB⟩
        unfold Po_winnersByPaths_24b
        rw [hPA.1]
        refine ok_ck (rgN (by omega)) (ok_ck (rgN (by omega)) (ok_if (fun q => ?_) (fun q => ?_)))
        · have e : k = n := by omega
          subst e
          refine ok_some (ok_out ne0 ⟨rfl, rfl, V, rfl, hV, fun b hb => (hVB b hb).trans ⟨fun z hb2 => ?_, fun z => ⟨fun w => z (by omega), fun w => z (by omega)⟩⟩⟩)
          by_cases w : b = c
          · exact z.2 w
          · exact z.1 (by omega)
        · have hkn : k < n := by omega
          have x1 := hb k c hkn hcn
          have x2 := hb c k hcn hkn
          rw [path_eq hH h8 hkn hcn, path_eq hH h8 hcn hkn]
          refine ok_sb (ok_sb (ok_ck ⟨by omega, by omega⟩ (ok_ck ⟨by omega, by omega⟩ (ok_if (fun w => ?_) (fun w => ?_)))))
          · refine ok_some (ok_go rfl ⟨⟨rfl, k + 1, V, c1 k, by omega, rfl, hV, fun b hb => (hVB b hb).trans ⟨fun z => ⟨z.1, fun eb o ho => ?_⟩, fun z => ⟨z.1, fun eb o ho => z.2 eb o (by omega)⟩⟩⟩, cnt hkn⟩)
            by_cases e : o = k
            · rw [e, eb]; exact w
            · exact z.2 eb o (by omega)
          · rw [p2, Int.toNat_natCast] at *
            have hpc : 2 ^ c < 2 ^ n := Nat.pow_lt_pow_right (by decide) hcn
            have hpc0 := Nat.two_pow_pos c
            rw [dfI_nat]
            refine ok_ck ⟨by omega, by omega⟩ (ok_ck ⟨by omega, by omega⟩ (ok_ck ⟨by omega, by omega⟩ (ok_some (ok_go rfl ⟨⟨rfl, k + 1, dN V (2 ^ c), c1 k, by omega, rfl, dN_lt hV, fun b hb => ?_⟩, cnt hkn⟩))))
            rw [dN_tb (by omega) (by omega), Bool.and_eq_true, hVB b hb, one_tb]
            by_cases e : c = b
            · rw [decide_eq_true e]
              refine ⟨fun z => (by cases z.2), fun z => ?_⟩
              have := z.2 e.symm k (by omega)
              rw [← e] at this
              omega
            · rw [decide_eq_false e]
              exact ⟨fun z => ⟨z.1.1, fun eb => absurd eb.symm e⟩, fun z => ⟨⟨z.1, fun eb => absurd eb.symm e⟩, rfl⟩⟩
      · rintro ⟨t, x, y, K⟩ ⟨i1, i2r, V, i3, i4, i5⟩
        have i2 : K = N := i2r
        have i3' : x = (V : Int) := i3
        subst i2 i3'
        exact ok_ck i1 (ok_some (ok_go rfl ⟨⟨rfl, c + 1, V, c1 c, by omega, rfl, i4, i5⟩, cnt hcn⟩))
  · rintro ⟨t, x, y, K⟩ ⟨i1, i2r, W, i3r, i4, i5⟩
    have i2 : K = A := i2r
    have i3 : x = (W : Int) := i3r
    subst i2 i3
    exact ok_ck i1 (ok_some ⟨a1, P, hI, hH, W, rfl, i4, i5⟩)
