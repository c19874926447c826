/-! THE COUNCIL: swings, orders turned, together all orders -/
def swN (w : Nat → Int) (q : Int) (n m : Nat) : Int := sN (fun S => if swg w q n S m then 1 else 0) (2 ^ n)
def gF (n : Nat) (k : Int) : Int := facF k.toNat * facF ((n : Int) - 1 - k).toNat
def otN (w : Nat → Int) (q : Int) (n m : Nat) : Int := sN (fun S => if swg w q n S m then gF n (pc S n) else 0) (2 ^ n)
def sums (M : Mm) (w : Nat → Int) (n : Nat) : Prop := ∀ S, S < 2 ^ n → M 245 S = wS w S n
theorem ok_setsSwung {E : Ev} {M : Mm} {n m : Nat} {w : Nat → Int} {q : Int} (hn : n ≤ 12) (hm : m < n) (h : M 243 0 = (n : Int)) (h0 : M 243 1 = q) (h1 : M 244 m = w m) (h2 : sums M w n) (hq : rgI q) (hw : ∀ k, k < n → 0 ≤ w k ∧ w k ≤ 1000) : Ok (f_Cl_setsSwungBy E M (m : Int)) (fun r => r = swN w q n m) := by
  have hP := pow12 hn
  have hwm := hw m hm
  unfold f_Cl_setsSwungBy
  refine ok_bm (L_Cl_setsSwungBy_4 E (m : Int) M (I := fun x2 x3 => ∃ j : Nat, x3 = (j : Int) ∧ j ≤ 2 ^ n ∧ x2 = sN (fun S => if swg w q n S m then 1 else 0) j) (μ := fun _ x => 2 ^ n - x.toNat) (Q := fun r => r.1 = 1 ∧ r.2.1 = swN w q n m) ?_ FU 0 0 ⟨0, rfl, Nat.zero_le _, rfl⟩ (by show 2 ^ n - _ < 5000; omega)) ?_
  · rintro x2 x3 ⟨j, rfl, hj, hx⟩
    unfold Cl_setsSwungBy_4b
    rw [h, Int.toNat_natCast, p2]
    refine ok_ck ⟨by omega, by omega⟩ (ok_ck (rgI_nat (by omega)) (ok_ck (rgI_nat (by omega)) (ok_if (fun c => ?_) (fun c => ?_))))
    · have e : j = 2 ^ n := by omega
      rw [e] at hx
      exact ok_some (ok_out (by show (1 : Nat) ≠ 0; decide) ⟨rfl, hx⟩)
    · have hjl : j < 2 ^ n := by omega
      have hb := wS_bounds j hw
      rw [isSwung_eq hn hjl hm h0 h1 (h2 j hjl) hq hb.1 (by omega) hwm.1 (by omega)]
      refine ok_sb ?_
      by_cases g : swg w q n j m
      · rw [if_pos g]
        refine ok_ck (by decide) (ok_if (fun c => absurd c (by decide)) (fun _ => ok_some (ok_go rfl ⟨⟨j + 1, by show (j : Int) + 1 = _; omega, by omega, ?_⟩, by show 2 ^ n - ((j : Int) + 1).toNat < 2 ^ n - (j : Int).toNat; omega⟩)))
        show x2 + 1 = _
        rw [sN_succ, ← hx, if_pos g]
      · rw [if_neg g]
        refine ok_ck (by decide) (ok_if (fun _ => ok_some (ok_go rfl ⟨⟨j + 1, by show (j : Int) + 1 = _; omega, by omega, ?_⟩, by show 2 ^ n - ((j : Int) + 1).toNat < 2 ^ n - (j : Int).toNat; omega⟩)) (fun c => absurd rfl c))
        show x2 = _
        rw [sN_succ, ← hx, if_neg g]
        omega
  · rintro ⟨t, x, y⟩ ⟨g0, g⟩
    exact ok_ck g0 (ok_some g)
theorem pc_with {S m n : Nat} (hm : m < n) (hS : S < 2 ^ n) (h : bt S m = 0) : pc (2 ^ m + S) n = pc S n + 1 := wS_with _ hm hS h
theorem pc_lt {S m n : Nat} (hm : m < n) (hS : S < 2 ^ n) (h : bt S m = 0) : pc S n ≤ (n : Int) - 1 := by
  have h1 := pc_with hm hS h
  have h2 := (pc_bounds (2 ^ m + S) n).2
  omega
theorem pc12 {S n : Nat} (hn : n ≤ 12) (hS : S < 2 ^ n) : pc S 12 = pc S n := by
  have := pc_more hS (12 - n)
  rw [show n + (12 - n) = 12 by omega] at this
  exact this
theorem ok_orders {E : Ev} {M : Mm} {n m : Nat} {w : Nat → Int} {q : Int} (hn : n ≤ 12) (hm : m < n) (h : M 243 0 = (n : Int)) (h0 : M 243 1 = q) (h1 : M 244 m = w m) (h2 : sums M w n) (hq : rgI q) (hw : ∀ k, k < n → 0 ≤ w k ∧ w k ≤ 1000) : Ok (f_Cl_ordersTurnedBy E M (m : Int)) (fun r => r = otN w q n m) := by
  have hP := pow12 hn
  have hwm := hw m hm
  unfold f_Cl_ordersTurnedBy
  refine ok_bm (L_Cl_ordersTurnedBy_5 E (m : Int) M (I := fun x2 x3 => ∃ j : Nat, x3 = (j : Int) ∧ j ≤ 2 ^ n ∧ x2 = sN (fun S => if swg w q n S m then gF n (pc S n) else 0) j) (μ := fun _ x => 2 ^ n - x.toNat) (Q := fun r => r.1 = 1 ∧ r.2.1 = otN w q n m) ?_ FU 0 0 ⟨0, rfl, Nat.zero_le _, rfl⟩ (by show 2 ^ n - _ < 5000; omega)) ?_
  · rintro x2 x3 ⟨j, rfl, hj, hx⟩
    unfold Cl_ordersTurnedBy_5b
    rw [h, Int.toNat_natCast, p2]
    refine ok_ck ⟨by omega, by omega⟩ (ok_ck (rgI_nat (by omega)) (ok_ck (rgI_nat (by omega)) (ok_if (fun c => ?_) (fun c => ?_))))
    · have e : j = 2 ^ n := by omega
      rw [e] at hx
      exact ok_some (ok_out (by show (1 : Nat) ≠ 0; decide) ⟨rfl, hx⟩)
    · have hjl : j < 2 ^ n := by omega
      have hb := wS_bounds j hw
      rw [isSwung_eq hn hjl hm h0 h1 (h2 j hjl) hq hb.1 (by omega) hwm.1 (by omega)]
      refine ok_sb ?_
      by_cases g : swg w q n j m
      · rw [if_pos g]
        refine ok_ck (by decide) (ok_if (fun c => absurd c (by decide)) (fun _ => ?_))
        rw [bitCount_eq E M (by omega), pc12 hn hjl]
        have b1 := pc_bounds j n
        have b2 := pc_lt hm hjl g.2.2
        refine ok_sb (ok_ck ⟨by omega, by omega, by omega⟩ (ok_ck ⟨by omega, by omega, by omega⟩ (ok_nb (ok_some (ok_go rfl ⟨⟨j + 1, by show (j : Int) + 1 = _; omega, by omega, ?_⟩, by show 2 ^ n - ((j : Int) + 1).toNat < 2 ^ n - (j : Int).toNat; omega⟩)))))
        show x2 + _ = _
        rw [sN_succ, ← hx, if_pos g]
        rfl
      · rw [if_neg g]
        refine ok_ck (by decide) (ok_if (fun _ => ok_some (ok_go rfl ⟨⟨j + 1, by show (j : Int) + 1 = _; omega, by omega, ?_⟩, by show 2 ^ n - ((j : Int) + 1).toNat < 2 ^ n - (j : Int).toNat; omega⟩)) (fun c => absurd rfl c))
        show x2 = _
        rw [sN_succ, ← hx, if_neg g]
        omega
  · rintro ⟨t, x, y⟩ ⟨g0, g⟩
    exact ok_ck g0 (ok_some g)
theorem facF_pos (k : Nat) : k ≤ 12 → 1 ≤ facF k := by
  have key : ∀ k : Nat, k < 13 → 1 ≤ facF k := by decide +kernel
  exact fun h => key k (by omega)
theorem gF_pos {n : Nat} {k : Int} (hn : n ≤ 12) (h0 : 0 ≤ k) (h1 : k ≤ (n : Int) - 1) : 1 ≤ gF n k := by
  unfold gF
  have a := facF_pos k.toNat (by omega)
  have b := facF_pos ((n : Int) - 1 - k).toNat (by omega)
  have := Int.mul_le_mul a b (by decide) (by omega)
  omega
/-- orders are turned just where sets are swung -/
theorem ot_pos {w : Nat → Int} {q : Int} {n m : Nat} (hn : n ≤ 12) (hm : m < n) : (0 < otN w q n m ↔ 0 < swN w q n m) := by
  unfold otN swN
  have k1 : ∀ S, S < 2 ^ n → 0 ≤ (if swg w q n S m then gF n (pc S n) else 0) := fun S hS => by
    by_cases g : swg w q n S m
    · rw [if_pos g]
      have := gF_pos hn (pc_bounds S n).1 (pc_lt hm hS g.2.2)
      omega
    · rw [if_neg g]; exact Int.le_refl 0
  have k2 : ∀ S, S < 2 ^ n → 0 ≤ (if swg w q n S m then (1 : Int) else 0) := fun S _ => by
    by_cases g : swg w q n S m
    · rw [if_pos g]; decide
    · rw [if_neg g]; exact Int.le_refl 0
  rw [sN_pos k1, sN_pos k2]
  constructor
  · rintro ⟨S, hS, h⟩
    refine ⟨S, hS, ?_⟩
    by_cases g : swg w q n S m
    · rw [if_pos g]; decide
    · rw [if_neg g] at h; omega
  · rintro ⟨S, hS, h⟩
    refine ⟨S, hS, ?_⟩
    by_cases g : swg w q n S m
    · rw [if_pos g]
      have := gF_pos hn (pc_bounds S n).1 (pc_lt hm hS g.2.2)
      omega
    · rw [if_neg g] at h; omega
theorem sN_bits (T : Nat) (x y : Int) : ∀ n, sN (fun m => if bt T m = 1 then x else y) n = x * pc T n + y * ((n : Int) - pc T n)
  | 0 => by show (0 : Int) = x * 0 + y * (0 - 0); omega
  | n + 1 => by
    have e : pc T (n + 1) = pc T n + (bt T n : Int) * 1 := rfl
    rw [sN_succ, sN_bits T x y n, e]
    rcases bt_01 T n with g | g
    · rw [g, if_neg (by decide)]
      show _ = x * (pc T n + 0 * 1) + y * (((n + 1 : Nat) : Int) - (pc T n + 0 * 1))
      rw [show ((n + 1 : Nat) : Int) = (n : Int) + 1 by omega]
      grind
    · rw [g, if_pos rfl]
      show _ = x * (pc T n + 1 * 1) + y * (((n + 1 : Nat) : Int) - (pc T n + 1 * 1))
      rw [show ((n + 1 : Nat) : Int) = (n : Int) + 1 by omega]
      grind
def cfO (n k : Nat) : Int := gF n ((k : Int) - 1) * (k : Int) - gF n (k : Int) * ((n : Int) - (k : Int))
theorem cfO_ok {n k : Nat} (hn : n ≤ 7) (h1 : 1 ≤ n) (hk : k ≤ n) : cfO n k = if k = n then facF n else if k = 0 then - facF n else 0 := by
  have key : ∀ n : Nat, n < 8 → ∀ k : Nat, k < 8 → 1 ≤ n → k ≤ n → cfO n k = if k = n then facF n else if k = 0 then - facF n else 0 := by decide +kernel
  exact key n (by omega) k (by omega) h1 hk
theorem pc_ends {n T : Nat} (hn : n ≤ 7) (hT : T < 2 ^ n) : (pc T n = n ↔ T = 2 ^ n - 1) ∧ (pc T n = 0 ↔ T = 0) := by
  have key : ∀ n : Nat, n < 8 → ∀ T : Nat, T < 128 → T < 2 ^ n → (pc T n = n ↔ T = 2 ^ n - 1) ∧ (pc T n = 0 ↔ T = 0) := by decide +kernel
  exact key n (by omega) T (Nat.lt_of_lt_of_le hT (show 2 ^ n ≤ 2 ^ 7 from Nat.pow_le_pow_right (by decide) hn)) hT
theorem orders_all {w : Nat → Int} {q : Int} {n : Nat} (hn : n ≤ 7) (h1 : 1 ≤ n) (hq : 1 ≤ q) (hw : ∀ k, k < n → 0 ≤ w k) : sN (fun m => otN w q n m) n = if q ≤ wS w (2 ^ n - 1) n then facF n else 0 := by
  obtain ⟨v, hv⟩ : ∃ v : Nat → Int, v = fun T => if q ≤ wS w T n then 1 else 0 := ⟨_, rfl⟩
  obtain ⟨G, hG⟩ : ∃ G : Nat → Nat → Int, G = fun m T => if bt T m = 1 then v T * gF n (pc T n - 1) else - (v T * gF n (pc T n)) := ⟨_, rfl⟩
  have e1 : ∀ m, m < n → otN w q n m = sN (fun T => G m T) (2 ^ n) := fun m hm => by
    rw [pairS hm (G m)]
    refine sN_congr fun S hS => ?_
    by_cases b : bt S m = 0
    · obtain ⟨b1, -, -⟩ := bt_with hm hS b
      have g0 : G m S = - ((if q ≤ wS w S n then 1 else 0) * gF n (pc S n)) := by
        rw [hG]
        show (if bt S m = 1 then _ else _) = _
        rw [if_neg (by omega), hv]
      have g1 : G m (2 ^ m + S) = (if q ≤ wS w (2 ^ m + S) n then 1 else 0) * gF n (pc S n + 1 - 1) := by
        rw [hG]
        show (if bt (2 ^ m + S) m = 1 then _ else _) = _
        rw [if_pos b1, pc_with hm hS b, hv]
      rw [if_pos b, g0, g1]
      rw [wS_with w hm hS b, show pc S n + 1 - 1 = pc S n by omega]
      have hwm := hw m hm
      by_cases c1 : q ≤ wS w S n
      · rw [if_pos c1, if_neg (show ¬ swg w q n S m from fun g => by have := g.1; omega), if_pos (show q ≤ wS w S n + w m by omega)]; omega
      · rw [if_neg c1]
        by_cases c2 : q ≤ wS w S n + w m
        · rw [if_pos c2, if_pos (show swg w q n S m from ⟨by omega, c2, b⟩)]; omega
        · rw [if_neg c2, if_neg (show ¬ swg w q n S m from fun g => c2 g.2.1)]; omega
    · rw [if_neg b, if_neg (show ¬ swg w q n S m from fun g => b g.2.2)]
  have e2 : sN (fun m => otN w q n m) n = sN (fun T => sN (fun m => G m T) n) (2 ^ n) := by
    rw [sN_congr e1, sN_comm]
  rw [e2]
  have hp : 0 < 2 ^ n := Nat.two_pow_pos n
  have e3 : ∀ T, T < 2 ^ n → sN (fun m => G m T) n = (if T = 2 ^ n - 1 then v T * facF n else 0) + (if T = 0 then - (v T * facF n) else 0) := fun T hT => by
    have b := pc_bounds T n
    obtain ⟨p1, p2'⟩ := pc_ends hn hT
    obtain ⟨k, hk⟩ := Int.eq_ofNat_of_zero_le b.1
    have e4 : sN (fun m => G m T) n = v T * cfO n k := by
      rw [hG]
      show sN (fun m => if bt T m = 1 then v T * gF n (pc T n - 1) else - (v T * gF n (pc T n))) n = _
      rw [sN_bits, hk]
      unfold cfO
      grind
    rw [e4, cfO_ok hn h1 (by omega)]
    rw [hk] at p1 p2'
    by_cases c1 : k = n
    · have t1 : T = 2 ^ n - 1 := p1.mp (by omega)
      have t2 : T ≠ 0 := fun g => by have := p2'.mpr g; omega
      rw [if_pos c1, if_pos t1, if_neg t2]; omega
    · have t1 : T ≠ 2 ^ n - 1 := fun g => c1 (by have := p1.mpr g; omega)
      rw [if_neg c1, if_neg t1]
      by_cases c2 : k = 0
      · have t2 : T = 0 := p2'.mp (by omega)
        rw [if_pos c2, if_pos t2, Int.mul_neg]; omega
      · have t2 : T ≠ 0 := fun g => c2 (by have := p2'.mpr g; omega)
        rw [if_neg c2, if_neg t2]; omega
  rw [sN_congr e3, sN_add, sN_one (k := 2 ^ n - 1) (by omega) (fun i _ c => if_neg c), sN_one (k := 0) hp (fun i _ c => if_neg c), if_pos rfl, if_pos rfl]
  have v0 : v 0 = 0 := by
    rw [hv]
    have e9 : wS w 0 n = 0 := by
      unfold wS
      rw [sN_congr (g := fun _ => 0) (fun i _ => by rw [show bt 0 i = 0 from bt_lt (Nat.two_pow_pos i)]; show (0 : Int) * _ = 0; omega), sN_zero]
    show (if q ≤ wS w 0 n then (1 : Int) else 0) = 0
    rw [e9, if_neg (by omega)]
  rw [v0, hv]
  show (if q ≤ wS w (2 ^ n - 1) n then (1 : Int) else 0) * facF n + - (0 * facF n) = _
  by_cases c : q ≤ wS w (2 ^ n - 1) n
  · rw [if_pos c, if_pos c]; omega
  · rw [if_neg c, if_neg c]; omega
