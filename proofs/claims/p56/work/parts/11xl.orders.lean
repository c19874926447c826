/-! ORDERS: a ballot that ranks all, the next order -/
def sw (o : Nat → Nat) (a b i : Nat) : Nat := if i = b then o a else if i = a then o b else o i
def Pm (o : Nat → Nat) (n : Nat) : Prop := (∀ i, i < n → o i < n) ∧ (∀ c, c < n → ∃ i, i < n ∧ o i = c) ∧ ∀ i j, i < n → j < n → o i = o j → i = j
theorem Pm_id (n : Nat) : Pm (fun i => i) n := ⟨fun i h => h, fun c h => ⟨c, h, rfl⟩, fun i j _ _ h => h⟩
theorem Pm_sw {o : Nat → Nat} {n a b : Nat} (h : Pm o n) (ha : a < n) (hb : b < n) : Pm (sw o a b) n := by
  obtain ⟨h1, h2, h3⟩ := h
  have ev : ∀ i, (i = b ∧ sw o a b i = o a) ∨ (i ≠ b ∧ i = a ∧ sw o a b i = o b) ∨ (i ≠ b ∧ i ≠ a ∧ sw o a b i = o i) := fun i => by
    unfold sw
    by_cases e : i = b
    · exact Or.inl ⟨e, if_pos e⟩
    · by_cases f : i = a
      · exact Or.inr (Or.inl ⟨e, f, by rw [if_neg e, if_pos f]⟩)
      · exact Or.inr (Or.inr ⟨e, f, by rw [if_neg e, if_neg f]⟩)
  refine ⟨fun i hi => ?_, fun c hc => ?_, fun i j hi hj e => ?_⟩
  · rcases ev i with ⟨-, e⟩ | ⟨-, -, e⟩ | ⟨-, -, e⟩ <;> rw [e]
    · exact h1 a ha
    · exact h1 b hb
    · exact h1 i hi
  · obtain ⟨i, hi, e⟩ := h2 c hc
    by_cases ea : i = a
    · exact ⟨b, hb, by unfold sw; rw [if_pos rfl, ← ea]; exact e⟩
    · by_cases eb : i = b
      · refine ⟨a, ha, ?_⟩
        unfold sw
        by_cases ab : a = b
        · rw [if_pos ab, ab, ← eb]; exact e
        · rw [if_neg ab, if_pos rfl, ← eb]; exact e
      · exact ⟨i, hi, by unfold sw; rw [if_neg eb, if_neg ea]; exact e⟩
  · rcases ev i with ⟨i1, e1⟩ | ⟨i1, i2, e1⟩ | ⟨i1, i2, e1⟩ <;> rcases ev j with ⟨j1, f1⟩ | ⟨j1, j2, f1⟩ | ⟨j1, j2, f1⟩ <;> rw [e1, f1] at e
    · omega
    · have := h3 a b ha hb e; omega
    · have := h3 a j ha hj e; omega
    · have := h3 b a hb ha e; omega
    · omega
    · have := h3 b j hb hj e; omega
    · have := h3 i a hi ha e; omega
    · have := h3 i b hi hb e; omega
    · exact h3 i j hi hj e
/-- where a candidate stands in an order -/
def pos (o : Nat → Nat) (n c : Nat) : Nat := fI (fun i => decide (o i = c)) n 0
theorem pos_at {o : Nat → Nat} {n i : Nat} (h : Pm o n) (hi : i < n) : pos o n (o i) = i := fI_at (Nat.zero_le _) (by omega) (fun b _ hb => decide_eq_false (fun e => by have := h.2.2 b i (by omega) hi e; omega)) (decide_eq_true rfl)
theorem pos_eq {o : Nat → Nat} {n c i : Nat} (h : Pm o n) (hc : c < n) (hi : i < n) : pos o n c = i ↔ o i = c := by
  obtain ⟨j, hj, e⟩ := h.2.1 c hc
  rw [← e, pos_at h hj]
  exact ⟨fun q => by rw [q], fun q => (h.2.2 i j hi hj q).symm⟩
theorem pos_lt {o : Nat → Nat} {n c : Nat} (h : Pm o n) (hc : c < n) : pos o n c < n := by
  obtain ⟨j, hj, e⟩ := h.2.1 c hc
  rw [← e, pos_at h hj]
  exact hj
theorem pos_gS {o : Nat → Nat} {n g : Nat} (h : Pm o n) (hg : g < n) : gS (pos o n) n g = 2 ^ o g := eq_tb (gS_lt _ n g) (Nat.pow_lt_pow_right (by decide) (h.1 g hg)) fun i hi => by
  rw [gS_tb hi, one_tb]
  exact decide_eq_decide.mpr (pos_eq h hi hg)
/-- the order's row -/
def OH (M : Mm) (n : Nat) (o : Nat → Nat) : Prop := ∀ i, i < n → M 52 i = (o i : Int)
theorem clearTrial_ok {E : Ev} {M : Mm} (hL : Lay E) : Ok (f_Bx_clearTrial E M) (fun N => Off (fun i => i = 6 ∨ i = 7 ∨ i = 39) M N ∧ (∀ k, k ≠ 30 → N 6 k = M 6 k ∧ N 7 k = M 7 k) ∧ N 6 30 = 0 ∧ N 7 30 = 0 ∧ ∀ g, g < 8 → N 39 g = 0) := by
  unfold f_Bx_clearTrial
  refine ok_bm (ok_fillI (n := 8) (yi_39 hL) (yt_39 hL) (by decide)) ?_
  rintro N ⟨n1, n2, -⟩
  have e6 : ∀ k, N 6 k = if k = 30 then 0 else M 6 k := fun k => by
    rw [n1 6 (by decide), u2_if]
    by_cases e : k = 30
    · rw [if_pos ⟨rfl, e⟩, if_pos e]
    · rw [if_neg (fun q => e q.2), if_neg e, u2_ne (Or.inl (by decide))]
  have e7 : N 7 = u2 M 7 30 0 7 := by rw [n1 7 (by decide)]; exact u2_row (by decide)
  refine ok_some ⟨?_, fun k hk => ⟨by rw [e6 k, if_neg hk], by rw [e7, u2_ne (Or.inr hk)]⟩, by rw [e6 30, if_pos rfl], by rw [e7, u2_at], n2⟩
  exact ((Off.refl.u2 (Or.inr (Or.inl rfl))).u2 (Or.inl rfl)).trans (n1.mono fun i hi => Or.inr (Or.inr hi))
/-- a candidate on the trial row -/
theorem rankOn_ok {E : Ev} {M : Mm} {c g S : Nat} {x : Int} (hc : c < 8) (hx : x = 0 ∨ x = 1) (hg : M 7 30 = (g : Int)) (hg8 : x = 1 → g < 8) (hg1 : x = 0 → 1 ≤ g ∧ g ≤ 8) (hS : M 39 (if x = 1 then g else g - 1) = (S : Int)) (hSl : S < 256) : Ok (f_Bx_rankOnTrial E M (c : Int) x) (fun N => Off (fun i => i = 7 ∨ i = 39) M N ∧ (∀ k, k ≠ 30 → N 7 k = M 7 k) ∧ N 7 30 = (if x = 1 then (g : Int) + 1 else (g : Int)) ∧ ∀ k, N 39 k = if k = (if x = 1 then g else g - 1) then ((S ||| 2 ^ c : Nat) : Int) else M 39 k) := by
  have hpc := pow_lt (show c ≤ 8 by omega)
  have hpc0 := Nat.two_pow_pos c
  have hor : S ||| 2 ^ c < 256 := or_lt (n := 8) hSl (Nat.pow_lt_pow_right (by decide) hc)
  have j27 : ∀ (N : Mm) (l : Nat), N 7 30 = (l : Int) + 1 → l < 8 → N 39 l = (S : Int) → Ok (Bx_rankOnTrial_j27 E N (c : Int)) (fun K => K = u2 N 39 l ((S ||| 2 ^ c : Nat) : Int)) := fun N l h1 h2 h3 => by
    have e : max (N 7 30 - 1) 0 = (l : Int) := by omega
    unfold Bx_rankOnTrial_j27
    rw [e, Int.toNat_natCast, Int.toNat_natCast, h3, p2, orI_nat]
    exact ok_ck ⟨by omega, by omega⟩ (ok_ck (inN h2 (by decide)) (ok_ck ⟨by omega, by omega⟩ (ok_ck ⟨by omega, by omega⟩ (ok_ck ⟨by omega, by omega⟩ (ok_nb (ok_some rfl))))))
  unfold f_Bx_rankOnTrial
  rcases hx with rfl | rfl
  · rw [if_neg (by decide)] at hS
    obtain ⟨a1, a2⟩ := hg1 rfl
    refine ok_ck (by decide) (ok_if (fun _ => (j27 M (g - 1) (by omega) (by omega) hS).mono ?_) (fun q => absurd rfl q))
    rintro K rfl
    rw [if_neg (by decide), if_neg (by decide)]
    refine ⟨Off.refl.u2 (Or.inr rfl), fun k _ => u2_ne (Or.inl (by decide)), by rw [u2_ne (Or.inl (by decide))]; exact hg, fun k => ?_⟩
    rw [u2_if]
    by_cases e : k = g - 1
    · rw [if_pos ⟨rfl, e⟩, if_pos e]
    · rw [if_neg (fun q => e q.2), if_neg e]
  · rw [if_pos rfl] at hS
    have a1 := hg8 rfl
    refine ok_ck (by decide) (ok_if (fun q => absurd q (by decide)) (fun _ => ?_))
    rw [hg]
    refine ok_ck (rgN (by omega)) (ok_if (fun q => by omega) (fun _ => (j27 _ g (by rw [u2_at]) a1 (by rw [u2_ne (Or.inl (by decide))]; exact hS)).mono ?_))
    rintro K rfl
    rw [if_pos rfl, if_pos rfl]
    refine ⟨(Off.refl.u2 (Or.inl rfl)).u2 (Or.inr rfl), fun k hk => by rw [u2_ne (Or.inl (by decide)), u2_ne (Or.inr hk)], by rw [u2_ne (Or.inl (by decide)), u2_at], fun k => ?_⟩
    rw [u2_if]
    by_cases e : k = g
    · rw [if_pos ⟨rfl, e⟩, if_pos e]
    · rw [if_neg (fun q => e q.2), if_neg e, u2_ne (Or.inl (by decide))]
def oTr (c : Nat) : Prop := c = 6 ∨ c = 7 ∨ c = 39
theorem writeTrial_ok {E : Ev} {M : Mm} {n : Nat} {o : Nat → Nat} (hL : Lay E) (h2 : M 2 2 = (n : Int)) (h1 : 1 ≤ n) (hn : n ≤ 5) (ho : OH M n o) (hP : Pm o n) : Ok (f_Fb_writeTrial E M) (fun N => Off oTr M N ∧ (∀ k, k ≠ 30 → N 6 k = M 6 k ∧ N 7 k = M 7 k) ∧ Rk N 30 n n (pos o n) (2 ^ o 0)) := by
  have hpw := pow_lt (show n ≤ 8 by omega)
  unfold f_Fb_writeTrial
  refine ok_bm (clearTrial_ok hL) ?_
  rintro B ⟨b1, b2, b3, b4, b5⟩
  refine ok_bm (R := fun r => r.1 = 1 ∧ Off oTr M r.2.2 ∧ (∀ k, k ≠ 30 → r.2.2 6 k = M 6 k ∧ r.2.2 7 k = M 7 k) ∧ r.2.2 7 30 = (n : Int) ∧ ∀ g, g < n → r.2.2 39 g = ((2 ^ o g : Nat) : Int)) ?_ ?_
  · refine L_Fb_writeTrial_9 E (I := fun N x => ∃ p : Nat, x = (p : Int) ∧ p ≤ n ∧ Off oTr M N ∧ (∀ k, k ≠ 30 → N 6 k = M 6 k ∧ N 7 k = M 7 k) ∧ N 7 30 = (p : Int) ∧ (∀ g, g < p → N 39 g = ((2 ^ o g : Nat) : Int)) ∧ ∀ g, p ≤ g → g < 8 → N 39 g = 0) (μ := fun _ x => n - x.toNat) ?_ FU B 0 ⟨0, rfl, Nat.zero_le _, b1, b2, b4, fun g hg => absurd hg (Nat.not_lt_zero g), fun g _ hg => b5 g hg⟩ (by show n - _ < 5000; omega)
    rintro N x ⟨p, rfl, hp, oN, hk, h7, hlo, hhi⟩
    unfold Fb_writeTrial_9b
    rw [oN 2 (by unfold oTr; decide), h2, Int.toNat_natCast, oN 52 (by unfold oTr; decide)]
    refine ok_ck (rgN (by omega)) (ok_ck (rgN (by omega)) (ok_if (fun q => ?_) (fun q => ?_)))
    · have e : p = n := by omega
      subst e
      exact ok_some (ok_out ne0 ⟨rfl, oN, hk, h7, hlo⟩)
    · have hpn : p < n := by omega
      rw [ho p hpn]
      have hop := hP.1 p hpn
      refine ok_ck (inN (by omega) (by decide)) (ok_bm (rankOn_ok (c := o p) (g := p) (S := 0) (x := 1) (by omega) (Or.inr rfl) h7 (fun _ => by omega) (fun q => absurd q (by decide)) (by rw [if_pos rfl]; exact hhi p (Nat.le_refl p) (by omega)) (by decide)) ?_)
      rintro K ⟨k1, k2, k3, k4⟩
      rw [if_pos rfl] at k3
      rw [if_pos rfl, Nat.zero_or] at k4
      refine ok_some (ok_go rfl ⟨⟨p + 1, c1 p, by omega, oN.trans (k1.mono fun i hi => by unfold oTr; omega), fun k hk0 => ⟨by show K 6 k = _; rw [k1 6 (by decide)]; exact (hk k hk0).1, by show K 7 k = _; rw [k2 k hk0]; exact (hk k hk0).2⟩, k3, fun g hg => ?_, fun g hg1 hg2 => ?_⟩, cnt hpn⟩)
      · show K 39 g = _
        rw [k4 g]
        by_cases e : g = p
        · rw [if_pos e, e]
        · rw [if_neg e]; exact hlo g (by omega)
      · show K 39 g = 0
        rw [k4 g, if_neg (by omega)]
        exact hhi g (by omega) hg2
  · rintro ⟨t, x, N⟩ ⟨g1, g2, g3, g4, g5⟩
    have g2 : Off oTr M N := g2
    have g3 : ∀ k, k ≠ 30 → N 6 k = M 6 k ∧ N 7 k = M 7 k := g3
    have g4 : N 7 30 = (n : Int) := g4
    have g5 : ∀ g, g < n → N 39 g = ((2 ^ o g : Nat) : Int) := g5
    refine ok_ck g1 (ok_some ⟨g2.u2 (Or.inl rfl), fun k hk => ⟨by rw [u2_ne (Or.inr hk)]; exact (g3 k hk).1, by rw [u2_ne (Or.inl (by decide))]; exact (g3 k hk).2⟩, by rw [u2_ne (Or.inl (by decide))]; exact g4, by rw [u2_at]; exact g5 0 (by omega), Nat.le_refl n, Nat.pow_lt_pow_right (by decide) (hP.1 0 (by omega)), fun g hg => ?_, fun c hc => Nat.le_of_lt (pos_lt hP hc), fun g hg => ⟨o g, hP.1 g hg, pos_at hP hg⟩⟩)
    show u2 N 6 30 (N 39 0) 39 g = _
    rw [u2_ne (Or.inl (by decide)), pos_gS hP hg]
    exact g5 g hg
theorem swap_ok {E : Ev} {M : Mm} {n a b : Nat} {o : Nat → Nat} (hn : n ≤ 5) (ho : OH M n o) (ha : a < n) (hb : b < n) : Ok (f_Fb_swap E M (a : Int) (b : Int)) (fun N => Off (fun i => i = 52) M N ∧ OH N n (sw o a b)) := by
  unfold f_Fb_swap
  rw [Int.toNat_natCast, Int.toNat_natCast, ho a ha, ho b hb]
  refine ok_ck (inN (by omega) (by decide)) (ok_ck (inN (by omega) (by decide)) (ok_some ⟨Off.u2 (S := fun i => i = 52) (Off.u2 (S := fun i => i = 52) Off.refl rfl) rfl, fun i hi => ?_⟩))
  unfold sw
  rw [u2_if]
  by_cases e : i = b
  · rw [if_pos ⟨rfl, e⟩, if_pos e]
  · rw [if_neg (fun q => e q.2), if_neg e, u2_if]
    by_cases f : i = a
    · rw [if_pos ⟨rfl, f⟩, if_pos f]
    · rw [if_neg (fun q => f q.2), if_neg f]; exact ho i hi
/-- the next order -/
def NX (n : Nat) (o o' : Nat → Nat) : Prop := (o' = o ∧ ∀ q, q + 1 < n → o (q + 1) < o q) ∨ ∃ p g, p + 1 < n ∧ o p ≤ o (p + 1) ∧ (∀ q, p < q → q + 1 < n → o (q + 1) < o q) ∧ p ≤ g ∧ g < n ∧ (g = p ∨ o p ≤ o g) ∧ (∀ h, g < h → h < n → o h < o p) ∧ o' = fun i => if n ≤ i then o i else if i ≤ p then sw o p g i else sw o p g (n + p - i)
theorem NX_unique {n : Nat} {o a b : Nat → Nat} (h : NX n o a) (g : NX n o b) : a = b := by
  rcases h with ⟨h1, h2⟩ | ⟨p, s, p1, p2, p3, p4, p5, p6, p7, p8⟩
  · rcases g with ⟨g1, -⟩ | ⟨p, s, p1, p2, -⟩
    · rw [h1, g1]
    · have := h2 p p1; omega
  · rcases g with ⟨-, g2⟩ | ⟨q, t, q1, q2, q3, q4, q5, q6, q7, q8⟩
    · have := g2 p p1; omega
    · have e1 : p = q := by
        rcases Nat.lt_trichotomy p q with w | w | w
        · have := p3 q w q1; omega
        · exact w
        · have := q3 p w p1; omega
      subst e1
      have e2 : s = t := by
        rcases Nat.lt_trichotomy s t with w | w | w
        · have := p7 t w q5
          rcases q6 with e | e <;> omega
        · exact w
        · have := q7 s w p5
          rcases p6 with e | e <;> omega
      subst e2
      rw [p8, q8]
theorem n14_ok {E : Ev} {M : Mm} {n : Nat} {o : Nat → Nat} {x1 : Int} (hn2 : 2 ≤ n) (hn : n ≤ 5) (ho : OH M n o) (hP : Pm o n) : Ok (l_Fb_goToNextOrder_14 E x1 FU M ((n : Int) - 2)) (fun r => r.1 = 1 ∧ r.2.2 = M ∧ ((r.2.1 = -1 ∧ ∀ q, q + 1 < n → o (q + 1) < o q) ∨ ∃ p : Nat, r.2.1 = (p : Int) ∧ p + 1 < n ∧ o p ≤ o (p + 1) ∧ ∀ q, p < q → q + 1 < n → o (q + 1) < o q)) := by
  refine L_Fb_goToNextOrder_14 E x1 (I := fun N x => N = M ∧ ∃ k : Nat, x + 1 = (k : Int) ∧ k + 1 ≤ n ∧ ∀ q, k ≤ q → q + 1 < n → o (q + 1) < o q) (μ := fun _ x => (x + 1).toNat) ?_ FU M ((n : Int) - 2) ⟨rfl, n - 1, by omega, by omega, fun q h1 h2 => by omega⟩ (by show ((n : Int) - 2 + 1).toNat < 5000; omega)
  rintro N x ⟨rfl, k, hx, hk, hq⟩
  unfold Fb_goToNextOrder_14b
  refine ok_ck ⟨by omega, by omega⟩ (ok_if (fun q => ?_) (fun q => ?_))
  · exact ok_some (ok_out ne0 ⟨rfl, rfl, Or.inl ⟨by show x = -1; omega, fun j hj => hq j (by omega) hj⟩⟩)
  · obtain ⟨p, rfl⟩ : ∃ p : Nat, x = (p : Int) := ⟨x.toNat, by omega⟩
    have hkp : k = p + 1 := by omega
    have b1 := hP.1 p (by omega)
    have b2 := hP.1 (p + 1) (by omega)
    rw [c1 p, Int.toNat_natCast, Int.toNat_natCast, ho p (by omega), ho (p + 1) (by omega)]
    refine ok_ck (inN (by omega) (by decide)) (ok_ck (inN (by omega) (by decide)) (ok_ck (rgN (by omega)) (ok_ck (rgN (by omega)) (ok_if (fun w => ?_) (fun w => ?_)))))
    · exact ok_some (ok_out ne0 ⟨rfl, rfl, Or.inr ⟨p, rfl, by omega, by omega, fun j h1 h2 => hq j (by omega) h2⟩⟩)
    · refine ok_some (ok_go rfl ⟨⟨rfl, p, by show (p : Int) + -1 + 1 = _; omega, by omega, fun j h1 h2 => ?_⟩, by show ((p : Int) + -1 + 1).toNat < ((p : Int) + 1).toNat; omega⟩)
      by_cases e : j = p
      · rw [e]; omega
      · exact hq j (by omega) h2
theorem n48_ok {E : Ev} {M : Mm} {n p : Nat} {o : Nat → Nat} {x1 : Int} (hn : n ≤ 5) (ho : OH M n o) (hP : Pm o n) (hp : p + 1 < n) : Ok (l_Fb_goToNextOrder_48 E x1 (p : Int) FU M ((n : Int) - 1)) (fun r => r.1 = 1 ∧ r.2.2 = M ∧ ∃ g : Nat, r.2.1 = (g : Int) ∧ p ≤ g ∧ g < n ∧ (g = p ∨ o p ≤ o g) ∧ ∀ h, g < h → h < n → o h < o p) := by
  refine L_Fb_goToNextOrder_48 E x1 (p : Int) (I := fun N x => N = M ∧ ∃ g : Nat, x = (g : Int) ∧ p ≤ g ∧ g < n ∧ ∀ h, g < h → h < n → o h < o p) (μ := fun _ x => x.toNat) ?_ FU M ((n : Int) - 1) ⟨rfl, n - 1, by omega, by omega, by omega, fun h h1 h2 => by omega⟩ (by show ((n : Int) - 1).toNat < 5000; omega)
  rintro N x ⟨rfl, g, rfl, hg1, hg2, hq⟩
  unfold Fb_goToNextOrder_48b
  refine ok_ck (rgN (by omega)) (ok_ck (rgN (by omega)) (ok_if (fun q => ?_) (fun q => ?_)))
  · exact ok_some (ok_out ne0 ⟨rfl, rfl, g, rfl, hg1, hg2, Or.inl (by omega), hq⟩)
  · have b1 := hP.1 p (by omega)
    have b2 := hP.1 g hg2
    rw [Int.toNat_natCast, Int.toNat_natCast, ho p (by omega), ho g hg2]
    refine ok_ck (inN (by omega) (by decide)) (ok_ck (inN (by omega) (by decide)) (ok_ck (rgN (by omega)) (ok_ck (rgN (by omega)) (ok_if (fun w => ?_) (fun w => ?_)))))
    · exact ok_some (ok_out ne0 ⟨rfl, rfl, g, rfl, hg1, hg2, Or.inr (by omega), hq⟩)
    · refine ok_some (ok_go rfl ⟨⟨rfl, g - 1, by show (g : Int) + -1 = _; omega, by omega, by omega, fun h h1 h2 => ?_⟩, by show ((g : Int) + -1).toNat < (g : Int).toNat; omega⟩)
      by_cases e : h = g
      · rw [e]; omega
      · exact hq h (by omega) h2
/-- the tail turned round -/
theorem n88_ok {E : Ev} {M : Mm} {n p : Nat} {s : Nat → Nat} (hn : n ≤ 5) (ho : OH M n s) (hP : Pm s n) (hp : p + 1 < n) : Ok (l_Fb_goToNextOrder_88 E FU M ((p : Int) + 1) ((n : Int) - 1)) (fun r => r.1 = 1 ∧ Off (fun i => i = 52) M r.2.2.2 ∧ Pm (fun i => if n ≤ i then s i else if i ≤ p then s i else s (n + p - i)) n ∧ OH r.2.2.2 n (fun i => if n ≤ i then s i else if i ≤ p then s i else s (n + p - i))) := by
  refine L_Fb_goToNextOrder_88 E (I := fun N x y => ∃ i j : Nat, x = (i : Int) ∧ y = (j : Int) ∧ i + j = n + p ∧ p + 1 ≤ i ∧ j + 1 ≤ n ∧ i ≤ j + 2 ∧ Off (fun i => i = 52) M N ∧ ∃ u, Pm u n ∧ OH N n u ∧ ∀ k, u k = if k < n ∧ p < k ∧ (k < i ∨ j < k) then s (n + p - k) else s k) (μ := fun _ x y => (y - x + 2).toNat) ?_ FU M ((p : Int) + 1) ((n : Int) - 1) ⟨p + 1, n - 1, rfl, by omega, by omega, by omega, by omega, by omega, Off.refl, s, hP, ho, fun k => by rw [if_neg (by omega)]⟩ (by show ((n : Int) - 1 - ((p : Int) + 1) + 2).toNat < 5000; omega)
  rintro N x y ⟨i, j, rfl, rfl, hij, hi, hj, hji, hO, u, hu, huO, hus⟩
  unfold Fb_goToNextOrder_88b
  refine ok_ck (rgN (by omega)) (ok_ck (rgN (by omega)) (ok_if (fun q => ?_) (fun q => ?_)))
  · have eu : u = fun k => if n ≤ k then s k else if k ≤ p then s k else s (n + p - k) := by
      funext k
      rw [hus k]
      by_cases c1' : n ≤ k
      · rw [if_neg (by omega), if_pos c1']
      · rw [if_neg c1']
        by_cases c2 : k ≤ p
        · rw [if_neg (by omega), if_pos c2]
        · rw [if_neg c2]
          by_cases c3 : k < i ∨ j < k
          · rw [if_pos ⟨by omega, by omega, c3⟩]
          · rw [if_neg (fun z => c3 z.2.2), show n + p - k = k by omega]
    rw [← eu]
    exact ok_some (ok_out ne0 ⟨rfl, hO, hu, huO⟩)
  · refine ok_bm (swap_ok hn huO (show i < n by omega) (show j < n by omega)) ?_
    rintro K ⟨k1, k2⟩
    refine ok_some (ok_go rfl ⟨⟨i + 1, j - 1, by show (i : Int) + 1 = _; omega, by show (j : Int) + -1 = _; omega, by omega, by omega, by omega, by omega, hO.trans k1, sw u i j, Pm_sw hu (by omega) (by omega), k2, fun k => ?_⟩, by show ((j : Int) + -1 - ((i : Int) + 1) + 2).toNat < ((j : Int) - (i : Int) + 2).toNat; omega⟩)
    unfold sw
    by_cases e : k = j
    · rw [if_pos e, hus i, if_neg (by omega), if_pos ⟨by omega, by omega, by omega⟩, show n + p - k = i by omega]
    · rw [if_neg e]
      by_cases f : k = i
      · rw [if_pos f, hus j, if_neg (by omega), if_pos ⟨by omega, by omega, by omega⟩, show n + p - k = j by omega]
      · rw [if_neg f, hus k]
        by_cases g : k < n ∧ p < k ∧ (k < i ∨ j < k)
        · rw [if_pos g, if_pos ⟨g.1, g.2.1, by omega⟩]
        · rw [if_neg g, if_neg (by omega)]
theorem nextOrder_ok {E : Ev} {M : Mm} {n : Nat} {o : Nat → Nat} (hn2 : 2 ≤ n) (hn : n ≤ 5) (h2 : M 2 2 = (n : Int)) (ho : OH M n o) (hP : Pm o n) : Ok (f_Fb_goToNextOrder E M) (fun N => Off (fun i => i = 52) M N ∧ ∃ o', NX n o o' ∧ Pm o' n ∧ OH N n o') := by
  unfold f_Fb_goToNextOrder
  rw [h2, show (n : Int) - 1 - 1 = (n : Int) - 2 by omega]
  refine ok_bm (n14_ok hn2 hn ho hP) ?_
  rintro ⟨t, x, N⟩ ⟨g1, g2r, g3⟩
  have g2 : N = M := g2r
  subst g2
  refine ok_ck g1 ?_
  rcases g3 with ⟨e, q⟩ | ⟨p, e, p1, p2', p3⟩
  · have e : x = -1 := e
    subst e
    unfold Fb_goToNextOrder_j41
    exact ok_ck (by decide) (ok_if (fun z => absurd z (by decide)) (fun _ => ok_some ⟨Off.refl, o, Or.inl ⟨rfl, q⟩, hP, ho⟩))
  · have e : x = (p : Int) := e
    subst e
    unfold Fb_goToNextOrder_j41
    refine ok_ck (rgN (by omega)) (ok_if (fun _ => ok_bm (n48_ok hn ho hP p1) ?_) (fun z => by omega))
    rintro ⟨t2, y, K⟩ ⟨i1, i2r, g, i3r, i4, i5, i6, i7⟩
    have i2 : K = N := i2r
    have i3 : y = (g : Int) := i3r
    subst i2 i3
    refine ok_ck i1 ?_
    unfold Fb_goToNextOrder_j74
    refine ok_bm (swap_ok hn ho (show p < n by omega) i5) ?_
    rintro S ⟨s1, s2⟩
    refine ok_bm (n88_ok hn s2 (Pm_sw hP (by omega) i5) p1) ?_
    rintro ⟨t3, a, b, Q⟩ ⟨j1, j2, j3, j4⟩
    refine ok_ck j1 (ok_some ⟨s1.trans j2, _, Or.inr ⟨p, g, p1, p2', p3, i4, i5, i6, i7, ?_⟩, j3, j4⟩)
    funext i
    by_cases c1' : n ≤ i
    · rw [if_pos c1', if_pos c1']
      unfold sw
      rw [if_neg (by omega), if_neg (by omega)]
    · rw [if_neg c1', if_neg c1']
