/-! A BALLOT COMES INTO THE BOX -/
def oBa (c : Nat) : Prop := c = 1 ∨ c = 2 ∨ (5 ≤ c ∧ c ≤ 7) ∨ (9 ≤ c ∧ c ≤ 39) ∨ (246 ≤ c ∧ c ≤ 248)
theorem same_rows {R r : Nat → Nat} {n G : Nat} (hR : ∀ c, c < n → R c ≤ G) (hr : ∀ c, c < n → r c ≤ G) (h : ∀ g, g < G → gS R n g = gS r n g) : ∀ c, c < n → R c = r c := fun c hc => by
  have one : ∀ g, g < G → (R c = g ↔ r c = g) := fun g hg => by
    have h1 := gS_tb (R := R) (n := n) (g := g) hc
    have h2 := gS_tb (R := r) (n := n) (g := g) hc
    rw [h g hg, h2] at h1
    exact ⟨fun q => by rw [decide_eq_true q] at h1; exact of_decide_eq_true h1, fun q => by rw [decide_eq_true q] at h1; exact of_decide_eq_true h1.symm⟩
  have a := hR c hc
  have b := hr c hc
  by_cases e : R c < G
  · exact ((one _ e).mp rfl).symm
  · by_cases f : r c < G
    · exact (one _ f).mpr rfl
    · omega
theorem isLikeTrial_ok {E : Ev} {M : Mm} {n k G A g a : Nat} {R r : Nat → Nat} (h : Rk M k n G R A) (ht : Rk M 30 n g r a) (hk : k < 30) (hn : n ≤ 8) : Ok (f_Bx_isLikeTrial E M (k : Int)) (fun x => x = 0 ∨ (x = 1 ∧ G = g ∧ A = a ∧ ∀ c, c < n → R c = r c)) := by
  have hpw := pow_lt hn
  obtain ⟨h7, h6, hG, hA, h9, hR, hne⟩ := h
  obtain ⟨t7, t6, tG, tA, t9, tR, tne⟩ := ht
  unfold f_Bx_isLikeTrial
  rw [Int.toNat_natCast, h7, h6, t7, t6]
  refine ok_ck (inN (by omega) (by decide)) (ok_ck (rgN (by omega)) (ok_ck (rgN (by omega)) (ok_if (fun e => ?_) (fun _ => ok_some (Or.inl rfl)))))
  refine ok_ck (rgN (by omega)) (ok_ck (rgN (by omega)) (ok_if (fun f => ?_) (fun _ => ok_some (Or.inl rfl))))
  have e : G = g := by omega
  have f : A = a := by omega
  subst e f
  refine ok_bm (R := fun r' => r'.1 = 1 ∨ (r'.1 = 2 ∧ ∀ x, x < G → gS R n x = gS r n x)) ?_ ?_
  · refine L_Bx_isLikeTrial_36 E (k : Int) M (I := fun x2 => ∃ i : Nat, x2 = (i : Int) ∧ i ≤ G ∧ ∀ x, x < i → gS R n x = gS r n x) (μ := fun x2 => G - x2.toNat) ?_ FU 0 ⟨0, rfl, Nat.zero_le _, fun x hx => absurd hx (Nat.not_lt_zero x)⟩ (by show G - _ < 5000; omega)
    rintro x2 ⟨i, rfl, hi, hx⟩
    unfold Bx_isLikeTrial_36b
    rw [Int.toNat_natCast, Int.toNat_natCast, h7]
    refine ok_ck (inN (by omega) (by decide)) (ok_ck (rgN (by omega)) (ok_ck (rgN (by omega)) (ok_if (fun q => ?_) (fun q => ?_))))
    · have e : i = G := by omega
      subst e
      exact ok_some (ok_out (by show (2 : Nat) ≠ 0; decide) (Or.inr ⟨rfl, hx⟩))
    · have hiG : i < G := by omega
      have l1 := gS_lt R n i
      have l2 := gS_lt r n i
      have t9i : M 39 i = ((gS r n i : Nat) : Int) := t9 i hiG
      rw [h9 i hiG, t9i]
      refine ok_ck (inN (by omega) (by decide)) (ok_ck (rgN (by omega)) (ok_ck (rgN (by omega)) (ok_if (fun w => ?_) (fun _ => ok_some (ok_out ne0 (Or.inl rfl))))))
      refine ok_some (ok_go rfl ⟨⟨i + 1, c1 i, by omega, fun x hx2 => ?_⟩, cnt hiG⟩)
      by_cases e : x = i
      · rw [e]; omega
      · exact hx x (by omega)
  · rintro ⟨t, x2⟩ (etr | ⟨etr, hx⟩)
    · have et : t = 1 := etr
      subst et
      exact ok_if (fun _ => ok_some (Or.inl rfl)) (fun z => absurd rfl z)
    · have et : t = 2 := etr
      subst et
      exact ok_if (fun z => absurd z (by decide)) (fun _ => ok_if (fun _ => ok_some (Or.inr ⟨rfl, rfl, rfl, same_rows hR tR hx⟩)) (fun z => absurd rfl z))
theorem kindOfTrial_ok {E : Ev} {M : Mm} {n kk g a : Nat} {C : Nat → Int} {G : Nat → Nat} {R : Nat → Nat → Nat} {A : Nat → Nat} {r : Nat → Nat} (h : BX M n kk C G R A) (ht : Rk M 30 n g r a) : Ok (f_Bx_kindOfTrial E M) (fun x => x = -1 ∨ ∃ j : Nat, x = (j : Int) ∧ j < kk ∧ G j = g ∧ A j = a ∧ ∀ c, c < n → R j c = r c) := by
  obtain ⟨h22, hn, h23, hk, hR, hs⟩ := h
  unfold f_Bx_kindOfTrial
  refine ok_bm (R := fun r' => (r'.1 = 2) ∨ (r'.1 = 1 ∧ ∃ j : Nat, r'.2 = (j : Int) ∧ j < kk ∧ G j = g ∧ A j = a ∧ ∀ c, c < n → R j c = r c)) ?_ ?_
  · refine L_Bx_kindOfTrial_2 E M (I := fun x => ∃ i : Nat, x = (i : Int) ∧ i ≤ kk) (μ := fun x => kk - x.toNat) ?_ FU 0 ⟨0, rfl, Nat.zero_le _⟩ (by show kk - _ < 5000; omega)
    rintro x ⟨i, rfl, hi⟩
    unfold Bx_kindOfTrial_2b
    rw [h23]
    refine ok_ck (rgN (by omega)) (ok_ck (rgN (by omega)) (ok_if (fun _ => ok_some (ok_out (by show (2 : Nat) ≠ 0; decide) (Or.inl rfl))) (fun q => ?_)))
    refine ok_bm (isLikeTrial_ok (hR i (by omega)).1 ht (by omega) hn) ?_
    rintro y (rfl | ⟨rfl, y1, y2, y3⟩)
    · exact ok_ck (by decide) (ok_if (fun _ => ok_some (ok_go rfl ⟨⟨i + 1, c1 i, by omega⟩, cnt (by omega)⟩)) (fun z => absurd rfl z))
    · exact ok_ck (by decide) (ok_if (fun z => absurd z (by decide)) (fun _ => ok_some (ok_out ne0 (Or.inr ⟨rfl, i, rfl, by omega, y1, y2, y3⟩))))
  · rintro ⟨t, x⟩ (etr | ⟨etr, hx⟩)
    · have et : t = 2 := etr
      subst et
      exact ok_if (fun z => absurd z (by decide)) (fun _ => ok_if (fun _ => ok_some (Or.inl rfl)) (fun z => absurd rfl z))
    · have et : t = 1 := etr
      subst et
      exact ok_if (fun _ => ok_some (Or.inr hx)) (fun z => absurd rfl z)
def nw {α : Type} (k : Nat) (x : α) (f : Nat → α) (i : Nat) : α := if i = k then x else f i
theorem nw_at {α : Type} (k : Nat) (x : α) (f : Nat → α) : nw k x f k = x := if_pos rfl
theorem nw_ne {α : Type} {k i : Nat} {x : α} {f : Nat → α} (h : i ≠ k) : nw k x f i = f i := if_neg h
def plC (C : Nat → Int) (j : Nat) (x : Int) (i : Nat) : Int := if i = j then C i + x else C i
theorem plC_sum {C : Nat → Int} {j kk : Nat} {x : Int} (h : j < kk) : sN (plC C j x) kk = sN C kk + x := sN_at (i := j) h fun i _ => by
  show (if i = j then C i + x else C i) = _
  by_cases e : i = j
  · rw [if_pos e, if_pos e, e]
  · rw [if_neg e, if_neg e]
theorem nw_sum {C : Nat → Int} {kk : Nat} {x : Int} : sN (nw kk x C) (kk + 1) = sN C kk + x := by
  rw [sN_succ, nw_at, sN_congr (g := C) (fun i hi => nw_ne (by omega))]
def oKe (c : Nat) : Prop := c = 2 ∨ (5 ≤ c ∧ c ≤ 7) ∨ (9 ≤ c ∧ c ≤ 39)
theorem keepTrial_ok {E : Ev} {M : Mm} {n kk g a : Nat} {C : Nat → Int} {G : Nat → Nat} {R : Nat → Nat → Nat} {A : Nat → Nat} {r : Nat → Nat} (h : BX M n kk C G R A) (ht : Rk M 30 n g r a) (hk : kk < 30) : Ok (f_Bx_keepTrial E M) (fun y => y.1 = (kk : Int) ∧ Off oKe M y.2 ∧ BX y.2 n (kk + 1) (nw kk 0 C) (nw kk g G) (nw kk r R) (nw kk a A) ∧ (∀ c, c ≠ 3 → y.2 2 c = M 2 c) ∧ y.2 1 = M 1) := by
  obtain ⟨h22, hn, h23, hk9, hR, hs⟩ := h
  obtain ⟨t7, t6, tG, tA, t9, tR, tne⟩ := ht
  unfold f_Bx_keepTrial
  rw [h23, Int.toNat_natCast]
  refine ok_ck (inN (by omega) (by decide)) (ok_nbx fun v101 e1 => ok_nbx fun v102 e2 => ok_ck (by decide) (ok_nbx fun K eK => ok_some ?_))
  have e1 : v101 = (a : Int) := by rw [e1, u2_ne (Or.inl (by decide))]; exact t6
  have e2 : v102 = (g : Int) := by rw [e2, u2_ne (Or.inl (by decide)), u2_ne (Or.inl (by decide))]; exact t7
  have K9 : ∀ i, i < 8 → K (9 + kk) i = M 39 i := fun i hi => by
    rw [eK, uA_at]
    unfold va_cpy
    rw [if_pos ⟨Nat.zero_le _, by omega⟩, u2_ne (Or.inl (by decide)), u2_ne (Or.inl (by decide)), u2_ne (Or.inl (by decide))]
    exact congrArg (M 39) (by omega)
  have Kn : ∀ c, c ≠ 9 + kk → ∀ i, K c i = (if c = 7 ∧ i = kk then (g : Int) else if c = 6 ∧ i = kk then (a : Int) else if c = 5 ∧ i = kk then 0 else M c i) := fun c hc i => by
    rw [eK, uA_row hc, u2_if, u2_if, u2_if, e1, e2]
  have oK : Off oKe M (u2 K 2 3 (K 2 3 + 1)) := fun c hc => by
    have hc2 : c ≠ 2 := fun q => hc (by rw [q]; unfold oKe; decide)
    have hc7 : c ≠ 7 := fun q => hc (by rw [q]; unfold oKe; decide)
    have hc6 : c ≠ 6 := fun q => hc (by rw [q]; unfold oKe; decide)
    have hc5 : c ≠ 5 := fun q => hc (by rw [q]; unfold oKe; decide)
    have hc9 : c ≠ 9 + kk := fun q => hc (by rw [q]; unfold oKe; omega)
    funext i
    rw [u2_row hc2, Kn c hc9 i, if_neg (fun q => hc7 q.1), if_neg (fun q => hc6 q.1), if_neg (fun q => hc5 q.1)]
  have K2 : ∀ i, K 2 i = M 2 i := fun i => by rw [Kn 2 (by omega) i, if_neg (by omega), if_neg (by omega), if_neg (by omega)]
  refine ⟨rfl, oK, ⟨?_, hn, ?_, by omega, fun k hkk => ?_, ?_⟩, fun c hc => ?_, ?_⟩
  · show u2 K 2 3 (K 2 3 + 1) 2 2 = _
    rw [u2_ne (Or.inr (by decide)), K2]; exact h22
  · show u2 K 2 3 (K 2 3 + 1) 2 3 = _
    rw [u2_at, K2, h23]; rfl
  · show Rk (u2 K 2 3 (K 2 3 + 1)) k n _ _ _ ∧ u2 K 2 3 (K 2 3 + 1) 5 k = _ ∧ _
    rw [u2_ne (Or.inl (by decide))]
    by_cases e : k = kk
    · rw [e, nw_at, nw_at, nw_at, nw_at]
      refine ⟨⟨?_, ?_, tG, tA, fun x hx => ?_, tR, tne⟩, ?_, Int.le_refl 0⟩
      · rw [u2_ne (Or.inl (by decide)), Kn 7 (by omega), if_pos ⟨rfl, rfl⟩]
      · rw [u2_ne (Or.inl (by decide)), Kn 6 (by omega), if_neg (by omega), if_pos ⟨rfl, rfl⟩]
      · rw [u2_ne (Or.inl (by omega)), K9 x (by omega)]; exact t9 x hx
      · rw [Kn 5 (by omega), if_neg (by omega), if_neg (by omega), if_pos ⟨rfl, rfl⟩]
    · obtain ⟨r1, r2, r3⟩ := hR k (by omega)
      rw [nw_ne e, nw_ne e, nw_ne e, nw_ne e]
      refine ⟨r1.of ?_ ?_ ?_, ?_, r3⟩
      · rw [u2_ne (Or.inl (by decide)), Kn 7 (by omega), if_neg (by omega), if_neg (by omega), if_neg (by omega)]
      · rw [u2_ne (Or.inl (by decide)), Kn 6 (by omega), if_neg (by omega), if_neg (by omega), if_neg (by omega)]
      · rw [u2_row (by omega)]
        funext i
        rw [Kn (9 + k) (by omega) i, if_neg (by omega), if_neg (by omega), if_neg (by omega)]
      · rw [Kn 5 (by omega), if_neg (by omega), if_neg (by omega), if_neg (by omega)]; exact r2
  · rw [nw_sum]; omega
  · show u2 K 2 3 (K 2 3 + 1) 2 c = _
    rw [u2_ne (Or.inr hc), K2]
  · funext i
    show u2 K 2 3 (K 2 3 + 1) 1 i = _
    rw [u2_ne (Or.inl (by decide)), Kn 1 (by omega) i, if_neg (by omega), if_neg (by omega), if_neg (by omega)]
