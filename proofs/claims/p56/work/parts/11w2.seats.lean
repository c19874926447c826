/-! SEATS: one division among takers -/
/-- the divisors, by the rule -/
def dv (r s : Int) : Int := if r = 0 then s + 1 else if r = 1 then 2 * s + 1 else if r = 2 then (if s = 0 then 14 else 20 * s + 10) else if r = 3 then 3 * s + 1 else s + 2
theorem dv_mono {r s t : Int} (h : 0 ≤ s) (g : s ≤ t) : 1 ≤ dv r s ∧ dv r s ≤ dv r t := by
  unfold dv
  by_cases c0 : r = 0
  · rw [if_pos c0, if_pos c0]; omega
  · rw [if_neg c0, if_neg c0]
    by_cases c1 : r = 1
    · rw [if_pos c1, if_pos c1]; omega
    · rw [if_neg c1, if_neg c1]
      by_cases c2 : r = 2
      · rw [if_pos c2, if_pos c2]
        by_cases c3 : s = 0
        · rw [if_pos c3]
          by_cases c4 : t = 0
          · rw [if_pos c4]; omega
          · rw [if_neg c4]; omega
        · rw [if_neg c3, if_neg (show ¬ t = 0 by omega)]; omega
      · rw [if_neg c2, if_neg c2]
        by_cases c3 : r = 3
        · rw [if_pos c3, if_pos c3]; omega
        · rw [if_neg c3, if_neg c3]; omega
theorem dv_top {r s : Int} (h : 0 ≤ s) (g : s ≤ 100) : dv r s ≤ 3000 := by
  unfold dv
  by_cases c0 : r = 0
  · rw [if_pos c0]; omega
  · rw [if_neg c0]
    by_cases c1 : r = 1
    · rw [if_pos c1]; omega
    · rw [if_neg c1]
      by_cases c2 : r = 2
      · rw [if_pos c2]
        by_cases c3 : s = 0
        · rw [if_pos c3]; omega
        · rw [if_neg c3]; omega
      · rw [if_neg c2]
        by_cases c3 : r = 3
        · rw [if_pos c3]; omega
        · rw [if_neg c3]; omega
theorem divisor_eq {E : Ev} {M : Mm} {p : Nat} {r s : Int} (hI : isDi E p) (hr : rgI r) (h0 : 0 ≤ s) (h1 : s ≤ 100) : f_Di_divisor E M p r s = some (dv r s) := by
  unfold f_Di_divisor dv
  rw [ck_i hI, ck_i hr]
  by_cases c0 : r = 0
  · rw [if_pos c0, if_pos c0, ck_i ⟨by omega, by omega⟩]
  · rw [if_neg c0, if_neg c0]
    by_cases c1 : r = 1
    · rw [if_pos c1, if_pos c1, ck_i ⟨by omega, by omega⟩]
    · rw [if_neg c1, if_neg c1]
      by_cases c2 : r = 2
      · rw [if_pos c2, if_pos c2, ck_i ⟨by omega, by omega⟩]
        by_cases c3 : s = 0
        · rw [if_pos c3, if_pos c3]
        · rw [if_neg c3, if_neg c3, ck_i ⟨by omega, by omega⟩]
      · rw [if_neg c2, if_neg c2]
        by_cases c3 : r = 3
        · rw [if_pos c3, if_pos c3, ck_i ⟨by omega, by omega⟩]
        · rw [if_neg c3, if_neg c3, ck_i ⟨by omega, by omega⟩]
/-- a division's takers: m of them, their votes, their seats -/
def DT (M : Mm) (p m : Nat) : Prop := M p 0 = (m : Int) ∧ m ≤ 8 ∧ ∀ i, i < m → (0 ≤ M (p + 1) i ∧ M (p + 1) i < 8) ∧ (1 ≤ M (p + 2) i ∧ M (p + 2) i ≤ 80000000) ∧ rgI (M (p + 3) i) ∧ (0 ≤ M (p + 4) i ∧ M (p + 4) i ≤ 100)
theorem winsTie_ok {E : Ev} {M : Mm} {p m i j : Nat} (hI : isDi E p) (h : DT M p m) (hi : i < m) (hj : j < m) : Ok (f_Di_winsTie E M p (i : Int) (j : Int)) (fun r => r = 0 ∨ r = 1) := by
  obtain ⟨-, h8, ht⟩ := h
  obtain ⟨a1, a2, a3, -⟩ := ht i hi
  obtain ⟨b1, b2, b3, -⟩ := ht j hj
  unfold f_Di_winsTie
  rw [Int.toNat_natCast, Int.toNat_natCast]
  refine ok_ck hI (ok_ck ⟨by omega, by omega, by omega⟩ (ok_ck ⟨by omega, by omega, by omega⟩ (ok_ck ⟨by omega, by omega⟩ (ok_ck ⟨by omega, by omega⟩ (ok_if (fun _ => ?_) (fun _ => ok_if (fun _ => ok_some (Or.inl rfl)) (fun _ => ok_some (Or.inr rfl))))))))
  refine ok_ck a3 (ok_ck b3 (ok_if (fun _ => ok_some (Or.inr rfl)) (fun _ => ok_if (fun _ => ?_) (fun _ => ok_some (Or.inl rfl)))))
  exact ok_ck ⟨by omega, by omega⟩ (ok_ck ⟨by omega, by omega⟩ (ok_if (fun _ => ok_some (Or.inl rfl)) (fun _ => ok_some (Or.inr rfl))))
/-- i's quotient is as great as j's -/
def qge (M : Mm) (p : Nat) (r : Int) (i j : Nat) : Prop := M (p + 2) j * dv r (M (p + 4) i) ≤ M (p + 2) i * dv r (M (p + 4) j)
theorem prod_rg {a b : Int} (ha : 0 ≤ a) (ha2 : a ≤ 80000000) (hb : 0 ≤ b) (hb2 : b ≤ 3000) : rgJ (a * b) ∧ 0 ≤ a * b := by
  have h1 := Int.mul_nonneg ha hb
  have h2 : a * b ≤ 80000000 * 3000 := Int.mul_le_mul ha2 hb2 hb (by decide)
  exact ⟨⟨by omega, by omega⟩, h1⟩
theorem greater_ok {E : Ev} {M : Mm} {p m i j : Nat} {r : Int} (hI : isDi E p) (h : DT M p m) (hi : i < m) (hj : j < m) (hr : rgI r) : Ok (f_Di_hasGreaterQuotient E M p (i : Int) (j : Int) r) (fun x => (x = 0 ∧ qge M p r j i) ∨ (x = 1 ∧ qge M p r i j)) := by
  have h8 := h.2.1
  obtain ⟨a1, a2, a3, a4⟩ := h.2.2 i hi
  obtain ⟨b1, b2, b3, b4⟩ := h.2.2 j hj
  have c1 := (dv_mono (r := r) b4.1 (Int.le_refl (M (p + 4) j))).1
  have c2 := dv_top (r := r) b4.1 b4.2
  have c3 := (dv_mono (r := r) a4.1 (Int.le_refl (M (p + 4) i))).1
  have c4 := dv_top (r := r) a4.1 a4.2
  unfold f_Di_hasGreaterQuotient qge
  rw [Int.toNat_natCast, Int.toNat_natCast, divisor_eq hI hr b4.1 b4.2, divisor_eq hI hr a4.1 a4.2]
  refine ok_ck hI (ok_ck ⟨by omega, by omega, by omega⟩ (ok_ck ⟨by omega, by omega, by omega⟩ (ok_sb (ok_nb (ok_sb (ok_nb (ok_ck (prod_rg (by omega) (by omega) (by omega) c2).1 (ok_ck (prod_rg (by omega) (by omega) (by omega) c4).1 (ok_if (fun q => ok_some (Or.inr ⟨rfl, by omega⟩)) (fun q => ok_if (fun q2 => ?_) (fun q2 => ok_some (Or.inl ⟨rfl, by omega⟩))))))))))))
  refine ok_bm (winsTie_ok hI h hi hj) ?_
  rintro x hx
  refine ok_ck (by rcases hx with e | e <;> subst e <;> decide) (ok_if (fun _ => ok_some (Or.inl ⟨rfl, by omega⟩)) (fun _ => ok_some (Or.inr ⟨rfl, by omega⟩)))
theorem qge_refl (M : Mm) (p : Nat) (r : Int) (i : Nat) : qge M p r i i := Int.le_refl _
theorem qge_trans {M : Mm} {p m : Nat} {r : Int} (h : DT M p m) {i j k : Nat} (hi : i < m) (hj : j < m) (hk : k < m) (g1 : qge M p r i j) (g2 : qge M p r j k) : qge M p r i k := by
  obtain ⟨-, a2, -, a4⟩ := h.2.2 i hi
  obtain ⟨-, b2, -, b4⟩ := h.2.2 j hj
  obtain ⟨-, c2, -, c4⟩ := h.2.2 k hk
  have d1 := (dv_mono (r := r) a4.1 (Int.le_refl (M (p + 4) i))).1
  have d2 := (dv_mono (r := r) b4.1 (Int.le_refl (M (p + 4) j))).1
  have d3 := (dv_mono (r := r) c4.1 (Int.le_refl (M (p + 4) k))).1
  unfold qge at g1 g2 ⊢
  obtain ⟨x, hx⟩ : ∃ x, x = dv r (M (p + 4) i) := ⟨_, rfl⟩
  obtain ⟨y, hy⟩ : ∃ y, y = dv r (M (p + 4) j) := ⟨_, rfl⟩
  obtain ⟨z, hz⟩ : ∃ z, z = dv r (M (p + 4) k) := ⟨_, rfl⟩
  rw [← hx, ← hy] at g1
  rw [← hy, ← hz] at g2
  rw [← hx] at d1
  rw [← hy] at d2
  rw [← hz] at d3
  rw [← hx, ← hz]
  -- times y on both sides
  have e1 : M (p + 2) j * x * z ≤ M (p + 2) i * y * z := Int.mul_le_mul_of_nonneg_right g1 (by omega)
  have e2 : M (p + 2) k * y * x ≤ M (p + 2) j * z * x := Int.mul_le_mul_of_nonneg_right g2 (by omega)
  have e3 : M (p + 2) k * x * y ≤ M (p + 2) i * z * y := by
    have f1 : M (p + 2) j * x * z = M (p + 2) j * z * x := by grind
    have f2 : M (p + 2) k * y * x = M (p + 2) k * x * y := by grind
    have f3 : M (p + 2) i * y * z = M (p + 2) i * z * y := by grind
    omega
  exact Int.le_of_mul_le_mul_right e3 (by omega)
/-- the taker whose turn it is -/
theorem L32_ok {E : Ev} {M : Mm} {p m : Nat} {r x2 x3 : Int} (hI : isDi E p) (h : DT M p m) (hm : 1 ≤ m) (hr : rgI r) : Ok (l_Di_distribute_32 E p r x2 x3 FU M 0 1) (fun a => a.1 = 1 ∧ a.2.2.2 = M ∧ ∃ i : Nat, a.2.1 = (i : Int) ∧ i < m ∧ ∀ j, j < m → qge M p r i j) := by
  have h8 := h.2.1
  refine L_Di_distribute_32 E p r x2 x3 (I := fun N x4 x5 => N = M ∧ ∃ i k : Nat, x4 = (i : Int) ∧ x5 = (k : Int) ∧ i < m ∧ k ≤ m ∧ ∀ j, j < k → qge M p r i j) (μ := fun _ _ x => m - x.toNat) (Q := fun a => a.1 = 1 ∧ a.2.2.2 = M ∧ ∃ i : Nat, a.2.1 = (i : Int) ∧ i < m ∧ ∀ j, j < m → qge M p r i j) ?_ FU M 0 1 ⟨rfl, 0, 1, rfl, rfl, by omega, hm, fun j hj => by rw [show j = 0 by omega]; exact qge_refl M p r 0⟩ (by show m - _ < 5000; omega)
  rintro N x4 x5 ⟨rfl, i, k, rfl, rfl, hi, hk, hq⟩
  unfold Di_distribute_32b
  rw [h.1]
  refine ok_ck hI (ok_ck ⟨by omega, by omega⟩ (ok_ck ⟨by omega, by omega⟩ (ok_if (fun c => ?_) (fun c => ?_))))
  · have e : k = m := by omega
    rw [e] at hq
    exact ok_some (ok_out (by show (1 : Nat) ≠ 0; decide) ⟨rfl, rfl, i, rfl, hi, hq⟩)
  · have hkm : k < m := by omega
    refine ok_bm (greater_ok hI h hkm hi hr) ?_
    rintro x hx
    have hx01 : x = 0 ∨ x = 1 := hx.imp And.left And.left
    refine ok_ck ⟨by omega, by omega⟩ (ok_if (fun q => ?_) (fun q => ?_))
    · have g : qge N p r i k := by
        rcases hx with ⟨-, g⟩ | ⟨e, -⟩
        · exact g
        · omega
      refine ok_some (ok_go rfl ⟨⟨rfl, i, k + 1, rfl, by show (k : Int) + 1 = _; omega, hi, by omega, fun j hj => ?_⟩, by show m - ((k : Int) + 1).toNat < m - (k : Int).toNat; omega⟩)
      by_cases e : j = k
      · rw [e]; exact g
      · exact hq j (by omega)
    · have g : qge N p r k i := by
        rcases hx with ⟨e, -⟩ | ⟨-, g⟩
        · omega
        · exact g
      refine ok_some (ok_go rfl ⟨⟨rfl, k, k + 1, rfl, by show (k : Int) + 1 = _; omega, hkm, by omega, fun j hj => ?_⟩, by show m - ((k : Int) + 1).toNat < m - (k : Int).toNat; omega⟩)
      by_cases e : j = k
      · rw [e]; exact qge_refl N p r k
      · exact qge_trans h hkm hi (by omega) g (hq j (by omega))
