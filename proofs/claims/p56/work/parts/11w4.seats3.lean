/-! SEATS BY REMAINDERS -/
theorem L4_ok {E : Ev} {M : Mm} {p m : Nat} (hI : isDi E p) (h : DT M p m) (hm : 1 ≤ m) (hr : ∀ i, i < m → rgJ (M (p + 5) i)) : Ok (l_Di_giveToGreatestRemainder_4 E p FU M 0 1) (fun a => a.1 = 1 ∧ a.2.2.2 = M ∧ ∃ i : Nat, a.2.1 = (i : Int) ∧ i < m ∧ ∀ j, j < m → M (p + 5) j ≤ M (p + 5) i) := by
  have h8 := h.2.1
  refine L_Di_giveToGreatestRemainder_4 E p (I := fun N x1 x2 => N = M ∧ ∃ i k : Nat, x1 = (i : Int) ∧ x2 = (k : Int) ∧ i < m ∧ k ≤ m ∧ ∀ j, j < k → M (p + 5) j ≤ M (p + 5) i) (μ := fun _ _ x => m - x.toNat) (Q := fun a => a.1 = 1 ∧ a.2.2.2 = M ∧ ∃ i : Nat, a.2.1 = (i : Int) ∧ i < m ∧ ∀ j, j < m → M (p + 5) j ≤ M (p + 5) i) ?_ FU M 0 1 ⟨rfl, 0, 1, rfl, rfl, by omega, hm, fun j hj => by rw [show j = 0 by omega]; exact Int.le_refl _⟩ (by show m - _ < 5000; omega)
  rintro N x1 x2 ⟨rfl, i, k, rfl, rfl, hi, hk, hq⟩
  unfold Di_giveToGreatestRemainder_4b
  rw [h.1, Int.toNat_natCast, Int.toNat_natCast]
  refine ok_ck hI (ok_ck ⟨by omega, by omega⟩ (ok_ck ⟨by omega, by omega⟩ (ok_if (fun c => ?_) (fun c => ?_))))
  · have e : k = m := by omega
    rw [e] at hq
    exact ok_some (ok_out (by show (1 : Nat) ≠ 0; decide) ⟨rfl, rfl, i, rfl, hi, hq⟩)
  · have hkm : k < m := by omega
    have keep : N (p + 5) k ≤ N (p + 5) i → ∀ j, j < k + 1 → N (p + 5) j ≤ N (p + 5) i := fun g j hj => by
      by_cases e : j = k
      · rw [e]; exact g
      · exact hq j (by omega)
    have take : N (p + 5) i ≤ N (p + 5) k → ∀ j, j < k + 1 → N (p + 5) j ≤ N (p + 5) k := fun g j hj => by
      by_cases e : j = k
      · rw [e]; exact Int.le_refl _
      · exact Int.le_trans (hq j (by omega)) g
    refine ok_ck ⟨by omega, by omega, by omega⟩ (ok_ck ⟨by omega, by omega, by omega⟩ (ok_ck (hr k hkm) (ok_ck (hr i hi) (ok_if (fun q => ?_) (fun q => ok_if (fun q2 => ?_) (fun q2 => ?_))))))
    · exact ok_some (ok_go rfl ⟨⟨rfl, k, k + 1, rfl, by show (k : Int) + 1 = _; omega, hkm, by omega, take (by omega)⟩, by show m - ((k : Int) + 1).toNat < m - (k : Int).toNat; omega⟩)
    · refine ok_bm (winsTie_ok hI h hkm hi) ?_
      rintro x hx
      refine ok_ck (by rcases hx with e | e <;> subst e <;> decide) (ok_if (fun _ => ?_) (fun _ => ?_))
      · exact ok_some (ok_go rfl ⟨⟨rfl, i, k + 1, rfl, by show (k : Int) + 1 = _; omega, hi, by omega, keep (by omega)⟩, by show m - ((k : Int) + 1).toNat < m - (k : Int).toNat; omega⟩)
      · exact ok_some (ok_go rfl ⟨⟨rfl, k, k + 1, rfl, by show (k : Int) + 1 = _; omega, hkm, by omega, take (by omega)⟩, by show m - ((k : Int) + 1).toNat < m - (k : Int).toNat; omega⟩)
    · exact ok_some (ok_go rfl ⟨⟨rfl, i, k + 1, rfl, by show (k : Int) + 1 = _; omega, hi, by omega, keep (by omega)⟩, by show m - ((k : Int) + 1).toNat < m - (k : Int).toNat; omega⟩)
/-- one seat to the greatest remainder -/
theorem gtgr_ok {E : Ev} {M : Mm} {p m t : Nat} (hI : isDi E p) (h : DT M p m) (hm : 1 ≤ m) (hr : ∀ i, i < m → rgJ (M (p + 5) i)) (h1 : M p 1 = (t : Int)) (ht : t ≤ 60) : Ok (f_Di_giveToGreatestRemainder E M p) (fun N => ∃ i, i < m ∧ (∀ j, j < m → M (p + 5) j ≤ M (p + 5) i) ∧ Off (fun c => c = p ∨ c = p + 4 ∨ c = p + 5 ∨ c = p + 6) M N ∧ (∀ k, N (p + 4) k = if k = i then M (p + 4) i + 1 else M (p + 4) k) ∧ N p 0 = M p 0 ∧ N p 1 = (t : Int) + 1 ∧ (∀ k, N (p + 6) k = if k = t then M (p + 1) i else M (p + 6) k) ∧ ∀ k, N (p + 5) k = if k = i then -1 else M (p + 5) k) := by
  have h8 := h.2.1
  unfold f_Di_giveToGreatestRemainder
  refine ok_ck hI (ok_bm (L4_ok hI h hm hr) ?_)
  rintro ⟨u, y, z, N⟩ ⟨g1, g2, i, g3, g4, g5⟩
  have k1 : u = 1 := g1
  have k2 : N = M := g2
  have k3 : y = (i : Int) := g3
  subst k1 k2 k3
  refine ok_ck rfl (ok_bm (give_ok hI h g4 h1 ht) ?_)
  rintro K ⟨o1, o2, o3, o4, o5⟩
  have e5 : K (p + 5) = N (p + 5) := o1 _ (by omega)
  refine ok_ck ⟨by omega, by omega, by omega⟩ (ok_some ⟨i, g4, g5, (o1.mono fun c hc => by omega).u2 (Or.inr (Or.inr (Or.inl rfl))), fun k => ?_, ?_, ?_, fun k => ?_, fun k => ?_⟩)
  · rw [u2_ne (Or.inl (by omega))]; exact o2 k
  · rw [u2_ne (Or.inl (by omega))]; exact o3
  · rw [u2_ne (Or.inl (by omega))]; exact o4
  · rw [u2_ne (Or.inl (by omega))]; exact o5 k
  · show u2 K (p + 5) (i : Int).toNat (-1) (p + 5) k = _
    rw [Int.toNat_natCast]
    by_cases c : k = i
    · rw [if_pos c, c, u2_at]
    · rw [if_neg c, u2_ne (Or.inr c), e5]
