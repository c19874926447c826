/-- some seats to one taker -/
theorem L89_ok {E : Ev} {M : Mm} {p m i t c : Nat} {x1 x2 x4 : Int} (hI : isDi E p) (h : DT M p m) (hi : i < m) (hd : ∀ a b, a < m → b < m → M (p + 1) a = M (p + 1) b → a = b) (h1 : M p 1 = (t : Int)) (hs : sN (M (p + 4)) m = (t : Int)) (hc : t + c ≤ 60) (hO : OC M p m t) : Ok (l_Di_distributeByRemainders_89 E p x1 x2 x4 (i : Int) (c : Int) FU M 0) (fun a => a.1 = 1 ∧ Off (fun c => c = p ∨ c = p + 4 ∨ c = p + 6) M a.2.2 ∧ DT a.2.2 p m ∧ a.2.2 p 1 = ((t + c : Nat) : Int) ∧ sN (a.2.2 (p + 4)) m = ((t + c : Nat) : Int) ∧ (∀ k, a.2.2 (p + 4) k = if k = i then M (p + 4) i + (c : Int) else M (p + 4) k) ∧ OC a.2.2 p m (t + c)) := by
  refine L_Di_distributeByRemainders_89 E p x1 x2 x4 (i : Int) (c : Int) (I := fun N x => ∃ e : Nat, x = (e : Int) ∧ e ≤ c ∧ Off (fun c => c = p ∨ c = p + 4 ∨ c = p + 6) M N ∧ DT N p m ∧ N p 1 = ((t + e : Nat) : Int) ∧ sN (N (p + 4)) m = ((t + e : Nat) : Int) ∧ (∀ k, N (p + 4) k = if k = i then M (p + 4) i + (e : Int) else M (p + 4) k) ∧ OC N p m (t + e)) (μ := fun _ x => c - x.toNat) (Q := fun a => a.1 = 1 ∧ Off (fun c => c = p ∨ c = p + 4 ∨ c = p + 6) M a.2.2 ∧ DT a.2.2 p m ∧ a.2.2 p 1 = ((t + c : Nat) : Int) ∧ sN (a.2.2 (p + 4)) m = ((t + c : Nat) : Int) ∧ (∀ k, a.2.2 (p + 4) k = if k = i then M (p + 4) i + (c : Int) else M (p + 4) k) ∧ OC a.2.2 p m (t + c)) ?_ FU M 0 ⟨0, rfl, Nat.zero_le _, Off.refl, h, h1, hs, fun k => ?_, hO⟩ (by show c - _ < 5000; omega)
  · rintro N x ⟨e, rfl, he, ho, hT, hc1, hsN, h4, hON⟩
    unfold Di_distributeByRemainders_89b
    refine ok_ck hI (ok_ck ⟨by omega, by omega⟩ (ok_ck ⟨by omega, by omega⟩ (ok_if (fun q => ?_) (fun q => ?_))))
    · have e9 : e = c := by omega
      subst e9
      exact ok_some (ok_out (by show (1 : Nat) ≠ 0; decide) ⟨rfl, ho, hT, hc1, hsN, h4, hON⟩)
    · refine ok_bm (give_ok hI hT hi hc1 (by omega)) ?_
      rintro K2 ⟨o1, o2, o3, o4, o5⟩
      have r1 : K2 (p + 1) = N (p + 1) := o1 _ (by omega)
      have r2 : K2 (p + 2) = N (p + 2) := o1 _ (by omega)
      have r3 : K2 (p + 3) = N (p + 3) := o1 _ (by omega)
      have hs2 : sN (K2 (p + 4)) m = ((t + (e + 1) : Nat) : Int) := by
        rw [sN_at (f := N (p + 4)) (i := i) (c := 1) hi (fun k _ => by rw [o2 k]), hsN]
        omega
      have nn : ∀ k, k < m → 0 ≤ K2 (p + 4) k := fun k hk => by
        rw [o2 k]
        have s1 := (hT.2.2 k hk).2.2.2.1
        have s2 := (hT.2.2 i hi).2.2.2.1
        by_cases c : k = i
        · rw [if_pos c]; omega
        · rw [if_neg c]; exact s1
      have hp1 : N (p + 1) = M (p + 1) := ho _ (by omega)
      refine ok_some (ok_go rfl ⟨⟨e + 1, by show (e : Int) + 1 = _; omega, by omega, ho.trans o1, ⟨o3.trans hT.1, hT.2.1, fun k hk => ?_⟩, by show K2 p 1 = _; rw [o4]; omega, hs2, fun k => ?_, OC_give (fun a b ha hb q => hd a b ha hb (by rw [← hp1]; exact q)) hON hi r1 o2 o5⟩, by show c - ((e : Int) + 1).toNat < c - (e : Int).toNat; omega⟩)
      · obtain ⟨b1, b2, b3, b4⟩ := hT.2.2 k hk
        refine ⟨by show 0 ≤ K2 (p + 1) k ∧ K2 (p + 1) k < 8; rw [r1]; exact b1, by show 1 ≤ K2 (p + 2) k ∧ K2 (p + 2) k ≤ 80000000; rw [r2]; exact b2, by show rgI (K2 (p + 3) k); rw [r3]; exact b3, nn k hk, ?_⟩
        have := sN_term nn hk
        show K2 (p + 4) k ≤ 100
        omega
      · show K2 (p + 4) k = _
        rw [o2 k]
        by_cases c : k = i
        · rw [if_pos c, if_pos c, h4 i, if_pos rfl]; omega
        · rw [if_neg c, if_neg c, h4 k, if_neg c]
  · by_cases c : k = i
    · rw [if_pos c, c]
      show _ = _ + (0 : Int)
      omega
    · rw [if_neg c]
/-- the sum of the votes -/
theorem L5_ok {E : Ev} {M : Mm} {p m : Nat} {x1 : Int} (hI : isDi E p) (h : DT M p m) : Ok (l_Di_distributeByRemainders_5 E p x1 FU M 0 0) (fun a => a.1 = 1 ∧ a.2.1 = sN (M (p + 2)) m ∧ a.2.2.2 = M) := by
  have h8 := h.2.1
  refine L_Di_distributeByRemainders_5 E p x1 (I := fun N x2 x4 => N = M ∧ ∃ k : Nat, x4 = (k : Int) ∧ k ≤ m ∧ x2 = sN (M (p + 2)) k) (μ := fun _ _ x => m - x.toNat) (Q := fun a => a.1 = 1 ∧ a.2.1 = sN (M (p + 2)) m ∧ a.2.2.2 = M) ?_ FU M 0 0 ⟨rfl, 0, rfl, Nat.zero_le _, rfl⟩ (by show m - _ < 5000; omega)
  rintro N x2 x4 ⟨rfl, k, rfl, hk, hx⟩
  unfold Di_distributeByRemainders_5b
  rw [h.1, Int.toNat_natCast]
  refine ok_ck hI (ok_ck ⟨by omega, by omega⟩ (ok_ck ⟨by omega, by omega⟩ (ok_if (fun c => ?_) (fun c => ?_))))
  · have e : k = m := by omega
    rw [e] at hx
    exact ok_some (ok_out (by show (1 : Nat) ≠ 0; decide) ⟨rfl, hx, rfl⟩)
  · refine ok_ck ⟨by omega, by omega, by omega⟩ (ok_some (ok_go rfl ⟨⟨rfl, k + 1, by show (k : Int) + 1 = _; omega, by omega, ?_⟩, by show m - ((k : Int) + 1).toNat < m - (k : Int).toNat; omega⟩))
    show x2 + _ = _
    rw [sN_succ, hx]
