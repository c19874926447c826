/-! SOLID COALITIONS -/
def sol (R : Nat → Nat) (n S : Nat) : Prop := ∀ c d, c < n → d < n → S.testBit c = true → ¬ S.testBit d = true → R c < R d
noncomputable def Vs (kk : Nat) (C : Nat → Int) (R : Nat → Nat → Nat) (n S : Nat) : Int := sN (fun k => C k * ind (sol (R k) n S)) kk
theorem bit_int (S k : Nat) : ((S : Int) / 2 ^ k) % 2 = if S.testBit k = true then 1 else 0 := by
  rw [bt_int, bt_tb]
  by_cases e : S.testBit k = true
  · rw [if_pos e, if_pos e]; rfl
  · rw [if_neg e, if_neg e]; rfl
theorem lbSolid_ok {E : Ev} {M : Mm} {q n kk S : Nat} {C : Nat → Int} {G : Nat → Nat} {R : Nat → Nat → Nat} {A : Nat → Nat} (h : LB E M q n kk C G R) (hB : BX M n kk C G R A) (hn : n ≤ 5) (hS : S < 2 ^ n) : Ok (f_Lb_solid E M q (S : Int)) (fun r => r = Vs kk C R n S) := by
  have hpw := pow_lt (show n ≤ 8 by omega)
  obtain ⟨a1, a2, a3, a4, a5, pr, pm, b1, b2, b3, b4, b5, b6, b7, b8, b9, b10⟩ := h
  unfold f_Lb_solid
  refine ok_ck a1 (ok_bm (R := fun r => r.1 = 1 ∧ r.2.1 = Vs kk C R n S) ?_ ?_)
  · refine L_Lb_solid_4 E q (S : Int) M (I := fun x2 x3 => ∃ k : Nat, x3 = (k : Int) ∧ k ≤ kk ∧ x2 = sN (fun k => C k * ind (sol (R k) n S)) k) (μ := fun _ x3 => kk - x3.toNat) ?_ FU 0 0 ⟨0, rfl, Nat.zero_le _, rfl⟩ (by show kk - _ < 5000; omega)
    rintro x2 x3 ⟨k, rfl, hk, rfl⟩
    unfold Lb_solid_4b
    rw [a4]
    refine ok_ck a1 (ok_ck (rgN (by omega)) (ok_ck (rgN (by omega)) (ok_if (fun z => ?_) (fun z => ?_))))
    · have e : k = kk := by omega
      subst e
      exact ok_some (ok_out ne0 ⟨rfl, rfl⟩)
    · have hkk : k < kk := by omega
      obtain ⟨p, p1, p2, p3, p4, p5⟩ := b10 k hkk
      have rk := (hB.2.2.2.2.1 k hkk).1
      have rle := rk.2.2.2.2.2.1
      have rg := rk.2.2.1
      have P : ∀ c d, c < n → d < n → (lrk (R k c) (G k) < lrk (R k d) (G k) ↔ R k c < R k d) := fun c d hc hd => lrk_lt (rle c hc) (rle d hd) (by omega)
      refine ok_bm (R := fun r => r.1 = 1 ∧ ((r.2.1 = 1 ∧ sol (R k) n S) ∨ (r.2.1 = 0 ∧ ¬ sol (R k) n S))) ?_ ?_
      · refine L_Lb_solid_18 E q (S : Int) (sN (fun k => C k * ind (sol (R k) n S)) k) (k : Int) M (I := fun x4 x5 => ∃ c : Nat, x5 = (c : Int) ∧ c ≤ n ∧ ((x4 = 1 ∧ ∀ c' d, c' < c → d < n → S.testBit c' = true → ¬ S.testBit d = true → R k c' < R k d) ∨ (x4 = 0 ∧ ¬ sol (R k) n S))) (μ := fun _ x5 => n - x5.toNat) ?_ FU 1 0 ⟨0, rfl, Nat.zero_le _, Or.inl ⟨rfl, fun c' d h1 => absurd h1 (Nat.not_lt_zero _)⟩⟩ (by show n - _ < 5000; omega)
        rintro x4 x5 ⟨c, rfl, hc, hx⟩
        unfold Lb_solid_18b
        rw [a3]
        refine ok_ck a1 (ok_ck (rgN (by omega)) (ok_ck (rgN (by omega)) (ok_if (fun z => ?_) (fun z => ?_))))
        · have e : c = n := by omega
          subst e
          refine ok_some (ok_out ne0 ⟨rfl, ?_⟩)
          rcases hx with ⟨h1, h2⟩ | h1
          · exact Or.inl ⟨h1, fun c d hc hd => h2 c d hc hd⟩
          · exact Or.inr h1
        · have hcn : c < n := by omega
          refine ok_bm (R := fun r => r.1 = 1 ∧ ((r.2.1 = 1 ∧ ∀ c' d, c' < c + 1 → d < n → S.testBit c' = true → ¬ S.testBit d = true → R k c' < R k d) ∨ (r.2.1 = 0 ∧ ¬ sol (R k) n S))) ?_ ?_
          · refine L_Lb_solid_30 E q (S : Int) (sN (fun k => C k * ind (sol (R k) n S)) k) (k : Int) (c : Int) M (I := fun x4 x6 => ∃ d : Nat, x6 = (d : Int) ∧ d ≤ n ∧ ((x4 = 1 ∧ (∀ c' d, c' < c → d < n → S.testBit c' = true → ¬ S.testBit d = true → R k c' < R k d) ∧ ∀ d', d' < d → S.testBit c = true → ¬ S.testBit d' = true → R k c < R k d') ∨ (x4 = 0 ∧ ¬ sol (R k) n S))) (μ := fun _ x6 => n - x6.toNat) ?_ FU x4 0 ⟨0, rfl, Nat.zero_le _, ?_⟩ (by show n - _ < 5000; omega)
            · rintro y4 x6 ⟨d, rfl, hd, hy⟩
              unfold Lb_solid_30b
              rw [a3, Int.toNat_natCast, Int.toNat_natCast, bit_int, bit_int]
              refine ok_ck a1 (ok_ck (rgN (by omega)) (ok_ck (rgN (by omega)) (ok_if (fun z => ?_) (fun z => ?_))))
              · have e : d = n := by omega
                subst e
                refine ok_some (ok_out ne0 ⟨rfl, ?_⟩)
                rcases hy with ⟨h1, h2, h3⟩ | h1
                · refine Or.inl ⟨h1, fun c' d' q1 q2 q3 q4 => ?_⟩
                  by_cases e : c' = c
                  · rw [e] at q3 ⊢; exact h3 d' q2 q3 q4
                  · exact h2 c' d' (by omega) q2 q3 q4
                · exact Or.inr h1
              · have hdn : d < n := by omega
                rcases hy with ⟨rfl, h2, h3⟩ | ⟨rfl, h2⟩
                · have good : (S.testBit c = true → ¬ S.testBit d = true → R k c < R k d) → Ok (some (0, 1, (d : Int) + 1) : Option (Nat × Int × Int)) (fun r => (r.1 = 0 → (∃ d : Nat, r.2.2 = (d : Int) ∧ d ≤ n ∧ ((r.2.1 = 1 ∧ (∀ c' d, c' < c → d < n → S.testBit c' = true → ¬ S.testBit d = true → R k c' < R k d) ∧ ∀ d', d' < d → S.testBit c = true → ¬ S.testBit d' = true → R k c < R k d') ∨ (r.2.1 = 0 ∧ ¬ sol (R k) n S))) ∧ n - r.2.2.toNat < n - (d : Int).toNat) ∧ (r.1 ≠ 0 → r.1 = 1 ∧ ((r.2.1 = 1 ∧ ∀ c' d, c' < c + 1 → d < n → S.testBit c' = true → ¬ S.testBit d = true → R k c' < R k d) ∨ (r.2.1 = 0 ∧ ¬ sol (R k) n S)))) := fun g => ok_some (ok_go rfl ⟨⟨d + 1, c1 d, by omega, Or.inl ⟨rfl, h2, fun d' q1 q2 q3 => by
                    by_cases e : d' = d
                    · rw [e] at q3 ⊢; exact g q2 q3
                    · exact h3 d' (by omega) q2 q3⟩⟩, cnt hdn⟩)
                  refine ok_ck (by decide) (ok_if (fun w => absurd w (by decide)) (fun _ => ok_ck (rgN (by omega)) (ok_ck ⟨by omega, by omega⟩ ?_)))
                  by_cases ec : S.testBit c = true
                  · rw [if_pos ec]
                    refine ok_if (fun w => absurd w (by decide)) (fun _ => ok_ck ⟨by omega, by omega⟩ ?_)
                    by_cases ed : S.testBit d = true
                    · rw [if_pos ed]
                      exact ok_if (fun _ => good (fun _ q => absurd ed q)) (fun w => absurd rfl w)
                    · rw [if_neg ed]
                      refine ok_if (fun w => absurd w (by decide)) (fun _ => ?_)
                      rw [b1]
                      refine ok_sb (ok_ck b2 (ok_ck (by rw [b3]; exact inN (by omega) (by decide)) ?_))
                      rw [Int.toNat_natCast, p1]
                      refine ok_sb (ok_ck p3 (ok_ck (by rw [p4]; exact inN hcn (by omega)) (ok_sb (ok_ck b2 (ok_ck (by rw [b3]; exact inN (by omega) (by decide)) ?_)))))
                      rw [p1]
                      refine ok_sb (ok_ck p3 (ok_ck (by rw [p4]; exact inN hdn (by omega)) ?_))
                      have l1 := lrk_b (R k c) (G k) (by omega)
                      have l2 := lrk_b (R k d) (G k) (by omega)
                      rw [p5 c hcn, p5 d hdn]
                      have pp := P c d hcn hdn
                      refine ok_ck ⟨by omega, by omega⟩ (ok_ck ⟨by omega, by omega⟩ (ok_if (fun w => ?_) (fun w => good (fun _ _ => pp.mp (by omega)))))
                      refine ok_some (ok_go rfl ⟨⟨d + 1, c1 d, by omega, Or.inr ⟨rfl, fun hs => ?_⟩⟩, cnt hdn⟩)
                      have := pp.mpr (hs c d hcn hdn ec ed)
                      omega
                  · rw [if_neg ec]
                    exact ok_if (fun _ => good (fun q => absurd q ec)) (fun w => absurd rfl w)
                · exact ok_ck (by decide) (ok_if (fun _ => ok_some (ok_go rfl ⟨⟨d + 1, c1 d, by omega, Or.inr ⟨rfl, h2⟩⟩, cnt hdn⟩)) (fun w => absurd rfl w))
            · rcases hx with ⟨h1, h2⟩ | h1
              · exact Or.inl ⟨h1, h2, fun d' q => absurd q (Nat.not_lt_zero _)⟩
              · exact Or.inr h1
          · rintro ⟨t, y4, x6⟩ ⟨g1, g2⟩
            exact ok_ck g1 (ok_some (ok_go rfl ⟨⟨c + 1, c1 c, by omega, g2⟩, cnt hcn⟩))
      · rintro ⟨t, x4, x5⟩ ⟨g1, ⟨g2r, g3⟩ | ⟨g2r, g3⟩⟩
        · have g2 : x4 = 1 := g2r
          subst g2
          refine ok_ck g1 (ok_ck (by decide) (ok_if (fun w => absurd w (by decide)) (fun _ => ?_)))
          rw [b5]
          refine ok_sb (ok_ck b6 (ok_ck (by rw [b7]; exact inN (by omega) (by decide)) (ok_some (ok_go rfl ⟨⟨k + 1, c1 k, by omega, ?_⟩, cnt hkk⟩))))
          show sN (fun k => C k * ind (sol (R k) n S)) k + M pm k = _
          rw [sN_succ, ind_t g3, Int.mul_one, b9 k hkk]
        · have g2 : x4 = 0 := g2r
          subst g2
          refine ok_ck g1 (ok_ck (by decide) (ok_if (fun _ => ok_some (ok_go rfl ⟨⟨k + 1, c1 k, by omega, ?_⟩, cnt hkk⟩)) (fun w => absurd rfl w)))
          show sN (fun k => C k * ind (sol (R k) n S)) k + 0 = _
          rw [sN_succ, ind_f g3, Int.mul_zero]
  · rintro ⟨t, x2, x3⟩ ⟨g1, g2⟩
    exact ok_ck g1 (ok_some g2)
