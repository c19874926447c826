/-- wards of these weights, tables up to d -/
def WS (M : Mm) (n : Nat) (w : Nat → Int) : Prop := M 219 0 = (n : Int) ∧ ∀ k, k < n → M 220 k = w k
def TB (M : Mm) (n : Nat) (w : Nat → Int) (d : Nat) : Prop := ∀ c, 1 ≤ c → c ≤ d → ∀ s, s + c ≤ n → M (225 + c) s = wT w n c s
def dC (i : Nat) : Prop := 225 < i ∧ i ≤ 242
theorem WS.off {M N : Mm} {n : Nat} {w : Nat → Int} (h : WS M n w) (ho : Off dC M N) : WS N n w := by
  have e1 : N 219 = M 219 := ho 219 (fun q => by have := q.1; omega)
  have e2 : N 220 = M 220 := ho 220 (fun q => by have := q.1; omega)
  exact ⟨by rw [e1]; exact h.1, fun k hk => by rw [e2]; exact h.2 k hk⟩
theorem sN_bound {w : Nat → Int} {b : Int} (h : ∀ k, 0 ≤ w k ∧ w k ≤ b) : ∀ n : Nat, 0 ≤ sN w n ∧ sN w n ≤ (n : Int) * b
  | 0 => ⟨Int.le_refl 0, by show (0 : Int) ≤ 0 * b; omega⟩
  | n + 1 => by
    have h1 := sN_bound h n
    have h2 := h n
    have e3 : ((n + 1 : Nat) : Int) * b = (n : Int) * b + b := by rw [show ((n + 1 : Nat) : Int) = (n : Int) + 1 by omega, Int.add_mul]; omega
    rw [sN_succ, e3]
    omega
theorem sN_mono {w : Nat → Int} (h : ∀ k, 0 ≤ w k) : ∀ {a b : Nat}, a ≤ b → sN w a ≤ sN w b
  | a, 0, q => by rw [show a = 0 by omega]; exact Int.le_refl _
  | a, b + 1, q => by
    by_cases e : a = b + 1
    · rw [e]; exact Int.le_refl _
    · have h1 := sN_mono h (show a ≤ b by omega)
      have h2 := h b
      rw [sN_succ]; omega
theorem behind_ok {E : Ev} {M : Mm} {n e c : Nat} {w : Nat → Int} (h : M 219 0 = (n : Int)) (hn : n ≤ 16) (he : e + c + 1 ≤ n) (hT : 1 ≤ c → M (225 + c) (e + 1) = wT w n c (e + 1)) : f_Wa_greatestBehind E M (e : Int) ((c : Int) + 1) = some (wT w n c (e + 1)) := by
  unfold f_Wa_greatestBehind
  rw [h, ck_i ⟨by omega, by omega⟩, ck_i ⟨by omega, by omega⟩]
  by_cases g : (n : Int) ≤ (e : Int) + 1
  · rw [if_pos g, show c = 0 by omega]
    unfold wT
    rw [if_pos (by omega)]
  · rw [if_neg g, ck_i ⟨by omega, by omega⟩]
    by_cases g2 : (c : Int) + 1 ≤ 1
    · rw [if_pos g2, show c = 0 by omega]
      unfold wT
      rw [if_neg (by omega)]
    · rw [if_neg g2, ck_i ⟨by omega, by omega, by omega⟩, ck_i ⟨by omega, by omega, by omega⟩, show ((c : Int) + 1 - 1).toNat = c by omega, show ((e : Int) + 1).toNat = e + 1 by omega, hT (by omega)]
theorem greatestOf_ok {E : Ev} {M : Mm} {n c s : Nat} {w : Nat → Int} (h : WS M n w) (hn : n ≤ 16) (hw : ∀ k, 0 ≤ w k ∧ w k ≤ 100000) (hs : s + c + 1 ≤ n) (hT : 1 ≤ c → ∀ s, s + c ≤ n → M (225 + c) s = wT w n c s) : Ok (f_Wa_greatestOf E M ((c : Int) + 1) (s : Int)) (fun r => r = wT w n (c + 1) s) := by
  have bN := fun k => sN_bound hw k
  unfold f_Wa_greatestOf
  refine ok_bm (L_Wa_greatestOf_9 E ((c : Int) + 1) M (I := fun x3 x4 x5 => ∃ j : Nat, x5 = ((s + j : Nat) : Int) ∧ s + j + c ≤ n ∧ x3 = mnR (fun e => max (sm w s e) (wT w n c (e + 1))) s j ∧ x4 = sN w (s + j) - sN w s) (μ := fun _ _ x => n - x.toNat) (Q := fun r => r.1 = 1 ∧ r.2.1 = wT w n (c + 1) s) ?_ FU 1600001 0 (s : Int) ⟨0, rfl, by omega, rfl, by show (0 : Int) = sN w s - sN w s; omega⟩ (by show n - _ < 5000; omega)) ?_
  · rintro x3 x4 x5 ⟨j, rfl, hj, hx3, hx4⟩
    unfold Wa_greatestOf_9b
    rw [h.1]
    refine ok_ck ⟨by omega, by omega⟩ (ok_ck ⟨by omega, by omega⟩ (ok_if (fun d => ?_) (fun d => ?_)))
    · refine ok_some (ok_out (by show (1 : Nat) ≠ 0; decide) ⟨rfl, ?_⟩)
      show x3 = mnR _ s (n - c - s)
      rw [hx3, show n - c - s = j by omega]
    · have hr := wT_range w n c (s + j + 1)
      have b1 := bN s
      have b2 := bN (s + j)
      have b3 := hw (s + j)
      have b4 := sN_mono (fun k => (hw k).1) (show s ≤ s + j by omega)
      have b5 := mnR_top (fun e => max (sm w s e) (wT w n c (e + 1))) s j
      have b6 := mnR_nonneg (f := fun e => max (sm w s e) (wT w n c (e + 1))) (fun e => Int.le_trans (wT_range w n c (e + 1)).1 (Int.le_max_right _ _)) s j
      rw [behind_ok (w := w) h.1 hn (by omega) (fun q => hT q _ (by omega)), Int.toNat_natCast, h.2 _ (by omega)]
      refine ok_ck ⟨by omega, by omega, by omega⟩ (ok_sb (ok_ck ⟨by omega, by omega⟩ (ok_ck ⟨by omega, by omega⟩ (ok_nb (ok_ck ⟨by omega, by omega⟩ (ok_some (ok_go rfl ⟨⟨j + 1, by show ((s + j : Nat) : Int) + 1 = _; omega, by omega, ?_, ?_⟩, by show n - (((s + j : Nat) : Int) + 1).toNat < n - ((s + j : Nat) : Int).toNat; omega⟩)))))))
      · show min x3 (max (x4 + w (s + j)) (wT w n c (s + j + 1))) = min (mnR _ s j) (max (sm w s (s + j)) (wT w n c (s + j + 1)))
        have e9 : sm w s (s + j) = x4 + w (s + j) := by unfold sm; rw [sN_succ]; omega
        rw [hx3, e9]
      · show x4 + w (s + j) = sN w (s + j + 1) - sN w s
        rw [sN_succ]; omega
  · rintro ⟨t, x, y, z⟩ ⟨g0, g⟩
    exact ok_ck g0 (ok_some g)
theorem firstEnd_ok {E : Ev} {M : Mm} {n c s d : Nat} {w : Nat → Int} {G : Int} (h : M 219 0 = (n : Int)) (hn : n ≤ 16) (hT : TB M n w d) (hc : c + 1 ≤ d) (hs : s + c + 1 ≤ n) (hG : rgI G) : Ok (f_Wa_firstEnd E M (s : Int) ((c : Int) + 1) G) (fun r => ∃ j : Nat, r = (j : Int) ∧ s ≤ j ∧ j + c + 1 ≤ n ∧ (∀ i, s ≤ i → i < j → ¬ wT w n c (i + 1) ≤ G) ∧ (j + c + 1 = n ∨ wT w n c (j + 1) ≤ G)) := by
  unfold f_Wa_firstEnd
  refine ok_bm (L_Wa_firstEnd_3 E ((c : Int) + 1) G M (I := fun x => ∃ j : Nat, x = (j : Int) ∧ s ≤ j ∧ j + c + 1 ≤ n ∧ ∀ i, s ≤ i → i < j → ¬ wT w n c (i + 1) ≤ G) (μ := fun x => n - x.toNat) (Q := fun r => r.1 = 1 ∧ ∃ j : Nat, r.2 = (j : Int) ∧ s ≤ j ∧ j + c + 1 ≤ n ∧ (∀ i, s ≤ i → i < j → ¬ wT w n c (i + 1) ≤ G) ∧ (j + c + 1 = n ∨ wT w n c (j + 1) ≤ G)) ?_ FU (s : Int) ⟨s, rfl, Nat.le_refl _, hs, fun i h1 h2 => absurd h2 (by omega)⟩ (by show n - _ < 5000; omega)) ?_
  · rintro x ⟨j, rfl, h1, h2, h3⟩
    unfold Wa_firstEnd_3b
    rw [h]
    refine ok_ck ⟨by omega, by omega⟩ (ok_ck ⟨by omega, by omega⟩ (ok_if (fun q => ?_) (fun q => ?_)))
    · exact ok_some (ok_out (by show (1 : Nat) ≠ 0; decide) ⟨rfl, j, rfl, h1, h2, h3, Or.inl (by omega)⟩)
    · have hr := wT_range w n c (j + 1)
      rw [behind_ok (w := w) h hn h2 (fun q => hT c q (by omega) _ (by omega))]
      refine ok_sb (ok_ck ⟨by omega, by omega⟩ (ok_ck hG (ok_if (fun q2 => ?_) (fun q2 => ?_))))
      · exact ok_some (ok_out (by show (1 : Nat) ≠ 0; decide) ⟨rfl, j, rfl, h1, h2, h3, Or.inr q2⟩)
      · refine ok_some (ok_go rfl ⟨⟨j + 1, by show (j : Int) + 1 = _; omega, by omega, by omega, fun i i1 i2 => ?_⟩, by show n - ((j : Int) + 1).toNat < n - (j : Int).toNat; omega⟩)
        by_cases e : i = j
        · rw [e]; exact q2
        · exact h3 i i1 (by omega)
  · rintro ⟨t, x⟩ ⟨g0, g⟩
    exact ok_ck g0 (ok_some g)
/-- the tables -/
theorem table_ok {E : Ev} {M : Mm} {n d : Nat} {w : Nat → Int} (h : WS M n w) (hn : n ≤ 16) (hw : ∀ k, 0 ≤ w k ∧ w k ≤ 100000) (hd : d ≤ n) : Ok (l_Wa_divide_2 E (d : Int) FU M 1) (fun r => r.1 = 1 ∧ TB r.2.2 n w d ∧ Off dC M r.2.2) := by
  refine L_Wa_divide_2 E (d : Int) (I := fun N x => ∃ c : Nat, x = (c : Int) + 1 ∧ c ≤ d ∧ TB N n w c ∧ Off dC M N) (μ := fun _ x => d + 1 - x.toNat) (Q := fun r => r.1 = 1 ∧ TB r.2.2 n w d ∧ Off dC M r.2.2) ?_ FU M 1 ⟨0, rfl, Nat.zero_le _, fun c h1 h2 => absurd h2 (by omega), Off.refl⟩ (by show d + 1 - _ < 5000; omega)
  rintro N x ⟨c, rfl, hc, hT, ho⟩
  unfold Wa_divide_2b
  refine ok_ck ⟨by omega, by omega⟩ (ok_ck ⟨by omega, by omega⟩ (ok_if (fun q => ?_) (fun q => ?_)))
  · have e : c = d := by omega
    subst e
    exact ok_some (ok_out (by show (1 : Nat) ≠ 0; decide) ⟨rfl, hT, ho⟩)
  · refine ok_bm (L_Wa_divide_9 E (d : Int) ((c : Int) + 1) (I := fun K x => ∃ s : Nat, x = (s : Int) ∧ s + c ≤ n ∧ TB K n w c ∧ Off dC M K ∧ ∀ i, i < s → K (225 + (c + 1)) i = wT w n (c + 1) i) (μ := fun _ x => n - x.toNat) (Q := fun r => r.1 = 1 ∧ TB r.2.2 n w (c + 1) ∧ Off dC M r.2.2) ?_ FU N 0 ⟨0, rfl, by omega, hT, ho, fun i hi => absurd hi (Nat.not_lt_zero i)⟩ (by show n - _ < 5000; omega)) ?_
    · rintro K x ⟨s, rfl, hs, hTK, hoK, hrow⟩
      have hK := h.off hoK
      unfold Wa_divide_9b
      rw [hK.1]
      refine ok_ck ⟨by omega, by omega⟩ (ok_ck ⟨by omega, by omega⟩ (ok_if (fun q2 => ?_) (fun q2 => ?_)))
      · refine ok_some (ok_out (by show (1 : Nat) ≠ 0; decide) ⟨rfl, fun c2 h1 h2 s2 h3 => ?_, hoK⟩)
        by_cases e : c2 = c + 1
        · subst e; exact hrow s2 (by omega)
        · exact hTK c2 h1 (by omega) s2 h3
      · refine ok_ck ⟨by omega, by omega, by omega⟩ (ok_bm (greatestOf_ok hK hn hw (by omega) (fun q => hTK c q (Nat.le_refl _))) ?_)
        rintro r rfl
        rw [Int.toNat_natCast, show ((c : Int) + 1).toNat = c + 1 by omega]
        refine ok_ck ⟨by omega, by omega, by omega⟩ (ok_some (ok_go rfl ⟨⟨s + 1, by show (s : Int) + 1 = _; omega, by omega, fun c2 h1 h2 s2 h3 => ?_, hoK.u2 ⟨by omega, by omega⟩, fun i hi => ?_⟩, by show n - ((s : Int) + 1).toNat < n - (s : Int).toNat; omega⟩))
        · show u2 K (225 + (c + 1)) s _ (225 + c2) s2 = _
          rw [u2_ne (Or.inl (by omega))]
          exact hTK c2 h1 h2 s2 h3
        · show u2 K (225 + (c + 1)) s _ (225 + (c + 1)) i = _
          by_cases e : i = s
          · rw [e, u2_at]
          · rw [u2_ne (Or.inr e)]; exact hrow i (by omega)
    · rintro ⟨t, x, K⟩ ⟨g0, g1, g2⟩
      exact ok_ck g0 (ok_some (ok_go rfl ⟨⟨c + 1, by show (c : Int) + 1 + 1 = _; omega, by omega, g1, g2⟩, by show d + 1 - ((c : Int) + 1 + 1).toNat < d + 1 - ((c : Int) + 1).toNat; omega⟩))
theorem divide_ok {E : Ev} {M : Mm} {n d : Nat} {w : Nat → Int} (h : WS M n w) (hn : n ≤ 16) (hw : ∀ k, 0 ≤ w k ∧ w k ≤ 100000) (hd0 : 1 ≤ d) (hd : d ≤ n) : Ok (f_Wa_divide E M (d : Int)) (fun r => r.1 = wT w n d 0 ∧ Off dC M r.2 ∧ ∃ p, PL w n (wT w n d 0) d 0 p ∧ ∀ i, i < d → r.2 242 i = (p.getD i 0 : Int)) := by
  unfold f_Wa_divide
  refine ok_bm (table_ok h hn hw hd) ?_
  rintro ⟨t, x, N⟩ ⟨g0, hT, ho⟩
  have g0 : t = 1 := g0
  have hT : TB N n w d := hT
  have ho : Off dC M N := ho
  subst g0
  have hN := h.off ho
  have hG : N (225 + d) 0 = wT w n d 0 := hT d hd0 (Nat.le_refl _) 0 (by omega)
  have hr := wT_range w n d 0
  show Ok (ck ((1 : Nat) = 1) (ck (inb (d : Int) 17) ((l_Wa_divide_59 E (d : Int) (N (225 + (d : Int).toNat) 0) FU N 0 0).bind fun z => ck (z.1 = 1) (some (N (225 + (d : Int).toNat) 0, z.2.2.2))))) _
  rw [Int.toNat_natCast, hG]
  refine ok_ck rfl (ok_ck ⟨by omega, by omega, by omega⟩ (ok_bm (L_Wa_divide_59 E (d : Int) (wT w n d 0) (I := fun K x3 x4 => ∃ (k s : Nat) (pre : List Nat), x4 = (k : Int) ∧ x3 = (s : Int) ∧ k ≤ d ∧ s + (d - k) ≤ n ∧ TB K n w d ∧ Off dC M K ∧ pre.length = k ∧ (∀ i, i < k → K 242 i = (pre.getD i 0 : Int)) ∧ ∀ rest, PL w n (wT w n d 0) (d - k) s rest → PL w n (wT w n d 0) d 0 (pre ++ rest)) (μ := fun _ _ x => d - x.toNat) (Q := fun r => r.1 = 1 ∧ Off dC M r.2.2.2 ∧ ∃ p, PL w n (wT w n d 0) d 0 p ∧ ∀ i, i < d → r.2.2.2 242 i = (p.getD i 0 : Int)) ?_ FU N 0 0 ⟨0, 0, [], rfl, rfl, Nat.zero_le _, by omega, hT, ho, rfl, fun i hi => absurd hi (Nat.not_lt_zero i), fun rest hp => hp⟩ (by show d - _ < 5000; omega)) ?_))
  · rintro K x3 x4 ⟨k, s, pre, rfl, rfl, hk, hs, hTK, hoK, hl, hv, hp⟩
    unfold Wa_divide_59b
    refine ok_ck ⟨by omega, by omega⟩ (ok_ck ⟨by omega, by omega⟩ (ok_if (fun q => ?_) (fun q => ?_)))
    · have e : k = d := by omega
      subst e
      refine ok_some (ok_out (by show (1 : Nat) ≠ 0; decide) ⟨rfl, hoK, pre, ?_, hv⟩)
      have h9 := hp [] (by rw [Nat.sub_self]; exact True.intro)
      rw [List.append_nil] at h9
      exact h9
    · have hK := h.off hoK
      have e1 : (d : Int) - (k : Int) = ((d - k - 1 : Nat) : Int) + 1 := by omega
      rw [e1]
      refine ok_bm (firstEnd_ok (w := w) (d := d) hK.1 hn hTK (by omega) (by omega) ⟨by omega, by omega⟩) ?_
      rintro r ⟨j, rfl, j1, j2, j3, j4⟩
      rw [Int.toNat_natCast]
      refine ok_ck ⟨by omega, by omega, by omega⟩ (ok_nb (ok_some (ok_go rfl ⟨⟨k + 1, j + 1, pre ++ [j], by show (k : Int) + 1 = _; omega, ?_, by omega, by omega, fun c h1 h2 s2 h3 => ?_, hoK.u2 ⟨by omega, by omega⟩, by rw [List.length_append, hl]; rfl, fun i hi => ?_, fun rest hr2 => ?_⟩, by show d - ((k : Int) + 1).toNat < d - (k : Int).toNat; omega⟩)))
      · show u2 K 242 k (j : Int) 242 k + 1 = _
        rw [u2_at]; omega
      · show u2 K 242 k (j : Int) (225 + c) s2 = _
        rw [u2_ne (Or.inl (by omega))]
        exact hTK c h1 h2 s2 h3
      · show u2 K 242 k (j : Int) 242 i = _
        by_cases e : i = k
        · rw [e, u2_at, ← hl, getD_app_at]
        · rw [u2_ne (Or.inr e), hv i (by omega), getD_app_l _ _ _ (by omega)]
      · rw [List.append_assoc]
        refine hp (j :: rest) ?_
        rw [show d - k = d - k - 1 + 1 by omega]
        exact ⟨j1, j2, j3, j4, by rw [show d - k - 1 = d - (k + 1) by omega]; exact hr2⟩
  · rintro ⟨t, x, y, K⟩ ⟨g0, g1, p, g2, g3⟩
    exact ok_ck g0 (ok_some ⟨rfl, g1, p, g2, g3⟩)
