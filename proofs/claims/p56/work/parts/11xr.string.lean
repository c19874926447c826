/-! STRINGS -/
theorem lay_ref {E : Ev} {i k j : Nat} (h : Lay E) (hi : 250 ≤ i) : Lay (eRef E i k j) := by
  refine ⟨by rw [nE_ref]; exact h.1, fun l hl => by rw [tE_ref]; exact h.2.1 l hl, fun l hl h180 h181 k9 hk => ?_⟩
  by_cases hj : j < nE E
  · rw [rE_ref hj, va_up_ne _ _ (by omega)]
    exact h.2.2 l hl h180 h181 k9 hk
  · have e : eRef E i k j = E := by unfold eRef; rw [dif_neg (show ¬ j < E.1.1 from hj)]
    rw [e]
    exact h.2.2 l hl h180 h181 k9 hk
theorem ge_new (E : Ev) (d : Dd) : Ge E (eNew E d) := ⟨gw_new E d, fun i _ h k => by
  have e : rE (eNew E d) i = rE E i := va_up_ne _ _ (Nat.ne_of_lt h)
  rw [e]⟩
theorem ge_ref {E F : Ev} {i k j : Nat} (h : Ge E F) (hi : nE E ≤ i) : Ge E (eRef F i k j) := ⟨gw_trans h.1 (gw_ref F i k j), fun l h1 h2 k9 => by
  by_cases hj : j < nE F
  · rw [rE_ref hj, va_up_ne _ _ (by omega)]
    exact h.2 l h1 h2 k9
  · have e : eRef F i k j = F := by unfold eRef; rw [dif_neg (show ¬ j < F.1.1 from hj)]
    rw [e]
    exact h.2 l h1 h2 k9⟩
theorem new_n (E : Ev) (d : Dd) : nE (eNew E d) = nE E + 1 := rfl
theorem new_t {E : Ev} {d : Dd} {i : Nat} (h : i ≠ nE E) : tE (eNew E d) i = tE E i := va_up_ne _ _ h
theorem new_r {E : Ev} {d : Dd} {i : Nat} (h : i ≠ nE E) : rE (eNew E d) i = rE E i := va_up_ne _ _ h
theorem mN_at (M : Mm) (i : Nat) : mN M i i = fun _ => 0 := va_up_self _ _ _
theorem mN_row {M : Mm} {i j : Nat} (h : j ≠ i) : mN M i j = M j := va_up_ne _ _ h
theorem off_mN {M : Mm} {i : Nat} {S : Nat → Prop} (h : S i) : Off S M (mN M i) := fun c hc => mN_row (fun q => hc (by rw [q]; exact h))
def SBd (E : Ev) (M : Mm) (p pa m : Nat) (s : Nat → Nat) : Prop := isO 14 E p ∧ 250 ≤ p ∧ rE E p 0 = some pa ∧ isBA E pa ∧ p < pa ∧ (tE E pa).2 = 16 ∧ M p 1 = 0 ∧ M p 3 = (m : Int) ∧ ∀ i, i < m → M pa i = (s i : Int)
theorem SBd.off {E : Ev} {M N : Mm} {p pa m : Nat} {s : Nat → Nat} {S : Nat → Prop} (h : SBd E M p pa m s) (ho : Off S M N) (h1 : ¬ S p) (h2 : ¬ S pa) : SBd E N p pa m s := by
  obtain ⟨a, b, c, d, e, f, g, i, j⟩ := h
  exact ⟨a, b, c, d, e, f, by rw [ho p h1]; exact g, by rw [ho p h1]; exact i, fun k hk => by rw [ho pa h2]; exact j k hk⟩
theorem sbInit_ok {E : Ev} {M : Mm} (s : Nat → Nat) (hL : Lay E) : Ok (f_Sb_init (eNew E (114, 0)) (mN M (nE E)) (nE E)) (fun r => Gw (eNew E (114, 0)) r.1 ∧ Lay r.1 ∧ Ge E r.1 ∧ nE r.1 = nE E + 2 ∧ SBd r.1 r.2 (nE E) (nE E + 1) 0 s ∧ Off (fun c => nE E ≤ c) M r.2) := by
  have h250 := hL.1
  have hL1 := lay_new (d := (114, 0)) hL
  have hL2 := lay_new (d := (2, 16)) hL1
  have n2 : nE (eNew (eNew E (114, 0)) (2, 16)) = nE E + 2 := rfl
  have o1 : isO 14 (eNew E (114, 0)) (nE E) := ⟨new_i E _, new_T E _⟩
  unfold f_Sb_init f_As_init
  have hL3 : Lay (eRef (eNew (eNew E (114, 0)) (2, 16)) (nE E) 0 (nE E + 1)) := lay_ref hL2 (by omega)
  have g3 : Ge E (eRef (eNew (eNew E (114, 0)) (2, 16)) (nE E) 0 (nE E + 1)) := ge_ref ((ge_new E _).trans (ge_new _ _)) (Nat.le_refl _)
  have w3 : Gw (eNew E (114, 0)) (eRef (eNew (eNew E (114, 0)) (2, 16)) (nE E) 0 (nE E + 1)) := gw_trans (gw_new _ _) (gw_ref _ _ _ _)
  refine ok_ck hL1 (ok_ck o1 (ok_bm (R := fun r => r = (eRef (eNew (eNew E (114, 0)) (2, 16)) (nE E) 0 (nE E + 1), u2 (mN (mN M (nE E)) (nE E + 1)) (nE E) 1 0)) (ok_ck hL1 (ok_ck o1 (ok_ck (by decide) (ok_nb (ok_nb (ok_nb (ok_nb (ok_ck hL3 (ok_some rfl))))))))) ?_))
  rintro r rfl
  refine ok_ck w3 (ok_ck hL3 (ok_some ⟨w3, hL3, g3, by rw [nE_ref]; exact n2, ⟨⟨by rw [nE_ref, n2]; omega, ?_⟩, h250, ?_, ⟨by rw [nE_ref, n2]; omega, ?_⟩, by omega, ?_, ?_, ?_, fun i hi => absurd hi (Nat.not_lt_zero i)⟩, ?_⟩))
  · rw [tE_ref, new_t (by show nE E ≠ nE E + 1; omega)]
    exact new_T E _
  · rw [rE_ref (by rw [n2]; omega), va_up_self, va_up_self]
  · rw [tE_ref]
    exact congrArg Prod.fst (new_T (eNew E (114, 0)) (2, 16))
  · rw [tE_ref]
    exact congrArg Prod.snd (new_T (eNew E (114, 0)) (2, 16))
  · exact u2_at _ _ _ _
  · show u2 (mN (mN M (nE E)) (nE E + 1)) (nE E) 1 0 (nE E) 3 = 0
    rw [u2_ne (Or.inr (by decide)), mN_row (by omega), mN_at]
  · exact (Off.trans (off_mN (Nat.le_refl _)) (off_mN (by omega))).u2 (Nat.le_refl _)
theorem cap_ok {E : Ev} {M : Mm} {p pa m : Nat} {s : Nat → Nat} {x : Int} (h : SBd E M p pa m s) (h0 : 0 ≤ x) (hx : x ≤ 16) : f_As_ensureCapacityInternal E M p x = some () := by
  obtain ⟨a, b, c, d, e, f, g, i, j⟩ := h
  unfold f_As_ensureCapacityInternal
  rw [ck_i a, c]
  show ck (isBA E pa) _ = _
  rw [ck_i d, g, f, ck_i (by decide), ck_i (by decide)]
  show ck (rgI (x - ((16 : Nat) : Int) / 2 ^ (Int.toNat 0))) _ = _
  rw [show ((16 : Nat) : Int) / 2 ^ (Int.toNat 0) = 16 by decide, ck_i ⟨by omega, by omega⟩, if_pos (by omega)]
theorem appendC_ok {E : Ev} {M : Mm} {p pa m : Nat} {s : Nat → Nat} {x : Int} (h : SBd E M p pa m s) (hm : m < 16) (hx : x = (s m : Int)) (hs : s m ≤ 127) : Ok (f_Sb_appendC E M p x) (fun r => r.1 = p ∧ SBd E r.2 p pa (m + 1) s ∧ Off (fun c => c = p ∨ c = pa) M r.2) := by
  have hh := h
  obtain ⟨a, b, c, d, e, f, g, i, j⟩ := h
  unfold f_Sb_appendC f_As_appendC f_As_isLatin1 f_Sl_canEncode
  rw [i, cap_ok hh (by omega) (by omega), c, g]
  refine ok_ck a (ok_bm (R := fun r => r = (p, u2 (u2 M p 3 ((m : Int) + 1)) pa (m : Int).toNat x)) (ok_ck a (ok_sb (ok_bm (R := fun y => y = 1) (ok_ck a (ok_ck (by decide) (ok_if (fun _ => ok_some rfl) (fun z => absurd rfl z)))) ?_))) ?_)
  · rintro y rfl
    refine ok_ck (by decide) (ok_if (fun z => absurd z (by decide)) (fun _ => ok_bm (R := fun y => y = 1) (ok_ck ⟨by omega, by omega⟩ (ok_if (fun z => by omega) (fun _ => ok_some rfl))) ?_))
    rintro y rfl
    exact ok_ck (by decide) (ok_if (fun z => absurd z (by decide)) (fun _ => ok_sb (ok_ck d (ok_ck ⟨by omega, by omega⟩ (ok_ck (by rw [f]; exact inN hm (by decide)) (ok_some rfl))))))
  · rintro r rfl
    refine ok_ck a (ok_some ⟨rfl, ⟨a, b, c, d, e, f, ?_, ?_, fun k hk => ?_⟩, (Off.refl.u2 (Or.inl rfl)).u2 (Or.inr rfl)⟩)
    · show u2 (u2 M p 3 ((m : Int) + 1)) pa (m : Int).toNat x p 1 = 0
      rw [u2_ne (Or.inl (by omega)), u2_ne (Or.inr (by decide))]; exact g
    · show u2 (u2 M p 3 ((m : Int) + 1)) pa (m : Int).toNat x p 3 = _
      rw [u2_ne (Or.inl (by omega)), u2_at]; rfl
    · show u2 (u2 M p 3 ((m : Int) + 1)) pa (m : Int).toNat x pa k = _
      rw [Int.toNat_natCast, u2_if]
      by_cases q : k = m
      · rw [if_pos ⟨rfl, q⟩, hx, q]
      · rw [if_neg (fun z => q z.2), u2_ne (Or.inl (by omega))]; exact j k (by omega)
theorem appendS1_ok {E : Ev} {M : Mm} {p pa m : Nat} {s : Nat → Nat} (h : SBd E M p pa m s) (hm : m < 16) (hs : s m = 62) : Ok (f_Sb_appendS_C1 E M p) (fun r => r.1 = p ∧ SBd E r.2 p pa (m + 1) s ∧ Off (fun c => c = p ∨ c = pa) M r.2) := by
  have hh := h
  obtain ⟨a, b, c, d, e, f, g, i, j⟩ := h
  have q1 : (1 : Int) / 2 ^ (Int.toNat 0) = 1 := by decide
  have q2 : (m : Int) * 2 ^ (Int.toNat 0) = (m : Int) := by
    rw [show (2 : Int) ^ (Int.toNat 0) = 1 by decide, Int.mul_one]
  unfold f_Sb_appendS_C1 f_As_appendS_C1 f_St_length_C1 f_St_coder_C1
  refine ok_ck a (ok_bm (R := fun r => r.1 = p ∧ SBd E r.2 p pa (m + 1) s ∧ Off (fun c => c = p ∨ c = pa) M r.2) (ok_ck a (ok_bm (R := fun y => y = 1) (ok_sb (ok_ck (by decide) (ok_some q1))) ?_)) ?_)
  · rintro y rfl
    rw [i, cap_ok hh (by omega) (by omega)]
    refine ok_sb (ok_bm (R := fun N => N = uA M pa (va_cpy (csB 1) (M pa) 0 m 1)) ?_ ?_)
    · unfold f_As_putStringAt_C1 f_As_inflateIfNeededFor_C1 f_St_getBytes_C1 f_St_coder_C1
      rw [c, g, q2]
      refine ok_ck a (ok_bm (R := fun _ => True) (ok_ck a (ok_sb (ok_ck (by decide) (ok_ck (by decide) (ok_if (fun _ => ok_some trivial) (fun z => absurd rfl z)))))) ?_)
      intro _ _
      refine ok_sb (ok_ck d (ok_bm (R := fun N => N = uA M pa (va_cpy (csB 1) (M pa) 0 m 1)) (ok_ck d (ok_sb (ok_ck (by decide) (ok_ck (by decide) (ok_if (fun _ => ok_ck (by decide) (ok_ck ⟨by omega, by omega, by omega, by omega, by rw [f]; omega, by omega, by omega⟩ (ok_some ?_))) (fun z => absurd rfl z)))))) ?_))
      · rw [Int.toNat_natCast]
      · rintro N rfl
        exact ok_some rfl
    · rintro N rfl
      refine ok_some ⟨rfl, ⟨a, b, c, d, e, f, ?_, ?_, fun k hk => ?_⟩, (Off.refl.uA (Or.inr rfl)).u2 (Or.inl rfl)⟩
      · show u2 (uA M pa _) p 3 (uA M pa _ p 3 + 1) p 1 = 0
        rw [u2_ne (Or.inr (by decide)), uA_row (by omega)]; exact g
      · show u2 (uA M pa _) p 3 (uA M pa _ p 3 + 1) p 3 = _
        rw [u2_at, uA_row (by omega), i]; rfl
      · show u2 (uA M pa _) p 3 (uA M pa _ p 3 + 1) pa k = _
        rw [u2_ne (Or.inl (by omega)), uA_at]
        unfold va_cpy
        by_cases q : k = m
        · rw [if_pos ⟨by omega, by omega⟩, q, hs, Nat.sub_self]; rfl
        · rw [if_neg (by omega)]; exact j k (by omega)
  · rintro ⟨r, N⟩ ⟨r1, r2, r3⟩
    have r1 : r = p := r1
    subst r1
    exact ok_ck a (ok_some ⟨rfl, r2, r3⟩)
theorem appendS0_ok {E : Ev} {M : Mm} {p pa m : Nat} {s : Nat → Nat} (h : SBd E M p pa m s) (hm : m < 16) : Ok (f_Sb_appendS_C0 E M p) (fun r => r.1 = p ∧ SBd E r.2 p pa m s ∧ Off (fun c => c = p ∨ c = pa) M r.2) := by
  have hh := h
  obtain ⟨a, b, c, d, e, f, g, i, j⟩ := h
  have q1 : (0 : Int) / 2 ^ (Int.toNat 0) = 0 := by decide
  have q2 : (m : Int) * 2 ^ (Int.toNat 0) = (m : Int) := by
    rw [show (2 : Int) ^ (Int.toNat 0) = 1 by decide, Int.mul_one]
  unfold f_Sb_appendS_C0 f_As_appendS_C0 f_St_length_C0 f_St_coder_C0
  refine ok_ck a (ok_bm (R := fun r => r.1 = p ∧ SBd E r.2 p pa m s ∧ Off (fun c => c = p ∨ c = pa) M r.2) (ok_ck a (ok_bm (R := fun y => y = 0) (ok_sb (ok_ck (by decide) (ok_some q1))) ?_)) ?_)
  · rintro y rfl
    rw [i, cap_ok hh (by omega) (by omega)]
    refine ok_sb (ok_bm (R := fun N => N = uA M pa (va_cpy (csB 0) (M pa) 0 m 0)) ?_ ?_)
    · unfold f_As_putStringAt_C0 f_As_inflateIfNeededFor_C0 f_St_getBytes_C0 f_St_coder_C0
      rw [c, g, q2]
      refine ok_ck a (ok_bm (R := fun _ => True) (ok_ck a (ok_sb (ok_ck (by decide) (ok_ck (by decide) (ok_if (fun _ => ok_some trivial) (fun z => absurd rfl z)))))) ?_)
      intro _ _
      refine ok_sb (ok_ck d (ok_bm (R := fun N => N = uA M pa (va_cpy (csB 0) (M pa) 0 m 0)) (ok_ck d (ok_sb (ok_ck (by decide) (ok_ck (by decide) (ok_if (fun _ => ok_ck (by decide) (ok_ck ⟨by omega, by omega, by omega, by omega, by rw [f]; omega, by omega, by omega⟩ (ok_some ?_))) (fun z => absurd rfl z)))))) ?_))
      · rw [Int.toNat_natCast]
      · rintro N rfl
        exact ok_some rfl
    · rintro N rfl
      refine ok_some ⟨rfl, ⟨a, b, c, d, e, f, ?_, ?_, fun k hk => ?_⟩, (Off.refl.uA (Or.inr rfl)).u2 (Or.inl rfl)⟩
      · show u2 (uA M pa _) p 3 (uA M pa _ p 3 + 0) p 1 = 0
        rw [u2_ne (Or.inr (by decide)), uA_row (by omega)]; exact g
      · show u2 (uA M pa _) p 3 (uA M pa _ p 3 + 0) p 3 = _
        rw [u2_at, uA_row (by omega), i, Int.add_zero]
      · show u2 (uA M pa _) p 3 (uA M pa _ p 3 + 0) pa k = _
        rw [u2_ne (Or.inl (by omega)), uA_at]
        unfold va_cpy
        rw [if_neg (by omega)]; exact j k hk
  · rintro ⟨r, N⟩ ⟨r1, r2, r3⟩
    have r1 : r = p := r1
    subst r1
    exact ok_ck a (ok_some ⟨rfl, r2, r3⟩)
def STR (E : Ev) (M : Mm) (q L : Nat) (s : Nat → Nat) : Prop := isO 13 E q ∧ 250 ≤ q ∧ ∃ qa, rE E q 0 = some qa ∧ isBA E qa ∧ 250 ≤ qa ∧ (tE E qa).2 = L ∧ M q 1 = 0 ∧ ∀ i, i < L → M qa i = (s i : Int)
