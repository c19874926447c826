/-! DRAWN BALLOTS -/
theorem wr_congr {sp sq : Nat → Nat} : ∀ {j : Nat}, (∀ t, 1 ≤ t → t ≤ j → sp t = sq t) → wr sp j = wr sq j
  | 0, _ => rfl
  | j + 1, h => by
    show wr sp j + (if sp (j + 1) = 61 then 0 else 1) = wr sq j + (if sq (j + 1) = 61 then 0 else 1)
    rw [wr_congr (j := j) fun t h1 h2 => h t h1 (by omega), h (j + 1) (by omega) (by omega)]
theorem wb_congr {o sp sq : Nat → Nat} : ∀ {j : Nat}, (∀ t, 1 ≤ t → t ≤ j → sp t = sq t) → wbar o sp j = wbar o sq j
  | 0, _ => rfl
  | j + 1, h => by
    show (if sp (j + 1) = 124 then (wu o (j + 1) : Int) else wbar o sp j) = (if sq (j + 1) = 124 then (wu o (j + 1) : Int) else wbar o sq j)
    rw [wb_congr (j := j) fun t h1 h2 => h t h1 (by omega), h (j + 1) (by omega) (by omega)]
def swp (sp : Nat → Nat) (i x t : Nat) : Nat := if t = i then x else sp t
theorem swp_lt {sp : Nat → Nat} {i x j : Nat} (h : j < i) : ∀ t, 1 ≤ t → t ≤ j → sp t = swp sp i x t := fun t _ h2 => by
  unfold swp
  rw [if_neg (by omega)]
theorem swp_at (sp : Nat → Nat) (i x : Nat) : swp sp i x i = x := if_pos rfl
theorem tx_swp {o sp : Nat → Nat} {i x k : Nat} (h : k < 2 * i - 1) : tx o sp k = tx o (swp sp i x) k := by
  unfold tx swp
  by_cases e : k % 2 = 0
  · rw [if_pos e, if_pos e]
  · rw [if_neg e, if_neg e, if_neg (by omega)]
/-- the order with one more, put in at r -/
def ins (o : Nat → Nat) (x r i : Nat) : Nat := if i = r then x else if i = x then o r else o i
theorem Pm_ins {o : Nat → Nat} {x r : Nat} (h : Pm o x) (hr : r ≤ x) : Pm (ins o x r) (x + 1) := by
  obtain ⟨h1, h2, h3⟩ := h
  have ev : ∀ i, (i = r ∧ ins o x r i = x) ∨ (i ≠ r ∧ i = x ∧ ins o x r i = o r) ∨ (i ≠ r ∧ i ≠ x ∧ ins o x r i = o i) := fun i => by
    unfold ins
    by_cases e : i = r
    · exact Or.inl ⟨e, if_pos e⟩
    · by_cases f : i = x
      · exact Or.inr (Or.inl ⟨e, f, by rw [if_neg e, if_pos f]⟩)
      · exact Or.inr (Or.inr ⟨e, f, by rw [if_neg e, if_neg f]⟩)
  refine ⟨fun i hi => ?_, fun c hc => ?_, fun i j hi hj e => ?_⟩
  · rcases ev i with ⟨-, e⟩ | ⟨e1, e2, e⟩ | ⟨e1, e2, e⟩ <;> rw [e]
    · omega
    · have := h1 r (by omega); omega
    · have := h1 i (by omega); omega
  · by_cases e : c = x
    · exact ⟨r, by omega, by unfold ins; rw [if_pos rfl, e]⟩
    · obtain ⟨i, hi, ei⟩ := h2 c (by omega)
      by_cases f : i = r
      · refine ⟨x, by omega, ?_⟩
        unfold ins
        rw [if_neg (by omega), if_pos rfl, ← f]; exact ei
      · exact ⟨i, by omega, by unfold ins; rw [if_neg f, if_neg (by omega)]; exact ei⟩
  · rcases ev i with ⟨i1, e1⟩ | ⟨i1, i2, e1⟩ | ⟨i1, i2, e1⟩ <;> rcases ev j with ⟨j1, f1⟩ | ⟨j1, j2, f1⟩ | ⟨j1, j2, f1⟩ <;> rw [e1, f1] at e
    · omega
    · have := h1 r (by omega); omega
    · have := h1 j (by omega); omega
    · have := h1 r (by omega); omega
    · omega
    · have := h3 r j (by omega) (by omega) e; omega
    · have := h1 i (by omega); omega
    · have := h3 i r (by omega) (by omega) e; omega
    · exact h3 i j (by omega) (by omega) e
theorem draw18_ok {E : Ev} {M : Mm} {q1 q3 q4 n : Nat} (hL : Lay E) (hq1 : isO 12 E q1) (hq2 : 250 ≤ q1) (hq3 : isIA E q3) (hq4 : isIA E q4) (h3 : 250 ≤ q3) (h34 : q3 < q4) (h13 : q1 < q3) (t3 : (tE E q3).2 = n) (t4 : (tE E q4).2 = n) (hq0 : M q1 0 = (n : Int)) (hn : n ≤ 5) : Ok (l_La_ballots_18 q1 0 q3 q4 5000 E M 0) (fun r => r.1 = 1 ∧ r.2.2.1 = E ∧ Off (fun c => c = 0 ∨ c = q3 ∨ c = q4) M r.2.2.2 ∧ ∃ o, Pm o n ∧ (∀ i, i < n → r.2.2.2 q4 i = (o i : Int)) ∧ ∀ c, c < n → r.2.2.2 q3 c = 9) := by
  refine L_La_ballots_18 q1 0 q3 q4 (I := fun F N x => F = E ∧ ∃ i : Nat, x = (i : Int) ∧ i ≤ n ∧ Off (fun c => c = 0 ∨ c = q3 ∨ c = q4) M N ∧ ∃ o, Pm o i ∧ (∀ j, j < i → N q4 j = (o j : Int)) ∧ ∀ c, c < i → N q3 c = 9) (μ := fun _ _ x => n - x.toNat) ?_ 5000 E M 0 ⟨rfl, 0, rfl, Nat.zero_le _, Off.refl, fun i => i, Pm_id 0, fun i hi => absurd hi (Nat.not_lt_zero i), fun i hi => absurd hi (Nat.not_lt_zero i)⟩ (by show n - _ < 5000; omega)
  rintro F N x ⟨rfl, i, rfl, hi, oN, o, hP, ho, h9⟩
  unfold La_ballots_18b
  rw [oN q1 (by omega), hq0]
  refine ok_ck hL (ok_ck hq1 (ok_ck ⟨yi_0 hL, by rw [yt_0 hL]⟩ (ok_ck hq3 (ok_ck hq4 (ok_ck (rgN (by omega)) (ok_ck (rgN (by omega)) (ok_if (fun z => ?_) (fun z => ?_))))))))
  · have e : i = n := by omega
    subst e
    exact ok_some (ok_out ne0 ⟨rfl, rfl, oN, o, hP, ho, h9⟩)
  · have hin : i < n := by omega
    refine ok_bm (next_ok ⟨yi_0 hL, by rw [yt_0 hL]⟩ (by rw [yt_0 hL]) (by omega) (by omega)) ?_
    rintro ⟨r0, K⟩ ⟨⟨r1r, r2r⟩, kr⟩
    have r1 : 0 ≤ r0 := r1r
    have r2 : r0 < (i : Int) + 1 := r2r
    have k1 : Off (fun c => c = 0) N K := kr
    obtain ⟨r, rfl⟩ : ∃ r : Nat, r0 = (r : Int) := ⟨r0.toNat, by omega⟩
    have hr : r ≤ i := by omega
    have K4 : ∀ j, j < i → K q4 j = (o j : Int) := fun j hj => by rw [k1 q4 (by omega)]; exact ho j hj
    have K3 : ∀ j, j < i → K q3 j = 9 := fun j hj => by rw [k1 q3 (by omega)]; exact h9 j hj
    refine ok_ck (by rw [t4]; exact inN (by omega) (by omega)) (ok_ck (by rw [t4]; exact inN hin (by omega)) (ok_ck (by rw [t3]; exact inN hin (by omega)) (ok_some (ok_go rfl ⟨⟨rfl, i + 1, c1 i, by omega, ?_, ins o i r, Pm_ins hP hr, fun j hj => ?_, fun c hc => ?_⟩, cnt hin⟩))))
    · exact (((oN.trans (k1.mono fun c hc => Or.inl hc)).u2 (Or.inr (Or.inr rfl))).u2 (Or.inr (Or.inr rfl))).u2 (Or.inr (Or.inl rfl))
    · show u2 (u2 (u2 K q4 i (K q4 r)) q4 r (i : Int)) q3 i 9 q4 j = _
      rw [u2_ne (Or.inl (by omega)), u2_if]
      unfold ins
      by_cases a : j = r
      · rw [if_pos ⟨rfl, a⟩, if_pos a]
      · rw [if_neg (fun z => a z.2), if_neg a, u2_if]
        by_cases b : j = i
        · rw [if_pos ⟨rfl, b⟩, if_pos b]; exact K4 r (by omega)
        · rw [if_neg (fun z => b z.2), if_neg b]; exact K4 j (by omega)
    · show u2 (u2 (u2 K q4 i (K q4 r)) q4 r (i : Int)) q3 i 9 q3 c = _
      rw [u2_if]
      by_cases a : c = i
      · rw [if_pos ⟨rfl, a⟩]
      · rw [if_neg (fun z => a z.2), u2_ne (Or.inl (by omega)), u2_ne (Or.inl (by omega))]
        exact K3 c (by omega)
/-- the text and the ranks as far as i are written -/
def DS (E : Ev) (N : Mm) (q3 q4 p pa n i : Nat) (o sp : Nat → Nat) : Prop := SBd E N p pa (2 * i - 1) (tx o sp) ∧ WT n i o sp ∧ (∀ j, j < i → N q3 (o j) = (wr sp j : Int)) ∧ (∀ c, c < n → (∀ j, j < i → o j ≠ c) → N q3 c = 9) ∧ ∀ j, j < n → N q4 j = (o j : Int)
theorem j207_ok {E : Ev} {N : Mm} {q1 q3 q4 p pa n kw i : Nat} {o sp : Nat → Nat} {x7 x8 : Int} (hL : Lay E) (hq1 : isO 12 E q1) (hq3 : isIA E q3) (hq4 : isIA E q4) (h3 : 250 ≤ q3) (h34 : q3 < q4) (h4p : q4 < p) (t3 : (tE E q3).2 = n) (t4 : (tE E q4).2 = n) (hn : n ≤ 5) (hP : Pm o n) (hi : i < kw) (hkw : kw ≤ n) (hS : SBd E N p pa (2 * i) (tx o sp)) (hW : WT n i o sp) (h1 : ∀ j, j < i → N q3 (o j) = (wr sp j : Int)) (h2 : ∀ c, c < n → (∀ j, j < i → o j ≠ c) → N q3 c = 9) (h4 : ∀ j, j < n → N q4 j = (o j : Int)) (h7 : x7 = (wr sp i : Int)) (hsp : i = 0 ∨ sp i = 61 ∨ sp i = 62 ∨ (sp i = 124 ∧ wbar o sp (i - 1) = -1)) : Ok (La_ballots_j207 E N q1 0 q3 q4 (kw : Int) p x7 x8 (i : Int)) (fun r => r.1 = 0 ∧ r.2.1 = x7 ∧ r.2.2.1 = x8 ∧ r.2.2.2.1 = ((i + 1 : Nat) : Int) ∧ r.2.2.2.2.1 = E ∧ Off (fun c => c = q3 ∨ c = p ∨ c = pa) N r.2.2.2.2.2 ∧ DS E r.2.2.2.2.2 q3 q4 p pa n (i + 1) o sp) := by
  have hp := hS.1
  have hppa := hS.2.2.2.2.1
  have oi := hP.1 i (by omega)
  unfold La_ballots_j207
  rw [Int.toNat_natCast, h4 i (by omega), Int.toNat_natCast]
  have e4 : u2 N q3 (o i) x7 q4 i = (o i : Int) := by rw [u2_ne (Or.inl (by omega))]; exact h4 i (by omega)
  rw [e4]
  refine ok_ck hL (ok_ck hq1 (ok_ck ⟨yi_0 hL, by rw [yt_0 hL]⟩ (ok_ck hq3 (ok_ck hq4 (ok_ck hp (ok_ck (by rw [t4]; exact inN (by omega) (by omega)) (ok_ck (by rw [t3]; exact inN oi (by omega)) (ok_ck ⟨by omega, by omega⟩ (ok_bm (appendC_ok (s := tx o sp) (m := 2 * i) (hS.off (S := fun c => c = q3) (Off.refl.u2 rfl) (by omega) (by omega)) (by omega) (by rw [tx_0]; omega) (by rw [tx_0]; omega)) ?_)))))))))
  rintro ⟨y, Q⟩ ⟨y1r, y2r, y3r⟩
  have y1 : y = p := y1r
  have y2 : SBd E Q p pa (2 * i + 1) (tx o sp) := y2r
  have y3 : Off (fun c => c = p ∨ c = pa) (u2 N q3 (o i) x7) Q := y3r
  subst y1
  have hWn : WT n (i + 1) o sp := ⟨by omega, fun j hj => hP.1 j (by omega), fun a b ha hb e => hP.2.2 a b (by omega) (by omega) e, fun j hj => by
    by_cases e : j + 1 < i
    · exact hW.2.2.2 j e
    · have e2 : j + 1 = i := by omega
      rcases hsp with z | z
      · omega
      · rw [← e2, Nat.add_sub_cancel] at z
        exact z⟩
  have q3e : ∀ c, Q q3 c = if c = o i then x7 else N q3 c := fun c => by
    rw [y3 q3 (by omega), u2_if]
    by_cases a : c = o i
    · rw [if_pos ⟨rfl, a⟩, if_pos a]
    · rw [if_neg (fun z => a z.2), if_neg a]
  refine ok_ck hp (ok_some ⟨rfl, rfl, rfl, c1 i, rfl, ?_, ⟨?_, hWn, fun j hj => ?_, fun c hc hno => ?_, fun j hj => ?_⟩⟩)
  · exact (Off.refl.u2 (S := fun c => c = q3 ∨ c = y ∨ c = pa) (Or.inl rfl)).trans (y3.mono fun c hc => by omega)
  · rw [show 2 * (i + 1) - 1 = 2 * i + 1 by omega]; exact y2
  · show Q q3 (o j) = _
    rw [q3e]
    by_cases a : j = i
    · rw [a, if_pos rfl]; exact h7
    · rw [if_neg (fun z => a (hP.2.2 j i (by omega) (by omega) z))]; exact h1 j (by omega)
  · show Q q3 c = 9
    rw [q3e, if_neg (fun z => hno i (by omega) z.symm)]
    exact h2 c hc fun j hj => hno j (by omega)
  · show Q q4 j = _
    rw [y3 q4 (by omega), u2_ne (Or.inl (by omega))]; exact h4 j hj
theorem draw109_ok {E : Ev} {M : Mm} {q1 q3 q4 p pa n kw : Nat} {o : Nat → Nat} (hL : Lay E) (hq1 : isO 12 E q1) (hq3 : isIA E q3) (hq4 : isIA E q4) (h3 : 250 ≤ q3) (h34 : q3 < q4) (h4p : q4 < p) (t3 : (tE E q3).2 = n) (t4 : (tE E q4).2 = n) (hn : n ≤ 5) (hP : Pm o n) (hkw : kw ≤ n) (hS : SBd E M p pa 0 (tx o s62)) (h9 : ∀ c, c < n → M q3 c = 9) (h4 : ∀ j, j < n → M q4 j = (o j : Int)) : Ok (l_La_ballots_109 q1 0 q3 q4 (kw : Int) p 5000 E M 0 0 0) (fun r => r.1 = 1 ∧ r.2.2.2.2.1 = E ∧ Off (fun c => c = 0 ∨ c = q3 ∨ c = p ∨ c = pa) M r.2.2.2.2.2 ∧ ∃ sp, r.2.1 = (wr sp (kw - 1) : Int) ∧ DS E r.2.2.2.2.2 q3 q4 p pa n kw o sp) := by
  have hp := hS.1
  have hp2 := hS.2.1
  have hppa := hS.2.2.2.2.1
  refine L_La_ballots_109 q1 0 q3 q4 (kw : Int) p (I := fun F N x7 x8 x9 => F = E ∧ ∃ i : Nat, ∃ sp, x9 = (i : Int) ∧ i ≤ kw ∧ x7 = (wr sp (i - 1) : Int) ∧ rgI x8 ∧ (x8 = 0 → wbar o sp (i - 1) = -1) ∧ Off (fun c => c = 0 ∨ c = q3 ∨ c = p ∨ c = pa) M N ∧ DS E N q3 q4 p pa n i o sp) (μ := fun _ _ _ _ x9 => kw - x9.toNat) ?_ 5000 E M 0 0 0 ⟨rfl, 0, s62, rfl, Nat.zero_le _, rfl, by decide, fun _ => rfl, Off.refl, ⟨hS, ⟨Nat.zero_le _, fun i hi => absurd hi (Nat.not_lt_zero i), fun i j hi => absurd hi (Nat.not_lt_zero i), fun i hi => absurd hi (Nat.not_lt_zero _)⟩, fun j hj => absurd hj (Nat.not_lt_zero j), fun c hc _ => h9 c hc, h4⟩⟩ (by show kw - _ < 5000; omega)
  rintro F N x7 x8 x9 ⟨rfl, i, sp, rfl, hi, rfl, h8r, h8, oN, dS, dW, d1, d2, d4⟩
  have fin : ∀ (K : Mm) (sq : Nat → Nat) (y8 : Int), i < kw → rgI y8 → (y8 = 0 → wbar o sq i = -1) → Off (fun c => c = 0 ∨ c = p ∨ c = pa) N K → SBd F K p pa (2 * i) (tx o sq) → (∀ t, 1 ≤ t → t ≤ i - 1 → sp t = sq t) → (i = 0 ∨ sq i = 61 ∨ sq i = 62 ∨ (sq i = 124 ∧ wbar o sq (i - 1) = -1)) → Ok (La_ballots_j207 F K q1 0 q3 q4 (kw : Int) p (wr sq i : Int) y8 (i : Int)) (fun r => (r.1 = 0 → (r.2.2.2.2.1 = F ∧ ∃ i : Nat, ∃ sp, r.2.2.2.1 = (i : Int) ∧ i ≤ kw ∧ r.2.1 = (wr sp (i - 1) : Int) ∧ rgI r.2.2.1 ∧ (r.2.2.1 = 0 → wbar o sp (i - 1) = -1) ∧ Off (fun c => c = 0 ∨ c = q3 ∨ c = p ∨ c = pa) M r.2.2.2.2.2 ∧ DS F r.2.2.2.2.2 q3 q4 p pa n i o sp) ∧ kw - r.2.2.2.1.toNat < kw - (i : Int).toNat) ∧ (r.1 ≠ 0 → r.1 = 1 ∧ r.2.2.2.2.1 = F ∧ Off (fun c => c = 0 ∨ c = q3 ∨ c = p ∨ c = pa) M r.2.2.2.2.2 ∧ ∃ sp, r.2.1 = (wr sp (kw - 1) : Int) ∧ DS F r.2.2.2.2.2 q3 q4 p pa n kw o sp)) := fun K sq y8 hik y8r y80 oK sK hsq hq => by
    have hWq : WT n i o sq := ⟨dW.1, dW.2.1, dW.2.2.1, fun j hj => by
      have e := hsq (j + 1) (by omega) (by omega)
      have e2 : wbar o sp j = wbar o sq j := wb_congr fun t a b => hsq t a (by omega)
      rw [← e, ← e2]
      exact dW.2.2.2 j hj⟩
    refine (j207_ok (x8 := y8) (sp := sq) hL hq1 hq3 hq4 h3 h34 h4p t3 t4 hn hP hik hkw sK hWq (fun j hj => ?_) (fun c hc hno => ?_) (fun j hj => ?_) rfl hq).mono ?_
    · rw [oK q3 (by omega), d1 j hj, wr_congr (sp := sp) (sq := sq) (j := j) fun t a b => hsq t a (by omega)]
    · rw [oK q3 (by omega)]; exact d2 c hc hno
    · rw [oK q4 (by omega)]; exact d4 j hj
    · rintro ⟨t, a7, a8, a9, F2, Q⟩ ⟨g1r, g2r, g3r, g4r, g5r, g6r, g7r⟩
      have g1 : t = 0 := g1r
      have g2 : a7 = (wr sq i : Int) := g2r
      have g3 : a8 = y8 := g3r
      have g4 : a9 = ((i + 1 : Nat) : Int) := g4r
      have g5 : F2 = F := g5r
      have g6 : Off (fun c => c = q3 ∨ c = p ∨ c = pa) K Q := g6r
      subst g1 g2 g3 g4 g5
      exact ok_go rfl ⟨⟨rfl, i + 1, sq, rfl, by omega, rfl, y8r, y80, (oN.trans (oK.mono fun c hc => by omega)).trans (g6.mono fun c hc => by omega), g7r⟩, cnt hik⟩
  unfold La_ballots_109b
  refine ok_ck hL (ok_ck hq1 (ok_ck ⟨yi_0 hL, by rw [yt_0 hL]⟩ (ok_ck hq3 (ok_ck hq4 (ok_ck hp (ok_ck (rgN (by omega)) (ok_ck (rgN (by omega)) (ok_if (fun z => ?_) (fun z => ?_)))))))))
  · have e : i = kw := by omega
    subst e
    exact ok_some (ok_out ne0 ⟨rfl, rfl, oN, sp, rfl, dS, dW, d1, d2, d4⟩)
  · have hik : i < kw := by omega
    refine ok_if (fun w => ?_) (fun w => ?_)
    · have e : i = 0 := by omega
      subst e
      exact fin N sp x8 hik h8r h8 Off.refl dS (fun t _ _ => rfl) (Or.inl rfl)
    · have wrl := wr_le sp (i - 1)
      obtain ⟨l, rfl⟩ : ∃ l, i = l + 1 := ⟨i - 1, by omega⟩
      refine ok_bm (next_ok ⟨yi_0 hL, by rw [yt_0 hL]⟩ (by rw [yt_0 hL]) (by decide) (by decide)) ?_
      rintro ⟨r, K⟩ ⟨⟨r1r, r2r⟩, kr⟩
      have r1 : 0 ≤ r := r1r
      have r2 : r < 4 := r2r
      have k1 : Off (fun c => c = 0) N K := kr
      have sK : SBd F K p pa (2 * (l + 1) - 1) (tx o sp) := dS.off k1 (by omega) (by omega)
      -- a sign between two, then the next one
      have sign : ∀ (b : Nat) (y8 : Int), (b = 61 ∨ b = 62 ∨ (b = 124 ∧ wbar o sp l = -1)) → rgI y8 → (y8 = 0 → b ≠ 124 ∧ wbar o sp l = -1) → Ok (La_ballots_j202 F K q1 0 q3 q4 (kw : Int) p (wr (swp sp (l + 1) b) (l + 1) : Int) y8 ((l + 1 : Nat) : Int) (b : Int) p) _ := fun b y8 hb y8r hy8 => by
        have eb : wbar o (swp sp (l + 1) b) (l + 1) = if b = 124 then (wu o (l + 1) : Int) else wbar o sp l := by
          show (if swp sp (l + 1) b (l + 1) = 124 then (wu o (l + 1) : Int) else wbar o (swp sp (l + 1) b) l) = _
          rw [swp_at, ← wb_congr (sp := sp) (sq := swp sp (l + 1) b) (swp_lt (by omega))]
        unfold La_ballots_j202
        have sK2 : SBd F K p pa (2 * (l + 1) - 1) (tx o (swp sp (l + 1) b)) := by
          obtain ⟨s1, s2, s3, s4, s5, s6, s7, s8, s9⟩ := sK
          exact ⟨s1, s2, s3, s4, s5, s6, s7, s8, fun k hk => by rw [← tx_swp hk]; exact s9 k hk⟩
        have et : tx o (swp sp (l + 1) b) (2 * (l + 1) - 1) = b := by
          rw [show 2 * (l + 1) - 1 = 2 * l + 1 by omega, tx_1, swp_at]
        refine ok_ck hL (ok_ck hq1 (ok_ck ⟨yi_0 hL, by rw [yt_0 hL]⟩ (ok_ck hq3 (ok_ck hq4 (ok_ck hp (ok_ck hp (ok_bm (appendC_ok sK2 (by omega) (by rw [et]) (by rw [et]; omega)) ?_)))))))
        rintro ⟨y, Q⟩ ⟨y1r, y2r, y3r⟩
        have y1 : y = p := y1r
        have y2 : SBd F Q p pa (2 * (l + 1) - 1 + 1) (tx o (swp sp (l + 1) b)) := y2r
        have y3 : Off (fun c => c = p ∨ c = pa) K Q := y3r
        subst y1
        rw [show 2 * (l + 1) - 1 + 1 = 2 * (l + 1) by omega] at y2
        refine ok_ck hp (fin Q (swp sp (l + 1) b) y8 hik y8r (fun e8 => ?_) ((k1.mono fun c hc => Or.inl hc).trans (y3.mono fun c hc => Or.inr hc)) y2 (swp_lt (by omega)) (Or.inr ?_))
        · obtain ⟨a1, a2⟩ := hy8 e8
          rw [eb, if_neg a1]; exact a2
        · rw [swp_at]
          have e3 : wbar o (swp sp (l + 1) b) (l + 1 - 1) = wbar o sp l := (wb_congr (swp_lt (by omega))).symm
          rw [e3]
          exact hb
      have wrb : ∀ b, wr (swp sp (l + 1) b) (l + 1) = wr sp l + (if b = 61 then 0 else 1) := fun b => by
        show wr (swp sp (l + 1) b) l + (if swp sp (l + 1) b (l + 1) = 61 then 0 else 1) = _
        rw [swp_at, ← wr_congr (sp := sp) (sq := swp sp (l + 1) b) (swp_lt (by omega))]
      have s61 := fun (y8 : Int) a b => sign 61 y8 (Or.inl rfl) a b
      have s62' := fun (y8 : Int) a b => sign 62 y8 (Or.inr (Or.inl rfl)) a b
      rw [wrb 61, if_pos rfl, Nat.add_zero] at s61
      rw [wrb 62, if_neg (by decide)] at s62'
      have pre : ∀ {P : Option (Nat × Int × Int × Int × Ev × Mm)} {Q : (Nat × Int × Int × Int × Ev × Mm) → Prop}, Ok P Q → Ok (ck (Lay F) (ck (isO 12 F q1) (ck (isIA F 0) (ck (isIA F q3) (ck (isIA F q4) (ck (isO 14 F p) P)))))) Q := fun h => ok_ck hL (ok_ck hq1 (ok_ck ⟨yi_0 hL, by rw [yt_0 hL]⟩ (ok_ck hq3 (ok_ck hq4 (ok_ck hp h)))))
      refine ok_ck ⟨by omega, by omega⟩ (ok_if (fun v => ?_) (fun v => ?_))
      · subst v
        unfold La_ballots_j140
        refine pre (ok_ck (by decide) (ok_if (fun z => absurd z (by decide)) (fun _ => ?_)))
        unfold La_ballots_j159
        rw [Int.add_zero]
        refine pre (ok_ck h8r (ok_if (fun z8 => ok_ck (by decide) (ok_if (fun _ => ?_) (fun z => absurd rfl z))) (fun z8 => ?_)))
        · unfold La_ballots_j176
          exact pre (ok_ck (by decide) (ok_if (fun _ => s61 0 (by decide) (fun _ => ⟨by decide, h8 z8⟩)) (fun z => absurd rfl z)))
        · unfold La_ballots_j176
          exact pre (ok_ck (by decide) (ok_if (fun _ => s61 1 (by decide) (fun z => absurd z (by decide))) (fun z => absurd rfl z)))
      · unfold La_ballots_j140
        refine pre (ok_ck ⟨by omega, by omega⟩ (ok_if (fun e1 => ok_ck h8r (ok_if (fun z8 => ?_) (fun z8 => ?_))) (fun e1 => ?_)))
        · have s124 := fun (y8 : Int) a b => sign 124 y8 (Or.inr (Or.inr ⟨rfl, h8 z8⟩)) a b
          rw [wrb 124, if_neg (by decide)] at s124
          unfold La_ballots_j159
          refine pre (ok_ck h8r (ok_if (fun _ => ok_ck (by decide) (ok_if (fun z => absurd z (by decide)) (fun _ => ?_))) (fun z => absurd z8 z)))
          unfold La_ballots_j176
          exact pre (ok_ck ⟨by omega, by omega⟩ (ok_if (fun z => by omega) (fun _ => ok_ck (by decide) (ok_if (fun z => absurd z (by decide)) (fun _ => s124 1 (by decide) (fun z => absurd z (by decide)))))))
        · unfold La_ballots_j159
          refine pre (ok_ck h8r (ok_if (fun z => absurd z z8) (fun _ => ?_)))
          unfold La_ballots_j176
          exact pre (ok_ck ⟨by omega, by omega⟩ (ok_if (fun z => by omega) (fun _ => ok_ck (by decide) (ok_if (fun _ => s62' 1 (by decide) (fun z => absurd z (by decide))) (fun z => absurd rfl z)))))
        · unfold La_ballots_j159
          refine pre (ok_ck h8r (ok_if (fun z8 => ok_ck (by decide) (ok_if (fun _ => ?_) (fun z => absurd rfl z))) (fun z8 => ?_)))
          · unfold La_ballots_j176
            exact pre (ok_ck ⟨by omega, by omega⟩ (ok_if (fun z => by omega) (fun _ => ok_ck (by decide) (ok_if (fun _ => s62' 0 (by decide) (fun _ => ⟨by decide, h8 z8⟩)) (fun z => absurd rfl z)))))
          · unfold La_ballots_j176
            exact pre (ok_ck ⟨by omega, by omega⟩ (ok_if (fun z => by omega) (fun _ => ok_ck (by decide) (ok_if (fun _ => s62' 1 (by decide) (fun z => absurd z (by decide))) (fun z => absurd rfl z)))))
