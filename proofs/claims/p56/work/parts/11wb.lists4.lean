/-! LISTS: seats to all -/
theorem fst_apart {al : Nat → Int} {f g l : Nat} (hf : fst1 al f) (hg : fst1 al g) (h1 : SaU al f l) (h2 : SaU al g l) : f = g := by
  rcases Nat.lt_trichotomy f g with c | c | c
  · exact absurd (h2.trans h1.symm) (hg f c)
  · exact c
  · exact absurd (h1.trans h2.symm) (hf g c)
theorem L104_ok {E : Ev} {M : Mm} {n m : Nat} {r : Int} (hL : Lay E) (h : LiS M n) (hr : rgI r) (hm : DT M 57 m) (hu : ∀ i, i < m → ∃ f : Nat, f < n ∧ M 58 i = (f : Int) ∧ fst1 (M 55) f ∧ M 59 i = uV (M 54) (M 55) f n) (hd : ∀ i j, i < j → j < m → M 58 i < M 58 j) (hs : sN (M 61) m ≤ 60) (hz : ∀ l, l < n → M 71 l = 0) : Ok (l_Li_spread_104 E r FU M 0) (fun a => a.1 = 1 ∧ Off oI6 M a.2.2 ∧ sN (a.2.2 71) n = sN (M 61) m ∧ (∀ l, l < n → (∀ j f, j < m → M 58 j = ((f : Nat) : Int) → ¬ SaU (M 55) f l) → a.2.2 71 l = 0) ∧ (∀ j f, j < m → M 58 j = ((f : Nat) : Int) → M 55 f ≤ 0 → a.2.2 71 f = M 61 j) ∧ ∀ l, l < n → 0 ≤ a.2.2 71 l ∧ a.2.2 71 l ≤ 100) := by
  have h8 := h.2.1
  have m8 := hm.2.1
  refine L_Li_spread_104 E r (I := fun N x => ∃ i : Nat, x = (i : Int) ∧ i ≤ m ∧ Off oI6 M N ∧ sN (N 71) n = sN (M 61) i ∧ (∀ l, l < n → (∀ j f, j < i → M 58 j = ((f : Nat) : Int) → ¬ SaU (M 55) f l) → N 71 l = 0) ∧ (∀ j f, j < i → M 58 j = ((f : Nat) : Int) → M 55 f ≤ 0 → N 71 f = M 61 j) ∧ ∀ l, l < n → 0 ≤ N 71 l ∧ N 71 l ≤ 100) (μ := fun _ x => m - x.toNat) ?_ FU M 0 ⟨0, rfl, Nat.zero_le _, Off.refl, ?_, fun l hl _ => hz l hl, fun j f hj => absurd hj (Nat.not_lt_zero j), fun l hl => by rw [hz l hl]; decide⟩ (by show m - _ < 5000; omega)
  · rintro N x ⟨i, rfl, hi, ho, hsN, h2, h3, h4⟩
    have hN : LiS N n := h.of (by rw [ho 53 (by unfold oI6; decide)]) (ho 54 (by unfold oI6; decide)) (ho 55 (by unfold oI6; decide)) (ho 56 (by unfold oI6; decide))
    have e54 : N 54 = M 54 := ho 54 (by unfold oI6; decide)
    have e55 : N 55 = M 55 := ho 55 (by unfold oI6; decide)
    have e57 : N 57 = M 57 := ho 57 (by unfold oI6; decide)
    have e58 : N 58 = M 58 := ho 58 (by unfold oI6; decide)
    have e61 : N 61 = M 61 := ho 61 (by unfold oI6; decide)
    unfold Li_spread_104b
    rw [e57, hm.1, Int.toNat_natCast, e58, e61]
    refine ok_ck (rgN (by omega)) (ok_ck (rgN (by omega)) (ok_if (fun c => ?_) (fun c => ?_)))
    · have e : i = m := by omega
      subst e
      exact ok_some (ok_out ne0 ⟨rfl, ho, hsN, h2, h3, h4⟩)
    · have him : i < m := by omega
      obtain ⟨f, f1, f2, f3, f4⟩ := hu i him
      obtain ⟨-, b2, -, b4⟩ := hm.2.2 i him
      have b2 : 1 ≤ M 59 i ∧ M 59 i ≤ 80000000 := b2
      have b4 : 0 ≤ M 61 i ∧ M 61 i ≤ 100 := b4
      have nn : ∀ k, k < m → 0 ≤ M 61 k := fun k hk => (hm.2.2 k hk).2.2.2.1
      have hsi := sN_term nn him
      obtain ⟨K, hK⟩ : ∃ K : Nat, M 61 i = (K : Int) := ⟨(M 61 i).toNat, by omega⟩
      -- earlier units don't meet this one
      have apart : ∀ l, SaU (M 55) f l → ∀ j g, j < i → M 58 j = ((g : Nat) : Int) → ¬ SaU (M 55) g l := fun l q j g hj e w => by
        obtain ⟨g', g1, g2, g3, -⟩ := hu j (by omega)
        have eg : g' = g := by omega
        rw [eg] at g3
        have := fst_apart f3 g3 q w
        have := hd j i hj him
        omega
      rw [f2, hK]
      refine ok_ck (inN (by omega) (by decide)) (ok_bm (spreadInside_ok hL hN f1 hr (by omega) (by rw [e54, e55, ← f4]; omega) (fun l hl q => ?_) h4) ?_)
      · rw [e55] at q
        exact h2 l hl (apart l q)
      · rintro N2 ⟨o1, o2, o3, o4, o5⟩
        rw [e55] at o3 o4
        refine ok_some (ok_go rfl ⟨⟨i + 1, c1 i, by omega, ho.trans o1, ?_, fun l hl q => ?_, fun j g hj e q => ?_, o5⟩, cnt him⟩)
        · show sN (N2 71) n = _
          rw [o2, hsN, sN_succ, hK]
        · show N2 71 l = 0
          rw [o3 l hl (q i f (by omega) f2)]
          exact h2 l hl (fun j g hj e => q j g (by omega) e)
        · show N2 71 g = M 61 j
          by_cases ej : j = i
          · rw [ej] at e ⊢
            have eg : g = f := by omega
            rw [eg] at q ⊢
            rw [o4 q, hK]
          · obtain ⟨g', g1, g2, g3, -⟩ := hu j (by omega)
            have eg : g' = g := by omega
            rw [eg] at g1 g3
            rw [o3 g g1 (fun w => ?_)]
            · exact h3 j g (by omega) e q
            · exact apart g w j g (by omega) e (Or.inl rfl)
  · rw [sN_congr (g := fun _ => 0) hz, sN_zero]
    rfl
/-- every place of the order names a taker -/
theorem OC_all {M : Mm} {p m t : Nat} (hO : OC M p m t) (hd : ∀ a b, a < m → b < m → M (p + 1) a = M (p + 1) b → a = b) (hs : sN (M (p + 4)) m = (t : Int)) : ∀ k, k < t → ∃ i, i < m ∧ M (p + 6) k = M (p + 1) i := by
  obtain ⟨g, hg⟩ : ∃ g : Nat → Int, g = fun k => sN (fun i => if M (p + 6) k = M (p + 1) i then (1 : Int) else 0) m := ⟨_, rfl⟩
  have h1 : sN g t = (t : Int) := by
    rw [hg, ← hs, sN_comm (fun k i => if M (p + 6) k = M (p + 1) i then (1 : Int) else 0) m t]
    exact sN_congr (fun i hi => hO i hi)
  have h2 : ∀ k, g k ≤ 1 ∧ ((∃ i, i < m ∧ M (p + 6) k = M (p + 1) i) ∨ g k = 0) := fun k => by
    by_cases c : ∃ i, i < m ∧ M (p + 6) k = M (p + 1) i
    · obtain ⟨i, hi, e⟩ := c
      have e1 : g k = 1 := by
        rw [hg]
        show sN (fun i => if M (p + 6) k = M (p + 1) i then (1 : Int) else 0) m = 1
        rw [sN_one hi (fun j hj hne => if_neg (fun q => hne (hd j i hj hi (q.symm.trans e)))), if_pos e]
      exact ⟨by omega, Or.inl ⟨i, hi, e⟩⟩
    · have e0 : g k = 0 := by
        rw [hg]
        show sN (fun i => if M (p + 6) k = M (p + 1) i then (1 : Int) else 0) m = 0
        rw [sN_congr (g := fun _ => 0) (fun j hj => if_neg (fun q => c ⟨j, hj, q⟩)), sN_zero]
      exact ⟨by omega, Or.inr e0⟩
  have h3 : ∀ n k : Nat, k < n → (∀ j, j < n → g j ≤ 1) → sN g n = (n : Int) → g k = 1 := fun n => by
    induction n with
    | zero => intro k hk; exact absurd hk (Nat.not_lt_zero k)
    | succ n ih =>
      intro k hk hj e
      have le : ∀ n : Nat, (∀ j, j < n → g j ≤ 1) → sN g n ≤ (n : Int) := fun n => by
        induction n with
        | zero => intro _; exact Int.le_refl 0
        | succ n ih2 =>
          intro q
          have := ih2 (fun j h => q j (by omega))
          have := q n (by omega)
          rw [sN_succ]; omega
      have a := le n (fun j h => hj j (by omega))
      have b := hj n (by omega)
      rw [sN_succ] at e
      by_cases ek : k = n
      · rw [ek]; omega
      · exact ih k (by omega) (fun j h => hj j (by omega)) (by omega)
  intro k hk
  rcases (h2 k).2 with c | c
  · exact c
  · have := h3 t k hk (fun j _ => (h2 j).1) h1
    omega
/-- what seats() gives, list by list -/
def SPL (v al : Nat → Int) (n g K : Nat) (r : Int) (got ord : Nat → Int) : Prop :=
  (∀ l, l < n → 0 ≤ got l ∧ got l ≤ 100) ∧ sN got n = (g : Int) ∧
  (∀ i j, i < n → j < n → al i = 0 → al j = 0 → v j < v i → got j ≤ got i) ∧
  ((∀ l, l < n → al l = 0) →
    (∀ i, i < n → v i = 0 → got i = 0) ∧
    (r ≠ 5 → ∀ i j, i < n → j < n → 1 ≤ got i → v j * dv r (got i - 1) ≤ v i * dv r (got j)) ∧
    (r = 5 → 0 < sN v n → ∀ i, i < n → got i = v i * (K : Int) / sN v n ∨ got i = v i * (K : Int) / sN v n + 1) ∧
    (∀ l, l < n → sN (fun k => if ord k = (l : Int) then 1 else 0) g = got l) ∧
    ∀ k, k < g → 0 ≤ ord k ∧ ord k < (n : Int))
def oSp (c : Nat) : Prop := c = 53 ∨ (57 ≤ c ∧ c ≤ 71)
theorem spread_ok {E : Ev} {M : Mm} {n K : Nat} {r : Int} (hL : Lay E) (h : LiS M n) (hr : rgI r) (hK1 : 1 ≤ K) (hK : K ≤ 60) : Ok (f_Li_spread E M r (K : Int) 0) (fun a => ∃ m g : Nat, a.1 = (m : Int) ∧ m ≤ 8 ∧ (m = 0 → g = 0) ∧ (m ≠ 0 → g = K) ∧ Off oSp M a.2 ∧ a.2 53 0 = M 53 0 ∧ a.2 53 10 = M 53 10 ∧ (a.2 53 6 = 0 ∨ a.2 53 6 = 1) ∧ a.2 57 1 = (g : Int) ∧ (m = 0 ↔ ∀ l, l < n → M 54 l = 0) ∧ SPL (M 54) (M 55) n g K r (a.2 71) (a.2 63) ∧ ((∀ l, l < n → M 55 l = 0) → a.2 53 6 = 0)) := by
  have h8 := h.2.1
  have hv : ∀ k, k < n → 0 ≤ M 54 k := fun k hk => (h.2.2 k hk).1.1
  unfold f_Li_spread
  refine ok_bm (L6_ok h) ?_
  rintro ⟨t, x4, x6, A⟩ ⟨g1, g2, g3⟩
  have g1 : t = 1 := g1
  have g3 : A = M := g3
  rw [g3]
  refine ok_ck g1 (ok_bm (clear_ok (yo_57 hL)) ?_)
  rintro B ⟨b1, b2, b3⟩
  obtain ⟨C, hC⟩ : ∃ C, C = u2 B 53 6 0 := ⟨_, rfl⟩
  rw [← hC]
  have c1' : Off oSp M C := by
    rw [hC]
    exact (b1.mono (fun c hc => by unfold oSp; omega)).u2 (Or.inl rfl)
  have c53 : ∀ k, k ≠ 6 → C 53 k = M 53 k := fun k hk => by rw [hC, u2_ne (Or.inr hk), b1 53 (by decide)]
  have cu : ∀ c, c ≠ 53 → C c = B c := fun c hc => by rw [hC]; exact u2_row hc
  have hCL : LiS C n := h.of (c53 0 (by decide)) (c1' 54 (by unfold oSp; decide)) (c1' 55 (by unfold oSp; decide)) (c1' 56 (by unfold oSp; decide))
  refine ok_bm (L49_ok hL hCL (by rw [cu 57 (by decide)]; exact b2) (by rw [cu 57 (by decide)]; exact b3) (by rw [hC]; exact u2_at _ _ _ _)) ?_
  rintro ⟨t2, x2, D⟩ ⟨i1, i2, i3, i4, m, i5⟩
  have i1 : t2 = 1 := i1
  have i2 : Off oU C D := i2
  have i3 : D 53 0 = C 53 0 := i3
  have i4 : D 53 10 = C 53 10 := i4
  have i5 : UnD D n n m := i5
  obtain ⟨u1, u2', u3, u4, u5, u6, u7, u8⟩ := i5
  have d54 : D 54 = M 54 := (i2 54 (by unfold oU; decide)).trans (c1' 54 (by unfold oSp; decide))
  have d55 : D 55 = M 55 := (i2 55 (by unfold oU; decide)).trans (c1' 55 (by unfold oSp; decide))
  have d56 : D 56 = M 56 := (i2 56 (by unfold oU; decide)).trans (c1' 56 (by unfold oSp; decide))
  rw [d54, d55] at u4 u5 u7
  have hdist : ∀ a b, a < m → b < m → D 58 a = D 58 b → a = b := fun a b ha hb q => by
    rcases Nat.lt_trichotomy a b with c | c | c
    · have := u6 a b c hb; omega
    · exact c
    · have := u6 b a c ha; omega
  refine ok_ck i1 (ok_bm (distribute_ok (p := 57) (yo_57 hL) u2' hr hK hdist (fun i hi => (u4 i hi).elim fun f q => q.2.2.2.2) u3) ?_)
  intro F hF
  have oF : Off (fun c => c = 57 ∨ c = 61 ∨ c = 62 ∨ c = 63) D F := by
    rcases hF with ⟨-, q⟩ | ⟨-, q, -⟩
    · rw [q]; exact Off.refl
    · exact q
  have dF : DT F 57 m := by
    rcases hF with ⟨-, q⟩ | ⟨-, -, q, -⟩
    · rw [q]; exact u2'
    · exact q
  have sF : sN (F 61) m = if m = 0 then 0 else (K : Int) := by
    rcases hF with ⟨q0, -⟩ | ⟨q0, -, -, -, q, -⟩
    · rw [q0]; rfl
    · rw [if_neg (by omega)]; exact q
  refine ok_bm (ok_fillI (n := 8) (yi_71 hL) (yt_71 hL) (by decide)) ?_
  rintro G ⟨o1, o2, -⟩
  have f54 : F 54 = M 54 := (oF 54 (by decide)).trans d54
  have f55 : F 55 = M 55 := (oF 55 (by decide)).trans d55
  have f56 : F 56 = M 56 := (oF 56 (by decide)).trans d56
  have f53 : F 53 = D 53 := oF 53 (by decide)
  have f58 : F 58 = D 58 := oF 58 (by decide)
  have f59 : F 59 = D 59 := oF 59 (by decide)
  have gr : ∀ c, c ≠ 71 → G c = F c := fun c hc => o1 c hc
  have hG : LiS G n := h.of (by rw [gr 53 (by decide), f53, i3, c53 0 (by decide)]) ((gr 54 (by decide)).trans f54) ((gr 55 (by decide)).trans f55) ((gr 56 (by decide)).trans f56)
  refine ok_bm (L104_ok (m := m) hL hG hr ?_ (fun i hi => ?_) (fun i j hij hj => ?_) ?_ (fun l hl => o2 l (by omega))) ?_
  · unfold DT
    rw [gr 57 (by decide), gr (57 + 1) (by decide), gr (57 + 2) (by decide), gr (57 + 3) (by decide), gr (57 + 4) (by decide)]
    exact dF
  · obtain ⟨f, f1, f2, f3, f4, -⟩ := u4 i hi
    refine ⟨f, f1, by rw [gr 58 (by decide), f58]; exact f2, by rw [gr 55 (by decide), f55]; exact f3, ?_⟩
    rw [gr 59 (by decide), f59, gr 54 (by decide), f54, gr 55 (by decide), f55]
    exact f4
  · rw [gr 58 (by decide), f58]; exact u6 i j hij hj
  · rw [gr 61 (by decide), sF]
    by_cases c : m = 0
    · rw [if_pos c]; decide
    · rw [if_neg c]; omega
  rintro ⟨t3, x3, N⟩ ⟨j1, j2, j3, j4, j5, j6⟩
  have j1 : t3 = 1 := j1
  have j2 : Off oI6 G N := j2
  have j3 : sN (N 71) n = sN (G 61) m := j3
  have j4 : ∀ l, l < n → (∀ j f, j < m → G 58 j = ((f : Nat) : Int) → ¬ SaU (G 55) f l) → N 71 l = 0 := j4
  have j5 : ∀ j f, j < m → G 58 j = ((f : Nat) : Int) → G 55 f ≤ 0 → N 71 f = G 61 j := j5
  have j6 : ∀ l, l < n → 0 ≤ N 71 l ∧ N 71 l ≤ 100 := j6
  rw [gr 61 (by decide), sF] at j3
  rw [gr 58 (by decide), f58, gr 55 (by decide), f55] at j4
  rw [gr 58 (by decide), f58, gr 55 (by decide), f55, gr 61 (by decide)] at j5
  have nr : ∀ c, ¬ oI6 c → c ≠ 71 → N c = F c := fun c h1 h2 => (j2 c h1).trans (gr c h2)
  have n53 : N 53 = D 53 := (nr 53 (by unfold oI6; decide) (by decide)).trans f53
  have n57 : N 57 = F 57 := nr 57 (by unfold oI6; decide) (by decide)
  have n63 : N 63 = F 63 := nr 63 (by unfold oI6; decide) (by decide)
  have given : F 57 1 = (((if m = 0 then 0 else K : Nat)) : Int) := by
    rcases hF with ⟨q0, q⟩ | ⟨q0, -, -, q, -⟩
    · rw [q, u3, q0]; rfl
    · rw [if_neg (by omega)]; exact q
  -- a list alone in its unit
  have alone : ∀ i, i < n → M 55 i = 0 → (M 54 i = 0 ∧ N 71 i = 0) ∨ ∃ u, u < m ∧ D 58 u = (i : Int) ∧ D 59 u = M 54 i ∧ N 71 i = F 61 u := fun i hi ha => by
    have hfi : fst1 (M 55) i := fun b hb s => by
      rcases s with s | ⟨s, -⟩ <;> omega
    have hu := uV_alone (v := M 54) hi (show M 55 i ≤ 0 by omega)
    have hvi := hv i hi
    by_cases c : M 54 i = 0
    · refine Or.inl ⟨c, j4 i hi (fun j f hj e s => ?_)⟩
      obtain ⟨f', f1, f2, f3, f4, -⟩ := u4 j hj
      have ef : f' = f := by omega
      have b := (u2'.2.2 j hj).2.1
      have b : 1 ≤ D 59 j ∧ D 59 j ≤ 80000000 := b
      have efi : f = i := by
        rcases s with s | ⟨s1, s2⟩
        · exact s
        · omega
      rw [ef, efi, hu, c] at f4
      omega
    · obtain ⟨u, h1, h2⟩ := u5 i hi hfi (by omega)
      obtain ⟨f', f1, f2, f3, f4, -⟩ := u4 u h1
      have ef : f' = i := by omega
      rw [ef, hu] at f4
      exact Or.inr ⟨u, h1, h2, f4, j5 u i h1 h2 (by omega)⟩
  have mv : ∀ a b, a < m → b < m → D 59 b < D 59 a → F 61 b ≤ F 61 a := fun a b ha hb q => by
    rcases hF with ⟨q0, -⟩ | ⟨-, -, -, -, -, -, -, -, w⟩
    · omega
    · exact w hK1 a b ha hb (by show F 59 b < F 59 a; rw [f59]; exact q)
  have s0 : ∀ u, u < m → 0 ≤ F 61 u := fun u hu => (dF.2.2 u hu).2.2.2.1
  refine ok_ck j1 (ok_some ⟨m, (if m = 0 then 0 else K : Nat), by show N 57 0 = _; rw [n57]; exact dF.1, u2'.2.1, fun q => if_pos q, fun q => if_neg q, ?_, ?_, ?_, ?_, ?_, ⟨fun q l hl => ?_, fun q => ?_⟩, ⟨j6, ?_, fun i j hi hj ai aj q => ?_, fun na => ⟨fun i hi q => ?_, fun r5 i j hi hj q => ?_, fun r5 q i hi => ?_, fun l hl => ?_, fun k hk => ?_⟩⟩, fun na => ?_⟩)
  · refine c1'.trans ((i2.mono ?_).trans ((oF.mono ?_).trans ((o1.mono ?_).trans (j2.mono ?_)))) <;> (intro i hi; unfold oSp; first | (unfold oU at hi; omega) | (unfold oI6 at hi; omega) | omega)
  · show N 53 0 = _
    rw [n53, i3, c53 0 (by decide)]
  · show N 53 10 = _
    rw [n53, i4, c53 10 (by decide)]
  · show N 53 6 = 0 ∨ N 53 6 = 1
    rw [n53]; exact u8
  · show N 57 1 = _
    rw [n57]; exact given
  · rcases Int.lt_or_le 0 (M 54 l) with c | c
    · exfalso
      -- the first of l's unit
      have : ∀ k, k ≤ l → (∃ f, f ≤ k ∧ fst1 (M 55) f ∧ SaU (M 55) f l) ∨ ∀ b, b < k + 1 → ¬ SaU (M 55) b l := fun k => by
        induction k with
        | zero =>
          intro _
          by_cases s : SaU (M 55) 0 l
          · exact Or.inl ⟨0, Nat.le_refl 0, fun b hb => absurd hb (Nat.not_lt_zero b), s⟩
          · exact Or.inr (fun b hb => by rw [show b = 0 by omega]; exact s)
        | succ k ih =>
          intro hk
          rcases ih (by omega) with ⟨f, f1, f2⟩ | w
          · exact Or.inl ⟨f, by omega, f2⟩
          · by_cases s : SaU (M 55) (k + 1) l
            · exact Or.inl ⟨k + 1, Nat.le_refl _, fun b hb s2 => w b hb (s2.symm.trans s), s⟩
            · exact Or.inr (fun b hb => by
                by_cases e : b = k + 1
                · rw [e]; exact s
                · exact w b (by omega))
      rcases this l (Nat.le_refl l) with ⟨f, f1, f2, f3⟩ | w
      · obtain ⟨u, hu, -⟩ := u5 f (by omega) f2 ((uV_pos hv).mpr ⟨l, hl, f1, f3, c⟩)
        omega
      · exact w l (by omega) (Or.inl rfl)
    · have := hv l hl; omega
  · rcases Nat.eq_zero_or_pos m with c | c
    · exact c
    · exfalso
      obtain ⟨f, f1, f2, f3, f4, -⟩ := u4 0 c
      have b := (u2'.2.2 0 c).2.1
      have b : 1 ≤ D 59 0 ∧ D 59 0 ≤ 80000000 := b
      obtain ⟨l, l1, -, -, l4⟩ := (uV_pos hv).mp (show 0 < uV (M 54) (M 55) f n by omega)
      have := q l l1
      omega
  · show sN (N 71) n = _
    rw [j3]
    by_cases c : m = 0
    · rw [if_pos c, if_pos c]; rfl
    · rw [if_neg c, if_neg c]
  · show N 71 j ≤ N 71 i
    rcases alone i hi ai with ⟨a1, a2⟩ | ⟨a, a1, a2, a3, a4⟩
    · have := hv j hj; omega
    · rcases alone j hj aj with ⟨b1', b2'⟩ | ⟨b, b1', b2', b3', b4⟩
      · rw [b2', a4]; exact s0 a a1
      · rw [a4, b4]
        exact mv a b a1 b1' (by omega)
  · rcases alone i hi (na i hi) with ⟨a1, a2⟩ | ⟨a, a1, a2, a3, a4⟩
    · exact a2
    · have b := (u2'.2.2 a a1).2.1
      have b : 1 ≤ D 59 a ∧ D 59 a ≤ 80000000 := b
      omega
  · have q : 1 ≤ N 71 i := q
    show M 54 j * dv r (N 71 i - 1) ≤ M 54 i * dv r (N 71 j)
    rcases alone i hi (na i hi) with ⟨a1, a2⟩ | ⟨a, a1, a2, a3, a4⟩
    · omega
    · have hQ : QD F 57 m r := by
        rcases hF with ⟨q0, -⟩ | ⟨-, -, -, -, -, -, w, -⟩
        · omega
        · exact w r5
      rw [a4] at q
      rw [a4]
      rcases alone j hj (na j hj) with ⟨b1', b2'⟩ | ⟨b, b1', b2', b3', b4⟩
      · rw [b1', b2', Int.zero_mul]
        exact Int.mul_nonneg (hv i hi) (by have := (dv_mono (r := r) (Int.le_refl 0) (Int.le_refl 0)).1; omega)
      · have := hQ a a1 q b b1'
        have w : F 59 b * dv r (F 61 a - 1) ≤ F 59 a * dv r (F 61 b) := this
        rw [f59, a3, b3'] at w
        rw [b4]
        exact w
  · show N 71 i = M 54 i * (K : Int) / sN (M 54) n ∨ N 71 i = M 54 i * (K : Int) / sN (M 54) n + 1
    have eT := (u7 na).1
    rcases alone i hi (na i hi) with ⟨a1, a2⟩ | ⟨a, a1, a2, a3, a4⟩
    · rw [a1, a2, Int.zero_mul, Int.zero_ediv]; exact Or.inl rfl
    · rcases hF with ⟨q0, -⟩ | ⟨-, -, -, -, -, -, -, w, -⟩
      · omega
      · have w := w r5 a a1
        have w : F 61 a = F 59 a * (K : Int) / sN (F 59) m ∨ F 61 a = F 59 a * (K : Int) / sN (F 59) m + 1 := w
        rw [f59, a3, eT] at w
        rw [a4]
        exact w
  · show sN (fun k => if N 63 k = (l : Int) then 1 else 0) _ = N 71 l
    rw [n63]
    rcases hF with ⟨q0, -⟩ | ⟨q0, -, -, -, w2, w, -⟩
    · rw [if_pos q0]
      rcases alone l hl (na l hl) with ⟨a1, a2⟩ | ⟨a, a1, -⟩
      · rw [a2]; rfl
      · omega
    · rw [if_neg (by omega)]
      rcases alone l hl (na l hl) with ⟨a1, a2⟩ | ⟨a, a1, a2, a3, a4⟩
      · rw [a2, sN_congr (g := fun _ => 0) (fun k hk => if_neg (fun e => ?_)), sN_zero]
        obtain ⟨i, hi, e2⟩ := OC_all w (fun a b ha hb q => hdist a b ha hb (by have q : F 58 a = F 58 b := q; rw [f58] at q; exact q)) w2 k hk
        have e2 : F 63 k = F 58 i := e2
        obtain ⟨f, f1, f2, f3, f4, -⟩ := u4 i hi
        rw [f58] at e2
        have b := (u2'.2.2 i hi).2.1
        have b : 1 ≤ D 59 i ∧ D 59 i ≤ 80000000 := b
        rw [show f = l by omega, uV_alone hl (by rw [na l hl]; decide), a1] at f4
        omega
      · have w := w a a1
        have w : sN (fun k => if F 63 k = F 58 a then (1 : Int) else 0) K = F 61 a := w
        rw [f58, a2] at w
        rw [a4]; exact w
  · show 0 ≤ N 63 k ∧ N 63 k < (n : Int)
    rw [n63]
    rcases hF with ⟨q0, -⟩ | ⟨q0, -, -, -, w2, w, -⟩
    · rw [if_pos q0] at hk; exact absurd hk (Nat.not_lt_zero k)
    · rw [if_neg (by omega)] at hk
      obtain ⟨i, hi, e2⟩ := OC_all w (fun a b ha hb q => hdist a b ha hb (by have q : F 58 a = F 58 b := q; rw [f58] at q; exact q)) w2 k hk
      have e2 : F 63 k = F 58 i := e2
      obtain ⟨f, f1, f2, -⟩ := u4 i hi
      rw [f58] at e2
      omega
  · show N 53 6 = 0
    rw [n53]; exact (u7 na).2
