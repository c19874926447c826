/-! WARDS IN DISTRICTS -/
/-- the least of some, not over 1600001 -/
def mnR (f : Nat → Int) (s : Nat) : Nat → Int
  | 0 => 1600001
  | k + 1 => min (mnR f s k) (f (s + k))
theorem mnR_le {f : Nat → Int} {s : Nat} : ∀ {k j : Nat}, j < k → mnR f s k ≤ f (s + j)
  | 0, _, h => absurd h (Nat.not_lt_zero _)
  | k + 1, j, h => by
    unfold mnR
    by_cases e : j = k
    · subst e; exact Int.min_le_right _ _
    · exact Int.le_trans (Int.min_le_left _ _) (mnR_le (by omega))
theorem mnR_top (f : Nat → Int) (s : Nat) : ∀ k, mnR f s k ≤ 1600001
  | 0 => Int.le_refl _
  | k + 1 => Int.le_trans (Int.min_le_left _ _) (mnR_top f s k)
theorem mnR_nonneg {f : Nat → Int} (h : ∀ e, 0 ≤ f e) (s : Nat) : ∀ k, 0 ≤ mnR f s k
  | 0 => by show (0 : Int) ≤ 1600001; decide
  | k + 1 => by
    have h1 := mnR_nonneg h s k
    have h2 := h (s + k)
    unfold mnR
    omega
theorem mnR_at (f : Nat → Int) (s : Nat) : ∀ k, mnR f s k = 1600001 ∨ ∃ j, j < k ∧ mnR f s k = f (s + j)
  | 0 => Or.inl rfl
  | k + 1 => by
    unfold mnR
    rcases Int.le_total (mnR f s k) (f (s + k)) with g | g
    · rw [Int.min_eq_left g]
      rcases mnR_at f s k with h | ⟨j, h1, h2⟩
      · exact Or.inl h
      · exact Or.inr ⟨j, by omega, h2⟩
    · rw [Int.min_eq_right g]
      exact Or.inr ⟨k, by omega, rfl⟩
/-- the sum of the wards s to e -/
def sm (w : Nat → Int) (s e : Nat) : Int := sN w (e + 1) - sN w s
/-- the least greatest district, wards s and on in c districts -/
def wT (w : Nat → Int) (n : Nat) : Nat → Nat → Int
  | 0, s => if n ≤ s then 0 else 1600001
  | c + 1, s => mnR (fun e => max (sm w s e) (wT w n c (e + 1))) s (n - c - s)
theorem wT_range (w : Nat → Int) (n : Nat) : ∀ c s, 0 ≤ wT w n c s ∧ wT w n c s ≤ 1600001
  | 0, s => by
    unfold wT
    by_cases h : n ≤ s
    · rw [if_pos h]; decide
    · rw [if_neg h]; decide
  | c + 1, s => by
    unfold wT
    exact ⟨mnR_nonneg (fun e => Int.le_trans (wT_range w n c (e + 1)).1 (Int.le_max_right _ _)) _ _, mnR_top _ _ _⟩
/-- a division of the wards s and on: the districts' ends -/
def DV (n : Nat) : Nat → List Nat → Prop
  | s, [] => s = n
  | s, e :: l => s ≤ e ∧ e < n ∧ DV n (e + 1) l
def gr (w : Nat → Int) : Nat → List Nat → Int
  | _, [] => 0
  | s, e :: l => max (sm w s e) (gr w (e + 1) l)
theorem DV_len {n : Nat} : ∀ {l : List Nat} {s : Nat}, DV n s l → s + l.length ≤ n
  | [], s, h => by have h : s = n := h; show s + 0 ≤ n; omega
  | e :: l, s, h => by
    obtain ⟨h1, h2, h3⟩ := h
    have := DV_len h3
    show s + (l.length + 1) ≤ n
    omega
theorem wT_le {w : Nat → Int} {n : Nat} : ∀ {l : List Nat} {s : Nat}, DV n s l → wT w n l.length s ≤ gr w s l
  | [], s, h => by
    have h : s = n := h
    show (if n ≤ s then (0 : Int) else 1600001) ≤ 0
    rw [if_pos (by omega)]
    decide
  | e :: l, s, h => by
    obtain ⟨h1, h2, h3⟩ := h
    have h4 := DV_len h3
    have h5 := wT_le (w := w) h3
    show mnR (fun e => max (sm w s e) (wT w n l.length (e + 1))) s (n - l.length - s) ≤ max (sm w s e) (gr w (e + 1) l)
    have h6 := mnR_le (f := fun e => max (sm w s e) (wT w n l.length (e + 1))) (s := s) (k := n - l.length - s) (j := e - s) (by omega)
    rw [show s + (e - s) = e by omega] at h6
    have h6 : mnR (fun e => max (sm w s e) (wT w n l.length (e + 1))) s (n - l.length - s) ≤ max (sm w s e) (wT w n l.length (e + 1)) := h6
    omega
theorem wT_at {w : Nat → Int} {n : Nat} (hB : ∀ a b, a ≤ b → b < n → sm w a b ≤ 1600000) : ∀ (c s : Nat), s + c ≤ n → (c = 0 → s = n) → wT w n c s ≤ 1600000 ∧ ∃ l, DV n s l ∧ l.length = c ∧ gr w s l = wT w n c s
  | 0, s, _, h0 => by
    have h0 := h0 rfl
    have e : wT w n 0 s = 0 := by unfold wT; rw [if_pos (by omega)]
    rw [e]
    exact ⟨by decide, [], h0, rfl, rfl⟩
  | c + 1, s, h, _ => by
    obtain ⟨f, hf⟩ : ∃ f : Nat → Int, f = fun e => max (sm w s e) (wT w n c (e + 1)) := ⟨_, rfl⟩
    have e0 : wT w n (c + 1) s = mnR f s (n - c - s) := by rw [hf]; rfl
    have i1 := (wT_at hB c (n - c - 1 + 1) (by omega) (by omega)).1
    have i2 := hB s (n - c - 1) (by omega) (by omega)
    have i3 := mnR_le (f := f) (s := s) (k := n - c - s) (j := n - c - 1 - s) (by omega)
    rw [show s + (n - c - 1 - s) = n - c - 1 by omega] at i3
    have i4 : f (n - c - 1) = max (sm w s (n - c - 1)) (wT w n c (n - c - 1 + 1)) := by rw [hf]
    have i5 : wT w n (c + 1) s ≤ 1600000 := by rw [e0]; omega
    rcases mnR_at f s (n - c - s) with g | ⟨j, hj, g⟩
    · omega
    · have i6 : f (s + j) = max (sm w s (s + j)) (wT w n c (s + j + 1)) := by rw [hf]
      have i7 : c = 0 → s + j + 1 = n := fun hc => by
        subst hc
        have i8 : wT w n 0 (s + j + 1) ≤ 1600000 := by omega
        unfold wT at i8
        by_cases q : n ≤ s + j + 1
        · omega
        · rw [if_neg q] at i8; omega
      obtain ⟨-, l, l1, l2, l3⟩ := wT_at hB c (s + j + 1) (by omega) i7
      refine ⟨i5, (s + j) :: l, ⟨by omega, by omega, l1⟩, by show l.length + 1 = _; omega, ?_⟩
      show max (sm w s (s + j)) (gr w (s + j + 1) l) = _
      rw [l3, e0, g, i6]
/-- the order of divisions -/
def lx : List Nat → List Nat → Prop
  | [], _ => True
  | _ :: _, [] => False
  | a :: l, b :: m => a < b ∨ (a = b ∧ lx l m)
theorem lx_refl : ∀ l, lx l l
  | [] => True.intro
  | a :: l => Or.inr ⟨rfl, lx_refl l⟩
theorem lx_trans : ∀ {a b c : List Nat}, lx a b → lx b c → lx a c
  | [], _, _, _, _ => True.intro
  | _ :: _, [], _, h, _ => h.elim
  | _ :: _, _ :: _, [], _, h => h.elim
  | x :: a, y :: b, z :: c, h, g => by
    rcases h with h | ⟨h1, h2⟩
    · rcases g with g | ⟨g1, g2⟩
      · exact Or.inl (by omega)
      · exact Or.inl (by omega)
    · rcases g with g | ⟨g1, g2⟩
      · exact Or.inl (by omega)
      · exact Or.inr ⟨by omega, lx_trans h2 g2⟩
theorem lx_anti : ∀ {a b : List Nat}, a.length = b.length → lx a b → lx b a → a = b
  | [], [], _, _, _ => rfl
  | [], _ :: _, h, _, _ => absurd h (by show ¬ 0 = _ + 1; omega)
  | _ :: _, [], _, h, _ => h.elim
  | x :: a, y :: b, hl, h, g => by
    have hl : a.length + 1 = b.length + 1 := hl
    rcases h with h | ⟨h1, h2⟩
    · rcases g with g | ⟨g1, g2⟩ <;> omega
    · rcases g with g | ⟨g1, g2⟩
      · omega
      · rw [h1, lx_anti (by omega) h2 g2]
/-- the ends that the class chooses -/
def PL (w : Nat → Int) (n : Nat) (G : Int) : Nat → Nat → List Nat → Prop
  | 0, _, [] => True
  | c + 1, s, j :: l => s ≤ j ∧ j + c + 1 ≤ n ∧ (∀ i, s ≤ i → i < j → ¬ wT w n c (i + 1) ≤ G) ∧ (j + c + 1 = n ∨ wT w n c (j + 1) ≤ G) ∧ PL w n G c (j + 1) l
  | _, _, _ => False
theorem PL_len {w : Nat → Int} {n : Nat} {G : Int} : ∀ {c s : Nat} {p : List Nat}, PL w n G c s p → p.length = c
  | 0, _, [], _ => rfl
  | 0, _, _ :: _, h => h.elim
  | _ + 1, _, [], h => h.elim
  | c + 1, s, j :: l, h => by show l.length + 1 = c + 1; rw [PL_len h.2.2.2.2]
theorem sm_mono {w : Nat → Int} (hw : ∀ k, 0 ≤ w k) (s : Nat) : ∀ {e f : Nat}, e ≤ f → sm w s e ≤ sm w s f
  | e, 0, h => by rw [show e = 0 by omega]; exact Int.le_refl _
  | e, f + 1, h => by
    by_cases q : e = f + 1
    · rw [q]; exact Int.le_refl _
    · have h1 := sm_mono hw s (show e ≤ f by omega)
      have h2 := hw (f + 1)
      have h3 : sm w s (f + 1) = sm w s f + w (f + 1) := by
        unfold sm
        rw [sN_succ w (f + 1)]
        omega
      omega
theorem PL_best {w : Nat → Int} {n : Nat} {G : Int} (hw : ∀ k, 0 ≤ w k) (hB : ∀ a b, a ≤ b → b < n → sm w a b ≤ 1600000) : ∀ {c s : Nat} {p : List Nat}, PL w n G c s p → (∃ l, DV n s l ∧ l.length = c ∧ gr w s l ≤ G) → 0 ≤ G ∧ G ≤ 1600000 → DV n s p ∧ gr w s p ≤ G ∧ ∀ l, DV n s l → l.length = c → gr w s l ≤ G → lx p l
  | 0, s, [], _, ⟨l, h1, h2, h3⟩, hG => by
    have e : l = [] := List.length_eq_zero_iff.mp h2
    subst e
    exact ⟨h1, hG.1, fun _ _ _ _ => True.intro⟩
  | 0, _, _ :: _, h, _, _ => h.elim
  | _ + 1, _, [], h, _, _ => h.elim
  | c + 1, s, j :: p, ⟨p1, p2, p3, p4, p5⟩, ⟨l, h1, h2, h3⟩, hG => by
    -- what any good division says of j
    have key : ∀ l, DV n s l → l.length = c + 1 → gr w s l ≤ G → ∃ e l', l = e :: l' ∧ s ≤ e ∧ DV n (e + 1) l' ∧ l'.length = c ∧ gr w (e + 1) l' ≤ G ∧ j ≤ e ∧ sm w s e ≤ G ∧ wT w n c (e + 1) ≤ G ∧ e + c + 1 ≤ n := fun l h1 h2 h3 => by
      cases l with
      | nil => exact absurd h2 (by show ¬ 0 = c + 1; omega)
      | cons e l' =>
        obtain ⟨a1, a2, a3⟩ := h1
        have a4 : l'.length + 1 = c + 1 := h2
        have a5 : max (sm w s e) (gr w (e + 1) l') ≤ G := h3
        have a6 := DV_len a3
        have a7 := wT_le (w := w) a3
        rw [show l'.length = c by omega] at a7
        refine ⟨e, l', rfl, a1, a3, by omega, by omega, ?_, by omega, by omega, by omega⟩
        rcases Nat.lt_or_ge e j with q | q
        · exact absurd (show wT w n c (e + 1) ≤ G by omega) (p3 e a1 q)
        · exact q
    obtain ⟨e, l', rfl, a1, a2, a3, a4, a5, a6, a7, a8⟩ := key l h1 h2 h3
    have hj : wT w n c (j + 1) ≤ G := by
      rcases p4 with q | q
      · rw [show j = e by omega]; exact a7
      · exact q
    have hs : sm w s j ≤ G := Int.le_trans (sm_mono hw s a5) a6
    have h0 : c = 0 → j + 1 = n := fun hc => by
      subst hc
      unfold wT at hj
      by_cases q : n ≤ j + 1
      · omega
      · rw [if_neg q] at hj; omega
    obtain ⟨-, l2, m1, m2, m3⟩ := wT_at hB c (j + 1) (by omega) h0
    obtain ⟨n1, n2, n3⟩ := PL_best hw hB p5 ⟨l2, m1, m2, by omega⟩ hG
    refine ⟨⟨p1, by omega, n1⟩, ?_, fun l g1 g2 g3 => ?_⟩
    · show max (sm w s j) (gr w (j + 1) p) ≤ G
      omega
    · obtain ⟨e, l', rfl, b1, b2, b3, b4, b5, b6, b7, b8⟩ := key l g1 g2 g3
      rcases Nat.lt_or_ge j e with q | q
      · exact Or.inl q
      · have q2 : j = e := by omega
        exact Or.inr ⟨q2, n3 l' (by rw [q2]; exact b2) b3 (by rw [q2]; exact b4)⟩
theorem getD_app_l : ∀ (a b : List Nat) (i : Nat), i < a.length → (a ++ b).getD i 0 = a.getD i 0
  | [], _, _, h => absurd h (Nat.not_lt_zero _)
  | _ :: _, _, 0, _ => rfl
  | _ :: a, b, i + 1, h => getD_app_l a b i (Nat.lt_of_succ_lt_succ h)
theorem getD_app_at : ∀ (a : List Nat) (x : Nat) (b : List Nat), (a ++ x :: b).getD a.length 0 = x
  | [], _, _ => rfl
  | _ :: a, x, b => getD_app_at a x b
