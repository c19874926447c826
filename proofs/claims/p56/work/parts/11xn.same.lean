/-! THE SAME POLL HAS THE SAME WINNERS -/
def rS (n : Nat) (p : (Nat → Nat) → Nat → Nat → Prop) : Prop := ∀ r s g a, (∀ c, c < n → r c = s c) → (p r g a ↔ p s g a)
def PQ (n : Nat) (w : Nat → Int) (R : Nat → Nat → Nat) (G A : Nat → Nat) (w' : Nat → Int) (R' : Nat → Nat → Nat) (G' A' : Nat → Nat) : Prop := ∀ p, rS n p → wsum w (fun k => p (R k) (G k) (A k)) = wsum w' (fun k => p (R' k) (G' k) (A' k))
theorem wsum_true (w : Nat → Int) : wsum w (fun _ => True) = sN w 31 := sN_congr fun i _ => by rw [ind_t trivial, Int.mul_one]
theorem PQ.symm {n : Nat} {w w' : Nat → Int} {R R' : Nat → Nat → Nat} {G A G' A' : Nat → Nat} (h : PQ n w R G A w' R' G' A') : PQ n w' R' G' A' w R G A := fun p hp => (h p hp).symm
theorem PQ.sum {n : Nat} {w w' : Nat → Int} {R R' : Nat → Nat → Nat} {G A G' A' : Nat → Nat} (h : PQ n w R G A w' R' G' A') : sN w 31 = sN w' 31 := by
  have : wsum w (fun _ => True) = wsum w' (fun _ => True) := h (fun _ _ _ => True) (fun _ _ _ _ _ => Iff.rfl)
  rw [wsum_true, wsum_true] at this
  exact this
theorem PQ.dq {n : Nat} {w w' : Nat → Int} {R R' : Nat → Nat → Nat} {G A G' A' : Nat → Nat} (h : PQ n w R G A w' R' G' A') {c o : Nat} (hc : c < n) (ho : o < n) : dw w R c o = dw w' R' c o := h (fun r _ _ => r c < r o) (fun r s _ _ e => by
  show r c < r o ↔ s c < s o
  rw [e c hc, e o ho])
theorem PQ.tp {n : Nat} {w w' : Nat → Int} {R R' : Nat → Nat → Nat} {G A G' A' : Nat → Nat} (h : PQ n w R G A w' R' G' A') {T c : Nat} (hc : c < n) : tops w R G n T c = tops w' R' G' n T c := h (fun r g _ => sole r g n T c) (fun r s g _ e => by
  show sole r g n T c ↔ sole s g n T c
  constructor
  · rintro ⟨a, b, d⟩
    exact ⟨a, by rw [← e c hc]; exact b, fun i hi h1 h2 => by rw [← e c hc, ← e i hi]; exact d i hi h1 h2⟩
  · rintro ⟨a, b, d⟩
    exact ⟨a, by rw [e c hc]; exact b, fun i hi h1 h2 => by rw [e c hc, e i hi]; exact d i hi h1 h2⟩)
theorem PQ.sc {n : Nat} {w w' : Nat → Int} {R R' : Nat → Nat → Nat} {G A G' A' : Nat → Nat} (h : PQ n w R G A w' R' G' A') {way : Int} {c : Nat} (hc : c < n) : scF w R G A n way c = scF w' R' G' A' n way c := by
  unfold scF
  by_cases c1' : way = 3
  · rw [if_pos c1', if_pos c1']
    unfold points
    rw [h.sum]
    refine sN_congr fun o ho => ?_
    rw [h.dq hc ho, h.dq ho hc]
  · rw [if_neg c1', if_neg c1']
    by_cases c2 : way = 4
    · rw [if_pos c2, if_pos c2]
      exact h (fun _ _ a => a.testBit c = true) (fun _ _ _ _ _ => Iff.rfl)
    · rw [if_neg c2, if_neg c2]
      exact h.tp hc
theorem wA_dd {d e : Nat → Nat → Int} {n : Nat} {v : Int} {X : Nat → Prop} (hd : ∀ c o, c < n → o < n → d c o = e c o) : ∀ {k x y : Nat}, x < n → wA d n v X k x y → wA e n v X k x y
  | 0, _, _, _, h => h
  | k + 1, x, y, hx, ⟨c, a, b, l, h⟩ => ⟨c, a, b, ⟨by rw [← hd c x a hx, ← hd x c hx a]; exact l.1, by rw [← hd x c hx a]; exact l.2⟩, wA_dd hd a h⟩
theorem PI_dd {d e : Nat → Nat → Int} {n m : Nat} {P : Nat → Nat → Int} (hd : ∀ c o, c < n → o < n → d c o = e c o) (h : PI d n m P) : PI e n m P := by
  obtain ⟨h1, h2, h3, h4⟩ := h
  refine ⟨h1, fun c o hc ho => ?_, fun c o hc ho q => ?_, h4⟩
  · have := h2 c o hc ho
    unfold p0 at this ⊢
    rw [← hd c o hc ho, ← hd o c ho hc]
    exact this
  · obtain ⟨k, hk⟩ := h3 c o hc ho q
    exact ⟨k, wA_dd hd hc hk⟩
theorem rn_pq {n : Nat} {w w' : Nat → Int} {R R' : Nat → Nat → Nat} {G A G' A' : Nat → Nat} {lo : Nat → Int} (h : PQ n w R G A w' R' G' A') : ∀ {m T r : Nat}, rn w R G lo n m T r → rn w' R' G' lo n m T r
  | 0, _, _, q => q
  | m + 1, T, r, ⟨g, g1, g2⟩ => ⟨g, pk_congr (fun a b ha hb q => by
      unfold pl at q ⊢
      rw [← h.tp ha, ← h.tp hb]
      exact q) g1, rn_pq h g2⟩
theorem BB_pq {n : Nat} {w w' : Nat → Int} {R R' : Nat → Nat → Nat} {G A G' A' : Nat → Nat} {lo : Nat → Int} {way : Int} {b : Nat} (h : PQ n w R G A w' R' G' A') (g : BB w R G A lo n way b) : BB w' R' G' A' lo n way b := by
  unfold BB at g ⊢
  by_cases c1' : way = 1
  · rw [if_pos c1'] at g ⊢
    exact rn_pq h g
  · rw [if_neg c1'] at g ⊢
    by_cases c2 : way = 2
    · rw [if_pos c2] at g ⊢
      obtain ⟨P, W, h1, h2, h3⟩ := g
      exact ⟨P, W, PI_dd (fun c o hc ho => h.dq hc ho) h1, h2, h3⟩
    · rw [if_neg c2] at g ⊢
      exact pk_congr (fun a b ha hb q => by
        unfold pg at q ⊢
        rw [← h.sc ha, ← h.sc hb]
        exact q) g
/-- the box's poll with one ballot more on the row k that is empty -/
theorem PQ_row {n k l : Nat} {f w w' : Nat → Int} {R S S' : Nat → Nat → Nat} {G A H B H' B' : Nat → Nat} (hk : k < 31) (hl : l < 31) (ew : ∀ i, w i = if i = k then f i + 1 else f i) (ew' : ∀ i, w' i = if i = l then f i + 1 else f i) (h0 : ∀ i, i ≠ k → f i = 0 ∨ ((∀ c, c < n → S i c = R i c) ∧ H i = G i ∧ B i = A i)) (h0' : ∀ i, i ≠ l → f i = 0 ∨ ((∀ c, c < n → S' i c = R i c) ∧ H' i = G i ∧ B' i = A i)) (hk0 : f k = 0 ∨ ((∀ c, c < n → S k c = R k c) ∧ H k = G k ∧ B k = A k)) (hl0 : f l = 0 ∨ ((∀ c, c < n → S' l c = R l c) ∧ H' l = G l ∧ B' l = A l)) (hs : ∀ c, c < n → S k c = S' l c) (hg : H k = H' l) (ha : B k = B' l) : PQ n w S H B w' S' H' B' := fun p hp => by
  have one : ∀ {k : Nat} {w : Nat → Int} {S : Nat → Nat → Nat} {H B : Nat → Nat}, k < 31 → (∀ i, w i = if i = k then f i + 1 else f i) → (∀ i, i ≠ k → f i = 0 ∨ ((∀ c, c < n → S i c = R i c) ∧ H i = G i ∧ B i = A i)) → (f k = 0 ∨ ((∀ c, c < n → S k c = R k c) ∧ H k = G k ∧ B k = A k)) → wsum w (fun i => p (S i) (H i) (B i)) = sN (fun i => f i * ind (p (R i) (G i) (A i))) 31 + ind (p (S k) (H k) (B k)) := fun {k w S H B} hk ew h0 hk0 => by
    refine sN_at (i := k) hk fun i _ => ?_
    have same : ∀ i, (f i = 0 ∨ ((∀ c, c < n → S i c = R i c) ∧ H i = G i ∧ B i = A i)) → f i * ind (p (S i) (H i) (B i)) = f i * ind (p (R i) (G i) (A i)) := fun i q => by
      rcases q with q | ⟨q1, q2, q3⟩
      · rw [q, Int.zero_mul, Int.zero_mul]
      · rw [q2, q3, ind_congr (hp _ _ _ _ q1)]
    show w i * _ = _
    rw [ew i]
    by_cases e : i = k
    · rw [if_pos e, if_pos e, e, Int.add_mul, Int.one_mul, same k hk0]
    · rw [if_neg e, if_neg e]
      exact same i (h0 i e)
  rw [one hk ew h0 hk0, one hl ew' h0' hl0, hg, ha, ind_congr (hp _ _ _ _ hs)]
