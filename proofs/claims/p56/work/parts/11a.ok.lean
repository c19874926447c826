/-! OPTIONS THAT ARE SOME, AND WHAT HOLDS OF THEM -/
def Ok {α : Type} (x : Option α) (Q : α → Prop) : Prop := ∃ a, x = some a ∧ Q a
theorem Ok.mono {α : Type} {x : Option α} {Q R : α → Prop} (h : Ok x Q) (g : ∀ a, Q a → R a) : Ok x R := by
  obtain ⟨a, e, q⟩ := h
  exact ⟨a, e, g a q⟩
theorem ok_some {α : Type} {a : α} {Q : α → Prop} (h : Q a) : Ok (some a) Q := ⟨a, rfl, h⟩
theorem ok_ck {α : Type} {P : Prop} {i : Decidable P} {x : Option α} {Q : α → Prop} (hP : P) (h : Ok x Q) : Ok (@ck α P i x) Q := by rw [ck_i hP]; exact h
theorem ok_bm {α β : Type} {x : Option α} {f : α → Option β} {R : α → Prop} {Q : β → Prop} (h : Ok x R) (g : ∀ a, R a → Ok (f a) Q) : Ok (x.bind f) Q := by
  obtain ⟨a, e, q⟩ := h
  rw [e]
  exact g a q
theorem ok_nb {α β : Type} {x : α} {f : α → Option β} {Q : β → Prop} (h : Ok (f x) Q) : Ok (nb x f) Q := h
theorem ok_if {α : Type} {c : Prop} {i : Decidable c} {a b : Option α} {Q : α → Prop} (h1 : c → Ok a Q) (h2 : ¬ c → Ok b Q) : Ok (@ite _ c i a b) Q := by
  by_cases hc : c
  · rw [if_pos hc]; exact h1 hc
  · rw [if_neg hc]; exact h2 hc
theorem ok_eq {α : Type} {x y : Option α} {Q : α → Prop} (e : x = y) (h : Ok y Q) : Ok x Q := by rw [e]; exact h
theorem ok_det {α : Type} {x : Option α} {Q : α → Prop} {a : α} (h : Ok x Q) (e : x = some a) : Q a := by
  obtain ⟨b, e2, q⟩ := h
  rw [e] at e2
  cases e2
  exact q
/-- the loop goes on, the loop ends -/
theorem ok_go {t : Nat} {G R : Prop} (ht : t = 0) (h : G) : (t = 0 → G) ∧ (t ≠ 0 → R) := ⟨fun _ => h, fun q => absurd ht q⟩
theorem ok_out {t : Nat} {G R : Prop} (ht : t ≠ 0) (h : R) : (t = 0 → G) ∧ (t ≠ 0 → R) := ⟨fun q => absurd q ht, fun _ => h⟩
theorem ok_on {t : Nat} {G R : Prop} (ht : t = 0) (h : G) : (t = 0 → G) ∧ (t ≠ 0 → R) := ⟨fun _ => h, fun q => absurd ht q⟩
/-! MEMORY: what a write leaves -/
theorem u2_at (M : Mm) (i k : Nat) (x : Int) : u2 M i k x i k = x := by unfold u2; rw [va_up_self, va_up_self]
theorem u2_ne {M : Mm} {i k j l : Nat} {x : Int} (h : j ≠ i ∨ l ≠ k) : u2 M i k x j l = M j l := by
  unfold u2
  by_cases hj : j = i
  · subst hj
    rw [va_up_self, va_up_ne _ _ (h.resolve_left (fun q => q rfl))]
  · rw [va_up_ne _ _ hj]
theorem u2_row {M : Mm} {i k j : Nat} {x : Int} (h : j ≠ i) : u2 M i k x j = M j := va_up_ne _ _ h
theorem u2_if (M : Mm) (i k j l : Nat) (x : Int) : u2 M i k x j l = if j = i ∧ l = k then x else M j l := by
  by_cases h : j = i ∧ l = k
  · rw [if_pos h, h.1, h.2, u2_at]
  · rw [if_neg h]
    refine u2_ne ?_
    by_cases hj : j = i
    · exact Or.inr (fun q => h ⟨hj, q⟩)
    · exact Or.inl hj
theorem uA_at (M : Mm) (i : Nat) (f : Nat → Int) : uA M i f i = f := va_up_self _ _ _
theorem uA_row {M : Mm} {i j : Nat} {f : Nat → Int} (h : j ≠ i) : uA M i f j = M j := va_up_ne _ _ h
/-- all but some cells are as they were -/
def Off (S : Nat → Prop) (M N : Mm) : Prop := ∀ i, ¬ S i → N i = M i
theorem Off.refl {S : Nat → Prop} {M : Mm} : Off S M M := fun _ _ => rfl
theorem Off.trans {S : Nat → Prop} {M N K : Mm} (h : Off S M N) (g : Off S N K) : Off S M K := fun i hi => (g i hi).trans (h i hi)
theorem Off.mono {S T : Nat → Prop} {M N : Mm} (h : Off S M N) (g : ∀ i, S i → T i) : Off T M N := fun i hi => h i (fun q => hi (g i q))
theorem Off.u2 {S : Nat → Prop} {M N : Mm} {i k : Nat} {x : Int} (h : Off S M N) (hi : S i) : Off S M (u2 N i k x) := fun j hj => (u2_row (fun e => hj (by rw [e]; exact hi))).trans (h j hj)
theorem Off.uA {S : Nat → Prop} {M N : Mm} {i : Nat} {f : Nat → Int} (h : Off S M N) (hi : S i) : Off S M (uA N i f) := fun j hj => (uA_row (fun e => hj (by rw [e]; exact hi))).trans (h j hj)
