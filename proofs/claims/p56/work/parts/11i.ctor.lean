/-! THE CONSTRUCTOR: the cells as a list -/
abbrev Gc : Type := List (Dd × List (Nat × Nat))
def gT' (cs : Gc) (i : Nat) : Dd := (cs.getD i ((0, 0), [])).1
def gR' (cs : Gc) (i k : Nat) : Option Nat := (cs.getD i ((0, 0), [])).2.lookup k
def gNew (cs : Gc) (d : Dd) : Gc := cs ++ [(d, [])]
def gRef (cs : Gc) (i k j : Nat) : Gc := cs.modify i (fun c => (c.1, (k, j) :: c.2))
def gGrid (cs : Gc) (N K : Nat) : Gc := cs ++ (((6, N), (List.range N).map (fun k => (k, cs.length + 1 + k))) :: List.replicate N ((0, K), []))
def Desc (E : Ev) (cs : Gc) : Prop := nE E = cs.length ∧ ∀ i, i < cs.length → tE E i = gT' cs i ∧ ∀ k, rE E i k = gR' cs i k
theorem gNew_len (cs : Gc) (d : Dd) : (gNew cs d).length = cs.length + 1 := by simp [gNew]
theorem gRef_len (cs : Gc) (i k j : Nat) : (gRef cs i k j).length = cs.length := by simp [gRef]
theorem gGrid_len (cs : Gc) (N K : Nat) : (gGrid cs N K).length = cs.length + 1 + N := by simp [gGrid]; omega
theorem Desc.new {E : Ev} {cs : Gc} (h : Desc E cs) (d : Dd) : Desc (eNew E d) (gNew cs d) := by
  refine ⟨by rw [gNew_len, ← h.1]; rfl, fun i hi => ?_⟩
  rw [gNew_len] at hi
  by_cases e : i = nE E
  · have e2 : (gNew cs d).getD i ((0, 0), []) = (d, []) := by rw [e, h.1]; simp [gNew]
    refine ⟨?_, fun k => ?_⟩
    · unfold gT'; rw [e2, e]; exact new_T E d
    · unfold gR'; rw [e2, e]
      show va_up (rE E) (nE E) (fun _ => none) (nE E) k = none
      rw [va_up_self]
  · have hlt : i < cs.length := by rw [← h.1]; have := h.1; omega
    have e2 : (gNew cs d).getD i ((0, 0), []) = cs.getD i ((0, 0), []) := by simp [gNew, List.getD_eq_getElem?_getD, List.getElem?_append_left hlt]
    obtain ⟨a, b⟩ := h.2 i hlt
    refine ⟨?_, fun k => ?_⟩
    · unfold gT'; rw [e2]; exact (va_up_ne _ _ e).trans a
    · unfold gR'; rw [e2, ← gR', ← b k]
      show va_up (rE E) (nE E) (fun _ => none) i k = rE E i k
      rw [va_up_ne _ _ e]
theorem Desc.ref {E : Ev} {cs : Gc} (h : Desc E cs) {i k j : Nat} (hi : i < cs.length) (hj : j < cs.length) : Desc (eRef E i k j) (gRef cs i k j) := by
  have hj' : j < nE E := by rw [h.1]; exact hj
  refine ⟨by rw [nE_ref, gRef_len]; exact h.1, fun a ha => ?_⟩
  rw [gRef_len] at ha
  obtain ⟨e1, e2⟩ := h.2 a ha
  rw [tE_ref, rE_ref hj']
  by_cases e : i = a
  · subst e
    have e3 : (gRef cs i k j).getD i ((0, 0), []) = ((cs.getD i ((0, 0), [])).1, (k, j) :: (cs.getD i ((0, 0), [])).2) := by simp [gRef, List.getD_eq_getElem?_getD, ha]
    refine ⟨?_, fun l => ?_⟩
    · unfold gT'; rw [e3]; exact e1
    · unfold gR'; rw [e3, va_up_self]
      by_cases el : l = k
      · subst el; rw [va_up_self]; simp [List.lookup]
      · rw [va_up_ne _ _ el, e2 l]
        have : (l == k) = false := by simpa using el
        simp [List.lookup, this, gR']
  · have e3 : (gRef cs i k j).getD a ((0, 0), []) = cs.getD a ((0, 0), []) := by simp [gRef, List.getD_eq_getElem?_getD, e]
    refine ⟨?_, fun l => ?_⟩
    · unfold gT'; rw [e3]; exact e1
    · unfold gR'; rw [e3, va_up_ne _ _ (Ne.symm e)]; exact e2 l
theorem lookup_range (c : Nat) : ∀ (N k : Nat), ((List.range N).map (fun k => (k, c + k))).lookup k = if k < N then some (c + k) else none
  | 0, k => by simp
  | N + 1, k => by
    rw [List.range_succ, List.map_append, List.lookup_append, lookup_range c N k]
    by_cases h : k < N
    · rw [if_pos h, if_pos (by omega)]; rfl
    · rw [if_neg h]
      by_cases e : k = N
      · subst e; simp
      · rw [if_neg (by omega)]
        have : (k == N) = false := by simpa using e
        simp [List.lookup, this]
theorem Desc.grid {E : Ev} {cs : Gc} (h : Desc E cs) (N K : Nat) : Desc (eGrid E N K) (gGrid cs N K) := by
  refine ⟨by rw [gGrid_len, ← h.1]; rfl, fun i hi => ?_⟩
  rw [gGrid_len] at hi
  have hn := h.1
  show gT E N K i = _ ∧ ∀ k, gR E N i k = _
  unfold gT gR
  by_cases c1 : i < nE E
  · have hlt : i < cs.length := by omega
    have e2 : (gGrid cs N K).getD i ((0, 0), []) = cs.getD i ((0, 0), []) := by simp [gGrid, List.getD_eq_getElem?_getD, List.getElem?_append_left hlt]
    obtain ⟨a, b⟩ := h.2 i hlt
    rw [bltT (show i < E.1.1 from c1)]
    exact ⟨by unfold gT'; rw [e2]; exact a, fun k => by unfold gR'; rw [e2]; exact b k⟩
  · rw [bltF (show ¬ i < E.1.1 from c1)]
    by_cases c2 : i = nE E
    · have e2 : (gGrid cs N K).getD i ((0, 0), []) = ((6, N), (List.range N).map (fun k => (k, cs.length + 1 + k))) := by rw [c2, h.1]; simp [gGrid]
      rw [show (i == E.1.1) = true by rw [c2]; exact beq_self_eq_true _]
      refine ⟨by unfold gT'; rw [e2]; rfl, fun k => ?_⟩
      unfold gR'
      rw [e2]
      show (bif Nat.blt k N then some (nE E + 1 + k) else none) = _
      rw [lookup_range, h.1]
      by_cases hk : k < N
      · rw [bltT hk, if_pos hk]; rfl
      · rw [bltF hk, if_neg hk]; rfl
    · obtain ⟨j, rfl⟩ : ∃ j, i = cs.length + (j + 1) := ⟨i - (cs.length + 1), by omega⟩
      have e2 : (gGrid cs N K).getD (cs.length + (j + 1)) ((0, 0), []) = ((0, K), []) := by
        have hj : j < N := by omega
        simp [gGrid, List.getD_eq_getElem?_getD, hj, List.getElem?_append_right]
      rw [beqF (show cs.length + (j + 1) ≠ E.1.1 from c2)]
      exact ⟨by unfold gT'; rw [e2]; rfl, fun k => by unfold gR'; rw [e2]; rfl⟩
/-- the contents of what is new -/
def Zs (n : Nat) (M : Mm) (n' : Nat) (N : Mm) : Prop := n ≤ n' ∧ (∀ i, i < n → N i = M i) ∧ ∀ i, n ≤ i → i < n' → N i = fun _ => 0
theorem Zs.refl (n : Nat) (M : Mm) : Zs n M n M := ⟨Nat.le_refl _, fun _ _ => rfl, fun i h1 h2 => absurd h2 (Nat.not_lt.mpr h1)⟩
theorem Zs.trans {n n' n2 : Nat} {M N K : Mm} (h : Zs n M n' N) (g : Zs n' N n2 K) : Zs n M n2 K := by
  refine ⟨Nat.le_trans h.1 g.1, fun i hi => (g.2.1 i (Nat.lt_of_lt_of_le hi h.1)).trans (h.2.1 i hi), fun i h1 h2 => ?_⟩
  rcases Nat.lt_or_ge i n' with c | c
  · rw [g.2.1 i c]; exact h.2.2 i h1 c
  · exact g.2.2 i c h2
theorem Zs.new {n n' : Nat} {M N : Mm} (h : Zs n M n' N) : Zs n M (n' + 1) (mN N n') := by
  refine h.trans ⟨Nat.le_succ _, fun i hi => va_up_ne _ _ (by omega), fun i h1 h2 => ?_⟩
  have e : i = n' := by omega
  subst e
  exact va_up_self _ _ _
theorem Zs.grid {n n' k : Nat} {M N : Mm} (h : Zs n M n' N) : Zs n M (n' + 1 + k) (mG N n' k) := by
  refine h.trans ⟨by omega, fun i hi => ?_, fun i h1 h2 => ?_⟩
  · unfold mG; rw [bltT hi]; rfl
  · unfold mG; rw [bltF (by omega), bltT h2]; rfl
theorem Desc.gw {E F : Ev} {cs ds : Gc} (h : Desc E cs) (g : Desc F ds) (hp : ((ds.map Prod.fst).take cs.length == cs.map Prod.fst) = true) (hl : cs.length ≤ ds.length) : Gw E F := by
  have hp : (ds.map Prod.fst).take cs.length = cs.map Prod.fst := by simpa using hp
  refine ⟨by rw [h.1, g.1]; exact hl, fun i hi => ?_⟩
  have hi : i < cs.length := by rw [← h.1]; exact hi
  rw [(g.2 i (by omega)).1, (h.2 i hi).1]
  have e := congrArg (fun l => l[i]?) hp
  have hd : i < ds.length := by omega
  simp [hi, hd] at e
  simp [gT', List.getD_eq_getElem?_getD, hi, hd, e]
theorem Desc.obj {E : Ev} {cs : Gc} (h : Desc E cs) {ci p : Nat} (hp : p < cs.length) (ht : gT' cs p = (100 + ci, 0)) : isO ci E p := ⟨by rw [h.1]; exact hp, by rw [(h.2 p hp).1]; exact ht⟩
