/-! NEW CELLS: the numbers go on; an address is known from then on -/
theorem CL.new {e : E3} (h : CL e) (d : Dd) : CL (e.1 + 1, va_up e.2.1 e.1 d, va_up e.2.2 e.1 (fun _ => none)) := by
  intro i hi k hk j hj
  have hi : i < e.1 + 1 := hi
  show j < e.1 + 1
  by_cases he : i = e.1
  · subst he
    have hj : va_up e.2.2 e.1 (fun _ => none) e.1 k = some j := hj
    rw [va_up_self] at hj
    cases hj
  · have hj : va_up e.2.2 e.1 (fun _ => none) i k = some j := hj
    have hk : k < szR (va_up e.2.1 e.1 d i) := hk
    rw [va_up_ne _ _ he] at hj hk
    have := h i (by omega) k hk j hj
    omega
theorem CL.put {e : E3} (h : CL e) {i k j : Nat} (hj : j < e.1) : CL (e.1, e.2.1, va_up e.2.2 i (va_up (e.2.2 i) k (some j))) := by
  intro i1 hi1 k1 hk1 j1 hj1
  have hi1 : i1 < e.1 := hi1
  have hj1 : va_up e.2.2 i (va_up (e.2.2 i) k (some j)) i1 k1 = some j1 := hj1
  have hk1 : k1 < szR (e.2.1 i1) := hk1
  show j1 < e.1
  by_cases he : i1 = i
  · subst he
    rw [va_up_self] at hj1
    by_cases hk : k1 = k
    · subst hk
      rw [va_up_self] at hj1
      cases hj1
      exact hj
    · rw [va_up_ne _ _ hk] at hj1
      exact h i1 hi1 k1 hk1 j1 hj1
  · rw [va_up_ne _ _ he] at hj1
    exact h i1 hi1 k1 hk1 j1 hj1
/-- a cell more -/
def eNew (E : Ev) (d : Dd) : Ev := ⟨(E.1.1 + 1, va_up E.1.2.1 E.1.1 d, va_up E.1.2.2 E.1.1 (fun _ => none)), CL.new E.2 d⟩
/-- a reference written -/
def eRef (E : Ev) (i k j : Nat) : Ev := if h : j < E.1.1 then ⟨(E.1.1, E.1.2.1, va_up E.1.2.2 i (va_up (E.1.2.2 i) k (some j))), CL.put E.2 h⟩ else E
def mN (M : Mm) (i : Nat) : Mm := va_up M i (fun _ => 0)
/-- rows of rows: the outer one, then N rows of K -/
def gT (E : Ev) (N K : Nat) : Nat → Dd := fun i => bif Nat.blt i E.1.1 then E.1.2.1 i else bif i == E.1.1 then (6, N) else (0, K)
def gR (E : Ev) (N : Nat) : Nat → Nat → Option Nat := fun i => bif Nat.blt i E.1.1 then E.1.2.2 i else bif i == E.1.1 then (fun k => bif Nat.blt k N then some (E.1.1 + 1 + k) else none) else fun _ => none
theorem bltF {a b : Nat} (h : ¬ a < b) : Nat.blt a b = false := by
  cases hb : Nat.blt a b with
  | false => rfl
  | true => exact absurd (Nat.blt_eq.mp hb) h
theorem bltT {a b : Nat} (h : a < b) : Nat.blt a b = true := Nat.blt_eq.mpr h
theorem beqF {a b : Nat} (h : a ≠ b) : (a == b) = false := by simpa using h
theorem CL.grid {E : Ev} (N K : Nat) : CL (E.1.1 + 1 + N, gT E N K, gR E N) := by
  intro i hi k hk j hj
  have hi : i < E.1.1 + 1 + N := hi
  have hj : gR E N i k = some j := hj
  have hk : k < szR (gT E N K i) := hk
  show j < E.1.1 + 1 + N
  unfold gR at hj
  unfold gT at hk
  by_cases h1 : i < E.1.1
  · rw [bltT h1] at hj hk
    have := E.2 i h1 k hk j hj
    omega
  · rw [bltF h1] at hj hk
    by_cases h2 : i = E.1.1
    · subst h2
      rw [beq_self_eq_true] at hj
      have hj : (bif Nat.blt k N then some (E.1.1 + 1 + k) else none) = some j := hj
      by_cases h3 : k < N
      · rw [bltT h3] at hj
        have := Option.some.inj hj
        omega
      · rw [bltF h3] at hj
        cases hj
    · rw [beqF h2] at hj
      cases hj
def eGrid (E : Ev) (N K : Nat) : Ev := ⟨(E.1.1 + 1 + N, gT E N K, gR E N), CL.grid N K⟩
def mG (M : Mm) (n N : Nat) : Mm := fun i => bif Nat.blt i n then M i else bif Nat.blt i (n + 1 + N) then (fun _ => 0) else M i
/-- cells keep what they are -/
abbrev Gw (E F : Ev) : Prop := nE E ≤ nE F ∧ ∀ i, i < nE E → tE F i = tE E i
theorem gw_self (E : Ev) : Gw E E := ⟨Nat.le_refl _, fun _ _ => rfl⟩
theorem gw_trans {E F G : Ev} (h : Gw E F) (g : Gw F G) : Gw E G := ⟨Nat.le_trans h.1 g.1, fun i hi => (g.2 i (Nat.lt_of_lt_of_le hi h.1)).trans (h.2 i hi)⟩
theorem gw_new (E : Ev) (d : Dd) : Gw E (eNew E d) := ⟨Nat.le_succ _, fun _ hi => va_up_ne _ _ (Nat.ne_of_lt hi)⟩
theorem gw_ref (E : Ev) (i k j : Nat) : Gw E (eRef E i k j) := by
  unfold eRef
  by_cases h : j < E.1.1
  · rw [dif_pos h]; exact ⟨Nat.le_refl _, fun _ _ => rfl⟩
  · rw [dif_neg h]; exact gw_self E
theorem gw_grid (E : Ev) (N K : Nat) : Gw E (eGrid E N K) := by
  refine ⟨by show E.1.1 ≤ E.1.1 + 1 + N; omega, fun i hi => ?_⟩
  show gT E N K i = E.1.2.1 i
  unfold gT
  rw [bltT (show i < E.1.1 from hi)]
  rfl
theorem nE_ref (E : Ev) (i k j : Nat) : nE (eRef E i k j) = nE E := by
  unfold eRef
  by_cases h : j < E.1.1
  · rw [dif_pos h]; rfl
  · rw [dif_neg h]
theorem tE_ref (E : Ev) (i k j : Nat) : tE (eRef E i k j) = tE E := by
  unfold eRef
  by_cases h : j < E.1.1
  · rw [dif_pos h]; rfl
  · rw [dif_neg h]
theorem rE_ref {E : Ev} {i k j : Nat} (h : j < nE E) : rE (eRef E i k j) = va_up (rE E) i (va_up (rE E i) k (some j)) := by
  unfold eRef
  rw [dif_pos (show j < E.1.1 from h)]
  rfl
theorem gw_i {E F : Ev} {i : Nat} (h : Gw E F) (hi : i < nE E) : i < nE F := Nat.lt_of_lt_of_le hi h.1
theorem gw_T {E F : Ev} {i : Nat} {d : Dd} (h : Gw E F) (hi : i < nE E) (hT : tE E i = d) : tE F i = d := (h.2 i hi).trans hT
theorem isA_up {E F : Ev} {p t : Nat} (h : Gw E F) (hp : p < nE E ∧ (tE E p).1 = t) : p < nE F ∧ (tE F p).1 = t := ⟨gw_i h hp.1, by rw [h.2 p hp.1]; exact hp.2⟩
abbrev isBA (E : Ev) (p : Nat) : Prop := p < nE E ∧ (tE E p).1 = 2
theorem isBA_T {E : Ev} {p : Nat} (h : isBA E p) : tE E p = (2, (tE E p).2) := Prod.ext h.2 rfl
abbrev isQ (t : Nat) (E : Ev) (p : Nat) : Prop := p < nE E ∧ (tE E p).1 = t
theorem isQ_T {t : Nat} {E : Ev} {p : Nat} (h : isQ t E p) : tE E p = (t, (tE E p).2) := Prod.ext h.2 rfl
abbrev isO (ci : Nat) (E : Ev) (p : Nat) : Prop := p < nE E ∧ tE E p = (100 + ci, 0)
theorem isO_up {ci : Nat} {E F : Ev} {p : Nat} (h : Gw E F) (hp : isO ci E p) : isO ci F p := ⟨gw_i h hp.1, gw_T h hp.1 hp.2⟩
theorem new_i (E : Ev) (d : Dd) : nE E < nE (eNew E d) := Nat.lt_succ_self _
theorem new_T (E : Ev) (d : Dd) : tE (eNew E d) (nE E) = d := va_up_self _ _ _
theorem grid_i (E : Ev) (N K : Nat) : nE E < nE (eGrid E N K) := by show E.1.1 < E.1.1 + 1 + N; omega
theorem grid_T (E : Ev) (N K : Nat) : tE (eGrid E N K) (nE E) = (6, N) := by
  show gT E N K E.1.1 = (6, N)
  unfold gT
  rw [bltF (Nat.lt_irrefl _), beq_self_eq_true]
  rfl
def adj (E : Ev) (ad u : Nat → Nat) : Nat → Nat := fun i => bif Nat.blt i (nE E) then ad i else u i
theorem adj_lt {E : Ev} {ad u : Nat → Nat} {i : Nat} (h : i < nE E) : adj E ad u i = ad i := by
  unfold adj
  rw [bltT h]
  rfl
theorem adj_self {E : Ev} {ad0 ad : Nat → Nat} (h : ∀ i, i < nE E → ad i = ad0 i) : adj E ad0 ad = ad := by
  funext i
  by_cases hi : i < nE E
  · rw [adj_lt hi, h i hi]
  · unfold adj
    rw [bltF hi]
    rfl
theorem rf_agree {ad ad1 : Nat → Nat} {n : Nat} {r : Nat → Option Nat} (h : ∀ k, k < n → ∀ j, r k = some j → ad1 j = ad j) : rfA ad1 n r = rfA ad n r := by
  funext k
  by_cases hk : k < n
  · rw [rfA_in hk, rfA_in hk]
    cases e : r k with
    | none => rfl
    | some j => show some (ad1 j) = some (ad j); rw [h k hk j e]
  · unfold rfA
    rw [bltF hk]
    rfl
theorem fs_agree {ad ad1 : Nat → Nat} {ci : Nat} {r : Nat → Option Nat} {f : Nat → Int} (h : ∀ k, k < nfO ci → ∀ j, r k = some j → ad1 j = ad j) : fsO ad1 ci r f = fsO ad ci r f := by
  unfold fsO
  apply List.map_congr_left
  intro k hk
  have hk := List.mem_range.mp hk
  unfold fvO
  cases refO ci k with
  | false => rfl
  | true =>
    cases e : r k with
    | none => rfl
    | some j => show Value.ref (ad1 j) = Value.ref (ad j); rw [h k hk j e]
theorem dE_agree {z : Zz} {ad ad1 : Nat → Nat} {d : Dd} {r : Nat → Option Nat} {f : Nat → Int} (h : ∀ k, k < szR d → ∀ j, r k = some j → ad1 j = ad j) : dE z ad1 d r f = dE z ad d r f := by
  obtain ⟨t, n⟩ := d
  unfold dE
  unfold szR at h
  cases h1 : (t == 0 || t == 2) with
  | true => rfl
  | false =>
    cases h2 : (t == 1) with
    | true => rfl
    | false =>
      have ht : ¬ t < 3 := by
        intro q
        have : t = 0 ∨ t = 1 ∨ t = 2 := by omega
        rcases this with rfl | rfl | rfl <;> simp at h1 h2
      rw [bltF ht] at h
      cases h3 : Nat.blt t 100 with
      | true =>
        rw [h3] at h
        have h : ∀ k, k < n → ∀ j, r k = some j → ad1 j = ad j := h
        show Sum.inl (z.2 t, n, Sum.inr (Sum.inr (Sum.inr (Sum.inr (rfA ad1 n r))))) = Sum.inl (z.2 t, n, Sum.inr (Sum.inr (Sum.inr (Sum.inr (rfA ad n r)))))
        rw [rf_agree h]
      | false =>
        rw [h3] at h
        have h : ∀ k, k < nfO (t - 100) → ∀ j, r k = some j → ad1 j = ad j := h
        show Sum.inr (t - 100, fsO ad1 (t - 100) r f) = Sum.inr (t - 100, fsO ad (t - 100) r f)
        rw [fs_agree h]
theorem wv_new {z : Zz} {ad : Nat → Nat} {E : Ev} {M : Mm} {q : Nat} {d : Dd} : wv z ad E M ++ [(q, dE z (va_up ad (nE E) q) d (fun _ => none) (fun _ => 0))] = wv z (va_up ad (nE E) q) (eNew E d) (mN M (nE E)) := by
  have e1 : nE (eNew E d) = nE E + 1 := rfl
  unfold wv
  rw [e1, List.range_succ, List.map_append, List.map_cons, List.map_nil]
  congr 1
  · apply List.map_congr_left
    intro i hi
    have hi : i < nE E := List.mem_range.mp hi
    have hne : i ≠ nE E := by omega
    show (ad i, dE z ad (tE E i) (rE E i) (M i)) = (va_up ad (nE E) q i, dE z (va_up ad (nE E) q) (va_up (tE E) (nE E) d i) (va_up (rE E) (nE E) (fun _ => none) i) (va_up M (nE E) (fun _ => 0) i))
    rw [va_up_ne _ _ hne, va_up_ne _ _ hne, va_up_ne _ _ hne, va_up_ne _ _ hne]
    rw [dE_agree (ad1 := va_up ad (nE E) q) (fun k hk j hj => va_up_ne _ _ (by have : j < nE E := E.2 i hi k hk j hj; omega))]
  · show [(q, dE z (va_up ad (nE E) q) d (fun _ => none) (fun _ => 0))] = [(va_up ad (nE E) q (nE E), dE z (va_up ad (nE E) q) (va_up (tE E) (nE E) d (nE E)) (va_up (rE E) (nE E) (fun _ => none) (nE E)) (va_up M (nE E) (fun _ => 0) (nE E)))]
    rw [va_up_self, va_up_self, va_up_self, va_up_self]
theorem wv_grid {z : Zz} {ad ad1 : Nat → Nat} {E : Ev} {M : Mm} {N K q : Nat} {r : Nat → Nat} {g : Nat → Option Nat} (h0 : ∀ i, i < nE E → ad1 i = ad i) (h1 : ad1 (nE E) = q) (h2 : ∀ i, i < N → ad1 (nE E + 1 + i) = r i) (hg : g = rfA ad1 N (gR E N (nE E))) :
    (wv z ad E M ++ [(q, .inl (z.2 6, N, .inr (.inr (.inr (.inr g)))))]) ++ (List.range N).map (fun i => (r i, .inl (z.2 0, K, .inl (fun _ => 0)))) = wv z ad1 (eGrid E N K) (mG M (nE E) N) := by
  apply List.ext_getElem?
  intro i
  have hl : (wv z ad E M ++ [((q, .inl (z.2 6, N, .inr (.inr (.inr (.inr g))))) : Nat × va_E)]).length = nE E + 1 := by rw [List.length_append, wv_len]; rfl
  have hn : nE (eGrid E N K) = nE E + 1 + N := rfl
  by_cases hi : i < nE E + 1 + N
  · rw [wv_get (by rw [hn]; exact hi)]
    by_cases c1 : i < nE E
    · rw [List.getElem?_append_left (by omega), List.getElem?_append_left (by rw [wv_len]; exact c1), wv_get c1, h0 i c1]
      show some (ad i, dE z ad (tE E i) (rE E i) (M i)) = some (ad i, dE z ad1 (gT E N K i) (gR E N i) (mG M (nE E) N i))
      have a1 : gT E N K i = tE E i := by unfold gT; rw [bltT (show i < E.1.1 from c1)]; rfl
      have a2 : gR E N i = rE E i := by unfold gR; rw [bltT (show i < E.1.1 from c1)]; rfl
      have a3 : mG M (nE E) N i = M i := by unfold mG; rw [bltT c1]; rfl
      rw [a1, a2, a3, dE_agree (z := z) (ad1 := ad1) (ad := ad) (d := tE E i) (r := rE E i) (f := M i) (fun k hk j hj => h0 j (E.2 i c1 k hk j hj))]
    · by_cases c2 : i = nE E
      · subst c2
        rw [List.getElem?_append_left (by omega), List.getElem?_append_right (by rw [wv_len]; exact Nat.le_refl _), wv_len, Nat.sub_self, h1]
        have a1 : tE (eGrid E N K) (nE E) = (6, N) := grid_T E N K
        rw [dE_q a1 rfl, hg]
        rfl
      · rw [List.getElem?_append_right (by omega), hl, List.getElem?_map, List.getElem?_range (by omega)]
        have e : i = nE E + 1 + (i - (nE E + 1)) := by omega
        have a1 : tE (eGrid E N K) i = (0, K) := by
          show gT E N K i = (0, K)
          unfold gT
          rw [bltF (show ¬ i < E.1.1 from c1), beqF (show i ≠ E.1.1 from c2)]
          rfl
        have a3 : mG M (nE E) N i = fun _ => 0 := by
          unfold mG
          rw [bltF c1, bltT hi]
          rfl
        rw [dE_i a1, a3]
        rw [show ad1 i = r (i - (nE E + 1)) by rw [← h2 _ (by omega)]; exact congrArg ad1 e]
        rfl
  · rw [List.getElem?_eq_none (by rw [List.length_append, hl, List.length_map, List.length_range]; omega), List.getElem?_eq_none (by rw [wv_len, hn]; omega)]
theorem wv_put {z : Zz} {ad : Nat → Nat} {E : Ev} {M : Mm} {i k j : Nat} {x : va_E} (hi : i < nE E) (hj : j < nE E) (hx : x = dE z ad (tE E i) (va_up (rE E i) k (some j)) (M i)) : (wv z ad E M).set i (ad i, x) = wv z ad (eRef E i k j) M := by
  subst hx
  apply List.ext_getElem?
  intro a
  have hn : nE (eRef E i k j) = nE E := nE_ref E i k j
  rw [List.getElem?_set]
  by_cases ha : a < nE E
  · rw [wv_get (E := eRef E i k j) (by rw [hn]; exact ha), tE_ref, rE_ref hj]
    by_cases e : i = a
    · subst e
      rw [if_pos rfl, if_pos (by rw [wv_len]; exact hi), va_up_self]
    · rw [if_neg e, wv_get ha, va_up_ne _ _ (Ne.symm e)]
  · have h1 : (wv z ad E M)[a]? = none := List.getElem?_eq_none (by rw [wv_len]; omega)
    have h2 : (wv z ad (eRef E i k j) M)[a]? = none := List.getElem?_eq_none (by rw [wv_len, hn]; omega)
    rw [h1, h2, if_neg (by omega)]
theorem rfA_up {ad : Nat → Nat} {n k j : Nat} {r : Nat → Option Nat} (hk : k < n) : va_up (rfA ad n r) k (some (ad j)) = rfA ad n (va_up r k (some j)) := by
  funext q
  by_cases e : q = k
  · subst e
    rw [va_up_self, rfA_in hk, va_up_self]
    rfl
  · rw [va_up_ne _ _ e]
    unfold rfA
    rw [va_up_ne _ _ e]
/-- the law's row alone -/
def eOne : Ev := ⟨(1, fun _ => (0, 1), fun _ _ => none), fun i hi k hk j hj => by cases hj⟩
def eNil : Ev := ⟨(0, fun _ => (0, 0), fun _ _ => none), fun i hi k hk j hj => by cases hj⟩
theorem wv_one {z : Zz} {ad : Nat → Nat} {M : Mm} {k : Nat} {q : Nat × va_E} (h : (wv z ad eOne M)[k]? = some q) : k = 0 ∧ q = (ad 0, .inl (z.2 0, 1, .inl (iA (M 0)))) := by
  have hk : k < 1 := by
    have := (List.getElem?_eq_some_iff.mp h).1
    rw [wv_len] at this
    exact this
  have e : k = 0 := by omega
  subst e
  rw [wv_i (E := eOne) (i := 0) (n := 1) Nat.zero_lt_one rfl] at h
  exact ⟨rfl, (Option.some.inj h).symm⟩
theorem wv_cutP {z : Zz} {ad : Nat → Nat} {E : Ev} {M : Mm} {H : Heap} (hi : 0 < nE E) (hT : tE E 0 = (0, 1)) (hP : va_P z.1 classes (wv z ad E M) H) : va_P z.1 classes (wv z ad eOne M) H := by
  intro k q hk
  obtain ⟨rfl, rfl⟩ := wv_one hk
  exact hP 0 _ (wv_i hi hT)
theorem wv_cutD {z : Zz} {ad : Nat → Nat} {E : Ev} {M : Mm} {A : Nat → Prop} (hi : 0 < nE E) (hT : tE E 0 = (0, 1)) (hD : va_D A (wv z ad E M)) : va_D A (wv z ad eOne M) := by
  refine ⟨fun i j p q h1 h2 => ?_, fun k q hk => ?_⟩
  · obtain ⟨rfl, rfl⟩ := wv_one h1
    obtain ⟨rfl, rfl⟩ := wv_one h2
    exact hD.1 0 0 _ _ (wv_i hi hT) (wv_i hi hT)
  · obtain ⟨rfl, rfl⟩ := wv_one hk
    exact hD.2 0 _ (wv_i hi hT)
def xi (xs : Nat → Int32) (k : Nat) : Int := (xs k).toInt
/-- none or some -/
def mO {β : Type} (o : Option Nat) (a : β) (b : Nat → β) : β := match o with
  | none => a
  | some p => b p
theorem mO_n {β : Type} {o : Option Nat} {a y : β} {b : Nat → β} (e : o = none) (h : mO o a b = y) : a = y := by subst e; exact h
theorem mO_s {β : Type} {o : Option Nat} {a y : β} {b : Nat → β} {p : Nat} (e : o = some p) (h : mO o a b = y) : b p = y := by subst e; exact h
theorem oI_0 : oI 0 = 0 := rfl
theorem iA_0 : iA (fun _ => 0) = fun _ => 0 := rfl
theorem jA_0 : jA (fun _ => 0) = fun _ => 0 := rfl
theorem nb_b {x : Int} (h : -128 ≤ x ∧ x ≤ 127) : narrow .byte (.int (oI x)) = .int (oI x) := congrArg Value.int (oI_b h)
theorem nc_b {x : Int} (h : 0 ≤ x ∧ x ≤ 65535) : narrow .char (.int (oI x)) = .int (oI x) := congrArg Value.int (oI_c h)
/-- bytes -/
abbrev byR (f : Nat → Int) (a n : Int) : Prop := ∀ i, i < n.toNat → -128 ≤ f (a.toNat + i) ∧ f (a.toNat + i) ≤ 127
theorem fit_b {x : Int} (h : -128 ≤ x ∧ x ≤ 127) : fits .byte (.int (oI x)) = true := by
  have key : ∀ n : Nat, n < 256 → fits .byte (.int (oI ((n : Int) - 128))) = true := by decide +kernel
  have := key (x + 128).toNat (by omega)
  rw [show (((x + 128).toNat : Nat) : Int) - 128 = x by omega] at this
  exact this
theorem nar_b {x : Int} (h : -128 ≤ x ∧ x ≤ 127) : vp_nar .byte (oI x) = oI x := by
  have key : ∀ n : Nat, n < 256 → vp_nar .byte (oI ((n : Int) - 128)) = oI ((n : Int) - 128) := by decide +kernel
  have := key (x + 128).toNat (by omega)
  rw [show (((x + 128).toNat : Nat) : Int) - 128 = x by omega] at this
  exact this
theorem fsX0 {ad : Nat → Nat} : ∀ j, j < 10 → defaultValue (tyX0 j) = vp_V (fsO ad 0 (fun _ => none) (fun _ => 0)) j := fun j hj => by rcases (show j = 0 ∨ j = 1 ∨ j = 2 ∨ j = 3 ∨ j = 4 ∨ j = 5 ∨ j = 6 ∨ j = 7 ∨ j = 8 ∨ j = 9 by omega) with rfl | rfl | rfl | rfl | rfl | rfl | rfl | rfl | rfl | rfl <;> rfl
theorem fsX1 {ad : Nat → Nat} : ∀ j, j < 4 → defaultValue (tyX1 j) = vp_V (fsO ad 1 (fun _ => none) (fun _ => 0)) j := fun j hj => by rcases (show j = 0 ∨ j = 1 ∨ j = 2 ∨ j = 3 by omega) with rfl | rfl | rfl | rfl <;> rfl
theorem fsX2 {ad : Nat → Nat} : ∀ j, j < 10 → defaultValue (tyX2 j) = vp_V (fsO ad 2 (fun _ => none) (fun _ => 0)) j := fun j hj => by rcases (show j = 0 ∨ j = 1 ∨ j = 2 ∨ j = 3 ∨ j = 4 ∨ j = 5 ∨ j = 6 ∨ j = 7 ∨ j = 8 ∨ j = 9 by omega) with rfl | rfl | rfl | rfl | rfl | rfl | rfl | rfl | rfl | rfl <;> rfl
theorem fsX3 {ad : Nat → Nat} : ∀ j, j < 15 → defaultValue (tyX3 j) = vp_V (fsO ad 3 (fun _ => none) (fun _ => 0)) j := fun j hj => by rcases (show j = 0 ∨ j = 1 ∨ j = 2 ∨ j = 3 ∨ j = 4 ∨ j = 5 ∨ j = 6 ∨ j = 7 ∨ j = 8 ∨ j = 9 ∨ j = 10 ∨ j = 11 ∨ j = 12 ∨ j = 13 ∨ j = 14 by omega) with rfl | rfl | rfl | rfl | rfl | rfl | rfl | rfl | rfl | rfl | rfl | rfl | rfl | rfl | rfl <;> rfl
theorem fsX4 {ad : Nat → Nat} : ∀ j, j < 8 → defaultValue (tyX4 j) = vp_V (fsO ad 4 (fun _ => none) (fun _ => 0)) j := fun j hj => by rcases (show j = 0 ∨ j = 1 ∨ j = 2 ∨ j = 3 ∨ j = 4 ∨ j = 5 ∨ j = 6 ∨ j = 7 by omega) with rfl | rfl | rfl | rfl | rfl | rfl | rfl | rfl <;> rfl
theorem fsX5 {ad : Nat → Nat} : ∀ j, j < 3 → defaultValue (tyX5 j) = vp_V (fsO ad 5 (fun _ => none) (fun _ => 0)) j := fun j hj => by rcases (show j = 0 ∨ j = 1 ∨ j = 2 by omega) with rfl | rfl | rfl <;> rfl
theorem fsX6 {ad : Nat → Nat} : ∀ j, j < 7 → defaultValue (tyX6 j) = vp_V (fsO ad 6 (fun _ => none) (fun _ => 0)) j := fun j hj => by rcases (show j = 0 ∨ j = 1 ∨ j = 2 ∨ j = 3 ∨ j = 4 ∨ j = 5 ∨ j = 6 by omega) with rfl | rfl | rfl | rfl | rfl | rfl | rfl <;> rfl
theorem fsX7 {ad : Nat → Nat} : ∀ j, j < 11 → defaultValue (tyX7 j) = vp_V (fsO ad 7 (fun _ => none) (fun _ => 0)) j := fun j hj => by rcases (show j = 0 ∨ j = 1 ∨ j = 2 ∨ j = 3 ∨ j = 4 ∨ j = 5 ∨ j = 6 ∨ j = 7 ∨ j = 8 ∨ j = 9 ∨ j = 10 by omega) with rfl | rfl | rfl | rfl | rfl | rfl | rfl | rfl | rfl | rfl | rfl <;> rfl
theorem fsX8 {ad : Nat → Nat} : ∀ j, j < 2 → defaultValue (tyX8 j) = vp_V (fsO ad 8 (fun _ => none) (fun _ => 0)) j := fun j hj => by rcases (show j = 0 ∨ j = 1 by omega) with rfl | rfl <;> rfl
theorem fsX9 {ad : Nat → Nat} : ∀ j, j < 12 → defaultValue (tyX9 j) = vp_V (fsO ad 9 (fun _ => none) (fun _ => 0)) j := fun j hj => by rcases (show j = 0 ∨ j = 1 ∨ j = 2 ∨ j = 3 ∨ j = 4 ∨ j = 5 ∨ j = 6 ∨ j = 7 ∨ j = 8 ∨ j = 9 ∨ j = 10 ∨ j = 11 by omega) with rfl | rfl | rfl | rfl | rfl | rfl | rfl | rfl | rfl | rfl | rfl | rfl <;> rfl
theorem fsX10 {ad : Nat → Nat} : ∀ j, j < 5 → defaultValue (tyX10 j) = vp_V (fsO ad 10 (fun _ => none) (fun _ => 0)) j := fun j hj => by rcases (show j = 0 ∨ j = 1 ∨ j = 2 ∨ j = 3 ∨ j = 4 by omega) with rfl | rfl | rfl | rfl | rfl <;> rfl
theorem fsX11 {ad : Nat → Nat} : ∀ j, j < 14 → defaultValue (tyX11 j) = vp_V (fsO ad 11 (fun _ => none) (fun _ => 0)) j := fun j hj => by rcases (show j = 0 ∨ j = 1 ∨ j = 2 ∨ j = 3 ∨ j = 4 ∨ j = 5 ∨ j = 6 ∨ j = 7 ∨ j = 8 ∨ j = 9 ∨ j = 10 ∨ j = 11 ∨ j = 12 ∨ j = 13 by omega) with rfl | rfl | rfl | rfl | rfl | rfl | rfl | rfl | rfl | rfl | rfl | rfl | rfl | rfl <;> rfl
theorem fsX12 {ad : Nat → Nat} : ∀ j, j < 4 → defaultValue (tyX12 j) = vp_V (fsO ad 12 (fun _ => none) (fun _ => 0)) j := fun j hj => by rcases (show j = 0 ∨ j = 1 ∨ j = 2 ∨ j = 3 by omega) with rfl | rfl | rfl | rfl <;> rfl
theorem fsX13 {ad : Nat → Nat} : ∀ j, j < 4 → defaultValue (tyX13 j) = vp_V (fsO ad 13 (fun _ => none) (fun _ => 0)) j := fun j hj => by rcases (show j = 0 ∨ j = 1 ∨ j = 2 ∨ j = 3 by omega) with rfl | rfl | rfl | rfl <;> rfl
theorem fsX14 {ad : Nat → Nat} : ∀ j, j < 4 → defaultValue (tyX14 j) = vp_V (fsO ad 14 (fun _ => none) (fun _ => 0)) j := fun j hj => by rcases (show j = 0 ∨ j = 1 ∨ j = 2 ∨ j = 3 by omega) with rfl | rfl | rfl | rfl <;> rfl
theorem hin_nat {j : Int} {n : Nat} (h : inb j n) : ¬ oI j < 0 ∧ (oI j).toNatClampNeg < n := ⟨fun q => (inb_v h) (Or.inl q), by rw [inb_n h]; exact inb_lt h⟩
section NR
variable {p : Program} {l : Launch} {e : Env} {R : Room} {s : State} {m : MethodId} {args : Array Value} {below : List Frame} {meth : Method} {c : Code} {H : Heap} {locs : List Loc} {cells slots : Nat} {Q : State → Prop}
variable {cc : ByteArray} {pc : Nat} {ls : Array Slot} {rest : List Value} {A : Nat → Prop} {z : Zz} {ad : Nat → Nat} {E : Ev} {M : Mm}
theorem ty_find {D : va_G} {U : State} {tys : List (ClassId × FieldType)} {k j : Nat} {c c9 : ClassId} {ty : FieldType} (hK : va_K D classes tys U) (h1 : tys[k]? = some (c, ty)) (h2 : tys[j]? = some (c9, ty)) (hr : ∀ q, va_RA U q ty → U.vm.findClass ("[" ++ ty.toString) = some q) : c = c9 :=
  Option.some.inj ((hr _ (hK.2 k _ h1).2).symm.trans (hr _ (hK.2 j _ h2).2))
theorem ty_eq0 {D : va_G} {d : Nat → ClassId} {cA : ClassId} {U : State} (hK : va_K D classes (TY d ++ [(cA, .int)]) U) : d 0 = cA := ty_find hK (k := 0) (j := 7) rfl rfl (fun q h => h)
theorem ty_eq1 {D : va_G} {d : Nat → ClassId} {cA : ClassId} {U : State} (hK : va_K D classes (TY d ++ [(cA, .long)]) U) : d 1 = cA := ty_find hK (k := 1) (j := 7) rfl rfl (fun q h => h)
theorem ty_eq2 {D : va_G} {d : Nat → ClassId} {cA : ClassId} {U : State} (hK : va_K D classes (TY d ++ [(cA, .byte)]) U) : d 2 = cA := ty_find hK (k := 2) (j := 7) rfl rfl (fun q h => h)
theorem ty_eq3 {D : va_G} {d : Nat → ClassId} {cA : ClassId} {U : State} (hK : va_K D classes (TY d ++ [(cA, .object "Ballothall$KeptSeats")]) U) : d 3 = cA := ty_find hK (k := 3) (j := 7) rfl rfl (fun q h => by obtain ⟨kA, comp, h1, h2, h3, h4⟩ := h; exact h4)
theorem ty_eq4 {D : va_G} {d : Nat → ClassId} {cA : ClassId} {U : State} (hK : va_K D classes (TY d ++ [(cA, .object "Ballothall$Count")]) U) : d 4 = cA := ty_find hK (k := 4) (j := 7) rfl rfl (fun q h => by obtain ⟨kA, comp, h1, h2, h3, h4⟩ := h; exact h4)
theorem ty_eq5 {D : va_G} {d : Nat → ClassId} {cA : ClassId} {U : State} (hK : va_K D classes (TY d ++ [(cA, .object "Ballothall$Natural")]) U) : d 5 = cA := ty_find hK (k := 5) (j := 7) rfl rfl (fun q h => by obtain ⟨kA, comp, h1, h2, h3, h4⟩ := h; exact h4)
theorem ty_eq6 {D : va_G} {d : Nat → ClassId} {cA : ClassId} {U : State} (hK : va_K D classes (TY d ++ [(cA, .array .int)]) U) : d 6 = cA := ty_find hK (k := 6) (j := 7) rfl rfl (fun q h => h)
theorem m_newI {x : Int} {N : Nat} (hx : p.tables.exec = Jvm.exec) (hb : c.code = cc) (h0 : 0 ≤ x) (hN : x ≤ (N : Int)) (hN2 : N ≤ 65536) (harr : (Cond.arrayClass .int).before args s = true) (hG : KG z s) (hP : va_P z.1 classes (wv z ad E M) H) (hD : va_D A (wv z ad E M)) (hS : va_S A s.heap H locs) (hA : ∀ q, s.heap.size ≤ q → A q) (hcells : cells + 1 ≤ R.cells) (hslots : slots + N ≤ R.slots) (hdg : decode cc pc = .ok (.newarray .int, 2))
    (kk : ∀ (ad1 : Nat → Nat) (H : Heap), (∀ i, i < nE E → ad1 i = ad i) → va_P z.1 classes (wv z ad1 (eNew E (0, x.toNat)) (mN M (nE E))) H → va_D A (wv z ad1 (eNew E (0, x.toNat)) (mN M (nE E))) → va_S A s.heap H locs → W p l e R s m args below meth c H locs (cells + 1) (slots + N) Q (F0 m (pc + 2) ls (.ref (ad1 (nE E)) :: rest))) : W p l e R s m args below meth c H locs cells slots Q (F0 m pc ls (.int (oI x) :: rest)) := by
  have g := nn_oI (x := x) h0 (by omega)
  refine va_newa (atype := .int) (N' := x.toNat) (a0 := (x.toNat, .inl (fun _ => 0))) hx hb harr rfl hG.1 hP hD hS hA (fun _ => rfl) g.1 g.2 (show x.toNat * 4 ≤ 536870912 by omega) hcells (by omega) hdg (fun q cA H1 hK1 h1 h2 h3 => ?_)
  · obtain rfl := ty_eq0 hK1
    have h1 : va_P z.1 classes (wv z ad E M ++ [(q, dE z (va_up ad (nE E) q) (0, x.toNat) (fun _ => none) (fun _ => 0))]) H1 := h1
    have h2 : va_D A (wv z ad E M ++ [(q, dE z (va_up ad (nE E) q) (0, x.toNat) (fun _ => none) (fun _ => 0))]) := h2
    rw [wv_new] at h1 h2
    have h4 := kk (va_up ad (nE E) q) H1 (fun i hi => va_up_ne _ _ (by omega)) h1 h2 h3
    rw [va_up_self] at h4
    exact W.wide (Nat.le_refl _) (by omega) h4
theorem m_newL {x : Int} {N : Nat} (hx : p.tables.exec = Jvm.exec) (hb : c.code = cc) (h0 : 0 ≤ x) (hN : x ≤ (N : Int)) (hN2 : N ≤ 65536) (harr : (Cond.arrayClass .long).before args s = true) (hG : KG z s) (hP : va_P z.1 classes (wv z ad E M) H) (hD : va_D A (wv z ad E M)) (hS : va_S A s.heap H locs) (hA : ∀ q, s.heap.size ≤ q → A q) (hcells : cells + 1 ≤ R.cells) (hslots : slots + N ≤ R.slots) (hdg : decode cc pc = .ok (.newarray .long, 2))
    (kk : ∀ (ad1 : Nat → Nat) (H : Heap), (∀ i, i < nE E → ad1 i = ad i) → va_P z.1 classes (wv z ad1 (eNew E (1, x.toNat)) (mN M (nE E))) H → va_D A (wv z ad1 (eNew E (1, x.toNat)) (mN M (nE E))) → va_S A s.heap H locs → W p l e R s m args below meth c H locs (cells + 1) (slots + N) Q (F0 m (pc + 2) ls (.ref (ad1 (nE E)) :: rest))) : W p l e R s m args below meth c H locs cells slots Q (F0 m pc ls (.int (oI x) :: rest)) := by
  have g := nn_oI (x := x) h0 (by omega)
  refine va_newa (atype := .long) (N' := x.toNat) (a0 := (x.toNat, .inr (.inl (fun _ => 0)))) hx hb harr rfl hG.1 hP hD hS hA (fun _ => rfl) g.1 g.2 (show x.toNat * 8 ≤ 536870912 by omega) hcells (by omega) hdg (fun q cA H1 hK1 h1 h2 h3 => ?_)
  · obtain rfl := ty_eq1 hK1
    have h1 : va_P z.1 classes (wv z ad E M ++ [(q, dE z (va_up ad (nE E) q) (1, x.toNat) (fun _ => none) (fun _ => 0))]) H1 := h1
    have h2 : va_D A (wv z ad E M ++ [(q, dE z (va_up ad (nE E) q) (1, x.toNat) (fun _ => none) (fun _ => 0))]) := h2
    rw [wv_new] at h1 h2
    have h4 := kk (va_up ad (nE E) q) H1 (fun i hi => va_up_ne _ _ (by omega)) h1 h2 h3
    rw [va_up_self] at h4
    exact W.wide (Nat.le_refl _) (by omega) h4
theorem m_newB {x : Int} {N : Nat} (hx : p.tables.exec = Jvm.exec) (hb : c.code = cc) (h0 : 0 ≤ x) (hN : x ≤ (N : Int)) (hN2 : N ≤ 65536) (harr : (Cond.arrayClass .byte).before args s = true) (hG : KG z s) (hP : va_P z.1 classes (wv z ad E M) H) (hD : va_D A (wv z ad E M)) (hS : va_S A s.heap H locs) (hA : ∀ q, s.heap.size ≤ q → A q) (hcells : cells + 1 ≤ R.cells) (hslots : slots + N ≤ R.slots) (hdg : decode cc pc = .ok (.newarray .byte, 2))
    (kk : ∀ (ad1 : Nat → Nat) (H : Heap), (∀ i, i < nE E → ad1 i = ad i) → va_P z.1 classes (wv z ad1 (eNew E (2, x.toNat)) (mN M (nE E))) H → va_D A (wv z ad1 (eNew E (2, x.toNat)) (mN M (nE E))) → va_S A s.heap H locs → W p l e R s m args below meth c H locs (cells + 1) (slots + N) Q (F0 m (pc + 2) ls (.ref (ad1 (nE E)) :: rest))) : W p l e R s m args below meth c H locs cells slots Q (F0 m pc ls (.int (oI x) :: rest)) := by
  have g := nn_oI (x := x) h0 (by omega)
  refine va_newa (atype := .byte) (N' := x.toNat) (a0 := (x.toNat, .inl (fun _ => 0))) hx hb harr rfl hG.1 hP hD hS hA (fun _ => rfl) g.1 g.2 (show x.toNat * 1 ≤ 536870912 by omega) hcells (by omega) hdg (fun q cA H1 hK1 h1 h2 h3 => ?_)
  · obtain rfl := ty_eq2 hK1
    have h1 : va_P z.1 classes (wv z ad E M ++ [(q, dE z (va_up ad (nE E) q) (2, x.toNat) (fun _ => none) (fun _ => 0))]) H1 := h1
    have h2 : va_D A (wv z ad E M ++ [(q, dE z (va_up ad (nE E) q) (2, x.toNat) (fun _ => none) (fun _ => 0))]) := h2
    rw [wv_new] at h1 h2
    have h4 := kk (va_up ad (nE E) q) H1 (fun i hi => va_up_ne _ _ (by omega)) h1 h2 h3
    rw [va_up_self] at h4
    exact W.wide (Nat.le_refl _) (by omega) h4
theorem m_newq {own C : String} {t index : Nat} {x : Int} {N : Nat} (hx : p.tables.exec = Jvm.exec) (hb : c.code = cc) (h0 : 0 ≤ x) (hN : x ≤ (N : Int)) (hN2 : N ≤ 65536) (hown : s.vm.findClass own = some m.cls) (hclink : (Cond.classLink own index C).before args s = true) (hC : C ∈ aols) (h3 : (Nat.ble 3 t && Nat.blt t 100) = true) (hty : ∀ cA, va_K z.1 classes (TY z.2 ++ [(cA, .object C)]) s → z.2 t = cA) (hG : KG z s) (hP : va_P z.1 classes (wv z ad E M) H) (hD : va_D A (wv z ad E M)) (hS : va_S A s.heap H locs) (hA : ∀ q, s.heap.size ≤ q → A q) (hcells : cells + 1 ≤ R.cells) (hslots : slots + N ≤ R.slots) (hdg : decode cc pc = .ok (.anewarray index, 3))
    (kk : ∀ (ad1 : Nat → Nat) (H : Heap), (∀ i, i < nE E → ad1 i = ad i) → va_P z.1 classes (wv z ad1 (eNew E (t, x.toNat)) (mN M (nE E))) H → va_D A (wv z ad1 (eNew E (t, x.toNat)) (mN M (nE E))) → va_S A s.heap H locs → W p l e R s m args below meth c H locs (cells + 1) (slots + N) Q (F0 m (pc + 3) ls (.ref (ad1 (nE E)) :: rest))) : W p l e R s m args below meth c H locs cells slots Q (F0 m pc ls (.int (oI x) :: rest)) := by
  have g := nn_oI (x := x) h0 (by omega)
  refine va_newq (C := C) (N' := x.toNat) hx hb hown hclink (hG.2.2.1 _ hC) hG.1 hP hD hS hA g.1 g.2 (by omega) hcells (by omega) hdg (fun q cA H1 hK1 h1 h2 h3' => ?_)
  · have ec := hty _ hK1
    subst ec
    have e0 : ∀ q : Nat, dE z (va_up ad (nE E) q) (t, x.toNat) (fun _ => none) (fun _ => 0) = .inl (z.2 t, x.toNat, .inr (.inr (.inr (.inr (fun _ => none))))) := by
      intro q
      rw [dE_q rfl h3]
      have e9 : rfA (va_up ad (nE E) q) x.toNat (fun _ => none) = fun _ => none := by
        funext k
        unfold rfA
        cases Nat.blt k x.toNat <;> rfl
      rw [e9]
    rw [← e0 q] at h1 h2
    rw [wv_new] at h1 h2
    have h4 := kk (va_up ad (nE E) q) H1 (fun i hi => va_up_ne _ _ (by omega)) h1 h2 h3'
    rw [va_up_self] at h4
    exact W.wide (Nat.le_refl _) (by omega) h4
theorem m_newA {own : String} {index : Nat} {x : Int} {N : Nat} (hx : p.tables.exec = Jvm.exec) (hb : c.code = cc) (h0 : 0 ≤ x) (hN : x ≤ (N : Int)) (hN2 : N ≤ 65536) (hown : s.vm.findClass own = some m.cls) (hclink : (Cond.classLink own index (FieldType.array .int).toString).before args s = true) (hG : KG z s) (hP : va_P z.1 classes (wv z ad E M) H) (hD : va_D A (wv z ad E M)) (hS : va_S A s.heap H locs) (hA : ∀ q, s.heap.size ≤ q → A q) (hcells : cells + 1 ≤ R.cells) (hslots : slots + N ≤ R.slots) (hdg : decode cc pc = .ok (.anewarray index, 3))
    (kk : ∀ (ad1 : Nat → Nat) (H : Heap), (∀ i, i < nE E → ad1 i = ad i) → va_P z.1 classes (wv z ad1 (eNew E (6, x.toNat)) (mN M (nE E))) H → va_D A (wv z ad1 (eNew E (6, x.toNat)) (mN M (nE E))) → va_S A s.heap H locs → W p l e R s m args below meth c H locs (cells + 1) (slots + N) Q (F0 m (pc + 3) ls (.ref (ad1 (nE E)) :: rest))) : W p l e R s m args below meth c H locs cells slots Q (F0 m pc ls (.int (oI x) :: rest)) := by
  have g := nn_oI (x := x) h0 (by omega)
  refine W.anewA hx hb hown hclink (va_AOA.use hG.2.2.2.1) rfl hdg rfl g.1 (by rw [g.2]; omega) hcells (by rw [g.2]; omega) fun cA kA comp f1 f2 f3 f4 => ?_
  rw [g.2]
  generalize hH1 : H.push ({ cls := cA, slots := Array.replicate x.toNat .null, vm := .none } : Cell) = H1
  have z1 : H1.size = H.size + 1 := by rw [← hH1, Array.size_push]
  have e1 : H1[H.size]? = some (arrV cA x.toNat (fun _ => .null)) := by rw [← hH1, Array.getElem?_push_size, ← arrV_new]
  have o1 : ∀ q : Nat, q < H.size → H1[q]? = H[q]? := fun q hq => by rw [← hH1, Array.getElem?_push, if_neg (Nat.ne_of_lt hq)]
  have hk : ∀ (k : Nat) (x : Nat × va_E), (wv z ad E M)[k]? = some x → H1[x.1]? = H[x.1]? := fun k x hx => o1 x.1 ((hP k x hx).lt)
  have hcA : z.2 6 = cA := Option.some.inj ((show s.vm.findClass ("[" ++ (FieldType.array .int).toString) = some (z.2 6) from (hG.1.2 6 _ rfl).2).symm.trans f1)
  subst hcA
  have h1 : va_P z.1 classes (wv z ad E M ++ [(H.size, dE z (va_up ad (nE E) H.size) (6, x.toNat) (fun _ => none) (fun _ => 0))]) H1 := (hP.kept hk).app (fun k x' hx => by
    have hz : k < 1 := (List.getElem?_eq_some_iff.mp hx).1
    rw [show k = 0 by omega] at hx
    cases hx
    show H1[H.size]? = some (vp_cell (z.2 6) (x.toNat, .inr (.inr (.inr (.inr (rfA _ x.toNat (fun _ => none)))))))
    rw [e1, vp_cell_q]
    congr 2
    funext k
    unfold rfA
    cases Nat.blt k x.toNat <;> rfl)
  have h2 : va_D A (wv z ad E M ++ [(H.size, dE z (va_up ad (nE E) H.size) (6, x.toNat) (fun _ => none) (fun _ => 0))]) := hD.push hP rfl (hA _ hS.1)
  rw [wv_new] at h1 h2
  have h4 := kk (va_up ad (nE E) H.size) H1 (fun i hi => va_up_ne _ _ (by omega)) h1 h2 ⟨Nat.le_trans hS.1 (by omega), fun x h1 h2 => (o1 x (Nat.lt_of_lt_of_le h1 hS.1)).trans (hS.2.1 x h1 h2), hS.2.2⟩
  rw [va_up_self] at h4
  exact W.wide (Nat.le_refl _) (by omega) h4
theorem m_newO {own C : String} {T : u_T} {n ci index : Nat} {ty : Nat → FieldType} (hx : p.tables.exec = Jvm.exec) (hb : c.code = cc) (hts : ∀ w ∈ WG, w.before args s = true) (iX : ∀ w ∈ u_ws C T n, w ∈ WG) (hty : ∀ k, k < n → parseFieldDescriptor (T k).2.2.1 = some (ty k)) (hown : s.vm.findClass own = some m.cls) (hcl : Cond.classLink own index C ∈ WG) (hinst : Cond.instantiable C n ∈ WG) (hini : Cond.initialized C ∈ WG) (hc : classes[ci]? = some (C, T, n)) (hfs : ∀ ad : Nat → Nat, ∀ j, j < n → defaultValue (ty j) = vp_V (fsO ad ci (fun _ => none) (fun _ => 0)) j) (hG : KG z s) (hP : va_P z.1 classes (wv z ad E M) H) (hD : va_D A (wv z ad E M)) (hS : va_S A s.heap H locs) (hA : ∀ q, s.heap.size ≤ q → A q) (hcells : cells + 1 ≤ R.cells) (hslots : slots + n ≤ R.slots) (hdg : decode cc pc = .ok (.new index, 3))
    (kk : ∀ (ad1 : Nat → Nat) (H : Heap), (∀ i, i < nE E → ad1 i = ad i) → va_P z.1 classes (wv z ad1 (eNew E (100 + ci, 0)) (mN M (nE E))) H → va_D A (wv z ad1 (eNew E (100 + ci, 0)) (mN M (nE E))) → va_S A s.heap H locs → W p l e R s m args below meth c H locs (cells + 1) (slots + n) Q (F0 m (pc + 3) ls (.ref (ad1 (nE E)) :: rest))) : W p l e R s m args below meth c H locs cells slots Q (F0 m pc ls rest) := by
  refine va_new hx hb hts iX ty hty hown (hts _ hcl) (hts _ hinst) (hts _ hini) hG.1 hP hD hS hA hc (hfs ad) hcells hslots hdg (fun q H1 h1 h2 h3 => ?_)
  · have e0 : dE z (va_up ad (nE E) q) (100 + ci, 0) (fun _ => none) (fun _ => 0) = .inr (ci, fsO ad ci (fun _ => none) (fun _ => 0)) := by
      rw [dE_o rfl, fs_agree (ad1 := va_up ad (nE E) q) (ad := ad) (fun k _ j hj => by cases hj)]
    rw [← e0] at h1 h2
    rw [wv_new] at h1 h2
    have h4 := kk (va_up ad (nE E) q) H1 (fun i hi => va_up_ne _ _ (by omega)) h1 h2 h3
    rw [va_up_self] at h4
    exact h4
theorem m_grid {own : String} {index : Nat} {x y : Int} {N K : Nat} (hx : p.tables.exec = Jvm.exec) (hb : c.code = cc) (h0 : 0 ≤ x) (hN : x ≤ (N : Int)) (hN2 : N ≤ 65536) (g0 : 0 ≤ y) (hK : y ≤ (K : Int)) (hK2 : K ≤ 65536) (hown : s.vm.findClass own = some m.cls) (hclink : (Cond.classLink own index ("[" ++ (FieldType.array .int).toString)).before args s = true) (harr : (Cond.arrayClass .int).before args s = true) (hG : KG z s) (hP : va_P z.1 classes (wv z ad E M) H) (hD : va_D A (wv z ad E M)) (hS : va_S A s.heap H locs) (hA : ∀ q, s.heap.size ≤ q → A q) (hcells : cells + (1 + N) ≤ R.cells) (hslots : slots + (N + N * K) ≤ R.slots) (hdg : decode cc pc = .ok (.multianewarray index 2, 4))
    (kk : ∀ (ad1 : Nat → Nat) (H : Heap), (∀ i, i < nE E → ad1 i = ad i) → va_P z.1 classes (wv z ad1 (eGrid E x.toNat y.toNat) (mG M (nE E) x.toNat)) H → va_D A (wv z ad1 (eGrid E x.toNat y.toNat) (mG M (nE E) x.toNat)) → va_S A s.heap H locs → W p l e R s m args below meth c H locs (cells + (1 + N)) (slots + (N + N * K)) Q (F0 m (pc + 4) ls (.ref (ad1 (nE E)) :: rest))) : W p l e R s m args below meth c H locs cells slots Q (F0 m pc ls (.int (oI y) :: .int (oI x) :: rest)) := by
  have g := nn_oI (x := x) h0 (by omega)
  have g' := nn_oI (x := y) g0 (by omega)
  have hNK : x.toNat * y.toNat ≤ N * K := Nat.mul_le_mul (by omega) (by omega)
  have hcy : s.vm.findClass (FieldType.array .int).toString = some (z.2 0) := va_nm_int (hG.1.2 0 _ rfl).2
  have hP0 : va_P z.1 classes (wv z ad E M ++ va_pl [] (fun _ => .inr (0, []))) H := by
    show va_P z.1 classes (wv z ad E M ++ []) H
    rw [List.append_nil]; exact hP
  have hD0 : va_D A (wv z ad E M ++ va_pl [] (fun _ => .inr (0, []))) := by
    show va_D A (wv z ad E M ++ [])
    rw [List.append_nil]; exact hD
  refine va_mna (L := []) (f := fun _ => .inr (0, [])) (z := (y.toNat, .inl (fun _ => 0))) hx hb hown hclink hG.2.2.2.1 harr hcy hG.1 hP0 hD0 hS hA g.1 g'.1 g.2 g'.2 (by omega) (show y.toNat * 4 ≤ 536870912 by omega) (by omega) rfl rfl (by omega) (by omega) (fun cA => ?_) hdg (fun q r cA H1 hinj hnot hK1 hP1 hD1 hS1 => ?_)
  · rw [vp_cell_i]
    exact (arrV_new cA y.toNat (.int 0)).symm ▸ rfl
  · have hc := ty_eq6 hK1
    subst hc
    have e1 : va_pl ([] ++ (List.range x.toNat).map r) (vr_up (fun _ => .inr (0, [])) ((List.range x.toNat).map r) (.inl (z.2 0, y.toNat, .inl (fun _ => 0)))) = (List.range x.toNat).map (fun i => (r i, .inl (z.2 0, y.toNat, .inl (fun _ => 0)))) := by
      unfold va_pl
      rw [List.nil_append, List.map_map]
      apply List.map_congr_left
      intro i hi
      show (r i, vr_up _ _ _ (r i)) = _
      rw [vr_up_in (List.mem_map.mpr ⟨i, hi, rfl⟩)]
    rw [e1] at hP1 hD1
    have a0 : ∀ i, i < nE E → (fun i => bif Nat.blt i (nE E) then ad i else bif i == nE E then q else r (i - (nE E + 1))) i = ad i := fun i hi => by
      show (bif Nat.blt i (nE E) then ad i else _) = ad i
      rw [bltT hi]
      rfl
    have a1 : (fun i => bif Nat.blt i (nE E) then ad i else bif i == nE E then q else r (i - (nE E + 1))) (nE E) = q := by
      show (bif Nat.blt (nE E) (nE E) then ad (nE E) else bif nE E == nE E then q else _) = q
      rw [bltF (Nat.lt_irrefl _), beq_self_eq_true]
      rfl
    have a2 : ∀ i, i < x.toNat → (fun i => bif Nat.blt i (nE E) then ad i else bif i == nE E then q else r (i - (nE E + 1))) (nE E + 1 + i) = r i := fun i hi => by
      show (bif Nat.blt (nE E + 1 + i) (nE E) then _ else bif nE E + 1 + i == nE E then q else r (nE E + 1 + i - (nE E + 1))) = r i
      rw [bltF (by omega), beqF (by omega), show nE E + 1 + i - (nE E + 1) = i by omega]
      rfl
    generalize (fun i => bif Nat.blt i (nE E) then ad i else bif i == nE E then q else r (i - (nE E + 1))) = ad1 at a0 a1 a2
    have a3 : (fun i => if i < x.toNat then some (r i) else none) = rfA ad1 x.toNat (gR E x.toNat (nE E)) := by
      funext k
      by_cases hk : k < x.toNat
      · rw [rfA_in hk, if_pos hk]
        unfold gR
        rw [bltF (show ¬ nE E < E.1.1 from Nat.lt_irrefl _), show (nE E == E.1.1) = true from beq_self_eq_true (nE E)]
        show some (r k) = (bif Nat.blt k x.toNat then some (nE E + 1 + k) else none).map ad1
        rw [bltT hk, ← a2 k hk]
        rfl
      · rw [if_neg hk]
        unfold rfA
        rw [bltF hk]
        rfl
    rw [wv_grid a0 a1 a2 a3] at hP1 hD1
    have h4 := kk ad1 H1 a0 hP1 hD1 hS1
    rw [a1] at h4
    exact W.wide (by omega) (by omega) h4
theorem m_pr {own ref C : String} {T : u_T} {N ci index i k j : Nat} {ty0 : Nat → FieldType} {ty : FieldType} (hx : p.tables.exec = Jvm.exec) (hb : c.code = cc) (hts : ∀ w ∈ WG, w.before args s = true) (iX : ∀ w ∈ u_ws C T N, w ∈ WG) (hown : s.vm.findClass own = some m.cls) (hG : KG z s) (hP : va_P z.1 classes (wv z ad E M) H) (hD : va_D A (wv z ad E M)) (hS : va_S A s.heap H locs) (hi : i < nE E) (hT : tE E i = (100 + ci, 0)) (hc : classes[ci]? = some (C, T, N)) (hk : k < N) (hlink : Cond.fieldLink own index ref (T k).2.1 (T k).2.2.1 ∈ WG) (hsame : ∀ x, s.fieldFound? (T k).1 (T k).2.1 (T k).2.2.1 = some x → s.fieldFound? ref (T k).2.1 (T k).2.2.1 = some x) (hn : Nat.blt k (nfO ci) = true) (hr : refO ci k = true) (hty : ∀ k, k < N → parseFieldDescriptor (T k).2.2.1 = some (ty0 k)) (hnm : ∀ a, a < N → ∀ b, b < N → a ≠ b → (T a).2.1 ≠ (T b).2.1) (hfin : (T k).2.2.2 = false) (hd : parseFieldDescriptor (T k).2.2.1 = some ty) (hj : j < nE E) (hnr : ∀ a, narrow ty (.ref a) = .ref a) (hfit : ∀ a, fits ty (.ref a) = true) (hdg : decode cc pc = .ok (.putfield index, 3))
    (kk : ∀ (H : Heap) (locs : List Loc), va_P z.1 classes (wv z ad (eRef E i k j) M) H → va_D A (wv z ad (eRef E i k j) M) → va_S A s.heap H locs → W p l e R s m args below meth c H locs cells slots Q (F0 m (pc + 3) ls rest)) : W p l e R s m args below meth c H locs cells slots Q (F0 m pc ls (.ref (ad j) :: .ref (ad i) :: rest)) := by
  have e0 : (wv z ad E M).set i (ad i, .inr (ci, (fsO ad ci (rE E i) (M i)).set k (.ref (ad j)))) = wv z ad (eRef E i k j) M := wv_put hi hj (by rw [dE_o hT, fs_setR hn hr])
  exact va_put (D := z.1) (ci := ci) (v := .ref (ad j)) (ty := ty) hx hb hts iX ty0 hty hnm hown hG.1 hP hD hS i (wv_o hi hT) hc k hk (hts _ hlink) hsame hfin hd (hnr _) (hfit _) (by rw [fs_len]; exact Nat.blt_eq.mp hn) hdg (fun H1 locs1 h1 h2 h3 => kk H1 locs1 (by rw [← e0]; exact h1) (by rw [← e0]; exact h2) h3)
theorem m_prF {own ref C : String} {T : u_T} {N ci index i k j : Nat} {ty0 : Nat → FieldType} {ty : FieldType} (hx : p.tables.exec = Jvm.exec) (hb : c.code = cc) (hts : ∀ w ∈ WG, w.before args s = true) (iX : ∀ w ∈ u_ws C T N, w ∈ WG) (hown : s.vm.findClass own = some m.cls) (hG : KG z s) (hP : va_P z.1 classes (wv z ad E M) H) (hD : va_D A (wv z ad E M)) (hS : va_S A s.heap H locs) (hi : i < nE E) (hT : tE E i = (100 + ci, 0)) (hc : classes[ci]? = some (C, T, N)) (hk : k < N) (hlink : Cond.fieldLink own index ref (T k).2.1 (T k).2.2.1 ∈ WG) (hsame : ∀ x, s.fieldFound? (T k).1 (T k).2.1 (T k).2.2.1 = some x → s.fieldFound? ref (T k).2.1 (T k).2.2.1 = some x) (hn : Nat.blt k (nfO ci) = true) (hr : refO ci k = true) (hty : ∀ k, k < N → parseFieldDescriptor (T k).2.2.1 = some (ty0 k)) (hnm : ∀ a, a < N → ∀ b, b < N → a ≠ b → (T a).2.1 ≠ (T b).2.1) (hfin : (T k).2.2.2 = true) (hin2 : meth.name = "<init>") (hdecl : (T k).1 = own) (hd : parseFieldDescriptor (T k).2.2.1 = some ty) (hj : j < nE E) (hnr : ∀ a, narrow ty (.ref a) = .ref a) (hfit : ∀ a, fits ty (.ref a) = true) (hdg : decode cc pc = .ok (.putfield index, 3))
    (kk : ∀ (H : Heap) (locs : List Loc), va_P z.1 classes (wv z ad (eRef E i k j) M) H → va_D A (wv z ad (eRef E i k j) M) → va_S A s.heap H locs → W p l e R s m args below meth c H locs cells slots Q (F0 m (pc + 3) ls rest)) : W p l e R s m args below meth c H locs cells slots Q (F0 m pc ls (.ref (ad j) :: .ref (ad i) :: rest)) := by
  have e0 : (wv z ad E M).set i (ad i, .inr (ci, (fsO ad ci (rE E i) (M i)).set k (.ref (ad j)))) = wv z ad (eRef E i k j) M := wv_put hi hj (by rw [dE_o hT, fs_setR hn hr])
  exact va_putF (D := z.1) (ci := ci) (v := .ref (ad j)) (ty := ty) hx hb hts iX ty0 hty hnm hown hG.1 hP hD hS i (wv_o hi hT) hc k hk (hts _ hlink) hsame hfin hin2 hdecl hd (hnr _) (hfit _) (by rw [fs_len]; exact Nat.blt_eq.mp hn) hdg (fun H1 locs1 h1 h2 h3 => kk H1 locs1 (by rw [← e0]; exact h1) (by rw [← e0]; exact h2) h3)
theorem m_piF {own ref C : String} {T : u_T} {N ci index i k : Nat} {ty0 : Nat → FieldType} {ty : FieldType} {x : Int} (hx : p.tables.exec = Jvm.exec) (hb : c.code = cc) (hts : ∀ w ∈ WG, w.before args s = true) (iX : ∀ w ∈ u_ws C T N, w ∈ WG) (hown : s.vm.findClass own = some m.cls) (hG : KG z s) (hP : va_P z.1 classes (wv z ad E M) H) (hD : va_D A (wv z ad E M)) (hS : va_S A s.heap H locs) (hi : i < nE E) (hT : tE E i = (100 + ci, 0)) (hc : classes[ci]? = some (C, T, N)) (hk : k < N) (hlink : Cond.fieldLink own index ref (T k).2.1 (T k).2.2.1 ∈ WG) (hsame : ∀ x, s.fieldFound? (T k).1 (T k).2.1 (T k).2.2.1 = some x → s.fieldFound? ref (T k).2.1 (T k).2.2.1 = some x) (hn : Nat.blt k (nfO ci) = true) (hr : refO ci k = false) (hty : ∀ k, k < N → parseFieldDescriptor (T k).2.2.1 = some (ty0 k)) (hnm : ∀ a, a < N → ∀ b, b < N → a ≠ b → (T a).2.1 ≠ (T b).2.1) (hfin : (T k).2.2.2 = true) (hin2 : meth.name = "<init>") (hdecl : (T k).1 = own) (hd : parseFieldDescriptor (T k).2.2.1 = some ty) (hnr : narrow ty (.int (oI x)) = .int (oI x)) (hfit : fits ty (.int (oI x)) = true) (hdg : decode cc pc = .ok (.putfield index, 3))
    (kk : ∀ (H : Heap) (locs : List Loc), va_P z.1 classes (wv z ad E (u2 M i k x)) H → va_D A (wv z ad E (u2 M i k x)) → va_S A s.heap H locs → W p l e R s m args below meth c H locs cells slots Q (F0 m (pc + 3) ls rest)) : W p l e R s m args below meth c H locs cells slots Q (F0 m pc ls (.int (oI x) :: .ref (ad i) :: rest)) := 
  va_putF (D := z.1) (ci := ci) (v := .int (oI x)) (ty := ty) hx hb hts iX ty0 hty hnm hown hG.1 hP hD hS i (wv_o hi hT) hc k hk (hts _ hlink) hsame hfin hin2 hdecl hd hnr hfit (by rw [fs_len]; exact Nat.blt_eq.mp hn) hdg (fun H1 locs1 h1 h2 h3 => kk H1 locs1 (by rw [← st_o hi hT hr hn]; exact h1) (by rw [← st_o hi hT hr hn]; exact h2) h3)
theorem m_as {i j t n ci : Nat} {r : vw_C} {x : Int} (hx : p.tables.exec = Jvm.exec) (hb : c.code = cc) (hG : KG z s) (hP : va_P z.1 classes (wv z ad E M) H) (hD : va_D A (wv z ad E M)) (hS : va_S A s.heap H locs) (hi : i < nE E) (hT : tE E i = (t, n)) (h3 : (Nat.ble 3 t && Nat.blt t 100) = true) (ht : (TY z.2)[t]? = some (z.2 t, .object r.1)) (hj : j < nE E) (hTj : tE E j = (100 + ci, 0)) (hc : classes[ci]? = some r) (hin : inb x n) (hdg : decode cc pc = .ok (.aastore, 1))
    (kk : ∀ (H : Heap) (locs : List Loc), va_P z.1 classes (wv z ad (eRef E i x.toNat j) M) H → va_D A (wv z ad (eRef E i x.toNat j) M) → va_S A s.heap H locs → W p l e R s m args below meth c H locs cells slots Q (F0 m (pc + 1) ls rest)) : W p l e R s m args below meth c H locs cells slots Q (F0 m pc ls (.ref (ad j) :: .int (oI x) :: .ref (ad i) :: rest)) := by
  have e0 : (wv z ad E M).set i (ad i, .inl (z.2 t, n, .inr (.inr (.inr (.inr (va_up (rfA ad n (rE E i)) x.toNat (some (ad j)))))))) = wv z ad (eRef E i x.toNat j) M := wv_put hi hj (by rw [dE_q hT h3, rfA_up (inb_lt hin)])
  exact va_astq hx hb hG.1 hP hD hS i t j ci (wv_q hi hT h3) ht (wv_o hj hTj) hc (inb_v hin) hdg (fun H1 locs1 h1 h2 h3 => kk H1 locs1 (by rw [inb_n hin, e0] at h1; exact h1) (by rw [inb_n hin, e0] at h2; exact h2) h3)
theorem assignA {s : State} {c comp : ClassId} {t : FieldType} {k : Class} (hk : s.vm.classes[c]? = some k) (hkind : k.kind = .array comp t) : s.vm.assignable c c = true := va_asg _ _
theorem m_asA {i j n nj : Nat} {x : Int} (hx : p.tables.exec = Jvm.exec) (hb : c.code = cc) (hG : KG z s) (hP : va_P z.1 classes (wv z ad E M) H) (hD : va_D A (wv z ad E M)) (hS : va_S A s.heap H locs) (hi : i < nE E) (hT : tE E i = (6, n)) (hj : j < nE E) (hTj : tE E j = (0, nj)) (hin : inb x n) (hdg : decode cc pc = .ok (.aastore, 1))
    (kk : ∀ (H : Heap) (locs : List Loc), va_P z.1 classes (wv z ad (eRef E i x.toNat j) M) H → va_D A (wv z ad (eRef E i x.toNat j) M) → va_S A s.heap H locs → W p l e R s m args below meth c H locs cells slots Q (F0 m (pc + 1) ls rest)) : W p l e R s m args below meth c H locs cells slots Q (F0 m pc ls (.ref (ad j) :: .int (oI x) :: .ref (ad i) :: rest)) := by
  have e0 : (wv z ad E M).set i (ad i, .inl (z.2 6, n, .inr (.inr (.inr (.inr (va_up (rfA ad n (rE E i)) x.toNat (some (ad j)))))))) = wv z ad (eRef E i x.toNat j) M := wv_put hi hj (by rw [dE_q hT rfl, rfA_up (inb_lt hin)])
  have ha := wv_q (z := z) (ad := ad) (M := M) hi hT rfl
  have hv := hin_nat hin
  obtain ⟨-, kA, hk1, comp, hk2⟩ := (hG.1.2 6 _ rfl).1 n (fun q => va_rf (rfA ad n (rE E i) q))
  have hcy : s.vm.findClass (FieldType.array .int).toString = some (z.2 0) := va_nm_int (hG.1.2 0 _ rfl).2
  obtain ⟨comp', c6, k6, f1, f2, f3, f4, f5⟩ := va_AOA.spec (A := args) (va_AOA.use hG.2.2.2.1)
  have hc6 : z.2 6 = c6 := Option.some.inj ((show s.vm.findClass ("[" ++ (FieldType.array .int).toString) = some (z.2 6) from (hG.1.2 6 _ rfl).2).symm.trans f5)
  subst hc6
  cases hcy.symm.trans f1
  obtain ⟨kE, hkE, -⟩ := Vm.findClass_spec hcy
  have g1 : H[ad j]? = some (vp_cell (z.2 0) (nj, .inl (iA (M j)))) := hP j _ (wv_i hj hTj)
  refine W.aast hx hb (hP i _ ha) (fun q h => by cases h) (fun h => by cases h) f3 f4 rfl hkE ⟨hv.1, by show _ < (arrV _ _ _).slots.size; rw [arrV_size]; exact hv.2⟩ g1 (fun q h => by cases h) hkE (va_asg _ _) rfl rfl hdg fun H1 e9 z9 oq => ?_
  have e2 : va_at z.1 classes (ad i, .inl (z.2 6, n, .inr (.inr (.inr (.inr (va_up (rfA ad n (rE E i)) x.toNat (some (ad j)))))))) H1 := by
    show H1[ad i]? = some (vp_cell (z.2 6) (n, .inr (.inr (.inr (.inr (va_up (rfA ad n (rE E i)) x.toNat (some (ad j))))))))
    rw [e9]
    rw [vp_cell_q, vp_cell_q, arrV_store, inb_n hin]
    congr 2
    funext q
    by_cases hq : q = x.toNat
    · subst hq
      simp [updV, va_up, va_rf]
    · simp [updV, va_up, hq]
  have h1 := hP.set hD ha e2 oq
  have h2 := hD.set ha (e := .inl (z.2 6, n, .inr (.inr (.inr (.inr (va_up (rfA ad n (rE E i)) x.toNat (some (ad j))))))))
  rw [e0] at h1 h2
  exact kk H1 _ h1 h2 (hS.put z9 oq (hD.2 i _ ha))
theorem m_bs {i n : Nat} {j x : Int} (hx : p.tables.exec = Jvm.exec) (hb : c.code = cc) (hG : KG z s) (hP : va_P z.1 classes (wv z ad E M) H) (hD : va_D A (wv z ad E M)) (hS : va_S A s.heap H locs) (hi : i < nE E) (hT : tE E i = (2, n)) (hin : inb j n) (hy : -128 ≤ x ∧ x ≤ 127) (hdg : decode cc pc = .ok (.bastore, 1))
    (kk : ∀ (H : Heap) (locs : List Loc), va_P z.1 classes (wv z ad E (u2 M i j.toNat x)) H → va_D A (wv z ad E (u2 M i j.toNat x)) → va_S A s.heap H locs → W p l e R s m args below meth c H locs cells slots Q (F0 m (pc + 1) ls rest)) : W p l e R s m args below meth c H locs cells slots Q (F0 m pc ls (.int (oI x) :: .int (oI j) :: .ref (ad i) :: rest)) := va_bast hx hb hG.1 hP hD hS i 2 (wv_b hi hT) rfl (inb_v hin) hdg (fun H1 locs1 h1 h2 h3 => kk H1 locs1 (by rw [inb_n hin, nar_b hy, up_iA, st_b hi hT] at h1; exact h1) (by rw [inb_n hin, nar_b hy, up_iA, st_b hi hT] at h2; exact h2) h3)
theorem m_lenB {i n : Nat} {v : Int} (hx : p.tables.exec = Jvm.exec) (hb : c.code = cc) (hG : KG z s) (hP : va_P z.1 classes (wv z ad E M) H) (hi : i < nE E) (hT : tE E i = (2, n)) (hv : Int32.ofNat n = oI v) (hdg : decode cc pc = .ok (.arraylength, 1))
    (kk : W p l e R s m args below meth c H locs cells slots Q (F0 m (pc + 1) ls (.int (oI v) :: rest))) : W p l e R s m args below meth c H locs cells slots Q (F0 m pc ls (.ref (ad i) :: rest)) := va_alen hx hb hG.1 hP i 2 (wv_b hi hT) rfl hv hdg kk
theorem m_cpyB {i0 n0 : Nat} {own : String} {index i1 n1 : Nat} {sp dp n : Int} (hx : p.tables.exec = Jvm.exec) (hb : c.code = cc) (hml : c.maxLocals = ls.size) (hown : s.vm.findClass own = some m.cls) (hlink : (Cond.methodLink own index arraycopyName).before args s = true) (hnat : (Cond.native arraycopyName).before args s = true) (hstat : (Cond.static arraycopyName).before args s = true) (hini : (Cond.initialized "java/lang/System").before args s = true) (hG : KG z s) (hP : va_P z.1 classes (wv z ad E M) H) (hD : va_D A (wv z ad E M)) (hS : va_S A s.heap H locs) (hi0 : i0 < nE E) (hT0 : tE E i0 = (2, n0)) (hi1 : i1 < nE E) (hT1 : tE E i1 = (2, n1)) (h0 : cpk sp dp n n0 n1) (hby : byR (M i0) sp n) (hframes : 1 ≤ R.frames) (hlocals : (rest.map fun v => v.category).sum + (nativeFrameWords "java/lang/System" "arraycopy" 5 + 11) ≤ R.locals) (hdg : decode cc pc = .ok (.invokestatic index, 3))
    (kk : ∀ (H : Heap) (locs : List Loc), va_P z.1 classes (wv z ad E (uA M i1 (va_cpy (M i0) (M i1) sp.toNat dp.toNat n.toNat))) H → va_D A (wv z ad E (uA M i1 (va_cpy (M i0) (M i1) sp.toNat dp.toNat n.toNat))) → va_S A s.heap H locs → W p l e R s m args below meth c H locs cells slots Q (F0 m (pc + 3) ls rest)) : W p l e R s m args below meth c H locs cells slots Q (F0 m pc ls (.int (oI n) :: .int (oI dp) :: .ref (ad i1) :: .int (oI sp) :: .ref (ad i0) :: rest)) := by
  obtain ⟨h1, e1, e2, e3⟩ := cpk_e h0
  refine va_copyi hx hb hml hown hlink hnat hstat hini hG.1 hP hD hS i0 i1 2 2 (wv_b hi0 hT0) (wv_b hi1 hT1) rfl rfl rfl h1.1 h1.2.1 h1.2.2.1 h1.2.2.2.1 h1.2.2.2.2 (fun k hk => ?_) hframes hlocals hdg (fun H1 locs1 h1 h2 h3 => ?_)
  · rw [e1]
    rw [e3] at hk
    exact fit_b (hby k hk)
  · rw [e1, e2, e3, cpy_iA, st_b hi1 hT1] at h1 h2
    exact kk H1 locs1 h1 h2 h3
def csB (i : Nat) : Nat → Int := fun j => bif i == 1 && j == 0 then 62 else 0
def csN (i : Nat) : Nat := bif i == 1 then 1 else 0
theorem csB_e (i : Nat) (hi : i < 2) : (fun j : Nat => Value.int ((csby.getD i []).getD j 0)) = fun j => Value.int (iA (csB i) j) := by
  funext j
  rcases (show i = 0 ∨ i = 1 by omega) with rfl | rfl
  · show Value.int (([] : List Int32).getD j 0) = Value.int (oI 0)
    rfl
  · rcases j with _ | j
    · rfl
    · show Value.int (([] : List Int32).getD j 0) = Value.int (oI 0)
      rfl
theorem m_cpyC {i : Nat} {own : String} {index i1 n1 : Nat} {sp dp n : Int} (hx : p.tables.exec = Jvm.exec) (hb : c.code = cc) (hml : c.maxLocals = ls.size) (hown : s.vm.findClass own = some m.cls) (hlink : (Cond.methodLink own index arraycopyName).before args s = true) (hnat : (Cond.native arraycopyName).before args s = true) (hstat : (Cond.static arraycopyName).before args s = true) (hini : (Cond.initialized "java/lang/System").before args s = true) (hG : KG z s) (hP : va_P z.1 classes (wv z ad E M) H) (hD : va_D A (wv z ad E M)) (hS : va_S A s.heap H locs) (hZ : FZ z A s) (hi : i < 2) (hi1 : i1 < nE E) (hT1 : tE E i1 = (2, n1)) (h0 : cpk sp dp n (csN i) n1) (hframes : 1 ≤ R.frames) (hlocals : (rest.map fun v => v.category).sum + (nativeFrameWords "java/lang/System" "arraycopy" 5 + 11) ≤ R.locals) (hdg : decode cc pc = .ok (.invokestatic index, 3))
    (kk : ∀ (H : Heap) (locs : List Loc), va_P z.1 classes (wv z ad E (uA M i1 (va_cpy (csB i) (M i1) sp.toNat dp.toNat n.toNat))) H → va_D A (wv z ad E (uA M i1 (va_cpy (csB i) (M i1) sp.toNat dp.toNat n.toNat))) → va_S A s.heap H locs → W p l e R s m args below meth c H locs cells slots Q (F0 m (pc + 3) ls rest)) : W p l e R s m args below meth c H locs cells slots Q (F0 m pc ls (.int (oI n) :: .int (oI dp) :: .ref (ad i1) :: .int (oI sp) :: .ref (z.2 (110 + i)) :: rest)) := by
  obtain ⟨h1, e1, e2, e3⟩ := cpk_e h0
  have hX : va_T .byte (z.2 (110 + i)) (csN i) (fun j => .int (iA (csB i) j)) A s s.heap := by
    have h := (hZ.2.2.1.1 i hi).2.2.2
    rw [csB_e i hi] at h
    rcases (show i = 0 ∨ i = 1 by omega) with rfl | rfl <;> exact h
  refine vk_copyt hx hb hml hown hlink hnat hstat hini hG.1 hP hD hS hX i1 2 (wv_b hi1 hT1) rfl h1.1 h1.2.1 h1.2.2.1 h1.2.2.2.1 h1.2.2.2.2 (fun k hk => ?_) hframes hlocals hdg (fun H1 locs1 h1 h2 h3 => ?_)
  · refine fit_b ?_
    unfold csB
    cases (i == 1 && (oI sp).toNatClampNeg + k == 0)
    · exact ⟨by decide, by decide⟩
    · exact ⟨by decide, by decide⟩
  · rw [e1, e2, e3, cpy_iA, st_b hi1 hT1] at h1 h2
    exact kk H1 locs1 h1 h2 h3
theorem m_lenC {i : Nat} (hx : p.tables.exec = Jvm.exec) (hb : c.code = cc) (hZ : FZ z A s) (hS : va_S A s.heap H locs) (hi : i < 2) (hdg : decode cc pc = .ok (.arraylength, 1))
    (kk : W p l e R s m args below meth c H locs cells slots Q (F0 m (pc + 1) ls (.int (oI (csN i : Int)) :: rest))) : W p l e R s m args below meth c H locs cells slots Q (F0 m pc ls (.ref (z.2 (110 + i)) :: rest)) := va_tlen hx hb (hZ.2.2.1.1 i hi).2.2.2 hS (by rcases (show i = 0 ∨ i = 1 by omega) with rfl | rfl <;> rfl) hdg kk
theorem m_gcC {i index : Nat} {own : String} (hx : p.tables.exec = Jvm.exec) (hb : c.code = cc) (hts : ∀ w ∈ WG, w.before args s = true) (hZ : FZ z A s) (hS : va_S A s.heap H locs) (hi : i < 2) (hown : s.vm.findClass own = some m.cls) (hlink : Cond.fieldLink own index "java/lang/String" "coder" "B" ∈ WG) (hdg : decode cc pc = .ok (.getfield index, 3))
    (kk : W p l e R s m args below meth c H locs cells slots Q (F0 m (pc + 3) ls (.int (oI 0) :: rest))) : W p l e R s m args below meth c H locs cells slots Q (F0 m pc ls (.ref (z.2 (100 + i)) :: rest)) := vk_getf hx hb (hZ.2.2.1.1 i hi).2.1 hS hown (hts _ hlink) (fun _ h => h) hdg kk
theorem m_gvC {i index : Nat} {own : String} (hx : p.tables.exec = Jvm.exec) (hb : c.code = cc) (hts : ∀ w ∈ WG, w.before args s = true) (hZ : FZ z A s) (hS : va_S A s.heap H locs) (hi : i < 2) (hown : s.vm.findClass own = some m.cls) (hlink : Cond.fieldLink own index "java/lang/String" "value" "[B" ∈ WG) (hdg : decode cc pc = .ok (.getfield index, 3))
    (kk : W p l e R s m args below meth c H locs cells slots Q (F0 m (pc + 3) ls (.ref (z.2 (110 + i)) :: rest))) : W p l e R s m args below meth c H locs cells slots Q (F0 m pc ls (.ref (z.2 (100 + i)) :: rest)) := vk_getf hx hb (hZ.2.2.1.1 i hi).2.2.1 hS hown (hts _ hlink) (fun _ h => h) hdg kk
end NR
section KD
variable {p : Program} {l : Launch} {e : Env} {R : Room} {s : State} {m : MethodId} {args : Array Value} {below : List Frame} {meth : Method} {c : Code} {H : Heap} {locs : List Loc} {cells slots : Nat} {Q : State → Prop}
variable {cc : ByteArray} {pc : Nat} {ls : Array Slot} {st0 rest : List Value} {A0 : Nat → Prop} {z : Zz} {ws : va_W} {mc ms : Nat} {v : Uu → Option Value} {ws1 : Uu → va_W} {a : Array Value}
variable {y x : MethodName} {bytes : ByteArray} {maxL fr lo n index nL : Nat} {ret : Option FieldType} {own host C : String} {b ci : Nat} {q : vw_C} {fs : List Value} {cf : ClassId}
theorem gin {x : Cond} {ls : List Cond} (hx : x ∈ WG) (hl : ∀ w ∈ ls, w ∈ WG) : GoodIn (x :: WG) (ls ++ (x :: WG)) := fun w hw => (List.mem_append.mp hw).elim (fun h => ⟨List.mem_cons_of_mem _ (hl w h), good_of_word (List.mem_filter.mp (hl w h)).2⟩) (fun h => ⟨List.mem_cons_of_mem _ (wg_good hx w h).1, (wg_good hx w h).2⟩)
/-- a private method of the superclass on an object of the subclass -/
theorem selSub {s : State} {args : Array Value} {C : String} {x y : MethodName} (h1 : (Cond.selects C x x).before args s = true) (hxy : x.cls = y.cls) (hy : y.cls ≠ "java/lang/invoke/MethodHandle" ∧ y.cls ≠ "java/lang/invoke/VarHandle") (hpriv : (Cond.privateMethod y).before args s = true) (hinst : (Cond.instanceMethod y).before args s = true) : (Cond.selects C y y).before args s = true := by
  obtain ⟨c2, r2, m2, q1, q2, q3, q4, kP, hkP, hkPi⟩ := Cond.selects_spec h1
  obtain ⟨mk, methM, hnamed, hmethM, -, -⟩ := Cond.instanceMethod_spec hinst
  have hfound : s.methodFound? y.cls y.name y.desc = some mk := State.methodFound?_of_named hnamed hy
  have hsel : selectMethod {} s.vm c2 mk = .method mk := selectMethod_private hmethM (Cond.privateMethod_at hpriv mk methM hnamed hmethM)
  have hcls : mk.cls = m2.cls := Option.some.inj ((findClass_of_methodNamed hnamed).symm.trans (by rw [← hxy]; exact findClass_of_methodNamed q3))
  simp only [Cond.before, Cond.holds, Cond.value, q1, hfound, hnamed, hsel, hcls, hkP]
  simp
  exact hkPi
theorem kVQ {As rest : List Value} (hc : CT l z y bytes maxL ret (.ref b :: As) ws fr lo mc ms v ws1) (hx : p.tables.exec = Jvm.exec) (hb : c.code = cc) (hml : c.maxLocals = nL) (hown : s.vm.findClass own = some m.cls) (hts : ∀ w ∈ WG, w.before args s = true) (hcode : Cond.code y bytes maxL ret ∈ WG) (hlink : Cond.methodLink own index y ∈ WG) (hinst : Cond.instanceMethod y ∈ WG) (hsel : (Cond.selects C y y).before args s = true) (hini : Cond.initialized y.cls ∈ WG) (hd : md_ok y n) (hR : fr + 1 ≤ R.frames ∧ 8 + (maxL + 11) + lo ≤ R.locals) (hG : KG z s) (hZ : FZ z A0 s) (hP : va_P z.1 classes ws H) (hD : va_D A0 ws) (hS : va_S A0 s.heap H locs) (hA : ∀ q, s.heap.size ≤ q → A0 q) (q0 : Nat) (he : ws[q0]? = some (b, .inr (ci, fs))) (hcl : classes[ci]? = some q) (hC : q.1 = C) (hnn : As.length = n) (hsize : ls.size = nL) (hst : st0 = As.reverse ++ .ref b :: rest) (hW : (rest.map fun v => v.category).sum ≤ 8) (hdg : decode cc pc = .ok (.invokevirtual index, 3)) (hf : cells + mc ≤ R.cells ∧ slots + ms ≤ R.slots) (kk : ∀ (u : Uu) (H1 : Heap) (locs1 : List Loc), va_P z.1 classes (ws1 u) H1 → va_D A0 (ws1 u) → va_S A0 s.heap H1 locs1 → W p l e R s m args below meth c H1 locs1 (cells + mc) (slots + ms) Q (F0 m (pc + 3) ls ((v u).toList ++ rest))) : W p l e R s m args below meth c H locs cells slots Q (F0 m pc ls st0) :=
  k_all rfl (va_runV (As := As) (rest := rest) ⟨hx, hb, hml, hown, hts⟩ (hc H.size) ⟨(callB_of n hts (wg_good hcode) rfl rfl rfl (hts _ hini) (hts _ hlink) hd hR), hts _ hinst, hsel⟩ ⟨PK.blind, (by obtain ⟨cell, e1, e2, e3⟩ := va_recv hG.1 hP hcl he; exact ⟨cell, e1, e2, by rw [← hC]; exact e3⟩), (pk_all hG hZ hP hD hS hA)⟩ rfl hnn hsize hst (lv_room hW) hdg hf) hD hS hA kk
theorem kVC {As rest : List Value} (hc : CT l z y bytes maxL ret (.ref b :: As) ws fr lo mc ms v ws1) (hx : p.tables.exec = Jvm.exec) (hb : c.code = cc) (hml : c.maxLocals = nL) (hown : s.vm.findClass own = some m.cls) (hts : ∀ w ∈ WG, w.before args s = true) (hcode : Cond.code y bytes maxL ret ∈ WG) (hlink : Cond.methodLink own index y ∈ WG) (hinst : Cond.instanceMethod y ∈ WG) (hsel : Cond.selects "java/lang/String" y y ∈ WG) (hini : Cond.initialized y.cls ∈ WG) (hd : md_ok y n) (hR : fr + 1 ≤ R.frames ∧ 8 + (maxL + 11) + lo ≤ R.locals) (hG : KG z s) (hZ : FZ z A0 s) (hP : va_P z.1 classes ws H) (hD : va_D A0 ws) (hS : va_S A0 s.heap H locs) (hA : ∀ q, s.heap.size ≤ q → A0 q) (i : Nat) (hi : i < 2) (hbi : b = z.2 (100 + i)) (hnn : As.length = n) (hsize : ls.size = nL) (hst : st0 = As.reverse ++ .ref b :: rest) (hW : (rest.map fun v => v.category).sum ≤ 8) (hdg : decode cc pc = .ok (.invokevirtual index, 3)) (hf : cells + mc ≤ R.cells ∧ slots + ms ≤ R.slots) (kk : ∀ (u : Uu) (H1 : Heap) (locs1 : List Loc), va_P z.1 classes (ws1 u) H1 → va_D A0 (ws1 u) → va_S A0 s.heap H1 locs1 → W p l e R s m args below meth c H1 locs1 (cells + mc) (slots + ms) Q (F0 m (pc + 3) ls ((v u).toList ++ rest))) : W p l e R s m args below meth c H locs cells slots Q (F0 m pc ls st0) := by
  subst hbi
  exact k_all rfl (va_runV (As := As) (rest := rest) ⟨hx, hb, hml, hown, hts⟩ (hc H.size) ⟨(callB_of n hts (wg_good hcode) rfl rfl rfl (hts _ hini) (hts _ hlink) hd hR), hts _ hinst, hts _ hsel⟩ ⟨PK.blind, vk_recv hZ.2.2.1 hi hS, (pk_all hG hZ hP hD hS hA)⟩ rfl hnn hsize hst (lv_room hW) hdg hf) hD hS hA kk
theorem kU {As rest : List Value} {owner : String} {b0 : ByteArray} {m0 : Nat} {r0 : Option FieldType} (hc : CT l z y bytes maxL ret (.ref b :: As) ws fr lo mc ms v ws1) (hx : p.tables.exec = Jvm.exec) (hb : c.code = cc) (hml : c.maxLocals = nL) (hown : s.vm.findClass own = some m.cls) (hts : ∀ w ∈ WG, w.before args s = true) (hcode : Cond.code y bytes maxL ret ∈ WG) (hT : GoodIn (Cond.code y bytes maxL ret :: WG) (va_wsO own index C owner x y (Cond.code y bytes maxL ret :: WG))) (h0 : Cond.code ⟨owner, x.name, x.desc⟩ b0 m0 r0 ∈ WG) (hd : owner ≠ "java/lang/invoke/MethodHandle" ∧ owner ≠ "java/lang/invoke/VarHandle" ∧ (parseMethodDescriptor x.desc).map (fun d => d.parameters.length) = some n) (hR : fr + 1 ≤ R.frames ∧ 8 + (maxL + 11) + lo ≤ R.locals) (hG : KG z s) (hZ : FZ z A0 s) (hP : va_P z.1 classes ws H) (hD : va_D A0 ws) (hS : va_S A0 s.heap H locs) (hA : ∀ q, s.heap.size ≤ q → A0 q) (q0 : Nat) (he : ws[q0]? = some (b, .inr (ci, fs))) (hcl : classes[ci]? = some q) (hC : q.1 = C) (hnn : As.length = n) (hsize : ls.size = nL) (hst : st0 = As.reverse ++ .ref b :: rest) (hW : (rest.map fun v => v.category).sum ≤ 8) (hdg : decode cc pc = .ok (.invokevirtual index, 3)) (hf : cells + mc ≤ R.cells ∧ slots + ms ≤ R.slots) (kk : ∀ (u : Uu) (H1 : Heap) (locs1 : List Loc), va_P z.1 classes (ws1 u) H1 → va_D A0 (ws1 u) → va_S A0 s.heap H1 locs1 → W p l e R s m args below meth c H1 locs1 (cells + mc) (slots + ms) Q (F0 m (pc + 3) ls ((v u).toList ++ rest))) : W p l e R s m args below meth c H locs cells slots Q (F0 m pc ls st0) := by
  have hts1 : ∀ w ∈ (Cond.code y bytes maxL ret :: WG), w.before args s = true := fun w hw => (List.mem_cons.mp hw).elim (fun e => by rw [e]; exact hts _ hcode) (hts w)
  exact k_all rfl (va_runU (As := As) (rest := rest) (C := C) (owner := owner) ⟨hx, hb, hml, hown, hts1⟩ (hc H.size) (va_cwO n hts1 hT rfl rfl rfl (List.mem_cons_of_mem _ h0) hd hR) ⟨PK.blind, (by obtain ⟨cell, e1, e2, e3⟩ := va_recv hG.1 hP hcl he; exact ⟨cell, e1, e2, by rw [← hC]; exact e3⟩), (pk_all hG hZ hP hD hS hA)⟩ rfl hnn hsize hst (lv_room hW) hdg hf) hD hS hA kk
theorem kSU {As rest : List Value} (hc : CT l z y bytes maxL ret (.ref b :: As) ws fr lo mc ms v ws1) (hx : p.tables.exec = Jvm.exec) (hb : c.code = cc) (hml : c.maxLocals = nL) (hown : s.vm.findClass own = some m.cls) (hts : ∀ w ∈ WG, w.before args s = true) (hcode : Cond.code y bytes maxL ret ∈ WG) (hT : GoodIn (Cond.code y bytes maxL ret :: WG) (va_wsSU own index y (Cond.code y bytes maxL ret :: WG))) (hd : y.name ≠ "<init>" ∧ (parseMethodDescriptor y.desc).map (fun d => d.parameters.length) = some n) (hR : fr + 1 ≤ R.frames ∧ 8 + (maxL + 11) + lo ≤ R.locals) (hG : KG z s) (hZ : FZ z A0 s) (hP : va_P z.1 classes ws H) (hD : va_D A0 ws) (hS : va_S A0 s.heap H locs) (hA : ∀ q, s.heap.size ≤ q → A0 q) (q0 : Nat) (he : ws[q0]? = some (b, .inr (ci, fs))) (hcl : classes[ci]? = some q) (hC : q.1 = C) (hnn : As.length = n) (hsize : ls.size = nL) (hst : st0 = As.reverse ++ .ref b :: rest) (hW : (rest.map fun v => v.category).sum ≤ 8) (hdg : decode cc pc = .ok (.invokespecial index, 3)) (hf : cells + mc ≤ R.cells ∧ slots + ms ≤ R.slots) (kk : ∀ (u : Uu) (H1 : Heap) (locs1 : List Loc), va_P z.1 classes (ws1 u) H1 → va_D A0 (ws1 u) → va_S A0 s.heap H1 locs1 → W p l e R s m args below meth c H1 locs1 (cells + mc) (slots + ms) Q (F0 m (pc + 3) ls ((v u).toList ++ rest))) : W p l e R s m args below meth c H locs cells slots Q (F0 m pc ls st0) := by
  have hts1 : ∀ w ∈ (Cond.code y bytes maxL ret :: WG), w.before args s = true := fun w hw => (List.mem_cons.mp hw).elim (fun e => by rw [e]; exact hts _ hcode) (hts w)
  have hat : ClassAt s C (z.1.1 ci) := by rw [← hC]; exact (hG.1.1 ci _ hcl).2
  exact k_all rfl (va_runSU (As := As) (rest := rest) hat ⟨hx, hb, hml, hown, hts1⟩ (hc H.size) (va_cwSU n hts1 hT rfl rfl rfl hd hR) ⟨PK.blind, (by obtain ⟨cell, e1, e2, e3⟩ := va_recv hG.1 hP hcl he; exact ⟨cell, e1, e2, by rw [← hC]; exact e3⟩), (pk_all hG hZ hP hD hS hA)⟩ rfl hnn hsize hst (lv_room hW) hdg hf) hD hS hA kk
end KD
