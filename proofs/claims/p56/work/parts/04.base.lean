/-! THE BASE: what is known all along of the machine's tables, a contract, the memory as one list of cells by numbers -/
/-- the tables' words that stay when classes are linked -/
def WG : List Cond := lw_tbl.filter goodWord
theorem wg_t {w : Cond} (h : w ∈ tables_1) (g : goodWord w = true) : w ∈ WG := List.mem_filter.mpr ⟨List.mem_append_right _ h, g⟩
theorem wg_s {w : Cond} (h : w ∈ k2_sels lw_privs) (g : goodWord w = true) : w ∈ WG := List.mem_filter.mpr ⟨List.mem_append_left _ h, g⟩
theorem wg_good {x : Cond} (hx : x ∈ WG) : GoodIn WG (x :: WG) := fun w hw => (List.mem_cons.mp hw).elim (fun e => by rw [e]; exact ⟨hx, good_of_word (List.mem_filter.mp hx).2⟩) (fun h => ⟨h, good_of_word (List.mem_filter.mp h).2⟩)
/-- the words of nest mates and casts -/
def nwB : Cond → Bool
  | .fieldLinkNest .. => true
  | .methodLinkNest .. => true
  | .castable .. => true
  | .declares _ => true
  | _ => false
def NW (U : State) : Prop := ∀ w ∈ lw_tbl, nwB w = true → va_Nw w U
theorem NW.warm {s U : State} (hW : s.WarmedH U.vm) (h : NW s) : NW U := by
  intro w hw hb
  have h1 := h w hw hb
  cases w <;> first | (simp [nwB] at hb; done) | exact va_Nw.warmF hW h1 | exact va_Nw.warmM hW h1 | exact va_Nw.warmC hW h1 | exact va_Nw.warmD hW h1
/-- the array classes, by a number each -/
abbrev TY (d : Nat → ClassId) : List (ClassId × FieldType) := [(d 0, .int), (d 1, .long), (d 2, .byte), (d 3, .object "Ballothall$KeptSeats"), (d 4, .object "Ballothall$Count"), (d 5, .object "Ballothall$Natural"), (d 6, .array .int)]
def aols : List String := ["Ballothall$KeptSeats", "Ballothall$Count", "Ballothall$Natural"]
def strs : List (Nat × String) := [(157, ""), (159, ">")]
abbrev Zz : Type := va_G × (Nat → ClassId)
/-- private methods of the class above StringBuilder -/
def spr : List MethodName := [⟨"java/lang/AbstractStringBuilder", "ensureCapacityInternal", "(I)V"⟩, ⟨"java/lang/AbstractStringBuilder", "putStringAt", "(ILjava/lang/String;)V"⟩, ⟨"java/lang/AbstractStringBuilder", "inflateIfNeededFor", "(Ljava/lang/String;)V"⟩]
def SPR (U : State) : Prop := ∀ y ∈ spr, ∀ a : Array Value, (Cond.selects "java/lang/StringBuilder" y y).before a U = true
theorem SPR.warm {s U : State} (hW : s.WarmedH U.vm) (h : SPR s) : SPR U := fun y hy a => word_at hW (Or.inl (by first | rfl | simp [Cond.onTables, Cond.keeps, Cond.steady])) (h y hy a)
/-- what is known of the tables all along -/
def KG (z : Zz) (U : State) : Prop := va_K z.1 classes (TY z.2) U ∧ NW U ∧ (∀ C ∈ aols, va_AO C U) ∧ va_AOA .int U ∧ vk_R "BallothallLaw" 157 "" (z.2 100) U ∧ vk_R "BallothallLaw" 159 ">" (z.2 101) U ∧ SPR U
theorem KG.warm {z : Zz} {s U : State} (hW : s.WarmedH U.vm) (h : KG z s) : KG z U :=
  ⟨va_K.moved hW.alike h.1, NW.warm hW h.2.1, fun C hC => va_AO.moved hW.alike (h.2.2.1 C hC), va_AOA.moved hW.alike h.2.2.2.1, vk_R.warm hW h.2.2.2.2.1, vk_R.warm hW h.2.2.2.2.2.1, SPR.warm hW h.2.2.2.2.2.2⟩
theorem KG.same {z : Zz} {s U : State} (e : U.vm = s.vm) (h : KG z s) : KG z U := KG.warm (by rw [e]; exact State.WarmedH.refl s) h
/-- the static row of factorials -/
def facF : Nat → Int := fun k => ([1, 1, 2, 6, 24, 120, 720, 5040, 40320, 362880, 3628800, 39916800, 479001600] : List Int).getD k 0
/-- the two String constants -/
def cslen : List Nat := [0, 1]
def csby : List (List Int32) := [[], [62]]
def FZ (z : Zz) (A : Nat → Prop) (U : State) : Prop := (∃ a, va_Z "Ballothall" "FACTORIAL" "[J" (.ref a) A U U.heap ∧ va_T .long a 13 (fun j => .long (oJ (facF j))) A U U.heap) ∧ va_Z "java/lang/String" "COMPACT_STRINGS" "Z" (.int (oI 1)) A U U.heap ∧ vk_S 2 cslen csby (fun i => z.2 (100 + i)) (fun i => z.2 (110 + i)) A U U.heap ∧ ∃ v : Option Nat, va_Z "jdk/internal/util/Preconditions" "SIOOBE_FORMATTER" "Ljava/util/function/BiFunction;" (va_rf v) A U U.heap
theorem FZ.call {z : Zz} {A0 A1 : Nat → Prop} {s U : State} {H : Heap} {locs : List Loc} (h : FZ z A0 s) (hS : va_S A0 s.heap H locs) (hU : U.heap = H) (hvm : s.vm.Alike U.vm) (hAB : ∀ q, A1 q → A0 q) : FZ z A1 U := by
  subst hU
  obtain ⟨⟨a, h1, h2⟩, h5, h6, v, h7⟩ := h
  exact ⟨⟨a, va_Z.narrow (va_Z.moved hvm (va_Z.kept h1 hS.2.1)) hAB, va_T.narrow (va_T.moved hvm (va_T.kept h2 hS.2.1)) hAB⟩, va_Z.narrow (va_Z.moved hvm (va_Z.kept h5 hS.2.1)) hAB, vk_S.narrow (vk_S.moved hvm (vk_S.kept h6 hS.2.1)) hAB, v, va_Z.narrow (va_Z.moved hvm (va_Z.kept h7 hS.2.1)) hAB⟩
theorem FZ.same {z : Zz} {A : Nat → Prop} {s U : State} (hv : U.vm = s.vm) (hh : U.heap = s.heap) (h : FZ z A s) : FZ z A U := by
  have hvm : s.vm.Alike U.vm := by rw [hv]; exact Vm.Alike.refl s.vm
  obtain ⟨⟨a, h1, h2⟩, h5, h6, v, h7⟩ := h
  refine ⟨⟨a, ?_, ?_⟩, ?_, ?_, v, ?_⟩
  · rw [hh]; exact va_Z.moved hvm h1
  · rw [hh]; exact va_T.moved hvm h2
  · rw [hh]; exact va_Z.moved hvm h5
  · rw [hh]; exact vk_S.moved hvm h6
  · rw [hh]; exact va_Z.moved hvm h7
/-- what is new behind a method: addresses -/
abbrev Uu : Type := Nat → Nat
def PK (z : Zz) (as : List Value) (ws : va_W) (sz : Nat) : Array Value → State → Prop := va_Pc as (fun U => U.heap.size = sz ∧ va_P z.1 classes ws U.heap ∧ KG z U ∧ va_D (fun _ => True) ws ∧ FZ z (va_A ws sz) U)
theorem PK.blind {z : Zz} {as : List Value} {ws : va_W} {sz : Nat} : FrameBlind (PK z as ws sz) := fun a U g mk q => by
  obtain ⟨q0, q1, qP, qK, qD, qZ⟩ := q
  exact ⟨q0, q1, qP, KG.same (s := U) (U := U.calling g mk a) rfl qK, qD, FZ.same (s := U) (U := U.calling g mk a) rfl rfl qZ⟩
def QK (z : Zz) (A : Nat → Prop) (v : Uu → Option Value) (ws1 : Uu → va_W) : Array Value → State → Outcome → State → Prop := fun _ st oc t =>
  (∃ u : Uu, oc = .returned (v u) ∧ va_P z.1 classes (ws1 u) t.heap ∧ va_D A (ws1 u)) ∧ va_F A st t
abbrev rmK (fr lo mc ms : Nat) : Room := { frames := fr, cells := mc, slots := ms, locals := lo }
/-- a method that returns -/
def CT (l : Launch) (z : Zz) (y : MethodName) (cc : ByteArray) (maxL : Nat) (ret : Option FieldType) (as : List Value) (ws : va_W) (fr lo mc ms : Nat) (v : Uu → Option Value) (ws1 : Uu → va_W) : Prop :=
  ∀ sz : Nat, Met l y (Cond.code y cc maxL ret :: WG) (rmK fr lo mc ms) (PK z as ws sz) (QK z (va_A ws sz) v ws1) mc ms (va_A ws sz)
section BODY
variable {l : Launch} {z : Zz} {y : MethodName} {cc : ByteArray} {maxL : Nat} {ret : Option FieldType} {as : List Value} {ws : va_W} {fr lo mc ms : Nat} {v : Uu → Option Value} {ws1 : Uu → va_W} {own : String}
theorem CT.of (hy : plainName y.cls = true) (hn : (lg_sl as).length ≤ maxL) (ho : y.cls = own)
    (body : ∀ (p : Program) (e : Env) (s : State) (m : MethodId) (below : List Frame) (meth : Method) (c : Code) (A : Nat → Prop) (ls : Array Slot), p.tables.exec = Jvm.exec → c.code = cc → c.maxLocals = maxL → meth.sig.returnType = ret → (∀ w ∈ WG, w.before as.toArray s = true) → s.vm.findClass own = some m.cls → meth.locks = false → meth.name = y.name → (∀ q, s.heap.size ≤ q → A q) → KG z s → FZ z A s → va_P z.1 classes ws s.heap → va_D A ws → va_S A s.heap s.heap [] → lv_has ls maxL (lv_args 0 as) →
      W p l e (rmK fr lo mc ms) s m as.toArray below meth c s.heap [] 0 0 (MQ below (QK z A v ws1) as.toArray s mc ms A) (F0 m 0 ls [])) : CT l z y cc maxL ret as ws fr lo mc ms v ws1 := by
  intro sz
  refine Met.ofW (cc := cc) (maxL := maxL) (ret := ret) hy rfl ?_
  intro p e s m args below meth c s₁ B hml hv
  obtain ⟨rfl, hsz, hP, hG, hD0, hZ⟩ := hv
  have hts := atoms_spec (ws := Cond.code y cc maxL ret :: WG) B.pre
  have hown := findClass_of_methodNamed B.named
  rw [ho] at hown
  subst hsz
  rw [lg_entry_eq]
  exact body p e s m below meth c _ _ B.exec B.bytes hml B.returns (fun w hw => hts w (List.mem_cons_of_mem _ hw)) hown B.notSynchronized (name_of_methodNamed B.named B.method).1 (fun q h => Or.inr h) hG hZ hP (hD0.self (sz := s.heap.size)) va_S.rf (lv_entry as hn)
end BODY
/-! THE MEMORY: number n of cells, what each is (T), its references by numbers (R); M: its ints and longs -/
abbrev Dd : Type := Nat × Nat
abbrev Mm : Type := Nat → Nat → Int
/-- the fields that are references -/
def refO (ci k : Nat) : Bool := match ci with
  | 0 => k == 0 || k == 4 || k == 5 || k == 6 || k == 7 || k == 8 || k == 9
  | 1 => k == 2 || k == 3
  | 2 => k == 6 || k == 7 || k == 8 || k == 9
  | 3 => k == 0 || k == 1 || k == 4 || k == 5 || k == 6 || k == 7 || k == 8 || k == 9 || k == 10 || k == 11 || k == 12 || k == 13 || k == 14
  | 4 => k == 2 || k == 3 || k == 4 || k == 5 || k == 6 || k == 7
  | 5 => k == 0 || k == 1 || k == 2
  | 6 => k == 3 || k == 4 || k == 5 || k == 6
  | 7 => k == 1 || k == 2 || k == 3 || k == 4 || k == 5 || k == 7 || k == 8 || k == 9
  | 8 => k == 0
  | 9 => k == 0 || k == 3 || k == 4 || k == 5 || k == 6 || k == 7 || k == 8 || k == 9 || k == 10 || k == 11
  | 10 => k == 1 || k == 2 || k == 3 || k == 4
  | 11 => k == 0 || k == 1 || k == 2 || k == 3 || k == 4 || k == 5 || k == 6 || k == 7 || k == 8 || k == 9 || k == 12
  | 12 => k == 1 || k == 2
  | 13 => k == 0
  | 14 => k == 0
  | _ => false
def nfO (ci : Nat) : Nat := match ci with
  | 0 => 10
  | 1 => 4
  | 2 => 10
  | 3 => 15
  | 4 => 8
  | 5 => 3
  | 6 => 7
  | 7 => 11
  | 8 => 2
  | 9 => 12
  | 10 => 5
  | 11 => 14
  | 12 => 4
  | 13 => 4
  | 14 => 4
  | _ => 0
/-- places that may hold references -/
def szR (d : Dd) : Nat := bif Nat.blt d.1 3 then 0 else bif Nat.blt d.1 100 then d.2 else nfO (d.1 - 100)
abbrev E3 : Type := Nat × (Nat → Dd) × (Nat → Nat → Option Nat)
/-- references are of cells that are there -/
def CL (e : E3) : Prop := ∀ i, i < e.1 → ∀ k, k < szR (e.2.1 i) → ∀ j, e.2.2 i k = some j → j < e.1
abbrev Ev : Type := { e : E3 // CL e }
def nE (E : Ev) : Nat := E.1.1
def tE (E : Ev) : Nat → Dd := E.1.2.1
def rE (E : Ev) : Nat → Nat → Option Nat := E.1.2.2
def fvO (ad : Nat → Nat) (ci : Nat) (r : Nat → Option Nat) (f : Nat → Int) (k : Nat) : Value := bif refO ci k then (match r k with | none => Value.null | some i => .ref (ad i)) else .int (oI (f k))
def fsO (ad : Nat → Nat) (ci : Nat) (r : Nat → Option Nat) (f : Nat → Int) : List Value := (List.range (nfO ci)).map (fvO ad ci r f)
/-- what an array of references holds: nothing behind its end -/
def rfA (ad : Nat → Nat) (n : Nat) (r : Nat → Option Nat) : Nat → Option Nat := fun k => bif Nat.blt k n then (r k).map ad else none
theorem rfA_in {ad : Nat → Nat} {n k : Nat} {r : Nat → Option Nat} (h : k < n) : rfA ad n r k = (r k).map ad := by
  unfold rfA
  rw [Nat.blt_eq.mpr h]
  rfl
def dE (z : Zz) (ad : Nat → Nat) (d : Dd) (r : Nat → Option Nat) (f : Nat → Int) : va_E :=
  bif d.1 == 0 || d.1 == 2 then .inl (z.2 d.1, d.2, .inl (iA f)) else bif d.1 == 1 then .inl (z.2 1, d.2, .inr (.inl (jA f))) else bif Nat.blt d.1 100 then .inl (z.2 d.1, d.2, .inr (.inr (.inr (.inr (rfA ad d.2 r))))) else .inr (d.1 - 100, fsO ad (d.1 - 100) r f)
def wv (z : Zz) (ad : Nat → Nat) (E : Ev) (M : Mm) : va_W := (List.range (nE E)).map (fun i => (ad i, dE z ad (tE E i) (rE E i) (M i)))
/-- one place written -/
def u2 (M : Mm) (i k : Nat) (x : Int) : Mm := va_up M i (va_up (M i) k x)
def uA (M : Mm) (i : Nat) (f : Nat → Int) : Mm := va_up M i f
theorem wv_get {z : Zz} {ad : Nat → Nat} {E : Ev} {M : Mm} {i : Nat} (h : i < nE E) : (wv z ad E M)[i]? = some (ad i, dE z ad (tE E i) (rE E i) (M i)) := by
  simp [wv, h]
theorem wv_len {z : Zz} {ad : Nat → Nat} {E : Ev} {M : Mm} : (wv z ad E M).length = nE E := by simp [wv]
theorem wv_set {z : Zz} {ad : Nat → Nat} {E : Ev} {M : Mm} {i : Nat} (f : Nat → Int) (h : i < nE E) : (wv z ad E M).set i (ad i, dE z ad (tE E i) (rE E i) f) = wv z ad E (uA M i f) := by
  apply List.ext_getElem?
  intro j
  rw [List.getElem?_set]
  by_cases hj : j < nE E
  · rw [wv_get hj, wv_get hj]
    by_cases e : i = j
    · subst e
      rw [if_pos rfl, if_pos (by rw [wv_len]; exact h)]
      simp [uA, va_up_self]
    · rw [if_neg e]
      simp [uA, va_up_ne _ _ (Ne.symm e)]
  · have h1 : (wv z ad E M)[j]? = none := List.getElem?_eq_none (by rw [wv_len]; omega)
    have h2 : (wv z ad E (uA M i f))[j]? = none := List.getElem?_eq_none (by rw [wv_len]; omega)
    rw [h1, h2, if_neg (by omega)]
section DE
variable {z : Zz} {ad : Nat → Nat} {d : Dd} {r : Nat → Option Nat} {f : Nat → Int}
theorem dE_i {n : Nat} (h : d = (0, n)) : dE z ad d r f = .inl (z.2 0, n, .inl (iA f)) := by subst h; rfl
theorem dE_b {n : Nat} (h : d = (2, n)) : dE z ad d r f = .inl (z.2 2, n, .inl (iA f)) := by subst h; rfl
theorem dE_l {n : Nat} (h : d = (1, n)) : dE z ad d r f = .inl (z.2 1, n, .inr (.inl (jA f))) := by subst h; rfl
theorem dE_q {t n : Nat} (h : d = (t, n)) (h3 : (Nat.ble 3 t && Nat.blt t 100) = true) : dE z ad d r f = .inl (z.2 t, n, .inr (.inr (.inr (.inr (rfA ad n r))))) := by
  subst h
  simp only [Bool.and_eq_true, Nat.ble_eq, Nat.blt_eq] at h3
  have e0 : (t == 0) = false := by simpa using (by omega : t ≠ 0)
  have e2 : (t == 2) = false := by simpa using (by omega : t ≠ 2)
  have e1 : (t == 1) = false := by simpa using (by omega : t ≠ 1)
  have e3 : Nat.blt t 100 = true := by simpa using h3.2
  simp [dE, e0, e1, e2, e3]
theorem dE_o {ci : Nat} (h : d = (100 + ci, 0)) : dE z ad d r f = .inr (ci, fsO ad ci r f) := by
  subst h
  have e0 : (100 + ci == 0) = false := by simpa using (by omega : 100 + ci ≠ 0)
  have e2 : (100 + ci == 2) = false := by simpa using (by omega : 100 + ci ≠ 2)
  have e1 : (100 + ci == 1) = false := by simpa using (by omega : 100 + ci ≠ 1)
  have e3 : Nat.blt (100 + ci) 100 = false := by
    cases hb : Nat.blt (100 + ci) 100 with
    | false => rfl
    | true => rw [Nat.blt_eq] at hb; omega
  have e4 : 100 + ci - 100 = ci := by omega
  simp [dE, e0, e1, e2, e3, e4]
end DE
section FS
variable {ad : Nat → Nat} {ci k : Nat} {r : Nat → Option Nat} {f : Nat → Int}
theorem fs_i (hn : Nat.blt k (nfO ci) = true) (hr : refO ci k = false) : (fsO ad ci r f)[k]? = some (.int (oI (f k))) := by
  rw [Nat.blt_eq] at hn
  simp [fsO, hn, fvO, hr]
theorem fs_r {j : Nat} (hn : Nat.blt k (nfO ci) = true) (hr : refO ci k = true) (hj : r k = some j) : (fsO ad ci r f)[k]? = some (.ref (ad j)) := by
  rw [Nat.blt_eq] at hn
  simp [fsO, hn, fvO, hr, hj]
theorem fs_n (hn : Nat.blt k (nfO ci) = true) (hr : refO ci k = true) (hj : r k = none) : (fsO ad ci r f)[k]? = some .null := by
  rw [Nat.blt_eq] at hn
  simp [fsO, hn, fvO, hr, hj]
theorem fs_len : (fsO ad ci r f).length = nfO ci := by simp [fsO]
theorem fs_set {x : Int} (hn : Nat.blt k (nfO ci) = true) (hr : refO ci k = false) : (fsO ad ci r f).set k (.int (oI x)) = fsO ad ci r (va_up f k x) := by
  rw [Nat.blt_eq] at hn
  apply List.ext_getElem?
  intro j
  rw [List.getElem?_set]
  by_cases hj : j < nfO ci
  · by_cases e : k = j
    · subst e
      rw [if_pos rfl, if_pos (by rw [fs_len]; exact hn)]
      simp [fsO, hn, fvO, hr, va_up_self]
    · rw [if_neg e]
      have e2 : va_up f k x j = f j := va_up_ne _ _ (Ne.symm e)
      simp [fsO, hj, fvO, e2]
  · have h1 : (fsO ad ci r f)[j]? = none := List.getElem?_eq_none (by rw [fs_len]; omega)
    have h2 : (fsO ad ci r (va_up f k x))[j]? = none := List.getElem?_eq_none (by rw [fs_len]; omega)
    rw [h1, h2, if_neg (by omega)]
theorem fs_setR {j : Nat} (hn : Nat.blt k (nfO ci) = true) (hr : refO ci k = true) : (fsO ad ci r f).set k (.ref (ad j)) = fsO ad ci (va_up r k (some j)) f := by
  rw [Nat.blt_eq] at hn
  apply List.ext_getElem?
  intro i
  rw [List.getElem?_set]
  by_cases hi : i < nfO ci
  · by_cases e : k = i
    · subst e
      rw [if_pos rfl, if_pos (by rw [fs_len]; exact hn)]
      simp [fsO, hn, fvO, hr, va_up_self]
    · rw [if_neg e]
      have e2 : va_up r k (some j) i = r i := va_up_ne _ _ (Ne.symm e)
      simp [fsO, hi, fvO, e2]
  · have h1 : (fsO ad ci r f)[i]? = none := List.getElem?_eq_none (by rw [fs_len]; omega)
    have h2 : (fsO ad ci (va_up r k (some j)) f)[i]? = none := List.getElem?_eq_none (by rw [fs_len]; omega)
    rw [h1, h2, if_neg (by omega)]
end FS
theorem ob_cl {ci : Nat} {q : vw_C} (h : classes[ci]? = some q) : ci < 15 := by
  rcases Nat.lt_or_ge ci 15 with g | g
  · exact g
  · rw [List.getElem?_eq_none (by exact g)] at h; cases h
