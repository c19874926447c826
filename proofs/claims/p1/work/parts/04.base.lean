/-! THE BASE: what is known all along of the machine's tables, the two forms of a contract, and a row for each kind of call -/
/-- the tables' words that stay when classes are linked -/
def WG : List Cond := lw_tbl.filter goodWord
theorem wg_t {w : Cond} (h : w ∈ tables_1) (g : goodWord w = true) : w ∈ WG := List.mem_filter.mpr ⟨List.mem_append_right _ h, g⟩
theorem wg_s {w : Cond} (h : w ∈ k2_sels lw_privs) (g : goodWord w = true) : w ∈ WG := List.mem_filter.mpr ⟨List.mem_append_left _ h, g⟩
theorem wg_good {x : Cond} (hx : x ∈ WG) : GoodIn WG (x :: WG) := fun w hw => (List.mem_cons.mp hw).elim (fun e => by rw [e]; exact ⟨hx, good_of_word (List.mem_filter.mp hx).2⟩) (fun h => ⟨h, good_of_word (List.mem_filter.mp h).2⟩)
/-- the words of nest mates and casts -/
def nwB : Cond → Bool
  | .fieldLinkNest .. => true
  | .methodLinkNest .. => true
  | .castable .. => true
  | .declares _ => true
  | _ => false
def NW (U : State) : Prop := ∀ w ∈ lw_tbl, nwB w = true → va_Nw w U
theorem NW.warm {s U : State} (hW : s.WarmedH U.vm) (h : NW s) : NW U := by
  intro w hw hb
  have h1 := h w hw hb
  cases w <;> first | (simp [nwB] at hb; done) | exact va_Nw.warmF hW h1 | exact va_Nw.warmM hW h1 | exact va_Nw.warmC hW h1 | exact va_Nw.warmD hW h1
/-- the array classes, by a number each -/
abbrev TY (d : Nat → ClassId) : List (ClassId × FieldType) := [(d 0, .int), (d 1, .long), (d 2, .double), (d 3, .object "Ballothall$KeptSeats"), (d 4, .object "Ballothall$Count"), (d 5, .object "Ballothall$Natural"), (d 6, .object "BallothallModel$State"), (d 7, .object "BallothallModel$Kind"), (d 8, .array .int)]
def strs : List (Nat × String) := [(183, "there are no candidates"), (204, "nobody was elected in this place"), (213, "nobody was excluded in this place"), (218, "the count had no such moment"), (253, "there was no count"), (308, "this way does not count once"), (393, "there is none with this number"), (396, "out of range"), (398, "there is no room for it"), (400, "there is nothing in this place"), (402, "there are too many candidates")]
def aols : List String := ["Ballothall$KeptSeats", "Ballothall$Count", "Ballothall$Natural", "BallothallModel$State", "BallothallModel$Kind"]
def eIS : String := "java/lang/IllegalStateException"
def eIA : String := "java/lang/IllegalArgumentException"
def eIO : String := "java/lang/IndexOutOfBoundsException"
def eNS : String := "java/util/NoSuchElementException"
def ncl : List (String × String) := [("java/lang/IllegalArgumentException", "java/lang/IndexOutOfBoundsException"), ("java/lang/IllegalStateException", "java/lang/IllegalArgumentException"), ("java/util/NoSuchElementException", "java/lang/IndexOutOfBoundsException"), ("java/util/NoSuchElementException", "java/lang/IllegalArgumentException"), ("java/util/NoSuchElementException", "java/lang/IllegalStateException")]
abbrev Zz : Type := va_G × (Nat → ClassId)
/-- what is known of the tables all along -/
def KG (z : Zz) (U : State) : Prop := va_K z.1 classes (TY z.2) U ∧ NW U ∧ (∀ C ∈ aols, va_AO C U) ∧ va_AOA .int U ∧ (∀ q ∈ strs, ∃ a, vk_R "Ballothall" q.1 q.2 a U) ∧ (∀ q ∈ ncl, va_Nc q.1 q.2 U)
theorem KG.warm {z : Zz} {s U : State} (hW : s.WarmedH U.vm) (h : KG z s) : KG z U :=
  ⟨va_K.moved hW.alike h.1, NW.warm hW h.2.1, fun C hC => va_AO.moved hW.alike (h.2.2.1 C hC), va_AOA.moved hW.alike h.2.2.2.1, fun q hq => (h.2.2.2.2.1 q hq).elim fun a ha => ⟨a, vk_R.warm hW ha⟩, fun q hq => va_Nc.moved hW.alike (h.2.2.2.2.2 q hq)⟩
theorem KG.same {z : Zz} {s U : State} (e : U.vm = s.vm) (h : KG z s) : KG z U := KG.warm (by rw [e]; exact State.WarmedH.refl s) h
/-- the two statics that a new Throwable reads -/
def XZ (A : Nat → Prop) (U : State) : Prop := vx_Zq Bundle.tN "UNASSIGNED_STACK" Bundle.steD A U U.heap ∧ vx_Zq Bundle.tN "SUPPRESSED_SENTINEL" Bundle.listD A U U.heap
theorem XZ.call {A0 A1 : Nat → Prop} {s U : State} {H : Heap} {locs : List Loc} (h : XZ A0 s) (hS : va_S A0 s.heap H locs) (hU : U.heap = H) (hvm : s.vm.Alike U.vm) (hAB : ∀ q, A1 q → A0 q) : XZ A1 U := by
  subst hU
  exact ⟨vx_Zq.narrow (vx_Zq.moved hvm (vx_Zq.kept h.1 hS.2.1)) hAB, vx_Zq.narrow (vx_Zq.moved hvm (vx_Zq.kept h.2 hS.2.1)) hAB⟩
theorem XZ.same {A : Nat → Prop} {s U : State} (hv : U.vm = s.vm) (hh : U.heap = s.heap) (h : XZ A s) : XZ A U := by
  have hvm : s.vm.Alike U.vm := by rw [hv]; exact Vm.Alike.refl s.vm
  refine ⟨?_, ?_⟩
  · rw [hh]; exact vx_Zq.moved hvm h.1
  · rw [hh]; exact vx_Zq.moved hvm h.2
/-- what is new behind a method: addresses, and what arrays of references hold -/
abbrev Uu : Type := (Nat → Nat) × (Nat → Nat → Option Nat)
/-- a contract's start: its answers as, its world ws -/
def PK (z : Zz) (as : List Value) (ws : va_W) (sz : Nat) : Array Value → State → Prop := va_Pc as (fun U => U.heap.size = sz ∧ va_P z.1 classes ws U.heap ∧ KG z U ∧ va_D (fun _ => True) ws ∧ XZ (va_A ws sz) U)
theorem PK.blind {z : Zz} {as : List Value} {ws : va_W} {sz : Nat} : FrameBlind (PK z as ws sz) := fun a U g mk q => by
  obtain ⟨q0, q1, qP, qK, qD, qZ⟩ := q
  exact ⟨q0, q1, qP, KG.same (s := U) (U := U.calling g mk a) rfl qK, qD, XZ.same (s := U) (U := U.calling g mk a) rfl rfl qZ⟩
/-- .. and its end: the answer v, the world ws1, both by the addresses of what is new -/
def QK (z : Zz) (A : Nat → Prop) (v : Uu → Option Value) (ws1 : Uu → va_W) : Array Value → State → Outcome → State → Prop := fun _ st oc t =>
  (∃ u : Uu, oc = .returned (v u) ∧ va_P z.1 classes (ws1 u) t.heap ∧ va_D A (ws1 u)) ∧ va_F A st t
abbrev rmK (fr lo mc ms : Nat) : Room := { frames := fr, cells := mc, slots := ms, locals := lo }
/-- a method that returns -/
def CT (l : Launch) (z : Zz) (y : MethodName) (cc : ByteArray) (maxL : Nat) (ret : Option FieldType) (as : List Value) (ws : va_W) (fr lo mc ms : Nat) (v : Uu → Option Value) (ws1 : Uu → va_W) : Prop :=
  ∀ sz : Nat, Met l y (Cond.code y cc maxL ret :: WG) (rmK fr lo mc ms) (PK z as ws sz) (QK z (va_A ws sz) v ws1) mc ms (va_A ws sz)
/-- a method that throws an E -/
def XT (l : Launch) (z : Zz) (y : MethodName) (cc : ByteArray) (maxL : Nat) (ret : Option FieldType) (as : List Value) (ws : va_W) (fr lo mc ms : Nat) (E : String) : Prop :=
  ∀ sz : Nat, vx_Met l y (Cond.code y cc maxL ret :: WG) (rmK fr lo mc ms) (PK z as ws sz) (fun _ _ _ _ => False) (fun E1 st t => E1 = E ∧ va_F (va_A ws sz) st t) mc ms (va_A ws sz)
/-- a method with handlers that returns -/
def HT (l : Launch) (z : Zz) (y : MethodName) (cc : ByteArray) (maxL : Nat) (ret : Option FieldType) (hh : List (Nat × Nat × Nat × Nat)) (as : List Value) (ws : va_W) (fr lo mc ms : Nat) (v : Uu → Option Value) (ws1 : Uu → va_W) : Prop :=
  ∀ sz : Nat, vx_Met l y (Cond.codeWith y cc maxL ret hh :: WG) (rmK fr lo mc ms) (PK z as ws sz) (QK z (va_A ws sz) v ws1) (fun _ _ _ => False) mc ms (va_A ws sz)
section BODY
variable {l : Launch} {z : Zz} {y : MethodName} {cc : ByteArray} {maxL : Nat} {ret : Option FieldType} {as : List Value} {ws : va_W} {fr lo mc ms : Nat} {v : Uu → Option Value} {ws1 : Uu → va_W} {own : String}
theorem CT.of (hy : plainName y.cls = true) (hn : (lg_sl as).length ≤ maxL) (ho : y.cls = own)
    (body : ∀ (p : Program) (e : Env) (s : State) (m : MethodId) (below : List Frame) (meth : Method) (c : Code) (A : Nat → Prop) (ls : Array Slot), p.tables.exec = Jvm.exec → c.code = cc → c.maxLocals = maxL → meth.sig.returnType = ret → (∀ w ∈ WG, w.before as.toArray s = true) → s.vm.findClass own = some m.cls → meth.locks = false → meth.name = y.name → (∀ q, s.heap.size ≤ q → A q) → KG z s → XZ A s → va_P z.1 classes ws s.heap → va_D A ws → va_S A s.heap s.heap [] → lv_has ls maxL (lv_args 0 as) →
      W p l e (rmK fr lo mc ms) s m as.toArray below meth c s.heap [] 0 0 (MQ below (QK z A v ws1) as.toArray s mc ms A) (F0 m 0 ls [])) : CT l z y cc maxL ret as ws fr lo mc ms v ws1 := by
  intro sz
  refine Met.ofW (cc := cc) (maxL := maxL) (ret := ret) hy rfl ?_
  intro p e s m args below meth c s₁ B hml hv
  obtain ⟨rfl, hsz, hP, hG, hD0, hZ⟩ := hv
  have hts := atoms_spec (ws := Cond.code y cc maxL ret :: WG) B.pre
  have hown := findClass_of_methodNamed B.named
  rw [ho] at hown
  subst hsz
  rw [lg_entry_eq]
  exact body p e s m below meth c _ _ B.exec B.bytes hml B.returns (fun w hw => hts w (List.mem_cons_of_mem _ hw)) hown B.notSynchronized (name_of_methodNamed B.named B.method).1 (fun q h => Or.inr h) hG hZ hP (hD0.self (sz := s.heap.size)) va_S.rf (lv_entry as hn)
theorem XT.of {E : String} (hy : plainName y.cls = true) (hn : (lg_sl as).length ≤ maxL) (ho : y.cls = own)
    (body : ∀ (p : Program) (e : Env) (s : State) (m : MethodId) (below : List Frame) (meth : Method) (c : Code) (A : Nat → Prop) (ls : Array Slot), p.tables.exec = Jvm.exec → c.code = cc → c.maxLocals = maxL → meth.sig.returnType = ret → (∀ w ∈ WG, w.before as.toArray s = true) → s.vm.findClass own = some m.cls → meth.locks = false → meth.name = y.name → (∀ q, s.heap.size ≤ q → A q) → KG z s → XZ A s → va_P z.1 classes ws s.heap → va_D A ws → va_S A s.heap s.heap [] → lv_has ls maxL (lv_args 0 as) → (∀ x ∈ c.exceptionTable.toList, False) →
      W p l e (rmK fr lo mc ms) s m as.toArray below meth c s.heap [] 0 0 (vx_MQ below (fun _ _ _ _ => False) (fun E1 st t => E1 = E ∧ va_F A st t) as.toArray s mc ms A) (F0 m 0 ls [])) : XT l z y cc maxL ret as ws fr lo mc ms E := by
  intro sz
  refine vx_ofW (cc := cc) (maxL := maxL) (ret := ret) hy rfl ?_
  intro p e s m args below meth c s₁ B hml hnt hv
  obtain ⟨rfl, hsz, hP, hG, hD0, hZ⟩ := hv
  have hts := atoms_spec (ws := Cond.code y cc maxL ret :: WG) B.pre
  have hown := findClass_of_methodNamed B.named
  rw [ho] at hown
  subst hsz
  rw [lg_entry_eq]
  exact body p e s m below meth c _ _ B.exec B.bytes hml B.returns (fun w hw => hts w (List.mem_cons_of_mem _ hw)) hown B.notSynchronized (name_of_methodNamed B.named B.method).1 (fun q h => Or.inr h) hG hZ hP (hD0.self (sz := s.heap.size)) va_S.rf (lv_entry as hn) hnt
theorem HT.of {hh : List (Nat × Nat × Nat × Nat)} (hy : plainName y.cls = true) (hn : (lg_sl as).length ≤ maxL) (ho : y.cls = own)
    (body : ∀ (p : Program) (e : Env) (s : State) (m : MethodId) (below : List Frame) (meth : Method) (c : Code) (A : Nat → Prop) (ls : Array Slot), p.tables.exec = Jvm.exec → c.code = cc → c.maxLocals = maxL → meth.sig.returnType = ret → (∀ w ∈ WG, w.before as.toArray s = true) → s.vm.findClass own = some m.cls → meth.locks = false → meth.name = y.name → (∀ q, s.heap.size ≤ q → A q) → KG z s → XZ A s → va_P z.1 classes ws s.heap → va_D A ws → va_S A s.heap s.heap [] → lv_has ls maxL (lv_args 0 as) → c.exceptionTable.toList = tableOf hh →
      W p l e (rmK fr lo mc ms) s m as.toArray below meth c s.heap [] 0 0 (vx_MQ below (QK z A v ws1) (fun _ _ _ => False) as.toArray s mc ms A) (F0 m 0 ls [])) : HT l z y cc maxL ret hh as ws fr lo mc ms v ws1 := by
  intro sz
  refine vx_ofWH (cc := cc) (maxL := maxL) (ret := ret) (hh := hh) hy rfl ?_
  intro p e s m args below meth c s₁ B hml hv
  obtain ⟨rfl, hsz, hP, hG, hD0, hZ⟩ := hv
  have hts := atoms_spec (ws := Cond.codeWith y cc maxL ret hh :: WG) B.pre
  have hown := findClass_of_methodNamed B.named
  rw [ho] at hown
  subst hsz
  rw [lg_entry_eq]
  exact body p e s m below meth c _ _ B.exec B.bytes hml B.returns (fun w hw => hts w (List.mem_cons_of_mem _ hw)) hown B.notSynchronized (name_of_methodNamed B.named B.method).1 (fun q h => Or.inr h) hG hZ hP (hD0.self (sz := s.heap.size)) va_S.rf (lv_entry as hn) (vx_table (x := y) B (hts _ List.mem_cons_self))
end BODY
section CALLS
variable {p : Program} {l : Launch} {e : Env} {R : Room} {s : State} {m : MethodId} {args : Array Value} {below : List Frame} {meth : Method} {c : Code} {H : Heap} {locs : List Loc} {cells slots : Nat} {Q : State → Prop}
variable {cc : ByteArray} {pc : Nat} {ls : Array Slot} {st0 rest : List Value} {A0 : Nat → Prop} {z : Zz} {ws wc wr : va_W} {mc ms : Nat} {v : Uu → Option Value} {ws1 : Uu → va_W} {a : Array Value}
theorem qk {ws' : va_W} {t : State} {r : Option Value} (hP : va_P z.1 classes ws' H) (hD : va_D A0 ws') (hS : va_S A0 s.heap H locs) (is : List Nat) (hn : va_nd is = true) (u : Uu) (h1 : is.filterMap (fun i => ws'[i]?) = ws1 u) (h2 : is.map (fun i => ws'[i]?) = (ws1 u).map some) (hv : r = v u) (ht : t.heap = H) : QK z A0 v ws1 a s (.returned r) t :=
  ⟨⟨u, by rw [hv], by rw [ht]; exact hP.sub is h1, hD.sub is hn h2⟩, hS.F ht⟩
/-- the callee's start, out of the caller's world -/
theorem pk_of {As : List Value} (hG : KG z s) (hZ : XZ A0 s) (hP : va_P z.1 classes ws H) (hD : va_D A0 ws) (hS : va_S A0 s.heap H locs) (hA : ∀ q, s.heap.size ≤ q → A0 q) (isC : List Nat) (hn : va_nd isC = true) (hC : isC.map (fun i => ws[i]?) = wc.map some) (hC2 : isC.filterMap (fun i => ws[i]?) = wc) : ∀ U : State, U.heap = H → s.WarmedH U.vm → PK z As wc H.size As.toArray U := by
  intro U hU hW
  have hF := va_free hD hS hA isC hC
  refine ⟨rfl, by rw [hU], by rw [hU]; exact hP.sub isC hC2, KG.warm hW hG, (hD.sub isC hn hC).weaken (fun _ _ _ _ => trivial), ?_⟩
  exact hZ.call hS hU hW.alike hF
theorem k_ret {A1 : Nat → Prop} (hA1 : A1 = va_A wc H.size) (hr : va_Run p l e R s m args below meth c H locs cells slots mc ms (F0 m pc ls st0) rest (QK z A1 v ws1 a) A1) (hP : va_P z.1 classes ws H) (hD : va_D A0 ws) (hS : va_S A0 s.heap H locs) (hA : ∀ q, s.heap.size ≤ q → A0 q) (isC isR : List Nat) (hC : isC.map (fun i => ws[i]?) = wc.map some) (hR : isR.map (fun i => ws[i]?) = wr.map some) (hn : va_nd isR = true) (hdis : ∀ i ∈ isR, i ∉ isC)
    (kk : ∀ (u : Uu) (H1 : Heap) (locs1 : List Loc), va_P z.1 classes (wr ++ ws1 u) H1 → va_D A0 (wr ++ ws1 u) → va_S A0 s.heap H1 locs1 → W p l e R s m args below meth c H1 locs1 (cells + mc) (slots + ms) Q (F0 m (pc + 3) ls ((v u).toList ++ rest))) : W p l e R s m args below meth c H locs cells slots Q (F0 m pc ls st0) := by
  subst hA1
  intro T hT X
  obtain ⟨v0, st₀, t, T', L, h0, X', hL, e1, e2, ⟨⟨u, hv, hPt, hDt⟩, hF⟩, st⟩ := hr T hT X
  cases hv
  have hFc := va_free hD hS hA isC hC
  obtain ⟨k1, k2, k3⟩ := vx_keep h0 e1 hS (fun q _ h => hFc q h) hFc hL hF
  obtain ⟨hP2, hD2⟩ := va_join hP hD isC isR hC hR hn hdis k2 hFc (by rw [e1]; exact hPt) hDt
  obtain ⟨t2, a1, b1⟩ := kk u T'.heap (locs ++ L) hP2 hD2 k3 T' rfl X'
  exact ⟨t2, st _ a1, b1⟩
/-- a call that throws: on with the thrown thing -/
theorem k_thr {A1 : Nat → Prop} {E : String} (hA1 : A1 = va_A wc H.size) (hr : vx_Run p l e R s m args below meth c H locs cells slots mc ms (F0 m pc ls st0) rest (fun _ _ _ => False) (fun E1 st t => E1 = E ∧ va_F A1 st t) A1) (hP : va_P z.1 classes ws H) (hD : va_D A0 ws) (hS : va_S A0 s.heap H locs) (hA : ∀ q, s.heap.size ≤ q → A0 q) (isC isR : List Nat) (hC : isC.map (fun i => ws[i]?) = wc.map some) (hR : isR.map (fun i => ws[i]?) = wr.map some) (hn : va_nd isR = true) (hdis : ∀ i ∈ isR, i ∉ isC)
    (kk : ∀ (q : Nat) (ce : Cell) (H1 : Heap) (locs1 : List Loc), va_P z.1 classes wr H1 → va_D A0 wr → va_S A0 s.heap H1 locs1 → H1[q]? = some ce → ce.vm = .none → s.vm.findClass E = some ce.cls → vx_W p l e R s m args below meth c H1 locs1 (cells + mc) (slots + ms) Q (F0 m pc ls rest) q) : W p l e R s m args below meth c H locs cells slots Q (F0 m pc ls st0) := by
  subst hA1
  intro T hT X
  have hFc := va_free hD hS hA isC hC
  rcases hr T hT X with ⟨v0, st₀, t, T', L, h0, X', hL, e1, e2, hf, st⟩ | ⟨q, st₀, t, T', L, E1, ce, h0, X', hL, e1, e2, ⟨rfl, hF⟩, hce, hcv, hcl, st⟩
  · exact hf.elim
  · obtain ⟨k1, k2, k3⟩ := vx_keep h0 e1 hS (fun q _ h => hFc q h) hFc hL hF
    obtain ⟨hP2, hD2⟩ := va_join (w1 := []) hP hD isC isR hC hR hn hdis k2 hFc (fun k x h => by simp at h) ⟨fun i j x y h => by simp at h, fun k x h => by simp at h⟩
    rw [List.append_nil] at hP2 hD2
    obtain ⟨t2, a1, b1⟩ := kk q ce T'.heap (locs ++ L) hP2 hD2 k3 (by rw [e1]; exact hce) hcv hcl T' rfl X'
    exact ⟨t2, st.trans a1, b1⟩
end CALLS
