/-! MEMORY ROWS -/
section MR
variable {p : Program} {l : Launch} {e : Env} {R : Room} {s : State} {m : MethodId} {args : Array Value} {below : List Frame} {meth : Method} {c : Code} {H : Heap} {locs : List Loc} {cells slots : Nat} {Q : State → Prop}
variable {cc : ByteArray} {pc : Nat} {ls : Array Slot} {rest : List Value} {A : Nat → Prop} {z : Zz} {ad : Nat → Nat} {E : Ev} {M : Mm}
theorem nrm {x x1 : Int32} (h : x = x1) (k : W p l e R s m args below meth c H locs cells slots Q (F0 m pc ls (.int x1 :: rest))) : W p l e R s m args below meth c H locs cells slots Q (F0 m pc ls (.int x :: rest)) := by subst h; exact k
theorem nrmL {x x1 : Int64} (h : x = x1) (k : W p l e R s m args below meth c H locs cells slots Q (F0 m pc ls (.long x1 :: rest))) : W p l e R s m args below meth c H locs cells slots Q (F0 m pc ls (.long x :: rest)) := by subst h; exact k
theorem w_obj : Cond.code objectInit ⟨#[0xb1]⟩ 1 none ∈ WG := wg_t (by decide +kernel) rfl
theorem wv_o {i ci : Nat} (hi : i < nE E) (hT : tE E i = (100 + ci, 0)) : (wv z ad E M)[i]? = some (ad i, .inr (ci, fsO ad ci (rE E i) (M i))) := by rw [wv_get hi, dE_o hT]
theorem wv_i {i n : Nat} (hi : i < nE E) (hT : tE E i = (0, n)) : (wv z ad E M)[i]? = some (ad i, .inl (z.2 0, n, .inl (iA (M i)))) := by rw [wv_get hi, dE_i hT]
theorem wv_l {i n : Nat} (hi : i < nE E) (hT : tE E i = (1, n)) : (wv z ad E M)[i]? = some (ad i, .inl (z.2 1, n, .inr (.inl (jA (M i))))) := by rw [wv_get hi, dE_l hT]
theorem wv_q {i t n : Nat} (hi : i < nE E) (hT : tE E i = (t, n)) (h3 : (Nat.ble 3 t && Nat.blt t 100) = true) : (wv z ad E M)[i]? = some (ad i, .inl (z.2 t, n, .inr (.inr (.inr (.inr (rfA ad n (rE E i))))))) := by rw [wv_get hi, dE_q hT h3]
theorem wv_b {i n : Nat} (hi : i < nE E) (hT : tE E i = (2, n)) : (wv z ad E M)[i]? = some (ad i, .inl (z.2 2, n, .inl (iA (M i)))) := by rw [wv_get hi, dE_b hT]
theorem st_o {i ci k : Nat} {x : Int} (hi : i < nE E) (hT : tE E i = (100 + ci, 0)) (hr : refO ci k = false) (hn : Nat.blt k (nfO ci) = true) : (wv z ad E M).set i (ad i, .inr (ci, (fsO ad ci (rE E i) (M i)).set k (.int (oI x)))) = wv z ad E (u2 M i k x) := by
  have h := wv_set (z := z) (ad := ad) (M := M) (va_up (M i) k x) hi
  rw [dE_o hT] at h
  rw [fs_set hn hr, h]
  rfl
theorem st_i {i n : Nat} {f : Nat → Int} (hi : i < nE E) (hT : tE E i = (0, n)) : (wv z ad E M).set i (ad i, .inl (z.2 0, n, .inl (iA f))) = wv z ad E (uA M i f) := by
  have h := wv_set (z := z) (ad := ad) (M := M) f hi
  rw [dE_i hT] at h
  exact h
theorem st_b {i n : Nat} {f : Nat → Int} (hi : i < nE E) (hT : tE E i = (2, n)) : (wv z ad E M).set i (ad i, .inl (z.2 2, n, .inl (iA f))) = wv z ad E (uA M i f) := by
  have h := wv_set (z := z) (ad := ad) (M := M) f hi
  rw [dE_b hT] at h
  exact h
theorem st_l {i n : Nat} {f : Nat → Int} (hi : i < nE E) (hT : tE E i = (1, n)) : (wv z ad E M).set i (ad i, .inl (z.2 1, n, .inr (.inl (jA f)))) = wv z ad E (uA M i f) := by
  have h := wv_set (z := z) (ad := ad) (M := M) f hi
  rw [dE_l hT] at h
  exact h
theorem m_gi {own ref C : String} {T : u_T} {N ci index i k : Nat} (hx : p.tables.exec = Jvm.exec) (hb : c.code = cc) (hts : ∀ w ∈ WG, w.before args s = true) (iX : ∀ w ∈ u_ws C T N, w ∈ WG) (hown : s.vm.findClass own = some m.cls) (hG : KG z s) (hP : va_P z.1 classes (wv z ad E M) H) (hi : i < nE E) (hT : tE E i = (100 + ci, 0)) (hc : classes[ci]? = some (C, T, N)) (hk : k < N) (hlink : Cond.fieldLink own index ref (T k).2.1 (T k).2.2.1 ∈ WG) (hsame : ∀ x, s.fieldFound? (T k).1 (T k).2.1 (T k).2.2.1 = some x → s.fieldFound? ref (T k).2.1 (T k).2.2.1 = some x) (hn : Nat.blt k (nfO ci) = true) (hr : refO ci k = false) (hdg : decode cc pc = .ok (.getfield index, 3))
    (kk : W p l e R s m args below meth c H locs cells slots Q (F0 m (pc + 3) ls (.int (oI (M i k)) :: rest))) : W p l e R s m args below meth c H locs cells slots Q (F0 m pc ls (.ref (ad i) :: rest)) := va_get (D := z.1) (ci := ci) (v := .int (oI (M i k))) hx hb hts iX hown hG.1 hP i (wv_o hi hT) hc k hk (hts _ hlink) hsame (fs_i hn hr) hdg kk
theorem m_gr {own ref C : String} {T : u_T} {N ci index i k j : Nat} (hx : p.tables.exec = Jvm.exec) (hb : c.code = cc) (hts : ∀ w ∈ WG, w.before args s = true) (iX : ∀ w ∈ u_ws C T N, w ∈ WG) (hown : s.vm.findClass own = some m.cls) (hG : KG z s) (hP : va_P z.1 classes (wv z ad E M) H) (hi : i < nE E) (hT : tE E i = (100 + ci, 0)) (hc : classes[ci]? = some (C, T, N)) (hk : k < N) (hlink : Cond.fieldLink own index ref (T k).2.1 (T k).2.2.1 ∈ WG) (hsame : ∀ x, s.fieldFound? (T k).1 (T k).2.1 (T k).2.2.1 = some x → s.fieldFound? ref (T k).2.1 (T k).2.2.1 = some x) (hn : Nat.blt k (nfO ci) = true) (hr : refO ci k = true) (hj : rE E i k = some j) (hdg : decode cc pc = .ok (.getfield index, 3))
    (kk : W p l e R s m args below meth c H locs cells slots Q (F0 m (pc + 3) ls (.ref (ad j) :: rest))) : W p l e R s m args below meth c H locs cells slots Q (F0 m pc ls (.ref (ad i) :: rest)) := va_get (D := z.1) (ci := ci) (v := .ref (ad j)) hx hb hts iX hown hG.1 hP i (wv_o hi hT) hc k hk (hts _ hlink) hsame (fs_r hn hr hj) hdg kk
theorem m_pi {own ref C : String} {T : u_T} {N ci index i k : Nat} {ty0 : Nat → FieldType} {ty : FieldType} {x : Int} (hx : p.tables.exec = Jvm.exec) (hb : c.code = cc) (hts : ∀ w ∈ WG, w.before args s = true) (iX : ∀ w ∈ u_ws C T N, w ∈ WG) (hown : s.vm.findClass own = some m.cls) (hG : KG z s) (hP : va_P z.1 classes (wv z ad E M) H) (hD : va_D A (wv z ad E M)) (hS : va_S A s.heap H locs) (hi : i < nE E) (hT : tE E i = (100 + ci, 0)) (hc : classes[ci]? = some (C, T, N)) (hk : k < N) (hlink : Cond.fieldLink own index ref (T k).2.1 (T k).2.2.1 ∈ WG) (hsame : ∀ x, s.fieldFound? (T k).1 (T k).2.1 (T k).2.2.1 = some x → s.fieldFound? ref (T k).2.1 (T k).2.2.1 = some x) (hn : Nat.blt k (nfO ci) = true) (hr : refO ci k = false) (hty : ∀ k, k < N → parseFieldDescriptor (T k).2.2.1 = some (ty0 k)) (hnm : ∀ a, a < N → ∀ b, b < N → a ≠ b → (T a).2.1 ≠ (T b).2.1) (hfin : (T k).2.2.2 = false) (hd : parseFieldDescriptor (T k).2.2.1 = some ty) (hnr : narrow ty (.int (oI x)) = .int (oI x)) (hfit : fits ty (.int (oI x)) = true) (hdg : decode cc pc = .ok (.putfield index, 3))
    (kk : ∀ (H : Heap) (locs : List Loc), va_P z.1 classes (wv z ad E (u2 M i k x)) H → va_D A (wv z ad E (u2 M i k x)) → va_S A s.heap H locs → W p l e R s m args below meth c H locs cells slots Q (F0 m (pc + 3) ls rest)) : W p l e R s m args below meth c H locs cells slots Q (F0 m pc ls (.int (oI x) :: .ref (ad i) :: rest)) := 
  va_put (D := z.1) (ci := ci) (v := .int (oI x)) (ty := ty) hx hb hts iX ty0 hty hnm hown hG.1 hP hD hS i (wv_o hi hT) hc k hk (hts _ hlink) hsame hfin hd hnr hfit (by rw [fs_len]; exact Nat.blt_eq.mp hn) hdg (fun H1 locs1 h1 h2 h3 => kk H1 locs1 (by rw [← st_o hi hT hr hn]; exact h1) (by rw [← st_o hi hT hr hn]; exact h2) h3)
theorem m_giN {own ref C host : String} {T : u_T} {N ci index i k : Nat} (hx : p.tables.exec = Jvm.exec) (hb : c.code = cc) (hts : ∀ w ∈ WG, w.before args s = true) (iX : ∀ w ∈ u_ws C T N, w ∈ WG) (hown : s.vm.findClass own = some m.cls) (hG : KG z s) (hP : va_P z.1 classes (wv z ad E M) H) (hi : i < nE E) (hT : tE E i = (100 + ci, 0)) (hc : classes[ci]? = some (C, T, N)) (hk : k < N) (hlink : Cond.fieldLinkNest own index ref (T k).2.1 (T k).2.2.1 host ∈ lw_tbl) (hnw : nwB (Cond.fieldLinkNest own index ref (T k).2.1 (T k).2.2.1 host) = true) (hsame : ∀ x, s.fieldFound? (T k).1 (T k).2.1 (T k).2.2.1 = some x → s.fieldFound? ref (T k).2.1 (T k).2.2.1 = some x) (hn : Nat.blt k (nfO ci) = true) (hr : refO ci k = false) (hdg : decode cc pc = .ok (.getfield index, 3))
    (kk : W p l e R s m args below meth c H locs cells slots Q (F0 m (pc + 3) ls (.int (oI (M i k)) :: rest))) : W p l e R s m args below meth c H locs cells slots Q (F0 m pc ls (.ref (ad i) :: rest)) := va_getN (D := z.1) (ci := ci) (v := .int (oI (M i k))) hx hb hts iX hown hG.1 hP i (wv_o hi hT) hc k hk (va_Nw.use rfl (hG.2.1 _ hlink hnw)) hsame (fs_i hn hr) hdg kk
theorem m_grN {own ref C host : String} {T : u_T} {N ci index i k j : Nat} (hx : p.tables.exec = Jvm.exec) (hb : c.code = cc) (hts : ∀ w ∈ WG, w.before args s = true) (iX : ∀ w ∈ u_ws C T N, w ∈ WG) (hown : s.vm.findClass own = some m.cls) (hG : KG z s) (hP : va_P z.1 classes (wv z ad E M) H) (hi : i < nE E) (hT : tE E i = (100 + ci, 0)) (hc : classes[ci]? = some (C, T, N)) (hk : k < N) (hlink : Cond.fieldLinkNest own index ref (T k).2.1 (T k).2.2.1 host ∈ lw_tbl) (hnw : nwB (Cond.fieldLinkNest own index ref (T k).2.1 (T k).2.2.1 host) = true) (hsame : ∀ x, s.fieldFound? (T k).1 (T k).2.1 (T k).2.2.1 = some x → s.fieldFound? ref (T k).2.1 (T k).2.2.1 = some x) (hn : Nat.blt k (nfO ci) = true) (hr : refO ci k = true) (hj : rE E i k = some j) (hdg : decode cc pc = .ok (.getfield index, 3))
    (kk : W p l e R s m args below meth c H locs cells slots Q (F0 m (pc + 3) ls (.ref (ad j) :: rest))) : W p l e R s m args below meth c H locs cells slots Q (F0 m pc ls (.ref (ad i) :: rest)) := va_getN (D := z.1) (ci := ci) (v := .ref (ad j)) hx hb hts iX hown hG.1 hP i (wv_o hi hT) hc k hk (va_Nw.use rfl (hG.2.1 _ hlink hnw)) hsame (fs_r hn hr hj) hdg kk
theorem m_piN {own ref C host : String} {T : u_T} {N ci index i k : Nat} {ty0 : Nat → FieldType} {ty : FieldType} {x : Int} (hx : p.tables.exec = Jvm.exec) (hb : c.code = cc) (hts : ∀ w ∈ WG, w.before args s = true) (iX : ∀ w ∈ u_ws C T N, w ∈ WG) (hown : s.vm.findClass own = some m.cls) (hG : KG z s) (hP : va_P z.1 classes (wv z ad E M) H) (hD : va_D A (wv z ad E M)) (hS : va_S A s.heap H locs) (hi : i < nE E) (hT : tE E i = (100 + ci, 0)) (hc : classes[ci]? = some (C, T, N)) (hk : k < N) (hlink : Cond.fieldLinkNest own index ref (T k).2.1 (T k).2.2.1 host ∈ lw_tbl) (hnw : nwB (Cond.fieldLinkNest own index ref (T k).2.1 (T k).2.2.1 host) = true) (hsame : ∀ x, s.fieldFound? (T k).1 (T k).2.1 (T k).2.2.1 = some x → s.fieldFound? ref (T k).2.1 (T k).2.2.1 = some x) (hn : Nat.blt k (nfO ci) = true) (hr : refO ci k = false) (hty : ∀ k, k < N → parseFieldDescriptor (T k).2.2.1 = some (ty0 k)) (hnm : ∀ a, a < N → ∀ b, b < N → a ≠ b → (T a).2.1 ≠ (T b).2.1) (hfin : (T k).2.2.2 = false) (hd : parseFieldDescriptor (T k).2.2.1 = some ty) (hnr : narrow ty (.int (oI x)) = .int (oI x)) (hfit : fits ty (.int (oI x)) = true) (hdg : decode cc pc = .ok (.putfield index, 3))
    (kk : ∀ (H : Heap) (locs : List Loc), va_P z.1 classes (wv z ad E (u2 M i k x)) H → va_D A (wv z ad E (u2 M i k x)) → va_S A s.heap H locs → W p l e R s m args below meth c H locs cells slots Q (F0 m (pc + 3) ls rest)) : W p l e R s m args below meth c H locs cells slots Q (F0 m pc ls (.int (oI x) :: .ref (ad i) :: rest)) := 
  va_putN (D := z.1) (ci := ci) (v := .int (oI x)) (ty := ty) hx hb hts iX ty0 hty hnm hown hG.1 hP hD hS i (wv_o hi hT) hc k hk (va_Nw.use rfl (hG.2.1 _ hlink hnw)) hsame hfin hd hnr hfit (by rw [fs_len]; exact Nat.blt_eq.mp hn) hdg (fun H1 locs1 h1 h2 h3 => kk H1 locs1 (by rw [← st_o hi hT hr hn]; exact h1) (by rw [← st_o hi hT hr hn]; exact h2) h3)
theorem m_ia {i n : Nat} {j : Int} (hx : p.tables.exec = Jvm.exec) (hb : c.code = cc) (hG : KG z s) (hP : va_P z.1 classes (wv z ad E M) H) (hi : i < nE E) (hT : tE E i = (0, n)) (hin : inb j n) (hdg : decode cc pc = .ok (.iaload, 1))
    (kk : W p l e R s m args below meth c H locs cells slots Q (F0 m (pc + 1) ls (.int (oI (M i j.toNat)) :: rest))) : W p l e R s m args below meth c H locs cells slots Q (F0 m pc ls (.int (oI j) :: .ref (ad i) :: rest)) := va_iald hx hb hG.1 hP i 0 (wv_i hi hT) rfl (inb_v hin) hdg (by rw [inb_n hin]; exact kk)
theorem m_ba {i n : Nat} {j : Int} (hx : p.tables.exec = Jvm.exec) (hb : c.code = cc) (hG : KG z s) (hP : va_P z.1 classes (wv z ad E M) H) (hi : i < nE E) (hT : tE E i = (2, n)) (hin : inb j n) (hdg : decode cc pc = .ok (.baload, 1))
    (kk : W p l e R s m args below meth c H locs cells slots Q (F0 m (pc + 1) ls (.int (oI (M i j.toNat)) :: rest))) : W p l e R s m args below meth c H locs cells slots Q (F0 m pc ls (.int (oI j) :: .ref (ad i) :: rest)) := va_bald hx hb hG.1 hP i 2 (wv_b hi hT) rfl (inb_v hin) hdg (by rw [inb_n hin]; exact kk)
theorem m_la {i n : Nat} {j : Int} (hx : p.tables.exec = Jvm.exec) (hb : c.code = cc) (hG : KG z s) (hP : va_P z.1 classes (wv z ad E M) H) (hi : i < nE E) (hT : tE E i = (1, n)) (hin : inb j n) (hdg : decode cc pc = .ok (.laload, 1))
    (kk : W p l e R s m args below meth c H locs cells slots Q (F0 m (pc + 1) ls (.long (oJ (M i j.toNat)) :: rest))) : W p l e R s m args below meth c H locs cells slots Q (F0 m pc ls (.int (oI j) :: .ref (ad i) :: rest)) := va_lald hx hb hG.1 hP i 1 (wv_l hi hT) rfl (inb_v hin) hdg (by rw [inb_n hin]; exact kk)
theorem m_is {i n : Nat} {j x : Int} (hx : p.tables.exec = Jvm.exec) (hb : c.code = cc) (hG : KG z s) (hP : va_P z.1 classes (wv z ad E M) H) (hD : va_D A (wv z ad E M)) (hS : va_S A s.heap H locs) (hi : i < nE E) (hT : tE E i = (0, n)) (hin : inb j n) (hdg : decode cc pc = .ok (.iastore, 1))
    (kk : ∀ (H : Heap) (locs : List Loc), va_P z.1 classes (wv z ad E (u2 M i j.toNat x)) H → va_D A (wv z ad E (u2 M i j.toNat x)) → va_S A s.heap H locs → W p l e R s m args below meth c H locs cells slots Q (F0 m (pc + 1) ls rest)) : W p l e R s m args below meth c H locs cells slots Q (F0 m pc ls (.int (oI x) :: .int (oI j) :: .ref (ad i) :: rest)) := va_iast hx hb hG.1 hP hD hS i 0 (wv_i hi hT) rfl (inb_v hin) hdg (fun H1 locs1 h1 h2 h3 => kk H1 locs1 (by rw [inb_n hin, up_iA, st_i hi hT] at h1; exact h1) (by rw [inb_n hin, up_iA, st_i hi hT] at h2; exact h2) h3)
theorem m_ls {i n : Nat} {j x : Int} (hx : p.tables.exec = Jvm.exec) (hb : c.code = cc) (hG : KG z s) (hP : va_P z.1 classes (wv z ad E M) H) (hD : va_D A (wv z ad E M)) (hS : va_S A s.heap H locs) (hi : i < nE E) (hT : tE E i = (1, n)) (hin : inb j n) (hdg : decode cc pc = .ok (.lastore, 1))
    (kk : ∀ (H : Heap) (locs : List Loc), va_P z.1 classes (wv z ad E (u2 M i j.toNat x)) H → va_D A (wv z ad E (u2 M i j.toNat x)) → va_S A s.heap H locs → W p l e R s m args below meth c H locs cells slots Q (F0 m (pc + 1) ls rest)) : W p l e R s m args below meth c H locs cells slots Q (F0 m pc ls (.long (oJ x) :: .int (oI j) :: .ref (ad i) :: rest)) := va_last hx hb hG.1 hP hD hS i 1 (wv_l hi hT) rfl (inb_v hin) hdg (fun H1 locs1 h1 h2 h3 => kk H1 locs1 (by rw [inb_n hin, up_jA, st_l hi hT] at h1; exact h1) (by rw [inb_n hin, up_jA, st_l hi hT] at h2; exact h2) h3)
theorem m_aa {i t n k : Nat} {C : String} {j : Int} (hx : p.tables.exec = Jvm.exec) (hb : c.code = cc) (hG : KG z s) (hP : va_P z.1 classes (wv z ad E M) H) (hi : i < nE E) (hT : tE E i = (t, n)) (h3 : (Nat.ble 3 t && Nat.blt t 100) = true) (ht : (TY z.2)[t]? = some (z.2 t, .object C)) (hin : inb j n) (hk : rE E i j.toNat = some k) (hdg : decode cc pc = .ok (.aaload, 1))
    (kk : W p l e R s m args below meth c H locs cells slots Q (F0 m (pc + 1) ls (.ref (ad k) :: rest))) : W p l e R s m args below meth c H locs cells slots Q (F0 m pc ls (.int (oI j) :: .ref (ad i) :: rest)) := va_aldq hx hb hG.1 hP i t (wv_q hi hT h3) ht (inb_v hin) hdg (by rw [inb_n hin, rfA_in (inb_lt hin), hk]; exact kk)
theorem va_alda {D : va_G} {cl : List vw_C} {tys : List (ClassId × FieldType)} {ws : va_W} {a : Nat} (hexec : p.tables.exec = Jvm.exec) (hb : c.code = cc) (hK : va_K D cl tys s) (hP : va_P D cl ws H) (q0 t0 : Nat) {cA : ClassId} {ty : FieldType} {n : Nat} {f : Nat → Option Nat} (ha : ws[q0]? = some (a, .inl (cA, n, .inr (.inr (.inr (.inr f)))))) (ht : tys[t0]? = some (cA, .array ty)) {i : Int32} (hin : vp_in i n) (hdg : decode cc pc = .ok (.aaload, 1))
    (kk : W p l e R s m args below meth c H locs cells slots Q (F0 m (pc + 1) ls (va_rf (f i.toNatClampNeg) :: rest))) : W p l e R s m args below meth c H locs cells slots Q (F0 m pc ls (.int i :: .ref a :: rest)) := by
  have hlt : i.toNatClampNeg < n := Nat.not_le.mp fun q => hin (Or.inr q)
  exact W.aald (v := va_rf (f i.toNatClampNeg)) (ty := .array ty) hexec hb (hP q0 _ ha) ((hK.2 t0 _ ht).1 n (fun j => va_rf (f j))) rfl (fun q => by cases q) (by show ¬ (i < 0 ∨ (arrV _ _ _).slots.size ≤ _); rw [arrV_size]; exact hin) (by show (arrV _ _ _).slots[_]? = _; rw [arrV_read _ _ hlt]) rfl rfl hdg kk
theorem m_ar {i n k : Nat} {j : Int} (hx : p.tables.exec = Jvm.exec) (hb : c.code = cc) (hG : KG z s) (hP : va_P z.1 classes (wv z ad E M) H) (hi : i < nE E) (hT : tE E i = (6, n)) (hin : inb j n) (hk : rE E i j.toNat = some k) (hdg : decode cc pc = .ok (.aaload, 1))
    (kk : W p l e R s m args below meth c H locs cells slots Q (F0 m (pc + 1) ls (.ref (ad k) :: rest))) : W p l e R s m args below meth c H locs cells slots Q (F0 m pc ls (.int (oI j) :: .ref (ad i) :: rest)) := va_alda hx hb hG.1 hP i 6 (wv_q hi hT rfl) rfl (inb_v hin) hdg (by rw [inb_n hin, rfA_in (inb_lt hin), hk]; exact kk)
theorem m_len {i n : Nat} {v : Int} (hx : p.tables.exec = Jvm.exec) (hb : c.code = cc) (hG : KG z s) (hP : va_P z.1 classes (wv z ad E M) H) (hi : i < nE E) (hT : tE E i = (0, n)) (hv : Int32.ofNat n = oI v) (hdg : decode cc pc = .ok (.arraylength, 1))
    (kk : W p l e R s m args below meth c H locs cells slots Q (F0 m (pc + 1) ls (.int (oI v) :: rest))) : W p l e R s m args below meth c H locs cells slots Q (F0 m pc ls (.ref (ad i) :: rest)) := va_alen hx hb hG.1 hP i 0 (wv_i hi hT) rfl hv hdg kk
theorem m_lenL {i n : Nat} {v : Int} (hx : p.tables.exec = Jvm.exec) (hb : c.code = cc) (hG : KG z s) (hP : va_P z.1 classes (wv z ad E M) H) (hi : i < nE E) (hT : tE E i = (1, n)) (hv : Int32.ofNat n = oI v) (hdg : decode cc pc = .ok (.arraylength, 1))
    (kk : W p l e R s m args below meth c H locs cells slots Q (F0 m (pc + 1) ls (.int (oI v) :: rest))) : W p l e R s m args below meth c H locs cells slots Q (F0 m pc ls (.ref (ad i) :: rest)) := va_alen hx hb hG.1 hP i 1 (wv_l hi hT) rfl hv hdg kk
theorem m_lenA {i n : Nat} {v : Int} (hx : p.tables.exec = Jvm.exec) (hb : c.code = cc) (hG : KG z s) (hP : va_P z.1 classes (wv z ad E M) H) (hi : i < nE E) (hT : tE E i = (6, n)) (hv : Int32.ofNat n = oI v) (hdg : decode cc pc = .ok (.arraylength, 1))
    (kk : W p l e R s m args below meth c H locs cells slots Q (F0 m (pc + 1) ls (.int (oI v) :: rest))) : W p l e R s m args below meth c H locs cells slots Q (F0 m pc ls (.ref (ad i) :: rest)) := va_alen hx hb hG.1 hP i 6 (wv_q hi hT rfl) rfl hv hdg kk
theorem len_oI (n : Nat) : Int32.ofNat n = oI (n : Int) := Int32.ofInt_eq_ofNat.symm
theorem nn_oI {x : Int} (h : 0 ≤ x) (h2 : x ≤ 2147483647) : ¬ oI x < 0 ∧ (oI x).toNatClampNeg = x.toNat := by
  refine ⟨fun q => ?_, ?_⟩
  · have q := (oI_lt (b := 0) ⟨by omega, h2⟩ ⟨by decide, by decide⟩).mp q
    omega
  · show (oI x).toInt.toNat = _
    rw [oI_toInt ⟨by omega, h2⟩]
/-- a copy within the arrays -/
abbrev cpk (sp dp n : Int) (n0 n1 : Nat) : Prop := 0 ≤ sp ∧ 0 ≤ dp ∧ 0 ≤ n ∧ sp + n ≤ n0 ∧ dp + n ≤ n1 ∧ sp + n ≤ 2147483647 ∧ dp + n ≤ 2147483647
theorem cpk_e {sp dp n : Int} {n0 n1 : Nat} (h : cpk sp dp n n0 n1) : (¬ oI sp < 0 ∧ ¬ oI dp < 0 ∧ ¬ oI n < 0 ∧ (oI sp).toNatClampNeg + (oI n).toNatClampNeg ≤ n0 ∧ (oI dp).toNatClampNeg + (oI n).toNatClampNeg ≤ n1) ∧ (oI sp).toNatClampNeg = sp.toNat ∧ (oI dp).toNatClampNeg = dp.toNat ∧ (oI n).toNatClampNeg = n.toNat := by
  obtain ⟨a, b, c, d, e, f, g⟩ := h
  have h1 := nn_oI (x := sp) a (by omega)
  have h2 := nn_oI (x := dp) b (by omega)
  have h3 := nn_oI (x := n) c (by omega)
  refine ⟨⟨h1.1, h2.1, h3.1, ?_, ?_⟩, h1.2, h2.2, h3.2⟩
  · rw [h1.2, h3.2]; omega
  · rw [h2.2, h3.2]; omega
theorem W.wide {g : JFrame} {k n : Nat} (h1 : cells ≤ k) (h2 : slots ≤ n) (kk : W p l e R s m args below meth c H locs k n Q g) : W p l e R s m args below meth c H locs cells slots Q g := fun T hT X => kk T hT (stand_widen X h1 h2)
theorem m_cpy {own : String} {index i0 i1 n0 n1 : Nat} {sp dp n : Int} (hx : p.tables.exec = Jvm.exec) (hb : c.code = cc) (hml : c.maxLocals = ls.size) (hown : s.vm.findClass own = some m.cls) (hlink : (Cond.methodLink own index arraycopyName).before args s = true) (hnat : (Cond.native arraycopyName).before args s = true) (hstat : (Cond.static arraycopyName).before args s = true) (hini : (Cond.initialized "java/lang/System").before args s = true) (hG : KG z s) (hP : va_P z.1 classes (wv z ad E M) H) (hD : va_D A (wv z ad E M)) (hS : va_S A s.heap H locs) (hi0 : i0 < nE E) (hT0 : tE E i0 = (0, n0)) (hi1 : i1 < nE E) (hT1 : tE E i1 = (0, n1)) (h0 : cpk sp dp n n0 n1) (hframes : 1 ≤ R.frames) (hlocals : (rest.map fun v => v.category).sum + (nativeFrameWords "java/lang/System" "arraycopy" 5 + 11) ≤ R.locals) (hdg : decode cc pc = .ok (.invokestatic index, 3))
    (kk : ∀ (H : Heap) (locs : List Loc), va_P z.1 classes (wv z ad E (uA M i1 (va_cpy (M i0) (M i1) sp.toNat dp.toNat n.toNat))) H → va_D A (wv z ad E (uA M i1 (va_cpy (M i0) (M i1) sp.toNat dp.toNat n.toNat))) → va_S A s.heap H locs → W p l e R s m args below meth c H locs cells slots Q (F0 m (pc + 3) ls rest)) : W p l e R s m args below meth c H locs cells slots Q (F0 m pc ls (.int (oI n) :: .int (oI dp) :: .ref (ad i1) :: .int (oI sp) :: .ref (ad i0) :: rest)) := by
  obtain ⟨h1, e1, e2, e3⟩ := cpk_e h0
  refine va_copyi hx hb hml hown hlink hnat hstat hini hG.1 hP hD hS i0 i1 0 0 (wv_i hi0 hT0) (wv_i hi1 hT1) rfl rfl rfl h1.1 h1.2.1 h1.2.2.1 h1.2.2.2.1 h1.2.2.2.2 (fun _ _ => rfl) hframes hlocals hdg (fun H1 locs1 h1 h2 h3 => ?_)
  rw [e1, e2, e3, cpy_iA, st_i hi1 hT1] at h1 h2
  exact kk H1 locs1 h1 h2 h3
theorem m_fl {a : Nat} {j : Int} (hx : p.tables.exec = Jvm.exec) (hb : c.code = cc) (hT : va_T .long a 13 (fun j => .long (oJ (facF j))) A s s.heap) (hS : va_S A s.heap H locs) (hin : inb j 13) (hdg : decode cc pc = .ok (.laload, 1))
    (kk : W p l e R s m args below meth c H locs cells slots Q (F0 m (pc + 1) ls (.long (oJ (facF j.toNat)) :: rest))) : W p l e R s m args below meth c H locs cells slots Q (F0 m pc ls (.int (oI j) :: .ref a :: rest)) := va_tl hx hb hT hS (inb_v hin) (by rw [inb_n hin]) hdg kk
/-! OPTIONS -/
def ck {α : Type} (P : Prop) [Decidable P] (x : Option α) : Option α := if P then x else none
theorem ck_e {α : Type} {P : Prop} {i : Decidable P} {x : Option α} {y : α} (h : @ck α P i x = some y) : P ∧ x = some y := by
  unfold ck at h
  by_cases hP : P
  · rw [if_pos hP] at h; exact ⟨hP, h⟩
  · rw [if_neg hP] at h; cases h
theorem ck_i {α : Type} {P : Prop} {i : Decidable P} {x : Option α} (h : P) : @ck α P i x = x := if_pos h
theorem bd_e {α β : Type} {x : Option α} {f : α → Option β} {y : β} (h : x.bind f = some y) : ∃ q, x = some q ∧ f q = some y := Option.bind_eq_some_iff.mp h
/-- a name for a value -/
def nb {α β : Type} (x : α) (f : α → β) : β := f x
theorem nb_e {α β : Type} {x : α} {f : α → β} {y : β} (h : nb x f = y) : ∃ q, q = x ∧ f q = y := ⟨x, rfl, h⟩
theorem ite_t {α : Sort _} {P : Prop} {i : Decidable P} {a b y : α} (hP : P) (h : @ite α P i a b = y) : a = y := by rw [if_pos hP] at h; exact h
theorem ite_f {α : Sort _} {P : Prop} {i : Decidable P} {a b y : α} (hP : ¬ P) (h : @ite α P i a b = y) : b = y := by rw [if_neg hP] at h; exact h
theorem iX0 : ∀ w ∈ u_ws "Ballothall$BallotBox" TX0 10, w ∈ WG := by decide +kernel
theorem iX1 : ∀ w ∈ u_ws "Ballothall$Council" TX1 4, w ∈ WG := by decide +kernel
theorem iX2 : ∀ w ∈ u_ws "Ballothall$Count" TX2 10, w ∈ WG := by decide +kernel
theorem iX3 : ∀ w ∈ u_ws "Ballothall$Counting" TX3 15, w ∈ WG := by decide +kernel
theorem iX4 : ∀ w ∈ u_ws "Ballothall$Division" TX4 8, w ∈ WG := by decide +kernel
theorem iX5 : ∀ w ∈ u_ws "Ballothall$FalseBallot" TX5 3, w ∈ WG := by decide +kernel
theorem iX6 : ∀ w ∈ u_ws "Ballothall$KeptSeats" TX6 7, w ∈ WG := by decide +kernel
theorem iX7 : ∀ w ∈ u_ws "Ballothall$Lists" TX7 11, w ∈ WG := by decide +kernel
theorem iX8 : ∀ w ∈ u_ws "Ballothall$Natural" TX8 2, w ∈ WG := by decide +kernel
theorem iX9 : ∀ w ∈ u_ws "Ballothall$Poll" TX9 12, w ∈ WG := by decide +kernel
theorem iX10 : ∀ w ∈ u_ws "Ballothall$Wards" TX10 5, w ∈ WG := by decide +kernel
theorem iX11 : ∀ w ∈ u_ws "Ballothall" TX11 14, w ∈ WG := by decide +kernel
theorem iX12 : ∀ w ∈ u_ws "BallothallLaw$Box" TX12 4, w ∈ WG := by decide +kernel
theorem iX13 : ∀ w ∈ u_ws "java/lang/String" TX13 4, w ∈ WG := by decide +kernel
theorem iX14 : ∀ w ∈ u_ws "java/lang/StringBuilder" TX14 4, w ∈ WG := by decide +kernel
end MR
