set_option maxRecDepth 100000 in
set_option maxHeartbeats 4000000 in
theorem s_B_needIndex (l : Launch) (z : Zz) (ad : Nat → Nat) (E : Ev) (M : Mm) (x0 : Int) (x1 : Int)  (hL : Lay E) (h : f_B_needIndex E M x0 x1 = some ()) : CT l z ⟨"Ballothall", "needIndex", "(II)V"⟩ prog_1_method_56_code 2 none [.int (oI x0), .int (oI x1)] (wv z ad E M) 0 20 0 0 (fun _ => none) (fun _ => (wv z ad E M)) := by
  refine CT.of (own := "Ballothall") (by decide +kernel) (Nat.le_of_ble_eq_true rfl) rfl (fun p e s m below meth c A ls hx hb hml hr hts hown hlocks hin hA hG hZ hP hD hS hl => ?_)
  have hl : lv_has ls 2 [(0, .int (oI x0)), (1, .int (oI x1))] := hl
  have key : ∀ (H : Heap) (locs : List Loc) (args : Array Value), (∀ w ∈ WG, w.before args s = true) → va_P z.1 classes (wv z ad E M) H → va_S A s.heap H locs → W p l e (rmK 0 20 0 0) s m args below meth c H locs 0 0 (MQ below (QK z A (fun _ => none) (fun _ => (wv z ad E M))) args s 0 0 A) (F0 m 0 ls []) := by
    intro H locs args hts hP hS
    unfold f_B_needIndex at h
    refine lv_iload_n hx hb d_1_56_0 rfl (lv_at hl 0 rfl) ?_
    obtain ⟨ok0, h⟩ := ck_e h
    refine lv_if_lt (tgt := 9) hx hb d_1_56_1 (by decide) (fun c9 => ?_) (fun c9 => ?_)
    · have h := ite_t ((oI_lt0 ok0).mp c9) h
      cases h
    · have h := ite_f (fun q => c9 ((oI_lt0 ok0).mpr q)) h
      refine lv_iload_n hx hb d_1_56_4 rfl (lv_at hl 0 rfl) ?_
      refine lv_iload_n hx hb d_1_56_5 rfl (lv_at hl 1 rfl) ?_
      obtain ⟨ok1, h⟩ := ck_e h
      refine lv_icmp_lt (tgt := 20) hx hb d_1_56_6 (by decide) (fun c9 => ?_) (fun c9 => ?_)
      · have h := ite_t ((oI_lt (a := x0) (b := x1) ok0 ok1).mp c9) h
        clear h
        exact W.vret hx hb hr (fun t ht hW => qkA hP hD hS (fun k => k) rfl rfl ht) hS.2.2 d_1_56_20
      · have h := ite_f (fun q => c9 ((oI_lt (a := x0) (b := x1) ok0 ok1).mpr q)) h
        cases h
  exact key _ _ _ hts hP hS
set_option maxRecDepth 100000 in
set_option maxHeartbeats 4000000 in
theorem s_Bx_everybody (l : Launch) (z : Zz) (ad : Nat → Nat) (E : Ev) (M : Mm) (r : Int)  (hL : Lay E) (h : f_Bx_everybody E M = some r) : CT l z ⟨"Ballothall$BallotBox", "everybody", "()I"⟩ prog_2_method_2_code 1 (some .int) [.ref (ad 2)] (wv z ad E M) 0 20 0 0 (fun _ => some (.int (oI r))) (fun _ => (wv z ad E M)) := by
  refine CT.of (own := "Ballothall$BallotBox") (by decide +kernel) (Nat.le_of_ble_eq_true rfl) rfl (fun p e s m below meth c A ls hx hb hml hr hts hown hlocks hin hA hG hZ hP hD hS hl => ?_)
  have hl : lv_has ls 1 [(0, .ref (ad 2))] := hl
  have key : ∀ (H : Heap) (locs : List Loc) (args : Array Value), (∀ w ∈ WG, w.before args s = true) → va_P z.1 classes (wv z ad E M) H → va_S A s.heap H locs → W p l e (rmK 0 20 0 0) s m args below meth c H locs 0 0 (MQ below (QK z A (fun _ => some (.int (oI r))) (fun _ => (wv z ad E M))) args s 0 0 A) (F0 m 0 ls []) := by
    intro H locs args hts hP hS
    unfold f_Bx_everybody at h
    refine lv_iconst (v := oI 1) hx hb d_2_2_0 (by decide +kernel) ?_
    refine lv_aload_n hx hb d_2_2_1 rfl (lv_at hl 0 rfl) ?_
    refine m_gi (C := "Ballothall$BallotBox") (T := TX0) (N := 10) (ci := 0) (k := 2) hx hb hts iX0 hown hG hP (yi_2 hL) (yt_2 hL) rfl (by decide) w_51 (fun _ h9 => h9) rfl rfl d_2_2_2 ?_
    obtain ⟨ok0, h⟩ := ck_e h
    refine lv_ishl hx hb d_2_2_5 ?_
    refine nrm (oI_one_shl ok0) ?_
    refine lv_iconst (v := oI 1) hx hb d_2_2_6 (by decide +kernel) ?_
    refine lv_isub hx hb d_2_2_7 ?_
    refine nrm (oI_sub _ _) ?_
    obtain rfl := in1 h
    exact W.iret hx hb hr (fun t ht hW => qkA hP hD hS (fun k => k) rfl rfl ht) hS.2.2 d_2_2_8
  exact key _ _ _ hts hP hS
set_option maxRecDepth 100000 in
set_option maxHeartbeats 4000000 in
theorem b_Ar_fillI_5b (l : Launch) (z : Zz) (ad : Nat → Nat) (E : Ev) (M : Mm) (q0 : Nat) (x1 : Int) (x3 : Int) (x2 : Int) (t : Nat) (w2 : Int) (N : Mm) {Q : State → Prop} {p : Program} {e : Env} {s : State} {m : MethodId} {below : List Frame} {meth : Method} {c : Code} {A : Nat → Prop} {args : Array Value} (hx : p.tables.exec = Jvm.exec) (hb : c.code = prog_43_method_103_code) (hml : c.maxLocals = 4) (hts : ∀ w ∈ WG, w.before args s = true) (hown : s.vm.findClass "java/util/Arrays" = some m.cls) (hlocks : meth.locks = false) (hA : ∀ q, s.heap.size ≤ q → A q) (hG : KG z s) (hZ : FZ z A s) (hL : Lay E) (h : Ar_fillI_5b E M q0 x1 x3 x2 = some (t, w2, N)) (k0 : t = 0 → ∀ (H : Heap) (locs : List Loc) (ls : Array Slot), va_P z.1 classes (wv z ad E N) H → va_D A (wv z ad E N) → va_S A s.heap H locs → lv_has ls 4 [(0, .ref (ad q0)), (1, .int (oI x1)), (2, .int (oI w2)), (3, .int (oI x3))] → W p l e (rmK 0 20 0 0) s m args below meth c H locs 0 0 Q (F0 m 5 ls [])) (k1 : t = 1 → ∀ (H : Heap) (locs : List Loc) (ls : Array Slot), va_P z.1 classes (wv z ad E N) H → va_D A (wv z ad E N) → va_S A s.heap H locs → lv_has ls 4 [] → W p l e (rmK 0 20 0 0) s m args below meth c H locs 0 0 Q (F0 m 20 ls [])) : ∀ (H : Heap) (locs : List Loc) (ls : Array Slot), va_P z.1 classes (wv z ad E M) H → va_D A (wv z ad E M) → va_S A s.heap H locs → lv_has ls 4 [(0, .ref (ad q0)), (1, .int (oI x1)), (2, .int (oI x2)), (3, .int (oI x3))] → W p l e (rmK 0 20 0 0) s m args below meth c H locs 0 0 Q (F0 m 5 ls []) := by
  intro H locs ls hP hD hS hl
  unfold Ar_fillI_5b at h
  obtain ⟨h_q0, h⟩ := ck_e h
  refine lv_iload_n hx hb d_43_103_5 rfl (lv_at hl 2 rfl) ?_
  refine lv_iload_n hx hb d_43_103_6 rfl (lv_at hl 3 rfl) ?_
  obtain ⟨ok0, h⟩ := ck_e h
  obtain ⟨ok1, h⟩ := ck_e h
  refine lv_icmp_ge (tgt := 20) hx hb d_43_103_7 (by decide) (fun c9 => ?_) (fun c9 => ?_)
  · have h := ite_t ((oI_le (a := x3) (b := x2) ok1 ok0).mp c9) h
    obtain ⟨rfl, rfl, rfl⟩ := in3 h
    exact k1 rfl H locs ls hP hD hS (lv_sub hl [] rfl)
  · have h := ite_f (fun q => c9 ((oI_le (a := x3) (b := x2) ok1 ok0).mpr q)) h
    refine lv_aload_n hx hb d_43_103_10 rfl (lv_at hl 0 rfl) ?_
    refine lv_iload_n hx hb d_43_103_11 rfl (lv_at hl 2 rfl) ?_
    refine lv_iload_n hx hb d_43_103_12 rfl (lv_at hl 1 rfl) ?_
    obtain ⟨ok2, h⟩ := ck_e h
    refine m_is hx hb hG hP hD hS h_q0.1 (isIA_T h_q0) ok2 d_43_103_13 (fun H locs hP hD hS => ?_)
    have hP : va_P z.1 classes (wv z ad E (u2 M q0 x2.toNat x1)) H := hP
    have hD : va_D A (wv z ad E (u2 M q0 x2.toNat x1)) := hD
    refine lv_iinc (v := oI (x2 + 1)) (lv' := [(2, .int (oI (x2 + 1))), (0, .ref (ad q0)), (1, .int (oI x1)), (3, .int (oI x3))]) hx hb d_43_103_14 hl (k := 2) rfl (oI_add x2 1) (by decide) rfl (fun ls hl => ?_)
    refine lv_goto (tgt := 5) hx hb d_43_103_17 (by decide) ?_
    obtain ⟨rfl, rfl, rfl⟩ := in3 h
    exact k0 rfl H locs ls hP hD hS (lv_sub hl [1, 2, 0, 3] rfl)
set_option maxRecDepth 100000 in
set_option maxHeartbeats 4000000 in
theorem s_Ar_fillI_5 (l : Launch) (z : Zz) (ad : Nat → Nat) (E : Ev) (q0 : Nat) (x1 : Int) (x3 : Int) {Q : State → Prop} {p : Program} {e : Env} {s : State} {m : MethodId} {below : List Frame} {meth : Method} {c : Code} {A : Nat → Prop} {args : Array Value} (hx : p.tables.exec = Jvm.exec) (hb : c.code = prog_43_method_103_code) (hml : c.maxLocals = 4) (hts : ∀ w ∈ WG, w.before args s = true) (hown : s.vm.findClass "java/util/Arrays" = some m.cls) (hlocks : meth.locks = false) (hA : ∀ q, s.heap.size ≤ q → A q) (hG : KG z s) (hZ : FZ z A s) (hL : Lay E) : ∀ (fu : Nat) (M : Mm) (x2 : Int) (t : Nat) (w2 : Int) (N : Mm), l_Ar_fillI_5 E q0 x1 x3 fu M x2 = some (t, w2, N) → (t = 1 → ∀ (H : Heap) (locs : List Loc) (ls : Array Slot), va_P z.1 classes (wv z ad E N) H → va_D A (wv z ad E N) → va_S A s.heap H locs → lv_has ls 4 [] → W p l e (rmK 0 20 0 0) s m args below meth c H locs 0 0 Q (F0 m 20 ls [])) → ∀ (H : Heap) (locs : List Loc) (ls : Array Slot), va_P z.1 classes (wv z ad E M) H → va_D A (wv z ad E M) → va_S A s.heap H locs → lv_has ls 4 [(0, .ref (ad q0)), (1, .int (oI x1)), (2, .int (oI x2)), (3, .int (oI x3))] → W p l e (rmK 0 20 0 0) s m args below meth c H locs 0 0 Q (F0 m 5 ls []) := by
  intro fu
  induction fu with
  | zero =>
    intro M x2 t w2 N h
    have h : (none : Option (Nat × Int × Mm)) = some _ := h
    cases h
  | succ fu ih =>
    intro M x2 t w2 N h k1 H locs ls hP hD hS hl
    obtain ⟨⟨t0, w20, N9⟩, g0, h⟩ := bd_e h
    refine b_Ar_fillI_5b l z ad E M q0 x1 x3 x2 t0 w20 N9 hx hb hml hts hown hlocks hA hG hZ hL g0 (fun e0 => ?_) (fun e0 => ?_) H locs ls hP hD hS hl
    · subst e0
      have h := ite_t rfl h
      exact ih N9 w20 t w2 N h k1
    · subst e0
      have h := ite_f (by decide) h
      obtain ⟨rfl, rfl, rfl⟩ := in3 h
      exact k1 rfl
set_option maxRecDepth 100000 in
set_option maxHeartbeats 4000000 in
theorem s_Ar_fillI (l : Launch) (z : Zz) (ad : Nat → Nat) (E : Ev) (M : Mm) (p0 : Nat) (x1 : Int) (N : Mm) (hL : Lay E) (h : f_Ar_fillI E M p0 x1 = some N) : CT l z ⟨"java/util/Arrays", "fill", "([II)V"⟩ prog_43_method_103_code 4 none [.ref (ad p0), .int (oI x1)] (wv z ad E M) 0 20 0 0 (fun _ => none) (fun _ => (wv z ad E N)) := by
  refine CT.of (own := "java/util/Arrays") (by decide +kernel) (Nat.le_of_ble_eq_true rfl) rfl (fun p e s m below meth c A ls hx hb hml hr hts hown hlocks hin hA hG hZ hP hD hS hl => ?_)
  have hl : lv_has ls 4 [(0, .ref (ad p0)), (1, .int (oI x1))] := hl
  have key : ∀ (H : Heap) (locs : List Loc) (args : Array Value), (∀ w ∈ WG, w.before args s = true) → va_P z.1 classes (wv z ad E M) H → va_S A s.heap H locs → W p l e (rmK 0 20 0 0) s m args below meth c H locs 0 0 (MQ below (QK z A (fun _ => none) (fun _ => (wv z ad E N))) args s 0 0 A) (F0 m 0 ls []) := by
    intro H locs args hts hP hS
    unfold f_Ar_fillI at h
    obtain ⟨h_p0, h⟩ := ck_e h
    refine lv_iconst (v := oI 0) hx hb d_43_103_0 (by decide +kernel) ?_
    refine lv_istore_n (lv' := [(2, .int (oI 0)), (0, .ref (ad p0)), (1, .int (oI x1))]) hx hb d_43_103_1 rfl hl (by decide) rfl (fun ls hl => ?_)
    refine lv_aload_n hx hb d_43_103_2 rfl (lv_at hl 1 rfl) ?_
    refine m_len (v := ((tE E p0).2 : Int)) hx hb hG hP h_p0.1 (isIA_T h_p0) (len_oI _) d_43_103_3 ?_
    refine lv_istore_n (lv' := [(3, .int (oI ((tE E p0).2 : Int))), (2, .int (oI 0)), (0, .ref (ad p0)), (1, .int (oI x1))]) hx hb d_43_103_4 rfl hl (by decide) rfl (fun ls hl => ?_)
    obtain ⟨⟨t3, v3_2, M3⟩, g3, h⟩ := bd_e h
    obtain ⟨ok3, h⟩ := ck_e h
    refine s_Ar_fillI_5 l z ad E p0 x1 ((tE E p0).2 : Int) hx hb hml hts hown hlocks hA hG hZ hL FU M 0 t3 v3_2 M3 g3 (fun e3 H locs ls hP hD hS hl => ?_) H locs ls hP hD hS (lv_sub hl [2, 3, 1, 0] rfl)
    obtain rfl := in1 h
    exact W.vret hx hb hr (fun t ht hW => qkA hP hD hS (fun k => k) rfl rfl ht) hS.2.2 d_43_103_20
  exact key _ _ _ hts hP hS
set_option maxRecDepth 100000 in
set_option maxHeartbeats 4000000 in
theorem b_Bx_topOf_2b (l : Launch) (z : Zz) (ad : Nat → Nat) (E : Ev) (M : Mm) (x1 : Int) (x2 : Int) (x3 : Int) (t : Nat) (w3 : Int) (w4 : Int)  {Q : State → Prop} {p : Program} {e : Env} {s : State} {m : MethodId} {below : List Frame} {meth : Method} {c : Code} {A : Nat → Prop} {args : Array Value} (hx : p.tables.exec = Jvm.exec) (hb : c.code = prog_2_method_13_code) (hml : c.maxLocals = 5) (hts : ∀ w ∈ WG, w.before args s = true) (hown : s.vm.findClass "Ballothall$BallotBox" = some m.cls) (hlocks : meth.locks = false) (hA : ∀ q, s.heap.size ≤ q → A q) (hG : KG z s) (hZ : FZ z A s) (hL : Lay E) (h : Bx_topOf_2b E M x1 x2 x3 = some (t, w3, w4)) (k0 : t = 0 → ∀ (H : Heap) (locs : List Loc) (ls : Array Slot), va_P z.1 classes (wv z ad E M) H → va_D A (wv z ad E M) → va_S A s.heap H locs → lv_has ls 5 [(0, .ref (ad 2)), (1, .int (oI x1)), (2, .int (oI x2)), (3, .int (oI w3))] → W p l e (rmK 0 20 0 0) s m args below meth c H locs 0 0 Q (F0 m 2 ls [])) (k1 : t = 1 → ∀ (H : Heap) (locs : List Loc) (ls : Array Slot), va_P z.1 classes (wv z ad E M) H → va_D A (wv z ad E M) → va_S A s.heap H locs → lv_has ls 5 [(4, .int (oI w4))] → W p l e (rmK 0 20 0 0) s m args below meth c H locs 0 0 Q (F0 m 29 ls [])) (k2 : t = 2 → ∀ (H : Heap) (locs : List Loc) (ls : Array Slot), va_P z.1 classes (wv z ad E M) H → va_D A (wv z ad E M) → va_S A s.heap H locs → lv_has ls 5 [] → W p l e (rmK 0 20 0 0) s m args below meth c H locs 0 0 Q (F0 m 38 ls [])) : ∀ (H : Heap) (locs : List Loc) (ls : Array Slot), va_P z.1 classes (wv z ad E M) H → va_D A (wv z ad E M) → va_S A s.heap H locs → lv_has ls 5 [(0, .ref (ad 2)), (1, .int (oI x1)), (2, .int (oI x2)), (3, .int (oI x3))] → W p l e (rmK 0 20 0 0) s m args below meth c H locs 0 0 Q (F0 m 2 ls []) := by
  intro H locs ls hP hD hS hl
  unfold Bx_topOf_2b at h
  refine lv_iload_n hx hb d_2_13_2 rfl (lv_at hl 3 rfl) ?_
  refine lv_aload_n hx hb d_2_13_3 rfl (lv_at hl 0 rfl) ?_
  refine m_gr (j := 7) (C := "Ballothall$BallotBox") (T := TX0) (N := 10) (ci := 0) (k := 7) hx hb hts iX0 hown hG hP (yi_2 hL) (yt_2 hL) rfl (by decide) w_72 (fun _ h9 => h9) rfl rfl (yr_2_7 hL) d_2_13_4 ?_
  refine lv_iload_n hx hb d_2_13_7 rfl (lv_at hl 1 rfl) ?_
  obtain ⟨ok0, h⟩ := ck_e h
  refine m_ia hx hb hG hP (yi_7 hL) (yt_7 hL) ok0 d_2_13_8 ?_
  obtain ⟨ok1, h⟩ := ck_e h
  obtain ⟨ok2, h⟩ := ck_e h
  refine lv_icmp_ge (tgt := 38) hx hb d_2_13_9 (by decide) (fun c9 => ?_) (fun c9 => ?_)
  · have h := ite_t ((oI_le (a := (M 7 x1.toNat)) (b := x3) ok2 ok1).mp c9) h
    obtain ⟨rfl, rfl, rfl⟩ := in3 h
    exact k2 rfl H locs ls hP hD hS (lv_sub hl [] rfl)
  · have h := ite_f (fun q => c9 ((oI_le (a := (M 7 x1.toNat)) (b := x3) ok2 ok1).mpr q)) h
    refine lv_aload_n hx hb d_2_13_12 rfl (lv_at hl 0 rfl) ?_
    refine m_gr (j := 8) (C := "Ballothall$BallotBox") (T := TX0) (N := 10) (ci := 0) (k := 8) hx hb hts iX0 hown hG hP (yi_2 hL) (yt_2 hL) rfl (by decide) w_74 (fun _ h9 => h9) rfl rfl (yr_2_8 hL) d_2_13_13 ?_
    refine lv_iload_n hx hb d_2_13_16 rfl (lv_at hl 1 rfl) ?_
    refine m_ar (k := (9 + x1.toNat)) hx hb hG hP (yi_8 hL) (yt_8 hL) ok0 (ya_8 hL (inb_lt ok0)) d_2_13_17 ?_
    refine lv_iload_n hx hb d_2_13_18 rfl (lv_at hl 3 rfl) ?_
    obtain ⟨ok3, h⟩ := ck_e h
    refine m_ia hx hb hG hP (yg_8 hL ok0).1 (yg_8 hL ok0).2 ok3 d_2_13_19 ?_
    refine lv_iload_n hx hb d_2_13_20 rfl (lv_at hl 2 rfl) ?_
    obtain ⟨ok4, h⟩ := ck_e h
    obtain ⟨ok5, h⟩ := ck_e h
    refine lv_iand hx hb d_2_13_21 ?_
    refine nrm (oI_and (a := (M (9 + x1.toNat) x3.toNat)) (b := x2) ok4.1 ok4.2 ok5.1 ok5.2) ?_
    obtain ⟨v6, e6, h⟩ := nb_e h
    refine nrm (congrArg oI e6.symm) ?_
    refine lv_istore (lv' := [(4, .int (oI v6)), (0, .ref (ad 2)), (1, .int (oI x1)), (2, .int (oI x2)), (3, .int (oI x3))]) hx hb d_2_13_22 hl (by decide) rfl (fun ls hl => ?_)
    refine lv_iload hx hb d_2_13_24 (lv_at hl 0 rfl) ?_
    refine lv_if_eq (tgt := 32) hx hb d_2_13_26 (by decide) (fun c9 => ?_) (fun c9 => ?_)
    · have h := ite_t ((oI_eq0 (e6 ▸ (rg_nn (and_nn ok4)))).mp c9) h
      refine lv_iinc (v := oI (x3 + 1)) (lv' := [(3, .int (oI (x3 + 1))), (4, .int (oI v6)), (0, .ref (ad 2)), (1, .int (oI x1)), (2, .int (oI x2))]) hx hb d_2_13_32 hl (k := 4) rfl (oI_add x3 1) (by decide) rfl (fun ls hl => ?_)
      refine lv_goto (tgt := 2) hx hb d_2_13_35 (by decide) ?_
      obtain ⟨rfl, rfl, rfl⟩ := in3 h
      exact k0 rfl H locs ls hP hD hS (lv_sub hl [2, 3, 4, 0] rfl)
    · have h := ite_f (fun q => c9 ((oI_eq0 (e6 ▸ (rg_nn (and_nn ok4)))).mpr q)) h
      obtain ⟨rfl, rfl, rfl⟩ := in3 h
      exact k1 rfl H locs ls hP hD hS (lv_sub hl [0] rfl)
set_option maxRecDepth 100000 in
set_option maxHeartbeats 4000000 in
theorem s_Bx_topOf_2 (l : Launch) (z : Zz) (ad : Nat → Nat) (E : Ev) (x1 : Int) (x2 : Int) {Q : State → Prop} {p : Program} {e : Env} {s : State} {m : MethodId} {below : List Frame} {meth : Method} {c : Code} {A : Nat → Prop} {args : Array Value} (hx : p.tables.exec = Jvm.exec) (hb : c.code = prog_2_method_13_code) (hml : c.maxLocals = 5) (hts : ∀ w ∈ WG, w.before args s = true) (hown : s.vm.findClass "Ballothall$BallotBox" = some m.cls) (hlocks : meth.locks = false) (hA : ∀ q, s.heap.size ≤ q → A q) (hG : KG z s) (hZ : FZ z A s) (hL : Lay E) : ∀ (fu : Nat) (M : Mm) (x3 : Int) (t : Nat) (w3 : Int) (w4 : Int), l_Bx_topOf_2 E x1 x2 fu M x3 = some (t, w3, w4) → (t = 1 → ∀ (H : Heap) (locs : List Loc) (ls : Array Slot), va_P z.1 classes (wv z ad E M) H → va_D A (wv z ad E M) → va_S A s.heap H locs → lv_has ls 5 [(4, .int (oI w4))] → W p l e (rmK 0 20 0 0) s m args below meth c H locs 0 0 Q (F0 m 29 ls [])) → (t = 2 → ∀ (H : Heap) (locs : List Loc) (ls : Array Slot), va_P z.1 classes (wv z ad E M) H → va_D A (wv z ad E M) → va_S A s.heap H locs → lv_has ls 5 [] → W p l e (rmK 0 20 0 0) s m args below meth c H locs 0 0 Q (F0 m 38 ls [])) → ∀ (H : Heap) (locs : List Loc) (ls : Array Slot), va_P z.1 classes (wv z ad E M) H → va_D A (wv z ad E M) → va_S A s.heap H locs → lv_has ls 5 [(0, .ref (ad 2)), (1, .int (oI x1)), (2, .int (oI x2)), (3, .int (oI x3))] → W p l e (rmK 0 20 0 0) s m args below meth c H locs 0 0 Q (F0 m 2 ls []) := by
  intro fu
  induction fu with
  | zero =>
    intro M x3 t w3 w4 h
    have h : (none : Option (Nat × Int × Int)) = some _ := h
    cases h
  | succ fu ih =>
    intro M x3 t w3 w4 h k1 k2 H locs ls hP hD hS hl
    obtain ⟨⟨t0, w30, w40⟩, g0, h⟩ := bd_e h
    refine b_Bx_topOf_2b l z ad E M x1 x2 x3 t0 w30 w40 hx hb hml hts hown hlocks hA hG hZ hL g0 (fun e0 => ?_) (fun e0 => ?_) (fun e0 => ?_) H locs ls hP hD hS hl
    · subst e0
      have h := ite_t rfl h
      exact ih M w30 t w3 w4 h k1 k2
    · subst e0
      have h := ite_f (by decide) h
      obtain ⟨rfl, rfl, rfl⟩ := in3 h
      exact k1 rfl
    · subst e0
      have h := ite_f (by decide) h
      obtain ⟨rfl, rfl, rfl⟩ := in3 h
      exact k2 rfl
set_option maxRecDepth 100000 in
set_option maxHeartbeats 4000000 in
theorem s_Bx_topOf (l : Launch) (z : Zz) (ad : Nat → Nat) (E : Ev) (M : Mm) (x1 : Int) (x2 : Int) (r : Int)  (hL : Lay E) (h : f_Bx_topOf E M x1 x2 = some r) : CT l z ⟨"Ballothall$BallotBox", "topOf", "(II)I"⟩ prog_2_method_13_code 5 (some .int) [.ref (ad 2), .int (oI x1), .int (oI x2)] (wv z ad E M) 0 20 0 0 (fun _ => some (.int (oI r))) (fun _ => (wv z ad E M)) := by
  refine CT.of (own := "Ballothall$BallotBox") (by decide +kernel) (Nat.le_of_ble_eq_true rfl) rfl (fun p e s m below meth c A ls hx hb hml hr hts hown hlocks hin hA hG hZ hP hD hS hl => ?_)
  have hl : lv_has ls 5 [(0, .ref (ad 2)), (1, .int (oI x1)), (2, .int (oI x2))] := hl
  have key : ∀ (H : Heap) (locs : List Loc) (args : Array Value), (∀ w ∈ WG, w.before args s = true) → va_P z.1 classes (wv z ad E M) H → va_S A s.heap H locs → W p l e (rmK 0 20 0 0) s m args below meth c H locs 0 0 (MQ below (QK z A (fun _ => some (.int (oI r))) (fun _ => (wv z ad E M))) args s 0 0 A) (F0 m 0 ls []) := by
    intro H locs args hts hP hS
    unfold f_Bx_topOf at h
    refine lv_iconst (v := oI 0) hx hb d_2_13_0 (by decide +kernel) ?_
    refine lv_istore_n (lv' := [(3, .int (oI 0)), (0, .ref (ad 2)), (1, .int (oI x1)), (2, .int (oI x2))]) hx hb d_2_13_1 rfl hl (by decide) rfl (fun ls hl => ?_)
    obtain ⟨⟨t7, v7_3, v7_4⟩, g7, h⟩ := bd_e h
    refine s_Bx_topOf_2 l z ad E x1 x2 hx hb hml hts hown hlocks hA hG hZ hL FU M 0 t7 v7_3 v7_4 g7 (fun e7 H locs ls hP hD hS hl => ?_) (fun e7 H locs ls hP hD hS hl => ?_) H locs ls hP hD hS (lv_sub hl [1, 2, 3, 0] rfl)
    · subst e7
      have h := ite_t rfl h
      refine lv_iload hx hb d_2_13_29 (lv_at hl 0 rfl) ?_
      obtain rfl := in1 h
      exact W.iret hx hb hr (fun t ht hW => qkA hP hD hS (fun k => k) rfl rfl ht) hS.2.2 d_2_13_31
    · subst e7
      have h := ite_f (by decide) h
      have h := ite_t rfl h
      refine lv_iconst (v := oI 0) hx hb d_2_13_38 (by decide +kernel) ?_
      obtain rfl := in1 h
      exact W.iret hx hb hr (fun t ht hW => qkA hP hD hS (fun k => k) rfl rfl ht) hS.2.2 d_2_13_39
  exact key _ _ _ hts hP hS
set_option maxRecDepth 100000 in
set_option maxHeartbeats 4000000 in
theorem s_In_bitCount (l : Launch) (z : Zz) (ad : Nat → Nat) (E : Ev) (M : Mm) (x0 : Int) (r : Int)  (hL : Lay E) (h : f_In_bitCount E M x0 = some r) : CT l z ⟨"java/lang/Integer", "bitCount", "(I)I"⟩ prog_32_method_49_code 1 (some .int) [.int (oI x0)] (wv z ad E M) 0 20 0 0 (fun _ => some (.int (oI r))) (fun _ => (wv z ad E M)) := by
  refine CT.of (own := "java/lang/Integer") (by decide +kernel) (Nat.le_of_ble_eq_true rfl) rfl (fun p e s m below meth c A ls hx hb hml hr hts hown hlocks hin hA hG hZ hP hD hS hl => ?_)
  have hl : lv_has ls 1 [(0, .int (oI x0))] := hl
  have key : ∀ (H : Heap) (locs : List Loc) (args : Array Value), (∀ w ∈ WG, w.before args s = true) → va_P z.1 classes (wv z ad E M) H → va_S A s.heap H locs → W p l e (rmK 0 20 0 0) s m args below meth c H locs 0 0 (MQ below (QK z A (fun _ => some (.int (oI r))) (fun _ => (wv z ad E M))) args s 0 0 A) (F0 m 0 ls []) := by
    intro H locs args hts hP hS
    unfold f_In_bitCount at h
    refine lv_iload_n hx hb d_32_49_0 rfl (lv_at hl 0 rfl) ?_
    refine lv_iload_n hx hb d_32_49_1 rfl (lv_at hl 0 rfl) ?_
    refine lv_iconst (v := oI 1) hx hb d_32_49_2 (by decide +kernel) ?_
    refine lv_iushr (v := oI (ushI x0 1)) hx hb d_32_49_3 (oI_ushr _ 1 _ (by decide +kernel)) ?_
    refine lv_ldcw hx hb hown (hts _ w_658) d_32_49_4 ?_
    refine nrm (x1 := oI 1431655765) (by decide +kernel) ?_
    refine lv_iand hx hb d_32_49_7 ?_
    refine nrm (oI_and (a := (ushI x0 1)) (b := (1431655765 : Int)) (ushI_nn (by decide)).1 (ushI_nn (by decide)).2 (show nnI 1431655765 by decide).1 (show nnI 1431655765 by decide).2) ?_
    refine lv_isub hx hb d_32_49_8 ?_
    refine nrm (oI_sub _ _) ?_
    obtain ⟨v0, e0, h⟩ := nb_e h
    refine nrm (congrArg oI e0.symm) ?_
    refine lv_istore_n (lv' := [(0, .int (oI v0))]) hx hb d_32_49_9 rfl hl (by decide) rfl (fun ls hl => ?_)
    refine lv_iload_n hx hb d_32_49_10 rfl (lv_at hl 0 rfl) ?_
    refine lv_ldcw hx hb hown (hts _ w_659) d_32_49_11 ?_
    refine nrm (x1 := oI 858993459) (by decide +kernel) ?_
    obtain ⟨ok1, h⟩ := ck_e h
    refine lv_iand hx hb d_32_49_14 ?_
    refine nrm (oI_and (a := v0) (b := (858993459 : Int)) ok1.1 ok1.2 (show nnI 858993459 by decide).1 (show nnI 858993459 by decide).2) ?_
    refine lv_iload_n hx hb d_32_49_15 rfl (lv_at hl 0 rfl) ?_
    refine lv_iconst (v := oI 2) hx hb d_32_49_16 (by decide +kernel) ?_
    refine lv_iushr (v := oI (ushI v0 2)) hx hb d_32_49_17 (oI_ushr _ 2 _ (by decide +kernel)) ?_
    refine lv_ldcw hx hb hown (hts _ w_659) d_32_49_18 ?_
    refine nrm (x1 := oI 858993459) (by decide +kernel) ?_
    refine lv_iand hx hb d_32_49_21 ?_
    refine nrm (oI_and (a := (ushI v0 2)) (b := (858993459 : Int)) (ushI_nn (by decide)).1 (ushI_nn (by decide)).2 (show nnI 858993459 by decide).1 (show nnI 858993459 by decide).2) ?_
    refine lv_iadd hx hb d_32_49_22 ?_
    refine nrm (oI_add _ _) ?_
    obtain ⟨v2, e2, h⟩ := nb_e h
    refine nrm (congrArg oI e2.symm) ?_
    refine lv_istore_n (lv' := [(0, .int (oI v2))]) hx hb d_32_49_23 rfl hl (by decide) rfl (fun ls hl => ?_)
    refine lv_iload_n hx hb d_32_49_24 rfl (lv_at hl 0 rfl) ?_
    refine lv_iload_n hx hb d_32_49_25 rfl (lv_at hl 0 rfl) ?_
    refine lv_iconst (v := oI 4) hx hb d_32_49_26 (by decide +kernel) ?_
    refine lv_iushr (v := oI (ushI v2 4)) hx hb d_32_49_27 (oI_ushr _ 4 _ (by decide +kernel)) ?_
    refine lv_iadd hx hb d_32_49_28 ?_
    refine nrm (oI_add _ _) ?_
    refine lv_ldcw hx hb hown (hts _ w_660) d_32_49_29 ?_
    refine nrm (x1 := oI 252645135) (by decide +kernel) ?_
    obtain ⟨ok3, h⟩ := ck_e h
    refine lv_iand hx hb d_32_49_32 ?_
    refine nrm (oI_and (a := (v2 + (ushI v2 4))) (b := (252645135 : Int)) ok3.1 ok3.2 (show nnI 252645135 by decide).1 (show nnI 252645135 by decide).2) ?_
    obtain ⟨v4, e4, h⟩ := nb_e h
    refine nrm (congrArg oI e4.symm) ?_
    refine lv_istore_n (lv' := [(0, .int (oI v4))]) hx hb d_32_49_33 rfl hl (by decide) rfl (fun ls hl => ?_)
    refine lv_iload_n hx hb d_32_49_34 rfl (lv_at hl 0 rfl) ?_
    refine lv_iload_n hx hb d_32_49_35 rfl (lv_at hl 0 rfl) ?_
    refine lv_bipush (v := oI 8) hx hb d_32_49_36 (by decide +kernel) ?_
    refine lv_iushr (v := oI (ushI v4 8)) hx hb d_32_49_38 (oI_ushr _ 8 _ (by decide +kernel)) ?_
    refine lv_iadd hx hb d_32_49_39 ?_
    refine nrm (oI_add _ _) ?_
    refine lv_istore_n (lv' := [(0, .int (oI (v4 + (ushI v4 8))))]) hx hb d_32_49_40 rfl hl (by decide) rfl (fun ls hl => ?_)
    refine lv_iload_n hx hb d_32_49_41 rfl (lv_at hl 0 rfl) ?_
    refine lv_iload_n hx hb d_32_49_42 rfl (lv_at hl 0 rfl) ?_
    refine lv_bipush (v := oI 16) hx hb d_32_49_43 (by decide +kernel) ?_
    refine lv_iushr (v := oI (ushI (v4 + (ushI v4 8)) 16)) hx hb d_32_49_45 (oI_ushr _ 16 _ (by decide +kernel)) ?_
    refine lv_iadd hx hb d_32_49_46 ?_
    refine nrm (oI_add _ _) ?_
    obtain ⟨v5, e5, h⟩ := nb_e h
    refine nrm (congrArg oI e5.symm) ?_
    refine lv_istore_n (lv' := [(0, .int (oI v5))]) hx hb d_32_49_47 rfl hl (by decide) rfl (fun ls hl => ?_)
    refine lv_iload_n hx hb d_32_49_48 rfl (lv_at hl 0 rfl) ?_
    refine lv_bipush (v := oI 63) hx hb d_32_49_49 (by decide +kernel) ?_
    refine lv_iand hx hb d_32_49_51 ?_
    refine nrm (oI_m6 _) ?_
    obtain rfl := in1 h
    exact W.iret hx hb hr (fun t ht hW => qkA hP hD hS (fun k => k) rfl rfl ht) hS.2.2 d_32_49_52
  exact key _ _ _ hts hP hS
set_option maxRecDepth 100000 in
set_option maxHeartbeats 4000000 in
theorem s_Bx_soleTopOf (l : Launch) (z : Zz) (ad : Nat → Nat) (E : Ev) (M : Mm) (x1 : Int) (x2 : Int) (r : Int)  (hL : Lay E) (h : f_Bx_soleTopOf E M x1 x2 = some r) : CT l z ⟨"Ballothall$BallotBox", "soleTopOf", "(II)I"⟩ prog_2_method_14_code 4 (some .int) [.ref (ad 2), .int (oI x1), .int (oI x2)] (wv z ad E M) 1 44 0 0 (fun _ => some (.int (oI r))) (fun _ => (wv z ad E M)) := by
  refine CT.of (own := "Ballothall$BallotBox") (by decide +kernel) (Nat.le_of_ble_eq_true rfl) rfl (fun p e s m below meth c A ls hx hb hml hr hts hown hlocks hin hA hG hZ hP hD hS hl => ?_)
  have hl : lv_has ls 4 [(0, .ref (ad 2)), (1, .int (oI x1)), (2, .int (oI x2))] := hl
  have key : ∀ (H : Heap) (locs : List Loc) (args : Array Value), (∀ w ∈ WG, w.before args s = true) → va_P z.1 classes (wv z ad E M) H → va_S A s.heap H locs → W p l e (rmK 1 44 0 0) s m args below meth c H locs 0 0 (MQ below (QK z A (fun _ => some (.int (oI r))) (fun _ => (wv z ad E M))) args s 0 0 A) (F0 m 0 ls []) := by
    intro H locs args hts hP hS
    unfold f_Bx_soleTopOf at h
    refine lv_aload_n hx hb d_2_14_0 rfl (lv_at hl 0 rfl) ?_
    refine lv_iload_n hx hb d_2_14_1 rfl (lv_at hl 1 rfl) ?_
    refine lv_iload_n hx hb d_2_14_2 rfl (lv_at hl 2 rfl) ?_
    obtain ⟨r0, g0, h⟩ := bd_e h
    refine kV (As := [.int (oI x1), .int (oI x2)]) (rest := []) (s_Bx_topOf l z ad E M x1 x2 r0 hL g0) hx hb hml hown hts w_685 w_682 w_684 w_s_b213f0 w_2 md_ddec8b ⟨Nat.le_of_ble_eq_true rfl, Nat.le_of_ble_eq_true rfl⟩ hG hZ hP hD hS hA 2 (wv_o (ci := 0) (yi_2 hL) (yt_2 hL)) rfl rfl rfl hl.1 rfl (Nat.le_of_ble_eq_true rfl) d_2_14_3 ⟨Nat.le_of_ble_eq_true rfl, Nat.le_of_ble_eq_true rfl⟩ (fun _ H locs hP hD hS => ?_)
    have hP : va_P z.1 classes (wv z ad E M) H := hP
    have hD : va_D A (wv z ad E M) := hD
    refine W.eq (g2 := F0 m 6 ls [.int (oI r0)]) rfl ?_
    refine lv_istore_n (lv' := [(3, .int (oI r0)), (0, .ref (ad 2)), (1, .int (oI x1)), (2, .int (oI x2))]) hx hb d_2_14_6 rfl hl (by decide) rfl (fun ls hl => ?_)
    refine lv_iload_n hx hb d_2_14_7 rfl (lv_at hl 0 rfl) ?_
    obtain ⟨r1, g1, h⟩ := bd_e h
    refine kS (As := [.int (oI r0)]) (rest := []) (s_In_bitCount l z ad E M r0 r1 hL g1) hx hb hml hown hts w_657 w_686 w_656 w_30 md_eafe8c ⟨Nat.le_of_ble_eq_true rfl, Nat.le_of_ble_eq_true rfl⟩ hG hZ hP hD hS hA rfl hl.1 rfl (Nat.le_of_ble_eq_true rfl) d_2_14_8 ⟨Nat.le_of_ble_eq_true rfl, Nat.le_of_ble_eq_true rfl⟩ (fun _ H locs hP hD hS => ?_)
    have hP : va_P z.1 classes (wv z ad E M) H := hP
    have hD : va_D A (wv z ad E M) := hD
    refine W.eq (g2 := F0 m 11 ls [.int (oI r1)]) rfl ?_
    refine lv_iconst (v := oI 1) hx hb d_2_14_11 (by decide +kernel) ?_
    obtain ⟨ok2, h⟩ := ck_e h
    refine lv_icmp_ne (tgt := 24) hx hb d_2_14_12 (by decide) (fun c9 => ?_) (fun c9 => ?_)
    · have h := ite_f (fun q => c9 ((oI_eq (a := r1) (b := (1 : Int)) ok2 (by decide)).mpr q)) h
      refine lv_iconst (v := oI (-1)) hx hb d_2_14_24 (by decide +kernel) ?_
      obtain rfl := in1 h
      exact W.iret hx hb hr (fun t ht hW => qkA hP hD hS (fun k => k) rfl rfl ht) hS.2.2 d_2_14_25
    · have h := ite_t ((oI_eq (a := r1) (b := (1 : Int)) ok2 (by decide)).mp c9) h
      refine lv_iload_n hx hb d_2_14_15 rfl (lv_at hl 0 rfl) ?_
      refine lv_iconst (v := oI 1) hx hb d_2_14_16 (by decide +kernel) ?_
      refine lv_isub hx hb d_2_14_17 ?_
      refine nrm (oI_sub _ _) ?_
      obtain ⟨r3, g3, h⟩ := bd_e h
      refine kS (As := [.int (oI (r0 - 1))]) (rest := []) (s_In_bitCount l z ad E M (r0 - 1) r3 hL g3) hx hb hml hown hts w_657 w_686 w_656 w_30 md_eafe8c ⟨Nat.le_of_ble_eq_true rfl, Nat.le_of_ble_eq_true rfl⟩ hG hZ hP hD hS hA rfl hl.1 rfl (Nat.le_of_ble_eq_true rfl) d_2_14_18 ⟨Nat.le_of_ble_eq_true rfl, Nat.le_of_ble_eq_true rfl⟩ (fun _ H locs hP hD hS => ?_)
      have hP : va_P z.1 classes (wv z ad E M) H := hP
      have hD : va_D A (wv z ad E M) := hD
      refine W.eq (g2 := F0 m 21 ls [.int (oI r3)]) rfl ?_
      refine lv_goto (tgt := 25) hx hb d_2_14_21 (by decide) ?_
      obtain rfl := in1 h
      exact W.iret hx hb hr (fun t ht hW => qkA hP hD hS (fun k => k) rfl rfl ht) hS.2.2 d_2_14_25
  exact key _ _ _ hts hP hS
set_option maxRecDepth 100000 in
set_option maxHeartbeats 4000000 in
theorem s_B_has (l : Launch) (z : Zz) (ad : Nat → Nat) (E : Ev) (M : Mm) (x0 : Int) (x1 : Int) (r : Int)  (hL : Lay E) (h : f_B_has E M x0 x1 = some r) : CT l z ⟨"Ballothall", "has", "(II)Z"⟩ prog_1_method_55_code 2 (some .boolean) [.int (oI x0), .int (oI x1)] (wv z ad E M) 0 20 0 0 (fun _ => some (.int (oI r))) (fun _ => (wv z ad E M)) := by
  refine CT.of (own := "Ballothall") (by decide +kernel) (Nat.le_of_ble_eq_true rfl) rfl (fun p e s m below meth c A ls hx hb hml hr hts hown hlocks hin hA hG hZ hP hD hS hl => ?_)
  have hl : lv_has ls 2 [(0, .int (oI x0)), (1, .int (oI x1))] := hl
  have key : ∀ (H : Heap) (locs : List Loc) (args : Array Value), (∀ w ∈ WG, w.before args s = true) → va_P z.1 classes (wv z ad E M) H → va_S A s.heap H locs → W p l e (rmK 0 20 0 0) s m args below meth c H locs 0 0 (MQ below (QK z A (fun _ => some (.int (oI r))) (fun _ => (wv z ad E M))) args s 0 0 A) (F0 m 0 ls []) := by
    intro H locs args hts hP hS
    unfold f_B_has at h
    refine lv_iload_n hx hb d_1_55_0 rfl (lv_at hl 0 rfl) ?_
    refine lv_iload_n hx hb d_1_55_1 rfl (lv_at hl 1 rfl) ?_
    obtain ⟨ok0, h⟩ := ck_e h
    obtain ⟨ok1, h⟩ := ck_e h
    refine lv_ishr hx hb d_1_55_2 ?_
    refine nrm (oI_shr (a := x0) ok0 ok1.1 ok1.2) ?_
    refine lv_iconst (v := oI 1) hx hb d_1_55_3 (by decide +kernel) ?_
    refine lv_iand hx hb d_1_55_4 ?_
    refine nrm (oI_m1 _) ?_
    refine lv_if_eq (tgt := 12) hx hb d_1_55_5 (by decide) (fun c9 => ?_) (fun c9 => ?_)
    · have h := ite_t ((oI_eq0 ⟨by omega, by omega⟩).mp c9) h
      refine lv_iconst (v := oI 0) hx hb d_1_55_12 (by decide +kernel) ?_
      obtain rfl := in1 h
      exact W.zret hx hb hr rfl (fun t ht hW => qkA hP hD hS (fun k => k) rfl rfl ht) hS.2.2 d_1_55_13
    · have h := ite_f (fun q => c9 ((oI_eq0 ⟨by omega, by omega⟩).mpr q)) h
      refine lv_iconst (v := oI 1) hx hb d_1_55_8 (by decide +kernel) ?_
      refine lv_goto (tgt := 13) hx hb d_1_55_9 (by decide) ?_
      obtain rfl := in1 h
      exact W.zret hx hb hr rfl (fun t ht hW => qkA hP hD hS (fun k => k) rfl rfl ht) hS.2.2 d_1_55_13
  exact key _ _ _ hts hP hS
set_option maxRecDepth 100000 in
set_option maxHeartbeats 4000000 in
theorem b_Po_changePairs_27b (l : Launch) (z : Zz) (ad : Nat → Nat) (E : Ev) (M : Mm) (x1 : Int) (x2 : Int) (x3 : Int) (x4 : Int) (x5 : Int) (t : Nat) (w5 : Int) (N : Mm) {Q : State → Prop} {p : Program} {e : Env} {s : State} {m : MethodId} {below : List Frame} {meth : Method} {c : Code} {A : Nat → Prop} {args : Array Value} (hx : p.tables.exec = Jvm.exec) (hb : c.code = prog_11_method_4_code) (hml : c.maxLocals = 6) (hts : ∀ w ∈ WG, w.before args s = true) (hown : s.vm.findClass "Ballothall$Poll" = some m.cls) (hlocks : meth.locks = false) (hA : ∀ q, s.heap.size ≤ q → A q) (hG : KG z s) (hZ : FZ z A s) (hL : Lay E) (h : Po_changePairs_27b E M x1 x2 x3 x4 x5 = some (t, w5, N)) (k0 : t = 0 → ∀ (H : Heap) (locs : List Loc) (ls : Array Slot), va_P z.1 classes (wv z ad E N) H → va_D A (wv z ad E N) → va_S A s.heap H locs → lv_has ls 6 [(0, .ref (ad 41)), (1, .int (oI x1)), (2, .int (oI x2)), (3, .int (oI x3)), (4, .int (oI x4)), (5, .int (oI w5))] → W p l e (rmK 1 41 0 0) s m args below meth c H locs 0 0 Q (F0 m 27 ls [])) (k1 : t = 1 → ∀ (H : Heap) (locs : List Loc) (ls : Array Slot), va_P z.1 classes (wv z ad E N) H → va_D A (wv z ad E N) → va_S A s.heap H locs → lv_has ls 6 [(0, .ref (ad 41)), (1, .int (oI x1)), (2, .int (oI x2)), (3, .int (oI x3)), (4, .int (oI x4))] → W p l e (rmK 1 41 0 0) s m args below meth c H locs 0 0 Q (F0 m 71 ls [])) : ∀ (H : Heap) (locs : List Loc) (ls : Array Slot), va_P z.1 classes (wv z ad E M) H → va_D A (wv z ad E M) → va_S A s.heap H locs → lv_has ls 6 [(0, .ref (ad 41)), (1, .int (oI x1)), (2, .int (oI x2)), (3, .int (oI x3)), (4, .int (oI x4)), (5, .int (oI x5))] → W p l e (rmK 1 41 0 0) s m args below meth c H locs 0 0 Q (F0 m 27 ls []) := by
  intro H locs ls hP hD hS hl
  unfold Po_changePairs_27b at h
  refine lv_iload hx hb d_11_4_27 (lv_at hl 5 rfl) ?_
  refine lv_aload_n hx hb d_11_4_29 rfl (lv_at hl 0 rfl) ?_
  refine m_gr (j := 2) (C := "Ballothall$Poll") (T := TX9) (N := 12) (ci := 9) (k := 0) hx hb hts iX9 hown hG hP (yi_41 hL) (yt_41 hL) rfl (by decide) w_107 (fun _ h9 => h9) rfl rfl (yr_41_0 hL) d_11_4_30 ?_
  refine m_giN (C := "Ballothall$BallotBox") (T := TX0) (N := 10) (ci := 0) (k := 2) hx hb hts iX0 hown hG hP (yi_2 hL) (yt_2 hL) rfl (by decide) n_53 rfl (fun _ h9 => h9) rfl rfl d_11_4_33 ?_
  obtain ⟨ok4, h⟩ := ck_e h
  obtain ⟨ok5, h⟩ := ck_e h
  refine lv_icmp_ge (tgt := 71) hx hb d_11_4_36 (by decide) (fun c9 => ?_) (fun c9 => ?_)
  · have h := ite_t ((oI_le (a := (M 2 2)) (b := x5) ok5 ok4).mp c9) h
    obtain ⟨rfl, rfl, rfl⟩ := in3 h
    exact k1 rfl H locs ls hP hD hS (lv_sub hl [0, 1, 2, 3, 4] rfl)
  · have h := ite_f (fun q => c9 ((oI_le (a := (M 2 2)) (b := x5) ok5 ok4).mpr q)) h
    refine lv_iload_n hx hb d_11_4_39 rfl (lv_at hl 2 rfl) ?_
    refine lv_iload hx hb d_11_4_40 (lv_at hl 5 rfl) ?_
    obtain ⟨r6, g6, h⟩ := bd_e h
    refine kSN (As := [.int (oI x2), .int (oI x5)]) (rest := []) (s_B_has l z ad E M x2 x5 r6 hL g6) hx hb hml hown hts w_693 n_691 w_692 w_1 md_26545c ⟨Nat.le_of_ble_eq_true rfl, Nat.le_of_ble_eq_true rfl⟩ hG hZ hP hD hS hA rfl hl.1 rfl (Nat.le_of_ble_eq_true rfl) d_11_4_42 ⟨Nat.le_of_ble_eq_true rfl, Nat.le_of_ble_eq_true rfl⟩ (fun _ H locs hP hD hS => ?_)
    have hP : va_P z.1 classes (wv z ad E M) H := hP
    have hD : va_D A (wv z ad E M) := hD
    refine W.eq (g2 := F0 m 45 ls [.int (oI r6)]) rfl ?_
    obtain ⟨ok7, h⟩ := ck_e h
    refine lv_if_eq (tgt := 65) hx hb d_11_4_45 (by decide) (fun c9 => ?_) (fun c9 => ?_)
    · have h := ite_t ((oI_eq0 ok7).mp c9) h
      refine lv_iinc (v := oI (x5 + 1)) (lv' := [(5, .int (oI (x5 + 1))), (0, .ref (ad 41)), (1, .int (oI x1)), (2, .int (oI x2)), (3, .int (oI x3)), (4, .int (oI x4))]) hx hb d_11_4_65 hl (k := 5) rfl (oI_add x5 1) (by decide) rfl (fun ls hl => ?_)
      refine lv_goto (tgt := 27) hx hb d_11_4_68 (by decide) ?_
      obtain ⟨rfl, rfl, rfl⟩ := in3 h
      exact k0 rfl H locs ls hP hD hS (lv_sub hl [1, 2, 3, 4, 5, 0] rfl)
    · have h := ite_f (fun q => c9 ((oI_eq0 ok7).mpr q)) h
      refine lv_aload_n hx hb d_11_4_48 rfl (lv_at hl 0 rfl) ?_
      refine m_gr (j := 45) (C := "Ballothall$Poll") (T := TX9) (N := 12) (ci := 9) (k := 6) hx hb hts iX9 hown hG hP (yi_41 hL) (yt_41 hL) rfl (by decide) w_113 (fun _ h9 => h9) rfl rfl (yr_41_6 hL) d_11_4_49 ?_
      refine lv_iload hx hb d_11_4_52 (lv_at hl 4 rfl) ?_
      refine lv_bipush (v := oI 8) hx hb d_11_4_54 (by decide +kernel) ?_
      refine lv_imul hx hb d_11_4_56 ?_
      refine nrm (oI_mul _ _) ?_
      refine lv_iload hx hb d_11_4_57 (lv_at hl 5 rfl) ?_
      refine lv_iadd hx hb d_11_4_59 ?_
      refine nrm (oI_add _ _) ?_
      refine lv_dup2_11 hx hb d_11_4_60 rfl rfl ?_
      obtain ⟨ok8, h⟩ := ck_e h
      refine m_ia hx hb hG hP (yi_45 hL) (yt_45 hL) ok8 d_11_4_61 ?_
      refine lv_iload_n hx hb d_11_4_62 rfl (lv_at hl 3 rfl) ?_
      refine lv_iadd hx hb d_11_4_63 ?_
      refine nrm (oI_add _ _) ?_
      obtain ⟨v9, e9, h⟩ := nb_e h
      refine nrm (congrArg oI e9.symm) ?_
      refine m_is hx hb hG hP hD hS (yi_45 hL) (yt_45 hL) ok8 d_11_4_64 (fun H locs hP hD hS => ?_)
      have hP : va_P z.1 classes (wv z ad E (u2 M 45 ((x4 * 8) + x5).toNat v9)) H := hP
      have hD : va_D A (wv z ad E (u2 M 45 ((x4 * 8) + x5).toNat v9)) := hD
      refine lv_iinc (v := oI (x5 + 1)) (lv' := [(5, .int (oI (x5 + 1))), (0, .ref (ad 41)), (1, .int (oI x1)), (2, .int (oI x2)), (3, .int (oI x3)), (4, .int (oI x4))]) hx hb d_11_4_65 hl (k := 5) rfl (oI_add x5 1) (by decide) rfl (fun ls hl => ?_)
      refine lv_goto (tgt := 27) hx hb d_11_4_68 (by decide) ?_
      obtain ⟨rfl, rfl, rfl⟩ := in3 h
      exact k0 rfl H locs ls hP hD hS (lv_sub hl [1, 2, 3, 4, 5, 0] rfl)
set_option maxRecDepth 100000 in
set_option maxHeartbeats 4000000 in
theorem s_Po_changePairs_27 (l : Launch) (z : Zz) (ad : Nat → Nat) (E : Ev) (x1 : Int) (x2 : Int) (x3 : Int) (x4 : Int) {Q : State → Prop} {p : Program} {e : Env} {s : State} {m : MethodId} {below : List Frame} {meth : Method} {c : Code} {A : Nat → Prop} {args : Array Value} (hx : p.tables.exec = Jvm.exec) (hb : c.code = prog_11_method_4_code) (hml : c.maxLocals = 6) (hts : ∀ w ∈ WG, w.before args s = true) (hown : s.vm.findClass "Ballothall$Poll" = some m.cls) (hlocks : meth.locks = false) (hA : ∀ q, s.heap.size ≤ q → A q) (hG : KG z s) (hZ : FZ z A s) (hL : Lay E) : ∀ (fu : Nat) (M : Mm) (x5 : Int) (t : Nat) (w5 : Int) (N : Mm), l_Po_changePairs_27 E x1 x2 x3 x4 fu M x5 = some (t, w5, N) → (t = 1 → ∀ (H : Heap) (locs : List Loc) (ls : Array Slot), va_P z.1 classes (wv z ad E N) H → va_D A (wv z ad E N) → va_S A s.heap H locs → lv_has ls 6 [(0, .ref (ad 41)), (1, .int (oI x1)), (2, .int (oI x2)), (3, .int (oI x3)), (4, .int (oI x4))] → W p l e (rmK 1 41 0 0) s m args below meth c H locs 0 0 Q (F0 m 71 ls [])) → ∀ (H : Heap) (locs : List Loc) (ls : Array Slot), va_P z.1 classes (wv z ad E M) H → va_D A (wv z ad E M) → va_S A s.heap H locs → lv_has ls 6 [(0, .ref (ad 41)), (1, .int (oI x1)), (2, .int (oI x2)), (3, .int (oI x3)), (4, .int (oI x4)), (5, .int (oI x5))] → W p l e (rmK 1 41 0 0) s m args below meth c H locs 0 0 Q (F0 m 27 ls []) := by
  intro fu
  induction fu with
  | zero =>
    intro M x5 t w5 N h
    have h : (none : Option (Nat × Int × Mm)) = some _ := h
    cases h
  | succ fu ih =>
    intro M x5 t w5 N h k1 H locs ls hP hD hS hl
    obtain ⟨⟨t0, w50, N9⟩, g0, h⟩ := bd_e h
    refine b_Po_changePairs_27b l z ad E M x1 x2 x3 x4 x5 t0 w50 N9 hx hb hml hts hown hlocks hA hG hZ hL g0 (fun e0 => ?_) (fun e0 => ?_) H locs ls hP hD hS hl
    · subst e0
      have h := ite_t rfl h
      exact ih N9 w50 t w5 N h k1
    · subst e0
      have h := ite_f (by decide) h
      obtain ⟨rfl, rfl, rfl⟩ := in3 h
      exact k1 rfl
set_option maxRecDepth 100000 in
set_option maxHeartbeats 4000000 in
theorem b_Po_changePairs_3b (l : Launch) (z : Zz) (ad : Nat → Nat) (E : Ev) (M : Mm) (x1 : Int) (x2 : Int) (x3 : Int) (x4 : Int) (t : Nat) (w4 : Int) (N : Mm) {Q : State → Prop} {p : Program} {e : Env} {s : State} {m : MethodId} {below : List Frame} {meth : Method} {c : Code} {A : Nat → Prop} {args : Array Value} (hx : p.tables.exec = Jvm.exec) (hb : c.code = prog_11_method_4_code) (hml : c.maxLocals = 6) (hts : ∀ w ∈ WG, w.before args s = true) (hown : s.vm.findClass "Ballothall$Poll" = some m.cls) (hlocks : meth.locks = false) (hA : ∀ q, s.heap.size ≤ q → A q) (hG : KG z s) (hZ : FZ z A s) (hL : Lay E) (h : Po_changePairs_3b E M x1 x2 x3 x4 = some (t, w4, N)) (k0 : t = 0 → ∀ (H : Heap) (locs : List Loc) (ls : Array Slot), va_P z.1 classes (wv z ad E N) H → va_D A (wv z ad E N) → va_S A s.heap H locs → lv_has ls 6 [(0, .ref (ad 41)), (1, .int (oI x1)), (2, .int (oI x2)), (3, .int (oI x3)), (4, .int (oI w4))] → W p l e (rmK 1 41 0 0) s m args below meth c H locs 0 0 Q (F0 m 3 ls [])) (k1 : t = 1 → ∀ (H : Heap) (locs : List Loc) (ls : Array Slot), va_P z.1 classes (wv z ad E N) H → va_D A (wv z ad E N) → va_S A s.heap H locs → lv_has ls 6 [] → W p l e (rmK 1 41 0 0) s m args below meth c H locs 0 0 Q (F0 m 77 ls [])) : ∀ (H : Heap) (locs : List Loc) (ls : Array Slot), va_P z.1 classes (wv z ad E M) H → va_D A (wv z ad E M) → va_S A s.heap H locs → lv_has ls 6 [(0, .ref (ad 41)), (1, .int (oI x1)), (2, .int (oI x2)), (3, .int (oI x3)), (4, .int (oI x4))] → W p l e (rmK 1 41 0 0) s m args below meth c H locs 0 0 Q (F0 m 3 ls []) := by
  intro H locs ls hP hD hS hl
  unfold Po_changePairs_3b at h
  refine lv_iload hx hb d_11_4_3 (lv_at hl 4 rfl) ?_
  refine lv_aload_n hx hb d_11_4_5 rfl (lv_at hl 0 rfl) ?_
  refine m_gr (j := 2) (C := "Ballothall$Poll") (T := TX9) (N := 12) (ci := 9) (k := 0) hx hb hts iX9 hown hG hP (yi_41 hL) (yt_41 hL) rfl (by decide) w_107 (fun _ h9 => h9) rfl rfl (yr_41_0 hL) d_11_4_6 ?_
  refine m_giN (C := "Ballothall$BallotBox") (T := TX0) (N := 10) (ci := 0) (k := 2) hx hb hts iX0 hown hG hP (yi_2 hL) (yt_2 hL) rfl (by decide) n_53 rfl (fun _ h9 => h9) rfl rfl d_11_4_9 ?_
  obtain ⟨ok0, h⟩ := ck_e h
  obtain ⟨ok1, h⟩ := ck_e h
  refine lv_icmp_ge (tgt := 77) hx hb d_11_4_12 (by decide) (fun c9 => ?_) (fun c9 => ?_)
  · have h := ite_t ((oI_le (a := (M 2 2)) (b := x4) ok1 ok0).mp c9) h
    obtain ⟨rfl, rfl, rfl⟩ := in3 h
    exact k1 rfl H locs ls hP hD hS (lv_sub hl [] rfl)
  · have h := ite_f (fun q => c9 ((oI_le (a := (M 2 2)) (b := x4) ok1 ok0).mpr q)) h
    refine lv_iload_n hx hb d_11_4_15 rfl (lv_at hl 1 rfl) ?_
    refine lv_iload hx hb d_11_4_16 (lv_at hl 4 rfl) ?_
    obtain ⟨r2, g2, h⟩ := bd_e h
    refine kSN (As := [.int (oI x1), .int (oI x4)]) (rest := []) (s_B_has l z ad E M x1 x4 r2 hL g2) hx hb hml hown hts w_693 n_691 w_692 w_1 md_26545c ⟨Nat.le_of_ble_eq_true rfl, Nat.le_of_ble_eq_true rfl⟩ hG hZ hP hD hS hA rfl hl.1 rfl (Nat.le_of_ble_eq_true rfl) d_11_4_18 ⟨Nat.le_of_ble_eq_true rfl, Nat.le_of_ble_eq_true rfl⟩ (fun _ H locs hP hD hS => ?_)
    have hP : va_P z.1 classes (wv z ad E M) H := hP
    have hD : va_D A (wv z ad E M) := hD
    refine W.eq (g2 := F0 m 21 ls [.int (oI r2)]) rfl ?_
    obtain ⟨ok3, h⟩ := ck_e h
    refine lv_if_eq (tgt := 71) hx hb d_11_4_21 (by decide) (fun c9 => ?_) (fun c9 => ?_)
    · have h := ite_t ((oI_eq0 ok3).mp c9) h
      refine lv_iinc (v := oI (x4 + 1)) (lv' := [(4, .int (oI (x4 + 1))), (0, .ref (ad 41)), (1, .int (oI x1)), (2, .int (oI x2)), (3, .int (oI x3))]) hx hb d_11_4_71 hl (k := 4) rfl (oI_add x4 1) (by decide) rfl (fun ls hl => ?_)
      refine lv_goto (tgt := 3) hx hb d_11_4_74 (by decide) ?_
      obtain ⟨rfl, rfl, rfl⟩ := in3 h
      exact k0 rfl H locs ls hP hD hS (lv_sub hl [1, 2, 3, 4, 0] rfl)
    · have h := ite_f (fun q => c9 ((oI_eq0 ok3).mpr q)) h
      refine lv_iconst (v := oI 0) hx hb d_11_4_24 (by decide +kernel) ?_
      refine lv_istore (lv' := [(5, .int (oI 0)), (0, .ref (ad 41)), (1, .int (oI x1)), (2, .int (oI x2)), (3, .int (oI x3)), (4, .int (oI x4))]) hx hb d_11_4_25 hl (by decide) rfl (fun ls hl => ?_)
      obtain ⟨⟨t10, v10_5, M10⟩, g10, h⟩ := bd_e h
      obtain ⟨ok10, h⟩ := ck_e h
      refine s_Po_changePairs_27 l z ad E x1 x2 x3 x4 hx hb hml hts hown hlocks hA hG hZ hL FU M 0 t10 v10_5 M10 g10 (fun e10 H locs ls hP hD hS hl => ?_) H locs ls hP hD hS (lv_sub hl [1, 2, 3, 4, 5, 0] rfl)
      refine lv_iinc (v := oI (x4 + 1)) (lv' := [(4, .int (oI (x4 + 1))), (0, .ref (ad 41)), (1, .int (oI x1)), (2, .int (oI x2)), (3, .int (oI x3))]) hx hb d_11_4_71 hl (k := 4) rfl (oI_add x4 1) (by decide) rfl (fun ls hl => ?_)
      refine lv_goto (tgt := 3) hx hb d_11_4_74 (by decide) ?_
      obtain ⟨rfl, rfl, rfl⟩ := in3 h
      exact k0 rfl H locs ls hP hD hS (lv_sub hl [1, 2, 3, 4, 0] rfl)
set_option maxRecDepth 100000 in
set_option maxHeartbeats 4000000 in
theorem s_Po_changePairs_3 (l : Launch) (z : Zz) (ad : Nat → Nat) (E : Ev) (x1 : Int) (x2 : Int) (x3 : Int) {Q : State → Prop} {p : Program} {e : Env} {s : State} {m : MethodId} {below : List Frame} {meth : Method} {c : Code} {A : Nat → Prop} {args : Array Value} (hx : p.tables.exec = Jvm.exec) (hb : c.code = prog_11_method_4_code) (hml : c.maxLocals = 6) (hts : ∀ w ∈ WG, w.before args s = true) (hown : s.vm.findClass "Ballothall$Poll" = some m.cls) (hlocks : meth.locks = false) (hA : ∀ q, s.heap.size ≤ q → A q) (hG : KG z s) (hZ : FZ z A s) (hL : Lay E) : ∀ (fu : Nat) (M : Mm) (x4 : Int) (t : Nat) (w4 : Int) (N : Mm), l_Po_changePairs_3 E x1 x2 x3 fu M x4 = some (t, w4, N) → (t = 1 → ∀ (H : Heap) (locs : List Loc) (ls : Array Slot), va_P z.1 classes (wv z ad E N) H → va_D A (wv z ad E N) → va_S A s.heap H locs → lv_has ls 6 [] → W p l e (rmK 1 41 0 0) s m args below meth c H locs 0 0 Q (F0 m 77 ls [])) → ∀ (H : Heap) (locs : List Loc) (ls : Array Slot), va_P z.1 classes (wv z ad E M) H → va_D A (wv z ad E M) → va_S A s.heap H locs → lv_has ls 6 [(0, .ref (ad 41)), (1, .int (oI x1)), (2, .int (oI x2)), (3, .int (oI x3)), (4, .int (oI x4))] → W p l e (rmK 1 41 0 0) s m args below meth c H locs 0 0 Q (F0 m 3 ls []) := by
  intro fu
  induction fu with
  | zero =>
    intro M x4 t w4 N h
    have h : (none : Option (Nat × Int × Mm)) = some _ := h
    cases h
  | succ fu ih =>
    intro M x4 t w4 N h k1 H locs ls hP hD hS hl
    obtain ⟨⟨t0, w40, N9⟩, g0, h⟩ := bd_e h
    refine b_Po_changePairs_3b l z ad E M x1 x2 x3 x4 t0 w40 N9 hx hb hml hts hown hlocks hA hG hZ hL g0 (fun e0 => ?_) (fun e0 => ?_) H locs ls hP hD hS hl
    · subst e0
      have h := ite_t rfl h
      exact ih N9 w40 t w4 N h k1
    · subst e0
      have h := ite_f (by decide) h
      obtain ⟨rfl, rfl, rfl⟩ := in3 h
      exact k1 rfl
set_option maxRecDepth 100000 in
set_option maxHeartbeats 4000000 in
theorem s_Po_changePairs (l : Launch) (z : Zz) (ad : Nat → Nat) (E : Ev) (M : Mm) (x1 : Int) (x2 : Int) (x3 : Int) (N : Mm) (hL : Lay E) (h : f_Po_changePairs E M x1 x2 x3 = some N) : CT l z ⟨"Ballothall$Poll", "changePairs", "(III)V"⟩ prog_11_method_4_code 6 none [.ref (ad 41), .int (oI x1), .int (oI x2), .int (oI x3)] (wv z ad E M) 1 41 0 0 (fun _ => none) (fun _ => (wv z ad E N)) := by
  refine CT.of (own := "Ballothall$Poll") (by decide +kernel) (Nat.le_of_ble_eq_true rfl) rfl (fun p e s m below meth c A ls hx hb hml hr hts hown hlocks hin hA hG hZ hP hD hS hl => ?_)
  have hl : lv_has ls 6 [(0, .ref (ad 41)), (1, .int (oI x1)), (2, .int (oI x2)), (3, .int (oI x3))] := hl
  have key : ∀ (H : Heap) (locs : List Loc) (args : Array Value), (∀ w ∈ WG, w.before args s = true) → va_P z.1 classes (wv z ad E M) H → va_S A s.heap H locs → W p l e (rmK 1 41 0 0) s m args below meth c H locs 0 0 (MQ below (QK z A (fun _ => none) (fun _ => (wv z ad E N))) args s 0 0 A) (F0 m 0 ls []) := by
    intro H locs args hts hP hS
    unfold f_Po_changePairs at h
    refine lv_iconst (v := oI 0) hx hb d_11_4_0 (by decide +kernel) ?_
    refine lv_istore (lv' := [(4, .int (oI 0)), (0, .ref (ad 41)), (1, .int (oI x1)), (2, .int (oI x2)), (3, .int (oI x3))]) hx hb d_11_4_1 hl (by decide) rfl (fun ls hl => ?_)
    obtain ⟨⟨t11, v11_4, M11⟩, g11, h⟩ := bd_e h
    obtain ⟨ok11, h⟩ := ck_e h
    refine s_Po_changePairs_3 l z ad E x1 x2 x3 hx hb hml hts hown hlocks hA hG hZ hL FU M 0 t11 v11_4 M11 g11 (fun e11 H locs ls hP hD hS hl => ?_) H locs ls hP hD hS (lv_sub hl [1, 2, 3, 4, 0] rfl)
    obtain rfl := in1 h
    exact W.vret hx hb hr (fun t ht hW => qkA hP hD hS (fun k => k) rfl rfl ht) hS.2.2 d_11_4_77
  exact key _ _ _ hts hP hS
set_option maxRecDepth 100000 in
set_option maxHeartbeats 4000000 in
theorem b_Po_change_62b (l : Launch) (z : Zz) (ad : Nat → Nat) (E : Ev) (M : Mm) (x1 : Int) (x2 : Int) (x4 : Int) (x5 : Int) (t : Nat) (w4 : Int) (w5 : Int) (N : Mm) {Q : State → Prop} {p : Program} {e : Env} {s : State} {m : MethodId} {below : List Frame} {meth : Method} {c : Code} {A : Nat → Prop} {args : Array Value} (hx : p.tables.exec = Jvm.exec) (hb : c.code = prog_11_method_3_code) (hml : c.maxLocals = 7) (hts : ∀ w ∈ WG, w.before args s = true) (hown : s.vm.findClass "Ballothall$Poll" = some m.cls) (hlocks : meth.locks = false) (hA : ∀ q, s.heap.size ≤ q → A q) (hG : KG z s) (hZ : FZ z A s) (hL : Lay E) (h : Po_change_62b E M x1 x2 x4 x5 = some (t, w4, w5, N)) (k0 : t = 0 → ∀ (H : Heap) (locs : List Loc) (ls : Array Slot), va_P z.1 classes (wv z ad E N) H → va_D A (wv z ad E N) → va_S A s.heap H locs → lv_has ls 7 [(0, .ref (ad 41)), (1, .int (oI x1)), (2, .int (oI x2)), (4, .int (oI w4)), (5, .int (oI w5))] → W p l e (rmK 2 67 0 0) s m args below meth c H locs 0 0 Q (F0 m 62 ls [])) (k1 : t = 1 → ∀ (H : Heap) (locs : List Loc) (ls : Array Slot), va_P z.1 classes (wv z ad E N) H → va_D A (wv z ad E N) → va_S A s.heap H locs → lv_has ls 7 [(0, .ref (ad 41)), (1, .int (oI x1)), (2, .int (oI x2))] → W p l e (rmK 2 67 0 0) s m args below meth c H locs 0 0 Q (F0 m 119 ls [])) : ∀ (H : Heap) (locs : List Loc) (ls : Array Slot), va_P z.1 classes (wv z ad E M) H → va_D A (wv z ad E M) → va_S A s.heap H locs → lv_has ls 7 [(0, .ref (ad 41)), (1, .int (oI x1)), (2, .int (oI x2)), (4, .int (oI x4)), (5, .int (oI x5))] → W p l e (rmK 2 67 0 0) s m args below meth c H locs 0 0 Q (F0 m 62 ls []) := by
  intro H locs ls hP hD hS hl
  unfold Po_change_62b at h
  refine lv_iload hx hb d_11_3_62 (lv_at hl 4 rfl) ?_
  refine lv_aload_n hx hb d_11_3_64 rfl (lv_at hl 0 rfl) ?_
  refine m_gr (j := 2) (C := "Ballothall$Poll") (T := TX9) (N := 12) (ci := 9) (k := 0) hx hb hts iX9 hown hG hP (yi_41 hL) (yt_41 hL) rfl (by decide) w_107 (fun _ h9 => h9) rfl rfl (yr_41_0 hL) d_11_3_65 ?_
  refine m_grN (j := 7) (C := "Ballothall$BallotBox") (T := TX0) (N := 10) (ci := 0) (k := 7) hx hb hts iX0 hown hG hP (yi_2 hL) (yt_2 hL) rfl (by decide) n_73 rfl (fun _ h9 => h9) rfl rfl (yr_2_7 hL) d_11_3_68 ?_
  refine lv_iload_n hx hb d_11_3_71 rfl (lv_at hl 1 rfl) ?_
  obtain ⟨ok5, h⟩ := ck_e h
  refine m_ia hx hb hG hP (yi_7 hL) (yt_7 hL) ok5 d_11_3_72 ?_
  obtain ⟨ok6, h⟩ := ck_e h
  obtain ⟨ok7, h⟩ := ck_e h
  refine lv_icmp_ge (tgt := 119) hx hb d_11_3_73 (by decide) (fun c9 => ?_) (fun c9 => ?_)
  · have h := ite_t ((oI_le (a := (M 7 x1.toNat)) (b := x5) ok7 ok6).mp c9) h
    obtain ⟨rfl, rfl, rfl, rfl⟩ := in4 h
    exact k1 rfl H locs ls hP hD hS (lv_sub hl [0, 1, 2] rfl)
  · have h := ite_f (fun q => c9 ((oI_le (a := (M 7 x1.toNat)) (b := x5) ok7 ok6).mpr q)) h
    refine lv_aload_n hx hb d_11_3_76 rfl (lv_at hl 0 rfl) ?_
    refine m_gr (j := 2) (C := "Ballothall$Poll") (T := TX9) (N := 12) (ci := 9) (k := 0) hx hb hts iX9 hown hG hP (yi_41 hL) (yt_41 hL) rfl (by decide) w_107 (fun _ h9 => h9) rfl rfl (yr_41_0 hL) d_11_3_77 ?_
    refine m_grN (j := 8) (C := "Ballothall$BallotBox") (T := TX0) (N := 10) (ci := 0) (k := 8) hx hb hts iX0 hown hG hP (yi_2 hL) (yt_2 hL) rfl (by decide) n_76 rfl (fun _ h9 => h9) rfl rfl (yr_2_8 hL) d_11_3_80 ?_
    refine lv_iload_n hx hb d_11_3_83 rfl (lv_at hl 1 rfl) ?_
    refine m_ar (k := (9 + x1.toNat)) hx hb hG hP (yi_8 hL) (yt_8 hL) ok5 (ya_8 hL (inb_lt ok5)) d_11_3_84 ?_
    refine lv_iload hx hb d_11_3_85 (lv_at hl 4 rfl) ?_
    obtain ⟨ok8, h⟩ := ck_e h
    refine m_ia hx hb hG hP (yg_8 hL ok5).1 (yg_8 hL ok5).2 ok8 d_11_3_87 ?_
    refine lv_aload_n hx hb d_11_3_88 rfl (lv_at hl 0 rfl) ?_
    refine m_gi (C := "Ballothall$Poll") (T := TX9) (N := 12) (ci := 9) (k := 1) hx hb hts iX9 hown hG hP (yi_41 hL) (yt_41 hL) rfl (by decide) w_108 (fun _ h9 => h9) rfl rfl d_11_3_89 ?_
    obtain ⟨ok9, h⟩ := ck_e h
    obtain ⟨ok10, h⟩ := ck_e h
    refine lv_iand hx hb d_11_3_92 ?_
    refine nrm (oI_and (a := (M (9 + x1.toNat) x5.toNat)) (b := (M 41 1)) ok9.1 ok9.2 ok10.1 ok10.2) ?_
    obtain ⟨v11, e11, h⟩ := nb_e h
    refine nrm (congrArg oI e11.symm) ?_
    refine lv_istore (lv' := [(6, .int (oI v11)), (0, .ref (ad 41)), (1, .int (oI x1)), (2, .int (oI x2)), (4, .int (oI x4)), (5, .int (oI x5))]) hx hb d_11_3_93 hl (by decide) rfl (fun ls hl => ?_)
    refine lv_iload hx hb d_11_3_95 (lv_at hl 4 rfl) ?_
    refine lv_iload hx hb d_11_3_97 (lv_at hl 0 rfl) ?_
    refine lv_iconst (v := oI (-1)) hx hb d_11_3_99 (by decide +kernel) ?_
    refine lv_ixor hx hb d_11_3_100 ?_
    refine nrm (oI_not _) ?_
    obtain ⟨ok12, h⟩ := ck_e h
    obtain ⟨ok13, h⟩ := ck_e h
    refine lv_iand hx hb d_11_3_101 ?_
    refine nrm (oI_dif ok12.1 ok12.2 ok13.1 ok13.2) ?_
    refine lv_istore (lv' := [(4, .int (oI (dfI x4 v11))), (6, .int (oI v11)), (0, .ref (ad 41)), (1, .int (oI x1)), (2, .int (oI x2)), (5, .int (oI x5))]) hx hb d_11_3_102 hl (by decide) rfl (fun ls hl => ?_)
    refine lv_aload_n hx hb d_11_3_104 rfl (lv_at hl 2 rfl) ?_
    refine lv_iload hx hb d_11_3_105 (lv_at hl 1 rfl) ?_
    refine lv_iload hx hb d_11_3_107 (lv_at hl 0 rfl) ?_
    refine lv_iload_n hx hb d_11_3_109 rfl (lv_at hl 4 rfl) ?_
    obtain ⟨M14, g14, h⟩ := bd_e h
    refine kV (As := [.int (oI v11), .int (oI (dfI x4 v11)), .int (oI x2)]) (rest := []) (s_Po_changePairs l z ad E M v11 (dfI x4 v11) x2 M14 hL g14) hx hb hml hown hts w_690 w_687 w_689 w_s_226bdf w_3 md_40f91f ⟨Nat.le_of_ble_eq_true rfl, Nat.le_of_ble_eq_true rfl⟩ hG hZ hP hD hS hA 41 (wv_o (ci := 9) (yi_41 hL) (yt_41 hL)) rfl rfl rfl hl.1 rfl (Nat.le_of_ble_eq_true rfl) d_11_3_110 ⟨Nat.le_of_ble_eq_true rfl, Nat.le_of_ble_eq_true rfl⟩ (fun _ H locs hP hD hS => ?_)
    have hP : va_P z.1 classes (wv z ad E M14) H := hP
    have hD : va_D A (wv z ad E M14) := hD
    refine W.eq (g2 := F0 m 113 ls []) rfl ?_
    refine lv_iinc (v := oI (x5 + 1)) (lv' := [(5, .int (oI (x5 + 1))), (4, .int (oI (dfI x4 v11))), (6, .int (oI v11)), (0, .ref (ad 41)), (1, .int (oI x1)), (2, .int (oI x2))]) hx hb d_11_3_113 hl (k := 5) rfl (oI_add x5 1) (by decide) rfl (fun ls hl => ?_)
    refine lv_goto (tgt := 62) hx hb d_11_3_116 (by decide) ?_
    obtain ⟨rfl, rfl, rfl, rfl⟩ := in4 h
    exact k0 rfl H locs ls hP hD hS (lv_sub hl [3, 4, 5, 1, 0] rfl)
set_option maxRecDepth 100000 in
set_option maxHeartbeats 4000000 in
theorem s_Po_change_62 (l : Launch) (z : Zz) (ad : Nat → Nat) (E : Ev) (x1 : Int) (x2 : Int) {Q : State → Prop} {p : Program} {e : Env} {s : State} {m : MethodId} {below : List Frame} {meth : Method} {c : Code} {A : Nat → Prop} {args : Array Value} (hx : p.tables.exec = Jvm.exec) (hb : c.code = prog_11_method_3_code) (hml : c.maxLocals = 7) (hts : ∀ w ∈ WG, w.before args s = true) (hown : s.vm.findClass "Ballothall$Poll" = some m.cls) (hlocks : meth.locks = false) (hA : ∀ q, s.heap.size ≤ q → A q) (hG : KG z s) (hZ : FZ z A s) (hL : Lay E) : ∀ (fu : Nat) (M : Mm) (x4 : Int) (x5 : Int) (t : Nat) (w4 : Int) (w5 : Int) (N : Mm), l_Po_change_62 E x1 x2 fu M x4 x5 = some (t, w4, w5, N) → (t = 1 → ∀ (H : Heap) (locs : List Loc) (ls : Array Slot), va_P z.1 classes (wv z ad E N) H → va_D A (wv z ad E N) → va_S A s.heap H locs → lv_has ls 7 [(0, .ref (ad 41)), (1, .int (oI x1)), (2, .int (oI x2))] → W p l e (rmK 2 67 0 0) s m args below meth c H locs 0 0 Q (F0 m 119 ls [])) → ∀ (H : Heap) (locs : List Loc) (ls : Array Slot), va_P z.1 classes (wv z ad E M) H → va_D A (wv z ad E M) → va_S A s.heap H locs → lv_has ls 7 [(0, .ref (ad 41)), (1, .int (oI x1)), (2, .int (oI x2)), (4, .int (oI x4)), (5, .int (oI x5))] → W p l e (rmK 2 67 0 0) s m args below meth c H locs 0 0 Q (F0 m 62 ls []) := by
  intro fu
  induction fu with
  | zero =>
    intro M x4 x5 t w4 w5 N h
    have h : (none : Option (Nat × Int × Int × Mm)) = some _ := h
    cases h
  | succ fu ih =>
    intro M x4 x5 t w4 w5 N h k1 H locs ls hP hD hS hl
    obtain ⟨⟨t0, w40, w50, N9⟩, g0, h⟩ := bd_e h
    refine b_Po_change_62b l z ad E M x1 x2 x4 x5 t0 w40 w50 N9 hx hb hml hts hown hlocks hA hG hZ hL g0 (fun e0 => ?_) (fun e0 => ?_) H locs ls hP hD hS hl
    · subst e0
      have h := ite_t rfl h
      exact ih N9 w40 w50 t w4 w5 N h k1
    · subst e0
      have h := ite_f (by decide) h
      obtain ⟨rfl, rfl, rfl, rfl⟩ := in4 h
      exact k1 rfl
set_option maxRecDepth 100000 in
set_option maxHeartbeats 4000000 in
theorem b_Po_change_122b (l : Launch) (z : Zz) (ad : Nat → Nat) (E : Ev) (M : Mm) (x1 : Int) (x2 : Int) (x5 : Int) (t : Nat) (w5 : Int) (N : Mm) {Q : State → Prop} {p : Program} {e : Env} {s : State} {m : MethodId} {below : List Frame} {meth : Method} {c : Code} {A : Nat → Prop} {args : Array Value} (hx : p.tables.exec = Jvm.exec) (hb : c.code = prog_11_method_3_code) (hml : c.maxLocals = 7) (hts : ∀ w ∈ WG, w.before args s = true) (hown : s.vm.findClass "Ballothall$Poll" = some m.cls) (hlocks : meth.locks = false) (hA : ∀ q, s.heap.size ≤ q → A q) (hG : KG z s) (hZ : FZ z A s) (hL : Lay E) (h : Po_change_122b E M x1 x2 x5 = some (t, w5, N)) (k0 : t = 0 → ∀ (H : Heap) (locs : List Loc) (ls : Array Slot), va_P z.1 classes (wv z ad E N) H → va_D A (wv z ad E N) → va_S A s.heap H locs → lv_has ls 7 [(0, .ref (ad 41)), (1, .int (oI x1)), (2, .int (oI x2)), (5, .int (oI w5))] → W p l e (rmK 2 67 0 0) s m args below meth c H locs 0 0 Q (F0 m 122 ls [])) (k1 : t = 1 → ∀ (H : Heap) (locs : List Loc) (ls : Array Slot), va_P z.1 classes (wv z ad E N) H → va_D A (wv z ad E N) → va_S A s.heap H locs → lv_has ls 7 [] → W p l e (rmK 2 67 0 0) s m args below meth c H locs 0 0 Q (F0 m 173 ls [])) : ∀ (H : Heap) (locs : List Loc) (ls : Array Slot), va_P z.1 classes (wv z ad E M) H → va_D A (wv z ad E M) → va_S A s.heap H locs → lv_has ls 7 [(0, .ref (ad 41)), (1, .int (oI x1)), (2, .int (oI x2)), (5, .int (oI x5))] → W p l e (rmK 2 67 0 0) s m args below meth c H locs 0 0 Q (F0 m 122 ls []) := by
  intro H locs ls hP hD hS hl
  unfold Po_change_122b at h
  refine lv_iload hx hb d_11_3_122 (lv_at hl 3 rfl) ?_
  refine lv_aload_n hx hb d_11_3_124 rfl (lv_at hl 0 rfl) ?_
  refine m_gr (j := 2) (C := "Ballothall$Poll") (T := TX9) (N := 12) (ci := 9) (k := 0) hx hb hts iX9 hown hG hP (yi_41 hL) (yt_41 hL) rfl (by decide) w_107 (fun _ h9 => h9) rfl rfl (yr_41_0 hL) d_11_3_125 ?_
  refine m_giN (C := "Ballothall$BallotBox") (T := TX0) (N := 10) (ci := 0) (k := 2) hx hb hts iX0 hown hG hP (yi_2 hL) (yt_2 hL) rfl (by decide) n_53 rfl (fun _ h9 => h9) rfl rfl d_11_3_128 ?_
  obtain ⟨ok16, h⟩ := ck_e h
  obtain ⟨ok17, h⟩ := ck_e h
  refine lv_icmp_ge (tgt := 173) hx hb d_11_3_131 (by decide) (fun c9 => ?_) (fun c9 => ?_)
  · have h := ite_t ((oI_le (a := (M 2 2)) (b := x5) ok17 ok16).mp c9) h
    obtain ⟨rfl, rfl, rfl⟩ := in3 h
    exact k1 rfl H locs ls hP hD hS (lv_sub hl [] rfl)
  · have h := ite_f (fun q => c9 ((oI_le (a := (M 2 2)) (b := x5) ok17 ok16).mpr q)) h
    refine lv_aload_n hx hb d_11_3_134 rfl (lv_at hl 0 rfl) ?_
    refine m_gr (j := 2) (C := "Ballothall$Poll") (T := TX9) (N := 12) (ci := 9) (k := 0) hx hb hts iX9 hown hG hP (yi_41 hL) (yt_41 hL) rfl (by decide) w_107 (fun _ h9 => h9) rfl rfl (yr_41_0 hL) d_11_3_135 ?_
    refine m_grN (j := 6) (C := "Ballothall$BallotBox") (T := TX0) (N := 10) (ci := 0) (k := 6) hx hb hts iX0 hown hG hP (yi_2 hL) (yt_2 hL) rfl (by decide) n_69 rfl (fun _ h9 => h9) rfl rfl (yr_2_6 hL) d_11_3_138 ?_
    refine lv_iload_n hx hb d_11_3_141 rfl (lv_at hl 1 rfl) ?_
    obtain ⟨ok18, h⟩ := ck_e h
    refine m_ia hx hb hG hP (yi_6 hL) (yt_6 hL) ok18 d_11_3_142 ?_
    refine lv_aload_n hx hb d_11_3_143 rfl (lv_at hl 0 rfl) ?_
    refine m_gi (C := "Ballothall$Poll") (T := TX9) (N := 12) (ci := 9) (k := 1) hx hb hts iX9 hown hG hP (yi_41 hL) (yt_41 hL) rfl (by decide) w_108 (fun _ h9 => h9) rfl rfl d_11_3_144 ?_
    obtain ⟨ok19, h⟩ := ck_e h
    obtain ⟨ok20, h⟩ := ck_e h
    refine lv_iand hx hb d_11_3_147 ?_
    refine nrm (oI_and (a := (M 6 x1.toNat)) (b := (M 41 1)) ok19.1 ok19.2 ok20.1 ok20.2) ?_
    refine lv_iload hx hb d_11_3_148 (lv_at hl 3 rfl) ?_
    obtain ⟨r21, g21, h⟩ := bd_e h
    refine kSN (As := [.int (oI (andI (M 6 x1.toNat) (M 41 1))), .int (oI x5)]) (rest := []) (s_B_has l z ad E M (andI (M 6 x1.toNat) (M 41 1)) x5 r21 hL g21) hx hb hml hown hts w_693 n_691 w_692 w_1 md_26545c ⟨Nat.le_of_ble_eq_true rfl, Nat.le_of_ble_eq_true rfl⟩ hG hZ hP hD hS hA rfl hl.1 rfl (Nat.le_of_ble_eq_true rfl) d_11_3_150 ⟨Nat.le_of_ble_eq_true rfl, Nat.le_of_ble_eq_true rfl⟩ (fun _ H locs hP hD hS => ?_)
    have hP : va_P z.1 classes (wv z ad E M) H := hP
    have hD : va_D A (wv z ad E M) := hD
    refine W.eq (g2 := F0 m 153 ls [.int (oI r21)]) rfl ?_
    obtain ⟨ok22, h⟩ := ck_e h
    refine lv_if_eq (tgt := 167) hx hb d_11_3_153 (by decide) (fun c9 => ?_) (fun c9 => ?_)
    · have h := ite_t ((oI_eq0 ok22).mp c9) h
      refine lv_iinc (v := oI (x5 + 1)) (lv' := [(5, .int (oI (x5 + 1))), (0, .ref (ad 41)), (1, .int (oI x1)), (2, .int (oI x2))]) hx hb d_11_3_167 hl (k := 3) rfl (oI_add x5 1) (by decide) rfl (fun ls hl => ?_)
      refine lv_goto (tgt := 122) hx hb d_11_3_170 (by decide) ?_
      obtain ⟨rfl, rfl, rfl⟩ := in3 h
      exact k0 rfl H locs ls hP hD hS (lv_sub hl [1, 2, 3, 0] rfl)
    · have h := ite_f (fun q => c9 ((oI_eq0 ok22).mpr q)) h
      refine lv_aload_n hx hb d_11_3_156 rfl (lv_at hl 0 rfl) ?_
      refine m_gr (j := 44) (C := "Ballothall$Poll") (T := TX9) (N := 12) (ci := 9) (k := 5) hx hb hts iX9 hown hG hP (yi_41 hL) (yt_41 hL) rfl (by decide) w_112 (fun _ h9 => h9) rfl rfl (yr_41_5 hL) d_11_3_157 ?_
      refine lv_iload hx hb d_11_3_160 (lv_at hl 3 rfl) ?_
      refine lv_dup2_11 hx hb d_11_3_162 rfl rfl ?_
      obtain ⟨ok23, h⟩ := ck_e h
      refine m_ia hx hb hG hP (yi_44 hL) (yt_44 hL) ok23 d_11_3_163 ?_
      refine lv_iload_n hx hb d_11_3_164 rfl (lv_at hl 2 rfl) ?_
      refine lv_iadd hx hb d_11_3_165 ?_
      refine nrm (oI_add _ _) ?_
      refine m_is hx hb hG hP hD hS (yi_44 hL) (yt_44 hL) ok23 d_11_3_166 (fun H locs hP hD hS => ?_)
      have hP : va_P z.1 classes (wv z ad E (u2 M 44 x5.toNat ((M 44 x5.toNat) + x2))) H := hP
      have hD : va_D A (wv z ad E (u2 M 44 x5.toNat ((M 44 x5.toNat) + x2))) := hD
      refine lv_iinc (v := oI (x5 + 1)) (lv' := [(5, .int (oI (x5 + 1))), (0, .ref (ad 41)), (1, .int (oI x1)), (2, .int (oI x2))]) hx hb d_11_3_167 hl (k := 3) rfl (oI_add x5 1) (by decide) rfl (fun ls hl => ?_)
      refine lv_goto (tgt := 122) hx hb d_11_3_170 (by decide) ?_
      obtain ⟨rfl, rfl, rfl⟩ := in3 h
      exact k0 rfl H locs ls hP hD hS (lv_sub hl [1, 2, 3, 0] rfl)
set_option maxRecDepth 100000 in
set_option maxHeartbeats 4000000 in
theorem s_Po_change_122 (l : Launch) (z : Zz) (ad : Nat → Nat) (E : Ev) (x1 : Int) (x2 : Int) {Q : State → Prop} {p : Program} {e : Env} {s : State} {m : MethodId} {below : List Frame} {meth : Method} {c : Code} {A : Nat → Prop} {args : Array Value} (hx : p.tables.exec = Jvm.exec) (hb : c.code = prog_11_method_3_code) (hml : c.maxLocals = 7) (hts : ∀ w ∈ WG, w.before args s = true) (hown : s.vm.findClass "Ballothall$Poll" = some m.cls) (hlocks : meth.locks = false) (hA : ∀ q, s.heap.size ≤ q → A q) (hG : KG z s) (hZ : FZ z A s) (hL : Lay E) : ∀ (fu : Nat) (M : Mm) (x5 : Int) (t : Nat) (w5 : Int) (N : Mm), l_Po_change_122 E x1 x2 fu M x5 = some (t, w5, N) → (t = 1 → ∀ (H : Heap) (locs : List Loc) (ls : Array Slot), va_P z.1 classes (wv z ad E N) H → va_D A (wv z ad E N) → va_S A s.heap H locs → lv_has ls 7 [] → W p l e (rmK 2 67 0 0) s m args below meth c H locs 0 0 Q (F0 m 173 ls [])) → ∀ (H : Heap) (locs : List Loc) (ls : Array Slot), va_P z.1 classes (wv z ad E M) H → va_D A (wv z ad E M) → va_S A s.heap H locs → lv_has ls 7 [(0, .ref (ad 41)), (1, .int (oI x1)), (2, .int (oI x2)), (5, .int (oI x5))] → W p l e (rmK 2 67 0 0) s m args below meth c H locs 0 0 Q (F0 m 122 ls []) := by
  intro fu
  induction fu with
  | zero =>
    intro M x5 t w5 N h
    have h : (none : Option (Nat × Int × Mm)) = some _ := h
    cases h
  | succ fu ih =>
    intro M x5 t w5 N h k1 H locs ls hP hD hS hl
    obtain ⟨⟨t0, w50, N9⟩, g0, h⟩ := bd_e h
    refine b_Po_change_122b l z ad E M x1 x2 x5 t0 w50 N9 hx hb hml hts hown hlocks hA hG hZ hL g0 (fun e0 => ?_) (fun e0 => ?_) H locs ls hP hD hS hl
    · subst e0
      have h := ite_t rfl h
      exact ih N9 w50 t w5 N h k1
    · subst e0
      have h := ite_f (by decide) h
      obtain ⟨rfl, rfl, rfl⟩ := in3 h
      exact k1 rfl
set_option maxRecDepth 100000 in
set_option maxHeartbeats 4000000 in
theorem s_Po_change (l : Launch) (z : Zz) (ad : Nat → Nat) (E : Ev) (M : Mm) (x1 : Int) (x2 : Int) (N : Mm) (hL : Lay E) (h : f_Po_change E M x1 x2 = some N) : CT l z ⟨"Ballothall$Poll", "change", "(II)V"⟩ prog_11_method_3_code 7 none [.ref (ad 41), .int (oI x1), .int (oI x2)] (wv z ad E M) 2 67 0 0 (fun _ => none) (fun _ => (wv z ad E N)) := by
  refine CT.of (own := "Ballothall$Poll") (by decide +kernel) (Nat.le_of_ble_eq_true rfl) rfl (fun p e s m below meth c A ls hx hb hml hr hts hown hlocks hin hA hG hZ hP hD hS hl => ?_)
  have hl : lv_has ls 7 [(0, .ref (ad 41)), (1, .int (oI x1)), (2, .int (oI x2))] := hl
  have key : ∀ (H : Heap) (locs : List Loc) (args : Array Value), (∀ w ∈ WG, w.before args s = true) → va_P z.1 classes (wv z ad E M) H → va_S A s.heap H locs → W p l e (rmK 2 67 0 0) s m args below meth c H locs 0 0 (MQ below (QK z A (fun _ => none) (fun _ => (wv z ad E N))) args s 0 0 A) (F0 m 0 ls []) := by
    intro H locs args hts hP hS
    unfold f_Po_change at h
    refine lv_iload_n hx hb d_11_3_0 rfl (lv_at hl 2 rfl) ?_
    obtain ⟨ok0, h⟩ := ck_e h
    refine lv_if_ne (tgt := 5) hx hb d_11_3_1 (by decide) (fun c9 => ?_) (fun c9 => ?_)
    · have h := ite_f (fun q => c9 ((oI_eq0 ok0).mpr q)) h
      refine lv_aload_n hx hb d_11_3_5 rfl (lv_at hl 0 rfl) ?_
      refine m_gr (j := 42) (C := "Ballothall$Poll") (T := TX9) (N := 12) (ci := 9) (k := 3) hx hb hts iX9 hown hG hP (yi_41 hL) (yt_41 hL) rfl (by decide) w_110 (fun _ h9 => h9) rfl rfl (yr_41_3 hL) d_11_3_6 ?_
      refine lv_iload_n hx hb d_11_3_9 rfl (lv_at hl 1 rfl) ?_
      refine lv_dup2_11 hx hb d_11_3_10 rfl rfl ?_
      obtain ⟨ok1, h⟩ := ck_e h
      refine m_ia hx hb hG hP (yi_42 hL) (yt_42 hL) ok1 d_11_3_11 ?_
      refine lv_iload_n hx hb d_11_3_12 rfl (lv_at hl 2 rfl) ?_
      refine lv_iadd hx hb d_11_3_13 ?_
      refine nrm (oI_add _ _) ?_
      refine m_is hx hb hG hP hD hS (yi_42 hL) (yt_42 hL) ok1 d_11_3_14 (fun H locs hP hD hS => ?_)
      have hP : va_P z.1 classes (wv z ad E (u2 M 42 x1.toNat ((M 42 x1.toNat) + x2))) H := hP
      have hD : va_D A (wv z ad E (u2 M 42 x1.toNat ((M 42 x1.toNat) + x2))) := hD
      refine lv_aload_n hx hb d_11_3_15 rfl (lv_at hl 0 rfl) ?_
      refine lv_dup hx hb d_11_3_16 rfl ?_
      refine m_gi (C := "Ballothall$Poll") (T := TX9) (N := 12) (ci := 9) (k := 2) hx hb hts iX9 hown hG hP (yi_41 hL) (yt_41 hL) rfl (by decide) w_109 (fun _ h9 => h9) rfl rfl d_11_3_17 ?_
      refine lv_iload_n hx hb d_11_3_20 rfl (lv_at hl 2 rfl) ?_
      refine lv_iadd hx hb d_11_3_21 ?_
      refine nrm (oI_add _ _) ?_
      refine m_pi (C := "Ballothall$Poll") (T := TX9) (N := 12) (ci := 9) (k := 2) (ty := .int) hx hb hts iX9 hown hG hP hD hS (yi_41 hL) (yt_41 hL) rfl (by decide) w_109 (fun _ h9 => h9) rfl rfl tyX9_ok nmX9 rfl (by decide +kernel) rfl rfl d_11_3_22 (fun H locs hP hD hS => ?_)
      have hP : va_P z.1 classes (wv z ad E (u2 (u2 M 42 x1.toNat ((M 42 x1.toNat) + x2)) 41 2 (((u2 M 42 x1.toNat ((M 42 x1.toNat) + x2)) 41 2) + x2))) H := hP
      have hD : va_D A (wv z ad E (u2 (u2 M 42 x1.toNat ((M 42 x1.toNat) + x2)) 41 2 (((u2 M 42 x1.toNat ((M 42 x1.toNat) + x2)) 41 2) + x2))) := hD
      obtain ⟨M2, e2, h⟩ := nb_e h
      rw [← e2] at hP hD
      refine lv_aload_n hx hb d_11_3_25 rfl (lv_at hl 0 rfl) ?_
      refine m_gr (j := 2) (C := "Ballothall$Poll") (T := TX9) (N := 12) (ci := 9) (k := 0) hx hb hts iX9 hown hG hP (yi_41 hL) (yt_41 hL) rfl (by decide) w_107 (fun _ h9 => h9) rfl rfl (yr_41_0 hL) d_11_3_26 ?_
      refine lv_iload_n hx hb d_11_3_29 rfl (lv_at hl 1 rfl) ?_
      refine lv_aload_n hx hb d_11_3_30 rfl (lv_at hl 0 rfl) ?_
      refine m_gi (C := "Ballothall$Poll") (T := TX9) (N := 12) (ci := 9) (k := 1) hx hb hts iX9 hown hG hP (yi_41 hL) (yt_41 hL) rfl (by decide) w_108 (fun _ h9 => h9) rfl rfl d_11_3_31 ?_
      obtain ⟨r3, g3, h⟩ := bd_e h
      refine kVN (As := [.int (oI x1), .int (oI (M2 41 1))]) (rest := []) (s_Bx_soleTopOf l z ad E M2 x1 (M2 41 1) r3 hL g3) hx hb hml hown hts w_681 n_678 w_680 w_s_fbd9d2 w_2 md_0f833a ⟨Nat.le_of_ble_eq_true rfl, Nat.le_of_ble_eq_true rfl⟩ hG hZ hP hD hS hA 2 (wv_o (ci := 0) (yi_2 hL) (yt_2 hL)) rfl rfl rfl hl.1 rfl (Nat.le_of_ble_eq_true rfl) d_11_3_34 ⟨Nat.le_of_ble_eq_true rfl, Nat.le_of_ble_eq_true rfl⟩ (fun _ H locs hP hD hS => ?_)
      have hP : va_P z.1 classes (wv z ad E M2) H := hP
      have hD : va_D A (wv z ad E M2) := hD
      refine W.eq (g2 := F0 m 37 ls [.int (oI r3)]) rfl ?_
      refine lv_istore_n (lv' := [(3, .int (oI r3)), (0, .ref (ad 41)), (1, .int (oI x1)), (2, .int (oI x2))]) hx hb d_11_3_37 rfl hl (by decide) rfl (fun ls hl => ?_)
      refine lv_iload_n hx hb d_11_3_38 rfl (lv_at hl 0 rfl) ?_
      refine lv_iconst (v := oI (-1)) hx hb d_11_3_39 (by decide +kernel) ?_
      obtain ⟨ok4, h⟩ := ck_e h
      refine lv_icmp_eq (tgt := 53) hx hb d_11_3_40 (by decide) (fun c9 => ?_) (fun c9 => ?_)
      · have h := ite_t ((oI_eq (a := r3) (b := (-1 : Int)) ok4 (by decide)).mp c9) h
        refine lv_aload_n hx hb d_11_3_53 rfl (lv_at hl 1 rfl) ?_
        refine m_gi (C := "Ballothall$Poll") (T := TX9) (N := 12) (ci := 9) (k := 1) hx hb hts iX9 hown hG hP (yi_41 hL) (yt_41 hL) rfl (by decide) w_108 (fun _ h9 => h9) rfl rfl d_11_3_54 ?_
        refine lv_istore (lv' := [(4, .int (oI (M2 41 1))), (3, .int (oI r3)), (0, .ref (ad 41)), (1, .int (oI x1)), (2, .int (oI x2))]) hx hb d_11_3_57 hl (by decide) rfl (fun ls hl => ?_)
        refine lv_iconst (v := oI 0) hx hb d_11_3_59 (by decide +kernel) ?_
        refine lv_istore (lv' := [(5, .int (oI 0)), (4, .int (oI (M2 41 1))), (3, .int (oI r3)), (0, .ref (ad 41)), (1, .int (oI x1)), (2, .int (oI x2))]) hx hb d_11_3_60 hl (by decide) rfl (fun ls hl => ?_)
        obtain ⟨⟨t15, v15_4, v15_5, M15⟩, g15, h⟩ := bd_e h
        obtain ⟨ok15, h⟩ := ck_e h
        refine s_Po_change_62 l z ad E x1 x2 hx hb hml hts hown hlocks hA hG hZ hL FU M2 (M2 41 1) 0 t15 v15_4 v15_5 M15 g15 (fun e15 H locs ls hP hD hS hl => ?_) H locs ls hP hD hS (lv_sub hl [3, 4, 5, 1, 0] rfl)
        refine lv_iconst (v := oI 0) hx hb d_11_3_119 (by decide +kernel) ?_
        refine lv_istore (lv' := [(5, .int (oI 0)), (0, .ref (ad 41)), (1, .int (oI x1)), (2, .int (oI x2))]) hx hb d_11_3_120 hl (by decide) rfl (fun ls hl => ?_)
        obtain ⟨⟨t24, v24_5, M24⟩, g24, h⟩ := bd_e h
        obtain ⟨ok24, h⟩ := ck_e h
        refine s_Po_change_122 l z ad E x1 x2 hx hb hml hts hown hlocks hA hG hZ hL FU M15 0 t24 v24_5 M24 g24 (fun e24 H locs ls hP hD hS hl => ?_) H locs ls hP hD hS (lv_sub hl [1, 2, 3, 0] rfl)
        obtain rfl := in1 h
        exact W.vret hx hb hr (fun t ht hW => qkA hP hD hS (fun k => k) rfl rfl ht) hS.2.2 d_11_3_173
      · have h := ite_f (fun q => c9 ((oI_eq (a := r3) (b := (-1 : Int)) ok4 (by decide)).mpr q)) h
        refine lv_aload_n hx hb d_11_3_43 rfl (lv_at hl 1 rfl) ?_
        refine m_gr (j := 43) (C := "Ballothall$Poll") (T := TX9) (N := 12) (ci := 9) (k := 4) hx hb hts iX9 hown hG hP (yi_41 hL) (yt_41 hL) rfl (by decide) w_111 (fun _ h9 => h9) rfl rfl (yr_41_4 hL) d_11_3_44 ?_
        refine lv_iload_n hx hb d_11_3_47 rfl (lv_at hl 0 rfl) ?_
        refine lv_dup2_11 hx hb d_11_3_48 rfl rfl ?_
        obtain ⟨ok25, h⟩ := ck_e h
        refine m_ia hx hb hG hP (yi_43 hL) (yt_43 hL) ok25 d_11_3_49 ?_
        refine lv_iload_n hx hb d_11_3_50 rfl (lv_at hl 3 rfl) ?_
        refine lv_iadd hx hb d_11_3_51 ?_
        refine nrm (oI_add _ _) ?_
        refine m_is hx hb hG hP hD hS (yi_43 hL) (yt_43 hL) ok25 d_11_3_52 (fun H locs hP hD hS => ?_)
        have hP : va_P z.1 classes (wv z ad E (u2 M2 43 r3.toNat ((M2 43 r3.toNat) + x2))) H := hP
        have hD : va_D A (wv z ad E (u2 M2 43 r3.toNat ((M2 43 r3.toNat) + x2))) := hD
        refine lv_aload_n hx hb d_11_3_53 rfl (lv_at hl 1 rfl) ?_
        refine m_gi (C := "Ballothall$Poll") (T := TX9) (N := 12) (ci := 9) (k := 1) hx hb hts iX9 hown hG hP (yi_41 hL) (yt_41 hL) rfl (by decide) w_108 (fun _ h9 => h9) rfl rfl d_11_3_54 ?_
        obtain ⟨v26, e26, h⟩ := nb_e h
        refine nrm (congrArg oI e26.symm) ?_
        refine lv_istore (lv' := [(4, .int (oI v26)), (3, .int (oI r3)), (0, .ref (ad 41)), (1, .int (oI x1)), (2, .int (oI x2))]) hx hb d_11_3_57 hl (by decide) rfl (fun ls hl => ?_)
        refine lv_iconst (v := oI 0) hx hb d_11_3_59 (by decide +kernel) ?_
        refine lv_istore (lv' := [(5, .int (oI 0)), (4, .int (oI v26)), (3, .int (oI r3)), (0, .ref (ad 41)), (1, .int (oI x1)), (2, .int (oI x2))]) hx hb d_11_3_60 hl (by decide) rfl (fun ls hl => ?_)
        obtain ⟨⟨t27, v27_4, v27_5, M27⟩, g27, h⟩ := bd_e h
        obtain ⟨ok27, h⟩ := ck_e h
        refine s_Po_change_62 l z ad E x1 x2 hx hb hml hts hown hlocks hA hG hZ hL FU (u2 M2 43 r3.toNat ((M2 43 r3.toNat) + x2)) v26 0 t27 v27_4 v27_5 M27 g27 (fun e27 H locs ls hP hD hS hl => ?_) H locs ls hP hD hS (lv_sub hl [3, 4, 5, 1, 0] rfl)
        refine lv_iconst (v := oI 0) hx hb d_11_3_119 (by decide +kernel) ?_
        refine lv_istore (lv' := [(5, .int (oI 0)), (0, .ref (ad 41)), (1, .int (oI x1)), (2, .int (oI x2))]) hx hb d_11_3_120 hl (by decide) rfl (fun ls hl => ?_)
        obtain ⟨⟨t28, v28_5, M28⟩, g28, h⟩ := bd_e h
        obtain ⟨ok28, h⟩ := ck_e h
        refine s_Po_change_122 l z ad E x1 x2 hx hb hml hts hown hlocks hA hG hZ hL FU M27 0 t28 v28_5 M28 g28 (fun e28 H locs ls hP hD hS hl => ?_) H locs ls hP hD hS (lv_sub hl [1, 2, 3, 0] rfl)
        obtain rfl := in1 h
        exact W.vret hx hb hr (fun t ht hW => qkA hP hD hS (fun k => k) rfl rfl ht) hS.2.2 d_11_3_173
    · have h := ite_t ((oI_eq0 ok0).mp c9) h
      obtain rfl := in1 h
      exact W.vret hx hb hr (fun t ht hW => qkA hP hD hS (fun k => k) rfl rfl ht) hS.2.2 d_11_3_4
  exact key _ _ _ hts hP hS
set_option maxRecDepth 100000 in
set_option maxHeartbeats 4000000 in
theorem b_Po_open_44b (l : Launch) (z : Zz) (ad : Nat → Nat) (E : Ev) (M : Mm) (x2 : Int) (t : Nat) (w2 : Int) (N : Mm) {Q : State → Prop} {p : Program} {e : Env} {s : State} {m : MethodId} {below : List Frame} {meth : Method} {c : Code} {A : Nat → Prop} {args : Array Value} (hx : p.tables.exec = Jvm.exec) (hb : c.code = prog_11_method_2_code) (hml : c.maxLocals = 3) (hts : ∀ w ∈ WG, w.before args s = true) (hown : s.vm.findClass "Ballothall$Poll" = some m.cls) (hlocks : meth.locks = false) (hA : ∀ q, s.heap.size ≤ q → A q) (hG : KG z s) (hZ : FZ z A s) (hL : Lay E) (h : Po_open_44b E M x2 = some (t, w2, N)) (k0 : t = 0 → ∀ (H : Heap) (locs : List Loc) (ls : Array Slot), va_P z.1 classes (wv z ad E N) H → va_D A (wv z ad E N) → va_S A s.heap H locs → lv_has ls 3 [(0, .ref (ad 41)), (2, .int (oI w2))] → W p l e (rmK 3 93 0 0) s m args below meth c H locs 0 0 Q (F0 m 44 ls [])) (k1 : t = 1 → ∀ (H : Heap) (locs : List Loc) (ls : Array Slot), va_P z.1 classes (wv z ad E N) H → va_D A (wv z ad E N) → va_S A s.heap H locs → lv_has ls 3 [] → W p l e (rmK 3 93 0 0) s m args below meth c H locs 0 0 Q (F0 m 75 ls [])) : ∀ (H : Heap) (locs : List Loc) (ls : Array Slot), va_P z.1 classes (wv z ad E M) H → va_D A (wv z ad E M) → va_S A s.heap H locs → lv_has ls 3 [(0, .ref (ad 41)), (2, .int (oI x2))] → W p l e (rmK 3 93 0 0) s m args below meth c H locs 0 0 Q (F0 m 44 ls []) := by
  intro H locs ls hP hD hS hl
  unfold Po_open_44b at h
  refine lv_iload_n hx hb d_11_2_44 rfl (lv_at hl 1 rfl) ?_
  refine lv_aload_n hx hb d_11_2_45 rfl (lv_at hl 0 rfl) ?_
  refine m_gr (j := 2) (C := "Ballothall$Poll") (T := TX9) (N := 12) (ci := 9) (k := 0) hx hb hts iX9 hown hG hP (yi_41 hL) (yt_41 hL) rfl (by decide) w_107 (fun _ h9 => h9) rfl rfl (yr_41_0 hL) d_11_2_46 ?_
  refine m_giN (C := "Ballothall$BallotBox") (T := TX0) (N := 10) (ci := 0) (k := 3) hx hb hts iX0 hown hG hP (yi_2 hL) (yt_2 hL) rfl (by decide) n_57 rfl (fun _ h9 => h9) rfl rfl d_11_2_49 ?_
  obtain ⟨ok4, h⟩ := ck_e h
  obtain ⟨ok5, h⟩ := ck_e h
  refine lv_icmp_ge (tgt := 75) hx hb d_11_2_52 (by decide) (fun c9 => ?_) (fun c9 => ?_)
  · have h := ite_t ((oI_le (a := (M 2 3)) (b := x2) ok5 ok4).mp c9) h
    obtain ⟨rfl, rfl, rfl⟩ := in3 h
    exact k1 rfl H locs ls hP hD hS (lv_sub hl [] rfl)
  · have h := ite_f (fun q => c9 ((oI_le (a := (M 2 3)) (b := x2) ok5 ok4).mpr q)) h
    refine lv_aload_n hx hb d_11_2_55 rfl (lv_at hl 0 rfl) ?_
    refine lv_iload_n hx hb d_11_2_56 rfl (lv_at hl 1 rfl) ?_
    refine lv_aload_n hx hb d_11_2_57 rfl (lv_at hl 0 rfl) ?_
    refine m_gr (j := 2) (C := "Ballothall$Poll") (T := TX9) (N := 12) (ci := 9) (k := 0) hx hb hts iX9 hown hG hP (yi_41 hL) (yt_41 hL) rfl (by decide) w_107 (fun _ h9 => h9) rfl rfl (yr_41_0 hL) d_11_2_58 ?_
    refine m_grN (j := 5) (C := "Ballothall$BallotBox") (T := TX0) (N := 10) (ci := 0) (k := 5) hx hb hts iX0 hown hG hP (yi_2 hL) (yt_2 hL) rfl (by decide) n_65 rfl (fun _ h9 => h9) rfl rfl (yr_2_5 hL) d_11_2_61 ?_
    refine lv_iload_n hx hb d_11_2_64 rfl (lv_at hl 1 rfl) ?_
    obtain ⟨ok6, h⟩ := ck_e h
    refine m_ia hx hb hG hP (yi_5 hL) (yt_5 hL) ok6 d_11_2_65 ?_
    obtain ⟨M7, g7, h⟩ := bd_e h
    refine kV (As := [.int (oI x2), .int (oI (M 5 x2.toNat))]) (rest := []) (s_Po_change l z ad E M x2 (M 5 x2.toNat) M7 hL g7) hx hb hml hown hts w_677 w_674 w_676 w_s_d035ed w_3 md_d775df ⟨Nat.le_of_ble_eq_true rfl, Nat.le_of_ble_eq_true rfl⟩ hG hZ hP hD hS hA 41 (wv_o (ci := 9) (yi_41 hL) (yt_41 hL)) rfl rfl rfl hl.1 rfl (Nat.le_of_ble_eq_true rfl) d_11_2_66 ⟨Nat.le_of_ble_eq_true rfl, Nat.le_of_ble_eq_true rfl⟩ (fun _ H locs hP hD hS => ?_)
    have hP : va_P z.1 classes (wv z ad E M7) H := hP
    have hD : va_D A (wv z ad E M7) := hD
    refine W.eq (g2 := F0 m 69 ls []) rfl ?_
    refine lv_iinc (v := oI (x2 + 1)) (lv' := [(2, .int (oI (x2 + 1))), (0, .ref (ad 41))]) hx hb d_11_2_69 hl (k := 1) rfl (oI_add x2 1) (by decide) rfl (fun ls hl => ?_)
    refine lv_goto (tgt := 44) hx hb d_11_2_72 (by decide) ?_
    obtain ⟨rfl, rfl, rfl⟩ := in3 h
    exact k0 rfl H locs ls hP hD hS (lv_sub hl [1, 0] rfl)
set_option maxRecDepth 100000 in
set_option maxHeartbeats 4000000 in
theorem s_Po_open_44 (l : Launch) (z : Zz) (ad : Nat → Nat) (E : Ev) {Q : State → Prop} {p : Program} {e : Env} {s : State} {m : MethodId} {below : List Frame} {meth : Method} {c : Code} {A : Nat → Prop} {args : Array Value} (hx : p.tables.exec = Jvm.exec) (hb : c.code = prog_11_method_2_code) (hml : c.maxLocals = 3) (hts : ∀ w ∈ WG, w.before args s = true) (hown : s.vm.findClass "Ballothall$Poll" = some m.cls) (hlocks : meth.locks = false) (hA : ∀ q, s.heap.size ≤ q → A q) (hG : KG z s) (hZ : FZ z A s) (hL : Lay E) : ∀ (fu : Nat) (M : Mm) (x2 : Int) (t : Nat) (w2 : Int) (N : Mm), l_Po_open_44 E fu M x2 = some (t, w2, N) → (t = 1 → ∀ (H : Heap) (locs : List Loc) (ls : Array Slot), va_P z.1 classes (wv z ad E N) H → va_D A (wv z ad E N) → va_S A s.heap H locs → lv_has ls 3 [] → W p l e (rmK 3 93 0 0) s m args below meth c H locs 0 0 Q (F0 m 75 ls [])) → ∀ (H : Heap) (locs : List Loc) (ls : Array Slot), va_P z.1 classes (wv z ad E M) H → va_D A (wv z ad E M) → va_S A s.heap H locs → lv_has ls 3 [(0, .ref (ad 41)), (2, .int (oI x2))] → W p l e (rmK 3 93 0 0) s m args below meth c H locs 0 0 Q (F0 m 44 ls []) := by
  intro fu
  induction fu with
  | zero =>
    intro M x2 t w2 N h
    have h : (none : Option (Nat × Int × Mm)) = some _ := h
    cases h
  | succ fu ih =>
    intro M x2 t w2 N h k1 H locs ls hP hD hS hl
    obtain ⟨⟨t0, w20, N9⟩, g0, h⟩ := bd_e h
    refine b_Po_open_44b l z ad E M x2 t0 w20 N9 hx hb hml hts hown hlocks hA hG hZ hL g0 (fun e0 => ?_) (fun e0 => ?_) H locs ls hP hD hS hl
    · subst e0
      have h := ite_t rfl h
      exact ih N9 w20 t w2 N h k1
    · subst e0
      have h := ite_f (by decide) h
      obtain ⟨rfl, rfl, rfl⟩ := in3 h
      exact k1 rfl
set_option maxRecDepth 100000 in
set_option maxHeartbeats 4000000 in
theorem s_Po_open (l : Launch) (z : Zz) (ad : Nat → Nat) (E : Ev) (M : Mm) (x1 : Int) (N : Mm) (hL : Lay E) (h : f_Po_open E M x1 = some N) : CT l z ⟨"Ballothall$Poll", "open", "(I)V"⟩ prog_11_method_2_code 3 none [.ref (ad 41), .int (oI x1)] (wv z ad E M) 3 93 0 0 (fun _ => none) (fun _ => (wv z ad E N)) := by
  refine CT.of (own := "Ballothall$Poll") (by decide +kernel) (Nat.le_of_ble_eq_true rfl) rfl (fun p e s m below meth c A ls hx hb hml hr hts hown hlocks hin hA hG hZ hP hD hS hl => ?_)
  have hl : lv_has ls 3 [(0, .ref (ad 41)), (1, .int (oI x1))] := hl
  have key : ∀ (H : Heap) (locs : List Loc) (args : Array Value), (∀ w ∈ WG, w.before args s = true) → va_P z.1 classes (wv z ad E M) H → va_S A s.heap H locs → W p l e (rmK 3 93 0 0) s m args below meth c H locs 0 0 (MQ below (QK z A (fun _ => none) (fun _ => (wv z ad E N))) args s 0 0 A) (F0 m 0 ls []) := by
    intro H locs args hts hP hS
    unfold f_Po_open at h
    refine lv_aload_n hx hb d_11_2_0 rfl (lv_at hl 0 rfl) ?_
    refine lv_iload_n hx hb d_11_2_1 rfl (lv_at hl 1 rfl) ?_
    refine m_pi (C := "Ballothall$Poll") (T := TX9) (N := 12) (ci := 9) (k := 1) (ty := .int) hx hb hts iX9 hown hG hP hD hS (yi_41 hL) (yt_41 hL) rfl (by decide) w_108 (fun _ h9 => h9) rfl rfl tyX9_ok nmX9 rfl (by decide +kernel) rfl rfl d_11_2_2 (fun H locs hP hD hS => ?_)
    have hP : va_P z.1 classes (wv z ad E (u2 M 41 1 x1)) H := hP
    have hD : va_D A (wv z ad E (u2 M 41 1 x1)) := hD
    refine lv_aload_n hx hb d_11_2_5 rfl (lv_at hl 0 rfl) ?_
    refine lv_iconst (v := oI 0) hx hb d_11_2_6 (by decide +kernel) ?_
    refine m_pi (C := "Ballothall$Poll") (T := TX9) (N := 12) (ci := 9) (k := 2) (ty := .int) hx hb hts iX9 hown hG hP hD hS (yi_41 hL) (yt_41 hL) rfl (by decide) w_109 (fun _ h9 => h9) rfl rfl tyX9_ok nmX9 rfl (by decide +kernel) rfl rfl d_11_2_7 (fun H locs hP hD hS => ?_)
    have hP : va_P z.1 classes (wv z ad E (u2 (u2 M 41 1 x1) 41 2 0)) H := hP
    have hD : va_D A (wv z ad E (u2 (u2 M 41 1 x1) 41 2 0)) := hD
    refine lv_aload_n hx hb d_11_2_10 rfl (lv_at hl 0 rfl) ?_
    refine m_gr (j := 42) (C := "Ballothall$Poll") (T := TX9) (N := 12) (ci := 9) (k := 3) hx hb hts iX9 hown hG hP (yi_41 hL) (yt_41 hL) rfl (by decide) w_110 (fun _ h9 => h9) rfl rfl (yr_41_3 hL) d_11_2_11 ?_
    refine lv_iconst (v := oI 0) hx hb d_11_2_14 (by decide +kernel) ?_
    obtain ⟨M0, g0, h⟩ := bd_e h
    refine kS (As := [.ref (ad 42), .int (oI 0)]) (rest := []) (s_Ar_fillI l z ad E (u2 (u2 M 41 1 x1) 41 2 0) 42 0 M0 hL g0) hx hb hml hown hts w_653 w_673 w_652 w_23 md_e8f65d ⟨Nat.le_of_ble_eq_true rfl, Nat.le_of_ble_eq_true rfl⟩ hG hZ hP hD hS hA rfl hl.1 rfl (Nat.le_of_ble_eq_true rfl) d_11_2_15 ⟨Nat.le_of_ble_eq_true rfl, Nat.le_of_ble_eq_true rfl⟩ (fun _ H locs hP hD hS => ?_)
    have hP : va_P z.1 classes (wv z ad E M0) H := hP
    have hD : va_D A (wv z ad E M0) := hD
    refine W.eq (g2 := F0 m 18 ls []) rfl ?_
    refine lv_aload_n hx hb d_11_2_18 rfl (lv_at hl 0 rfl) ?_
    refine m_gr (j := 43) (C := "Ballothall$Poll") (T := TX9) (N := 12) (ci := 9) (k := 4) hx hb hts iX9 hown hG hP (yi_41 hL) (yt_41 hL) rfl (by decide) w_111 (fun _ h9 => h9) rfl rfl (yr_41_4 hL) d_11_2_19 ?_
    refine lv_iconst (v := oI 0) hx hb d_11_2_22 (by decide +kernel) ?_
    obtain ⟨M1, g1, h⟩ := bd_e h
    refine kS (As := [.ref (ad 43), .int (oI 0)]) (rest := []) (s_Ar_fillI l z ad E M0 43 0 M1 hL g1) hx hb hml hown hts w_653 w_673 w_652 w_23 md_e8f65d ⟨Nat.le_of_ble_eq_true rfl, Nat.le_of_ble_eq_true rfl⟩ hG hZ hP hD hS hA rfl hl.1 rfl (Nat.le_of_ble_eq_true rfl) d_11_2_23 ⟨Nat.le_of_ble_eq_true rfl, Nat.le_of_ble_eq_true rfl⟩ (fun _ H locs hP hD hS => ?_)
    have hP : va_P z.1 classes (wv z ad E M1) H := hP
    have hD : va_D A (wv z ad E M1) := hD
    refine W.eq (g2 := F0 m 26 ls []) rfl ?_
    refine lv_aload_n hx hb d_11_2_26 rfl (lv_at hl 0 rfl) ?_
    refine m_gr (j := 44) (C := "Ballothall$Poll") (T := TX9) (N := 12) (ci := 9) (k := 5) hx hb hts iX9 hown hG hP (yi_41 hL) (yt_41 hL) rfl (by decide) w_112 (fun _ h9 => h9) rfl rfl (yr_41_5 hL) d_11_2_27 ?_
    refine lv_iconst (v := oI 0) hx hb d_11_2_30 (by decide +kernel) ?_
    obtain ⟨M2, g2, h⟩ := bd_e h
    refine kS (As := [.ref (ad 44), .int (oI 0)]) (rest := []) (s_Ar_fillI l z ad E M1 44 0 M2 hL g2) hx hb hml hown hts w_653 w_673 w_652 w_23 md_e8f65d ⟨Nat.le_of_ble_eq_true rfl, Nat.le_of_ble_eq_true rfl⟩ hG hZ hP hD hS hA rfl hl.1 rfl (Nat.le_of_ble_eq_true rfl) d_11_2_31 ⟨Nat.le_of_ble_eq_true rfl, Nat.le_of_ble_eq_true rfl⟩ (fun _ H locs hP hD hS => ?_)
    have hP : va_P z.1 classes (wv z ad E M2) H := hP
    have hD : va_D A (wv z ad E M2) := hD
    refine W.eq (g2 := F0 m 34 ls []) rfl ?_
    refine lv_aload_n hx hb d_11_2_34 rfl (lv_at hl 0 rfl) ?_
    refine m_gr (j := 45) (C := "Ballothall$Poll") (T := TX9) (N := 12) (ci := 9) (k := 6) hx hb hts iX9 hown hG hP (yi_41 hL) (yt_41 hL) rfl (by decide) w_113 (fun _ h9 => h9) rfl rfl (yr_41_6 hL) d_11_2_35 ?_
    refine lv_iconst (v := oI 0) hx hb d_11_2_38 (by decide +kernel) ?_
    obtain ⟨M3, g3, h⟩ := bd_e h
    refine kS (As := [.ref (ad 45), .int (oI 0)]) (rest := []) (s_Ar_fillI l z ad E M2 45 0 M3 hL g3) hx hb hml hown hts w_653 w_673 w_652 w_23 md_e8f65d ⟨Nat.le_of_ble_eq_true rfl, Nat.le_of_ble_eq_true rfl⟩ hG hZ hP hD hS hA rfl hl.1 rfl (Nat.le_of_ble_eq_true rfl) d_11_2_39 ⟨Nat.le_of_ble_eq_true rfl, Nat.le_of_ble_eq_true rfl⟩ (fun _ H locs hP hD hS => ?_)
    have hP : va_P z.1 classes (wv z ad E M3) H := hP
    have hD : va_D A (wv z ad E M3) := hD
    refine W.eq (g2 := F0 m 42 ls []) rfl ?_
    refine lv_iconst (v := oI 0) hx hb d_11_2_42 (by decide +kernel) ?_
    refine lv_istore_n (lv' := [(2, .int (oI 0)), (0, .ref (ad 41)), (1, .int (oI x1))]) hx hb d_11_2_43 rfl hl (by decide) rfl (fun ls hl => ?_)
    obtain ⟨⟨t8, v8_2, M8⟩, g8, h⟩ := bd_e h
    obtain ⟨ok8, h⟩ := ck_e h
    refine s_Po_open_44 l z ad E hx hb hml hts hown hlocks hA hG hZ hL FU M3 0 t8 v8_2 M8 g8 (fun e8 H locs ls hP hD hS hl => ?_) H locs ls hP hD hS (lv_sub hl [1, 0] rfl)
    obtain rfl := in1 h
    exact W.vret hx hb hr (fun t ht hW => qkA hP hD hS (fun k => k) rfl rfl ht) hS.2.2 d_11_2_75
  exact key _ _ _ hts hP hS
set_option maxRecDepth 100000 in
set_option maxHeartbeats 4000000 in
theorem s_Po_pair (l : Launch) (z : Zz) (ad : Nat → Nat) (E : Ev) (M : Mm) (x1 : Int) (x2 : Int) (r : Int)  (hL : Lay E) (h : f_Po_pair E M x1 x2 = some r) : CT l z ⟨"Ballothall$Poll", "pair", "(II)I"⟩ prog_11_method_5_code 3 (some .int) [.ref (ad 41), .int (oI x1), .int (oI x2)] (wv z ad E M) 0 20 0 0 (fun _ => some (.int (oI r))) (fun _ => (wv z ad E M)) := by
  refine CT.of (own := "Ballothall$Poll") (by decide +kernel) (Nat.le_of_ble_eq_true rfl) rfl (fun p e s m below meth c A ls hx hb hml hr hts hown hlocks hin hA hG hZ hP hD hS hl => ?_)
  have hl : lv_has ls 3 [(0, .ref (ad 41)), (1, .int (oI x1)), (2, .int (oI x2))] := hl
  have key : ∀ (H : Heap) (locs : List Loc) (args : Array Value), (∀ w ∈ WG, w.before args s = true) → va_P z.1 classes (wv z ad E M) H → va_S A s.heap H locs → W p l e (rmK 0 20 0 0) s m args below meth c H locs 0 0 (MQ below (QK z A (fun _ => some (.int (oI r))) (fun _ => (wv z ad E M))) args s 0 0 A) (F0 m 0 ls []) := by
    intro H locs args hts hP hS
    unfold f_Po_pair at h
    refine lv_aload_n hx hb d_11_5_0 rfl (lv_at hl 0 rfl) ?_
    refine m_gr (j := 45) (C := "Ballothall$Poll") (T := TX9) (N := 12) (ci := 9) (k := 6) hx hb hts iX9 hown hG hP (yi_41 hL) (yt_41 hL) rfl (by decide) w_113 (fun _ h9 => h9) rfl rfl (yr_41_6 hL) d_11_5_1 ?_
    refine lv_iload_n hx hb d_11_5_4 rfl (lv_at hl 1 rfl) ?_
    refine lv_bipush (v := oI 8) hx hb d_11_5_5 (by decide +kernel) ?_
    refine lv_imul hx hb d_11_5_7 ?_
    refine nrm (oI_mul _ _) ?_
    refine lv_iload_n hx hb d_11_5_8 rfl (lv_at hl 2 rfl) ?_
    refine lv_iadd hx hb d_11_5_9 ?_
    refine nrm (oI_add _ _) ?_
    obtain ⟨ok0, h⟩ := ck_e h
    refine m_ia hx hb hG hP (yi_45 hL) (yt_45 hL) ok0 d_11_5_10 ?_
    obtain rfl := in1 h
    exact W.iret hx hb hr (fun t ht hW => qkA hP hD hS (fun k => k) rfl rfl ht) hS.2.2 d_11_5_11
  exact key _ _ _ hts hP hS
set_option maxRecDepth 100000 in
set_option maxHeartbeats 4000000 in
theorem s_B_ahead (l : Launch) (z : Zz) (ad : Nat → Nat) (E : Ev) (M : Mm) (x1 : Int) (x2 : Int) (r : Int) (N : Mm) (hL : Lay E) (h : f_B_ahead E M x1 x2 = some (r, N)) : CT l z ⟨"Ballothall", "ahead", "(II)I"⟩ prog_1_method_25_code 3 (some .int) [.ref (ad 1), .int (oI x1), .int (oI x2)] (wv z ad E M) 4 115 0 0 (fun _ => some (.int (oI r))) (fun _ => (wv z ad E N)) := by
  refine CT.of (own := "Ballothall") (by decide +kernel) (Nat.le_of_ble_eq_true rfl) rfl (fun p e s m below meth c A ls hx hb hml hr hts hown hlocks hin hA hG hZ hP hD hS hl => ?_)
  have hl : lv_has ls 3 [(0, .ref (ad 1)), (1, .int (oI x1)), (2, .int (oI x2))] := hl
  have key : ∀ (H : Heap) (locs : List Loc) (args : Array Value), (∀ w ∈ WG, w.before args s = true) → va_P z.1 classes (wv z ad E M) H → va_S A s.heap H locs → W p l e (rmK 4 115 0 0) s m args below meth c H locs 0 0 (MQ below (QK z A (fun _ => some (.int (oI r))) (fun _ => (wv z ad E N))) args s 0 0 A) (F0 m 0 ls []) := by
    intro H locs args hts hP hS
    unfold f_B_ahead at h
    refine lv_iload_n hx hb d_1_25_0 rfl (lv_at hl 1 rfl) ?_
    refine lv_aload_n hx hb d_1_25_1 rfl (lv_at hl 0 rfl) ?_
    refine m_gr (j := 2) (C := "Ballothall") (T := TX11) (N := 14) (ci := 11) (k := 0) hx hb hts iX11 hown hG hP (yi_1 hL) (yt_1 hL) rfl (by decide) w_397 (fun _ h9 => h9) rfl rfl (yr_1_0 hL) d_1_25_2 ?_
    refine m_giN (C := "Ballothall$BallotBox") (T := TX0) (N := 10) (ci := 0) (k := 2) hx hb hts iX0 hown hG hP (yi_2 hL) (yt_2 hL) rfl (by decide) n_52 rfl (fun _ h9 => h9) rfl rfl d_1_25_5 ?_
    obtain ⟨_, g0, h⟩ := bd_e h
    refine kS (As := [.int (oI x1), .int (oI (M 2 2))]) (rest := []) (s_B_needIndex l z ad E M x1 (M 2 2) hL g0) hx hb hml hown hts w_529 w_527 w_528 w_1 md_6cb26b ⟨Nat.le_of_ble_eq_true rfl, Nat.le_of_ble_eq_true rfl⟩ hG hZ hP hD hS hA rfl hl.1 rfl (Nat.le_of_ble_eq_true rfl) d_1_25_8 ⟨Nat.le_of_ble_eq_true rfl, Nat.le_of_ble_eq_true rfl⟩ (fun _ H locs hP hD hS => ?_)
    have hP : va_P z.1 classes (wv z ad E M) H := hP
    have hD : va_D A (wv z ad E M) := hD
    refine W.eq (g2 := F0 m 11 ls []) rfl ?_
    refine lv_iload_n hx hb d_1_25_11 rfl (lv_at hl 2 rfl) ?_
    refine lv_aload_n hx hb d_1_25_12 rfl (lv_at hl 0 rfl) ?_
    refine m_gr (j := 2) (C := "Ballothall") (T := TX11) (N := 14) (ci := 11) (k := 0) hx hb hts iX11 hown hG hP (yi_1 hL) (yt_1 hL) rfl (by decide) w_397 (fun _ h9 => h9) rfl rfl (yr_1_0 hL) d_1_25_13 ?_
    refine m_giN (C := "Ballothall$BallotBox") (T := TX0) (N := 10) (ci := 0) (k := 2) hx hb hts iX0 hown hG hP (yi_2 hL) (yt_2 hL) rfl (by decide) n_52 rfl (fun _ h9 => h9) rfl rfl d_1_25_16 ?_
    obtain ⟨_, g1, h⟩ := bd_e h
    refine kS (As := [.int (oI x2), .int (oI (M 2 2))]) (rest := []) (s_B_needIndex l z ad E M x2 (M 2 2) hL g1) hx hb hml hown hts w_529 w_527 w_528 w_1 md_6cb26b ⟨Nat.le_of_ble_eq_true rfl, Nat.le_of_ble_eq_true rfl⟩ hG hZ hP hD hS hA rfl hl.1 rfl (Nat.le_of_ble_eq_true rfl) d_1_25_19 ⟨Nat.le_of_ble_eq_true rfl, Nat.le_of_ble_eq_true rfl⟩ (fun _ H locs hP hD hS => ?_)
    have hP : va_P z.1 classes (wv z ad E M) H := hP
    have hD : va_D A (wv z ad E M) := hD
    refine W.eq (g2 := F0 m 22 ls []) rfl ?_
    refine lv_aload_n hx hb d_1_25_22 rfl (lv_at hl 0 rfl) ?_
    refine m_gr (j := 41) (C := "Ballothall") (T := TX11) (N := 14) (ci := 11) (k := 1) hx hb hts iX11 hown hG hP (yi_1 hL) (yt_1 hL) rfl (by decide) w_398 (fun _ h9 => h9) rfl rfl (yr_1_1 hL) d_1_25_23 ?_
    refine lv_aload_n hx hb d_1_25_26 rfl (lv_at hl 0 rfl) ?_
    refine m_gr (j := 2) (C := "Ballothall") (T := TX11) (N := 14) (ci := 11) (k := 0) hx hb hts iX11 hown hG hP (yi_1 hL) (yt_1 hL) rfl (by decide) w_397 (fun _ h9 => h9) rfl rfl (yr_1_0 hL) d_1_25_27 ?_
    obtain ⟨r2, g2, h⟩ := bd_e h
    refine kVN (As := []) (rest := [.ref (ad 41)]) (s_Bx_everybody l z ad E M r2 hL g2) hx hb hml hown hts w_668 n_665 w_667 w_s_8b8b67 w_2 md_b59579 ⟨Nat.le_of_ble_eq_true rfl, Nat.le_of_ble_eq_true rfl⟩ hG hZ hP hD hS hA 2 (wv_o (ci := 0) (yi_2 hL) (yt_2 hL)) rfl rfl rfl hl.1 rfl (Nat.le_of_ble_eq_true rfl) d_1_25_30 ⟨Nat.le_of_ble_eq_true rfl, Nat.le_of_ble_eq_true rfl⟩ (fun _ H locs hP hD hS => ?_)
    have hP : va_P z.1 classes (wv z ad E M) H := hP
    have hD : va_D A (wv z ad E M) := hD
    refine W.eq (g2 := F0 m 33 ls [.int (oI r2), .ref (ad 41)]) rfl ?_
    obtain ⟨M3, g3, h⟩ := bd_e h
    refine kVN (As := [.int (oI r2)]) (rest := []) (s_Po_open l z ad E M r2 M3 hL g3) hx hb hml hown hts w_672 n_669 w_671 w_s_229dc4 w_3 md_60bc9b ⟨Nat.le_of_ble_eq_true rfl, Nat.le_of_ble_eq_true rfl⟩ hG hZ hP hD hS hA 41 (wv_o (ci := 9) (yi_41 hL) (yt_41 hL)) rfl rfl rfl hl.1 rfl (Nat.le_of_ble_eq_true rfl) d_1_25_33 ⟨Nat.le_of_ble_eq_true rfl, Nat.le_of_ble_eq_true rfl⟩ (fun _ H locs hP hD hS => ?_)
    have hP : va_P z.1 classes (wv z ad E M3) H := hP
    have hD : va_D A (wv z ad E M3) := hD
    refine W.eq (g2 := F0 m 36 ls []) rfl ?_
    refine lv_aload_n hx hb d_1_25_36 rfl (lv_at hl 0 rfl) ?_
    refine m_gr (j := 41) (C := "Ballothall") (T := TX11) (N := 14) (ci := 11) (k := 1) hx hb hts iX11 hown hG hP (yi_1 hL) (yt_1 hL) rfl (by decide) w_398 (fun _ h9 => h9) rfl rfl (yr_1_1 hL) d_1_25_37 ?_
    refine lv_iload_n hx hb d_1_25_40 rfl (lv_at hl 1 rfl) ?_
    refine lv_iload_n hx hb d_1_25_41 rfl (lv_at hl 2 rfl) ?_
    obtain ⟨r4, g4, h⟩ := bd_e h
    refine kVN (As := [.int (oI x1), .int (oI x2)]) (rest := []) (s_Po_pair l z ad E M3 x1 x2 r4 hL g4) hx hb hml hown hts w_709 n_1309 w_708 w_s_776300 w_3 md_5a94c2 ⟨Nat.le_of_ble_eq_true rfl, Nat.le_of_ble_eq_true rfl⟩ hG hZ hP hD hS hA 41 (wv_o (ci := 9) (yi_41 hL) (yt_41 hL)) rfl rfl rfl hl.1 rfl (Nat.le_of_ble_eq_true rfl) d_1_25_42 ⟨Nat.le_of_ble_eq_true rfl, Nat.le_of_ble_eq_true rfl⟩ (fun _ H locs hP hD hS => ?_)
    have hP : va_P z.1 classes (wv z ad E M3) H := hP
    have hD : va_D A (wv z ad E M3) := hD
    refine W.eq (g2 := F0 m 45 ls [.int (oI r4)]) rfl ?_
    obtain ⟨rfl, rfl⟩ := in2 h
    exact W.iret hx hb hr (fun t ht hW => qkA hP hD hS (fun k => k) rfl rfl ht) hS.2.2 d_1_25_45
  exact key _ _ _ hts hP hS
set_option maxRecDepth 100000 in
set_option maxHeartbeats 4000000 in
theorem b_Bx_ballotsOf_5b (l : Launch) (z : Zz) (ad : Nat → Nat) (E : Ev) (M : Mm) (q1 : Nat) (x2 : Int) (x3 : Int) (x4 : Int) (t : Nat) (w3 : Int) (w4 : Int)  {Q : State → Prop} {p : Program} {e : Env} {s : State} {m : MethodId} {below : List Frame} {meth : Method} {c : Code} {A : Nat → Prop} {args : Array Value} (hx : p.tables.exec = Jvm.exec) (hb : c.code = prog_2_method_4_code) (hml : c.maxLocals = 5) (hts : ∀ w ∈ WG, w.before args s = true) (hown : s.vm.findClass "Ballothall$BallotBox" = some m.cls) (hlocks : meth.locks = false) (hA : ∀ q, s.heap.size ≤ q → A q) (hG : KG z s) (hZ : FZ z A s) (hL : Lay E) (h : Bx_ballotsOf_5b E M q1 x2 x3 x4 = some (t, w3, w4)) (k0 : t = 0 → ∀ (H : Heap) (locs : List Loc) (ls : Array Slot), va_P z.1 classes (wv z ad E M) H → va_D A (wv z ad E M) → va_S A s.heap H locs → lv_has ls 5 [(1, .ref (ad q1)), (2, .int (oI x2)), (3, .int (oI w3)), (4, .int (oI w4))] → W p l e (rmK 0 20 0 0) s m args below meth c H locs 0 0 Q (F0 m 5 ls [])) (k1 : t = 1 → ∀ (H : Heap) (locs : List Loc) (ls : Array Slot), va_P z.1 classes (wv z ad E M) H → va_D A (wv z ad E M) → va_S A s.heap H locs → lv_has ls 5 [(3, .int (oI w3))] → W p l e (rmK 0 20 0 0) s m args below meth c H locs 0 0 Q (F0 m 24 ls [])) : ∀ (H : Heap) (locs : List Loc) (ls : Array Slot), va_P z.1 classes (wv z ad E M) H → va_D A (wv z ad E M) → va_S A s.heap H locs → lv_has ls 5 [(1, .ref (ad q1)), (2, .int (oI x2)), (3, .int (oI x3)), (4, .int (oI x4))] → W p l e (rmK 0 20 0 0) s m args below meth c H locs 0 0 Q (F0 m 5 ls []) := by
  intro H locs ls hP hD hS hl
  unfold Bx_ballotsOf_5b at h
  obtain ⟨h_q1, h⟩ := ck_e h
  refine lv_iload hx hb d_2_4_5 (lv_at hl 3 rfl) ?_
  refine lv_iload_n hx hb d_2_4_7 rfl (lv_at hl 1 rfl) ?_
  obtain ⟨ok0, h⟩ := ck_e h
  obtain ⟨ok1, h⟩ := ck_e h
  refine lv_icmp_ge (tgt := 24) hx hb d_2_4_8 (by decide) (fun c9 => ?_) (fun c9 => ?_)
  · have h := ite_t ((oI_le (a := x2) (b := x4) ok1 ok0).mp c9) h
    obtain ⟨rfl, rfl, rfl⟩ := in3 h
    exact k1 rfl H locs ls hP hD hS (lv_sub hl [2] rfl)
  · have h := ite_f (fun q => c9 ((oI_le (a := x2) (b := x4) ok1 ok0).mpr q)) h
    refine lv_iload_n hx hb d_2_4_11 rfl (lv_at hl 2 rfl) ?_
    refine lv_aload_n hx hb d_2_4_12 rfl (lv_at hl 0 rfl) ?_
    refine lv_iload hx hb d_2_4_13 (lv_at hl 3 rfl) ?_
    obtain ⟨ok2, h⟩ := ck_e h
    refine m_ia hx hb hG hP h_q1.1 (isIA_T h_q1) ok2 d_2_4_15 ?_
    refine lv_iadd hx hb d_2_4_16 ?_
    refine nrm (oI_add _ _) ?_
    refine lv_istore_n (lv' := [(3, .int (oI (x3 + (M q1 x4.toNat)))), (1, .ref (ad q1)), (2, .int (oI x2)), (4, .int (oI x4))]) hx hb d_2_4_17 rfl hl (by decide) rfl (fun ls hl => ?_)
    refine lv_iinc (v := oI (x4 + 1)) (lv' := [(4, .int (oI (x4 + 1))), (3, .int (oI (x3 + (M q1 x4.toNat)))), (1, .ref (ad q1)), (2, .int (oI x2))]) hx hb d_2_4_18 hl (k := 3) rfl (oI_add x4 1) (by decide) rfl (fun ls hl => ?_)
    refine lv_goto (tgt := 5) hx hb d_2_4_21 (by decide) ?_
    obtain ⟨rfl, rfl, rfl⟩ := in3 h
    exact k0 rfl H locs ls hP hD hS (lv_sub hl [2, 3, 1, 0] rfl)
set_option maxRecDepth 100000 in
set_option maxHeartbeats 4000000 in
theorem s_Bx_ballotsOf_5 (l : Launch) (z : Zz) (ad : Nat → Nat) (E : Ev) (q1 : Nat) (x2 : Int) {Q : State → Prop} {p : Program} {e : Env} {s : State} {m : MethodId} {below : List Frame} {meth : Method} {c : Code} {A : Nat → Prop} {args : Array Value} (hx : p.tables.exec = Jvm.exec) (hb : c.code = prog_2_method_4_code) (hml : c.maxLocals = 5) (hts : ∀ w ∈ WG, w.before args s = true) (hown : s.vm.findClass "Ballothall$BallotBox" = some m.cls) (hlocks : meth.locks = false) (hA : ∀ q, s.heap.size ≤ q → A q) (hG : KG z s) (hZ : FZ z A s) (hL : Lay E) : ∀ (fu : Nat) (M : Mm) (x3 : Int) (x4 : Int) (t : Nat) (w3 : Int) (w4 : Int), l_Bx_ballotsOf_5 E q1 x2 fu M x3 x4 = some (t, w3, w4) → (t = 1 → ∀ (H : Heap) (locs : List Loc) (ls : Array Slot), va_P z.1 classes (wv z ad E M) H → va_D A (wv z ad E M) → va_S A s.heap H locs → lv_has ls 5 [(3, .int (oI w3))] → W p l e (rmK 0 20 0 0) s m args below meth c H locs 0 0 Q (F0 m 24 ls [])) → ∀ (H : Heap) (locs : List Loc) (ls : Array Slot), va_P z.1 classes (wv z ad E M) H → va_D A (wv z ad E M) → va_S A s.heap H locs → lv_has ls 5 [(1, .ref (ad q1)), (2, .int (oI x2)), (3, .int (oI x3)), (4, .int (oI x4))] → W p l e (rmK 0 20 0 0) s m args below meth c H locs 0 0 Q (F0 m 5 ls []) := by
  intro fu
  induction fu with
  | zero =>
    intro M x3 x4 t w3 w4 h
    have h : (none : Option (Nat × Int × Int)) = some _ := h
    cases h
  | succ fu ih =>
    intro M x3 x4 t w3 w4 h k1 H locs ls hP hD hS hl
    obtain ⟨⟨t0, w30, w40⟩, g0, h⟩ := bd_e h
    refine b_Bx_ballotsOf_5b l z ad E M q1 x2 x3 x4 t0 w30 w40 hx hb hml hts hown hlocks hA hG hZ hL g0 (fun e0 => ?_) (fun e0 => ?_) H locs ls hP hD hS hl
    · subst e0
      have h := ite_t rfl h
      exact ih M w30 w40 t w3 w4 h k1
    · subst e0
      have h := ite_f (by decide) h
      obtain ⟨rfl, rfl, rfl⟩ := in3 h
      exact k1 rfl
set_option maxRecDepth 100000 in
set_option maxHeartbeats 4000000 in
theorem s_Bx_ballotsOf (l : Launch) (z : Zz) (ad : Nat → Nat) (E : Ev) (M : Mm) (p1 : Nat) (x2 : Int) (r : Int)  (hL : Lay E) (h : f_Bx_ballotsOf E M p1 x2 = some r) : CT l z ⟨"Ballothall$BallotBox", "ballotsOf", "([II)I"⟩ prog_2_method_4_code 5 (some .int) [.ref (ad 2), .ref (ad p1), .int (oI x2)] (wv z ad E M) 0 20 0 0 (fun _ => some (.int (oI r))) (fun _ => (wv z ad E M)) := by
  refine CT.of (own := "Ballothall$BallotBox") (by decide +kernel) (Nat.le_of_ble_eq_true rfl) rfl (fun p e s m below meth c A ls hx hb hml hr hts hown hlocks hin hA hG hZ hP hD hS hl => ?_)
  have hl : lv_has ls 5 [(0, .ref (ad 2)), (1, .ref (ad p1)), (2, .int (oI x2))] := hl
  have key : ∀ (H : Heap) (locs : List Loc) (args : Array Value), (∀ w ∈ WG, w.before args s = true) → va_P z.1 classes (wv z ad E M) H → va_S A s.heap H locs → W p l e (rmK 0 20 0 0) s m args below meth c H locs 0 0 (MQ below (QK z A (fun _ => some (.int (oI r))) (fun _ => (wv z ad E M))) args s 0 0 A) (F0 m 0 ls []) := by
    intro H locs args hts hP hS
    unfold f_Bx_ballotsOf at h
    obtain ⟨h_p1, h⟩ := ck_e h
    refine lv_iconst (v := oI 0) hx hb d_2_4_0 (by decide +kernel) ?_
    refine lv_istore_n (lv' := [(3, .int (oI 0)), (0, .ref (ad 2)), (1, .ref (ad p1)), (2, .int (oI x2))]) hx hb d_2_4_1 rfl hl (by decide) rfl (fun ls hl => ?_)
    refine lv_iconst (v := oI 0) hx hb d_2_4_2 (by decide +kernel) ?_
    refine lv_istore (lv' := [(4, .int (oI 0)), (3, .int (oI 0)), (0, .ref (ad 2)), (1, .ref (ad p1)), (2, .int (oI x2))]) hx hb d_2_4_3 hl (by decide) rfl (fun ls hl => ?_)
    obtain ⟨⟨t3, v3_3, v3_4⟩, g3, h⟩ := bd_e h
    obtain ⟨ok3, h⟩ := ck_e h
    refine s_Bx_ballotsOf_5 l z ad E p1 x2 hx hb hml hts hown hlocks hA hG hZ hL FU M 0 0 t3 v3_3 v3_4 g3 (fun e3 H locs ls hP hD hS hl => ?_) H locs ls hP hD hS (lv_sub hl [3, 4, 1, 0] rfl)
    refine lv_iload_n hx hb d_2_4_24 rfl (lv_at hl 0 rfl) ?_
    obtain rfl := in1 h
    exact W.iret hx hb hr (fun t ht hW => qkA hP hD hS (fun k => k) rfl rfl ht) hS.2.2 d_2_4_25
  exact key _ _ _ hts hP hS
set_option maxRecDepth 100000 in
set_option maxHeartbeats 4000000 in
theorem s_B_allBallots (l : Launch) (z : Zz) (ad : Nat → Nat) (E : Ev) (M : Mm) (r : Int)  (hL : Lay E) (h : f_B_allBallots E M = some r) : CT l z ⟨"Ballothall", "allBallots", "()I"⟩ prog_1_method_9_code 1 (some .int) [.ref (ad 1)] (wv z ad E M) 1 44 0 0 (fun _ => some (.int (oI r))) (fun _ => (wv z ad E M)) := by
  refine CT.of (own := "Ballothall") (by decide +kernel) (Nat.le_of_ble_eq_true rfl) rfl (fun p e s m below meth c A ls hx hb hml hr hts hown hlocks hin hA hG hZ hP hD hS hl => ?_)
  have hl : lv_has ls 1 [(0, .ref (ad 1))] := hl
  have key : ∀ (H : Heap) (locs : List Loc) (args : Array Value), (∀ w ∈ WG, w.before args s = true) → va_P z.1 classes (wv z ad E M) H → va_S A s.heap H locs → W p l e (rmK 1 44 0 0) s m args below meth c H locs 0 0 (MQ below (QK z A (fun _ => some (.int (oI r))) (fun _ => (wv z ad E M))) args s 0 0 A) (F0 m 0 ls []) := by
    intro H locs args hts hP hS
    unfold f_B_allBallots at h
    refine lv_aload_n hx hb d_1_9_0 rfl (lv_at hl 0 rfl) ?_
    refine m_gr (j := 2) (C := "Ballothall") (T := TX11) (N := 14) (ci := 11) (k := 0) hx hb hts iX11 hown hG hP (yi_1 hL) (yt_1 hL) rfl (by decide) w_397 (fun _ h9 => h9) rfl rfl (yr_1_0 hL) d_1_9_1 ?_
    refine lv_aload_n hx hb d_1_9_4 rfl (lv_at hl 0 rfl) ?_
    refine m_gr (j := 2) (C := "Ballothall") (T := TX11) (N := 14) (ci := 11) (k := 0) hx hb hts iX11 hown hG hP (yi_1 hL) (yt_1 hL) rfl (by decide) w_397 (fun _ h9 => h9) rfl rfl (yr_1_0 hL) d_1_9_5 ?_
    refine m_grN (j := 5) (C := "Ballothall$BallotBox") (T := TX0) (N := 10) (ci := 0) (k := 5) hx hb hts iX0 hown hG hP (yi_2 hL) (yt_2 hL) rfl (by decide) n_66 rfl (fun _ h9 => h9) rfl rfl (yr_2_5 hL) d_1_9_8 ?_
    refine lv_aload_n hx hb d_1_9_11 rfl (lv_at hl 0 rfl) ?_
    refine m_gr (j := 2) (C := "Ballothall") (T := TX11) (N := 14) (ci := 11) (k := 0) hx hb hts iX11 hown hG hP (yi_1 hL) (yt_1 hL) rfl (by decide) w_397 (fun _ h9 => h9) rfl rfl (yr_1_0 hL) d_1_9_12 ?_
    refine m_giN (C := "Ballothall$BallotBox") (T := TX0) (N := 10) (ci := 0) (k := 3) hx hb hts iX0 hown hG hP (yi_2 hL) (yt_2 hL) rfl (by decide) n_58 rfl (fun _ h9 => h9) rfl rfl d_1_9_15 ?_
    obtain ⟨r0, g0, h⟩ := bd_e h
    refine kVN (As := [.ref (ad 5), .int (oI (M 2 3))]) (rest := []) (s_Bx_ballotsOf l z ad E M 5 (M 2 3) r0 hL g0) hx hb hml hown hts w_572 n_569 w_571 w_s_fcecd2 w_2 md_ebdc38 ⟨Nat.le_of_ble_eq_true rfl, Nat.le_of_ble_eq_true rfl⟩ hG hZ hP hD hS hA 2 (wv_o (ci := 0) (yi_2 hL) (yt_2 hL)) rfl rfl rfl hl.1 rfl (Nat.le_of_ble_eq_true rfl) d_1_9_18 ⟨Nat.le_of_ble_eq_true rfl, Nat.le_of_ble_eq_true rfl⟩ (fun _ H locs hP hD hS => ?_)
    have hP : va_P z.1 classes (wv z ad E M) H := hP
    have hD : va_D A (wv z ad E M) := hD
    refine W.eq (g2 := F0 m 21 ls [.int (oI r0)]) rfl ?_
    obtain rfl := in1 h
    exact W.iret hx hb hr (fun t ht hW => qkA hP hD hS (fun k => k) rfl rfl ht) hS.2.2 d_1_9_21
  exact key _ _ _ hts hP hS
set_option maxRecDepth 100000 in
set_option maxHeartbeats 4000000 in
theorem s_B_needRange (l : Launch) (z : Zz) (ad : Nat → Nat) (E : Ev) (M : Mm) (x0 : Int) (x1 : Int) (x2 : Int)  (hL : Lay E) (h : f_B_needRange E M x0 x1 x2 = some ()) : CT l z ⟨"Ballothall", "needRange", "(III)V"⟩ prog_1_method_57_code 3 none [.int (oI x0), .int (oI x1), .int (oI x2)] (wv z ad E M) 0 20 0 0 (fun _ => none) (fun _ => (wv z ad E M)) := by
  refine CT.of (own := "Ballothall") (by decide +kernel) (Nat.le_of_ble_eq_true rfl) rfl (fun p e s m below meth c A ls hx hb hml hr hts hown hlocks hin hA hG hZ hP hD hS hl => ?_)
  have hl : lv_has ls 3 [(0, .int (oI x0)), (1, .int (oI x1)), (2, .int (oI x2))] := hl
  have key : ∀ (H : Heap) (locs : List Loc) (args : Array Value), (∀ w ∈ WG, w.before args s = true) → va_P z.1 classes (wv z ad E M) H → va_S A s.heap H locs → W p l e (rmK 0 20 0 0) s m args below meth c H locs 0 0 (MQ below (QK z A (fun _ => none) (fun _ => (wv z ad E M))) args s 0 0 A) (F0 m 0 ls []) := by
    intro H locs args hts hP hS
    unfold f_B_needRange at h
    refine lv_iload_n hx hb d_1_57_0 rfl (lv_at hl 0 rfl) ?_
    refine lv_iload_n hx hb d_1_57_1 rfl (lv_at hl 1 rfl) ?_
    obtain ⟨ok0, h⟩ := ck_e h
    obtain ⟨ok1, h⟩ := ck_e h
    refine lv_icmp_lt (tgt := 10) hx hb d_1_57_2 (by decide) (fun c9 => ?_) (fun c9 => ?_)
    · have h := ite_t ((oI_lt (a := x0) (b := x1) ok0 ok1).mp c9) h
      cases h
    · have h := ite_f (fun q => c9 ((oI_lt (a := x0) (b := x1) ok0 ok1).mpr q)) h
      refine lv_iload_n hx hb d_1_57_5 rfl (lv_at hl 0 rfl) ?_
      refine lv_iload_n hx hb d_1_57_6 rfl (lv_at hl 2 rfl) ?_
      obtain ⟨ok2, h⟩ := ck_e h
      refine lv_icmp_le (tgt := 21) hx hb d_1_57_7 (by decide) (fun c9 => ?_) (fun c9 => ?_)
      · have h := ite_t ((oI_le (a := x0) (b := x2) ok0 ok2).mp c9) h
        clear h
        exact W.vret hx hb hr (fun t ht hW => qkA hP hD hS (fun k => k) rfl rfl ht) hS.2.2 d_1_57_21
      · have h := ite_f (fun q => c9 ((oI_le (a := x0) (b := x2) ok0 ok2).mpr q)) h
        cases h
  exact key _ _ _ hts hP hS
set_option maxRecDepth 100000 in
set_option maxHeartbeats 4000000 in
theorem s_B_remember (l : Launch) (z : Zz) (ad : Nat → Nat) (E : Ev) (M : Mm) (x1 : Int) (x2 : Int) (x3 : Int) (N : Mm) (hL : Lay E) (h : f_B_remember E M x1 x2 x3 = some N) : CT l z ⟨"Ballothall", "remember", "(III)V"⟩ prog_1_method_61_code 4 none [.ref (ad 1), .int (oI x1), .int (oI x2), .int (oI x3)] (wv z ad E M) 1 40 0 0 (fun _ => none) (fun _ => (wv z ad E N)) := by
  refine CT.of (own := "Ballothall") (by decide +kernel) (Nat.le_of_ble_eq_true rfl) rfl (fun p e s m below meth c A ls hx hb hml hr hts hown hlocks hin hA hG hZ hP hD hS hl => ?_)
  have hl : lv_has ls 4 [(0, .ref (ad 1)), (1, .int (oI x1)), (2, .int (oI x2)), (3, .int (oI x3))] := hl
  have key : ∀ (H : Heap) (locs : List Loc) (args : Array Value), (∀ w ∈ WG, w.before args s = true) → va_P z.1 classes (wv z ad E M) H → va_S A s.heap H locs → W p l e (rmK 1 40 0 0) s m args below meth c H locs 0 0 (MQ below (QK z A (fun _ => none) (fun _ => (wv z ad E N))) args s 0 0 A) (F0 m 0 ls []) := by
    intro H locs args hts hP hS
    unfold f_B_remember at h
    refine lv_aload_n hx hb d_1_61_0 rfl (lv_at hl 0 rfl) ?_
    refine lv_aload_n hx hb d_1_61_1 rfl (lv_at hl 0 rfl) ?_
    refine m_gi (C := "Ballothall") (T := TX11) (N := 14) (ci := 11) (k := 10) hx hb hts iX11 hown hG hP (yi_1 hL) (yt_1 hL) rfl (by decide) w_407 (fun _ h9 => h9) rfl rfl d_1_61_2 ?_
    refine lv_iconst (v := oI 1) hx hb d_1_61_5 (by decide +kernel) ?_
    refine lv_iadd hx hb d_1_61_6 ?_
    refine nrm (oI_add _ _) ?_
    refine lv_bipush (v := oI 20) hx hb d_1_61_7 (by decide +kernel) ?_
    obtain ⟨ok0, h⟩ := ck_e h
    refine lv_irem hx hb d_1_61_9 (oI_nz (show psI 20 by decide).1 (show psI 20 by decide).2) ?_
    refine nrm (oI_rem (a := ((M 1 10) + 1)) (b := (20 : Int)) ok0.1 ok0.2 (show psI 20 by decide).1 (show psI 20 by decide).2) ?_
    refine m_pi (C := "Ballothall") (T := TX11) (N := 14) (ci := 11) (k := 10) (ty := .int) hx hb hts iX11 hown hG hP hD hS (yi_1 hL) (yt_1 hL) rfl (by decide) w_407 (fun _ h9 => h9) rfl rfl tyX11_ok nmX11 rfl (by decide +kernel) rfl rfl d_1_61_10 (fun H locs hP hD hS => ?_)
    have hP : va_P z.1 classes (wv z ad E (u2 M 1 10 (((M 1 10) + 1) % 20))) H := hP
    have hD : va_D A (wv z ad E (u2 M 1 10 (((M 1 10) + 1) % 20))) := hD
    refine lv_aload_n hx hb d_1_61_13 rfl (lv_at hl 0 rfl) ?_
    refine m_gr (j := 246) (C := "Ballothall") (T := TX11) (N := 14) (ci := 11) (k := 7) hx hb hts iX11 hown hG hP (yi_1 hL) (yt_1 hL) rfl (by decide) w_404 (fun _ h9 => h9) rfl rfl (yr_1_7 hL) d_1_61_14 ?_
    refine lv_aload_n hx hb d_1_61_17 rfl (lv_at hl 0 rfl) ?_
    refine m_gi (C := "Ballothall") (T := TX11) (N := 14) (ci := 11) (k := 10) hx hb hts iX11 hown hG hP (yi_1 hL) (yt_1 hL) rfl (by decide) w_407 (fun _ h9 => h9) rfl rfl d_1_61_18 ?_
    refine lv_iload_n hx hb d_1_61_21 rfl (lv_at hl 1 rfl) ?_
    obtain ⟨ok1, h⟩ := ck_e h
    refine m_is hx hb hG hP hD hS (yi_246 hL) (yt_246 hL) ok1 d_1_61_22 (fun H locs hP hD hS => ?_)
    have hP : va_P z.1 classes (wv z ad E (u2 (u2 M 1 10 (((M 1 10) + 1) % 20)) 246 ((u2 M 1 10 (((M 1 10) + 1) % 20)) 1 10).toNat x1)) H := hP
    have hD : va_D A (wv z ad E (u2 (u2 M 1 10 (((M 1 10) + 1) % 20)) 246 ((u2 M 1 10 (((M 1 10) + 1) % 20)) 1 10).toNat x1)) := hD
    obtain ⟨M2, e2, h⟩ := nb_e h
    rw [← e2] at hP hD
    refine lv_aload_n hx hb d_1_61_23 rfl (lv_at hl 0 rfl) ?_
    refine m_gr (j := 247) (C := "Ballothall") (T := TX11) (N := 14) (ci := 11) (k := 8) hx hb hts iX11 hown hG hP (yi_1 hL) (yt_1 hL) rfl (by decide) w_405 (fun _ h9 => h9) rfl rfl (yr_1_8 hL) d_1_61_24 ?_
    refine lv_aload_n hx hb d_1_61_27 rfl (lv_at hl 0 rfl) ?_
    refine m_gi (C := "Ballothall") (T := TX11) (N := 14) (ci := 11) (k := 10) hx hb hts iX11 hown hG hP (yi_1 hL) (yt_1 hL) rfl (by decide) w_407 (fun _ h9 => h9) rfl rfl d_1_61_28 ?_
    refine lv_iload_n hx hb d_1_61_31 rfl (lv_at hl 2 rfl) ?_
    obtain ⟨ok3, h⟩ := ck_e h
    refine m_is hx hb hG hP hD hS (yi_247 hL) (yt_247 hL) ok3 d_1_61_32 (fun H locs hP hD hS => ?_)
    have hP : va_P z.1 classes (wv z ad E (u2 M2 247 (M2 1 10).toNat x2)) H := hP
    have hD : va_D A (wv z ad E (u2 M2 247 (M2 1 10).toNat x2)) := hD
    refine lv_aload_n hx hb d_1_61_33 rfl (lv_at hl 0 rfl) ?_
    refine m_gr (j := 248) (C := "Ballothall") (T := TX11) (N := 14) (ci := 11) (k := 9) hx hb hts iX11 hown hG hP (yi_1 hL) (yt_1 hL) rfl (by decide) w_406 (fun _ h9 => h9) rfl rfl (yr_1_9 hL) d_1_61_34 ?_
    refine lv_aload_n hx hb d_1_61_37 rfl (lv_at hl 0 rfl) ?_
    refine m_gi (C := "Ballothall") (T := TX11) (N := 14) (ci := 11) (k := 10) hx hb hts iX11 hown hG hP (yi_1 hL) (yt_1 hL) rfl (by decide) w_407 (fun _ h9 => h9) rfl rfl d_1_61_38 ?_
    refine lv_iload_n hx hb d_1_61_41 rfl (lv_at hl 3 rfl) ?_
    obtain ⟨ok4, h⟩ := ck_e h
    refine m_is hx hb hG hP hD hS (yi_248 hL) (yt_248 hL) ok4 d_1_61_42 (fun H locs hP hD hS => ?_)
    have hP : va_P z.1 classes (wv z ad E (u2 (u2 M2 247 (M2 1 10).toNat x2) 248 ((u2 M2 247 (M2 1 10).toNat x2) 1 10).toNat x3)) H := hP
    have hD : va_D A (wv z ad E (u2 (u2 M2 247 (M2 1 10).toNat x2) 248 ((u2 M2 247 (M2 1 10).toNat x2) 1 10).toNat x3)) := hD
    refine lv_aload_n hx hb d_1_61_43 rfl (lv_at hl 0 rfl) ?_
    refine lv_aload_n hx hb d_1_61_44 rfl (lv_at hl 0 rfl) ?_
    refine m_gi (C := "Ballothall") (T := TX11) (N := 14) (ci := 11) (k := 11) hx hb hts iX11 hown hG hP (yi_1 hL) (yt_1 hL) rfl (by decide) w_408 (fun _ h9 => h9) rfl rfl d_1_61_45 ?_
    refine lv_iconst (v := oI 1) hx hb d_1_61_48 (by decide +kernel) ?_
    refine lv_iadd hx hb d_1_61_49 ?_
    refine nrm (oI_add _ _) ?_
    refine lv_bipush (v := oI 20) hx hb d_1_61_50 (by decide +kernel) ?_
    obtain ⟨ok5, h⟩ := ck_e h
    refine va_mmin hx hb (by rw [hml]; exact hl.1.symm) hown (hts _ w_520) (hts _ w_521) (hts _ w_17) (hts _ w_min) (Nat.le_of_ble_eq_true rfl) (Nat.le_of_ble_eq_true rfl) (Nat.le_of_ble_eq_true rfl) (Nat.le_of_ble_eq_true rfl) d_1_61_52 ?_
    refine nrm (mn_oI (a := (((u2 (u2 M2 247 (M2 1 10).toNat x2) 248 ((u2 M2 247 (M2 1 10).toNat x2) 1 10).toNat x3) 1 11) + 1)) (b := (20 : Int)) ok5 (by decide)) ?_
    obtain ⟨v6, e6, h⟩ := nb_e h
    refine nrm (congrArg oI e6.symm) ?_
    refine m_pi (C := "Ballothall") (T := TX11) (N := 14) (ci := 11) (k := 11) (ty := .int) hx hb hts iX11 hown hG hP hD hS (yi_1 hL) (yt_1 hL) rfl (by decide) w_408 (fun _ h9 => h9) rfl rfl tyX11_ok nmX11 rfl (by decide +kernel) rfl rfl d_1_61_55 (fun H locs hP hD hS => ?_)
    have hP : va_P z.1 classes (wv z ad E (u2 (u2 (u2 M2 247 (M2 1 10).toNat x2) 248 ((u2 M2 247 (M2 1 10).toNat x2) 1 10).toNat x3) 1 11 v6)) H := hP
    have hD : va_D A (wv z ad E (u2 (u2 (u2 M2 247 (M2 1 10).toNat x2) 248 ((u2 M2 247 (M2 1 10).toNat x2) 1 10).toNat x3) 1 11 v6)) := hD
    obtain ⟨M7, e7, h⟩ := nb_e h
    rw [← e7] at hP hD
    obtain rfl := in1 h
    exact W.vret hx hb hr (fun t ht hW => qkA hP hD hS (fun k => k) rfl rfl ht) hS.2.2 d_1_61_58
  exact key _ _ _ hts hP hS
set_option maxRecDepth 100000 in
set_option maxHeartbeats 4000000 in
theorem s_B_ally (l : Launch) (z : Zz) (ad : Nat → Nat) (E : Ev) (M : Mm) (x1 : Int) (x2 : Int) (r : Int) (N : Mm) (hL : Lay E) (h : f_B_ally E M x1 x2 = some (r, N)) : CT l z ⟨"Ballothall", "ally", "(II)I"⟩ prog_1_method_12_code 4 (some .int) [.ref (ad 1), .int (oI x1), .int (oI x2)] (wv z ad E M) 2 63 0 0 (fun _ => some (.int (oI r))) (fun _ => (wv z ad E N)) := by
  refine CT.of (own := "Ballothall") (by decide +kernel) (Nat.le_of_ble_eq_true rfl) rfl (fun p e s m below meth c A ls hx hb hml hr hts hown hlocks hin hA hG hZ hP hD hS hl => ?_)
  have hl : lv_has ls 4 [(0, .ref (ad 1)), (1, .int (oI x1)), (2, .int (oI x2))] := hl
  have key : ∀ (H : Heap) (locs : List Loc) (args : Array Value), (∀ w ∈ WG, w.before args s = true) → va_P z.1 classes (wv z ad E M) H → va_S A s.heap H locs → W p l e (rmK 2 63 0 0) s m args below meth c H locs 0 0 (MQ below (QK z A (fun _ => some (.int (oI r))) (fun _ => (wv z ad E N))) args s 0 0 A) (F0 m 0 ls []) := by
    intro H locs args hts hP hS
    unfold f_B_ally at h
    refine lv_iload_n hx hb d_1_12_0 rfl (lv_at hl 1 rfl) ?_
    refine lv_aload_n hx hb d_1_12_1 rfl (lv_at hl 0 rfl) ?_
    refine m_gr (j := 53) (C := "Ballothall") (T := TX11) (N := 14) (ci := 11) (k := 3) hx hb hts iX11 hown hG hP (yi_1 hL) (yt_1 hL) rfl (by decide) w_400 (fun _ h9 => h9) rfl rfl (yr_1_3 hL) d_1_12_2 ?_
    refine m_giN (C := "Ballothall$Lists") (T := TX7) (N := 11) (ci := 7) (k := 0) hx hb hts iX7 hown hG hP (yi_53 hL) (yt_53 hL) rfl (by decide) n_243 rfl (fun _ h9 => h9) rfl rfl d_1_12_5 ?_
    obtain ⟨_, g0, h⟩ := bd_e h
    refine kS (As := [.int (oI x1), .int (oI (M 53 0))]) (rest := []) (s_B_needIndex l z ad E M x1 (M 53 0) hL g0) hx hb hml hown hts w_529 w_527 w_528 w_1 md_6cb26b ⟨Nat.le_of_ble_eq_true rfl, Nat.le_of_ble_eq_true rfl⟩ hG hZ hP hD hS hA rfl hl.1 rfl (Nat.le_of_ble_eq_true rfl) d_1_12_8 ⟨Nat.le_of_ble_eq_true rfl, Nat.le_of_ble_eq_true rfl⟩ (fun _ H locs hP hD hS => ?_)
    have hP : va_P z.1 classes (wv z ad E M) H := hP
    have hD : va_D A (wv z ad E M) := hD
    refine W.eq (g2 := F0 m 11 ls []) rfl ?_
    refine lv_iload_n hx hb d_1_12_11 rfl (lv_at hl 2 rfl) ?_
    refine lv_iconst (v := oI 0) hx hb d_1_12_12 (by decide +kernel) ?_
    refine lv_iconst (v := oI 4) hx hb d_1_12_13 (by decide +kernel) ?_
    obtain ⟨_, g1, h⟩ := bd_e h
    refine kS (As := [.int (oI x2), .int (oI 0), .int (oI 4)]) (rest := []) (s_B_needRange l z ad E M x2 0 4 hL g1) hx hb hml hown hts w_548 w_546 w_547 w_1 md_519134 ⟨Nat.le_of_ble_eq_true rfl, Nat.le_of_ble_eq_true rfl⟩ hG hZ hP hD hS hA rfl hl.1 rfl (Nat.le_of_ble_eq_true rfl) d_1_12_14 ⟨Nat.le_of_ble_eq_true rfl, Nat.le_of_ble_eq_true rfl⟩ (fun _ H locs hP hD hS => ?_)
    have hP : va_P z.1 classes (wv z ad E M) H := hP
    have hD : va_D A (wv z ad E M) := hD
    refine W.eq (g2 := F0 m 17 ls []) rfl ?_
    refine lv_aload_n hx hb d_1_12_17 rfl (lv_at hl 0 rfl) ?_
    refine m_gr (j := 53) (C := "Ballothall") (T := TX11) (N := 14) (ci := 11) (k := 3) hx hb hts iX11 hown hG hP (yi_1 hL) (yt_1 hL) rfl (by decide) w_400 (fun _ h9 => h9) rfl rfl (yr_1_3 hL) d_1_12_18 ?_
    refine m_grN (j := 55) (C := "Ballothall$Lists") (T := TX7) (N := 11) (ci := 7) (k := 2) hx hb hts iX7 hown hG hP (yi_53 hL) (yt_53 hL) rfl (by decide) n_246 rfl (fun _ h9 => h9) rfl rfl (yr_53_2 hL) d_1_12_21 ?_
    refine lv_iload_n hx hb d_1_12_24 rfl (lv_at hl 1 rfl) ?_
    obtain ⟨ok2, h⟩ := ck_e h
    refine m_ia hx hb hG hP (yi_55 hL) (yt_55 hL) ok2 d_1_12_25 ?_
    refine lv_istore_n (lv' := [(3, .int (oI (M 55 x1.toNat))), (0, .ref (ad 1)), (1, .int (oI x1)), (2, .int (oI x2))]) hx hb d_1_12_26 rfl hl (by decide) rfl (fun ls hl => ?_)
    refine lv_aload_n hx hb d_1_12_27 rfl (lv_at hl 1 rfl) ?_
    refine m_gr (j := 53) (C := "Ballothall") (T := TX11) (N := 14) (ci := 11) (k := 3) hx hb hts iX11 hown hG hP (yi_1 hL) (yt_1 hL) rfl (by decide) w_400 (fun _ h9 => h9) rfl rfl (yr_1_3 hL) d_1_12_28 ?_
    refine m_grN (j := 55) (C := "Ballothall$Lists") (T := TX7) (N := 11) (ci := 7) (k := 2) hx hb hts iX7 hown hG hP (yi_53 hL) (yt_53 hL) rfl (by decide) n_246 rfl (fun _ h9 => h9) rfl rfl (yr_53_2 hL) d_1_12_31 ?_
    refine lv_iload_n hx hb d_1_12_34 rfl (lv_at hl 2 rfl) ?_
    refine lv_iload_n hx hb d_1_12_35 rfl (lv_at hl 3 rfl) ?_
    refine m_is hx hb hG hP hD hS (yi_55 hL) (yt_55 hL) ok2 d_1_12_36 (fun H locs hP hD hS => ?_)
    have hP : va_P z.1 classes (wv z ad E (u2 M 55 x1.toNat x2)) H := hP
    have hD : va_D A (wv z ad E (u2 M 55 x1.toNat x2)) := hD
    refine lv_aload_n hx hb d_1_12_37 rfl (lv_at hl 1 rfl) ?_
    refine lv_bipush (v := oI 7) hx hb d_1_12_38 (by decide +kernel) ?_
    refine lv_iload_n hx hb d_1_12_40 rfl (lv_at hl 2 rfl) ?_
    refine lv_iload_n hx hb d_1_12_41 rfl (lv_at hl 0 rfl) ?_
    obtain ⟨M3, g3, h⟩ := bd_e h
    refine kV (As := [.int (oI 7), .int (oI x1), .int (oI (M 55 x1.toNat))]) (rest := []) (s_B_remember l z ad E (u2 M 55 x1.toNat x2) 7 x1 (M 55 x1.toNat) M3 hL g3) hx hb hml hown hts w_519 w_516 w_518 w_s_b872b3 w_1 md_7af0bb ⟨Nat.le_of_ble_eq_true rfl, Nat.le_of_ble_eq_true rfl⟩ hG hZ hP hD hS hA 1 (wv_o (ci := 11) (yi_1 hL) (yt_1 hL)) rfl rfl rfl hl.1 rfl (Nat.le_of_ble_eq_true rfl) d_1_12_42 ⟨Nat.le_of_ble_eq_true rfl, Nat.le_of_ble_eq_true rfl⟩ (fun _ H locs hP hD hS => ?_)
    have hP : va_P z.1 classes (wv z ad E M3) H := hP
    have hD : va_D A (wv z ad E M3) := hD
    refine W.eq (g2 := F0 m 45 ls []) rfl ?_
    refine lv_iload_n hx hb d_1_12_45 rfl (lv_at hl 0 rfl) ?_
    obtain ⟨rfl, rfl⟩ := in2 h
    exact W.iret hx hb hr (fun t ht hW => qkA hP hD hS (fun k => k) rfl rfl ht) hS.2.2 d_1_12_46
  exact key _ _ _ hts hP hS
