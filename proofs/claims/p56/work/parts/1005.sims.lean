set_option maxRecDepth 100000 in
set_option maxHeartbeats 4000000 in
theorem s_Li_isUnjust_20 (l : Launch) (z : Zz) (ad : Nat → Nat) (E : Ev) (q1 : Nat) (x2 : Int) {Q : State → Prop} {p : Program} {e : Env} {s : State} {m : MethodId} {below : List Frame} {meth : Method} {c : Code} {A : Nat → Prop} {args : Array Value} (hx : p.tables.exec = Jvm.exec) (hb : c.code = prog_9_method_12_code) (hml : c.maxLocals = 4) (hts : ∀ w ∈ WG, w.before args s = true) (hown : s.vm.findClass "Ballothall$Lists" = some m.cls) (hlocks : meth.locks = false) (hA : ∀ q, s.heap.size ≤ q → A q) (hG : KG z s) (hZ : FZ z A s) (hL : Lay E) : ∀ (fu : Nat) (M : Mm) (x3 : Int) (t : Nat) (w3 : Int), l_Li_isUnjust_20 E q1 x2 fu M x3 = some (t, w3) → (t = 1 → ∀ (H : Heap) (locs : List Loc) (ls : Array Slot), va_P z.1 classes (wv z ad E M) H → va_D A (wv z ad E M) → va_S A s.heap H locs → lv_has ls 4 [] → W p l e (rmK 2 62 0 0) s m args below meth c H locs 0 0 Q (F0 m 68 ls [])) → (t = 2 → ∀ (H : Heap) (locs : List Loc) (ls : Array Slot), va_P z.1 classes (wv z ad E M) H → va_D A (wv z ad E M) → va_S A s.heap H locs → lv_has ls 4 [(0, .ref (ad 53)), (1, .ref (ad q1)), (2, .int (oI x2))] → W p l e (rmK 2 62 0 0) s m args below meth c H locs 0 0 Q (F0 m 76 ls [])) → ∀ (H : Heap) (locs : List Loc) (ls : Array Slot), va_P z.1 classes (wv z ad E M) H → va_D A (wv z ad E M) → va_S A s.heap H locs → lv_has ls 4 [(0, .ref (ad 53)), (1, .ref (ad q1)), (2, .int (oI x2)), (3, .int (oI x3))] → W p l e (rmK 2 62 0 0) s m args below meth c H locs 0 0 Q (F0 m 20 ls []) := by
  intro fu
  induction fu with
  | zero =>
    intro M x3 t w3 h
    have h : (none : Option (Nat × Int)) = some _ := h
    cases h
  | succ fu ih =>
    intro M x3 t w3 h k1 k2 H locs ls hP hD hS hl
    obtain ⟨⟨t0, w30⟩, g0, h⟩ := bd_e h
    refine b_Li_isUnjust_20b l z ad E M q1 x2 x3 t0 w30 hx hb hml hts hown hlocks hA hG hZ hL g0 (fun e0 => ?_) (fun e0 => ?_) (fun e0 => ?_) H locs ls hP hD hS hl
    · subst e0
      have h := ite_t rfl h
      exact ih M w30 t w3 h k1 k2
    · subst e0
      have h := ite_f (by decide) h
      obtain ⟨rfl, rfl⟩ := in2 h
      exact k1 rfl
    · subst e0
      have h := ite_f (by decide) h
      obtain ⟨rfl, rfl⟩ := in2 h
      exact k2 rfl
set_option maxRecDepth 100000 in
set_option maxHeartbeats 4000000 in
theorem b_Li_isUnjust_10b (l : Launch) (z : Zz) (ad : Nat → Nat) (E : Ev) (M : Mm) (q1 : Nat) (x2 : Int) (t : Nat) (w2 : Int)  {Q : State → Prop} {p : Program} {e : Env} {s : State} {m : MethodId} {below : List Frame} {meth : Method} {c : Code} {A : Nat → Prop} {args : Array Value} (hx : p.tables.exec = Jvm.exec) (hb : c.code = prog_9_method_12_code) (hml : c.maxLocals = 4) (hts : ∀ w ∈ WG, w.before args s = true) (hown : s.vm.findClass "Ballothall$Lists" = some m.cls) (hlocks : meth.locks = false) (hA : ∀ q, s.heap.size ≤ q → A q) (hG : KG z s) (hZ : FZ z A s) (hL : Lay E) (h : Li_isUnjust_10b E M q1 x2 = some (t, w2)) (k0 : t = 0 → ∀ (H : Heap) (locs : List Loc) (ls : Array Slot), va_P z.1 classes (wv z ad E M) H → va_D A (wv z ad E M) → va_S A s.heap H locs → lv_has ls 4 [(0, .ref (ad 53)), (1, .ref (ad q1)), (2, .int (oI w2))] → W p l e (rmK 2 62 0 0) s m args below meth c H locs 0 0 Q (F0 m 10 ls [])) (k1 : t = 1 → ∀ (H : Heap) (locs : List Loc) (ls : Array Slot), va_P z.1 classes (wv z ad E M) H → va_D A (wv z ad E M) → va_S A s.heap H locs → lv_has ls 4 [] → W p l e (rmK 2 62 0 0) s m args below meth c H locs 0 0 Q (F0 m 68 ls [])) (k2 : t = 2 → ∀ (H : Heap) (locs : List Loc) (ls : Array Slot), va_P z.1 classes (wv z ad E M) H → va_D A (wv z ad E M) → va_S A s.heap H locs → lv_has ls 4 [] → W p l e (rmK 2 62 0 0) s m args below meth c H locs 0 0 Q (F0 m 82 ls [])) : ∀ (H : Heap) (locs : List Loc) (ls : Array Slot), va_P z.1 classes (wv z ad E M) H → va_D A (wv z ad E M) → va_S A s.heap H locs → lv_has ls 4 [(0, .ref (ad 53)), (1, .ref (ad q1)), (2, .int (oI x2))] → W p l e (rmK 2 62 0 0) s m args below meth c H locs 0 0 Q (F0 m 10 ls []) := by
  intro H locs ls hP hD hS hl
  unfold Li_isUnjust_10b at h
  obtain ⟨h_q1, h⟩ := ck_e h
  refine lv_iload_n hx hb d_9_12_10 rfl (lv_at hl 2 rfl) ?_
  refine lv_aload_n hx hb d_9_12_11 rfl (lv_at hl 0 rfl) ?_
  refine m_gi (C := "Ballothall$Lists") (T := TX7) (N := 11) (ci := 7) (k := 0) hx hb hts iX7 hown hG hP (yi_53 hL) (yt_53 hL) rfl (by decide) w_242 (fun _ h9 => h9) rfl rfl d_9_12_12 ?_
  obtain ⟨ok1, h⟩ := ck_e h
  obtain ⟨ok2, h⟩ := ck_e h
  refine lv_icmp_ge (tgt := 82) hx hb d_9_12_15 (by decide) (fun c9 => ?_) (fun c9 => ?_)
  · have h := ite_t ((oI_le (a := (M 53 0)) (b := x2) ok2 ok1).mp c9) h
    obtain ⟨rfl, rfl⟩ := in2 h
    exact k2 rfl H locs ls hP hD hS (lv_sub hl [] rfl)
  · have h := ite_f (fun q => c9 ((oI_le (a := (M 53 0)) (b := x2) ok2 ok1).mpr q)) h
    refine lv_iconst (v := oI 0) hx hb d_9_12_18 (by decide +kernel) ?_
    refine lv_istore_n (lv' := [(3, .int (oI 0)), (0, .ref (ad 53)), (1, .ref (ad q1)), (2, .int (oI x2))]) hx hb d_9_12_19 rfl hl (by decide) rfl (fun ls hl => ?_)
    obtain ⟨⟨t17, v17_3⟩, g17, h⟩ := bd_e h
    refine s_Li_isUnjust_20 l z ad E q1 x2 hx hb hml hts hown hlocks hA hG hZ hL FU M 0 t17 v17_3 g17 (fun e17 H locs ls hP hD hS hl => ?_) (fun e17 H locs ls hP hD hS hl => ?_) H locs ls hP hD hS (lv_sub hl [1, 2, 3, 0] rfl)
    · subst e17
      have h := ite_t rfl h
      obtain ⟨rfl, rfl⟩ := in2 h
      exact k1 rfl H locs ls hP hD hS (lv_sub hl [] rfl)
    · subst e17
      have h := ite_f (by decide) h
      have h := ite_t rfl h
      refine lv_iinc (v := oI (x2 + 1)) (lv' := [(2, .int (oI (x2 + 1))), (0, .ref (ad 53)), (1, .ref (ad q1))]) hx hb d_9_12_76 hl (k := 2) rfl (oI_add x2 1) (by decide) rfl (fun ls hl => ?_)
      refine lv_goto (tgt := 10) hx hb d_9_12_79 (by decide) ?_
      obtain ⟨rfl, rfl⟩ := in2 h
      exact k0 rfl H locs ls hP hD hS (lv_sub hl [1, 2, 0] rfl)
set_option maxRecDepth 100000 in
set_option maxHeartbeats 4000000 in
theorem s_Li_isUnjust_10 (l : Launch) (z : Zz) (ad : Nat → Nat) (E : Ev) (q1 : Nat) {Q : State → Prop} {p : Program} {e : Env} {s : State} {m : MethodId} {below : List Frame} {meth : Method} {c : Code} {A : Nat → Prop} {args : Array Value} (hx : p.tables.exec = Jvm.exec) (hb : c.code = prog_9_method_12_code) (hml : c.maxLocals = 4) (hts : ∀ w ∈ WG, w.before args s = true) (hown : s.vm.findClass "Ballothall$Lists" = some m.cls) (hlocks : meth.locks = false) (hA : ∀ q, s.heap.size ≤ q → A q) (hG : KG z s) (hZ : FZ z A s) (hL : Lay E) : ∀ (fu : Nat) (M : Mm) (x2 : Int) (t : Nat) (w2 : Int), l_Li_isUnjust_10 E q1 fu M x2 = some (t, w2) → (t = 1 → ∀ (H : Heap) (locs : List Loc) (ls : Array Slot), va_P z.1 classes (wv z ad E M) H → va_D A (wv z ad E M) → va_S A s.heap H locs → lv_has ls 4 [] → W p l e (rmK 2 62 0 0) s m args below meth c H locs 0 0 Q (F0 m 68 ls [])) → (t = 2 → ∀ (H : Heap) (locs : List Loc) (ls : Array Slot), va_P z.1 classes (wv z ad E M) H → va_D A (wv z ad E M) → va_S A s.heap H locs → lv_has ls 4 [] → W p l e (rmK 2 62 0 0) s m args below meth c H locs 0 0 Q (F0 m 82 ls [])) → ∀ (H : Heap) (locs : List Loc) (ls : Array Slot), va_P z.1 classes (wv z ad E M) H → va_D A (wv z ad E M) → va_S A s.heap H locs → lv_has ls 4 [(0, .ref (ad 53)), (1, .ref (ad q1)), (2, .int (oI x2))] → W p l e (rmK 2 62 0 0) s m args below meth c H locs 0 0 Q (F0 m 10 ls []) := by
  intro fu
  induction fu with
  | zero =>
    intro M x2 t w2 h
    have h : (none : Option (Nat × Int)) = some _ := h
    cases h
  | succ fu ih =>
    intro M x2 t w2 h k1 k2 H locs ls hP hD hS hl
    obtain ⟨⟨t0, w20⟩, g0, h⟩ := bd_e h
    refine b_Li_isUnjust_10b l z ad E M q1 x2 t0 w20 hx hb hml hts hown hlocks hA hG hZ hL g0 (fun e0 => ?_) (fun e0 => ?_) (fun e0 => ?_) H locs ls hP hD hS hl
    · subst e0
      have h := ite_t rfl h
      exact ih M w20 t w2 h k1 k2
    · subst e0
      have h := ite_f (by decide) h
      obtain ⟨rfl, rfl⟩ := in2 h
      exact k1 rfl
    · subst e0
      have h := ite_f (by decide) h
      obtain ⟨rfl, rfl⟩ := in2 h
      exact k2 rfl
set_option maxRecDepth 100000 in
set_option maxHeartbeats 4000000 in
theorem s_Li_isUnjust (l : Launch) (z : Zz) (ad : Nat → Nat) (E : Ev) (M : Mm) (r : Int)  (hL : Lay E) (h : f_Li_isUnjust E M = some r) : CT l z ⟨"Ballothall$Lists", "isUnjust", "()Z"⟩ prog_9_method_12_code 4 (some .boolean) [.ref (ad 53)] (wv z ad E M) 2 62 0 0 (fun _ => some (.int (oI r))) (fun _ => (wv z ad E M)) := by
  refine CT.of (own := "Ballothall$Lists") (by decide +kernel) (Nat.le_of_ble_eq_true rfl) rfl (fun p e s m below meth c A ls hx hb hml hr hts hown hlocks hin hA hG hZ hP hD hS hl => ?_)
  have hl : lv_has ls 4 [(0, .ref (ad 53))] := hl
  have key : ∀ (H : Heap) (locs : List Loc) (args : Array Value), (∀ w ∈ WG, w.before args s = true) → va_P z.1 classes (wv z ad E M) H → va_S A s.heap H locs → W p l e (rmK 2 62 0 0) s m args below meth c H locs 0 0 (MQ below (QK z A (fun _ => some (.int (oI r))) (fun _ => (wv z ad E M))) args s 0 0 A) (F0 m 0 ls []) := by
    intro H locs args hts hP hS
    unfold f_Li_isUnjust at h
    refine lv_aload_n hx hb d_9_12_0 rfl (lv_at hl 0 rfl) ?_
    obtain ⟨r0, g0, h⟩ := bd_e h
    refine kV (As := []) (rest := []) (s_Li_latest l z ad E M r0 hL g0) hx hb hml hown hts w_584 w_581 w_583 w_s_46c41a w_5 md_cb0049 ⟨Nat.le_of_ble_eq_true rfl, Nat.le_of_ble_eq_true rfl⟩ hG hZ hP hD hS hA 53 (wv_o (ci := 7) (yi_53 hL) (yt_53 hL)) rfl rfl rfl hl.1 rfl (Nat.le_of_ble_eq_true rfl) d_9_12_1 ⟨Nat.le_of_ble_eq_true rfl, Nat.le_of_ble_eq_true rfl⟩ (fun _ H locs hP hD hS => ?_)
    have hP : va_P z.1 classes (wv z ad E M) H := hP
    have hD : va_D A (wv z ad E M) := hD
    obtain ⟨h_r0, h⟩ := ck_e h
    refine W.eq (g2 := F0 m 4 ls [.ref (ad r0)]) rfl ?_
    refine m_grN (j := (r0 + 2)) (C := "Ballothall$KeptSeats") (T := TX6) (N := 7) (ci := 6) (k := 4) hx hb hts iX6 hown hG hP (isKs_i h_r0) (isKs_T h_r0) rfl (by decide) n_221 rfl (fun _ h9 => h9) rfl rfl (isKs_r4 h_r0) d_9_12_4 ?_
    refine lv_astore_n (lv' := [(1, .ref (ad (r0 + 2))), (0, .ref (ad 53))]) hx hb d_9_12_7 rfl hl (by decide) rfl (fun ls hl => ?_)
    refine lv_iconst (v := oI 0) hx hb d_9_12_8 (by decide +kernel) ?_
    refine lv_istore_n (lv' := [(2, .int (oI 0)), (1, .ref (ad (r0 + 2))), (0, .ref (ad 53))]) hx hb d_9_12_9 rfl hl (by decide) rfl (fun ls hl => ?_)
    obtain ⟨⟨t18, v18_2⟩, g18, h⟩ := bd_e h
    refine s_Li_isUnjust_10 l z ad E (r0 + 2) hx hb hml hts hown hlocks hA hG hZ hL FU M 0 t18 v18_2 g18 (fun e18 H locs ls hP hD hS hl => ?_) (fun e18 H locs ls hP hD hS hl => ?_) H locs ls hP hD hS (lv_sub hl [2, 1, 0] rfl)
    · subst e18
      have h := ite_t rfl h
      refine lv_iconst (v := oI 1) hx hb d_9_12_68 (by decide +kernel) ?_
      obtain rfl := in1 h
      exact W.zret hx hb hr rfl (fun t ht hW => qkA hP hD hS (fun k => k) rfl rfl ht) hS.2.2 d_9_12_69
    · subst e18
      have h := ite_f (by decide) h
      have h := ite_t rfl h
      refine lv_iconst (v := oI 0) hx hb d_9_12_82 (by decide +kernel) ?_
      obtain rfl := in1 h
      exact W.zret hx hb hr rfl (fun t ht hW => qkA hP hD hS (fun k => k) rfl rfl ht) hS.2.2 d_9_12_83
  exact key _ _ _ hts hP hS
set_option maxRecDepth 100000 in
set_option maxHeartbeats 4000000 in
theorem s_Po_path (l : Launch) (z : Zz) (ad : Nat → Nat) (E : Ev) (M : Mm) (x1 : Int) (x2 : Int) (r : Int)  (hL : Lay E) (h : f_Po_path E M x1 x2 = some r) : CT l z ⟨"Ballothall$Poll", "path", "(II)I"⟩ prog_11_method_6_code 3 (some .int) [.ref (ad 41), .int (oI x1), .int (oI x2)] (wv z ad E M) 0 20 0 0 (fun _ => some (.int (oI r))) (fun _ => (wv z ad E M)) := by
  refine CT.of (own := "Ballothall$Poll") (by decide +kernel) (Nat.le_of_ble_eq_true rfl) rfl (fun p e s m below meth c A ls hx hb hml hr hts hown hlocks hin hA hG hZ hP hD hS hl => ?_)
  have hl : lv_has ls 3 [(0, .ref (ad 41)), (1, .int (oI x1)), (2, .int (oI x2))] := hl
  have key : ∀ (H : Heap) (locs : List Loc) (args : Array Value), (∀ w ∈ WG, w.before args s = true) → va_P z.1 classes (wv z ad E M) H → va_S A s.heap H locs → W p l e (rmK 0 20 0 0) s m args below meth c H locs 0 0 (MQ below (QK z A (fun _ => some (.int (oI r))) (fun _ => (wv z ad E M))) args s 0 0 A) (F0 m 0 ls []) := by
    intro H locs args hts hP hS
    unfold f_Po_path at h
    refine lv_aload_n hx hb d_11_6_0 rfl (lv_at hl 0 rfl) ?_
    refine m_gr (j := 47) (C := "Ballothall$Poll") (T := TX9) (N := 12) (ci := 9) (k := 8) hx hb hts iX9 hown hG hP (yi_41 hL) (yt_41 hL) rfl (by decide) w_115 (fun _ h9 => h9) rfl rfl (yr_41_8 hL) d_11_6_1 ?_
    refine lv_iload_n hx hb d_11_6_4 rfl (lv_at hl 1 rfl) ?_
    refine lv_bipush (v := oI 8) hx hb d_11_6_5 (by decide +kernel) ?_
    refine lv_imul hx hb d_11_6_7 ?_
    refine nrm (oI_mul _ _) ?_
    refine lv_iload_n hx hb d_11_6_8 rfl (lv_at hl 2 rfl) ?_
    refine lv_iadd hx hb d_11_6_9 ?_
    refine nrm (oI_add _ _) ?_
    obtain ⟨ok0, h⟩ := ck_e h
    refine m_ia hx hb hG hP (yi_47 hL) (yt_47 hL) ok0 d_11_6_10 ?_
    obtain rfl := in1 h
    exact W.iret hx hb hr (fun t ht hW => qkA hP hD hS (fun k => k) rfl rfl ht) hS.2.2 d_11_6_11
  exact key _ _ _ hts hP hS
set_option maxRecDepth 100000 in
set_option maxHeartbeats 4000000 in
theorem b_Po_widenPaths_10b (l : Launch) (z : Zz) (ad : Nat → Nat) (E : Ev) (M : Mm) (x1 : Int) (x2 : Int) (x3 : Int) (x4 : Int) (t : Nat) (w4 : Int) (N : Mm) {Q : State → Prop} {p : Program} {e : Env} {s : State} {m : MethodId} {below : List Frame} {meth : Method} {c : Code} {A : Nat → Prop} {args : Array Value} (hx : p.tables.exec = Jvm.exec) (hb : c.code = prog_11_method_13_code) (hml : c.maxLocals = 6) (hts : ∀ w ∈ WG, w.before args s = true) (hown : s.vm.findClass "Ballothall$Poll" = some m.cls) (hlocks : meth.locks = false) (hA : ∀ q, s.heap.size ≤ q → A q) (hG : KG z s) (hZ : FZ z A s) (hL : Lay E) (h : Po_widenPaths_10b E M x1 x2 x3 x4 = some (t, w4, N)) (k0 : t = 0 → ∀ (H : Heap) (locs : List Loc) (ls : Array Slot), va_P z.1 classes (wv z ad E N) H → va_D A (wv z ad E N) → va_S A s.heap H locs → lv_has ls 6 [(0, .ref (ad 41)), (1, .int (oI x1)), (2, .int (oI x2)), (3, .int (oI x3)), (4, .int (oI w4))] → W p l e (rmK 1 42 0 0) s m args below meth c H locs 0 0 Q (F0 m 10 ls [])) (k1 : t = 1 → ∀ (H : Heap) (locs : List Loc) (ls : Array Slot), va_P z.1 classes (wv z ad E N) H → va_D A (wv z ad E N) → va_S A s.heap H locs → lv_has ls 6 [] → W p l e (rmK 1 42 0 0) s m args below meth c H locs 0 0 Q (F0 m 73 ls [])) : ∀ (H : Heap) (locs : List Loc) (ls : Array Slot), va_P z.1 classes (wv z ad E M) H → va_D A (wv z ad E M) → va_S A s.heap H locs → lv_has ls 6 [(0, .ref (ad 41)), (1, .int (oI x1)), (2, .int (oI x2)), (3, .int (oI x3)), (4, .int (oI x4))] → W p l e (rmK 1 42 0 0) s m args below meth c H locs 0 0 Q (F0 m 10 ls []) := by
  intro H locs ls hP hD hS hl
  unfold Po_widenPaths_10b at h
  refine lv_iload hx hb d_11_13_10 (lv_at hl 4 rfl) ?_
  refine lv_aload_n hx hb d_11_13_12 rfl (lv_at hl 0 rfl) ?_
  refine m_gr (j := 2) (C := "Ballothall$Poll") (T := TX9) (N := 12) (ci := 9) (k := 0) hx hb hts iX9 hown hG hP (yi_41 hL) (yt_41 hL) rfl (by decide) w_107 (fun _ h9 => h9) rfl rfl (yr_41_0 hL) d_11_13_13 ?_
  refine m_giN (C := "Ballothall$BallotBox") (T := TX0) (N := 10) (ci := 0) (k := 2) hx hb hts iX0 hown hG hP (yi_2 hL) (yt_2 hL) rfl (by decide) n_53 rfl (fun _ h9 => h9) rfl rfl d_11_13_16 ?_
  obtain ⟨ok1, h⟩ := ck_e h
  obtain ⟨ok2, h⟩ := ck_e h
  refine lv_icmp_ge (tgt := 73) hx hb d_11_13_19 (by decide) (fun c9 => ?_) (fun c9 => ?_)
  · have h := ite_t ((oI_le (a := (M 2 2)) (b := x4) ok2 ok1).mp c9) h
    obtain ⟨rfl, rfl, rfl⟩ := in3 h
    exact k1 rfl H locs ls hP hD hS (lv_sub hl [] rfl)
  · have h := ite_f (fun q => c9 ((oI_le (a := (M 2 2)) (b := x4) ok2 ok1).mpr q)) h
    refine lv_iload_n hx hb d_11_13_22 rfl (lv_at hl 3 rfl) ?_
    refine lv_aload_n hx hb d_11_13_23 rfl (lv_at hl 0 rfl) ?_
    refine lv_iload_n hx hb d_11_13_24 rfl (lv_at hl 2 rfl) ?_
    refine lv_iload hx hb d_11_13_25 (lv_at hl 4 rfl) ?_
    obtain ⟨r3, g3, h⟩ := bd_e h
    refine kV (As := [.int (oI x2), .int (oI x4)]) (rest := [.int (oI x3)]) (s_Po_path l z ad E M x2 x4 r3 hL g3) hx hb hml hown hts w_733 w_730 w_732 w_s_f68c3b w_3 md_2f75ac ⟨Nat.le_of_ble_eq_true rfl, Nat.le_of_ble_eq_true rfl⟩ hG hZ hP hD hS hA 41 (wv_o (ci := 9) (yi_41 hL) (yt_41 hL)) rfl rfl rfl hl.1 rfl (Nat.le_of_ble_eq_true rfl) d_11_13_27 ⟨Nat.le_of_ble_eq_true rfl, Nat.le_of_ble_eq_true rfl⟩ (fun _ H locs hP hD hS => ?_)
    have hP : va_P z.1 classes (wv z ad E M) H := hP
    have hD : va_D A (wv z ad E M) := hD
    refine W.eq (g2 := F0 m 30 ls [.int (oI r3), .int (oI x3)]) rfl ?_
    obtain ⟨ok4, h⟩ := ck_e h
    obtain ⟨ok5, h⟩ := ck_e h
    refine va_mmin hx hb (by rw [hml]; exact hl.1.symm) hown (hts _ w_738) (hts _ w_521) (hts _ w_17) (hts _ w_min) (Nat.le_of_ble_eq_true rfl) (Nat.le_of_ble_eq_true rfl) (Nat.le_of_ble_eq_true rfl) (Nat.le_of_ble_eq_true rfl) d_11_13_30 ?_
    refine nrm (mn_oI (a := x3) (b := r3) ok4 ok5) ?_
    refine lv_istore (lv' := [(5, .int (oI (min x3 r3))), (0, .ref (ad 41)), (1, .int (oI x1)), (2, .int (oI x2)), (3, .int (oI x3)), (4, .int (oI x4))]) hx hb d_11_13_33 hl (by decide) rfl (fun ls hl => ?_)
    refine lv_iload hx hb d_11_13_35 (lv_at hl 5 rfl) ?_
    refine lv_iload_n hx hb d_11_13_37 rfl (lv_at hl 2 rfl) ?_
    obtain ⟨ok6, h⟩ := ck_e h
    refine lv_icmp_eq (tgt := 67) hx hb d_11_13_38 (by decide) (fun c9 => ?_) (fun c9 => ?_)
    · have h := ite_t ((oI_eq (a := x4) (b := x1) ok1 ok6).mp c9) h
      refine lv_iinc (v := oI (x4 + 1)) (lv' := [(4, .int (oI (x4 + 1))), (5, .int (oI (min x3 r3))), (0, .ref (ad 41)), (1, .int (oI x1)), (2, .int (oI x2)), (3, .int (oI x3))]) hx hb d_11_13_67 hl (k := 5) rfl (oI_add x4 1) (by decide) rfl (fun ls hl => ?_)
      refine lv_goto (tgt := 10) hx hb d_11_13_70 (by decide) ?_
      obtain ⟨rfl, rfl, rfl⟩ := in3 h
      exact k0 rfl H locs ls hP hD hS (lv_sub hl [2, 3, 4, 5, 0] rfl)
    · have h := ite_f (fun q => c9 ((oI_eq (a := x4) (b := x1) ok1 ok6).mpr q)) h
      refine lv_iload hx hb d_11_13_41 (lv_at hl 0 rfl) ?_
      refine lv_aload_n hx hb d_11_13_43 rfl (lv_at hl 1 rfl) ?_
      refine lv_iload_n hx hb d_11_13_44 rfl (lv_at hl 2 rfl) ?_
      refine lv_iload hx hb d_11_13_45 (lv_at hl 5 rfl) ?_
      obtain ⟨r7, g7, h⟩ := bd_e h
      refine kV (As := [.int (oI x1), .int (oI x4)]) (rest := [.int (oI (min x3 r3))]) (s_Po_path l z ad E M x1 x4 r7 hL g7) hx hb hml hown hts w_733 w_730 w_732 w_s_f68c3b w_3 md_2f75ac ⟨Nat.le_of_ble_eq_true rfl, Nat.le_of_ble_eq_true rfl⟩ hG hZ hP hD hS hA 41 (wv_o (ci := 9) (yi_41 hL) (yt_41 hL)) rfl rfl rfl hl.1 rfl (Nat.le_of_ble_eq_true rfl) d_11_13_47 ⟨Nat.le_of_ble_eq_true rfl, Nat.le_of_ble_eq_true rfl⟩ (fun _ H locs hP hD hS => ?_)
      have hP : va_P z.1 classes (wv z ad E M) H := hP
      have hD : va_D A (wv z ad E M) := hD
      refine W.eq (g2 := F0 m 50 ls [.int (oI r7), .int (oI (min x3 r3))]) rfl ?_
      obtain ⟨ok8, h⟩ := ck_e h
      refine lv_icmp_le (tgt := 67) hx hb d_11_13_50 (by decide) (fun c9 => ?_) (fun c9 => ?_)
      · have h := ite_t ((oI_le (a := (min x3 r3)) (b := r7) (rg_min (x := x3) (y := r3) ok4 ok5) ok8).mp c9) h
        refine lv_iinc (v := oI (x4 + 1)) (lv' := [(4, .int (oI (x4 + 1))), (5, .int (oI (min x3 r3))), (0, .ref (ad 41)), (1, .int (oI x1)), (2, .int (oI x2)), (3, .int (oI x3))]) hx hb d_11_13_67 hl (k := 5) rfl (oI_add x4 1) (by decide) rfl (fun ls hl => ?_)
        refine lv_goto (tgt := 10) hx hb d_11_13_70 (by decide) ?_
        obtain ⟨rfl, rfl, rfl⟩ := in3 h
        exact k0 rfl H locs ls hP hD hS (lv_sub hl [2, 3, 4, 5, 0] rfl)
      · have h := ite_f (fun q => c9 ((oI_le (a := (min x3 r3)) (b := r7) (rg_min (x := x3) (y := r3) ok4 ok5) ok8).mpr q)) h
        refine lv_aload_n hx hb d_11_13_53 rfl (lv_at hl 1 rfl) ?_
        refine m_gr (j := 47) (C := "Ballothall$Poll") (T := TX9) (N := 12) (ci := 9) (k := 8) hx hb hts iX9 hown hG hP (yi_41 hL) (yt_41 hL) rfl (by decide) w_115 (fun _ h9 => h9) rfl rfl (yr_41_8 hL) d_11_13_54 ?_
        refine lv_iload_n hx hb d_11_13_57 rfl (lv_at hl 2 rfl) ?_
        refine lv_bipush (v := oI 8) hx hb d_11_13_58 (by decide +kernel) ?_
        refine lv_imul hx hb d_11_13_60 ?_
        refine nrm (oI_mul _ _) ?_
        refine lv_iload hx hb d_11_13_61 (lv_at hl 5 rfl) ?_
        refine lv_iadd hx hb d_11_13_63 ?_
        refine nrm (oI_add _ _) ?_
        refine lv_iload hx hb d_11_13_64 (lv_at hl 0 rfl) ?_
        obtain ⟨ok9, h⟩ := ck_e h
        refine m_is hx hb hG hP hD hS (yi_47 hL) (yt_47 hL) ok9 d_11_13_66 (fun H locs hP hD hS => ?_)
        have hP : va_P z.1 classes (wv z ad E (u2 M 47 ((x1 * 8) + x4).toNat (min x3 r3))) H := hP
        have hD : va_D A (wv z ad E (u2 M 47 ((x1 * 8) + x4).toNat (min x3 r3))) := hD
        refine lv_iinc (v := oI (x4 + 1)) (lv' := [(4, .int (oI (x4 + 1))), (5, .int (oI (min x3 r3))), (0, .ref (ad 41)), (1, .int (oI x1)), (2, .int (oI x2)), (3, .int (oI x3))]) hx hb d_11_13_67 hl (k := 5) rfl (oI_add x4 1) (by decide) rfl (fun ls hl => ?_)
        refine lv_goto (tgt := 10) hx hb d_11_13_70 (by decide) ?_
        obtain ⟨rfl, rfl, rfl⟩ := in3 h
        exact k0 rfl H locs ls hP hD hS (lv_sub hl [2, 3, 4, 5, 0] rfl)
set_option maxRecDepth 100000 in
set_option maxHeartbeats 4000000 in
theorem s_Po_widenPaths_10 (l : Launch) (z : Zz) (ad : Nat → Nat) (E : Ev) (x1 : Int) (x2 : Int) (x3 : Int) {Q : State → Prop} {p : Program} {e : Env} {s : State} {m : MethodId} {below : List Frame} {meth : Method} {c : Code} {A : Nat → Prop} {args : Array Value} (hx : p.tables.exec = Jvm.exec) (hb : c.code = prog_11_method_13_code) (hml : c.maxLocals = 6) (hts : ∀ w ∈ WG, w.before args s = true) (hown : s.vm.findClass "Ballothall$Poll" = some m.cls) (hlocks : meth.locks = false) (hA : ∀ q, s.heap.size ≤ q → A q) (hG : KG z s) (hZ : FZ z A s) (hL : Lay E) : ∀ (fu : Nat) (M : Mm) (x4 : Int) (t : Nat) (w4 : Int) (N : Mm), l_Po_widenPaths_10 E x1 x2 x3 fu M x4 = some (t, w4, N) → (t = 1 → ∀ (H : Heap) (locs : List Loc) (ls : Array Slot), va_P z.1 classes (wv z ad E N) H → va_D A (wv z ad E N) → va_S A s.heap H locs → lv_has ls 6 [] → W p l e (rmK 1 42 0 0) s m args below meth c H locs 0 0 Q (F0 m 73 ls [])) → ∀ (H : Heap) (locs : List Loc) (ls : Array Slot), va_P z.1 classes (wv z ad E M) H → va_D A (wv z ad E M) → va_S A s.heap H locs → lv_has ls 6 [(0, .ref (ad 41)), (1, .int (oI x1)), (2, .int (oI x2)), (3, .int (oI x3)), (4, .int (oI x4))] → W p l e (rmK 1 42 0 0) s m args below meth c H locs 0 0 Q (F0 m 10 ls []) := by
  intro fu
  induction fu with
  | zero =>
    intro M x4 t w4 N h
    have h : (none : Option (Nat × Int × Mm)) = some _ := h
    cases h
  | succ fu ih =>
    intro M x4 t w4 N h k1 H locs ls hP hD hS hl
    obtain ⟨⟨t0, w40, N9⟩, g0, h⟩ := bd_e h
    refine b_Po_widenPaths_10b l z ad E M x1 x2 x3 x4 t0 w40 N9 hx hb hml hts hown hlocks hA hG hZ hL g0 (fun e0 => ?_) (fun e0 => ?_) H locs ls hP hD hS hl
    · subst e0
      have h := ite_t rfl h
      exact ih N9 w40 t w4 N h k1
    · subst e0
      have h := ite_f (by decide) h
      obtain ⟨rfl, rfl, rfl⟩ := in3 h
      exact k1 rfl
set_option maxRecDepth 100000 in
set_option maxHeartbeats 4000000 in
theorem s_Po_widenPaths (l : Launch) (z : Zz) (ad : Nat → Nat) (E : Ev) (M : Mm) (x1 : Int) (x2 : Int) (N : Mm) (hL : Lay E) (h : f_Po_widenPaths E M x1 x2 = some N) : CT l z ⟨"Ballothall$Poll", "widenPaths", "(II)V"⟩ prog_11_method_13_code 6 none [.ref (ad 41), .int (oI x1), .int (oI x2)] (wv z ad E M) 1 42 0 0 (fun _ => none) (fun _ => (wv z ad E N)) := by
  refine CT.of (own := "Ballothall$Poll") (by decide +kernel) (Nat.le_of_ble_eq_true rfl) rfl (fun p e s m below meth c A ls hx hb hml hr hts hown hlocks hin hA hG hZ hP hD hS hl => ?_)
  have hl : lv_has ls 6 [(0, .ref (ad 41)), (1, .int (oI x1)), (2, .int (oI x2))] := hl
  have key : ∀ (H : Heap) (locs : List Loc) (args : Array Value), (∀ w ∈ WG, w.before args s = true) → va_P z.1 classes (wv z ad E M) H → va_S A s.heap H locs → W p l e (rmK 1 42 0 0) s m args below meth c H locs 0 0 (MQ below (QK z A (fun _ => none) (fun _ => (wv z ad E N))) args s 0 0 A) (F0 m 0 ls []) := by
    intro H locs args hts hP hS
    unfold f_Po_widenPaths at h
    refine lv_aload_n hx hb d_11_13_0 rfl (lv_at hl 0 rfl) ?_
    refine lv_iload_n hx hb d_11_13_1 rfl (lv_at hl 1 rfl) ?_
    refine lv_iload_n hx hb d_11_13_2 rfl (lv_at hl 2 rfl) ?_
    obtain ⟨r0, g0, h⟩ := bd_e h
    refine kV (As := [.int (oI x1), .int (oI x2)]) (rest := []) (s_Po_path l z ad E M x1 x2 r0 hL g0) hx hb hml hown hts w_733 w_730 w_732 w_s_f68c3b w_3 md_2f75ac ⟨Nat.le_of_ble_eq_true rfl, Nat.le_of_ble_eq_true rfl⟩ hG hZ hP hD hS hA 41 (wv_o (ci := 9) (yi_41 hL) (yt_41 hL)) rfl rfl rfl hl.1 rfl (Nat.le_of_ble_eq_true rfl) d_11_13_3 ⟨Nat.le_of_ble_eq_true rfl, Nat.le_of_ble_eq_true rfl⟩ (fun _ H locs hP hD hS => ?_)
    have hP : va_P z.1 classes (wv z ad E M) H := hP
    have hD : va_D A (wv z ad E M) := hD
    refine W.eq (g2 := F0 m 6 ls [.int (oI r0)]) rfl ?_
    refine lv_istore_n (lv' := [(3, .int (oI r0)), (0, .ref (ad 41)), (1, .int (oI x1)), (2, .int (oI x2))]) hx hb d_11_13_6 rfl hl (by decide) rfl (fun ls hl => ?_)
    refine lv_iconst (v := oI 0) hx hb d_11_13_7 (by decide +kernel) ?_
    refine lv_istore (lv' := [(4, .int (oI 0)), (3, .int (oI r0)), (0, .ref (ad 41)), (1, .int (oI x1)), (2, .int (oI x2))]) hx hb d_11_13_8 hl (by decide) rfl (fun ls hl => ?_)
    obtain ⟨⟨t10, v10_4, M10⟩, g10, h⟩ := bd_e h
    obtain ⟨ok10, h⟩ := ck_e h
    refine s_Po_widenPaths_10 l z ad E x1 x2 r0 hx hb hml hts hown hlocks hA hG hZ hL FU M 0 t10 v10_4 M10 g10 (fun e10 H locs ls hP hD hS hl => ?_) H locs ls hP hD hS (lv_sub hl [2, 3, 4, 1, 0] rfl)
    obtain rfl := in1 h
    exact W.vret hx hb hr (fun t ht hW => qkA hP hD hS (fun k => k) rfl rfl ht) hS.2.2 d_11_13_73
  exact key _ _ _ hts hP hS
set_option maxRecDepth 100000 in
set_option maxHeartbeats 4000000 in
theorem b_Po_findPaths_j55 (l : Launch) (z : Zz) (ad : Nat → Nat) (E : Ev) (M : Mm) (x1 : Int) (x2 : Int) (y0 : Int) (y1 : Int) (y2 : Nat) (t : Nat) (w2 : Int) (N : Mm) {Q : State → Prop} {p : Program} {e : Env} {s : State} {m : MethodId} {below : List Frame} {meth : Method} {c : Code} {A : Nat → Prop} {args : Array Value} (hx : p.tables.exec = Jvm.exec) (hb : c.code = prog_11_method_12_code) (hml : c.maxLocals = 3) (hts : ∀ w ∈ WG, w.before args s = true) (hown : s.vm.findClass "Ballothall$Poll" = some m.cls) (hlocks : meth.locks = false) (hA : ∀ q, s.heap.size ≤ q → A q) (hG : KG z s) (hZ : FZ z A s) (hL : Lay E) (h : Po_findPaths_j55 E M x1 x2 y0 y1 y2 = some (t, w2, N)) (k0 : t = 0 → ∀ (H : Heap) (locs : List Loc) (ls : Array Slot), va_P z.1 classes (wv z ad E N) H → va_D A (wv z ad E N) → va_S A s.heap H locs → lv_has ls 3 [(0, .ref (ad 41)), (1, .int (oI x1)), (2, .int (oI w2))] → W p l e (rmK 2 67 0 0) s m args below meth c H locs 0 0 Q (F0 m 15 ls [])) (k1 : t = 1 → ∀ (H : Heap) (locs : List Loc) (ls : Array Slot), va_P z.1 classes (wv z ad E N) H → va_D A (wv z ad E N) → va_S A s.heap H locs → lv_has ls 3 [(0, .ref (ad 41)), (1, .int (oI x1))] → W p l e (rmK 2 67 0 0) s m args below meth c H locs 0 0 Q (F0 m 62 ls [])) : ∀ (H : Heap) (locs : List Loc) (ls : Array Slot), va_P z.1 classes (wv z ad E M) H → va_D A (wv z ad E M) → va_S A s.heap H locs → lv_has ls 3 [(0, .ref (ad 41)), (1, .int (oI x1)), (2, .int (oI x2))] → W p l e (rmK 2 67 0 0) s m args below meth c H locs 0 0 Q (F0 m 55 ls [.int (oI y0), .int (oI y1), .ref (ad y2)]) := by
  intro H locs ls hP hD hS hl
  unfold Po_findPaths_j55 at h
  obtain ⟨h_y2, h⟩ := ck_e h
  obtain ⟨ok6, h⟩ := ck_e h
  refine m_is hx hb hG hP hD hS h_y2.1 (isIA_T h_y2) ok6 d_11_12_55 (fun H locs hP hD hS => ?_)
  have hP : va_P z.1 classes (wv z ad E (u2 M y2 y1.toNat y0)) H := hP
  have hD : va_D A (wv z ad E (u2 M y2 y1.toNat y0)) := hD
  refine lv_iinc (v := oI (x2 + 1)) (lv' := [(2, .int (oI (x2 + 1))), (0, .ref (ad 41)), (1, .int (oI x1))]) hx hb d_11_12_56 hl (k := 2) rfl (oI_add x2 1) (by decide) rfl (fun ls hl => ?_)
  refine lv_goto (tgt := 15) hx hb d_11_12_59 (by decide) ?_
  obtain ⟨rfl, rfl, rfl⟩ := in3 h
  exact k0 rfl H locs ls hP hD hS (lv_sub hl [1, 2, 0] rfl)
set_option maxRecDepth 100000 in
set_option maxHeartbeats 4000000 in
theorem b_Po_findPaths_15b (l : Launch) (z : Zz) (ad : Nat → Nat) (E : Ev) (M : Mm) (x1 : Int) (x2 : Int) (t : Nat) (w2 : Int) (N : Mm) {Q : State → Prop} {p : Program} {e : Env} {s : State} {m : MethodId} {below : List Frame} {meth : Method} {c : Code} {A : Nat → Prop} {args : Array Value} (hx : p.tables.exec = Jvm.exec) (hb : c.code = prog_11_method_12_code) (hml : c.maxLocals = 3) (hts : ∀ w ∈ WG, w.before args s = true) (hown : s.vm.findClass "Ballothall$Poll" = some m.cls) (hlocks : meth.locks = false) (hA : ∀ q, s.heap.size ≤ q → A q) (hG : KG z s) (hZ : FZ z A s) (hL : Lay E) (h : Po_findPaths_15b E M x1 x2 = some (t, w2, N)) (k0 : t = 0 → ∀ (H : Heap) (locs : List Loc) (ls : Array Slot), va_P z.1 classes (wv z ad E N) H → va_D A (wv z ad E N) → va_S A s.heap H locs → lv_has ls 3 [(0, .ref (ad 41)), (1, .int (oI x1)), (2, .int (oI w2))] → W p l e (rmK 2 67 0 0) s m args below meth c H locs 0 0 Q (F0 m 15 ls [])) (k1 : t = 1 → ∀ (H : Heap) (locs : List Loc) (ls : Array Slot), va_P z.1 classes (wv z ad E N) H → va_D A (wv z ad E N) → va_S A s.heap H locs → lv_has ls 3 [(0, .ref (ad 41)), (1, .int (oI x1))] → W p l e (rmK 2 67 0 0) s m args below meth c H locs 0 0 Q (F0 m 62 ls [])) : ∀ (H : Heap) (locs : List Loc) (ls : Array Slot), va_P z.1 classes (wv z ad E M) H → va_D A (wv z ad E M) → va_S A s.heap H locs → lv_has ls 3 [(0, .ref (ad 41)), (1, .int (oI x1)), (2, .int (oI x2))] → W p l e (rmK 2 67 0 0) s m args below meth c H locs 0 0 Q (F0 m 15 ls []) := by
  intro H locs ls hP hD hS hl
  unfold Po_findPaths_15b at h
  refine lv_iload_n hx hb d_11_12_15 rfl (lv_at hl 2 rfl) ?_
  refine lv_aload_n hx hb d_11_12_16 rfl (lv_at hl 0 rfl) ?_
  refine m_gr (j := 2) (C := "Ballothall$Poll") (T := TX9) (N := 12) (ci := 9) (k := 0) hx hb hts iX9 hown hG hP (yi_41 hL) (yt_41 hL) rfl (by decide) w_107 (fun _ h9 => h9) rfl rfl (yr_41_0 hL) d_11_12_17 ?_
  refine m_giN (C := "Ballothall$BallotBox") (T := TX0) (N := 10) (ci := 0) (k := 2) hx hb hts iX0 hown hG hP (yi_2 hL) (yt_2 hL) rfl (by decide) n_53 rfl (fun _ h9 => h9) rfl rfl d_11_12_20 ?_
  obtain ⟨ok2, h⟩ := ck_e h
  obtain ⟨ok3, h⟩ := ck_e h
  refine lv_icmp_ge (tgt := 62) hx hb d_11_12_23 (by decide) (fun c9 => ?_) (fun c9 => ?_)
  · have h := ite_t ((oI_le (a := (M 2 2)) (b := x2) ok3 ok2).mp c9) h
    obtain ⟨rfl, rfl, rfl⟩ := in3 h
    exact k1 rfl H locs ls hP hD hS (lv_sub hl [0, 1] rfl)
  · have h := ite_f (fun q => c9 ((oI_le (a := (M 2 2)) (b := x2) ok3 ok2).mpr q)) h
    refine lv_aload_n hx hb d_11_12_26 rfl (lv_at hl 0 rfl) ?_
    refine m_gr (j := 47) (C := "Ballothall$Poll") (T := TX9) (N := 12) (ci := 9) (k := 8) hx hb hts iX9 hown hG hP (yi_41 hL) (yt_41 hL) rfl (by decide) w_115 (fun _ h9 => h9) rfl rfl (yr_41_8 hL) d_11_12_27 ?_
    refine lv_iload_n hx hb d_11_12_30 rfl (lv_at hl 1 rfl) ?_
    refine lv_bipush (v := oI 8) hx hb d_11_12_31 (by decide +kernel) ?_
    refine lv_imul hx hb d_11_12_33 ?_
    refine nrm (oI_mul _ _) ?_
    refine lv_iload_n hx hb d_11_12_34 rfl (lv_at hl 2 rfl) ?_
    refine lv_iadd hx hb d_11_12_35 ?_
    refine nrm (oI_add _ _) ?_
    refine lv_aload_n hx hb d_11_12_36 rfl (lv_at hl 0 rfl) ?_
    refine lv_iload_n hx hb d_11_12_37 rfl (lv_at hl 1 rfl) ?_
    refine lv_iload_n hx hb d_11_12_38 rfl (lv_at hl 2 rfl) ?_
    obtain ⟨r4, g4, h⟩ := bd_e h
    refine kV (As := [.int (oI x1), .int (oI x2)]) (rest := [.int (oI ((x1 * 8) + x2)), .ref (ad 47)]) (s_Po_beats l z ad E M x1 x2 r4 hL g4) hx hb hml hown hts w_705 w_702 w_704 w_s_3a49be w_3 md_755902 ⟨Nat.le_of_ble_eq_true rfl, Nat.le_of_ble_eq_true rfl⟩ hG hZ hP hD hS hA 41 (wv_o (ci := 9) (yi_41 hL) (yt_41 hL)) rfl rfl rfl hl.1 rfl (Nat.le_of_ble_eq_true rfl) d_11_12_39 ⟨Nat.le_of_ble_eq_true rfl, Nat.le_of_ble_eq_true rfl⟩ (fun _ H locs hP hD hS => ?_)
    have hP : va_P z.1 classes (wv z ad E M) H := hP
    have hD : va_D A (wv z ad E M) := hD
    refine W.eq (g2 := F0 m 42 ls [.int (oI r4), .int (oI ((x1 * 8) + x2)), .ref (ad 47)]) rfl ?_
    obtain ⟨ok5, h⟩ := ck_e h
    refine lv_if_eq (tgt := 54) hx hb d_11_12_42 (by decide) (fun c9 => ?_) (fun c9 => ?_)
    · have h := ite_t ((oI_eq0 ok5).mp c9) h
      refine lv_iconst (v := oI 0) hx hb d_11_12_54 (by decide +kernel) ?_
      exact b_Po_findPaths_j55 l z ad E M x1 x2 0 ((x1 * 8) + x2) 47 t w2 N hx hb hml hts hown hlocks hA hG hZ hL h k0 k1 H locs ls hP hD hS (lv_sub hl [0, 1, 2] rfl)
    · have h := ite_f (fun q => c9 ((oI_eq0 ok5).mpr q)) h
      refine lv_aload_n hx hb d_11_12_45 rfl (lv_at hl 0 rfl) ?_
      refine lv_iload_n hx hb d_11_12_46 rfl (lv_at hl 1 rfl) ?_
      refine lv_iload_n hx hb d_11_12_47 rfl (lv_at hl 2 rfl) ?_
      obtain ⟨r7, g7, h⟩ := bd_e h
      refine kV (As := [.int (oI x1), .int (oI x2)]) (rest := [.int (oI ((x1 * 8) + x2)), .ref (ad 47)]) (s_Po_pair l z ad E M x1 x2 r7 hL g7) hx hb hml hown hts w_709 w_706 w_708 w_s_776300 w_3 md_5a94c2 ⟨Nat.le_of_ble_eq_true rfl, Nat.le_of_ble_eq_true rfl⟩ hG hZ hP hD hS hA 41 (wv_o (ci := 9) (yi_41 hL) (yt_41 hL)) rfl rfl rfl hl.1 rfl (Nat.le_of_ble_eq_true rfl) d_11_12_48 ⟨Nat.le_of_ble_eq_true rfl, Nat.le_of_ble_eq_true rfl⟩ (fun _ H locs hP hD hS => ?_)
      have hP : va_P z.1 classes (wv z ad E M) H := hP
      have hD : va_D A (wv z ad E M) := hD
      refine W.eq (g2 := F0 m 51 ls [.int (oI r7), .int (oI ((x1 * 8) + x2)), .ref (ad 47)]) rfl ?_
      refine lv_goto (tgt := 55) hx hb d_11_12_51 (by decide) ?_
      exact b_Po_findPaths_j55 l z ad E M x1 x2 r7 ((x1 * 8) + x2) 47 t w2 N hx hb hml hts hown hlocks hA hG hZ hL h k0 k1 H locs ls hP hD hS (lv_sub hl [0, 1, 2] rfl)
set_option maxRecDepth 100000 in
set_option maxHeartbeats 4000000 in
theorem s_Po_findPaths_15 (l : Launch) (z : Zz) (ad : Nat → Nat) (E : Ev) (x1 : Int) {Q : State → Prop} {p : Program} {e : Env} {s : State} {m : MethodId} {below : List Frame} {meth : Method} {c : Code} {A : Nat → Prop} {args : Array Value} (hx : p.tables.exec = Jvm.exec) (hb : c.code = prog_11_method_12_code) (hml : c.maxLocals = 3) (hts : ∀ w ∈ WG, w.before args s = true) (hown : s.vm.findClass "Ballothall$Poll" = some m.cls) (hlocks : meth.locks = false) (hA : ∀ q, s.heap.size ≤ q → A q) (hG : KG z s) (hZ : FZ z A s) (hL : Lay E) : ∀ (fu : Nat) (M : Mm) (x2 : Int) (t : Nat) (w2 : Int) (N : Mm), l_Po_findPaths_15 E x1 fu M x2 = some (t, w2, N) → (t = 1 → ∀ (H : Heap) (locs : List Loc) (ls : Array Slot), va_P z.1 classes (wv z ad E N) H → va_D A (wv z ad E N) → va_S A s.heap H locs → lv_has ls 3 [(0, .ref (ad 41)), (1, .int (oI x1))] → W p l e (rmK 2 67 0 0) s m args below meth c H locs 0 0 Q (F0 m 62 ls [])) → ∀ (H : Heap) (locs : List Loc) (ls : Array Slot), va_P z.1 classes (wv z ad E M) H → va_D A (wv z ad E M) → va_S A s.heap H locs → lv_has ls 3 [(0, .ref (ad 41)), (1, .int (oI x1)), (2, .int (oI x2))] → W p l e (rmK 2 67 0 0) s m args below meth c H locs 0 0 Q (F0 m 15 ls []) := by
  intro fu
  induction fu with
  | zero =>
    intro M x2 t w2 N h
    have h : (none : Option (Nat × Int × Mm)) = some _ := h
    cases h
  | succ fu ih =>
    intro M x2 t w2 N h k1 H locs ls hP hD hS hl
    obtain ⟨⟨t0, w20, N9⟩, g0, h⟩ := bd_e h
    refine b_Po_findPaths_15b l z ad E M x1 x2 t0 w20 N9 hx hb hml hts hown hlocks hA hG hZ hL g0 (fun e0 => ?_) (fun e0 => ?_) H locs ls hP hD hS hl
    · subst e0
      have h := ite_t rfl h
      exact ih N9 w20 t w2 N h k1
    · subst e0
      have h := ite_f (by decide) h
      obtain ⟨rfl, rfl, rfl⟩ := in3 h
      exact k1 rfl
set_option maxRecDepth 100000 in
set_option maxHeartbeats 4000000 in
theorem b_Po_findPaths_2b (l : Launch) (z : Zz) (ad : Nat → Nat) (E : Ev) (M : Mm) (x1 : Int) (t : Nat) (w1 : Int) (N : Mm) {Q : State → Prop} {p : Program} {e : Env} {s : State} {m : MethodId} {below : List Frame} {meth : Method} {c : Code} {A : Nat → Prop} {args : Array Value} (hx : p.tables.exec = Jvm.exec) (hb : c.code = prog_11_method_12_code) (hml : c.maxLocals = 3) (hts : ∀ w ∈ WG, w.before args s = true) (hown : s.vm.findClass "Ballothall$Poll" = some m.cls) (hlocks : meth.locks = false) (hA : ∀ q, s.heap.size ≤ q → A q) (hG : KG z s) (hZ : FZ z A s) (hL : Lay E) (h : Po_findPaths_2b E M x1 = some (t, w1, N)) (k0 : t = 0 → ∀ (H : Heap) (locs : List Loc) (ls : Array Slot), va_P z.1 classes (wv z ad E N) H → va_D A (wv z ad E N) → va_S A s.heap H locs → lv_has ls 3 [(0, .ref (ad 41)), (1, .int (oI w1))] → W p l e (rmK 2 67 0 0) s m args below meth c H locs 0 0 Q (F0 m 2 ls [])) (k1 : t = 1 → ∀ (H : Heap) (locs : List Loc) (ls : Array Slot), va_P z.1 classes (wv z ad E N) H → va_D A (wv z ad E N) → va_S A s.heap H locs → lv_has ls 3 [(0, .ref (ad 41))] → W p l e (rmK 2 67 0 0) s m args below meth c H locs 0 0 Q (F0 m 68 ls [])) : ∀ (H : Heap) (locs : List Loc) (ls : Array Slot), va_P z.1 classes (wv z ad E M) H → va_D A (wv z ad E M) → va_S A s.heap H locs → lv_has ls 3 [(0, .ref (ad 41)), (1, .int (oI x1))] → W p l e (rmK 2 67 0 0) s m args below meth c H locs 0 0 Q (F0 m 2 ls []) := by
  intro H locs ls hP hD hS hl
  unfold Po_findPaths_2b at h
  refine lv_iload_n hx hb d_11_12_2 rfl (lv_at hl 1 rfl) ?_
  refine lv_aload_n hx hb d_11_12_3 rfl (lv_at hl 0 rfl) ?_
  refine m_gr (j := 2) (C := "Ballothall$Poll") (T := TX9) (N := 12) (ci := 9) (k := 0) hx hb hts iX9 hown hG hP (yi_41 hL) (yt_41 hL) rfl (by decide) w_107 (fun _ h9 => h9) rfl rfl (yr_41_0 hL) d_11_12_4 ?_
  refine m_giN (C := "Ballothall$BallotBox") (T := TX0) (N := 10) (ci := 0) (k := 2) hx hb hts iX0 hown hG hP (yi_2 hL) (yt_2 hL) rfl (by decide) n_53 rfl (fun _ h9 => h9) rfl rfl d_11_12_7 ?_
  obtain ⟨ok0, h⟩ := ck_e h
  obtain ⟨ok1, h⟩ := ck_e h
  refine lv_icmp_ge (tgt := 68) hx hb d_11_12_10 (by decide) (fun c9 => ?_) (fun c9 => ?_)
  · have h := ite_t ((oI_le (a := (M 2 2)) (b := x1) ok1 ok0).mp c9) h
    obtain ⟨rfl, rfl, rfl⟩ := in3 h
    exact k1 rfl H locs ls hP hD hS (lv_sub hl [0] rfl)
  · have h := ite_f (fun q => c9 ((oI_le (a := (M 2 2)) (b := x1) ok1 ok0).mpr q)) h
    refine lv_iconst (v := oI 0) hx hb d_11_12_13 (by decide +kernel) ?_
    refine lv_istore_n (lv' := [(2, .int (oI 0)), (0, .ref (ad 41)), (1, .int (oI x1))]) hx hb d_11_12_14 rfl hl (by decide) rfl (fun ls hl => ?_)
    obtain ⟨⟨t8, v8_2, M8⟩, g8, h⟩ := bd_e h
    obtain ⟨ok8, h⟩ := ck_e h
    refine s_Po_findPaths_15 l z ad E x1 hx hb hml hts hown hlocks hA hG hZ hL FU M 0 t8 v8_2 M8 g8 (fun e8 H locs ls hP hD hS hl => ?_) H locs ls hP hD hS (lv_sub hl [1, 2, 0] rfl)
    refine lv_iinc (v := oI (x1 + 1)) (lv' := [(1, .int (oI (x1 + 1))), (0, .ref (ad 41))]) hx hb d_11_12_62 hl (k := 1) rfl (oI_add x1 1) (by decide) rfl (fun ls hl => ?_)
    refine lv_goto (tgt := 2) hx hb d_11_12_65 (by decide) ?_
    obtain ⟨rfl, rfl, rfl⟩ := in3 h
    exact k0 rfl H locs ls hP hD hS (lv_sub hl [1, 0] rfl)
set_option maxRecDepth 100000 in
set_option maxHeartbeats 4000000 in
theorem s_Po_findPaths_2 (l : Launch) (z : Zz) (ad : Nat → Nat) (E : Ev) {Q : State → Prop} {p : Program} {e : Env} {s : State} {m : MethodId} {below : List Frame} {meth : Method} {c : Code} {A : Nat → Prop} {args : Array Value} (hx : p.tables.exec = Jvm.exec) (hb : c.code = prog_11_method_12_code) (hml : c.maxLocals = 3) (hts : ∀ w ∈ WG, w.before args s = true) (hown : s.vm.findClass "Ballothall$Poll" = some m.cls) (hlocks : meth.locks = false) (hA : ∀ q, s.heap.size ≤ q → A q) (hG : KG z s) (hZ : FZ z A s) (hL : Lay E) : ∀ (fu : Nat) (M : Mm) (x1 : Int) (t : Nat) (w1 : Int) (N : Mm), l_Po_findPaths_2 E fu M x1 = some (t, w1, N) → (t = 1 → ∀ (H : Heap) (locs : List Loc) (ls : Array Slot), va_P z.1 classes (wv z ad E N) H → va_D A (wv z ad E N) → va_S A s.heap H locs → lv_has ls 3 [(0, .ref (ad 41))] → W p l e (rmK 2 67 0 0) s m args below meth c H locs 0 0 Q (F0 m 68 ls [])) → ∀ (H : Heap) (locs : List Loc) (ls : Array Slot), va_P z.1 classes (wv z ad E M) H → va_D A (wv z ad E M) → va_S A s.heap H locs → lv_has ls 3 [(0, .ref (ad 41)), (1, .int (oI x1))] → W p l e (rmK 2 67 0 0) s m args below meth c H locs 0 0 Q (F0 m 2 ls []) := by
  intro fu
  induction fu with
  | zero =>
    intro M x1 t w1 N h
    have h : (none : Option (Nat × Int × Mm)) = some _ := h
    cases h
  | succ fu ih =>
    intro M x1 t w1 N h k1 H locs ls hP hD hS hl
    obtain ⟨⟨t0, w10, N9⟩, g0, h⟩ := bd_e h
    refine b_Po_findPaths_2b l z ad E M x1 t0 w10 N9 hx hb hml hts hown hlocks hA hG hZ hL g0 (fun e0 => ?_) (fun e0 => ?_) H locs ls hP hD hS hl
    · subst e0
      have h := ite_t rfl h
      exact ih N9 w10 t w1 N h k1
    · subst e0
      have h := ite_f (by decide) h
      obtain ⟨rfl, rfl, rfl⟩ := in3 h
      exact k1 rfl
set_option maxRecDepth 100000 in
set_option maxHeartbeats 4000000 in
theorem b_Po_findPaths_83b (l : Launch) (z : Zz) (ad : Nat → Nat) (E : Ev) (M : Mm) (x1 : Int) (x2 : Int) (t : Nat) (w2 : Int) (N : Mm) {Q : State → Prop} {p : Program} {e : Env} {s : State} {m : MethodId} {below : List Frame} {meth : Method} {c : Code} {A : Nat → Prop} {args : Array Value} (hx : p.tables.exec = Jvm.exec) (hb : c.code = prog_11_method_12_code) (hml : c.maxLocals = 3) (hts : ∀ w ∈ WG, w.before args s = true) (hown : s.vm.findClass "Ballothall$Poll" = some m.cls) (hlocks : meth.locks = false) (hA : ∀ q, s.heap.size ≤ q → A q) (hG : KG z s) (hZ : FZ z A s) (hL : Lay E) (h : Po_findPaths_83b E M x1 x2 = some (t, w2, N)) (k0 : t = 0 → ∀ (H : Heap) (locs : List Loc) (ls : Array Slot), va_P z.1 classes (wv z ad E N) H → va_D A (wv z ad E N) → va_S A s.heap H locs → lv_has ls 3 [(0, .ref (ad 41)), (1, .int (oI x1)), (2, .int (oI w2))] → W p l e (rmK 2 67 0 0) s m args below meth c H locs 0 0 Q (F0 m 83 ls [])) (k1 : t = 1 → ∀ (H : Heap) (locs : List Loc) (ls : Array Slot), va_P z.1 classes (wv z ad E N) H → va_D A (wv z ad E N) → va_S A s.heap H locs → lv_has ls 3 [(0, .ref (ad 41)), (1, .int (oI x1))] → W p l e (rmK 2 67 0 0) s m args below meth c H locs 0 0 Q (F0 m 120 ls [])) : ∀ (H : Heap) (locs : List Loc) (ls : Array Slot), va_P z.1 classes (wv z ad E M) H → va_D A (wv z ad E M) → va_S A s.heap H locs → lv_has ls 3 [(0, .ref (ad 41)), (1, .int (oI x1)), (2, .int (oI x2))] → W p l e (rmK 2 67 0 0) s m args below meth c H locs 0 0 Q (F0 m 83 ls []) := by
  intro H locs ls hP hD hS hl
  unfold Po_findPaths_83b at h
  refine lv_iload_n hx hb d_11_12_83 rfl (lv_at hl 2 rfl) ?_
  refine lv_aload_n hx hb d_11_12_84 rfl (lv_at hl 0 rfl) ?_
  refine m_gr (j := 2) (C := "Ballothall$Poll") (T := TX9) (N := 12) (ci := 9) (k := 0) hx hb hts iX9 hown hG hP (yi_41 hL) (yt_41 hL) rfl (by decide) w_107 (fun _ h9 => h9) rfl rfl (yr_41_0 hL) d_11_12_85 ?_
  refine m_giN (C := "Ballothall$BallotBox") (T := TX0) (N := 10) (ci := 0) (k := 2) hx hb hts iX0 hown hG hP (yi_2 hL) (yt_2 hL) rfl (by decide) n_53 rfl (fun _ h9 => h9) rfl rfl d_11_12_88 ?_
  obtain ⟨ok12, h⟩ := ck_e h
  obtain ⟨ok13, h⟩ := ck_e h
  refine lv_icmp_ge (tgt := 120) hx hb d_11_12_91 (by decide) (fun c9 => ?_) (fun c9 => ?_)
  · have h := ite_t ((oI_le (a := (M 2 2)) (b := x2) ok13 ok12).mp c9) h
    obtain ⟨rfl, rfl, rfl⟩ := in3 h
    exact k1 rfl H locs ls hP hD hS (lv_sub hl [0, 1] rfl)
  · have h := ite_f (fun q => c9 ((oI_le (a := (M 2 2)) (b := x2) ok13 ok12).mpr q)) h
    refine lv_iload_n hx hb d_11_12_94 rfl (lv_at hl 2 rfl) ?_
    refine lv_iload_n hx hb d_11_12_95 rfl (lv_at hl 1 rfl) ?_
    obtain ⟨ok14, h⟩ := ck_e h
    refine lv_icmp_eq (tgt := 114) hx hb d_11_12_96 (by decide) (fun c9 => ?_) (fun c9 => ?_)
    · have h := ite_t ((oI_eq (a := x2) (b := x1) ok12 ok14).mp c9) h
      refine lv_iinc (v := oI (x2 + 1)) (lv' := [(2, .int (oI (x2 + 1))), (0, .ref (ad 41)), (1, .int (oI x1))]) hx hb d_11_12_114 hl (k := 2) rfl (oI_add x2 1) (by decide) rfl (fun ls hl => ?_)
      refine lv_goto (tgt := 83) hx hb d_11_12_117 (by decide) ?_
      obtain ⟨rfl, rfl, rfl⟩ := in3 h
      exact k0 rfl H locs ls hP hD hS (lv_sub hl [1, 2, 0] rfl)
    · have h := ite_f (fun q => c9 ((oI_eq (a := x2) (b := x1) ok12 ok14).mpr q)) h
      refine lv_aload_n hx hb d_11_12_99 rfl (lv_at hl 0 rfl) ?_
      refine lv_iload_n hx hb d_11_12_100 rfl (lv_at hl 2 rfl) ?_
      refine lv_iload_n hx hb d_11_12_101 rfl (lv_at hl 1 rfl) ?_
      obtain ⟨r15, g15, h⟩ := bd_e h
      refine kV (As := [.int (oI x2), .int (oI x1)]) (rest := []) (s_Po_path l z ad E M x2 x1 r15 hL g15) hx hb hml hown hts w_733 w_730 w_732 w_s_f68c3b w_3 md_2f75ac ⟨Nat.le_of_ble_eq_true rfl, Nat.le_of_ble_eq_true rfl⟩ hG hZ hP hD hS hA 41 (wv_o (ci := 9) (yi_41 hL) (yt_41 hL)) rfl rfl rfl hl.1 rfl (Nat.le_of_ble_eq_true rfl) d_11_12_102 ⟨Nat.le_of_ble_eq_true rfl, Nat.le_of_ble_eq_true rfl⟩ (fun _ H locs hP hD hS => ?_)
      have hP : va_P z.1 classes (wv z ad E M) H := hP
      have hD : va_D A (wv z ad E M) := hD
      refine W.eq (g2 := F0 m 105 ls [.int (oI r15)]) rfl ?_
      obtain ⟨ok16, h⟩ := ck_e h
      refine lv_if_le (tgt := 114) hx hb d_11_12_105 (by decide) (fun c9 => ?_) (fun c9 => ?_)
      · have h := ite_t ((oI_le0 ok16).mp c9) h
        refine lv_iinc (v := oI (x2 + 1)) (lv' := [(2, .int (oI (x2 + 1))), (0, .ref (ad 41)), (1, .int (oI x1))]) hx hb d_11_12_114 hl (k := 2) rfl (oI_add x2 1) (by decide) rfl (fun ls hl => ?_)
        refine lv_goto (tgt := 83) hx hb d_11_12_117 (by decide) ?_
        obtain ⟨rfl, rfl, rfl⟩ := in3 h
        exact k0 rfl H locs ls hP hD hS (lv_sub hl [1, 2, 0] rfl)
      · have h := ite_f (fun q => c9 ((oI_le0 ok16).mpr q)) h
        refine lv_aload_n hx hb d_11_12_108 rfl (lv_at hl 0 rfl) ?_
        refine lv_iload_n hx hb d_11_12_109 rfl (lv_at hl 2 rfl) ?_
        refine lv_iload_n hx hb d_11_12_110 rfl (lv_at hl 1 rfl) ?_
        obtain ⟨M17, g17, h⟩ := bd_e h
        refine kV (As := [.int (oI x2), .int (oI x1)]) (rest := []) (s_Po_widenPaths l z ad E M x2 x1 M17 hL g17) hx hb hml hown hts w_737 w_734 w_736 w_s_e0fb07 w_3 md_4155ed ⟨Nat.le_of_ble_eq_true rfl, Nat.le_of_ble_eq_true rfl⟩ hG hZ hP hD hS hA 41 (wv_o (ci := 9) (yi_41 hL) (yt_41 hL)) rfl rfl rfl hl.1 rfl (Nat.le_of_ble_eq_true rfl) d_11_12_111 ⟨Nat.le_of_ble_eq_true rfl, Nat.le_of_ble_eq_true rfl⟩ (fun _ H locs hP hD hS => ?_)
        have hP : va_P z.1 classes (wv z ad E M17) H := hP
        have hD : va_D A (wv z ad E M17) := hD
        refine W.eq (g2 := F0 m 114 ls []) rfl ?_
        refine lv_iinc (v := oI (x2 + 1)) (lv' := [(2, .int (oI (x2 + 1))), (0, .ref (ad 41)), (1, .int (oI x1))]) hx hb d_11_12_114 hl (k := 2) rfl (oI_add x2 1) (by decide) rfl (fun ls hl => ?_)
        refine lv_goto (tgt := 83) hx hb d_11_12_117 (by decide) ?_
        obtain ⟨rfl, rfl, rfl⟩ := in3 h
        exact k0 rfl H locs ls hP hD hS (lv_sub hl [1, 2, 0] rfl)
set_option maxRecDepth 100000 in
set_option maxHeartbeats 4000000 in
theorem s_Po_findPaths_83 (l : Launch) (z : Zz) (ad : Nat → Nat) (E : Ev) (x1 : Int) {Q : State → Prop} {p : Program} {e : Env} {s : State} {m : MethodId} {below : List Frame} {meth : Method} {c : Code} {A : Nat → Prop} {args : Array Value} (hx : p.tables.exec = Jvm.exec) (hb : c.code = prog_11_method_12_code) (hml : c.maxLocals = 3) (hts : ∀ w ∈ WG, w.before args s = true) (hown : s.vm.findClass "Ballothall$Poll" = some m.cls) (hlocks : meth.locks = false) (hA : ∀ q, s.heap.size ≤ q → A q) (hG : KG z s) (hZ : FZ z A s) (hL : Lay E) : ∀ (fu : Nat) (M : Mm) (x2 : Int) (t : Nat) (w2 : Int) (N : Mm), l_Po_findPaths_83 E x1 fu M x2 = some (t, w2, N) → (t = 1 → ∀ (H : Heap) (locs : List Loc) (ls : Array Slot), va_P z.1 classes (wv z ad E N) H → va_D A (wv z ad E N) → va_S A s.heap H locs → lv_has ls 3 [(0, .ref (ad 41)), (1, .int (oI x1))] → W p l e (rmK 2 67 0 0) s m args below meth c H locs 0 0 Q (F0 m 120 ls [])) → ∀ (H : Heap) (locs : List Loc) (ls : Array Slot), va_P z.1 classes (wv z ad E M) H → va_D A (wv z ad E M) → va_S A s.heap H locs → lv_has ls 3 [(0, .ref (ad 41)), (1, .int (oI x1)), (2, .int (oI x2))] → W p l e (rmK 2 67 0 0) s m args below meth c H locs 0 0 Q (F0 m 83 ls []) := by
  intro fu
  induction fu with
  | zero =>
    intro M x2 t w2 N h
    have h : (none : Option (Nat × Int × Mm)) = some _ := h
    cases h
  | succ fu ih =>
    intro M x2 t w2 N h k1 H locs ls hP hD hS hl
    obtain ⟨⟨t0, w20, N9⟩, g0, h⟩ := bd_e h
    refine b_Po_findPaths_83b l z ad E M x1 x2 t0 w20 N9 hx hb hml hts hown hlocks hA hG hZ hL g0 (fun e0 => ?_) (fun e0 => ?_) H locs ls hP hD hS hl
    · subst e0
      have h := ite_t rfl h
      exact ih N9 w20 t w2 N h k1
    · subst e0
      have h := ite_f (by decide) h
      obtain ⟨rfl, rfl, rfl⟩ := in3 h
      exact k1 rfl
set_option maxRecDepth 100000 in
set_option maxHeartbeats 4000000 in
theorem b_Po_findPaths_70b (l : Launch) (z : Zz) (ad : Nat → Nat) (E : Ev) (M : Mm) (x1 : Int) (t : Nat) (w1 : Int) (N : Mm) {Q : State → Prop} {p : Program} {e : Env} {s : State} {m : MethodId} {below : List Frame} {meth : Method} {c : Code} {A : Nat → Prop} {args : Array Value} (hx : p.tables.exec = Jvm.exec) (hb : c.code = prog_11_method_12_code) (hml : c.maxLocals = 3) (hts : ∀ w ∈ WG, w.before args s = true) (hown : s.vm.findClass "Ballothall$Poll" = some m.cls) (hlocks : meth.locks = false) (hA : ∀ q, s.heap.size ≤ q → A q) (hG : KG z s) (hZ : FZ z A s) (hL : Lay E) (h : Po_findPaths_70b E M x1 = some (t, w1, N)) (k0 : t = 0 → ∀ (H : Heap) (locs : List Loc) (ls : Array Slot), va_P z.1 classes (wv z ad E N) H → va_D A (wv z ad E N) → va_S A s.heap H locs → lv_has ls 3 [(0, .ref (ad 41)), (1, .int (oI w1))] → W p l e (rmK 2 67 0 0) s m args below meth c H locs 0 0 Q (F0 m 70 ls [])) (k1 : t = 1 → ∀ (H : Heap) (locs : List Loc) (ls : Array Slot), va_P z.1 classes (wv z ad E N) H → va_D A (wv z ad E N) → va_S A s.heap H locs → lv_has ls 3 [] → W p l e (rmK 2 67 0 0) s m args below meth c H locs 0 0 Q (F0 m 126 ls [])) : ∀ (H : Heap) (locs : List Loc) (ls : Array Slot), va_P z.1 classes (wv z ad E M) H → va_D A (wv z ad E M) → va_S A s.heap H locs → lv_has ls 3 [(0, .ref (ad 41)), (1, .int (oI x1))] → W p l e (rmK 2 67 0 0) s m args below meth c H locs 0 0 Q (F0 m 70 ls []) := by
  intro H locs ls hP hD hS hl
  unfold Po_findPaths_70b at h
  refine lv_iload_n hx hb d_11_12_70 rfl (lv_at hl 1 rfl) ?_
  refine lv_aload_n hx hb d_11_12_71 rfl (lv_at hl 0 rfl) ?_
  refine m_gr (j := 2) (C := "Ballothall$Poll") (T := TX9) (N := 12) (ci := 9) (k := 0) hx hb hts iX9 hown hG hP (yi_41 hL) (yt_41 hL) rfl (by decide) w_107 (fun _ h9 => h9) rfl rfl (yr_41_0 hL) d_11_12_72 ?_
  refine m_giN (C := "Ballothall$BallotBox") (T := TX0) (N := 10) (ci := 0) (k := 2) hx hb hts iX0 hown hG hP (yi_2 hL) (yt_2 hL) rfl (by decide) n_53 rfl (fun _ h9 => h9) rfl rfl d_11_12_75 ?_
  obtain ⟨ok10, h⟩ := ck_e h
  obtain ⟨ok11, h⟩ := ck_e h
  refine lv_icmp_ge (tgt := 126) hx hb d_11_12_78 (by decide) (fun c9 => ?_) (fun c9 => ?_)
  · have h := ite_t ((oI_le (a := (M 2 2)) (b := x1) ok11 ok10).mp c9) h
    obtain ⟨rfl, rfl, rfl⟩ := in3 h
    exact k1 rfl H locs ls hP hD hS (lv_sub hl [] rfl)
  · have h := ite_f (fun q => c9 ((oI_le (a := (M 2 2)) (b := x1) ok11 ok10).mpr q)) h
    refine lv_iconst (v := oI 0) hx hb d_11_12_81 (by decide +kernel) ?_
    refine lv_istore_n (lv' := [(2, .int (oI 0)), (0, .ref (ad 41)), (1, .int (oI x1))]) hx hb d_11_12_82 rfl hl (by decide) rfl (fun ls hl => ?_)
    obtain ⟨⟨t18, v18_2, M18⟩, g18, h⟩ := bd_e h
    obtain ⟨ok18, h⟩ := ck_e h
    refine s_Po_findPaths_83 l z ad E x1 hx hb hml hts hown hlocks hA hG hZ hL FU M 0 t18 v18_2 M18 g18 (fun e18 H locs ls hP hD hS hl => ?_) H locs ls hP hD hS (lv_sub hl [1, 2, 0] rfl)
    refine lv_iinc (v := oI (x1 + 1)) (lv' := [(1, .int (oI (x1 + 1))), (0, .ref (ad 41))]) hx hb d_11_12_120 hl (k := 1) rfl (oI_add x1 1) (by decide) rfl (fun ls hl => ?_)
    refine lv_goto (tgt := 70) hx hb d_11_12_123 (by decide) ?_
    obtain ⟨rfl, rfl, rfl⟩ := in3 h
    exact k0 rfl H locs ls hP hD hS (lv_sub hl [1, 0] rfl)
set_option maxRecDepth 100000 in
set_option maxHeartbeats 4000000 in
theorem s_Po_findPaths_70 (l : Launch) (z : Zz) (ad : Nat → Nat) (E : Ev) {Q : State → Prop} {p : Program} {e : Env} {s : State} {m : MethodId} {below : List Frame} {meth : Method} {c : Code} {A : Nat → Prop} {args : Array Value} (hx : p.tables.exec = Jvm.exec) (hb : c.code = prog_11_method_12_code) (hml : c.maxLocals = 3) (hts : ∀ w ∈ WG, w.before args s = true) (hown : s.vm.findClass "Ballothall$Poll" = some m.cls) (hlocks : meth.locks = false) (hA : ∀ q, s.heap.size ≤ q → A q) (hG : KG z s) (hZ : FZ z A s) (hL : Lay E) : ∀ (fu : Nat) (M : Mm) (x1 : Int) (t : Nat) (w1 : Int) (N : Mm), l_Po_findPaths_70 E fu M x1 = some (t, w1, N) → (t = 1 → ∀ (H : Heap) (locs : List Loc) (ls : Array Slot), va_P z.1 classes (wv z ad E N) H → va_D A (wv z ad E N) → va_S A s.heap H locs → lv_has ls 3 [] → W p l e (rmK 2 67 0 0) s m args below meth c H locs 0 0 Q (F0 m 126 ls [])) → ∀ (H : Heap) (locs : List Loc) (ls : Array Slot), va_P z.1 classes (wv z ad E M) H → va_D A (wv z ad E M) → va_S A s.heap H locs → lv_has ls 3 [(0, .ref (ad 41)), (1, .int (oI x1))] → W p l e (rmK 2 67 0 0) s m args below meth c H locs 0 0 Q (F0 m 70 ls []) := by
  intro fu
  induction fu with
  | zero =>
    intro M x1 t w1 N h
    have h : (none : Option (Nat × Int × Mm)) = some _ := h
    cases h
  | succ fu ih =>
    intro M x1 t w1 N h k1 H locs ls hP hD hS hl
    obtain ⟨⟨t0, w10, N9⟩, g0, h⟩ := bd_e h
    refine b_Po_findPaths_70b l z ad E M x1 t0 w10 N9 hx hb hml hts hown hlocks hA hG hZ hL g0 (fun e0 => ?_) (fun e0 => ?_) H locs ls hP hD hS hl
    · subst e0
      have h := ite_t rfl h
      exact ih N9 w10 t w1 N h k1
    · subst e0
      have h := ite_f (by decide) h
      obtain ⟨rfl, rfl, rfl⟩ := in3 h
      exact k1 rfl
set_option maxRecDepth 100000 in
set_option maxHeartbeats 4000000 in
theorem s_Po_findPaths (l : Launch) (z : Zz) (ad : Nat → Nat) (E : Ev) (M : Mm) (N : Mm) (hL : Lay E) (h : f_Po_findPaths E M = some N) : CT l z ⟨"Ballothall$Poll", "findPaths", "()V"⟩ prog_11_method_12_code 3 none [.ref (ad 41)] (wv z ad E M) 2 67 0 0 (fun _ => none) (fun _ => (wv z ad E N)) := by
  refine CT.of (own := "Ballothall$Poll") (by decide +kernel) (Nat.le_of_ble_eq_true rfl) rfl (fun p e s m below meth c A ls hx hb hml hr hts hown hlocks hin hA hG hZ hP hD hS hl => ?_)
  have hl : lv_has ls 3 [(0, .ref (ad 41))] := hl
  have key : ∀ (H : Heap) (locs : List Loc) (args : Array Value), (∀ w ∈ WG, w.before args s = true) → va_P z.1 classes (wv z ad E M) H → va_S A s.heap H locs → W p l e (rmK 2 67 0 0) s m args below meth c H locs 0 0 (MQ below (QK z A (fun _ => none) (fun _ => (wv z ad E N))) args s 0 0 A) (F0 m 0 ls []) := by
    intro H locs args hts hP hS
    unfold f_Po_findPaths at h
    refine lv_iconst (v := oI 0) hx hb d_11_12_0 (by decide +kernel) ?_
    refine lv_istore_n (lv' := [(1, .int (oI 0)), (0, .ref (ad 41))]) hx hb d_11_12_1 rfl hl (by decide) rfl (fun ls hl => ?_)
    obtain ⟨⟨t9, v9_1, M9⟩, g9, h⟩ := bd_e h
    obtain ⟨ok9, h⟩ := ck_e h
    refine s_Po_findPaths_2 l z ad E hx hb hml hts hown hlocks hA hG hZ hL FU M 0 t9 v9_1 M9 g9 (fun e9 H locs ls hP hD hS hl => ?_) H locs ls hP hD hS (lv_sub hl [1, 0] rfl)
    refine lv_iconst (v := oI 0) hx hb d_11_12_68 (by decide +kernel) ?_
    refine lv_istore_n (lv' := [(1, .int (oI 0)), (0, .ref (ad 41))]) hx hb d_11_12_69 rfl hl (by decide) rfl (fun ls hl => ?_)
    obtain ⟨⟨t19, v19_1, M19⟩, g19, h⟩ := bd_e h
    obtain ⟨ok19, h⟩ := ck_e h
    refine s_Po_findPaths_70 l z ad E hx hb hml hts hown hlocks hA hG hZ hL FU M9 0 t19 v19_1 M19 g19 (fun e19 H locs ls hP hD hS hl => ?_) H locs ls hP hD hS (lv_sub hl [1, 0] rfl)
    obtain rfl := in1 h
    exact W.vret hx hb hr (fun t ht hW => qkA hP hD hS (fun k => k) rfl rfl ht) hS.2.2 d_11_12_126
  exact key _ _ _ hts hP hS
set_option maxRecDepth 100000 in
set_option maxHeartbeats 4000000 in
theorem b_Po_winnersByPaths_24b (l : Launch) (z : Zz) (ad : Nat → Nat) (E : Ev) (M : Mm) (x2 : Int) (x1 : Int) (x3 : Int) (t : Nat) (w1 : Int) (w3 : Int) (N : Mm) {Q : State → Prop} {p : Program} {e : Env} {s : State} {m : MethodId} {below : List Frame} {meth : Method} {c : Code} {A : Nat → Prop} {args : Array Value} (hx : p.tables.exec = Jvm.exec) (hb : c.code = prog_11_method_14_code) (hml : c.maxLocals = 4) (hts : ∀ w ∈ WG, w.before args s = true) (hown : s.vm.findClass "Ballothall$Poll" = some m.cls) (hlocks : meth.locks = false) (hA : ∀ q, s.heap.size ≤ q → A q) (hG : KG z s) (hZ : FZ z A s) (hL : Lay E) (h : Po_winnersByPaths_24b E M x2 x1 x3 = some (t, w1, w3, N)) (k0 : t = 0 → ∀ (H : Heap) (locs : List Loc) (ls : Array Slot), va_P z.1 classes (wv z ad E N) H → va_D A (wv z ad E N) → va_S A s.heap H locs → lv_has ls 4 [(0, .ref (ad 41)), (1, .int (oI w1)), (2, .int (oI x2)), (3, .int (oI w3))] → W p l e (rmK 3 89 0 0) s m args below meth c H locs 0 0 Q (F0 m 24 ls [])) (k1 : t = 1 → ∀ (H : Heap) (locs : List Loc) (ls : Array Slot), va_P z.1 classes (wv z ad E N) H → va_D A (wv z ad E N) → va_S A s.heap H locs → lv_has ls 4 [(0, .ref (ad 41)), (1, .int (oI w1)), (2, .int (oI x2))] → W p l e (rmK 3 89 0 0) s m args below meth c H locs 0 0 Q (F0 m 64 ls [])) : ∀ (H : Heap) (locs : List Loc) (ls : Array Slot), va_P z.1 classes (wv z ad E M) H → va_D A (wv z ad E M) → va_S A s.heap H locs → lv_has ls 4 [(0, .ref (ad 41)), (1, .int (oI x1)), (2, .int (oI x2)), (3, .int (oI x3))] → W p l e (rmK 3 89 0 0) s m args below meth c H locs 0 0 Q (F0 m 24 ls []) := by
  intro H locs ls hP hD hS hl
  unfold Po_winnersByPaths_24b at h
  refine lv_iload_n hx hb d_11_14_24 rfl (lv_at hl 3 rfl) ?_
  refine lv_aload_n hx hb d_11_14_25 rfl (lv_at hl 0 rfl) ?_
  refine m_gr (j := 2) (C := "Ballothall$Poll") (T := TX9) (N := 12) (ci := 9) (k := 0) hx hb hts iX9 hown hG hP (yi_41 hL) (yt_41 hL) rfl (by decide) w_107 (fun _ h9 => h9) rfl rfl (yr_41_0 hL) d_11_14_26 ?_
  refine m_giN (C := "Ballothall$BallotBox") (T := TX0) (N := 10) (ci := 0) (k := 2) hx hb hts iX0 hown hG hP (yi_2 hL) (yt_2 hL) rfl (by decide) n_53 rfl (fun _ h9 => h9) rfl rfl d_11_14_29 ?_
  obtain ⟨ok3, h⟩ := ck_e h
  obtain ⟨ok4, h⟩ := ck_e h
  refine lv_icmp_ge (tgt := 64) hx hb d_11_14_32 (by decide) (fun c9 => ?_) (fun c9 => ?_)
  · have h := ite_t ((oI_le (a := (M 2 2)) (b := x3) ok4 ok3).mp c9) h
    obtain ⟨rfl, rfl, rfl, rfl⟩ := in4 h
    exact k1 rfl H locs ls hP hD hS (lv_sub hl [0, 1, 2] rfl)
  · have h := ite_f (fun q => c9 ((oI_le (a := (M 2 2)) (b := x3) ok4 ok3).mpr q)) h
    refine lv_aload_n hx hb d_11_14_35 rfl (lv_at hl 0 rfl) ?_
    refine lv_iload_n hx hb d_11_14_36 rfl (lv_at hl 3 rfl) ?_
    refine lv_iload_n hx hb d_11_14_37 rfl (lv_at hl 2 rfl) ?_
    obtain ⟨r5, g5, h⟩ := bd_e h
    refine kV (As := [.int (oI x3), .int (oI x2)]) (rest := []) (s_Po_path l z ad E M x3 x2 r5 hL g5) hx hb hml hown hts w_733 w_730 w_732 w_s_f68c3b w_3 md_2f75ac ⟨Nat.le_of_ble_eq_true rfl, Nat.le_of_ble_eq_true rfl⟩ hG hZ hP hD hS hA 41 (wv_o (ci := 9) (yi_41 hL) (yt_41 hL)) rfl rfl rfl hl.1 rfl (Nat.le_of_ble_eq_true rfl) d_11_14_38 ⟨Nat.le_of_ble_eq_true rfl, Nat.le_of_ble_eq_true rfl⟩ (fun _ H locs hP hD hS => ?_)
    have hP : va_P z.1 classes (wv z ad E M) H := hP
    have hD : va_D A (wv z ad E M) := hD
    refine W.eq (g2 := F0 m 41 ls [.int (oI r5)]) rfl ?_
    refine lv_aload_n hx hb d_11_14_41 rfl (lv_at hl 0 rfl) ?_
    refine lv_iload_n hx hb d_11_14_42 rfl (lv_at hl 2 rfl) ?_
    refine lv_iload_n hx hb d_11_14_43 rfl (lv_at hl 3 rfl) ?_
    obtain ⟨r6, g6, h⟩ := bd_e h
    refine kV (As := [.int (oI x2), .int (oI x3)]) (rest := [.int (oI r5)]) (s_Po_path l z ad E M x2 x3 r6 hL g6) hx hb hml hown hts w_733 w_730 w_732 w_s_f68c3b w_3 md_2f75ac ⟨Nat.le_of_ble_eq_true rfl, Nat.le_of_ble_eq_true rfl⟩ hG hZ hP hD hS hA 41 (wv_o (ci := 9) (yi_41 hL) (yt_41 hL)) rfl rfl rfl hl.1 rfl (Nat.le_of_ble_eq_true rfl) d_11_14_44 ⟨Nat.le_of_ble_eq_true rfl, Nat.le_of_ble_eq_true rfl⟩ (fun _ H locs hP hD hS => ?_)
    have hP : va_P z.1 classes (wv z ad E M) H := hP
    have hD : va_D A (wv z ad E M) := hD
    refine W.eq (g2 := F0 m 47 ls [.int (oI r6), .int (oI r5)]) rfl ?_
    obtain ⟨ok7, h⟩ := ck_e h
    obtain ⟨ok8, h⟩ := ck_e h
    refine lv_icmp_le (tgt := 58) hx hb d_11_14_47 (by decide) (fun c9 => ?_) (fun c9 => ?_)
    · have h := ite_t ((oI_le (a := r5) (b := r6) ok7 ok8).mp c9) h
      refine lv_iinc (v := oI (x3 + 1)) (lv' := [(3, .int (oI (x3 + 1))), (0, .ref (ad 41)), (1, .int (oI x1)), (2, .int (oI x2))]) hx hb d_11_14_58 hl (k := 3) rfl (oI_add x3 1) (by decide) rfl (fun ls hl => ?_)
      refine lv_goto (tgt := 24) hx hb d_11_14_61 (by decide) ?_
      obtain ⟨rfl, rfl, rfl, rfl⟩ := in4 h
      exact k0 rfl H locs ls hP hD hS (lv_sub hl [1, 2, 3, 0] rfl)
    · have h := ite_f (fun q => c9 ((oI_le (a := r5) (b := r6) ok7 ok8).mpr q)) h
      refine lv_iload_n hx hb d_11_14_50 rfl (lv_at hl 1 rfl) ?_
      refine lv_iconst (v := oI 1) hx hb d_11_14_51 (by decide +kernel) ?_
      refine lv_iload_n hx hb d_11_14_52 rfl (lv_at hl 2 rfl) ?_
      obtain ⟨ok9, h⟩ := ck_e h
      refine lv_ishl hx hb d_11_14_53 ?_
      refine nrm (oI_one_shl ok9) ?_
      refine lv_iconst (v := oI (-1)) hx hb d_11_14_54 (by decide +kernel) ?_
      refine lv_ixor hx hb d_11_14_55 ?_
      refine nrm (oI_not _) ?_
      obtain ⟨ok10, h⟩ := ck_e h
      obtain ⟨ok11, h⟩ := ck_e h
      refine lv_iand hx hb d_11_14_56 ?_
      refine nrm (oI_dif ok10.1 ok10.2 ok11.1 ok11.2) ?_
      refine lv_istore_n (lv' := [(1, .int (oI (dfI x1 (2 ^ x2.toNat)))), (0, .ref (ad 41)), (2, .int (oI x2)), (3, .int (oI x3))]) hx hb d_11_14_57 rfl hl (by decide) rfl (fun ls hl => ?_)
      refine lv_iinc (v := oI (x3 + 1)) (lv' := [(3, .int (oI (x3 + 1))), (1, .int (oI (dfI x1 (2 ^ x2.toNat)))), (0, .ref (ad 41)), (2, .int (oI x2))]) hx hb d_11_14_58 hl (k := 3) rfl (oI_add x3 1) (by decide) rfl (fun ls hl => ?_)
      refine lv_goto (tgt := 24) hx hb d_11_14_61 (by decide) ?_
      obtain ⟨rfl, rfl, rfl, rfl⟩ := in4 h
      exact k0 rfl H locs ls hP hD hS (lv_sub hl [2, 1, 3, 0] rfl)
set_option maxRecDepth 100000 in
set_option maxHeartbeats 4000000 in
theorem s_Po_winnersByPaths_24 (l : Launch) (z : Zz) (ad : Nat → Nat) (E : Ev) (x2 : Int) {Q : State → Prop} {p : Program} {e : Env} {s : State} {m : MethodId} {below : List Frame} {meth : Method} {c : Code} {A : Nat → Prop} {args : Array Value} (hx : p.tables.exec = Jvm.exec) (hb : c.code = prog_11_method_14_code) (hml : c.maxLocals = 4) (hts : ∀ w ∈ WG, w.before args s = true) (hown : s.vm.findClass "Ballothall$Poll" = some m.cls) (hlocks : meth.locks = false) (hA : ∀ q, s.heap.size ≤ q → A q) (hG : KG z s) (hZ : FZ z A s) (hL : Lay E) : ∀ (fu : Nat) (M : Mm) (x1 : Int) (x3 : Int) (t : Nat) (w1 : Int) (w3 : Int) (N : Mm), l_Po_winnersByPaths_24 E x2 fu M x1 x3 = some (t, w1, w3, N) → (t = 1 → ∀ (H : Heap) (locs : List Loc) (ls : Array Slot), va_P z.1 classes (wv z ad E N) H → va_D A (wv z ad E N) → va_S A s.heap H locs → lv_has ls 4 [(0, .ref (ad 41)), (1, .int (oI w1)), (2, .int (oI x2))] → W p l e (rmK 3 89 0 0) s m args below meth c H locs 0 0 Q (F0 m 64 ls [])) → ∀ (H : Heap) (locs : List Loc) (ls : Array Slot), va_P z.1 classes (wv z ad E M) H → va_D A (wv z ad E M) → va_S A s.heap H locs → lv_has ls 4 [(0, .ref (ad 41)), (1, .int (oI x1)), (2, .int (oI x2)), (3, .int (oI x3))] → W p l e (rmK 3 89 0 0) s m args below meth c H locs 0 0 Q (F0 m 24 ls []) := by
  intro fu
  induction fu with
  | zero =>
    intro M x1 x3 t w1 w3 N h
    have h : (none : Option (Nat × Int × Int × Mm)) = some _ := h
    cases h
  | succ fu ih =>
    intro M x1 x3 t w1 w3 N h k1 H locs ls hP hD hS hl
    obtain ⟨⟨t0, w10, w30, N9⟩, g0, h⟩ := bd_e h
    refine b_Po_winnersByPaths_24b l z ad E M x2 x1 x3 t0 w10 w30 N9 hx hb hml hts hown hlocks hA hG hZ hL g0 (fun e0 => ?_) (fun e0 => ?_) H locs ls hP hD hS hl
    · subst e0
      have h := ite_t rfl h
      exact ih N9 w10 w30 t w1 w3 N h k1
    · subst e0
      have h := ite_f (by decide) h
      obtain ⟨rfl, rfl, rfl, rfl⟩ := in4 h
      exact k1 rfl
set_option maxRecDepth 100000 in
set_option maxHeartbeats 4000000 in
theorem b_Po_winnersByPaths_11b (l : Launch) (z : Zz) (ad : Nat → Nat) (E : Ev) (M : Mm) (x1 : Int) (x2 : Int) (t : Nat) (w1 : Int) (w2 : Int) (N : Mm) {Q : State → Prop} {p : Program} {e : Env} {s : State} {m : MethodId} {below : List Frame} {meth : Method} {c : Code} {A : Nat → Prop} {args : Array Value} (hx : p.tables.exec = Jvm.exec) (hb : c.code = prog_11_method_14_code) (hml : c.maxLocals = 4) (hts : ∀ w ∈ WG, w.before args s = true) (hown : s.vm.findClass "Ballothall$Poll" = some m.cls) (hlocks : meth.locks = false) (hA : ∀ q, s.heap.size ≤ q → A q) (hG : KG z s) (hZ : FZ z A s) (hL : Lay E) (h : Po_winnersByPaths_11b E M x1 x2 = some (t, w1, w2, N)) (k0 : t = 0 → ∀ (H : Heap) (locs : List Loc) (ls : Array Slot), va_P z.1 classes (wv z ad E N) H → va_D A (wv z ad E N) → va_S A s.heap H locs → lv_has ls 4 [(0, .ref (ad 41)), (1, .int (oI w1)), (2, .int (oI w2))] → W p l e (rmK 3 89 0 0) s m args below meth c H locs 0 0 Q (F0 m 11 ls [])) (k1 : t = 1 → ∀ (H : Heap) (locs : List Loc) (ls : Array Slot), va_P z.1 classes (wv z ad E N) H → va_D A (wv z ad E N) → va_S A s.heap H locs → lv_has ls 4 [(1, .int (oI w1))] → W p l e (rmK 3 89 0 0) s m args below meth c H locs 0 0 Q (F0 m 70 ls [])) : ∀ (H : Heap) (locs : List Loc) (ls : Array Slot), va_P z.1 classes (wv z ad E M) H → va_D A (wv z ad E M) → va_S A s.heap H locs → lv_has ls 4 [(0, .ref (ad 41)), (1, .int (oI x1)), (2, .int (oI x2))] → W p l e (rmK 3 89 0 0) s m args below meth c H locs 0 0 Q (F0 m 11 ls []) := by
  intro H locs ls hP hD hS hl
  unfold Po_winnersByPaths_11b at h
  refine lv_iload_n hx hb d_11_14_11 rfl (lv_at hl 2 rfl) ?_
  refine lv_aload_n hx hb d_11_14_12 rfl (lv_at hl 0 rfl) ?_
  refine m_gr (j := 2) (C := "Ballothall$Poll") (T := TX9) (N := 12) (ci := 9) (k := 0) hx hb hts iX9 hown hG hP (yi_41 hL) (yt_41 hL) rfl (by decide) w_107 (fun _ h9 => h9) rfl rfl (yr_41_0 hL) d_11_14_13 ?_
  refine m_giN (C := "Ballothall$BallotBox") (T := TX0) (N := 10) (ci := 0) (k := 2) hx hb hts iX0 hown hG hP (yi_2 hL) (yt_2 hL) rfl (by decide) n_53 rfl (fun _ h9 => h9) rfl rfl d_11_14_16 ?_
  obtain ⟨ok1, h⟩ := ck_e h
  obtain ⟨ok2, h⟩ := ck_e h
  refine lv_icmp_ge (tgt := 70) hx hb d_11_14_19 (by decide) (fun c9 => ?_) (fun c9 => ?_)
  · have h := ite_t ((oI_le (a := (M 2 2)) (b := x2) ok2 ok1).mp c9) h
    obtain ⟨rfl, rfl, rfl, rfl⟩ := in4 h
    exact k1 rfl H locs ls hP hD hS (lv_sub hl [1] rfl)
  · have h := ite_f (fun q => c9 ((oI_le (a := (M 2 2)) (b := x2) ok2 ok1).mpr q)) h
    refine lv_iconst (v := oI 0) hx hb d_11_14_22 (by decide +kernel) ?_
    refine lv_istore_n (lv' := [(3, .int (oI 0)), (0, .ref (ad 41)), (1, .int (oI x1)), (2, .int (oI x2))]) hx hb d_11_14_23 rfl hl (by decide) rfl (fun ls hl => ?_)
    obtain ⟨⟨t12, v12_1, v12_3, M12⟩, g12, h⟩ := bd_e h
    obtain ⟨ok12, h⟩ := ck_e h
    refine s_Po_winnersByPaths_24 l z ad E x2 hx hb hml hts hown hlocks hA hG hZ hL FU M x1 0 t12 v12_1 v12_3 M12 g12 (fun e12 H locs ls hP hD hS hl => ?_) H locs ls hP hD hS (lv_sub hl [1, 2, 3, 0] rfl)
    refine lv_iinc (v := oI (x2 + 1)) (lv' := [(2, .int (oI (x2 + 1))), (0, .ref (ad 41)), (1, .int (oI v12_1))]) hx hb d_11_14_64 hl (k := 2) rfl (oI_add x2 1) (by decide) rfl (fun ls hl => ?_)
    refine lv_goto (tgt := 11) hx hb d_11_14_67 (by decide) ?_
    obtain ⟨rfl, rfl, rfl, rfl⟩ := in4 h
    exact k0 rfl H locs ls hP hD hS (lv_sub hl [1, 2, 0] rfl)
set_option maxRecDepth 100000 in
set_option maxHeartbeats 4000000 in
theorem s_Po_winnersByPaths_11 (l : Launch) (z : Zz) (ad : Nat → Nat) (E : Ev) {Q : State → Prop} {p : Program} {e : Env} {s : State} {m : MethodId} {below : List Frame} {meth : Method} {c : Code} {A : Nat → Prop} {args : Array Value} (hx : p.tables.exec = Jvm.exec) (hb : c.code = prog_11_method_14_code) (hml : c.maxLocals = 4) (hts : ∀ w ∈ WG, w.before args s = true) (hown : s.vm.findClass "Ballothall$Poll" = some m.cls) (hlocks : meth.locks = false) (hA : ∀ q, s.heap.size ≤ q → A q) (hG : KG z s) (hZ : FZ z A s) (hL : Lay E) : ∀ (fu : Nat) (M : Mm) (x1 : Int) (x2 : Int) (t : Nat) (w1 : Int) (w2 : Int) (N : Mm), l_Po_winnersByPaths_11 E fu M x1 x2 = some (t, w1, w2, N) → (t = 1 → ∀ (H : Heap) (locs : List Loc) (ls : Array Slot), va_P z.1 classes (wv z ad E N) H → va_D A (wv z ad E N) → va_S A s.heap H locs → lv_has ls 4 [(1, .int (oI w1))] → W p l e (rmK 3 89 0 0) s m args below meth c H locs 0 0 Q (F0 m 70 ls [])) → ∀ (H : Heap) (locs : List Loc) (ls : Array Slot), va_P z.1 classes (wv z ad E M) H → va_D A (wv z ad E M) → va_S A s.heap H locs → lv_has ls 4 [(0, .ref (ad 41)), (1, .int (oI x1)), (2, .int (oI x2))] → W p l e (rmK 3 89 0 0) s m args below meth c H locs 0 0 Q (F0 m 11 ls []) := by
  intro fu
  induction fu with
  | zero =>
    intro M x1 x2 t w1 w2 N h
    have h : (none : Option (Nat × Int × Int × Mm)) = some _ := h
    cases h
  | succ fu ih =>
    intro M x1 x2 t w1 w2 N h k1 H locs ls hP hD hS hl
    obtain ⟨⟨t0, w10, w20, N9⟩, g0, h⟩ := bd_e h
    refine b_Po_winnersByPaths_11b l z ad E M x1 x2 t0 w10 w20 N9 hx hb hml hts hown hlocks hA hG hZ hL g0 (fun e0 => ?_) (fun e0 => ?_) H locs ls hP hD hS hl
    · subst e0
      have h := ite_t rfl h
      exact ih N9 w10 w20 t w1 w2 N h k1
    · subst e0
      have h := ite_f (by decide) h
      obtain ⟨rfl, rfl, rfl, rfl⟩ := in4 h
      exact k1 rfl
set_option maxRecDepth 100000 in
set_option maxHeartbeats 4000000 in
theorem s_Po_winnersByPaths (l : Launch) (z : Zz) (ad : Nat → Nat) (E : Ev) (M : Mm) (r : Int) (N : Mm) (hL : Lay E) (h : f_Po_winnersByPaths E M = some (r, N)) : CT l z ⟨"Ballothall$Poll", "winnersByPaths", "()I"⟩ prog_11_method_14_code 4 (some .int) [.ref (ad 41)] (wv z ad E M) 3 89 0 0 (fun _ => some (.int (oI r))) (fun _ => (wv z ad E N)) := by
  refine CT.of (own := "Ballothall$Poll") (by decide +kernel) (Nat.le_of_ble_eq_true rfl) rfl (fun p e s m below meth c A ls hx hb hml hr hts hown hlocks hin hA hG hZ hP hD hS hl => ?_)
  have hl : lv_has ls 4 [(0, .ref (ad 41))] := hl
  have key : ∀ (H : Heap) (locs : List Loc) (args : Array Value), (∀ w ∈ WG, w.before args s = true) → va_P z.1 classes (wv z ad E M) H → va_S A s.heap H locs → W p l e (rmK 3 89 0 0) s m args below meth c H locs 0 0 (MQ below (QK z A (fun _ => some (.int (oI r))) (fun _ => (wv z ad E N))) args s 0 0 A) (F0 m 0 ls []) := by
    intro H locs args hts hP hS
    unfold f_Po_winnersByPaths at h
    refine lv_aload_n hx hb d_11_14_0 rfl (lv_at hl 0 rfl) ?_
    obtain ⟨M0, g0, h⟩ := bd_e h
    refine kV (As := []) (rest := []) (s_Po_findPaths l z ad E M M0 hL g0) hx hb hml hown hts w_729 w_726 w_728 w_s_3d2a4d w_3 md_b5f468 ⟨Nat.le_of_ble_eq_true rfl, Nat.le_of_ble_eq_true rfl⟩ hG hZ hP hD hS hA 41 (wv_o (ci := 9) (yi_41 hL) (yt_41 hL)) rfl rfl rfl hl.1 rfl (Nat.le_of_ble_eq_true rfl) d_11_14_1 ⟨Nat.le_of_ble_eq_true rfl, Nat.le_of_ble_eq_true rfl⟩ (fun _ H locs hP hD hS => ?_)
    have hP : va_P z.1 classes (wv z ad E M0) H := hP
    have hD : va_D A (wv z ad E M0) := hD
    refine W.eq (g2 := F0 m 4 ls []) rfl ?_
    refine lv_aload_n hx hb d_11_14_4 rfl (lv_at hl 0 rfl) ?_
    refine m_gi (C := "Ballothall$Poll") (T := TX9) (N := 12) (ci := 9) (k := 1) hx hb hts iX9 hown hG hP (yi_41 hL) (yt_41 hL) rfl (by decide) w_108 (fun _ h9 => h9) rfl rfl d_11_14_5 ?_
    refine lv_istore_n (lv' := [(1, .int (oI (M0 41 1))), (0, .ref (ad 41))]) hx hb d_11_14_8 rfl hl (by decide) rfl (fun ls hl => ?_)
    refine lv_iconst (v := oI 0) hx hb d_11_14_9 (by decide +kernel) ?_
    refine lv_istore_n (lv' := [(2, .int (oI 0)), (1, .int (oI (M0 41 1))), (0, .ref (ad 41))]) hx hb d_11_14_10 rfl hl (by decide) rfl (fun ls hl => ?_)
    obtain ⟨⟨t13, v13_1, v13_2, M13⟩, g13, h⟩ := bd_e h
    obtain ⟨ok13, h⟩ := ck_e h
    refine s_Po_winnersByPaths_11 l z ad E hx hb hml hts hown hlocks hA hG hZ hL FU M0 (M0 41 1) 0 t13 v13_1 v13_2 M13 g13 (fun e13 H locs ls hP hD hS hl => ?_) H locs ls hP hD hS (lv_sub hl [2, 1, 0] rfl)
    refine lv_iload_n hx hb d_11_14_70 rfl (lv_at hl 0 rfl) ?_
    obtain ⟨rfl, rfl⟩ := in2 h
    exact W.iret hx hb hr (fun t ht hW => qkA hP hD hS (fun k => k) rfl rfl ht) hS.2.2 d_11_14_71
  exact key _ _ _ hts hP hS
set_option maxRecDepth 100000 in
set_option maxHeartbeats 4000000 in
theorem s_B_isBeaterOfAllMissed (l : Launch) (z : Zz) (ad : Nat → Nat) (E : Ev) (M : Mm) (r : Int) (N : Mm) (hL : Lay E) (h : f_B_isBeaterOfAllMissed E M = some (r, N)) : CT l z ⟨"Ballothall", "isBeaterOfAllMissed", "()Z"⟩ prog_1_method_66_code 2 (some .boolean) [.ref (ad 1)] (wv z ad E M) 4 115 0 0 (fun _ => some (.int (oI r))) (fun _ => (wv z ad E N)) := by
  refine CT.of (own := "Ballothall") (by decide +kernel) (Nat.le_of_ble_eq_true rfl) rfl (fun p e s m below meth c A ls hx hb hml hr hts hown hlocks hin hA hG hZ hP hD hS hl => ?_)
  have hl : lv_has ls 2 [(0, .ref (ad 1))] := hl
  have key : ∀ (H : Heap) (locs : List Loc) (args : Array Value), (∀ w ∈ WG, w.before args s = true) → va_P z.1 classes (wv z ad E M) H → va_S A s.heap H locs → W p l e (rmK 4 115 0 0) s m args below meth c H locs 0 0 (MQ below (QK z A (fun _ => some (.int (oI r))) (fun _ => (wv z ad E N))) args s 0 0 A) (F0 m 0 ls []) := by
    intro H locs args hts hP hS
    unfold f_B_isBeaterOfAllMissed at h
    refine lv_aload_n hx hb d_1_66_0 rfl (lv_at hl 0 rfl) ?_
    refine m_gr (j := 41) (C := "Ballothall") (T := TX11) (N := 14) (ci := 11) (k := 1) hx hb hts iX11 hown hG hP (yi_1 hL) (yt_1 hL) rfl (by decide) w_398 (fun _ h9 => h9) rfl rfl (yr_1_1 hL) d_1_66_1 ?_
    refine lv_aload_n hx hb d_1_66_4 rfl (lv_at hl 0 rfl) ?_
    refine m_gr (j := 2) (C := "Ballothall") (T := TX11) (N := 14) (ci := 11) (k := 0) hx hb hts iX11 hown hG hP (yi_1 hL) (yt_1 hL) rfl (by decide) w_397 (fun _ h9 => h9) rfl rfl (yr_1_0 hL) d_1_66_5 ?_
    obtain ⟨r0, g0, h⟩ := bd_e h
    refine kVN (As := []) (rest := [.ref (ad 41)]) (s_Bx_everybody l z ad E M r0 hL g0) hx hb hml hown hts w_668 n_665 w_667 w_s_8b8b67 w_2 md_b59579 ⟨Nat.le_of_ble_eq_true rfl, Nat.le_of_ble_eq_true rfl⟩ hG hZ hP hD hS hA 2 (wv_o (ci := 0) (yi_2 hL) (yt_2 hL)) rfl rfl rfl hl.1 rfl (Nat.le_of_ble_eq_true rfl) d_1_66_8 ⟨Nat.le_of_ble_eq_true rfl, Nat.le_of_ble_eq_true rfl⟩ (fun _ H locs hP hD hS => ?_)
    have hP : va_P z.1 classes (wv z ad E M) H := hP
    have hD : va_D A (wv z ad E M) := hD
    refine W.eq (g2 := F0 m 11 ls [.int (oI r0), .ref (ad 41)]) rfl ?_
    obtain ⟨M1, g1, h⟩ := bd_e h
    refine kVN (As := [.int (oI r0)]) (rest := []) (s_Po_open l z ad E M r0 M1 hL g1) hx hb hml hown hts w_672 n_669 w_671 w_s_229dc4 w_3 md_60bc9b ⟨Nat.le_of_ble_eq_true rfl, Nat.le_of_ble_eq_true rfl⟩ hG hZ hP hD hS hA 41 (wv_o (ci := 9) (yi_41 hL) (yt_41 hL)) rfl rfl rfl hl.1 rfl (Nat.le_of_ble_eq_true rfl) d_1_66_11 ⟨Nat.le_of_ble_eq_true rfl, Nat.le_of_ble_eq_true rfl⟩ (fun _ H locs hP hD hS => ?_)
    have hP : va_P z.1 classes (wv z ad E M1) H := hP
    have hD : va_D A (wv z ad E M1) := hD
    refine W.eq (g2 := F0 m 14 ls []) rfl ?_
    refine lv_aload_n hx hb d_1_66_14 rfl (lv_at hl 0 rfl) ?_
    refine m_gr (j := 41) (C := "Ballothall") (T := TX11) (N := 14) (ci := 11) (k := 1) hx hb hts iX11 hown hG hP (yi_1 hL) (yt_1 hL) rfl (by decide) w_398 (fun _ h9 => h9) rfl rfl (yr_1_1 hL) d_1_66_15 ?_
    obtain ⟨⟨r2, M2⟩, g2, h⟩ := bd_e h
    refine kVN (As := []) (rest := []) (s_Po_beaterOfAll l z ad E M1 r2 M2 hL g2) hx hb hml hown hts w_697 n_694 w_696 w_s_516c18 w_3 md_056ea1 ⟨Nat.le_of_ble_eq_true rfl, Nat.le_of_ble_eq_true rfl⟩ hG hZ hP hD hS hA 41 (wv_o (ci := 9) (yi_41 hL) (yt_41 hL)) rfl rfl rfl hl.1 rfl (Nat.le_of_ble_eq_true rfl) d_1_66_18 ⟨Nat.le_of_ble_eq_true rfl, Nat.le_of_ble_eq_true rfl⟩ (fun _ H locs hP hD hS => ?_)
    have hP : va_P z.1 classes (wv z ad E M2) H := hP
    have hD : va_D A (wv z ad E M2) := hD
    refine W.eq (g2 := F0 m 21 ls [.int (oI r2)]) rfl ?_
    refine lv_istore_n (lv' := [(1, .int (oI r2)), (0, .ref (ad 1))]) hx hb d_1_66_21 rfl hl (by decide) rfl (fun ls hl => ?_)
    refine lv_iload_n hx hb d_1_66_22 rfl (lv_at hl 0 rfl) ?_
    refine lv_iconst (v := oI (-1)) hx hb d_1_66_23 (by decide +kernel) ?_
    obtain ⟨ok3, h⟩ := ck_e h
    refine lv_icmp_ne (tgt := 29) hx hb d_1_66_24 (by decide) (fun c9 => ?_) (fun c9 => ?_)
    · have h := ite_f (fun q => c9 ((oI_eq (a := r2) (b := (-1 : Int)) ok3 (by decide)).mpr q)) h
      refine lv_aload_n hx hb d_1_66_29 rfl (lv_at hl 1 rfl) ?_
      refine m_gr (j := 41) (C := "Ballothall") (T := TX11) (N := 14) (ci := 11) (k := 1) hx hb hts iX11 hown hG hP (yi_1 hL) (yt_1 hL) rfl (by decide) w_398 (fun _ h9 => h9) rfl rfl (yr_1_1 hL) d_1_66_30 ?_
      obtain ⟨M4, g4, h⟩ := bd_e h
      refine kVN (As := []) (rest := []) (s_Po_findDistances l z ad E M2 M4 hL g4) hx hb hml hown hts w_713 n_710 w_712 w_s_d32e6f w_3 md_4b14b3 ⟨Nat.le_of_ble_eq_true rfl, Nat.le_of_ble_eq_true rfl⟩ hG hZ hP hD hS hA 41 (wv_o (ci := 9) (yi_41 hL) (yt_41 hL)) rfl rfl rfl hl.1 rfl (Nat.le_of_ble_eq_true rfl) d_1_66_33 ⟨Nat.le_of_ble_eq_true rfl, Nat.le_of_ble_eq_true rfl⟩ (fun _ H locs hP hD hS => ?_)
      have hP : va_P z.1 classes (wv z ad E M4) H := hP
      have hD : va_D A (wv z ad E M4) := hD
      refine W.eq (g2 := F0 m 36 ls []) rfl ?_
      refine lv_aload_n hx hb d_1_66_36 rfl (lv_at hl 1 rfl) ?_
      refine m_gr (j := 41) (C := "Ballothall") (T := TX11) (N := 14) (ci := 11) (k := 1) hx hb hts iX11 hown hG hP (yi_1 hL) (yt_1 hL) rfl (by decide) w_398 (fun _ h9 => h9) rfl rfl (yr_1_1 hL) d_1_66_37 ?_
      obtain ⟨⟨r5, M5⟩, g5, h⟩ := bd_e h
      refine kVN (As := []) (rest := []) (s_Po_winnersByPaths l z ad E M4 r5 M5 hL g5) hx hb hml hown hts w_725 n_722 w_724 w_s_87a59c w_3 md_114b2c ⟨Nat.le_of_ble_eq_true rfl, Nat.le_of_ble_eq_true rfl⟩ hG hZ hP hD hS hA 41 (wv_o (ci := 9) (yi_41 hL) (yt_41 hL)) rfl rfl rfl hl.1 rfl (Nat.le_of_ble_eq_true rfl) d_1_66_40 ⟨Nat.le_of_ble_eq_true rfl, Nat.le_of_ble_eq_true rfl⟩ (fun _ H locs hP hD hS => ?_)
      have hP : va_P z.1 classes (wv z ad E M5) H := hP
      have hD : va_D A (wv z ad E M5) := hD
      refine W.eq (g2 := F0 m 43 ls [.int (oI r5)]) rfl ?_
      refine lv_iconst (v := oI 1) hx hb d_1_66_43 (by decide +kernel) ?_
      refine lv_iload_n hx hb d_1_66_44 rfl (lv_at hl 0 rfl) ?_
      obtain ⟨ok6, h⟩ := ck_e h
      refine lv_ishl hx hb d_1_66_45 ?_
      refine nrm (oI_one_shl ok6) ?_
      obtain ⟨ok7, h⟩ := ck_e h
      obtain ⟨ok8, h⟩ := ck_e h
      refine lv_icmp_ne (tgt := 61) hx hb d_1_66_46 (by decide) (fun c9 => ?_) (fun c9 => ?_)
      · have h := ite_f (fun q => c9 ((oI_eq (a := r5) (b := (2 ^ r2.toNat)) ok7 ok8).mpr q)) h
        refine lv_iconst (v := oI 1) hx hb d_1_66_61 (by decide +kernel) ?_
        refine lv_goto (tgt := 66) hx hb d_1_66_62 (by decide) ?_
        obtain ⟨rfl, rfl⟩ := in2 h
        exact W.zret hx hb hr rfl (fun t ht hW => qkA hP hD hS (fun k => k) rfl rfl ht) hS.2.2 d_1_66_66
      · have h := ite_t ((oI_eq (a := r5) (b := (2 ^ r2.toNat)) ok7 ok8).mp c9) h
        refine lv_aload_n hx hb d_1_66_49 rfl (lv_at hl 1 rfl) ?_
        refine m_gr (j := 41) (C := "Ballothall") (T := TX11) (N := 14) (ci := 11) (k := 1) hx hb hts iX11 hown hG hP (yi_1 hL) (yt_1 hL) rfl (by decide) w_398 (fun _ h9 => h9) rfl rfl (yr_1_1 hL) d_1_66_50 ?_
        refine lv_iconst (v := oI 0) hx hb d_1_66_53 (by decide +kernel) ?_
        obtain ⟨r9, g9, h⟩ := bd_e h
        refine kVN (As := [.int (oI 0)]) (rest := []) (s_Po_consensusPlace l z ad E M5 0 r9 hL g9) hx hb hml hown hts w_742 n_739 w_741 w_s_cb37ef w_3 md_2413b1 ⟨Nat.le_of_ble_eq_true rfl, Nat.le_of_ble_eq_true rfl⟩ hG hZ hP hD hS hA 41 (wv_o (ci := 9) (yi_41 hL) (yt_41 hL)) rfl rfl rfl hl.1 rfl (Nat.le_of_ble_eq_true rfl) d_1_66_54 ⟨Nat.le_of_ble_eq_true rfl, Nat.le_of_ble_eq_true rfl⟩ (fun _ H locs hP hD hS => ?_)
        have hP : va_P z.1 classes (wv z ad E M5) H := hP
        have hD : va_D A (wv z ad E M5) := hD
        refine W.eq (g2 := F0 m 57 ls [.int (oI r9)]) rfl ?_
        refine lv_iload_n hx hb d_1_66_57 rfl (lv_at hl 0 rfl) ?_
        obtain ⟨ok10, h⟩ := ck_e h
        refine lv_icmp_eq (tgt := 65) hx hb d_1_66_58 (by decide) (fun c9 => ?_) (fun c9 => ?_)
        · have h := ite_t ((oI_eq (a := r9) (b := r2) ok10 ok3).mp c9) h
          refine lv_iconst (v := oI 0) hx hb d_1_66_65 (by decide +kernel) ?_
          obtain ⟨rfl, rfl⟩ := in2 h
          exact W.zret hx hb hr rfl (fun t ht hW => qkA hP hD hS (fun k => k) rfl rfl ht) hS.2.2 d_1_66_66
        · have h := ite_f (fun q => c9 ((oI_eq (a := r9) (b := r2) ok10 ok3).mpr q)) h
          refine lv_iconst (v := oI 1) hx hb d_1_66_61 (by decide +kernel) ?_
          refine lv_goto (tgt := 66) hx hb d_1_66_62 (by decide) ?_
          obtain ⟨rfl, rfl⟩ := in2 h
          exact W.zret hx hb hr rfl (fun t ht hW => qkA hP hD hS (fun k => k) rfl rfl ht) hS.2.2 d_1_66_66
    · have h := ite_t ((oI_eq (a := r2) (b := (-1 : Int)) ok3 (by decide)).mp c9) h
      refine lv_iconst (v := oI 0) hx hb d_1_66_27 (by decide +kernel) ?_
      obtain ⟨rfl, rfl⟩ := in2 h
      exact W.zret hx hb hr rfl (fun t ht hW => qkA hP hD hS (fun k => k) rfl rfl ht) hS.2.2 d_1_66_28
  exact key _ _ _ hts hP hS
set_option maxRecDepth 100000 in
set_option maxHeartbeats 4000000 in
theorem b_Cl_findSums_12b (l : Launch) (z : Zz) (ad : Nat → Nat) (E : Ev) (M : Mm) (x1 : Int) (x2 : Int) (t : Nat) (w2 : Int) (N : Mm) {Q : State → Prop} {p : Program} {e : Env} {s : State} {m : MethodId} {below : List Frame} {meth : Method} {c : Code} {A : Nat → Prop} {args : Array Value} (hx : p.tables.exec = Jvm.exec) (hb : c.code = prog_3_method_3_code) (hml : c.maxLocals = 3) (hts : ∀ w ∈ WG, w.before args s = true) (hown : s.vm.findClass "Ballothall$Council" = some m.cls) (hlocks : meth.locks = false) (hA : ∀ q, s.heap.size ≤ q → A q) (hG : KG z s) (hZ : FZ z A s) (hL : Lay E) (h : Cl_findSums_12b E M x1 x2 = some (t, w2, N)) (k0 : t = 0 → ∀ (H : Heap) (locs : List Loc) (ls : Array Slot), va_P z.1 classes (wv z ad E N) H → va_D A (wv z ad E N) → va_S A s.heap H locs → lv_has ls 3 [(0, .ref (ad 243)), (1, .int (oI x1)), (2, .int (oI w2))] → W p l e (rmK 0 20 0 0) s m args below meth c H locs 0 0 Q (F0 m 12 ls [])) (k1 : t = 1 → ∀ (H : Heap) (locs : List Loc) (ls : Array Slot), va_P z.1 classes (wv z ad E N) H → va_D A (wv z ad E N) → va_S A s.heap H locs → lv_has ls 3 [(0, .ref (ad 243)), (1, .int (oI x1))] → W p l e (rmK 0 20 0 0) s m args below meth c H locs 0 0 Q (F0 m 48 ls [])) : ∀ (H : Heap) (locs : List Loc) (ls : Array Slot), va_P z.1 classes (wv z ad E M) H → va_D A (wv z ad E M) → va_S A s.heap H locs → lv_has ls 3 [(0, .ref (ad 243)), (1, .int (oI x1)), (2, .int (oI x2))] → W p l e (rmK 0 20 0 0) s m args below meth c H locs 0 0 Q (F0 m 12 ls []) := by
  intro H locs ls hP hD hS hl
  unfold Cl_findSums_12b at h
  refine lv_iload_n hx hb d_3_3_12 rfl (lv_at hl 2 rfl) ?_
  refine lv_iconst (v := oI 1) hx hb d_3_3_13 (by decide +kernel) ?_
  refine lv_iload_n hx hb d_3_3_14 rfl (lv_at hl 1 rfl) ?_
  obtain ⟨ok2, h⟩ := ck_e h
  refine lv_ishl hx hb d_3_3_15 ?_
  refine nrm (oI_one_shl ok2) ?_
  obtain ⟨ok3, h⟩ := ck_e h
  obtain ⟨ok4, h⟩ := ck_e h
  refine lv_icmp_ge (tgt := 48) hx hb d_3_3_16 (by decide) (fun c9 => ?_) (fun c9 => ?_)
  · have h := ite_t ((oI_le (a := (2 ^ x1.toNat)) (b := x2) ok4 ok3).mp c9) h
    obtain ⟨rfl, rfl, rfl⟩ := in3 h
    exact k1 rfl H locs ls hP hD hS (lv_sub hl [0, 1] rfl)
  · have h := ite_f (fun q => c9 ((oI_le (a := (2 ^ x1.toNat)) (b := x2) ok4 ok3).mpr q)) h
    refine lv_aload_n hx hb d_3_3_19 rfl (lv_at hl 0 rfl) ?_
    refine m_gr (j := 245) (C := "Ballothall$Council") (T := TX1) (N := 4) (ci := 1) (k := 3) hx hb hts iX1 hown hG hP (yi_243 hL) (yt_243 hL) rfl (by decide) w_387 (fun _ h9 => h9) rfl rfl (yr_243_3 hL) d_3_3_20 ?_
    refine lv_iload_n hx hb d_3_3_23 rfl (lv_at hl 2 rfl) ?_
    refine lv_iconst (v := oI 1) hx hb d_3_3_24 (by decide +kernel) ?_
    refine lv_iload_n hx hb d_3_3_25 rfl (lv_at hl 1 rfl) ?_
    obtain ⟨ok5, h⟩ := ck_e h
    refine lv_ishl hx hb d_3_3_26 ?_
    refine nrm (oI_one_shl ok5) ?_
    obtain ⟨ok6, h⟩ := ck_e h
    obtain ⟨ok7, h⟩ := ck_e h
    refine lv_ior hx hb d_3_3_27 ?_
    refine nrm (oI_or (a := x2) (b := (2 ^ x1.toNat)) ok6.1 ok6.2 ok7.1 ok7.2) ?_
    refine lv_aload_n hx hb d_3_3_28 rfl (lv_at hl 0 rfl) ?_
    refine m_gr (j := 245) (C := "Ballothall$Council") (T := TX1) (N := 4) (ci := 1) (k := 3) hx hb hts iX1 hown hG hP (yi_243 hL) (yt_243 hL) rfl (by decide) w_387 (fun _ h9 => h9) rfl rfl (yr_243_3 hL) d_3_3_29 ?_
    refine lv_iload_n hx hb d_3_3_32 rfl (lv_at hl 2 rfl) ?_
    obtain ⟨ok8, h⟩ := ck_e h
    refine m_ia hx hb hG hP (yi_245 hL) (yt_245 hL) ok8 d_3_3_33 ?_
    refine lv_aload_n hx hb d_3_3_34 rfl (lv_at hl 0 rfl) ?_
    refine m_gr (j := 244) (C := "Ballothall$Council") (T := TX1) (N := 4) (ci := 1) (k := 2) hx hb hts iX1 hown hG hP (yi_243 hL) (yt_243 hL) rfl (by decide) w_386 (fun _ h9 => h9) rfl rfl (yr_243_2 hL) d_3_3_35 ?_
    refine lv_iload_n hx hb d_3_3_38 rfl (lv_at hl 1 rfl) ?_
    obtain ⟨ok9, h⟩ := ck_e h
    refine m_ia hx hb hG hP (yi_244 hL) (yt_244 hL) ok9 d_3_3_39 ?_
    refine lv_iadd hx hb d_3_3_40 ?_
    refine nrm (oI_add _ _) ?_
    obtain ⟨v10, e10, h⟩ := nb_e h
    refine nrm (congrArg oI e10.symm) ?_
    obtain ⟨ok11, h⟩ := ck_e h
    refine m_is hx hb hG hP hD hS (yi_245 hL) (yt_245 hL) ok11 d_3_3_41 (fun H locs hP hD hS => ?_)
    have hP : va_P z.1 classes (wv z ad E (u2 M 245 (orI x2 (2 ^ x1.toNat)).toNat v10)) H := hP
    have hD : va_D A (wv z ad E (u2 M 245 (orI x2 (2 ^ x1.toNat)).toNat v10)) := hD
    refine lv_iinc (v := oI (x2 + 1)) (lv' := [(2, .int (oI (x2 + 1))), (0, .ref (ad 243)), (1, .int (oI x1))]) hx hb d_3_3_42 hl (k := 2) rfl (oI_add x2 1) (by decide) rfl (fun ls hl => ?_)
    refine lv_goto (tgt := 12) hx hb d_3_3_45 (by decide) ?_
    obtain ⟨rfl, rfl, rfl⟩ := in3 h
    exact k0 rfl H locs ls hP hD hS (lv_sub hl [1, 2, 0] rfl)
set_option maxRecDepth 100000 in
set_option maxHeartbeats 4000000 in
theorem s_Cl_findSums_12 (l : Launch) (z : Zz) (ad : Nat → Nat) (E : Ev) (x1 : Int) {Q : State → Prop} {p : Program} {e : Env} {s : State} {m : MethodId} {below : List Frame} {meth : Method} {c : Code} {A : Nat → Prop} {args : Array Value} (hx : p.tables.exec = Jvm.exec) (hb : c.code = prog_3_method_3_code) (hml : c.maxLocals = 3) (hts : ∀ w ∈ WG, w.before args s = true) (hown : s.vm.findClass "Ballothall$Council" = some m.cls) (hlocks : meth.locks = false) (hA : ∀ q, s.heap.size ≤ q → A q) (hG : KG z s) (hZ : FZ z A s) (hL : Lay E) : ∀ (fu : Nat) (M : Mm) (x2 : Int) (t : Nat) (w2 : Int) (N : Mm), l_Cl_findSums_12 E x1 fu M x2 = some (t, w2, N) → (t = 1 → ∀ (H : Heap) (locs : List Loc) (ls : Array Slot), va_P z.1 classes (wv z ad E N) H → va_D A (wv z ad E N) → va_S A s.heap H locs → lv_has ls 3 [(0, .ref (ad 243)), (1, .int (oI x1))] → W p l e (rmK 0 20 0 0) s m args below meth c H locs 0 0 Q (F0 m 48 ls [])) → ∀ (H : Heap) (locs : List Loc) (ls : Array Slot), va_P z.1 classes (wv z ad E M) H → va_D A (wv z ad E M) → va_S A s.heap H locs → lv_has ls 3 [(0, .ref (ad 243)), (1, .int (oI x1)), (2, .int (oI x2))] → W p l e (rmK 0 20 0 0) s m args below meth c H locs 0 0 Q (F0 m 12 ls []) := by
  intro fu
  induction fu with
  | zero =>
    intro M x2 t w2 N h
    have h : (none : Option (Nat × Int × Mm)) = some _ := h
    cases h
  | succ fu ih =>
    intro M x2 t w2 N h k1 H locs ls hP hD hS hl
    obtain ⟨⟨t0, w20, N9⟩, g0, h⟩ := bd_e h
    refine b_Cl_findSums_12b l z ad E M x1 x2 t0 w20 N9 hx hb hml hts hown hlocks hA hG hZ hL g0 (fun e0 => ?_) (fun e0 => ?_) H locs ls hP hD hS hl
    · subst e0
      have h := ite_t rfl h
      exact ih N9 w20 t w2 N h k1
    · subst e0
      have h := ite_f (by decide) h
      obtain ⟨rfl, rfl, rfl⟩ := in3 h
      exact k1 rfl
set_option maxRecDepth 100000 in
set_option maxHeartbeats 4000000 in
theorem b_Cl_findSums_2b (l : Launch) (z : Zz) (ad : Nat → Nat) (E : Ev) (M : Mm) (x1 : Int) (t : Nat) (w1 : Int) (N : Mm) {Q : State → Prop} {p : Program} {e : Env} {s : State} {m : MethodId} {below : List Frame} {meth : Method} {c : Code} {A : Nat → Prop} {args : Array Value} (hx : p.tables.exec = Jvm.exec) (hb : c.code = prog_3_method_3_code) (hml : c.maxLocals = 3) (hts : ∀ w ∈ WG, w.before args s = true) (hown : s.vm.findClass "Ballothall$Council" = some m.cls) (hlocks : meth.locks = false) (hA : ∀ q, s.heap.size ≤ q → A q) (hG : KG z s) (hZ : FZ z A s) (hL : Lay E) (h : Cl_findSums_2b E M x1 = some (t, w1, N)) (k0 : t = 0 → ∀ (H : Heap) (locs : List Loc) (ls : Array Slot), va_P z.1 classes (wv z ad E N) H → va_D A (wv z ad E N) → va_S A s.heap H locs → lv_has ls 3 [(0, .ref (ad 243)), (1, .int (oI w1))] → W p l e (rmK 0 20 0 0) s m args below meth c H locs 0 0 Q (F0 m 2 ls [])) (k1 : t = 1 → ∀ (H : Heap) (locs : List Loc) (ls : Array Slot), va_P z.1 classes (wv z ad E N) H → va_D A (wv z ad E N) → va_S A s.heap H locs → lv_has ls 3 [] → W p l e (rmK 0 20 0 0) s m args below meth c H locs 0 0 Q (F0 m 54 ls [])) : ∀ (H : Heap) (locs : List Loc) (ls : Array Slot), va_P z.1 classes (wv z ad E M) H → va_D A (wv z ad E M) → va_S A s.heap H locs → lv_has ls 3 [(0, .ref (ad 243)), (1, .int (oI x1))] → W p l e (rmK 0 20 0 0) s m args below meth c H locs 0 0 Q (F0 m 2 ls []) := by
  intro H locs ls hP hD hS hl
  unfold Cl_findSums_2b at h
  refine lv_iload_n hx hb d_3_3_2 rfl (lv_at hl 1 rfl) ?_
  refine lv_aload_n hx hb d_3_3_3 rfl (lv_at hl 0 rfl) ?_
  refine m_gi (C := "Ballothall$Council") (T := TX1) (N := 4) (ci := 1) (k := 0) hx hb hts iX1 hown hG hP (yi_243 hL) (yt_243 hL) rfl (by decide) w_382 (fun _ h9 => h9) rfl rfl d_3_3_4 ?_
  obtain ⟨ok0, h⟩ := ck_e h
  obtain ⟨ok1, h⟩ := ck_e h
  refine lv_icmp_ge (tgt := 54) hx hb d_3_3_7 (by decide) (fun c9 => ?_) (fun c9 => ?_)
  · have h := ite_t ((oI_le (a := (M 243 0)) (b := x1) ok1 ok0).mp c9) h
    obtain ⟨rfl, rfl, rfl⟩ := in3 h
    exact k1 rfl H locs ls hP hD hS (lv_sub hl [] rfl)
  · have h := ite_f (fun q => c9 ((oI_le (a := (M 243 0)) (b := x1) ok1 ok0).mpr q)) h
    refine lv_iconst (v := oI 0) hx hb d_3_3_10 (by decide +kernel) ?_
    refine lv_istore_n (lv' := [(2, .int (oI 0)), (0, .ref (ad 243)), (1, .int (oI x1))]) hx hb d_3_3_11 rfl hl (by decide) rfl (fun ls hl => ?_)
    obtain ⟨⟨t12, v12_2, M12⟩, g12, h⟩ := bd_e h
    obtain ⟨ok12, h⟩ := ck_e h
    refine s_Cl_findSums_12 l z ad E x1 hx hb hml hts hown hlocks hA hG hZ hL FU M 0 t12 v12_2 M12 g12 (fun e12 H locs ls hP hD hS hl => ?_) H locs ls hP hD hS (lv_sub hl [1, 2, 0] rfl)
    refine lv_iinc (v := oI (x1 + 1)) (lv' := [(1, .int (oI (x1 + 1))), (0, .ref (ad 243))]) hx hb d_3_3_48 hl (k := 1) rfl (oI_add x1 1) (by decide) rfl (fun ls hl => ?_)
    refine lv_goto (tgt := 2) hx hb d_3_3_51 (by decide) ?_
    obtain ⟨rfl, rfl, rfl⟩ := in3 h
    exact k0 rfl H locs ls hP hD hS (lv_sub hl [1, 0] rfl)
set_option maxRecDepth 100000 in
set_option maxHeartbeats 4000000 in
theorem s_Cl_findSums_2 (l : Launch) (z : Zz) (ad : Nat → Nat) (E : Ev) {Q : State → Prop} {p : Program} {e : Env} {s : State} {m : MethodId} {below : List Frame} {meth : Method} {c : Code} {A : Nat → Prop} {args : Array Value} (hx : p.tables.exec = Jvm.exec) (hb : c.code = prog_3_method_3_code) (hml : c.maxLocals = 3) (hts : ∀ w ∈ WG, w.before args s = true) (hown : s.vm.findClass "Ballothall$Council" = some m.cls) (hlocks : meth.locks = false) (hA : ∀ q, s.heap.size ≤ q → A q) (hG : KG z s) (hZ : FZ z A s) (hL : Lay E) : ∀ (fu : Nat) (M : Mm) (x1 : Int) (t : Nat) (w1 : Int) (N : Mm), l_Cl_findSums_2 E fu M x1 = some (t, w1, N) → (t = 1 → ∀ (H : Heap) (locs : List Loc) (ls : Array Slot), va_P z.1 classes (wv z ad E N) H → va_D A (wv z ad E N) → va_S A s.heap H locs → lv_has ls 3 [] → W p l e (rmK 0 20 0 0) s m args below meth c H locs 0 0 Q (F0 m 54 ls [])) → ∀ (H : Heap) (locs : List Loc) (ls : Array Slot), va_P z.1 classes (wv z ad E M) H → va_D A (wv z ad E M) → va_S A s.heap H locs → lv_has ls 3 [(0, .ref (ad 243)), (1, .int (oI x1))] → W p l e (rmK 0 20 0 0) s m args below meth c H locs 0 0 Q (F0 m 2 ls []) := by
  intro fu
  induction fu with
  | zero =>
    intro M x1 t w1 N h
    have h : (none : Option (Nat × Int × Mm)) = some _ := h
    cases h
  | succ fu ih =>
    intro M x1 t w1 N h k1 H locs ls hP hD hS hl
    obtain ⟨⟨t0, w10, N9⟩, g0, h⟩ := bd_e h
    refine b_Cl_findSums_2b l z ad E M x1 t0 w10 N9 hx hb hml hts hown hlocks hA hG hZ hL g0 (fun e0 => ?_) (fun e0 => ?_) H locs ls hP hD hS hl
    · subst e0
      have h := ite_t rfl h
      exact ih N9 w10 t w1 N h k1
    · subst e0
      have h := ite_f (by decide) h
      obtain ⟨rfl, rfl, rfl⟩ := in3 h
      exact k1 rfl
set_option maxRecDepth 100000 in
set_option maxHeartbeats 4000000 in
theorem s_Cl_findSums (l : Launch) (z : Zz) (ad : Nat → Nat) (E : Ev) (M : Mm) (N : Mm) (hL : Lay E) (h : f_Cl_findSums E M = some N) : CT l z ⟨"Ballothall$Council", "findSums", "()V"⟩ prog_3_method_3_code 3 none [.ref (ad 243)] (wv z ad E M) 0 20 0 0 (fun _ => none) (fun _ => (wv z ad E N)) := by
  refine CT.of (own := "Ballothall$Council") (by decide +kernel) (Nat.le_of_ble_eq_true rfl) rfl (fun p e s m below meth c A ls hx hb hml hr hts hown hlocks hin hA hG hZ hP hD hS hl => ?_)
  have hl : lv_has ls 3 [(0, .ref (ad 243))] := hl
  have key : ∀ (H : Heap) (locs : List Loc) (args : Array Value), (∀ w ∈ WG, w.before args s = true) → va_P z.1 classes (wv z ad E M) H → va_S A s.heap H locs → W p l e (rmK 0 20 0 0) s m args below meth c H locs 0 0 (MQ below (QK z A (fun _ => none) (fun _ => (wv z ad E N))) args s 0 0 A) (F0 m 0 ls []) := by
    intro H locs args hts hP hS
    unfold f_Cl_findSums at h
    refine lv_iconst (v := oI 0) hx hb d_3_3_0 (by decide +kernel) ?_
    refine lv_istore_n (lv' := [(1, .int (oI 0)), (0, .ref (ad 243))]) hx hb d_3_3_1 rfl hl (by decide) rfl (fun ls hl => ?_)
    obtain ⟨⟨t13, v13_1, M13⟩, g13, h⟩ := bd_e h
    obtain ⟨ok13, h⟩ := ck_e h
    refine s_Cl_findSums_2 l z ad E hx hb hml hts hown hlocks hA hG hZ hL FU M 0 t13 v13_1 M13 g13 (fun e13 H locs ls hP hD hS hl => ?_) H locs ls hP hD hS (lv_sub hl [1, 0] rfl)
    obtain rfl := in1 h
    exact W.vret hx hb hr (fun t ht hW => qkA hP hD hS (fun k => k) rfl rfl ht) hS.2.2 d_3_3_54
  exact key _ _ _ hts hP hS
set_option maxRecDepth 100000 in
set_option maxHeartbeats 4000000 in
theorem s_Cl_isSwung (l : Launch) (z : Zz) (ad : Nat → Nat) (E : Ev) (M : Mm) (x1 : Int) (x2 : Int) (r : Int)  (hL : Lay E) (h : f_Cl_isSwung E M x1 x2 = some r) : CT l z ⟨"Ballothall$Council", "isSwung", "(II)Z"⟩ prog_3_method_4_code 3 (some .boolean) [.ref (ad 243), .int (oI x1), .int (oI x2)] (wv z ad E M) 1 41 0 0 (fun _ => some (.int (oI r))) (fun _ => (wv z ad E M)) := by
  refine CT.of (own := "Ballothall$Council") (by decide +kernel) (Nat.le_of_ble_eq_true rfl) rfl (fun p e s m below meth c A ls hx hb hml hr hts hown hlocks hin hA hG hZ hP hD hS hl => ?_)
  have hl : lv_has ls 3 [(0, .ref (ad 243)), (1, .int (oI x1)), (2, .int (oI x2))] := hl
  have key : ∀ (H : Heap) (locs : List Loc) (args : Array Value), (∀ w ∈ WG, w.before args s = true) → va_P z.1 classes (wv z ad E M) H → va_S A s.heap H locs → W p l e (rmK 1 41 0 0) s m args below meth c H locs 0 0 (MQ below (QK z A (fun _ => some (.int (oI r))) (fun _ => (wv z ad E M))) args s 0 0 A) (F0 m 0 ls []) := by
    intro H locs args hts hP hS
    unfold f_Cl_isSwung at h
    refine lv_aload_n hx hb d_3_4_0 rfl (lv_at hl 0 rfl) ?_
    refine m_gr (j := 245) (C := "Ballothall$Council") (T := TX1) (N := 4) (ci := 1) (k := 3) hx hb hts iX1 hown hG hP (yi_243 hL) (yt_243 hL) rfl (by decide) w_387 (fun _ h9 => h9) rfl rfl (yr_243_3 hL) d_3_4_1 ?_
    refine lv_iload_n hx hb d_3_4_4 rfl (lv_at hl 1 rfl) ?_
    obtain ⟨ok0, h⟩ := ck_e h
    refine m_ia hx hb hG hP (yi_245 hL) (yt_245 hL) ok0 d_3_4_5 ?_
    refine lv_aload_n hx hb d_3_4_6 rfl (lv_at hl 0 rfl) ?_
    refine m_gi (C := "Ballothall$Council") (T := TX1) (N := 4) (ci := 1) (k := 1) hx hb hts iX1 hown hG hP (yi_243 hL) (yt_243 hL) rfl (by decide) w_384 (fun _ h9 => h9) rfl rfl d_3_4_7 ?_
    obtain ⟨ok1, h⟩ := ck_e h
    obtain ⟨ok2, h⟩ := ck_e h
    refine lv_icmp_ge (tgt := 45) hx hb d_3_4_10 (by decide) (fun c9 => ?_) (fun c9 => ?_)
    · have h := ite_t ((oI_le (a := (M 243 1)) (b := (M 245 x1.toNat)) ok2 ok1).mp c9) h
      refine lv_iconst (v := oI 0) hx hb d_3_4_45 (by decide +kernel) ?_
      obtain rfl := in1 h
      exact W.zret hx hb hr rfl (fun t ht hW => qkA hP hD hS (fun k => k) rfl rfl ht) hS.2.2 d_3_4_46
    · have h := ite_f (fun q => c9 ((oI_le (a := (M 243 1)) (b := (M 245 x1.toNat)) ok2 ok1).mpr q)) h
      refine lv_aload_n hx hb d_3_4_13 rfl (lv_at hl 0 rfl) ?_
      refine m_gr (j := 245) (C := "Ballothall$Council") (T := TX1) (N := 4) (ci := 1) (k := 3) hx hb hts iX1 hown hG hP (yi_243 hL) (yt_243 hL) rfl (by decide) w_387 (fun _ h9 => h9) rfl rfl (yr_243_3 hL) d_3_4_14 ?_
      refine lv_iload_n hx hb d_3_4_17 rfl (lv_at hl 1 rfl) ?_
      refine m_ia hx hb hG hP (yi_245 hL) (yt_245 hL) ok0 d_3_4_18 ?_
      refine lv_aload_n hx hb d_3_4_19 rfl (lv_at hl 0 rfl) ?_
      refine m_gr (j := 244) (C := "Ballothall$Council") (T := TX1) (N := 4) (ci := 1) (k := 2) hx hb hts iX1 hown hG hP (yi_243 hL) (yt_243 hL) rfl (by decide) w_386 (fun _ h9 => h9) rfl rfl (yr_243_2 hL) d_3_4_20 ?_
      refine lv_iload_n hx hb d_3_4_23 rfl (lv_at hl 2 rfl) ?_
      obtain ⟨ok3, h⟩ := ck_e h
      refine m_ia hx hb hG hP (yi_244 hL) (yt_244 hL) ok3 d_3_4_24 ?_
      refine lv_iadd hx hb d_3_4_25 ?_
      refine nrm (oI_add _ _) ?_
      refine lv_aload_n hx hb d_3_4_26 rfl (lv_at hl 0 rfl) ?_
      refine m_gi (C := "Ballothall$Council") (T := TX1) (N := 4) (ci := 1) (k := 1) hx hb hts iX1 hown hG hP (yi_243 hL) (yt_243 hL) rfl (by decide) w_384 (fun _ h9 => h9) rfl rfl d_3_4_27 ?_
      obtain ⟨ok4, h⟩ := ck_e h
      refine lv_icmp_lt (tgt := 45) hx hb d_3_4_30 (by decide) (fun c9 => ?_) (fun c9 => ?_)
      · have h := ite_t ((oI_lt (a := ((M 245 x1.toNat) + (M 244 x2.toNat))) (b := (M 243 1)) ok4 ok2).mp c9) h
        refine lv_iconst (v := oI 0) hx hb d_3_4_45 (by decide +kernel) ?_
        obtain rfl := in1 h
        exact W.zret hx hb hr rfl (fun t ht hW => qkA hP hD hS (fun k => k) rfl rfl ht) hS.2.2 d_3_4_46
      · have h := ite_f (fun q => c9 ((oI_lt (a := ((M 245 x1.toNat) + (M 244 x2.toNat))) (b := (M 243 1)) ok4 ok2).mpr q)) h
        refine lv_iload_n hx hb d_3_4_33 rfl (lv_at hl 1 rfl) ?_
        refine lv_iload_n hx hb d_3_4_34 rfl (lv_at hl 2 rfl) ?_
        obtain ⟨r5, g5, h⟩ := bd_e h
        refine kSN (As := [.int (oI x1), .int (oI x2)]) (rest := []) (s_B_has l z ad E M x1 x2 r5 hL g5) hx hb hml hown hts w_693 n_763 w_692 w_1 md_26545c ⟨Nat.le_of_ble_eq_true rfl, Nat.le_of_ble_eq_true rfl⟩ hG hZ hP hD hS hA rfl hl.1 rfl (Nat.le_of_ble_eq_true rfl) d_3_4_35 ⟨Nat.le_of_ble_eq_true rfl, Nat.le_of_ble_eq_true rfl⟩ (fun _ H locs hP hD hS => ?_)
        have hP : va_P z.1 classes (wv z ad E M) H := hP
        have hD : va_D A (wv z ad E M) := hD
        refine W.eq (g2 := F0 m 38 ls [.int (oI r5)]) rfl ?_
        obtain ⟨ok6, h⟩ := ck_e h
        refine lv_if_ne (tgt := 45) hx hb d_3_4_38 (by decide) (fun c9 => ?_) (fun c9 => ?_)
        · have h := ite_f (fun q => c9 ((oI_eq0 ok6).mpr q)) h
          refine lv_iconst (v := oI 0) hx hb d_3_4_45 (by decide +kernel) ?_
          obtain rfl := in1 h
          exact W.zret hx hb hr rfl (fun t ht hW => qkA hP hD hS (fun k => k) rfl rfl ht) hS.2.2 d_3_4_46
        · have h := ite_t ((oI_eq0 ok6).mp c9) h
          refine lv_iconst (v := oI 1) hx hb d_3_4_41 (by decide +kernel) ?_
          refine lv_goto (tgt := 46) hx hb d_3_4_42 (by decide) ?_
          obtain rfl := in1 h
          exact W.zret hx hb hr rfl (fun t ht hW => qkA hP hD hS (fun k => k) rfl rfl ht) hS.2.2 d_3_4_46
  exact key _ _ _ hts hP hS
set_option maxRecDepth 100000 in
set_option maxHeartbeats 4000000 in
theorem b_Cl_ordersTurnedBy_5b (l : Launch) (z : Zz) (ad : Nat → Nat) (E : Ev) (M : Mm) (x1 : Int) (x2 : Int) (x4 : Int) (t : Nat) (w2 : Int) (w4 : Int)  {Q : State → Prop} {p : Program} {e : Env} {s : State} {m : MethodId} {below : List Frame} {meth : Method} {c : Code} {A : Nat → Prop} {args : Array Value} (hx : p.tables.exec = Jvm.exec) (hb : c.code = prog_3_method_6_code) (hml : c.maxLocals = 6) (hts : ∀ w ∈ WG, w.before args s = true) (hown : s.vm.findClass "Ballothall$Council" = some m.cls) (hlocks : meth.locks = false) (hA : ∀ q, s.heap.size ≤ q → A q) (hG : KG z s) (hZ : FZ z A s) (hL : Lay E) (h : Cl_ordersTurnedBy_5b E M x1 x2 x4 = some (t, w2, w4)) (k0 : t = 0 → ∀ (H : Heap) (locs : List Loc) (ls : Array Slot), va_P z.1 classes (wv z ad E M) H → va_D A (wv z ad E M) → va_S A s.heap H locs → lv_has ls 6 [(0, .ref (ad 243)), (1, .int (oI x1)), (2, .long (oJ w2)), (4, .int (oI w4))] → W p l e (rmK 2 63 0 0) s m args below meth c H locs 0 0 Q (F0 m 5 ls [])) (k1 : t = 1 → ∀ (H : Heap) (locs : List Loc) (ls : Array Slot), va_P z.1 classes (wv z ad E M) H → va_D A (wv z ad E M) → va_S A s.heap H locs → lv_has ls 6 [(2, .long (oJ w2))] → W p l e (rmK 2 63 0 0) s m args below meth c H locs 0 0 Q (F0 m 62 ls [])) : ∀ (H : Heap) (locs : List Loc) (ls : Array Slot), va_P z.1 classes (wv z ad E M) H → va_D A (wv z ad E M) → va_S A s.heap H locs → lv_has ls 6 [(0, .ref (ad 243)), (1, .int (oI x1)), (2, .long (oJ x2)), (4, .int (oI x4))] → W p l e (rmK 2 63 0 0) s m args below meth c H locs 0 0 Q (F0 m 5 ls []) := by
  intro H locs ls hP hD hS hl
  unfold Cl_ordersTurnedBy_5b at h
  refine lv_iload hx hb d_3_6_5 (lv_at hl 3 rfl) ?_
  refine lv_iconst (v := oI 1) hx hb d_3_6_7 (by decide +kernel) ?_
  refine lv_aload_n hx hb d_3_6_8 rfl (lv_at hl 0 rfl) ?_
  refine m_gi (C := "Ballothall$Council") (T := TX1) (N := 4) (ci := 1) (k := 0) hx hb hts iX1 hown hG hP (yi_243 hL) (yt_243 hL) rfl (by decide) w_382 (fun _ h9 => h9) rfl rfl d_3_6_9 ?_
  obtain ⟨ok0, h⟩ := ck_e h
  refine lv_ishl hx hb d_3_6_12 ?_
  refine nrm (oI_one_shl ok0) ?_
  obtain ⟨ok1, h⟩ := ck_e h
  obtain ⟨ok2, h⟩ := ck_e h
  refine lv_icmp_ge (tgt := 62) hx hb d_3_6_13 (by decide) (fun c9 => ?_) (fun c9 => ?_)
  · have h := ite_t ((oI_le (a := (2 ^ (M 243 0).toNat)) (b := x4) ok2 ok1).mp c9) h
    obtain ⟨rfl, rfl, rfl⟩ := in3 h
    exact k1 rfl H locs ls hP hD hS (lv_sub hl [2] rfl)
  · have h := ite_f (fun q => c9 ((oI_le (a := (2 ^ (M 243 0).toNat)) (b := x4) ok2 ok1).mpr q)) h
    refine lv_aload_n hx hb d_3_6_16 rfl (lv_at hl 0 rfl) ?_
    refine lv_iload hx hb d_3_6_17 (lv_at hl 3 rfl) ?_
    refine lv_iload_n hx hb d_3_6_19 rfl (lv_at hl 1 rfl) ?_
    obtain ⟨r3, g3, h⟩ := bd_e h
    refine kV (As := [.int (oI x4), .int (oI x1)]) (rest := []) (s_Cl_isSwung l z ad E M x4 x1 r3 hL g3) hx hb hml hown hts w_762 w_759 w_761 w_s_ce08ed w_11 md_99b449 ⟨Nat.le_of_ble_eq_true rfl, Nat.le_of_ble_eq_true rfl⟩ hG hZ hP hD hS hA 243 (wv_o (ci := 1) (yi_243 hL) (yt_243 hL)) rfl rfl rfl hl.1 rfl (Nat.le_of_ble_eq_true rfl) d_3_6_20 ⟨Nat.le_of_ble_eq_true rfl, Nat.le_of_ble_eq_true rfl⟩ (fun _ H locs hP hD hS => ?_)
    have hP : va_P z.1 classes (wv z ad E M) H := hP
    have hD : va_D A (wv z ad E M) := hD
    refine W.eq (g2 := F0 m 23 ls [.int (oI r3)]) rfl ?_
    obtain ⟨ok4, h⟩ := ck_e h
    refine lv_if_eq (tgt := 56) hx hb d_3_6_23 (by decide) (fun c9 => ?_) (fun c9 => ?_)
    · have h := ite_t ((oI_eq0 ok4).mp c9) h
      refine lv_iinc (v := oI (x4 + 1)) (lv' := [(4, .int (oI (x4 + 1))), (0, .ref (ad 243)), (1, .int (oI x1)), (2, .long (oJ x2))]) hx hb d_3_6_56 hl (k := 3) rfl (oI_add x4 1) (by decide) rfl (fun ls hl => ?_)
      refine lv_goto (tgt := 5) hx hb d_3_6_59 (by decide) ?_
      obtain ⟨rfl, rfl, rfl⟩ := in3 h
      exact k0 rfl H locs ls hP hD hS (lv_sub hl [1, 2, 3, 0] rfl)
    · have h := ite_f (fun q => c9 ((oI_eq0 ok4).mpr q)) h
      refine lv_iload hx hb d_3_6_26 (lv_at hl 3 rfl) ?_
      obtain ⟨r5, g5, h⟩ := bd_e h
      refine kS (As := [.int (oI x4)]) (rest := []) (s_In_bitCount l z ad E M x4 r5 hL g5) hx hb hml hown hts w_657 w_764 w_656 w_30 md_eafe8c ⟨Nat.le_of_ble_eq_true rfl, Nat.le_of_ble_eq_true rfl⟩ hG hZ hP hD hS hA rfl hl.1 rfl (Nat.le_of_ble_eq_true rfl) d_3_6_28 ⟨Nat.le_of_ble_eq_true rfl, Nat.le_of_ble_eq_true rfl⟩ (fun _ H locs hP hD hS => ?_)
      have hP : va_P z.1 classes (wv z ad E M) H := hP
      have hD : va_D A (wv z ad E M) := hD
      refine W.eq (g2 := F0 m 31 ls [.int (oI r5)]) rfl ?_
      refine lv_istore (lv' := [(5, .int (oI r5)), (0, .ref (ad 243)), (1, .int (oI x1)), (2, .long (oJ x2)), (4, .int (oI x4))]) hx hb d_3_6_31 hl (by decide) rfl (fun ls hl => ?_)
      refine lv_lload_n hx hb d_3_6_33 rfl (lv_at hl 3 rfl) ?_
      obtain ⟨fa, hf1, hf2, hf3, hf4⟩ := hZ.1
      refine va_getsN hx hb hf1 hS hown (va_Nw.use rfl (hG.2.1 _ n_765 rfl)) (fun _ h9 => h9) d_3_6_34 ?_
      refine lv_iload hx hb d_3_6_37 (lv_at hl 0 rfl) ?_
      obtain ⟨ok7, h⟩ := ck_e h
      refine m_fl hx hb hG hS hf2 hf3 hf4 ok7 d_3_6_39 ?_
      obtain ⟨fa, hf1, hf2, hf3, hf4⟩ := hZ.1
      refine va_getsN hx hb hf1 hS hown (va_Nw.use rfl (hG.2.1 _ n_765 rfl)) (fun _ h9 => h9) d_3_6_40 ?_
      refine lv_aload_n hx hb d_3_6_43 rfl (lv_at hl 1 rfl) ?_
      refine m_gi (C := "Ballothall$Council") (T := TX1) (N := 4) (ci := 1) (k := 0) hx hb hts iX1 hown hG hP (yi_243 hL) (yt_243 hL) rfl (by decide) w_382 (fun _ h9 => h9) rfl rfl d_3_6_44 ?_
      refine lv_iconst (v := oI 1) hx hb d_3_6_47 (by decide +kernel) ?_
      refine lv_isub hx hb d_3_6_48 ?_
      refine nrm (oI_sub _ _) ?_
      refine lv_iload hx hb d_3_6_49 (lv_at hl 0 rfl) ?_
      refine lv_isub hx hb d_3_6_51 ?_
      refine nrm (oI_sub _ _) ?_
      obtain ⟨ok9, h⟩ := ck_e h
      refine m_fl hx hb hG hS hf2 hf3 hf4 ok9 d_3_6_52 ?_
      refine lv_lmul hx hb d_3_6_53 ?_
      refine nrmL (oJ_mul _ _) ?_
      refine lv_ladd hx hb d_3_6_54 ?_
      refine nrmL (oJ_add _ _) ?_
      obtain ⟨v10, e10, h⟩ := nb_e h
      refine nrmL (congrArg oJ e10.symm) ?_
      refine lv_lstore_n (lv' := [(2, .long (oJ v10)), (5, .int (oI r5)), (0, .ref (ad 243)), (1, .int (oI x1)), (4, .int (oI x4))]) hx hb d_3_6_55 rfl hl (by decide) rfl (fun ls hl => ?_)
      refine lv_iinc (v := oI (x4 + 1)) (lv' := [(4, .int (oI (x4 + 1))), (2, .long (oJ v10)), (5, .int (oI r5)), (0, .ref (ad 243)), (1, .int (oI x1))]) hx hb d_3_6_56 hl (k := 4) rfl (oI_add x4 1) (by decide) rfl (fun ls hl => ?_)
      refine lv_goto (tgt := 5) hx hb d_3_6_59 (by decide) ?_
      obtain ⟨rfl, rfl, rfl⟩ := in3 h
      exact k0 rfl H locs ls hP hD hS (lv_sub hl [3, 4, 1, 0] rfl)
set_option maxRecDepth 100000 in
set_option maxHeartbeats 4000000 in
theorem s_Cl_ordersTurnedBy_5 (l : Launch) (z : Zz) (ad : Nat → Nat) (E : Ev) (x1 : Int) {Q : State → Prop} {p : Program} {e : Env} {s : State} {m : MethodId} {below : List Frame} {meth : Method} {c : Code} {A : Nat → Prop} {args : Array Value} (hx : p.tables.exec = Jvm.exec) (hb : c.code = prog_3_method_6_code) (hml : c.maxLocals = 6) (hts : ∀ w ∈ WG, w.before args s = true) (hown : s.vm.findClass "Ballothall$Council" = some m.cls) (hlocks : meth.locks = false) (hA : ∀ q, s.heap.size ≤ q → A q) (hG : KG z s) (hZ : FZ z A s) (hL : Lay E) : ∀ (fu : Nat) (M : Mm) (x2 : Int) (x4 : Int) (t : Nat) (w2 : Int) (w4 : Int), l_Cl_ordersTurnedBy_5 E x1 fu M x2 x4 = some (t, w2, w4) → (t = 1 → ∀ (H : Heap) (locs : List Loc) (ls : Array Slot), va_P z.1 classes (wv z ad E M) H → va_D A (wv z ad E M) → va_S A s.heap H locs → lv_has ls 6 [(2, .long (oJ w2))] → W p l e (rmK 2 63 0 0) s m args below meth c H locs 0 0 Q (F0 m 62 ls [])) → ∀ (H : Heap) (locs : List Loc) (ls : Array Slot), va_P z.1 classes (wv z ad E M) H → va_D A (wv z ad E M) → va_S A s.heap H locs → lv_has ls 6 [(0, .ref (ad 243)), (1, .int (oI x1)), (2, .long (oJ x2)), (4, .int (oI x4))] → W p l e (rmK 2 63 0 0) s m args below meth c H locs 0 0 Q (F0 m 5 ls []) := by
  intro fu
  induction fu with
  | zero =>
    intro M x2 x4 t w2 w4 h
    have h : (none : Option (Nat × Int × Int)) = some _ := h
    cases h
  | succ fu ih =>
    intro M x2 x4 t w2 w4 h k1 H locs ls hP hD hS hl
    obtain ⟨⟨t0, w20, w40⟩, g0, h⟩ := bd_e h
    refine b_Cl_ordersTurnedBy_5b l z ad E M x1 x2 x4 t0 w20 w40 hx hb hml hts hown hlocks hA hG hZ hL g0 (fun e0 => ?_) (fun e0 => ?_) H locs ls hP hD hS hl
    · subst e0
      have h := ite_t rfl h
      exact ih M w20 w40 t w2 w4 h k1
    · subst e0
      have h := ite_f (by decide) h
      obtain ⟨rfl, rfl, rfl⟩ := in3 h
      exact k1 rfl
set_option maxRecDepth 100000 in
set_option maxHeartbeats 4000000 in
theorem s_Cl_ordersTurnedBy (l : Launch) (z : Zz) (ad : Nat → Nat) (E : Ev) (M : Mm) (x1 : Int) (r : Int)  (hL : Lay E) (h : f_Cl_ordersTurnedBy E M x1 = some r) : CT l z ⟨"Ballothall$Council", "ordersTurnedBy", "(I)J"⟩ prog_3_method_6_code 6 (some .long) [.ref (ad 243), .int (oI x1)] (wv z ad E M) 2 63 0 0 (fun _ => some (.long (oJ r))) (fun _ => (wv z ad E M)) := by
  refine CT.of (own := "Ballothall$Council") (by decide +kernel) (Nat.le_of_ble_eq_true rfl) rfl (fun p e s m below meth c A ls hx hb hml hr hts hown hlocks hin hA hG hZ hP hD hS hl => ?_)
  have hl : lv_has ls 6 [(0, .ref (ad 243)), (1, .int (oI x1))] := hl
  have key : ∀ (H : Heap) (locs : List Loc) (args : Array Value), (∀ w ∈ WG, w.before args s = true) → va_P z.1 classes (wv z ad E M) H → va_S A s.heap H locs → W p l e (rmK 2 63 0 0) s m args below meth c H locs 0 0 (MQ below (QK z A (fun _ => some (.long (oJ r))) (fun _ => (wv z ad E M))) args s 0 0 A) (F0 m 0 ls []) := by
    intro H locs args hts hP hS
    unfold f_Cl_ordersTurnedBy at h
    refine lv_lconst (v := oJ 0) hx hb d_3_6_0 (by decide +kernel) ?_
    refine lv_lstore_n (lv' := [(2, .long (oJ 0)), (0, .ref (ad 243)), (1, .int (oI x1))]) hx hb d_3_6_1 rfl hl (by decide) rfl (fun ls hl => ?_)
    refine lv_iconst (v := oI 0) hx hb d_3_6_2 (by decide +kernel) ?_
    refine lv_istore (lv' := [(4, .int (oI 0)), (2, .long (oJ 0)), (0, .ref (ad 243)), (1, .int (oI x1))]) hx hb d_3_6_3 hl (by decide) rfl (fun ls hl => ?_)
    obtain ⟨⟨t11, v11_2, v11_4⟩, g11, h⟩ := bd_e h
    obtain ⟨ok11, h⟩ := ck_e h
    refine s_Cl_ordersTurnedBy_5 l z ad E x1 hx hb hml hts hown hlocks hA hG hZ hL FU M 0 0 t11 v11_2 v11_4 g11 (fun e11 H locs ls hP hD hS hl => ?_) H locs ls hP hD hS (lv_sub hl [2, 3, 1, 0] rfl)
    refine lv_lload_n hx hb d_3_6_62 rfl (lv_at hl 0 rfl) ?_
    obtain rfl := in1 h
    exact W.lret hx hb hr (fun t ht hW => qkA hP hD hS (fun k => k) rfl rfl ht) hS.2.2 d_3_6_63
  exact key _ _ _ hts hP hS
set_option maxRecDepth 100000 in
set_option maxHeartbeats 4000000 in
theorem b_Cl_isOrderMissed_8b (l : Launch) (z : Zz) (ad : Nat → Nat) (E : Ev) (M : Mm) (x1 : Int) (x3 : Int) (t : Nat) (w1 : Int) (w3 : Int) (N : Mm) {Q : State → Prop} {p : Program} {e : Env} {s : State} {m : MethodId} {below : List Frame} {meth : Method} {c : Code} {A : Nat → Prop} {args : Array Value} (hx : p.tables.exec = Jvm.exec) (hb : c.code = prog_3_method_7_code) (hml : c.maxLocals = 4) (hts : ∀ w ∈ WG, w.before args s = true) (hown : s.vm.findClass "Ballothall$Council" = some m.cls) (hlocks : meth.locks = false) (hA : ∀ q, s.heap.size ≤ q → A q) (hG : KG z s) (hZ : FZ z A s) (hL : Lay E) (h : Cl_isOrderMissed_8b E M x1 x3 = some (t, w1, w3, N)) (k0 : t = 0 → ∀ (H : Heap) (locs : List Loc) (ls : Array Slot), va_P z.1 classes (wv z ad E N) H → va_D A (wv z ad E N) → va_S A s.heap H locs → lv_has ls 4 [(0, .ref (ad 243)), (1, .long (oJ w1)), (3, .int (oI w3))] → W p l e (rmK 3 88 0 0) s m args below meth c H locs 0 0 Q (F0 m 8 ls [])) (k1 : t = 1 → ∀ (H : Heap) (locs : List Loc) (ls : Array Slot), va_P z.1 classes (wv z ad E N) H → va_D A (wv z ad E N) → va_S A s.heap H locs → lv_has ls 4 [(0, .ref (ad 243)), (1, .long (oJ w1))] → W p l e (rmK 3 88 0 0) s m args below meth c H locs 0 0 Q (F0 m 30 ls [])) : ∀ (H : Heap) (locs : List Loc) (ls : Array Slot), va_P z.1 classes (wv z ad E M) H → va_D A (wv z ad E M) → va_S A s.heap H locs → lv_has ls 4 [(0, .ref (ad 243)), (1, .long (oJ x1)), (3, .int (oI x3))] → W p l e (rmK 3 88 0 0) s m args below meth c H locs 0 0 Q (F0 m 8 ls []) := by
  intro H locs ls hP hD hS hl
  unfold Cl_isOrderMissed_8b at h
  refine lv_iload_n hx hb d_3_7_8 rfl (lv_at hl 2 rfl) ?_
  refine lv_aload_n hx hb d_3_7_9 rfl (lv_at hl 0 rfl) ?_
  refine m_gi (C := "Ballothall$Council") (T := TX1) (N := 4) (ci := 1) (k := 0) hx hb hts iX1 hown hG hP (yi_243 hL) (yt_243 hL) rfl (by decide) w_382 (fun _ h9 => h9) rfl rfl d_3_7_10 ?_
  obtain ⟨ok1, h⟩ := ck_e h
  obtain ⟨ok2, h⟩ := ck_e h
  refine lv_icmp_ge (tgt := 30) hx hb d_3_7_13 (by decide) (fun c9 => ?_) (fun c9 => ?_)
  · have h := ite_t ((oI_le (a := (M 243 0)) (b := x3) ok2 ok1).mp c9) h
    obtain ⟨rfl, rfl, rfl, rfl⟩ := in4 h
    exact k1 rfl H locs ls hP hD hS (lv_sub hl [0, 1] rfl)
  · have h := ite_f (fun q => c9 ((oI_le (a := (M 243 0)) (b := x3) ok2 ok1).mpr q)) h
    refine lv_lload_n hx hb d_3_7_16 rfl (lv_at hl 1 rfl) ?_
    refine lv_aload_n hx hb d_3_7_17 rfl (lv_at hl 0 rfl) ?_
    refine lv_iload_n hx hb d_3_7_18 rfl (lv_at hl 2 rfl) ?_
    obtain ⟨r3, g3, h⟩ := bd_e h
    refine kV (As := [.int (oI x3)]) (rest := [.long (oJ x1)]) (s_Cl_ordersTurnedBy l z ad E M x3 r3 hL g3) hx hb hml hown hts w_758 w_755 w_757 w_s_b6ce20 w_11 md_27e5a0 ⟨Nat.le_of_ble_eq_true rfl, Nat.le_of_ble_eq_true rfl⟩ hG hZ hP hD hS hA 243 (wv_o (ci := 1) (yi_243 hL) (yt_243 hL)) rfl rfl rfl hl.1 rfl (Nat.le_of_ble_eq_true rfl) d_3_7_19 ⟨Nat.le_of_ble_eq_true rfl, Nat.le_of_ble_eq_true rfl⟩ (fun _ H locs hP hD hS => ?_)
    have hP : va_P z.1 classes (wv z ad E M) H := hP
    have hD : va_D A (wv z ad E M) := hD
    refine W.eq (g2 := F0 m 22 ls [.long (oJ r3), .long (oJ x1)]) rfl ?_
    refine lv_ladd hx hb d_3_7_22 ?_
    refine nrmL (oJ_add _ _) ?_
    refine lv_lstore_n (lv' := [(1, .long (oJ (x1 + r3))), (0, .ref (ad 243)), (3, .int (oI x3))]) hx hb d_3_7_23 rfl hl (by decide) rfl (fun ls hl => ?_)
    refine lv_iinc (v := oI (x3 + 1)) (lv' := [(3, .int (oI (x3 + 1))), (1, .long (oJ (x1 + r3))), (0, .ref (ad 243))]) hx hb d_3_7_24 hl (k := 2) rfl (oI_add x3 1) (by decide) rfl (fun ls hl => ?_)
    refine lv_goto (tgt := 8) hx hb d_3_7_27 (by decide) ?_
    obtain ⟨rfl, rfl, rfl, rfl⟩ := in4 h
    exact k0 rfl H locs ls hP hD hS (lv_sub hl [2, 1, 0] rfl)
set_option maxRecDepth 100000 in
set_option maxHeartbeats 4000000 in
theorem s_Cl_isOrderMissed_8 (l : Launch) (z : Zz) (ad : Nat → Nat) (E : Ev) {Q : State → Prop} {p : Program} {e : Env} {s : State} {m : MethodId} {below : List Frame} {meth : Method} {c : Code} {A : Nat → Prop} {args : Array Value} (hx : p.tables.exec = Jvm.exec) (hb : c.code = prog_3_method_7_code) (hml : c.maxLocals = 4) (hts : ∀ w ∈ WG, w.before args s = true) (hown : s.vm.findClass "Ballothall$Council" = some m.cls) (hlocks : meth.locks = false) (hA : ∀ q, s.heap.size ≤ q → A q) (hG : KG z s) (hZ : FZ z A s) (hL : Lay E) : ∀ (fu : Nat) (M : Mm) (x1 : Int) (x3 : Int) (t : Nat) (w1 : Int) (w3 : Int) (N : Mm), l_Cl_isOrderMissed_8 E fu M x1 x3 = some (t, w1, w3, N) → (t = 1 → ∀ (H : Heap) (locs : List Loc) (ls : Array Slot), va_P z.1 classes (wv z ad E N) H → va_D A (wv z ad E N) → va_S A s.heap H locs → lv_has ls 4 [(0, .ref (ad 243)), (1, .long (oJ w1))] → W p l e (rmK 3 88 0 0) s m args below meth c H locs 0 0 Q (F0 m 30 ls [])) → ∀ (H : Heap) (locs : List Loc) (ls : Array Slot), va_P z.1 classes (wv z ad E M) H → va_D A (wv z ad E M) → va_S A s.heap H locs → lv_has ls 4 [(0, .ref (ad 243)), (1, .long (oJ x1)), (3, .int (oI x3))] → W p l e (rmK 3 88 0 0) s m args below meth c H locs 0 0 Q (F0 m 8 ls []) := by
  intro fu
  induction fu with
  | zero =>
    intro M x1 x3 t w1 w3 N h
    have h : (none : Option (Nat × Int × Int × Mm)) = some _ := h
    cases h
  | succ fu ih =>
    intro M x1 x3 t w1 w3 N h k1 H locs ls hP hD hS hl
    obtain ⟨⟨t0, w10, w30, N9⟩, g0, h⟩ := bd_e h
    refine b_Cl_isOrderMissed_8b l z ad E M x1 x3 t0 w10 w30 N9 hx hb hml hts hown hlocks hA hG hZ hL g0 (fun e0 => ?_) (fun e0 => ?_) H locs ls hP hD hS hl
    · subst e0
      have h := ite_t rfl h
      exact ih N9 w10 w30 t w1 w3 N h k1
    · subst e0
      have h := ite_f (by decide) h
      obtain ⟨rfl, rfl, rfl, rfl⟩ := in4 h
      exact k1 rfl
set_option maxRecDepth 100000 in
set_option maxHeartbeats 4000000 in
theorem s_Cl_isOrderMissed (l : Launch) (z : Zz) (ad : Nat → Nat) (E : Ev) (M : Mm) (r : Int) (N : Mm) (hL : Lay E) (h : f_Cl_isOrderMissed E M = some (r, N)) : CT l z ⟨"Ballothall$Council", "isOrderMissed", "()Z"⟩ prog_3_method_7_code 4 (some .boolean) [.ref (ad 243)] (wv z ad E M) 3 88 0 0 (fun _ => some (.int (oI r))) (fun _ => (wv z ad E N)) := by
  refine CT.of (own := "Ballothall$Council") (by decide +kernel) (Nat.le_of_ble_eq_true rfl) rfl (fun p e s m below meth c A ls hx hb hml hr hts hown hlocks hin hA hG hZ hP hD hS hl => ?_)
  have hl : lv_has ls 4 [(0, .ref (ad 243))] := hl
  have key : ∀ (H : Heap) (locs : List Loc) (args : Array Value), (∀ w ∈ WG, w.before args s = true) → va_P z.1 classes (wv z ad E M) H → va_S A s.heap H locs → W p l e (rmK 3 88 0 0) s m args below meth c H locs 0 0 (MQ below (QK z A (fun _ => some (.int (oI r))) (fun _ => (wv z ad E N))) args s 0 0 A) (F0 m 0 ls []) := by
    intro H locs args hts hP hS
    unfold f_Cl_isOrderMissed at h
    refine lv_aload_n hx hb d_3_7_0 rfl (lv_at hl 0 rfl) ?_
    obtain ⟨M0, g0, h⟩ := bd_e h
    refine kV (As := []) (rest := []) (s_Cl_findSums l z ad E M M0 hL g0) hx hb hml hown hts w_754 w_751 w_753 w_s_13b3b8 w_11 md_bc486d ⟨Nat.le_of_ble_eq_true rfl, Nat.le_of_ble_eq_true rfl⟩ hG hZ hP hD hS hA 243 (wv_o (ci := 1) (yi_243 hL) (yt_243 hL)) rfl rfl rfl hl.1 rfl (Nat.le_of_ble_eq_true rfl) d_3_7_1 ⟨Nat.le_of_ble_eq_true rfl, Nat.le_of_ble_eq_true rfl⟩ (fun _ H locs hP hD hS => ?_)
    have hP : va_P z.1 classes (wv z ad E M0) H := hP
    have hD : va_D A (wv z ad E M0) := hD
    refine W.eq (g2 := F0 m 4 ls []) rfl ?_
    refine lv_lconst (v := oJ 0) hx hb d_3_7_4 (by decide +kernel) ?_
    refine lv_lstore_n (lv' := [(1, .long (oJ 0)), (0, .ref (ad 243))]) hx hb d_3_7_5 rfl hl (by decide) rfl (fun ls hl => ?_)
    refine lv_iconst (v := oI 0) hx hb d_3_7_6 (by decide +kernel) ?_
    refine lv_istore_n (lv' := [(3, .int (oI 0)), (1, .long (oJ 0)), (0, .ref (ad 243))]) hx hb d_3_7_7 rfl hl (by decide) rfl (fun ls hl => ?_)
    obtain ⟨⟨t4, v4_1, v4_3, M4⟩, g4, h⟩ := bd_e h
    obtain ⟨ok4, h⟩ := ck_e h
    refine s_Cl_isOrderMissed_8 l z ad E hx hb hml hts hown hlocks hA hG hZ hL FU M0 0 0 t4 v4_1 v4_3 M4 g4 (fun e4 H locs ls hP hD hS hl => ?_) H locs ls hP hD hS (lv_sub hl [2, 1, 0] rfl)
    refine lv_lload_n hx hb d_3_7_30 rfl (lv_at hl 1 rfl) ?_
    refine lv_lconst (v := oJ 0) hx hb d_3_7_31 (by decide +kernel) ?_
    obtain ⟨ok5, h⟩ := ck_e h
    refine W.lcmp hx hb d_3_7_32 ?_
    refine nrm (cmp_val (a := v4_1) (b := (0 : Int)) ok5 (by decide)) ?_
    refine lv_if_eq (tgt := 53) hx hb d_3_7_33 (by decide) (fun c9 => ?_) (fun c9 => ?_)
    · have h := ite_t ((cmp_eq v4_1 (0 : Int)).mp c9) h
      refine lv_iconst (v := oI 0) hx hb d_3_7_53 (by decide +kernel) ?_
      obtain ⟨rfl, rfl⟩ := in2 h
      exact W.zret hx hb hr rfl (fun t ht hW => qkA hP hD hS (fun k => k) rfl rfl ht) hS.2.2 d_3_7_54
    · have h := ite_f (fun q => c9 ((cmp_eq v4_1 (0 : Int)).mpr q)) h
      refine lv_lload_n hx hb d_3_7_36 rfl (lv_at hl 1 rfl) ?_
      obtain ⟨fa, hf1, hf2, hf3, hf4⟩ := hZ.1
      refine va_getsN hx hb hf1 hS hown (va_Nw.use rfl (hG.2.1 _ n_765 rfl)) (fun _ h9 => h9) d_3_7_37 ?_
      refine lv_aload_n hx hb d_3_7_40 rfl (lv_at hl 0 rfl) ?_
      refine m_gi (C := "Ballothall$Council") (T := TX1) (N := 4) (ci := 1) (k := 0) hx hb hts iX1 hown hG hP (yi_243 hL) (yt_243 hL) rfl (by decide) w_382 (fun _ h9 => h9) rfl rfl d_3_7_41 ?_
      obtain ⟨ok7, h⟩ := ck_e h
      refine m_fl hx hb hG hS hf2 hf3 hf4 ok7 d_3_7_44 ?_
      obtain ⟨ok8, h⟩ := ck_e h
      refine W.lcmp hx hb d_3_7_45 ?_
      refine nrm (cmp_val (a := v4_1) (b := (facF (M4 243 0).toNat)) ok5 ok8) ?_
      refine lv_if_eq (tgt := 53) hx hb d_3_7_46 (by decide) (fun c9 => ?_) (fun c9 => ?_)
      · have h := ite_t ((cmp_eq v4_1 (facF (M4 243 0).toNat)).mp c9) h
        refine lv_iconst (v := oI 0) hx hb d_3_7_53 (by decide +kernel) ?_
        obtain ⟨rfl, rfl⟩ := in2 h
        exact W.zret hx hb hr rfl (fun t ht hW => qkA hP hD hS (fun k => k) rfl rfl ht) hS.2.2 d_3_7_54
      · have h := ite_f (fun q => c9 ((cmp_eq v4_1 (facF (M4 243 0).toNat)).mpr q)) h
        refine lv_iconst (v := oI 1) hx hb d_3_7_49 (by decide +kernel) ?_
        refine lv_goto (tgt := 54) hx hb d_3_7_50 (by decide) ?_
        obtain ⟨rfl, rfl⟩ := in2 h
        exact W.zret hx hb hr rfl (fun t ht hW => qkA hP hD hS (fun k => k) rfl rfl ht) hS.2.2 d_3_7_54
  exact key _ _ _ hts hP hS
