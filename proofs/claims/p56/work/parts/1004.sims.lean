set_option maxRecDepth 100000 in
set_option maxHeartbeats 4000000 in
theorem s_Wa_greatestOf_9 (l : Launch) (z : Zz) (ad : Nat → Nat) (E : Ev) (x1 : Int32) {Q : State → Prop} {p : Program} {e : Env} {s : State} {m : MethodId} {below : List Frame} {meth : Method} {c : Code} {A : Nat → Prop} {args : Array Value} (hx : p.tables.exec = Jvm.exec) (hb : c.code = prog_12_method_4_code) (hml : c.maxLocals = 6) (hts : ∀ w ∈ WG, w.before args s = true) (hown : s.vm.findClass "Ballothall$Wards" = some m.cls) (hlocks : meth.locks = false) (hA : ∀ q, s.heap.size ≤ q → A q) (hG : KG z s) (hZ : FZ z A s) (hL : Lay E) : ∀ (fu : Nat) (M : Mm) (x3 : Int32) (x4 : Int32) (x5 : Int32) (t : Nat) (w3 : Int32) (w4 : Int32) (w5 : Int32) (N : Mm), l_Wa_greatestOf_9 E x1 fu M x3 x4 x5 = some (t, w3, w4, w5, N) → (t = 1 → ∀ (H : Heap) (locs : List Loc) (ls : Array Slot), va_P z.1 classes (wv z ad E N) H → va_D A (wv z ad E N) → va_S A s.heap H locs → lv_has ls 6 [(3, .int w3)] → W p l e (rmK 1 42 0 0) s m args below meth c H locs 0 0 Q (F0 m 55 ls [])) → ∀ (H : Heap) (locs : List Loc) (ls : Array Slot), va_P z.1 classes (wv z ad E M) H → va_D A (wv z ad E M) → va_S A s.heap H locs → lv_has ls 6 [(0, .ref (ad 219)), (1, .int x1), (3, .int x3), (4, .int x4), (5, .int x5)] → W p l e (rmK 1 42 0 0) s m args below meth c H locs 0 0 Q (F0 m 9 ls []) := by
  intro fu
  induction fu with
  | zero =>
    intro M x3 x4 x5 t w3 w4 w5 N h
    have h : (none : Option (Nat × Int32 × Int32 × Int32 × Mm)) = some _ := h
    cases h
  | succ fu ih =>
    intro M x3 x4 x5 t w3 w4 w5 N h k1 H locs ls hP hD hS hl
    obtain ⟨⟨t0, w30, w40, w50, N0⟩, g0, h⟩ := bd_e h
    refine b_Wa_greatestOf_9b l z ad E M x1 x3 x4 x5 t0 w30 w40 w50 N0 hx hb hml hts hown hlocks hA hG hZ hL g0 (fun e0 => ?_) (fun e0 => ?_) H locs ls hP hD hS hl
    · subst e0
      have h := ite_t rfl h
      exact ih N0 w30 w40 w50 t w3 w4 w5 N h k1
    · subst e0
      have h := ite_f (by decide) h
      obtain ⟨rfl, rfl, rfl, rfl, rfl⟩ := in5 h
      exact k1 rfl
set_option maxRecDepth 100000 in
set_option maxHeartbeats 4000000 in
theorem s_Wa_greatestOf (l : Launch) (z : Zz) (ad : Nat → Nat) (E : Ev) (M : Mm) (x1 : Int32) (x2 : Int32) (r : Int32) (N : Mm) (hL : Lay E) (h : f_Wa_greatestOf E M x1 x2 = some (r, N)) : CT l z ⟨"Ballothall$Wards", "greatestOf", "(II)I"⟩ prog_12_method_4_code 6 (some .int) [.ref (ad 219), .int x1, .int x2] (wv z ad E M) 1 42 0 0 (fun _ => some (.int r)) (fun _ => wv z ad E N) := by
  refine CT.of (own := "Ballothall$Wards") (by decide +kernel) (Nat.le_of_ble_eq_true rfl) rfl (fun p e s m below meth c A ls hx hb hml hr hts hown hlocks hin hA hG hZ hP hD hS hl => ?_)
  have hl : lv_has ls 6 [(0, .ref (ad 219)), (1, .int x1), (2, .int x2)] := hl
  have key : ∀ (H : Heap) (locs : List Loc) (args : Array Value), (∀ w ∈ WG, w.before args s = true) → va_P z.1 classes (wv z ad E M) H → va_S A s.heap H locs → W p l e (rmK 1 42 0 0) s m args below meth c H locs 0 0 (MQ below (QK z A (fun _ => some (.int r)) (fun _ => wv z ad E N)) args s 0 0 A) (F0 m 0 ls []) := by
    intro H locs args hts hP hS
    unfold f_Wa_greatestOf at h
    refine lv_ldc hx hb hown (hts _ w_1626) d_12_4_0 ?_
    refine lv_istore_n (lv' := [(3, .int 1600001), (0, .ref (ad 219)), (1, .int x1), (2, .int x2)]) hx hb d_12_4_2 rfl hl (by decide) rfl (fun ls hl => ?_)
    refine lv_iconst (v := 0) hx hb d_12_4_3 (by decide +kernel) ?_
    refine lv_istore (lv' := [(4, .int 0), (3, .int 1600001), (0, .ref (ad 219)), (1, .int x1), (2, .int x2)]) hx hb d_12_4_4 hl (by decide) rfl (fun ls hl => ?_)
    refine lv_iload_n hx hb d_12_4_6 rfl (lv_at hl 4 rfl) ?_
    refine lv_istore (lv' := [(5, .int x2), (4, .int 0), (3, .int 1600001), (0, .ref (ad 219)), (1, .int x1), (2, .int x2)]) hx hb d_12_4_7 hl (by decide) rfl (fun ls hl => ?_)
    obtain ⟨⟨t3, v3_3, v3_4, v3_5, M3⟩, g3, h⟩ := bd_e h
    obtain ⟨ok3, h⟩ := ck_e h
    refine s_Wa_greatestOf_9 l z ad E x1 hx hb hml hts hown hlocks hA hG hZ hL FU M 1600001 0 x2 t3 v3_3 v3_4 v3_5 M3 g3 (fun e3 H locs ls hP hD hS hl => ?_) H locs ls hP hD hS (lv_sub hl [3, 4, 2, 1, 0] rfl)
    refine lv_iload_n hx hb d_12_4_55 rfl (lv_at hl 0 rfl) ?_
    obtain ⟨rfl, rfl⟩ := in2 h
    exact W.iret hx hb hr (fun t ht hW => qkA hP hD hS (fun k => k) rfl rfl ht) hS.2.2 d_12_4_56
  exact key _ _ _ hts hP hS
set_option maxRecDepth 100000 in
set_option maxHeartbeats 4000000 in
theorem b_Wa_firstEnd_3b (l : Launch) (z : Zz) (ad : Nat → Nat) (E : Ev) (M : Mm) (x2 : Int32) (x3 : Int32) (x4 : Int32) (t : Nat) (w4 : Int32) (N : Mm) {Q : State → Prop} {p : Program} {e : Env} {s : State} {m : MethodId} {below : List Frame} {meth : Method} {c : Code} {A : Nat → Prop} {args : Array Value} (hx : p.tables.exec = Jvm.exec) (hb : c.code = prog_12_method_6_code) (hml : c.maxLocals = 5) (hts : ∀ w ∈ WG, w.before args s = true) (hown : s.vm.findClass "Ballothall$Wards" = some m.cls) (hlocks : meth.locks = false) (hA : ∀ q, s.heap.size ≤ q → A q) (hG : KG z s) (hZ : FZ z A s) (hL : Lay E) (h : Wa_firstEnd_3b E M x2 x3 x4 = some (t, w4, N)) (k0 : t = 0 → ∀ (H : Heap) (locs : List Loc) (ls : Array Slot), va_P z.1 classes (wv z ad E N) H → va_D A (wv z ad E N) → va_S A s.heap H locs → lv_has ls 5 [(0, .ref (ad 219)), (2, .int x2), (3, .int x3), (4, .int w4)] → W p l e (rmK 1 42 0 0) s m args below meth c H locs 0 0 Q (F0 m 3 ls [])) (k1 : t = 1 → ∀ (H : Heap) (locs : List Loc) (ls : Array Slot), va_P z.1 classes (wv z ad E N) H → va_D A (wv z ad E N) → va_S A s.heap H locs → lv_has ls 5 [(4, .int w4)] → W p l e (rmK 1 42 0 0) s m args below meth c H locs 0 0 Q (F0 m 31 ls [])) : ∀ (H : Heap) (locs : List Loc) (ls : Array Slot), va_P z.1 classes (wv z ad E M) H → va_D A (wv z ad E M) → va_S A s.heap H locs → lv_has ls 5 [(0, .ref (ad 219)), (2, .int x2), (3, .int x3), (4, .int x4)] → W p l e (rmK 1 42 0 0) s m args below meth c H locs 0 0 Q (F0 m 3 ls []) := by
  intro H locs ls hP hD hS hl
  unfold Wa_firstEnd_3b at h
  refine lv_iload hx hb d_12_6_3 (lv_at hl 3 rfl) ?_
  refine lv_aload_n hx hb d_12_6_5 rfl (lv_at hl 0 rfl) ?_
  refine m_gi (C := "Ballothall$Wards") (T := TX10) (N := 5) (ci := 10) (k := 0) hx hb hts iX10 hown hG hP (yi_219 hL) (yt_219 hL) rfl (by decide) w_358 (fun _ h9 => h9) rfl rfl d_12_6_6 ?_
  refine lv_iload_n hx hb d_12_6_9 rfl (lv_at hl 1 rfl) ?_
  refine lv_isub hx hb d_12_6_10 ?_
  refine lv_icmp_ge (tgt := 31) hx hb d_12_6_11 (by decide) (fun c9 => ?_) (fun c9 => ?_)
  · have h := ite_t c9 h
    obtain ⟨rfl, rfl, rfl⟩ := in3 h
    exact k1 rfl H locs ls hP hD hS (lv_sub hl [3] rfl)
  · have h := ite_f c9 h
    refine lv_aload_n hx hb d_12_6_14 rfl (lv_at hl 0 rfl) ?_
    refine lv_iload hx hb d_12_6_15 (lv_at hl 3 rfl) ?_
    refine lv_iload_n hx hb d_12_6_17 rfl (lv_at hl 1 rfl) ?_
    obtain ⟨⟨r0, M0⟩, g0, h⟩ := bd_e h
    refine kV (As := [.int x4, .int x2]) (rest := []) (s_Wa_greatestBehind l z ad E M x4 x2 r0 M0 hL g0) hx hb hml hown hts w_1630 w_1627 w_1629 w_s_f89072 w_10 md_2a0790 ⟨Nat.le_of_ble_eq_true rfl, Nat.le_of_ble_eq_true rfl⟩ hG hZ hP hD hS hA 219 (wv_o (ci := 10) (yi_219 hL) (yt_219 hL)) rfl rfl rfl hl.1 rfl (Nat.le_of_ble_eq_true rfl) d_12_6_18 ⟨Nat.le_of_ble_eq_true rfl, Nat.le_of_ble_eq_true rfl⟩ (fun _ H locs hP hD hS => ?_)
    have hP : va_P z.1 classes (wv z ad E M0) H := hP
    have hD : va_D A (wv z ad E M0) := hD
    refine W.eq (g2 := F0 m 21 ls [.int r0]) rfl ?_
    refine lv_iload_n hx hb d_12_6_21 rfl (lv_at hl 2 rfl) ?_
    refine lv_icmp_le (tgt := 31) hx hb d_12_6_22 (by decide) (fun c9 => ?_) (fun c9 => ?_)
    · have h := ite_t c9 h
      obtain ⟨rfl, rfl, rfl⟩ := in3 h
      exact k1 rfl H locs ls hP hD hS (lv_sub hl [3] rfl)
    · have h := ite_f c9 h
      refine lv_iinc (v := (x4 + 1)) (lv' := [(4, .int (x4 + 1)), (0, .ref (ad 219)), (2, .int x2), (3, .int x3)]) hx hb d_12_6_25 hl (k := 3) rfl (congrArg (fun q => x4 + q) (show Int32.ofInt 1 = 1 by decide +kernel)) (by decide) rfl (fun ls hl => ?_)
      refine lv_goto (tgt := 3) hx hb d_12_6_28 (by decide) ?_
      obtain ⟨rfl, rfl, rfl⟩ := in3 h
      exact k0 rfl H locs ls hP hD hS (lv_sub hl [1, 2, 3, 0] rfl)
set_option maxRecDepth 100000 in
set_option maxHeartbeats 4000000 in
theorem s_Wa_firstEnd_3 (l : Launch) (z : Zz) (ad : Nat → Nat) (E : Ev) (x2 : Int32) (x3 : Int32) {Q : State → Prop} {p : Program} {e : Env} {s : State} {m : MethodId} {below : List Frame} {meth : Method} {c : Code} {A : Nat → Prop} {args : Array Value} (hx : p.tables.exec = Jvm.exec) (hb : c.code = prog_12_method_6_code) (hml : c.maxLocals = 5) (hts : ∀ w ∈ WG, w.before args s = true) (hown : s.vm.findClass "Ballothall$Wards" = some m.cls) (hlocks : meth.locks = false) (hA : ∀ q, s.heap.size ≤ q → A q) (hG : KG z s) (hZ : FZ z A s) (hL : Lay E) : ∀ (fu : Nat) (M : Mm) (x4 : Int32) (t : Nat) (w4 : Int32) (N : Mm), l_Wa_firstEnd_3 E x2 x3 fu M x4 = some (t, w4, N) → (t = 1 → ∀ (H : Heap) (locs : List Loc) (ls : Array Slot), va_P z.1 classes (wv z ad E N) H → va_D A (wv z ad E N) → va_S A s.heap H locs → lv_has ls 5 [(4, .int w4)] → W p l e (rmK 1 42 0 0) s m args below meth c H locs 0 0 Q (F0 m 31 ls [])) → ∀ (H : Heap) (locs : List Loc) (ls : Array Slot), va_P z.1 classes (wv z ad E M) H → va_D A (wv z ad E M) → va_S A s.heap H locs → lv_has ls 5 [(0, .ref (ad 219)), (2, .int x2), (3, .int x3), (4, .int x4)] → W p l e (rmK 1 42 0 0) s m args below meth c H locs 0 0 Q (F0 m 3 ls []) := by
  intro fu
  induction fu with
  | zero =>
    intro M x4 t w4 N h
    have h : (none : Option (Nat × Int32 × Mm)) = some _ := h
    cases h
  | succ fu ih =>
    intro M x4 t w4 N h k1 H locs ls hP hD hS hl
    obtain ⟨⟨t0, w40, N0⟩, g0, h⟩ := bd_e h
    refine b_Wa_firstEnd_3b l z ad E M x2 x3 x4 t0 w40 N0 hx hb hml hts hown hlocks hA hG hZ hL g0 (fun e0 => ?_) (fun e0 => ?_) H locs ls hP hD hS hl
    · subst e0
      have h := ite_t rfl h
      exact ih N0 w40 t w4 N h k1
    · subst e0
      have h := ite_f (by decide) h
      obtain ⟨rfl, rfl, rfl⟩ := in3 h
      exact k1 rfl
set_option maxRecDepth 100000 in
set_option maxHeartbeats 4000000 in
theorem s_Wa_firstEnd (l : Launch) (z : Zz) (ad : Nat → Nat) (E : Ev) (M : Mm) (x1 : Int32) (x2 : Int32) (x3 : Int32) (r : Int32) (N : Mm) (hL : Lay E) (h : f_Wa_firstEnd E M x1 x2 x3 = some (r, N)) : CT l z ⟨"Ballothall$Wards", "firstEnd", "(III)I"⟩ prog_12_method_6_code 5 (some .int) [.ref (ad 219), .int x1, .int x2, .int x3] (wv z ad E M) 1 42 0 0 (fun _ => some (.int r)) (fun _ => wv z ad E N) := by
  refine CT.of (own := "Ballothall$Wards") (by decide +kernel) (Nat.le_of_ble_eq_true rfl) rfl (fun p e s m below meth c A ls hx hb hml hr hts hown hlocks hin hA hG hZ hP hD hS hl => ?_)
  have hl : lv_has ls 5 [(0, .ref (ad 219)), (1, .int x1), (2, .int x2), (3, .int x3)] := hl
  have key : ∀ (H : Heap) (locs : List Loc) (args : Array Value), (∀ w ∈ WG, w.before args s = true) → va_P z.1 classes (wv z ad E M) H → va_S A s.heap H locs → W p l e (rmK 1 42 0 0) s m args below meth c H locs 0 0 (MQ below (QK z A (fun _ => some (.int r)) (fun _ => wv z ad E N)) args s 0 0 A) (F0 m 0 ls []) := by
    intro H locs args hts hP hS
    unfold f_Wa_firstEnd at h
    refine lv_iload_n hx hb d_12_6_0 rfl (lv_at hl 1 rfl) ?_
    refine lv_istore (lv' := [(4, .int x1), (0, .ref (ad 219)), (1, .int x1), (2, .int x2), (3, .int x3)]) hx hb d_12_6_1 hl (by decide) rfl (fun ls hl => ?_)
    obtain ⟨⟨t1, v1_4, M1⟩, g1, h⟩ := bd_e h
    obtain ⟨ok1, h⟩ := ck_e h
    refine s_Wa_firstEnd_3 l z ad E x2 x3 hx hb hml hts hown hlocks hA hG hZ hL FU M x1 t1 v1_4 M1 g1 (fun e1 H locs ls hP hD hS hl => ?_) H locs ls hP hD hS (lv_sub hl [1, 3, 4, 0] rfl)
    refine lv_iload hx hb d_12_6_31 (lv_at hl 0 rfl) ?_
    obtain ⟨rfl, rfl⟩ := in2 h
    exact W.iret hx hb hr (fun t ht hW => qkA hP hD hS (fun k => k) rfl rfl ht) hS.2.2 d_12_6_33
  exact key _ _ _ hts hP hS
set_option maxRecDepth 100000 in
set_option maxHeartbeats 4000000 in
theorem b_Wa_divide_9b (l : Launch) (z : Zz) (ad : Nat → Nat) (E : Ev) (M : Mm) (x1 : Int32) (x2 : Int32) (x3 : Int32) (t : Nat) (w3 : Int32) (N : Mm) {Q : State → Prop} {p : Program} {e : Env} {s : State} {m : MethodId} {below : List Frame} {meth : Method} {c : Code} {A : Nat → Prop} {args : Array Value} (hx : p.tables.exec = Jvm.exec) (hb : c.code = prog_12_method_3_code) (hml : c.maxLocals = 5) (hts : ∀ w ∈ WG, w.before args s = true) (hown : s.vm.findClass "Ballothall$Wards" = some m.cls) (hlocks : meth.locks = false) (hA : ∀ q, s.heap.size ≤ q → A q) (hG : KG z s) (hZ : FZ z A s) (hL : Lay E) (h : Wa_divide_9b E M x1 x2 x3 = some (t, w3, N)) (k0 : t = 0 → ∀ (H : Heap) (locs : List Loc) (ls : Array Slot), va_P z.1 classes (wv z ad E N) H → va_D A (wv z ad E N) → va_S A s.heap H locs → lv_has ls 5 [(0, .ref (ad 219)), (1, .int x1), (2, .int x2), (3, .int w3)] → W p l e (rmK 2 67 0 0) s m args below meth c H locs 0 0 Q (F0 m 9 ls [])) (k1 : t = 1 → ∀ (H : Heap) (locs : List Loc) (ls : Array Slot), va_P z.1 classes (wv z ad E N) H → va_D A (wv z ad E N) → va_S A s.heap H locs → lv_has ls 5 [(0, .ref (ad 219)), (1, .int x1), (2, .int x2)] → W p l e (rmK 2 67 0 0) s m args below meth c H locs 0 0 Q (F0 m 39 ls [])) : ∀ (H : Heap) (locs : List Loc) (ls : Array Slot), va_P z.1 classes (wv z ad E M) H → va_D A (wv z ad E M) → va_S A s.heap H locs → lv_has ls 5 [(0, .ref (ad 219)), (1, .int x1), (2, .int x2), (3, .int x3)] → W p l e (rmK 2 67 0 0) s m args below meth c H locs 0 0 Q (F0 m 9 ls []) := by
  intro H locs ls hP hD hS hl
  unfold Wa_divide_9b at h
  refine lv_iload_n hx hb d_12_3_9 rfl (lv_at hl 3 rfl) ?_
  refine lv_aload_n hx hb d_12_3_10 rfl (lv_at hl 0 rfl) ?_
  refine m_gi (C := "Ballothall$Wards") (T := TX10) (N := 5) (ci := 10) (k := 0) hx hb hts iX10 hown hG hP (yi_219 hL) (yt_219 hL) rfl (by decide) w_358 (fun _ h9 => h9) rfl rfl d_12_3_11 ?_
  refine lv_iload_n hx hb d_12_3_14 rfl (lv_at hl 2 rfl) ?_
  refine lv_isub hx hb d_12_3_15 ?_
  refine lv_icmp_gt (tgt := 39) hx hb d_12_3_16 (by decide) (fun c9 => ?_) (fun c9 => ?_)
  · have h := ite_t c9 h
    obtain ⟨rfl, rfl, rfl⟩ := in3 h
    exact k1 rfl H locs ls hP hD hS (lv_sub hl [0, 1, 2] rfl)
  · have h := ite_f c9 h
    refine lv_aload_n hx hb d_12_3_19 rfl (lv_at hl 0 rfl) ?_
    refine m_gr (j := 224) (C := "Ballothall$Wards") (T := TX10) (N := 5) (ci := 10) (k := 3) hx hb hts iX10 hown hG hP (yi_219 hL) (yt_219 hL) rfl (by decide) w_362 (fun _ h9 => h9) rfl rfl (yr_219_3 hL) d_12_3_20 ?_
    refine lv_iload_n hx hb d_12_3_23 rfl (lv_at hl 2 rfl) ?_
    obtain ⟨ok0, h⟩ := ck_e h
    refine m_ar (k := (225 + x2.toNatClampNeg)) hx hb hG hP (yi_224 hL) (yt_224 hL) ok0 (ya_224 hL (inb_lt ok0)) d_12_3_24 ?_
    refine lv_iload_n hx hb d_12_3_25 rfl (lv_at hl 3 rfl) ?_
    refine lv_aload_n hx hb d_12_3_26 rfl (lv_at hl 0 rfl) ?_
    refine lv_iload_n hx hb d_12_3_27 rfl (lv_at hl 2 rfl) ?_
    refine lv_iload_n hx hb d_12_3_28 rfl (lv_at hl 3 rfl) ?_
    obtain ⟨⟨r1, M1⟩, g1, h⟩ := bd_e h
    refine kV (As := [.int x2, .int x3]) (rest := [.int x3, .ref (ad (225 + x2.toNatClampNeg))]) (s_Wa_greatestOf l z ad E M x2 x3 r1 M1 hL g1) hx hb hml hown hts w_1625 w_1622 w_1624 w_s_3f5817 w_10 md_a55e97 ⟨Nat.le_of_ble_eq_true rfl, Nat.le_of_ble_eq_true rfl⟩ hG hZ hP hD hS hA 219 (wv_o (ci := 10) (yi_219 hL) (yt_219 hL)) rfl rfl rfl hl.1 rfl (Nat.le_of_ble_eq_true rfl) d_12_3_29 ⟨Nat.le_of_ble_eq_true rfl, Nat.le_of_ble_eq_true rfl⟩ (fun _ H locs hP hD hS => ?_)
    have hP : va_P z.1 classes (wv z ad E M1) H := hP
    have hD : va_D A (wv z ad E M1) := hD
    refine W.eq (g2 := F0 m 32 ls [.int r1, .int x3, .ref (ad (225 + x2.toNatClampNeg))]) rfl ?_
    obtain ⟨ok2, h⟩ := ck_e h
    refine m_is hx hb hG hP hD hS (yg_224 hL ok0).1 (yg_224 hL ok0).2 ok2 d_12_3_32 (fun H locs hP hD hS => ?_)
    have hP : va_P z.1 classes (wv z ad E (u2 M1 (225 + x2.toNatClampNeg) x3.toNatClampNeg r1)) H := hP
    have hD : va_D A (wv z ad E (u2 M1 (225 + x2.toNatClampNeg) x3.toNatClampNeg r1)) := hD
    refine lv_iinc (v := (x3 + 1)) (lv' := [(3, .int (x3 + 1)), (0, .ref (ad 219)), (1, .int x1), (2, .int x2)]) hx hb d_12_3_33 hl (k := 3) rfl (congrArg (fun q => x3 + q) (show Int32.ofInt 1 = 1 by decide +kernel)) (by decide) rfl (fun ls hl => ?_)
    refine lv_goto (tgt := 9) hx hb d_12_3_36 (by decide) ?_
    obtain ⟨rfl, rfl, rfl⟩ := in3 h
    exact k0 rfl H locs ls hP hD hS (lv_sub hl [1, 2, 3, 0] rfl)
set_option maxRecDepth 100000 in
set_option maxHeartbeats 4000000 in
theorem s_Wa_divide_9 (l : Launch) (z : Zz) (ad : Nat → Nat) (E : Ev) (x1 : Int32) (x2 : Int32) {Q : State → Prop} {p : Program} {e : Env} {s : State} {m : MethodId} {below : List Frame} {meth : Method} {c : Code} {A : Nat → Prop} {args : Array Value} (hx : p.tables.exec = Jvm.exec) (hb : c.code = prog_12_method_3_code) (hml : c.maxLocals = 5) (hts : ∀ w ∈ WG, w.before args s = true) (hown : s.vm.findClass "Ballothall$Wards" = some m.cls) (hlocks : meth.locks = false) (hA : ∀ q, s.heap.size ≤ q → A q) (hG : KG z s) (hZ : FZ z A s) (hL : Lay E) : ∀ (fu : Nat) (M : Mm) (x3 : Int32) (t : Nat) (w3 : Int32) (N : Mm), l_Wa_divide_9 E x1 x2 fu M x3 = some (t, w3, N) → (t = 1 → ∀ (H : Heap) (locs : List Loc) (ls : Array Slot), va_P z.1 classes (wv z ad E N) H → va_D A (wv z ad E N) → va_S A s.heap H locs → lv_has ls 5 [(0, .ref (ad 219)), (1, .int x1), (2, .int x2)] → W p l e (rmK 2 67 0 0) s m args below meth c H locs 0 0 Q (F0 m 39 ls [])) → ∀ (H : Heap) (locs : List Loc) (ls : Array Slot), va_P z.1 classes (wv z ad E M) H → va_D A (wv z ad E M) → va_S A s.heap H locs → lv_has ls 5 [(0, .ref (ad 219)), (1, .int x1), (2, .int x2), (3, .int x3)] → W p l e (rmK 2 67 0 0) s m args below meth c H locs 0 0 Q (F0 m 9 ls []) := by
  intro fu
  induction fu with
  | zero =>
    intro M x3 t w3 N h
    have h : (none : Option (Nat × Int32 × Mm)) = some _ := h
    cases h
  | succ fu ih =>
    intro M x3 t w3 N h k1 H locs ls hP hD hS hl
    obtain ⟨⟨t0, w30, N0⟩, g0, h⟩ := bd_e h
    refine b_Wa_divide_9b l z ad E M x1 x2 x3 t0 w30 N0 hx hb hml hts hown hlocks hA hG hZ hL g0 (fun e0 => ?_) (fun e0 => ?_) H locs ls hP hD hS hl
    · subst e0
      have h := ite_t rfl h
      exact ih N0 w30 t w3 N h k1
    · subst e0
      have h := ite_f (by decide) h
      obtain ⟨rfl, rfl, rfl⟩ := in3 h
      exact k1 rfl
set_option maxRecDepth 100000 in
set_option maxHeartbeats 4000000 in
theorem b_Wa_divide_2b (l : Launch) (z : Zz) (ad : Nat → Nat) (E : Ev) (M : Mm) (x1 : Int32) (x2 : Int32) (t : Nat) (w2 : Int32) (N : Mm) {Q : State → Prop} {p : Program} {e : Env} {s : State} {m : MethodId} {below : List Frame} {meth : Method} {c : Code} {A : Nat → Prop} {args : Array Value} (hx : p.tables.exec = Jvm.exec) (hb : c.code = prog_12_method_3_code) (hml : c.maxLocals = 5) (hts : ∀ w ∈ WG, w.before args s = true) (hown : s.vm.findClass "Ballothall$Wards" = some m.cls) (hlocks : meth.locks = false) (hA : ∀ q, s.heap.size ≤ q → A q) (hG : KG z s) (hZ : FZ z A s) (hL : Lay E) (h : Wa_divide_2b E M x1 x2 = some (t, w2, N)) (k0 : t = 0 → ∀ (H : Heap) (locs : List Loc) (ls : Array Slot), va_P z.1 classes (wv z ad E N) H → va_D A (wv z ad E N) → va_S A s.heap H locs → lv_has ls 5 [(0, .ref (ad 219)), (1, .int x1), (2, .int w2)] → W p l e (rmK 2 67 0 0) s m args below meth c H locs 0 0 Q (F0 m 2 ls [])) (k1 : t = 1 → ∀ (H : Heap) (locs : List Loc) (ls : Array Slot), va_P z.1 classes (wv z ad E N) H → va_D A (wv z ad E N) → va_S A s.heap H locs → lv_has ls 5 [(0, .ref (ad 219)), (1, .int x1)] → W p l e (rmK 2 67 0 0) s m args below meth c H locs 0 0 Q (F0 m 45 ls [])) : ∀ (H : Heap) (locs : List Loc) (ls : Array Slot), va_P z.1 classes (wv z ad E M) H → va_D A (wv z ad E M) → va_S A s.heap H locs → lv_has ls 5 [(0, .ref (ad 219)), (1, .int x1), (2, .int x2)] → W p l e (rmK 2 67 0 0) s m args below meth c H locs 0 0 Q (F0 m 2 ls []) := by
  intro H locs ls hP hD hS hl
  unfold Wa_divide_2b at h
  refine lv_iload_n hx hb d_12_3_2 rfl (lv_at hl 2 rfl) ?_
  refine lv_iload_n hx hb d_12_3_3 rfl (lv_at hl 1 rfl) ?_
  refine lv_icmp_gt (tgt := 45) hx hb d_12_3_4 (by decide) (fun c9 => ?_) (fun c9 => ?_)
  · have h := ite_t c9 h
    obtain ⟨rfl, rfl, rfl⟩ := in3 h
    exact k1 rfl H locs ls hP hD hS (lv_sub hl [0, 1] rfl)
  · have h := ite_f c9 h
    refine lv_iconst (v := 0) hx hb d_12_3_7 (by decide +kernel) ?_
    refine lv_istore_n (lv' := [(3, .int 0), (0, .ref (ad 219)), (1, .int x1), (2, .int x2)]) hx hb d_12_3_8 rfl hl (by decide) rfl (fun ls hl => ?_)
    obtain ⟨⟨t3, v3_3, M3⟩, g3, h⟩ := bd_e h
    obtain ⟨ok3, h⟩ := ck_e h
    refine s_Wa_divide_9 l z ad E x1 x2 hx hb hml hts hown hlocks hA hG hZ hL FU M 0 t3 v3_3 M3 g3 (fun e3 H locs ls hP hD hS hl => ?_) H locs ls hP hD hS (lv_sub hl [1, 2, 3, 0] rfl)
    refine lv_iinc (v := (x2 + 1)) (lv' := [(2, .int (x2 + 1)), (0, .ref (ad 219)), (1, .int x1)]) hx hb d_12_3_39 hl (k := 2) rfl (congrArg (fun q => x2 + q) (show Int32.ofInt 1 = 1 by decide +kernel)) (by decide) rfl (fun ls hl => ?_)
    refine lv_goto (tgt := 2) hx hb d_12_3_42 (by decide) ?_
    obtain ⟨rfl, rfl, rfl⟩ := in3 h
    exact k0 rfl H locs ls hP hD hS (lv_sub hl [1, 2, 0] rfl)
set_option maxRecDepth 100000 in
set_option maxHeartbeats 4000000 in
theorem s_Wa_divide_2 (l : Launch) (z : Zz) (ad : Nat → Nat) (E : Ev) (x1 : Int32) {Q : State → Prop} {p : Program} {e : Env} {s : State} {m : MethodId} {below : List Frame} {meth : Method} {c : Code} {A : Nat → Prop} {args : Array Value} (hx : p.tables.exec = Jvm.exec) (hb : c.code = prog_12_method_3_code) (hml : c.maxLocals = 5) (hts : ∀ w ∈ WG, w.before args s = true) (hown : s.vm.findClass "Ballothall$Wards" = some m.cls) (hlocks : meth.locks = false) (hA : ∀ q, s.heap.size ≤ q → A q) (hG : KG z s) (hZ : FZ z A s) (hL : Lay E) : ∀ (fu : Nat) (M : Mm) (x2 : Int32) (t : Nat) (w2 : Int32) (N : Mm), l_Wa_divide_2 E x1 fu M x2 = some (t, w2, N) → (t = 1 → ∀ (H : Heap) (locs : List Loc) (ls : Array Slot), va_P z.1 classes (wv z ad E N) H → va_D A (wv z ad E N) → va_S A s.heap H locs → lv_has ls 5 [(0, .ref (ad 219)), (1, .int x1)] → W p l e (rmK 2 67 0 0) s m args below meth c H locs 0 0 Q (F0 m 45 ls [])) → ∀ (H : Heap) (locs : List Loc) (ls : Array Slot), va_P z.1 classes (wv z ad E M) H → va_D A (wv z ad E M) → va_S A s.heap H locs → lv_has ls 5 [(0, .ref (ad 219)), (1, .int x1), (2, .int x2)] → W p l e (rmK 2 67 0 0) s m args below meth c H locs 0 0 Q (F0 m 2 ls []) := by
  intro fu
  induction fu with
  | zero =>
    intro M x2 t w2 N h
    have h : (none : Option (Nat × Int32 × Mm)) = some _ := h
    cases h
  | succ fu ih =>
    intro M x2 t w2 N h k1 H locs ls hP hD hS hl
    obtain ⟨⟨t0, w20, N0⟩, g0, h⟩ := bd_e h
    refine b_Wa_divide_2b l z ad E M x1 x2 t0 w20 N0 hx hb hml hts hown hlocks hA hG hZ hL g0 (fun e0 => ?_) (fun e0 => ?_) H locs ls hP hD hS hl
    · subst e0
      have h := ite_t rfl h
      exact ih N0 w20 t w2 N h k1
    · subst e0
      have h := ite_f (by decide) h
      obtain ⟨rfl, rfl, rfl⟩ := in3 h
      exact k1 rfl
set_option maxRecDepth 100000 in
set_option maxHeartbeats 4000000 in
theorem b_Wa_divide_59b (l : Launch) (z : Zz) (ad : Nat → Nat) (E : Ev) (M : Mm) (x1 : Int32) (x2 : Int32) (x3 : Int32) (x4 : Int32) (t : Nat) (w3 : Int32) (w4 : Int32) (N : Mm) {Q : State → Prop} {p : Program} {e : Env} {s : State} {m : MethodId} {below : List Frame} {meth : Method} {c : Code} {A : Nat → Prop} {args : Array Value} (hx : p.tables.exec = Jvm.exec) (hb : c.code = prog_12_method_3_code) (hml : c.maxLocals = 5) (hts : ∀ w ∈ WG, w.before args s = true) (hown : s.vm.findClass "Ballothall$Wards" = some m.cls) (hlocks : meth.locks = false) (hA : ∀ q, s.heap.size ≤ q → A q) (hG : KG z s) (hZ : FZ z A s) (hL : Lay E) (h : Wa_divide_59b E M x1 x2 x3 x4 = some (t, w3, w4, N)) (k0 : t = 0 → ∀ (H : Heap) (locs : List Loc) (ls : Array Slot), va_P z.1 classes (wv z ad E N) H → va_D A (wv z ad E N) → va_S A s.heap H locs → lv_has ls 5 [(0, .ref (ad 219)), (1, .int x1), (2, .int x2), (3, .int w3), (4, .int w4)] → W p l e (rmK 2 67 0 0) s m args below meth c H locs 0 0 Q (F0 m 59 ls [])) (k1 : t = 1 → ∀ (H : Heap) (locs : List Loc) (ls : Array Slot), va_P z.1 classes (wv z ad E N) H → va_D A (wv z ad E N) → va_S A s.heap H locs → lv_has ls 5 [(2, .int x2)] → W p l e (rmK 2 67 0 0) s m args below meth c H locs 0 0 Q (F0 m 98 ls [])) : ∀ (H : Heap) (locs : List Loc) (ls : Array Slot), va_P z.1 classes (wv z ad E M) H → va_D A (wv z ad E M) → va_S A s.heap H locs → lv_has ls 5 [(0, .ref (ad 219)), (1, .int x1), (2, .int x2), (3, .int x3), (4, .int x4)] → W p l e (rmK 2 67 0 0) s m args below meth c H locs 0 0 Q (F0 m 59 ls []) := by
  intro H locs ls hP hD hS hl
  unfold Wa_divide_59b at h
  refine lv_iload hx hb d_12_3_59 (lv_at hl 4 rfl) ?_
  refine lv_iload_n hx hb d_12_3_61 rfl (lv_at hl 1 rfl) ?_
  refine lv_icmp_ge (tgt := 98) hx hb d_12_3_62 (by decide) (fun c9 => ?_) (fun c9 => ?_)
  · have h := ite_t c9 h
    obtain ⟨rfl, rfl, rfl, rfl⟩ := in4 h
    exact k1 rfl H locs ls hP hD hS (lv_sub hl [2] rfl)
  · have h := ite_f c9 h
    refine lv_aload_n hx hb d_12_3_65 rfl (lv_at hl 0 rfl) ?_
    refine m_gr (j := 242) (C := "Ballothall$Wards") (T := TX10) (N := 5) (ci := 10) (k := 4) hx hb hts iX10 hown hG hP (yi_219 hL) (yt_219 hL) rfl (by decide) w_363 (fun _ h9 => h9) rfl rfl (yr_219_4 hL) d_12_3_66 ?_
    refine lv_iload hx hb d_12_3_69 (lv_at hl 4 rfl) ?_
    refine lv_aload_n hx hb d_12_3_71 rfl (lv_at hl 0 rfl) ?_
    refine lv_iload_n hx hb d_12_3_72 rfl (lv_at hl 3 rfl) ?_
    refine lv_iload_n hx hb d_12_3_73 rfl (lv_at hl 1 rfl) ?_
    refine lv_iload hx hb d_12_3_74 (lv_at hl 4 rfl) ?_
    refine lv_isub hx hb d_12_3_76 ?_
    refine lv_iload_n hx hb d_12_3_77 rfl (lv_at hl 2 rfl) ?_
    obtain ⟨⟨r7, M7⟩, g7, h⟩ := bd_e h
    refine kV (As := [.int x3, .int (x1 - x4), .int x2]) (rest := [.int x4, .ref (ad 242)]) (s_Wa_firstEnd l z ad E M x3 (x1 - x4) x2 r7 M7 hL g7) hx hb hml hown hts w_1636 w_1633 w_1635 w_s_2e2987 w_10 md_f62da8 ⟨Nat.le_of_ble_eq_true rfl, Nat.le_of_ble_eq_true rfl⟩ hG hZ hP hD hS hA 219 (wv_o (ci := 10) (yi_219 hL) (yt_219 hL)) rfl rfl rfl hl.1 rfl (Nat.le_of_ble_eq_true rfl) d_12_3_78 ⟨Nat.le_of_ble_eq_true rfl, Nat.le_of_ble_eq_true rfl⟩ (fun _ H locs hP hD hS => ?_)
    have hP : va_P z.1 classes (wv z ad E M7) H := hP
    have hD : va_D A (wv z ad E M7) := hD
    refine W.eq (g2 := F0 m 81 ls [.int r7, .int x4, .ref (ad 242)]) rfl ?_
    obtain ⟨ok8, h⟩ := ck_e h
    refine m_is hx hb hG hP hD hS (yi_242 hL) (yt_242 hL) ok8 d_12_3_81 (fun H locs hP hD hS => ?_)
    have hP : va_P z.1 classes (wv z ad E (u2 M7 242 x4.toNatClampNeg r7)) H := hP
    have hD : va_D A (wv z ad E (u2 M7 242 x4.toNatClampNeg r7)) := hD
    refine lv_aload_n hx hb d_12_3_82 rfl (lv_at hl 0 rfl) ?_
    refine m_gr (j := 242) (C := "Ballothall$Wards") (T := TX10) (N := 5) (ci := 10) (k := 4) hx hb hts iX10 hown hG hP (yi_219 hL) (yt_219 hL) rfl (by decide) w_363 (fun _ h9 => h9) rfl rfl (yr_219_4 hL) d_12_3_83 ?_
    refine lv_iload hx hb d_12_3_86 (lv_at hl 4 rfl) ?_
    obtain ⟨ok9, h⟩ := ck_e h
    refine m_ia hx hb hG hP (yi_242 hL) (yt_242 hL) ok9 d_12_3_88 ?_
    refine lv_iconst (v := 1) hx hb d_12_3_89 (by decide +kernel) ?_
    refine lv_iadd hx hb d_12_3_90 ?_
    obtain ⟨v10, e10, h⟩ := nb_e h
    refine nrm e10.symm ?_
    refine lv_istore_n (lv' := [(3, .int v10), (0, .ref (ad 219)), (1, .int x1), (2, .int x2), (4, .int x4)]) hx hb d_12_3_91 rfl hl (by decide) rfl (fun ls hl => ?_)
    refine lv_iinc (v := (x4 + 1)) (lv' := [(4, .int (x4 + 1)), (3, .int v10), (0, .ref (ad 219)), (1, .int x1), (2, .int x2)]) hx hb d_12_3_92 hl (k := 4) rfl (congrArg (fun q => x4 + q) (show Int32.ofInt 1 = 1 by decide +kernel)) (by decide) rfl (fun ls hl => ?_)
    refine lv_goto (tgt := 59) hx hb d_12_3_95 (by decide) ?_
    obtain ⟨rfl, rfl, rfl, rfl⟩ := in4 h
    exact k0 rfl H locs ls hP hD hS (lv_sub hl [2, 3, 4, 1, 0] rfl)
set_option maxRecDepth 100000 in
set_option maxHeartbeats 4000000 in
theorem s_Wa_divide_59 (l : Launch) (z : Zz) (ad : Nat → Nat) (E : Ev) (x1 : Int32) (x2 : Int32) {Q : State → Prop} {p : Program} {e : Env} {s : State} {m : MethodId} {below : List Frame} {meth : Method} {c : Code} {A : Nat → Prop} {args : Array Value} (hx : p.tables.exec = Jvm.exec) (hb : c.code = prog_12_method_3_code) (hml : c.maxLocals = 5) (hts : ∀ w ∈ WG, w.before args s = true) (hown : s.vm.findClass "Ballothall$Wards" = some m.cls) (hlocks : meth.locks = false) (hA : ∀ q, s.heap.size ≤ q → A q) (hG : KG z s) (hZ : FZ z A s) (hL : Lay E) : ∀ (fu : Nat) (M : Mm) (x3 : Int32) (x4 : Int32) (t : Nat) (w3 : Int32) (w4 : Int32) (N : Mm), l_Wa_divide_59 E x1 x2 fu M x3 x4 = some (t, w3, w4, N) → (t = 1 → ∀ (H : Heap) (locs : List Loc) (ls : Array Slot), va_P z.1 classes (wv z ad E N) H → va_D A (wv z ad E N) → va_S A s.heap H locs → lv_has ls 5 [(2, .int x2)] → W p l e (rmK 2 67 0 0) s m args below meth c H locs 0 0 Q (F0 m 98 ls [])) → ∀ (H : Heap) (locs : List Loc) (ls : Array Slot), va_P z.1 classes (wv z ad E M) H → va_D A (wv z ad E M) → va_S A s.heap H locs → lv_has ls 5 [(0, .ref (ad 219)), (1, .int x1), (2, .int x2), (3, .int x3), (4, .int x4)] → W p l e (rmK 2 67 0 0) s m args below meth c H locs 0 0 Q (F0 m 59 ls []) := by
  intro fu
  induction fu with
  | zero =>
    intro M x3 x4 t w3 w4 N h
    have h : (none : Option (Nat × Int32 × Int32 × Mm)) = some _ := h
    cases h
  | succ fu ih =>
    intro M x3 x4 t w3 w4 N h k1 H locs ls hP hD hS hl
    obtain ⟨⟨t0, w30, w40, N0⟩, g0, h⟩ := bd_e h
    refine b_Wa_divide_59b l z ad E M x1 x2 x3 x4 t0 w30 w40 N0 hx hb hml hts hown hlocks hA hG hZ hL g0 (fun e0 => ?_) (fun e0 => ?_) H locs ls hP hD hS hl
    · subst e0
      have h := ite_t rfl h
      exact ih N0 w30 w40 t w3 w4 N h k1
    · subst e0
      have h := ite_f (by decide) h
      obtain ⟨rfl, rfl, rfl, rfl⟩ := in4 h
      exact k1 rfl
set_option maxRecDepth 100000 in
set_option maxHeartbeats 4000000 in
theorem s_Wa_divide (l : Launch) (z : Zz) (ad : Nat → Nat) (E : Ev) (M : Mm) (x1 : Int32) (r : Int32) (N : Mm) (hL : Lay E) (h : f_Wa_divide E M x1 = some (r, N)) : CT l z ⟨"Ballothall$Wards", "divide", "(I)I"⟩ prog_12_method_3_code 5 (some .int) [.ref (ad 219), .int x1] (wv z ad E M) 2 67 0 0 (fun _ => some (.int r)) (fun _ => wv z ad E N) := by
  refine CT.of (own := "Ballothall$Wards") (by decide +kernel) (Nat.le_of_ble_eq_true rfl) rfl (fun p e s m below meth c A ls hx hb hml hr hts hown hlocks hin hA hG hZ hP hD hS hl => ?_)
  have hl : lv_has ls 5 [(0, .ref (ad 219)), (1, .int x1)] := hl
  have key : ∀ (H : Heap) (locs : List Loc) (args : Array Value), (∀ w ∈ WG, w.before args s = true) → va_P z.1 classes (wv z ad E M) H → va_S A s.heap H locs → W p l e (rmK 2 67 0 0) s m args below meth c H locs 0 0 (MQ below (QK z A (fun _ => some (.int r)) (fun _ => wv z ad E N)) args s 0 0 A) (F0 m 0 ls []) := by
    intro H locs args hts hP hS
    unfold f_Wa_divide at h
    refine lv_iconst (v := 1) hx hb d_12_3_0 (by decide +kernel) ?_
    refine lv_istore_n (lv' := [(2, .int 1), (0, .ref (ad 219)), (1, .int x1)]) hx hb d_12_3_1 rfl hl (by decide) rfl (fun ls hl => ?_)
    obtain ⟨⟨t4, v4_2, M4⟩, g4, h⟩ := bd_e h
    obtain ⟨ok4, h⟩ := ck_e h
    refine s_Wa_divide_2 l z ad E x1 hx hb hml hts hown hlocks hA hG hZ hL FU M 1 t4 v4_2 M4 g4 (fun e4 H locs ls hP hD hS hl => ?_) H locs ls hP hD hS (lv_sub hl [1, 2, 0] rfl)
    refine lv_aload_n hx hb d_12_3_45 rfl (lv_at hl 0 rfl) ?_
    refine m_gr (j := 224) (C := "Ballothall$Wards") (T := TX10) (N := 5) (ci := 10) (k := 3) hx hb hts iX10 hown hG hP (yi_219 hL) (yt_219 hL) rfl (by decide) w_362 (fun _ h9 => h9) rfl rfl (yr_219_3 hL) d_12_3_46 ?_
    refine lv_iload_n hx hb d_12_3_49 rfl (lv_at hl 1 rfl) ?_
    obtain ⟨ok5, h⟩ := ck_e h
    refine m_ar (k := (225 + x1.toNatClampNeg)) hx hb hG hP (yi_224 hL) (yt_224 hL) ok5 (ya_224 hL (inb_lt ok5)) d_12_3_50 ?_
    refine lv_iconst (v := 0) hx hb d_12_3_51 (by decide +kernel) ?_
    refine m_ia hx hb hG hP (yg_224 hL ok5).1 (yg_224 hL ok5).2 (by decide +kernel) d_12_3_52 ?_
    refine nrm (x1 := (M4.1 (225 + x1.toNatClampNeg) 0)) rfl ?_
    obtain ⟨v6, e6, h⟩ := nb_e h
    refine nrm e6.symm ?_
    refine lv_istore_n (lv' := [(2, .int v6), (0, .ref (ad 219)), (1, .int x1)]) hx hb d_12_3_53 rfl hl (by decide) rfl (fun ls hl => ?_)
    refine lv_iconst (v := 0) hx hb d_12_3_54 (by decide +kernel) ?_
    refine lv_istore_n (lv' := [(3, .int 0), (2, .int v6), (0, .ref (ad 219)), (1, .int x1)]) hx hb d_12_3_55 rfl hl (by decide) rfl (fun ls hl => ?_)
    refine lv_iconst (v := 0) hx hb d_12_3_56 (by decide +kernel) ?_
    refine lv_istore (lv' := [(4, .int 0), (3, .int 0), (2, .int v6), (0, .ref (ad 219)), (1, .int x1)]) hx hb d_12_3_57 hl (by decide) rfl (fun ls hl => ?_)
    obtain ⟨⟨t11, v11_3, v11_4, M11⟩, g11, h⟩ := bd_e h
    obtain ⟨ok11, h⟩ := ck_e h
    refine s_Wa_divide_59 l z ad E x1 v6 hx hb hml hts hown hlocks hA hG hZ hL FU M4 0 0 t11 v11_3 v11_4 M11 g11 (fun e11 H locs ls hP hD hS hl => ?_) H locs ls hP hD hS (lv_sub hl [3, 4, 2, 1, 0] rfl)
    refine lv_iload_n hx hb d_12_3_98 rfl (lv_at hl 0 rfl) ?_
    obtain ⟨rfl, rfl⟩ := in2 h
    exact W.iret hx hb hr (fun t ht hW => qkA hP hD hS (fun k => k) rfl rfl ht) hS.2.2 d_12_3_99
  exact key _ _ _ hts hP hS
set_option maxRecDepth 100000 in
set_option maxHeartbeats 4000000 in
theorem s_B_districtEnd (l : Launch) (z : Zz) (ad : Nat → Nat) (E : Ev) (M : Mm) (x1 : Int32) (x2 : Int32) (r : Int32) (N : Mm) (hL : Lay E) (h : f_B_districtEnd E M x1 x2 = some (r, N)) : CT l z ⟨"Ballothall", "districtEnd", "(II)I"⟩ prog_1_method_43_code 3 (some .int) [.ref (ad 1), .int x1, .int x2] (wv z ad E M) 3 91 0 0 (fun _ => some (.int r)) (fun _ => wv z ad E N) := by
  refine CT.of (own := "Ballothall") (by decide +kernel) (Nat.le_of_ble_eq_true rfl) rfl (fun p e s m below meth c A ls hx hb hml hr hts hown hlocks hin hA hG hZ hP hD hS hl => ?_)
  have hl : lv_has ls 3 [(0, .ref (ad 1)), (1, .int x1), (2, .int x2)] := hl
  have key : ∀ (H : Heap) (locs : List Loc) (args : Array Value), (∀ w ∈ WG, w.before args s = true) → va_P z.1 classes (wv z ad E M) H → va_S A s.heap H locs → W p l e (rmK 3 91 0 0) s m args below meth c H locs 0 0 (MQ below (QK z A (fun _ => some (.int r)) (fun _ => wv z ad E N)) args s 0 0 A) (F0 m 0 ls []) := by
    intro H locs args hts hP hS
    unfold f_B_districtEnd at h
    refine lv_iload_n hx hb d_1_43_0 rfl (lv_at hl 1 rfl) ?_
    refine lv_iconst (v := 1) hx hb d_1_43_1 (by decide +kernel) ?_
    refine lv_aload_n hx hb d_1_43_2 rfl (lv_at hl 0 rfl) ?_
    refine m_gr (j := 219) (C := "Ballothall") (T := TX11) (N := 14) (ci := 11) (k := 5) hx hb hts iX11 hown hG hP (yi_1 hL) (yt_1 hL) rfl (by decide) w_402 (fun _ h9 => h9) rfl rfl (yr_1_5 hL) d_1_43_3 ?_
    refine m_giN (C := "Ballothall$Wards") (T := TX10) (N := 5) (ci := 10) (k := 0) hx hb hts iX10 hown hG hP (yi_219 hL) (yt_219 hL) rfl (by decide) n_359 rfl (fun _ h9 => h9) rfl rfl d_1_43_6 ?_
    obtain ⟨M0, g0, h⟩ := bd_e h
    refine kS (As := [.int x1, .int 1, .int (M.1 219 0)]) (rest := []) (s_B_needRange l z ad E M x1 1 (M.1 219 0) M0 hL g0) hx hb hml hown hts w_548 w_546 w_547 w_1 md_519134 ⟨Nat.le_of_ble_eq_true rfl, Nat.le_of_ble_eq_true rfl⟩ hG hZ hP hD hS hA rfl hl.1 rfl (Nat.le_of_ble_eq_true rfl) d_1_43_9 ⟨Nat.le_of_ble_eq_true rfl, Nat.le_of_ble_eq_true rfl⟩ (fun _ H locs hP hD hS => ?_)
    have hP : va_P z.1 classes (wv z ad E M0) H := hP
    have hD : va_D A (wv z ad E M0) := hD
    refine W.eq (g2 := F0 m 12 ls []) rfl ?_
    refine lv_iload_n hx hb d_1_43_12 rfl (lv_at hl 2 rfl) ?_
    refine lv_iload_n hx hb d_1_43_13 rfl (lv_at hl 1 rfl) ?_
    obtain ⟨M1, g1, h⟩ := bd_e h
    refine kS (As := [.int x2, .int x1]) (rest := []) (s_B_needPlace l z ad E M0 x2 x1 M1 hL g1) hx hb hml hown hts w_1343 w_1341 w_1342 w_1 md_541664 ⟨Nat.le_of_ble_eq_true rfl, Nat.le_of_ble_eq_true rfl⟩ hG hZ hP hD hS hA rfl hl.1 rfl (Nat.le_of_ble_eq_true rfl) d_1_43_14 ⟨Nat.le_of_ble_eq_true rfl, Nat.le_of_ble_eq_true rfl⟩ (fun _ H locs hP hD hS => ?_)
    have hP : va_P z.1 classes (wv z ad E M1) H := hP
    have hD : va_D A (wv z ad E M1) := hD
    refine W.eq (g2 := F0 m 17 ls []) rfl ?_
    refine lv_aload_n hx hb d_1_43_17 rfl (lv_at hl 0 rfl) ?_
    refine m_gr (j := 219) (C := "Ballothall") (T := TX11) (N := 14) (ci := 11) (k := 5) hx hb hts iX11 hown hG hP (yi_1 hL) (yt_1 hL) rfl (by decide) w_402 (fun _ h9 => h9) rfl rfl (yr_1_5 hL) d_1_43_18 ?_
    refine lv_iload_n hx hb d_1_43_21 rfl (lv_at hl 1 rfl) ?_
    obtain ⟨⟨r2, M2⟩, g2, h⟩ := bd_e h
    refine kVN (As := [.int x1]) (rest := []) (s_Wa_divide l z ad E M1 x1 r2 M2 hL g2) hx hb hml hown hts w_1621 n_1618 w_1620 w_s_af9e07 w_10 md_d7e64c ⟨Nat.le_of_ble_eq_true rfl, Nat.le_of_ble_eq_true rfl⟩ hG hZ hP hD hS hA 219 (wv_o (ci := 10) (yi_219 hL) (yt_219 hL)) rfl rfl rfl hl.1 rfl (Nat.le_of_ble_eq_true rfl) d_1_43_22 ⟨Nat.le_of_ble_eq_true rfl, Nat.le_of_ble_eq_true rfl⟩ (fun _ H locs hP hD hS => ?_)
    have hP : va_P z.1 classes (wv z ad E M2) H := hP
    have hD : va_D A (wv z ad E M2) := hD
    refine W.eq (g2 := F0 m 25 ls [.int r2]) rfl ?_
    refine lv_pop hx hb d_1_43_25 rfl ?_
    refine lv_aload_n hx hb d_1_43_26 rfl (lv_at hl 0 rfl) ?_
    refine m_gr (j := 219) (C := "Ballothall") (T := TX11) (N := 14) (ci := 11) (k := 5) hx hb hts iX11 hown hG hP (yi_1 hL) (yt_1 hL) rfl (by decide) w_402 (fun _ h9 => h9) rfl rfl (yr_1_5 hL) d_1_43_27 ?_
    refine m_grN (j := 242) (C := "Ballothall$Wards") (T := TX10) (N := 5) (ci := 10) (k := 4) hx hb hts iX10 hown hG hP (yi_219 hL) (yt_219 hL) rfl (by decide) n_364 rfl (fun _ h9 => h9) rfl rfl (yr_219_4 hL) d_1_43_30 ?_
    refine lv_iload_n hx hb d_1_43_33 rfl (lv_at hl 2 rfl) ?_
    obtain ⟨ok3, h⟩ := ck_e h
    refine m_ia hx hb hG hP (yi_242 hL) (yt_242 hL) ok3 d_1_43_34 ?_
    obtain ⟨rfl, rfl⟩ := in2 h
    exact W.iret hx hb hr (fun t ht hW => qkA hP hD hS (fun k => k) rfl rfl ht) hS.2.2 d_1_43_35
  exact key _ _ _ hts hP hS
set_option maxRecDepth 100000 in
set_option maxHeartbeats 4000000 in
theorem b_Wa_votesIn_22b (l : Launch) (z : Zz) (ad : Nat → Nat) (E : Ev) (M : Mm) (x1 : Int32) (x2 : Int32) (x3 : Int32) (x4 : Int32) (t : Nat) (w3 : Int32) (w4 : Int32) (N : Mm) {Q : State → Prop} {p : Program} {e : Env} {s : State} {m : MethodId} {below : List Frame} {meth : Method} {c : Code} {A : Nat → Prop} {args : Array Value} (hx : p.tables.exec = Jvm.exec) (hb : c.code = prog_12_method_7_code) (hml : c.maxLocals = 5) (hts : ∀ w ∈ WG, w.before args s = true) (hown : s.vm.findClass "Ballothall$Wards" = some m.cls) (hlocks : meth.locks = false) (hA : ∀ q, s.heap.size ≤ q → A q) (hG : KG z s) (hZ : FZ z A s) (hL : Lay E) (h : Wa_votesIn_22b E M x1 x2 x3 x4 = some (t, w3, w4, N)) (k0 : t = 0 → ∀ (H : Heap) (locs : List Loc) (ls : Array Slot), va_P z.1 classes (wv z ad E N) H → va_D A (wv z ad E N) → va_S A s.heap H locs → lv_has ls 5 [(0, .ref (ad 219)), (1, .int x1), (2, .int x2), (3, .int w3), (4, .int w4)] → W p l e (rmK 0 20 0 0) s m args below meth c H locs 0 0 Q (F0 m 22 ls [])) (k1 : t = 1 → ∀ (H : Heap) (locs : List Loc) (ls : Array Slot), va_P z.1 classes (wv z ad E N) H → va_D A (wv z ad E N) → va_S A s.heap H locs → lv_has ls 5 [(3, .int w3)] → W p l e (rmK 0 20 0 0) s m args below meth c H locs 0 0 Q (F0 m 51 ls [])) : ∀ (H : Heap) (locs : List Loc) (ls : Array Slot), va_P z.1 classes (wv z ad E M) H → va_D A (wv z ad E M) → va_S A s.heap H locs → lv_has ls 5 [(0, .ref (ad 219)), (1, .int x1), (2, .int x2), (3, .int x3), (4, .int x4)] → W p l e (rmK 0 20 0 0) s m args below meth c H locs 0 0 Q (F0 m 22 ls []) := by
  intro H locs ls hP hD hS hl
  unfold Wa_votesIn_22b at h
  refine lv_iload hx hb d_12_7_22 (lv_at hl 4 rfl) ?_
  refine lv_aload_n hx hb d_12_7_24 rfl (lv_at hl 0 rfl) ?_
  refine m_gr (j := 242) (C := "Ballothall$Wards") (T := TX10) (N := 5) (ci := 10) (k := 4) hx hb hts iX10 hown hG hP (yi_219 hL) (yt_219 hL) rfl (by decide) w_363 (fun _ h9 => h9) rfl rfl (yr_219_4 hL) d_12_7_25 ?_
  refine lv_iload_n hx hb d_12_7_28 rfl (lv_at hl 1 rfl) ?_
  obtain ⟨ok2, h⟩ := ck_e h
  refine m_ia hx hb hG hP (yi_242 hL) (yt_242 hL) ok2 d_12_7_29 ?_
  refine lv_icmp_gt (tgt := 51) hx hb d_12_7_30 (by decide) (fun c9 => ?_) (fun c9 => ?_)
  · have h := ite_t c9 h
    obtain ⟨rfl, rfl, rfl, rfl⟩ := in4 h
    exact k1 rfl H locs ls hP hD hS (lv_sub hl [3] rfl)
  · have h := ite_f c9 h
    refine lv_iload_n hx hb d_12_7_33 rfl (lv_at hl 3 rfl) ?_
    refine lv_aload_n hx hb d_12_7_34 rfl (lv_at hl 0 rfl) ?_
    refine m_gr (j := 221) (C := "Ballothall$Wards") (T := TX10) (N := 5) (ci := 10) (k := 2) hx hb hts iX10 hown hG hP (yi_219 hL) (yt_219 hL) rfl (by decide) w_361 (fun _ h9 => h9) rfl rfl (yr_219_2 hL) d_12_7_35 ?_
    refine lv_iload_n hx hb d_12_7_38 rfl (lv_at hl 2 rfl) ?_
    obtain ⟨ok3, h⟩ := ck_e h
    refine m_ar (k := (222 + x2.toNatClampNeg)) hx hb hG hP (yi_221 hL) (yt_221 hL) ok3 (ya_221 hL (inb_lt ok3)) d_12_7_39 ?_
    refine lv_iload hx hb d_12_7_40 (lv_at hl 4 rfl) ?_
    obtain ⟨ok4, h⟩ := ck_e h
    refine m_ia hx hb hG hP (yg_221 hL ok3).1 (yg_221 hL ok3).2 ok4 d_12_7_42 ?_
    refine lv_iadd hx hb d_12_7_43 ?_
    obtain ⟨v5, e5, h⟩ := nb_e h
    refine nrm e5.symm ?_
    refine lv_istore_n (lv' := [(3, .int v5), (0, .ref (ad 219)), (1, .int x1), (2, .int x2), (4, .int x4)]) hx hb d_12_7_44 rfl hl (by decide) rfl (fun ls hl => ?_)
    refine lv_iinc (v := (x4 + 1)) (lv' := [(4, .int (x4 + 1)), (3, .int v5), (0, .ref (ad 219)), (1, .int x1), (2, .int x2)]) hx hb d_12_7_45 hl (k := 4) rfl (congrArg (fun q => x4 + q) (show Int32.ofInt 1 = 1 by decide +kernel)) (by decide) rfl (fun ls hl => ?_)
    refine lv_goto (tgt := 22) hx hb d_12_7_48 (by decide) ?_
    obtain ⟨rfl, rfl, rfl, rfl⟩ := in4 h
    exact k0 rfl H locs ls hP hD hS (lv_sub hl [2, 3, 4, 1, 0] rfl)
set_option maxRecDepth 100000 in
set_option maxHeartbeats 4000000 in
theorem s_Wa_votesIn_22 (l : Launch) (z : Zz) (ad : Nat → Nat) (E : Ev) (x1 : Int32) (x2 : Int32) {Q : State → Prop} {p : Program} {e : Env} {s : State} {m : MethodId} {below : List Frame} {meth : Method} {c : Code} {A : Nat → Prop} {args : Array Value} (hx : p.tables.exec = Jvm.exec) (hb : c.code = prog_12_method_7_code) (hml : c.maxLocals = 5) (hts : ∀ w ∈ WG, w.before args s = true) (hown : s.vm.findClass "Ballothall$Wards" = some m.cls) (hlocks : meth.locks = false) (hA : ∀ q, s.heap.size ≤ q → A q) (hG : KG z s) (hZ : FZ z A s) (hL : Lay E) : ∀ (fu : Nat) (M : Mm) (x3 : Int32) (x4 : Int32) (t : Nat) (w3 : Int32) (w4 : Int32) (N : Mm), l_Wa_votesIn_22 E x1 x2 fu M x3 x4 = some (t, w3, w4, N) → (t = 1 → ∀ (H : Heap) (locs : List Loc) (ls : Array Slot), va_P z.1 classes (wv z ad E N) H → va_D A (wv z ad E N) → va_S A s.heap H locs → lv_has ls 5 [(3, .int w3)] → W p l e (rmK 0 20 0 0) s m args below meth c H locs 0 0 Q (F0 m 51 ls [])) → ∀ (H : Heap) (locs : List Loc) (ls : Array Slot), va_P z.1 classes (wv z ad E M) H → va_D A (wv z ad E M) → va_S A s.heap H locs → lv_has ls 5 [(0, .ref (ad 219)), (1, .int x1), (2, .int x2), (3, .int x3), (4, .int x4)] → W p l e (rmK 0 20 0 0) s m args below meth c H locs 0 0 Q (F0 m 22 ls []) := by
  intro fu
  induction fu with
  | zero =>
    intro M x3 x4 t w3 w4 N h
    have h : (none : Option (Nat × Int32 × Int32 × Mm)) = some _ := h
    cases h
  | succ fu ih =>
    intro M x3 x4 t w3 w4 N h k1 H locs ls hP hD hS hl
    obtain ⟨⟨t0, w30, w40, N0⟩, g0, h⟩ := bd_e h
    refine b_Wa_votesIn_22b l z ad E M x1 x2 x3 x4 t0 w30 w40 N0 hx hb hml hts hown hlocks hA hG hZ hL g0 (fun e0 => ?_) (fun e0 => ?_) H locs ls hP hD hS hl
    · subst e0
      have h := ite_t rfl h
      exact ih N0 w30 w40 t w3 w4 N h k1
    · subst e0
      have h := ite_f (by decide) h
      obtain ⟨rfl, rfl, rfl, rfl⟩ := in4 h
      exact k1 rfl
set_option maxRecDepth 100000 in
set_option maxHeartbeats 4000000 in
theorem s_Wa_votesIn (l : Launch) (z : Zz) (ad : Nat → Nat) (E : Ev) (M : Mm) (x1 : Int32) (x2 : Int32) (r : Int32) (N : Mm) (hL : Lay E) (h : f_Wa_votesIn E M x1 x2 = some (r, N)) : CT l z ⟨"Ballothall$Wards", "votesIn", "(II)I"⟩ prog_12_method_7_code 5 (some .int) [.ref (ad 219), .int x1, .int x2] (wv z ad E M) 0 20 0 0 (fun _ => some (.int r)) (fun _ => wv z ad E N) := by
  refine CT.of (own := "Ballothall$Wards") (by decide +kernel) (Nat.le_of_ble_eq_true rfl) rfl (fun p e s m below meth c A ls hx hb hml hr hts hown hlocks hin hA hG hZ hP hD hS hl => ?_)
  have hl : lv_has ls 5 [(0, .ref (ad 219)), (1, .int x1), (2, .int x2)] := hl
  have key : ∀ (H : Heap) (locs : List Loc) (args : Array Value), (∀ w ∈ WG, w.before args s = true) → va_P z.1 classes (wv z ad E M) H → va_S A s.heap H locs → W p l e (rmK 0 20 0 0) s m args below meth c H locs 0 0 (MQ below (QK z A (fun _ => some (.int r)) (fun _ => wv z ad E N)) args s 0 0 A) (F0 m 0 ls []) := by
    intro H locs args hts hP hS
    unfold f_Wa_votesIn at h
    refine lv_iconst (v := 0) hx hb d_12_7_0 (by decide +kernel) ?_
    refine lv_istore_n (lv' := [(3, .int 0), (0, .ref (ad 219)), (1, .int x1), (2, .int x2)]) hx hb d_12_7_1 rfl hl (by decide) rfl (fun ls hl => ?_)
    refine lv_iload_n hx hb d_12_7_2 rfl (lv_at hl 2 rfl) ?_
    refine lv_if_ne (tgt := 10) hx hb d_12_7_3 (by decide) (fun c9 => ?_) (fun c9 => ?_)
    · have h := ite_f c9 h
      refine lv_aload_n hx hb d_12_7_10 rfl (lv_at hl 1 rfl) ?_
      refine m_gr (j := 242) (C := "Ballothall$Wards") (T := TX10) (N := 5) (ci := 10) (k := 4) hx hb hts iX10 hown hG hP (yi_219 hL) (yt_219 hL) rfl (by decide) w_363 (fun _ h9 => h9) rfl rfl (yr_219_4 hL) d_12_7_11 ?_
      refine lv_iload_n hx hb d_12_7_14 rfl (lv_at hl 2 rfl) ?_
      refine lv_iconst (v := 1) hx hb d_12_7_15 (by decide +kernel) ?_
      refine lv_isub hx hb d_12_7_16 ?_
      obtain ⟨ok0, h⟩ := ck_e h
      refine m_ia hx hb hG hP (yi_242 hL) (yt_242 hL) ok0 d_12_7_17 ?_
      refine lv_iconst (v := 1) hx hb d_12_7_18 (by decide +kernel) ?_
      refine lv_iadd hx hb d_12_7_19 ?_
      obtain ⟨v1, e1, h⟩ := nb_e h
      refine nrm e1.symm ?_
      refine lv_istore (lv' := [(4, .int v1), (3, .int 0), (0, .ref (ad 219)), (1, .int x1), (2, .int x2)]) hx hb d_12_7_20 hl (by decide) rfl (fun ls hl => ?_)
      obtain ⟨⟨t6, v6_3, v6_4, M6⟩, g6, h⟩ := bd_e h
      obtain ⟨ok6, h⟩ := ck_e h
      refine s_Wa_votesIn_22 l z ad E x1 x2 hx hb hml hts hown hlocks hA hG hZ hL FU M 0 v1 t6 v6_3 v6_4 M6 g6 (fun e6 H locs ls hP hD hS hl => ?_) H locs ls hP hD hS (lv_sub hl [2, 3, 4, 1, 0] rfl)
      refine lv_iload_n hx hb d_12_7_51 rfl (lv_at hl 0 rfl) ?_
      obtain ⟨rfl, rfl⟩ := in2 h
      exact W.iret hx hb hr (fun t ht hW => qkA hP hD hS (fun k => k) rfl rfl ht) hS.2.2 d_12_7_52
    · have h := ite_t c9 h
      refine lv_iconst (v := 0) hx hb d_12_7_6 (by decide +kernel) ?_
      refine lv_goto (tgt := 20) hx hb d_12_7_7 (by decide) ?_
      refine lv_istore (lv' := [(4, .int 0), (3, .int 0), (0, .ref (ad 219)), (1, .int x1), (2, .int x2)]) hx hb d_12_7_20 hl (by decide) rfl (fun ls hl => ?_)
      obtain ⟨⟨t7, v7_3, v7_4, M7⟩, g7, h⟩ := bd_e h
      obtain ⟨ok7, h⟩ := ck_e h
      refine s_Wa_votesIn_22 l z ad E x1 x2 hx hb hml hts hown hlocks hA hG hZ hL FU M 0 0 t7 v7_3 v7_4 M7 g7 (fun e7 H locs ls hP hD hS hl => ?_) H locs ls hP hD hS (lv_sub hl [2, 3, 4, 1, 0] rfl)
      refine lv_iload_n hx hb d_12_7_51 rfl (lv_at hl 0 rfl) ?_
      obtain ⟨rfl, rfl⟩ := in2 h
      exact W.iret hx hb hr (fun t ht hW => qkA hP hD hS (fun k => k) rfl rfl ht) hS.2.2 d_12_7_52
  exact key _ _ _ hts hP hS
set_option maxRecDepth 100000 in
set_option maxHeartbeats 4000000 in
theorem b_B_districtsWon_32b (l : Launch) (z : Zz) (ad : Nat → Nat) (E : Ev) (M : Mm) (x1 : Int32) (x2 : Int32) (x3 : Int32) (x4 : Int32) (t : Nat) (w3 : Int32) (w4 : Int32) (N : Mm) {Q : State → Prop} {p : Program} {e : Env} {s : State} {m : MethodId} {below : List Frame} {meth : Method} {c : Code} {A : Nat → Prop} {args : Array Value} (hx : p.tables.exec = Jvm.exec) (hb : c.code = prog_1_method_44_code) (hml : c.maxLocals = 5) (hts : ∀ w ∈ WG, w.before args s = true) (hown : s.vm.findClass "Ballothall" = some m.cls) (hlocks : meth.locks = false) (hA : ∀ q, s.heap.size ≤ q → A q) (hG : KG z s) (hZ : FZ z A s) (hL : Lay E) (h : B_districtsWon_32b E M x1 x2 x3 x4 = some (t, w3, w4, N)) (k0 : t = 0 → ∀ (H : Heap) (locs : List Loc) (ls : Array Slot), va_P z.1 classes (wv z ad E N) H → va_D A (wv z ad E N) → va_S A s.heap H locs → lv_has ls 5 [(0, .ref (ad 1)), (1, .int x1), (2, .int x2), (3, .int w3), (4, .int w4)] → W p l e (rmK 3 91 0 0) s m args below meth c H locs 0 0 Q (F0 m 32 ls [])) (k1 : t = 1 → ∀ (H : Heap) (locs : List Loc) (ls : Array Slot), va_P z.1 classes (wv z ad E N) H → va_D A (wv z ad E N) → va_S A s.heap H locs → lv_has ls 5 [(3, .int w3)] → W p l e (rmK 3 91 0 0) s m args below meth c H locs 0 0 Q (F0 m 72 ls [])) : ∀ (H : Heap) (locs : List Loc) (ls : Array Slot), va_P z.1 classes (wv z ad E M) H → va_D A (wv z ad E M) → va_S A s.heap H locs → lv_has ls 5 [(0, .ref (ad 1)), (1, .int x1), (2, .int x2), (3, .int x3), (4, .int x4)] → W p l e (rmK 3 91 0 0) s m args below meth c H locs 0 0 Q (F0 m 32 ls []) := by
  intro H locs ls hP hD hS hl
  unfold B_districtsWon_32b at h
  refine lv_iload hx hb d_1_44_32 (lv_at hl 4 rfl) ?_
  refine lv_iload_n hx hb d_1_44_34 rfl (lv_at hl 1 rfl) ?_
  refine lv_icmp_ge (tgt := 72) hx hb d_1_44_35 (by decide) (fun c9 => ?_) (fun c9 => ?_)
  · have h := ite_t c9 h
    obtain ⟨rfl, rfl, rfl, rfl⟩ := in4 h
    exact k1 rfl H locs ls hP hD hS (lv_sub hl [3] rfl)
  · have h := ite_f c9 h
    refine lv_aload_n hx hb d_1_44_38 rfl (lv_at hl 0 rfl) ?_
    refine m_gr (j := 219) (C := "Ballothall") (T := TX11) (N := 14) (ci := 11) (k := 5) hx hb hts iX11 hown hG hP (yi_1 hL) (yt_1 hL) rfl (by decide) w_402 (fun _ h9 => h9) rfl rfl (yr_1_5 hL) d_1_44_39 ?_
    refine lv_iload hx hb d_1_44_42 (lv_at hl 4 rfl) ?_
    refine lv_iload_n hx hb d_1_44_44 rfl (lv_at hl 2 rfl) ?_
    obtain ⟨⟨r3, M3⟩, g3, h⟩ := bd_e h
    refine kVN (As := [.int x4, .int x2]) (rest := []) (s_Wa_votesIn l z ad E M x4 x2 r3 M3 hL g3) hx hb hml hown hts w_1648 n_1645 w_1647 w_s_a85b93 w_10 md_2866d7 ⟨Nat.le_of_ble_eq_true rfl, Nat.le_of_ble_eq_true rfl⟩ hG hZ hP hD hS hA 219 (wv_o (ci := 10) (yi_219 hL) (yt_219 hL)) rfl rfl rfl hl.1 rfl (Nat.le_of_ble_eq_true rfl) d_1_44_45 ⟨Nat.le_of_ble_eq_true rfl, Nat.le_of_ble_eq_true rfl⟩ (fun _ H locs hP hD hS => ?_)
    have hP : va_P z.1 classes (wv z ad E M3) H := hP
    have hD : va_D A (wv z ad E M3) := hD
    refine W.eq (g2 := F0 m 48 ls [.int r3]) rfl ?_
    refine lv_aload_n hx hb d_1_44_48 rfl (lv_at hl 0 rfl) ?_
    refine m_gr (j := 219) (C := "Ballothall") (T := TX11) (N := 14) (ci := 11) (k := 5) hx hb hts iX11 hown hG hP (yi_1 hL) (yt_1 hL) rfl (by decide) w_402 (fun _ h9 => h9) rfl rfl (yr_1_5 hL) d_1_44_49 ?_
    refine lv_iload hx hb d_1_44_52 (lv_at hl 4 rfl) ?_
    refine lv_iconst (v := 1) hx hb d_1_44_54 (by decide +kernel) ?_
    refine lv_iload_n hx hb d_1_44_55 rfl (lv_at hl 2 rfl) ?_
    refine lv_isub hx hb d_1_44_56 ?_
    obtain ⟨⟨r4, M4⟩, g4, h⟩ := bd_e h
    refine kVN (As := [.int x4, .int ((1 : Int32) - x2)]) (rest := [.int r3]) (s_Wa_votesIn l z ad E M3 x4 ((1 : Int32) - x2) r4 M4 hL g4) hx hb hml hown hts w_1648 n_1645 w_1647 w_s_a85b93 w_10 md_2866d7 ⟨Nat.le_of_ble_eq_true rfl, Nat.le_of_ble_eq_true rfl⟩ hG hZ hP hD hS hA 219 (wv_o (ci := 10) (yi_219 hL) (yt_219 hL)) rfl rfl rfl hl.1 rfl (Nat.le_of_ble_eq_true rfl) d_1_44_57 ⟨Nat.le_of_ble_eq_true rfl, Nat.le_of_ble_eq_true rfl⟩ (fun _ H locs hP hD hS => ?_)
    have hP : va_P z.1 classes (wv z ad E M4) H := hP
    have hD : va_D A (wv z ad E M4) := hD
    refine W.eq (g2 := F0 m 60 ls [.int r4, .int r3]) rfl ?_
    refine lv_icmp_le (tgt := 66) hx hb d_1_44_60 (by decide) (fun c9 => ?_) (fun c9 => ?_)
    · have h := ite_t c9 h
      refine lv_iinc (v := (x4 + 1)) (lv' := [(4, .int (x4 + 1)), (0, .ref (ad 1)), (1, .int x1), (2, .int x2), (3, .int x3)]) hx hb d_1_44_66 hl (k := 4) rfl (congrArg (fun q => x4 + q) (show Int32.ofInt 1 = 1 by decide +kernel)) (by decide) rfl (fun ls hl => ?_)
      refine lv_goto (tgt := 32) hx hb d_1_44_69 (by decide) ?_
      obtain ⟨rfl, rfl, rfl, rfl⟩ := in4 h
      exact k0 rfl H locs ls hP hD hS (lv_sub hl [1, 2, 3, 4, 0] rfl)
    · have h := ite_f c9 h
      refine lv_iinc (v := (x3 + 1)) (lv' := [(3, .int (x3 + 1)), (0, .ref (ad 1)), (1, .int x1), (2, .int x2), (4, .int x4)]) hx hb d_1_44_63 hl (k := 3) rfl (congrArg (fun q => x3 + q) (show Int32.ofInt 1 = 1 by decide +kernel)) (by decide) rfl (fun ls hl => ?_)
      refine lv_iinc (v := (x4 + 1)) (lv' := [(4, .int (x4 + 1)), (3, .int (x3 + 1)), (0, .ref (ad 1)), (1, .int x1), (2, .int x2)]) hx hb d_1_44_66 hl (k := 4) rfl (congrArg (fun q => x4 + q) (show Int32.ofInt 1 = 1 by decide +kernel)) (by decide) rfl (fun ls hl => ?_)
      refine lv_goto (tgt := 32) hx hb d_1_44_69 (by decide) ?_
      obtain ⟨rfl, rfl, rfl, rfl⟩ := in4 h
      exact k0 rfl H locs ls hP hD hS (lv_sub hl [2, 3, 4, 1, 0] rfl)
set_option maxRecDepth 100000 in
set_option maxHeartbeats 4000000 in
theorem s_B_districtsWon_32 (l : Launch) (z : Zz) (ad : Nat → Nat) (E : Ev) (x1 : Int32) (x2 : Int32) {Q : State → Prop} {p : Program} {e : Env} {s : State} {m : MethodId} {below : List Frame} {meth : Method} {c : Code} {A : Nat → Prop} {args : Array Value} (hx : p.tables.exec = Jvm.exec) (hb : c.code = prog_1_method_44_code) (hml : c.maxLocals = 5) (hts : ∀ w ∈ WG, w.before args s = true) (hown : s.vm.findClass "Ballothall" = some m.cls) (hlocks : meth.locks = false) (hA : ∀ q, s.heap.size ≤ q → A q) (hG : KG z s) (hZ : FZ z A s) (hL : Lay E) : ∀ (fu : Nat) (M : Mm) (x3 : Int32) (x4 : Int32) (t : Nat) (w3 : Int32) (w4 : Int32) (N : Mm), l_B_districtsWon_32 E x1 x2 fu M x3 x4 = some (t, w3, w4, N) → (t = 1 → ∀ (H : Heap) (locs : List Loc) (ls : Array Slot), va_P z.1 classes (wv z ad E N) H → va_D A (wv z ad E N) → va_S A s.heap H locs → lv_has ls 5 [(3, .int w3)] → W p l e (rmK 3 91 0 0) s m args below meth c H locs 0 0 Q (F0 m 72 ls [])) → ∀ (H : Heap) (locs : List Loc) (ls : Array Slot), va_P z.1 classes (wv z ad E M) H → va_D A (wv z ad E M) → va_S A s.heap H locs → lv_has ls 5 [(0, .ref (ad 1)), (1, .int x1), (2, .int x2), (3, .int x3), (4, .int x4)] → W p l e (rmK 3 91 0 0) s m args below meth c H locs 0 0 Q (F0 m 32 ls []) := by
  intro fu
  induction fu with
  | zero =>
    intro M x3 x4 t w3 w4 N h
    have h : (none : Option (Nat × Int32 × Int32 × Mm)) = some _ := h
    cases h
  | succ fu ih =>
    intro M x3 x4 t w3 w4 N h k1 H locs ls hP hD hS hl
    obtain ⟨⟨t0, w30, w40, N0⟩, g0, h⟩ := bd_e h
    refine b_B_districtsWon_32b l z ad E M x1 x2 x3 x4 t0 w30 w40 N0 hx hb hml hts hown hlocks hA hG hZ hL g0 (fun e0 => ?_) (fun e0 => ?_) H locs ls hP hD hS hl
    · subst e0
      have h := ite_t rfl h
      exact ih N0 w30 w40 t w3 w4 N h k1
    · subst e0
      have h := ite_f (by decide) h
      obtain ⟨rfl, rfl, rfl, rfl⟩ := in4 h
      exact k1 rfl
set_option maxRecDepth 100000 in
set_option maxHeartbeats 4000000 in
theorem s_B_districtsWon (l : Launch) (z : Zz) (ad : Nat → Nat) (E : Ev) (M : Mm) (x1 : Int32) (x2 : Int32) (r : Int32) (N : Mm) (hL : Lay E) (h : f_B_districtsWon E M x1 x2 = some (r, N)) : CT l z ⟨"Ballothall", "districtsWon", "(II)I"⟩ prog_1_method_44_code 5 (some .int) [.ref (ad 1), .int x1, .int x2] (wv z ad E M) 3 91 0 0 (fun _ => some (.int r)) (fun _ => wv z ad E N) := by
  refine CT.of (own := "Ballothall") (by decide +kernel) (Nat.le_of_ble_eq_true rfl) rfl (fun p e s m below meth c A ls hx hb hml hr hts hown hlocks hin hA hG hZ hP hD hS hl => ?_)
  have hl : lv_has ls 5 [(0, .ref (ad 1)), (1, .int x1), (2, .int x2)] := hl
  have key : ∀ (H : Heap) (locs : List Loc) (args : Array Value), (∀ w ∈ WG, w.before args s = true) → va_P z.1 classes (wv z ad E M) H → va_S A s.heap H locs → W p l e (rmK 3 91 0 0) s m args below meth c H locs 0 0 (MQ below (QK z A (fun _ => some (.int r)) (fun _ => wv z ad E N)) args s 0 0 A) (F0 m 0 ls []) := by
    intro H locs args hts hP hS
    unfold f_B_districtsWon at h
    refine lv_iload_n hx hb d_1_44_0 rfl (lv_at hl 1 rfl) ?_
    refine lv_iconst (v := 1) hx hb d_1_44_1 (by decide +kernel) ?_
    refine lv_aload_n hx hb d_1_44_2 rfl (lv_at hl 0 rfl) ?_
    refine m_gr (j := 219) (C := "Ballothall") (T := TX11) (N := 14) (ci := 11) (k := 5) hx hb hts iX11 hown hG hP (yi_1 hL) (yt_1 hL) rfl (by decide) w_402 (fun _ h9 => h9) rfl rfl (yr_1_5 hL) d_1_44_3 ?_
    refine m_giN (C := "Ballothall$Wards") (T := TX10) (N := 5) (ci := 10) (k := 0) hx hb hts iX10 hown hG hP (yi_219 hL) (yt_219 hL) rfl (by decide) n_359 rfl (fun _ h9 => h9) rfl rfl d_1_44_6 ?_
    obtain ⟨M0, g0, h⟩ := bd_e h
    refine kS (As := [.int x1, .int 1, .int (M.1 219 0)]) (rest := []) (s_B_needRange l z ad E M x1 1 (M.1 219 0) M0 hL g0) hx hb hml hown hts w_548 w_546 w_547 w_1 md_519134 ⟨Nat.le_of_ble_eq_true rfl, Nat.le_of_ble_eq_true rfl⟩ hG hZ hP hD hS hA rfl hl.1 rfl (Nat.le_of_ble_eq_true rfl) d_1_44_9 ⟨Nat.le_of_ble_eq_true rfl, Nat.le_of_ble_eq_true rfl⟩ (fun _ H locs hP hD hS => ?_)
    have hP : va_P z.1 classes (wv z ad E M0) H := hP
    have hD : va_D A (wv z ad E M0) := hD
    refine W.eq (g2 := F0 m 12 ls []) rfl ?_
    refine lv_iload_n hx hb d_1_44_12 rfl (lv_at hl 2 rfl) ?_
    refine lv_iconst (v := 0) hx hb d_1_44_13 (by decide +kernel) ?_
    refine lv_iconst (v := 1) hx hb d_1_44_14 (by decide +kernel) ?_
    obtain ⟨M1, g1, h⟩ := bd_e h
    refine kS (As := [.int x2, .int 0, .int 1]) (rest := []) (s_B_needRange l z ad E M0 x2 0 1 M1 hL g1) hx hb hml hown hts w_548 w_546 w_547 w_1 md_519134 ⟨Nat.le_of_ble_eq_true rfl, Nat.le_of_ble_eq_true rfl⟩ hG hZ hP hD hS hA rfl hl.1 rfl (Nat.le_of_ble_eq_true rfl) d_1_44_15 ⟨Nat.le_of_ble_eq_true rfl, Nat.le_of_ble_eq_true rfl⟩ (fun _ H locs hP hD hS => ?_)
    have hP : va_P z.1 classes (wv z ad E M1) H := hP
    have hD : va_D A (wv z ad E M1) := hD
    refine W.eq (g2 := F0 m 18 ls []) rfl ?_
    refine lv_aload_n hx hb d_1_44_18 rfl (lv_at hl 0 rfl) ?_
    refine m_gr (j := 219) (C := "Ballothall") (T := TX11) (N := 14) (ci := 11) (k := 5) hx hb hts iX11 hown hG hP (yi_1 hL) (yt_1 hL) rfl (by decide) w_402 (fun _ h9 => h9) rfl rfl (yr_1_5 hL) d_1_44_19 ?_
    refine lv_iload_n hx hb d_1_44_22 rfl (lv_at hl 1 rfl) ?_
    obtain ⟨⟨r2, M2⟩, g2, h⟩ := bd_e h
    refine kVN (As := [.int x1]) (rest := []) (s_Wa_divide l z ad E M1 x1 r2 M2 hL g2) hx hb hml hown hts w_1621 n_1618 w_1620 w_s_af9e07 w_10 md_d7e64c ⟨Nat.le_of_ble_eq_true rfl, Nat.le_of_ble_eq_true rfl⟩ hG hZ hP hD hS hA 219 (wv_o (ci := 10) (yi_219 hL) (yt_219 hL)) rfl rfl rfl hl.1 rfl (Nat.le_of_ble_eq_true rfl) d_1_44_23 ⟨Nat.le_of_ble_eq_true rfl, Nat.le_of_ble_eq_true rfl⟩ (fun _ H locs hP hD hS => ?_)
    have hP : va_P z.1 classes (wv z ad E M2) H := hP
    have hD : va_D A (wv z ad E M2) := hD
    refine W.eq (g2 := F0 m 26 ls [.int r2]) rfl ?_
    refine lv_pop hx hb d_1_44_26 rfl ?_
    refine lv_iconst (v := 0) hx hb d_1_44_27 (by decide +kernel) ?_
    refine lv_istore_n (lv' := [(3, .int 0), (0, .ref (ad 1)), (1, .int x1), (2, .int x2)]) hx hb d_1_44_28 rfl hl (by decide) rfl (fun ls hl => ?_)
    refine lv_iconst (v := 0) hx hb d_1_44_29 (by decide +kernel) ?_
    refine lv_istore (lv' := [(4, .int 0), (3, .int 0), (0, .ref (ad 1)), (1, .int x1), (2, .int x2)]) hx hb d_1_44_30 hl (by decide) rfl (fun ls hl => ?_)
    obtain ⟨⟨t5, v5_3, v5_4, M5⟩, g5, h⟩ := bd_e h
    obtain ⟨ok5, h⟩ := ck_e h
    refine s_B_districtsWon_32 l z ad E x1 x2 hx hb hml hts hown hlocks hA hG hZ hL FU M2 0 0 t5 v5_3 v5_4 M5 g5 (fun e5 H locs ls hP hD hS hl => ?_) H locs ls hP hD hS (lv_sub hl [2, 3, 4, 1, 0] rfl)
    refine lv_iload_n hx hb d_1_44_72 rfl (lv_at hl 0 rfl) ?_
    obtain ⟨rfl, rfl⟩ := in2 h
    exact W.iret hx hb hr (fun t ht hW => qkA hP hD hS (fun k => k) rfl rfl ht) hS.2.2 d_1_44_73
  exact key _ _ _ hts hP hS
set_option maxRecDepth 100000 in
set_option maxHeartbeats 4000000 in
theorem s_B_electedAt (l : Launch) (z : Zz) (ad : Nat → Nat) (E : Ev) (M : Mm) (x1 : Int32) (r : Int32) (N : Mm) (hL : Lay E) (h : f_B_electedAt E M x1 = some (r, N)) : CT l z ⟨"Ballothall", "electedAt", "(I)I"⟩ prog_1_method_19_code 3 (some .int) [.ref (ad 1), .int x1] (wv z ad E M) 1 40 0 0 (fun _ => some (.int r)) (fun _ => wv z ad E N) := by
  refine CT.of (own := "Ballothall") (by decide +kernel) (Nat.le_of_ble_eq_true rfl) rfl (fun p e s m below meth c A ls hx hb hml hr hts hown hlocks hin hA hG hZ hP hD hS hl => ?_)
  have hl : lv_has ls 3 [(0, .ref (ad 1)), (1, .int x1)] := hl
  have key : ∀ (H : Heap) (locs : List Loc) (args : Array Value), (∀ w ∈ WG, w.before args s = true) → va_P z.1 classes (wv z ad E M) H → va_S A s.heap H locs → W p l e (rmK 1 40 0 0) s m args below meth c H locs 0 0 (MQ below (QK z A (fun _ => some (.int r)) (fun _ => wv z ad E N)) args s 0 0 A) (F0 m 0 ls []) := by
    intro H locs args hts hP hS
    unfold f_B_electedAt at h
    refine lv_aload_n hx hb d_1_19_0 rfl (lv_at hl 0 rfl) ?_
    refine m_gr (j := 179) (C := "Ballothall") (T := TX11) (N := 14) (ci := 11) (k := 4) hx hb hts iX11 hown hG hP (yi_1 hL) (yt_1 hL) rfl (by decide) w_401 (fun _ h9 => h9) rfl rfl (yr_1_4 hL) d_1_19_1 ?_
    obtain ⟨⟨r0, M0⟩, g0, h⟩ := bd_e h
    refine kVN (As := []) (rest := []) (s_Co_latest l z ad E M r0 M0 hL g0) hx hb hml hown hts w_596 n_593 w_595 w_s_ad1675 w_8 md_6f7cc1 ⟨Nat.le_of_ble_eq_true rfl, Nat.le_of_ble_eq_true rfl⟩ hG hZ hP hD hS hA 179 (wv_o (ci := 3) (yi_179 hL) (yt_179 hL)) rfl rfl rfl hl.1 rfl (Nat.le_of_ble_eq_true rfl) d_1_19_4 ⟨Nat.le_of_ble_eq_true rfl, Nat.le_of_ble_eq_true rfl⟩ (fun _ H locs hP hD hS => ?_)
    have hP : va_P z.1 classes (wv z ad E M0) H := hP
    have hD : va_D A (wv z ad E M0) := hD
    cases r0 with
    | none =>
      refine W.eq (g2 := F0 m 7 ls [.null]) rfl ?_
      refine lv_astore_nN (lv' := [(2, .null), (0, .ref (ad 1)), (1, .int x1)]) hx hb d_1_19_7 rfl hl (by decide) rfl (fun ls hl => ?_)
      refine lv_aload_nN hx hb d_1_19_8 rfl (lv_at hl 0 rfl) ?_
      refine lv_ifnullN (tgt := 24) hx hb d_1_19_9 (by decide) ?_
      cases h
    | some p0 =>
      obtain ⟨h_p0, h⟩ := ck_e h
      refine W.eq (g2 := F0 m 7 ls [.ref (ad p0)]) rfl ?_
      refine lv_astore_n (lv' := [(2, .ref (ad p0)), (0, .ref (ad 1)), (1, .int x1)]) hx hb d_1_19_7 rfl hl (by decide) rfl (fun ls hl => ?_)
      refine lv_aload_n hx hb d_1_19_8 rfl (lv_at hl 0 rfl) ?_
      refine lv_ifnull hx hb d_1_19_9 ?_
      refine lv_iload_n hx hb d_1_19_12 rfl (lv_at hl 2 rfl) ?_
      refine lv_if_lt (tgt := 24) hx hb d_1_19_13 (by decide) (fun c9 => ?_) (fun c9 => ?_)
      · have h := ite_t c9 h
        cases h
      · have h := ite_f c9 h
        refine lv_iload_n hx hb d_1_19_16 rfl (lv_at hl 2 rfl) ?_
        refine lv_aload_n hx hb d_1_19_17 rfl (lv_at hl 0 rfl) ?_
        refine m_giN (C := "Ballothall$Count") (T := TX2) (N := 10) (ci := 2) (k := 4) hx hb hts iX2 hown hG hP (isCt_i h_p0) (isCt_T h_p0) rfl (by decide) n_1087 rfl (fun _ h9 => h9) rfl rfl d_1_19_18 ?_
        refine lv_icmp_lt (tgt := 34) hx hb d_1_19_21 (by decide) (fun c9 => ?_) (fun c9 => ?_)
        · have h := ite_t c9 h
          refine lv_aload_n hx hb d_1_19_34 rfl (lv_at hl 0 rfl) ?_
          refine m_grN (j := (p0 + 2)) (C := "Ballothall$Count") (T := TX2) (N := 10) (ci := 2) (k := 7) hx hb hts iX2 hown hG hP (isCt_i h_p0) (isCt_T h_p0) rfl (by decide) n_1095 rfl (fun _ h9 => h9) rfl rfl (isCt_r7 h_p0) d_1_19_35 ?_
          refine lv_iload_n hx hb d_1_19_38 rfl (lv_at hl 2 rfl) ?_
          obtain ⟨ok1, h⟩ := ck_e h
          refine m_ia hx hb hG hP (isCt_i2 h_p0) (isCt_t2 h_p0) ok1 d_1_19_39 ?_
          obtain ⟨rfl, rfl⟩ := in2 h
          exact W.iret hx hb hr (fun t ht hW => qkA hP hD hS (fun k => k) rfl rfl ht) hS.2.2 d_1_19_40
        · have h := ite_f c9 h
          cases h
  exact key _ _ _ hts hP hS
set_option maxRecDepth 100000 in
set_option maxHeartbeats 4000000 in
theorem s_Li_latest (l : Launch) (z : Zz) (ad : Nat → Nat) (E : Ev) (M : Mm) (r : Nat) (N : Mm) (hL : Lay E) (h : f_Li_latest E M = some (r, N)) : CT l z ⟨"Ballothall$Lists", "latest", "()LBallothall$KeptSeats;"⟩ prog_9_method_3_code 1 (some (.object "Ballothall$KeptSeats")) [.ref (ad 53)] (wv z ad E M) 0 20 0 0 (fun _ => some (.ref (ad r))) (fun _ => wv z ad E N) := by
  refine CT.of (own := "Ballothall$Lists") (by decide +kernel) (Nat.le_of_ble_eq_true rfl) rfl (fun p e s m below meth c A ls hx hb hml hr hts hown hlocks hin hA hG hZ hP hD hS hl => ?_)
  have hl : lv_has ls 1 [(0, .ref (ad 53))] := hl
  have key : ∀ (H : Heap) (locs : List Loc) (args : Array Value), (∀ w ∈ WG, w.before args s = true) → va_P z.1 classes (wv z ad E M) H → va_S A s.heap H locs → W p l e (rmK 0 20 0 0) s m args below meth c H locs 0 0 (MQ below (QK z A (fun _ => some (.ref (ad r))) (fun _ => wv z ad E N)) args s 0 0 A) (F0 m 0 ls []) := by
    intro H locs args hts hP hS
    unfold f_Li_latest at h
    refine lv_aload_n hx hb d_9_3_0 rfl (lv_at hl 0 rfl) ?_
    refine m_gr (j := 73) (C := "Ballothall$Lists") (T := TX7) (N := 11) (ci := 7) (k := 9) hx hb hts iX7 hown hG hP (yi_53 hL) (yt_53 hL) rfl (by decide) w_254 (fun _ h9 => h9) rfl rfl (yr_53_9 hL) d_9_3_1 ?_
    refine lv_aload_n hx hb d_9_3_4 rfl (lv_at hl 0 rfl) ?_
    refine m_gi (C := "Ballothall$Lists") (T := TX7) (N := 11) (ci := 7) (k := 10) hx hb hts iX7 hown hG hP (yi_53 hL) (yt_53 hL) rfl (by decide) w_255 (fun _ h9 => h9) rfl rfl d_9_3_5 ?_
    obtain ⟨ok0, h⟩ := ck_e h
    refine m_aa (k := (74 + 5 * (M.1 53 10).toNatClampNeg)) (t := 3) (C := "Ballothall$KeptSeats") hx hb hG hP (yi_73 hL) (yt_73 hL) rfl rfl ok0 (ya_73 hL (inb_lt ok0)) d_9_3_8 ?_
    obtain ⟨rfl, rfl⟩ := in2 h
    exact W.aret hx hb hr (Or.inl ⟨_, rfl⟩) (Or.inr ⟨_, rfl⟩) (fun t ht hW => qkA hP hD hS (fun k => k) rfl rfl ht) hS.2.2 d_9_3_9
  exact key _ _ _ hts hP hS
set_option maxRecDepth 100000 in
set_option maxHeartbeats 4000000 in
theorem s_Li_isAsThen (l : Launch) (z : Zz) (ad : Nat → Nat) (E : Ev) (M : Mm) (x1 : Int32) (r : Int32) (N : Mm) (hL : Lay E) (h : f_Li_isAsThen E M x1 = some (r, N)) : CT l z ⟨"Ballothall$Lists", "isAsThen", "(I)Z"⟩ prog_9_method_13_code 3 (some .boolean) [.ref (ad 53), .int x1] (wv z ad E M) 1 40 0 0 (fun _ => some (.int r)) (fun _ => wv z ad E N) := by
  refine CT.of (own := "Ballothall$Lists") (by decide +kernel) (Nat.le_of_ble_eq_true rfl) rfl (fun p e s m below meth c A ls hx hb hml hr hts hown hlocks hin hA hG hZ hP hD hS hl => ?_)
  have hl : lv_has ls 3 [(0, .ref (ad 53)), (1, .int x1)] := hl
  have key : ∀ (H : Heap) (locs : List Loc) (args : Array Value), (∀ w ∈ WG, w.before args s = true) → va_P z.1 classes (wv z ad E M) H → va_S A s.heap H locs → W p l e (rmK 1 40 0 0) s m args below meth c H locs 0 0 (MQ below (QK z A (fun _ => some (.int r)) (fun _ => wv z ad E N)) args s 0 0 A) (F0 m 0 ls []) := by
    intro H locs args hts hP hS
    unfold f_Li_isAsThen at h
    refine lv_aload_n hx hb d_9_13_0 rfl (lv_at hl 0 rfl) ?_
    obtain ⟨⟨r0, M0⟩, g0, h⟩ := bd_e h
    refine kV (As := []) (rest := []) (s_Li_latest l z ad E M r0 M0 hL g0) hx hb hml hown hts w_584 w_581 w_583 w_s_46c41a w_5 md_cb0049 ⟨Nat.le_of_ble_eq_true rfl, Nat.le_of_ble_eq_true rfl⟩ hG hZ hP hD hS hA 53 (wv_o (ci := 7) (yi_53 hL) (yt_53 hL)) rfl rfl rfl hl.1 rfl (Nat.le_of_ble_eq_true rfl) d_9_13_1 ⟨Nat.le_of_ble_eq_true rfl, Nat.le_of_ble_eq_true rfl⟩ (fun _ H locs hP hD hS => ?_)
    have hP : va_P z.1 classes (wv z ad E M0) H := hP
    have hD : va_D A (wv z ad E M0) := hD
    obtain ⟨h_r0, h⟩ := ck_e h
    refine W.eq (g2 := F0 m 4 ls [.ref (ad r0)]) rfl ?_
    refine lv_astore_n (lv' := [(2, .ref (ad r0)), (0, .ref (ad 53)), (1, .int x1)]) hx hb d_9_13_4 rfl hl (by decide) rfl (fun ls hl => ?_)
    refine lv_iload_n hx hb d_9_13_5 rfl (lv_at hl 2 rfl) ?_
    refine lv_aload_n hx hb d_9_13_6 rfl (lv_at hl 0 rfl) ?_
    refine m_giN (C := "Ballothall$KeptSeats") (T := TX6) (N := 7) (ci := 6) (k := 2) hx hb hts iX6 hown hG hP (isKs_i h_r0) (isKs_T h_r0) rfl (by decide) n_216 rfl (fun _ h9 => h9) rfl rfl d_9_13_7 ?_
    refine lv_icmp_ge (tgt := 50) hx hb d_9_13_10 (by decide) (fun c9 => ?_) (fun c9 => ?_)
    · have h := ite_t c9 h
      refine lv_iconst (v := 0) hx hb d_9_13_50 (by decide +kernel) ?_
      obtain ⟨rfl, rfl⟩ := in2 h
      exact W.zret hx hb hr rfl (fun t ht hW => qkA hP hD hS (fun k => k) rfl rfl ht) hS.2.2 d_9_13_51
    · have h := ite_f c9 h
      refine lv_aload_n hx hb d_9_13_13 rfl (lv_at hl 1 rfl) ?_
      refine m_gr (j := 55) (C := "Ballothall$Lists") (T := TX7) (N := 11) (ci := 7) (k := 2) hx hb hts iX7 hown hG hP (yi_53 hL) (yt_53 hL) rfl (by decide) w_245 (fun _ h9 => h9) rfl rfl (yr_53_2 hL) d_9_13_14 ?_
      refine lv_iload_n hx hb d_9_13_17 rfl (lv_at hl 2 rfl) ?_
      obtain ⟨ok1, h⟩ := ck_e h
      refine m_ia hx hb hG hP (yi_55 hL) (yt_55 hL) ok1 d_9_13_18 ?_
      refine lv_if_ne (tgt := 50) hx hb d_9_13_19 (by decide) (fun c9 => ?_) (fun c9 => ?_)
      · have h := ite_f c9 h
        refine lv_iconst (v := 0) hx hb d_9_13_50 (by decide +kernel) ?_
        obtain ⟨rfl, rfl⟩ := in2 h
        exact W.zret hx hb hr rfl (fun t ht hW => qkA hP hD hS (fun k => k) rfl rfl ht) hS.2.2 d_9_13_51
      · have h := ite_t c9 h
        refine lv_aload_n hx hb d_9_13_22 rfl (lv_at hl 0 rfl) ?_
        refine m_grN (j := (r0 + 4)) (C := "Ballothall$KeptSeats") (T := TX6) (N := 7) (ci := 6) (k := 6) hx hb hts iX6 hown hG hP (isKs_i h_r0) (isKs_T h_r0) rfl (by decide) n_226 rfl (fun _ h9 => h9) rfl rfl (isKs_r6 h_r0) d_9_13_23 ?_
        refine lv_iload_n hx hb d_9_13_26 rfl (lv_at hl 2 rfl) ?_
        obtain ⟨ok2, h⟩ := ck_e h
        refine m_ia hx hb hG hP (isKs_i4 h_r0) (isKs_t4 h_r0) ok2 d_9_13_27 ?_
        refine lv_if_ne (tgt := 50) hx hb d_9_13_28 (by decide) (fun c9 => ?_) (fun c9 => ?_)
        · have h := ite_f c9 h
          refine lv_iconst (v := 0) hx hb d_9_13_50 (by decide +kernel) ?_
          obtain ⟨rfl, rfl⟩ := in2 h
          exact W.zret hx hb hr rfl (fun t ht hW => qkA hP hD hS (fun k => k) rfl rfl ht) hS.2.2 d_9_13_51
        · have h := ite_t c9 h
          refine lv_aload_n hx hb d_9_13_31 rfl (lv_at hl 1 rfl) ?_
          refine m_gr (j := 54) (C := "Ballothall$Lists") (T := TX7) (N := 11) (ci := 7) (k := 1) hx hb hts iX7 hown hG hP (yi_53 hL) (yt_53 hL) rfl (by decide) w_244 (fun _ h9 => h9) rfl rfl (yr_53_1 hL) d_9_13_32 ?_
          refine lv_iload_n hx hb d_9_13_35 rfl (lv_at hl 2 rfl) ?_
          obtain ⟨ok3, h⟩ := ck_e h
          refine m_ia hx hb hG hP (yi_54 hL) (yt_54 hL) ok3 d_9_13_36 ?_
          refine lv_aload_n hx hb d_9_13_37 rfl (lv_at hl 0 rfl) ?_
          refine m_grN (j := (r0 + 3)) (C := "Ballothall$KeptSeats") (T := TX6) (N := 7) (ci := 6) (k := 5) hx hb hts iX6 hown hG hP (isKs_i h_r0) (isKs_T h_r0) rfl (by decide) n_224 rfl (fun _ h9 => h9) rfl rfl (isKs_r5 h_r0) d_9_13_38 ?_
          refine lv_iload_n hx hb d_9_13_41 rfl (lv_at hl 2 rfl) ?_
          obtain ⟨ok4, h⟩ := ck_e h
          refine m_ia hx hb hG hP (isKs_i3 h_r0) (isKs_t3 h_r0) ok4 d_9_13_42 ?_
          refine lv_icmp_ne (tgt := 50) hx hb d_9_13_43 (by decide) (fun c9 => ?_) (fun c9 => ?_)
          · have h := ite_f c9 h
            refine lv_iconst (v := 0) hx hb d_9_13_50 (by decide +kernel) ?_
            obtain ⟨rfl, rfl⟩ := in2 h
            exact W.zret hx hb hr rfl (fun t ht hW => qkA hP hD hS (fun k => k) rfl rfl ht) hS.2.2 d_9_13_51
          · have h := ite_t c9 h
            refine lv_iconst (v := 1) hx hb d_9_13_46 (by decide +kernel) ?_
            refine lv_goto (tgt := 51) hx hb d_9_13_47 (by decide) ?_
            obtain ⟨rfl, rfl⟩ := in2 h
            exact W.zret hx hb hr rfl (fun t ht hW => qkA hP hD hS (fun k => k) rfl rfl ht) hS.2.2 d_9_13_51
  exact key _ _ _ hts hP hS
set_option maxRecDepth 100000 in
set_option maxHeartbeats 4000000 in
theorem b_Li_isUnjust_20b (l : Launch) (z : Zz) (ad : Nat → Nat) (E : Ev) (M : Mm) (q1 : Nat) (x2 : Int32) (x3 : Int32) (t : Nat) (w3 : Int32) (N : Mm) {Q : State → Prop} {p : Program} {e : Env} {s : State} {m : MethodId} {below : List Frame} {meth : Method} {c : Code} {A : Nat → Prop} {args : Array Value} (hx : p.tables.exec = Jvm.exec) (hb : c.code = prog_9_method_12_code) (hml : c.maxLocals = 4) (hts : ∀ w ∈ WG, w.before args s = true) (hown : s.vm.findClass "Ballothall$Lists" = some m.cls) (hlocks : meth.locks = false) (hA : ∀ q, s.heap.size ≤ q → A q) (hG : KG z s) (hZ : FZ z A s) (hL : Lay E) (h : Li_isUnjust_20b E M q1 x2 x3 = some (t, w3, N)) (k0 : t = 0 → ∀ (H : Heap) (locs : List Loc) (ls : Array Slot), va_P z.1 classes (wv z ad E N) H → va_D A (wv z ad E N) → va_S A s.heap H locs → lv_has ls 4 [(0, .ref (ad 53)), (1, .ref (ad q1)), (2, .int x2), (3, .int w3)] → W p l e (rmK 2 62 0 0) s m args below meth c H locs 0 0 Q (F0 m 20 ls [])) (k1 : t = 1 → ∀ (H : Heap) (locs : List Loc) (ls : Array Slot), va_P z.1 classes (wv z ad E N) H → va_D A (wv z ad E N) → va_S A s.heap H locs → lv_has ls 4 [] → W p l e (rmK 2 62 0 0) s m args below meth c H locs 0 0 Q (F0 m 68 ls [])) (k2 : t = 2 → ∀ (H : Heap) (locs : List Loc) (ls : Array Slot), va_P z.1 classes (wv z ad E N) H → va_D A (wv z ad E N) → va_S A s.heap H locs → lv_has ls 4 [(0, .ref (ad 53)), (1, .ref (ad q1)), (2, .int x2)] → W p l e (rmK 2 62 0 0) s m args below meth c H locs 0 0 Q (F0 m 76 ls [])) : ∀ (H : Heap) (locs : List Loc) (ls : Array Slot), va_P z.1 classes (wv z ad E M) H → va_D A (wv z ad E M) → va_S A s.heap H locs → lv_has ls 4 [(0, .ref (ad 53)), (1, .ref (ad q1)), (2, .int x2), (3, .int x3)] → W p l e (rmK 2 62 0 0) s m args below meth c H locs 0 0 Q (F0 m 20 ls []) := by
  intro H locs ls hP hD hS hl
  unfold Li_isUnjust_20b at h
  obtain ⟨h_q1, h⟩ := ck_e h
  refine lv_iload_n hx hb d_9_12_20 rfl (lv_at hl 3 rfl) ?_
  refine lv_aload_n hx hb d_9_12_21 rfl (lv_at hl 0 rfl) ?_
  refine m_gi (C := "Ballothall$Lists") (T := TX7) (N := 11) (ci := 7) (k := 0) hx hb hts iX7 hown hG hP (yi_53 hL) (yt_53 hL) rfl (by decide) w_242 (fun _ h9 => h9) rfl rfl d_9_12_22 ?_
  refine lv_icmp_ge (tgt := 76) hx hb d_9_12_25 (by decide) (fun c9 => ?_) (fun c9 => ?_)
  · have h := ite_t c9 h
    obtain ⟨rfl, rfl, rfl⟩ := in3 h
    exact k2 rfl H locs ls hP hD hS (lv_sub hl [0, 1, 2] rfl)
  · have h := ite_f c9 h
    refine lv_aload_n hx hb d_9_12_28 rfl (lv_at hl 0 rfl) ?_
    refine m_gr (j := 54) (C := "Ballothall$Lists") (T := TX7) (N := 11) (ci := 7) (k := 1) hx hb hts iX7 hown hG hP (yi_53 hL) (yt_53 hL) rfl (by decide) w_244 (fun _ h9 => h9) rfl rfl (yr_53_1 hL) d_9_12_29 ?_
    refine lv_iload_n hx hb d_9_12_32 rfl (lv_at hl 2 rfl) ?_
    obtain ⟨ok1, h⟩ := ck_e h
    refine m_ia hx hb hG hP (yi_54 hL) (yt_54 hL) ok1 d_9_12_33 ?_
    refine lv_aload_n hx hb d_9_12_34 rfl (lv_at hl 0 rfl) ?_
    refine m_gr (j := 54) (C := "Ballothall$Lists") (T := TX7) (N := 11) (ci := 7) (k := 1) hx hb hts iX7 hown hG hP (yi_53 hL) (yt_53 hL) rfl (by decide) w_244 (fun _ h9 => h9) rfl rfl (yr_53_1 hL) d_9_12_35 ?_
    refine lv_iload_n hx hb d_9_12_38 rfl (lv_at hl 3 rfl) ?_
    obtain ⟨ok2, h⟩ := ck_e h
    refine m_ia hx hb hG hP (yi_54 hL) (yt_54 hL) ok2 d_9_12_39 ?_
    refine lv_icmp_le (tgt := 70) hx hb d_9_12_40 (by decide) (fun c9 => ?_) (fun c9 => ?_)
    · have h := ite_t c9 h
      refine lv_iinc (v := (x3 + 1)) (lv' := [(3, .int (x3 + 1)), (0, .ref (ad 53)), (1, .ref (ad q1)), (2, .int x2)]) hx hb d_9_12_70 hl (k := 3) rfl (congrArg (fun q => x3 + q) (show Int32.ofInt 1 = 1 by decide +kernel)) (by decide) rfl (fun ls hl => ?_)
      refine lv_goto (tgt := 20) hx hb d_9_12_73 (by decide) ?_
      obtain ⟨rfl, rfl, rfl⟩ := in3 h
      exact k0 rfl H locs ls hP hD hS (lv_sub hl [1, 2, 3, 0] rfl)
    · have h := ite_f c9 h
      refine lv_aload_n hx hb d_9_12_43 rfl (lv_at hl 1 rfl) ?_
      refine lv_iload_n hx hb d_9_12_44 rfl (lv_at hl 2 rfl) ?_
      obtain ⟨ok3, h⟩ := ck_e h
      refine m_ia hx hb hG hP h_q1.1 (isIA_T h_q1) ok3 d_9_12_45 ?_
      refine lv_aload_n hx hb d_9_12_46 rfl (lv_at hl 1 rfl) ?_
      refine lv_iload_n hx hb d_9_12_47 rfl (lv_at hl 3 rfl) ?_
      obtain ⟨ok4, h⟩ := ck_e h
      refine m_ia hx hb hG hP h_q1.1 (isIA_T h_q1) ok4 d_9_12_48 ?_
      refine lv_icmp_ge (tgt := 70) hx hb d_9_12_49 (by decide) (fun c9 => ?_) (fun c9 => ?_)
      · have h := ite_t c9 h
        refine lv_iinc (v := (x3 + 1)) (lv' := [(3, .int (x3 + 1)), (0, .ref (ad 53)), (1, .ref (ad q1)), (2, .int x2)]) hx hb d_9_12_70 hl (k := 3) rfl (congrArg (fun q => x3 + q) (show Int32.ofInt 1 = 1 by decide +kernel)) (by decide) rfl (fun ls hl => ?_)
        refine lv_goto (tgt := 20) hx hb d_9_12_73 (by decide) ?_
        obtain ⟨rfl, rfl, rfl⟩ := in3 h
        exact k0 rfl H locs ls hP hD hS (lv_sub hl [1, 2, 3, 0] rfl)
      · have h := ite_f c9 h
        refine lv_aload_n hx hb d_9_12_52 rfl (lv_at hl 0 rfl) ?_
        refine lv_iload_n hx hb d_9_12_53 rfl (lv_at hl 2 rfl) ?_
        obtain ⟨⟨r5, M5⟩, g5, h⟩ := bd_e h
        refine kV (As := [.int x2]) (rest := []) (s_Li_isAsThen l z ad E M x2 r5 M5 hL g5) hx hb hml hown hts w_588 w_585 w_587 w_s_e4f459 w_5 md_7b5a11 ⟨Nat.le_of_ble_eq_true rfl, Nat.le_of_ble_eq_true rfl⟩ hG hZ hP hD hS hA 53 (wv_o (ci := 7) (yi_53 hL) (yt_53 hL)) rfl rfl rfl hl.1 rfl (Nat.le_of_ble_eq_true rfl) d_9_12_54 ⟨Nat.le_of_ble_eq_true rfl, Nat.le_of_ble_eq_true rfl⟩ (fun _ H locs hP hD hS => ?_)
        have hP : va_P z.1 classes (wv z ad E M5) H := hP
        have hD : va_D A (wv z ad E M5) := hD
        refine W.eq (g2 := F0 m 57 ls [.int r5]) rfl ?_
        refine lv_if_eq (tgt := 70) hx hb d_9_12_57 (by decide) (fun c9 => ?_) (fun c9 => ?_)
        · have h := ite_t c9 h
          refine lv_iinc (v := (x3 + 1)) (lv' := [(3, .int (x3 + 1)), (0, .ref (ad 53)), (1, .ref (ad q1)), (2, .int x2)]) hx hb d_9_12_70 hl (k := 3) rfl (congrArg (fun q => x3 + q) (show Int32.ofInt 1 = 1 by decide +kernel)) (by decide) rfl (fun ls hl => ?_)
          refine lv_goto (tgt := 20) hx hb d_9_12_73 (by decide) ?_
          obtain ⟨rfl, rfl, rfl⟩ := in3 h
          exact k0 rfl H locs ls hP hD hS (lv_sub hl [1, 2, 3, 0] rfl)
        · have h := ite_f c9 h
          refine lv_aload_n hx hb d_9_12_60 rfl (lv_at hl 0 rfl) ?_
          refine lv_iload_n hx hb d_9_12_61 rfl (lv_at hl 3 rfl) ?_
          obtain ⟨⟨r6, M6⟩, g6, h⟩ := bd_e h
          refine kV (As := [.int x3]) (rest := []) (s_Li_isAsThen l z ad E M5 x3 r6 M6 hL g6) hx hb hml hown hts w_588 w_585 w_587 w_s_e4f459 w_5 md_7b5a11 ⟨Nat.le_of_ble_eq_true rfl, Nat.le_of_ble_eq_true rfl⟩ hG hZ hP hD hS hA 53 (wv_o (ci := 7) (yi_53 hL) (yt_53 hL)) rfl rfl rfl hl.1 rfl (Nat.le_of_ble_eq_true rfl) d_9_12_62 ⟨Nat.le_of_ble_eq_true rfl, Nat.le_of_ble_eq_true rfl⟩ (fun _ H locs hP hD hS => ?_)
          have hP : va_P z.1 classes (wv z ad E M6) H := hP
          have hD : va_D A (wv z ad E M6) := hD
          refine W.eq (g2 := F0 m 65 ls [.int r6]) rfl ?_
          refine lv_if_eq (tgt := 70) hx hb d_9_12_65 (by decide) (fun c9 => ?_) (fun c9 => ?_)
          · have h := ite_t c9 h
            refine lv_iinc (v := (x3 + 1)) (lv' := [(3, .int (x3 + 1)), (0, .ref (ad 53)), (1, .ref (ad q1)), (2, .int x2)]) hx hb d_9_12_70 hl (k := 3) rfl (congrArg (fun q => x3 + q) (show Int32.ofInt 1 = 1 by decide +kernel)) (by decide) rfl (fun ls hl => ?_)
            refine lv_goto (tgt := 20) hx hb d_9_12_73 (by decide) ?_
            obtain ⟨rfl, rfl, rfl⟩ := in3 h
            exact k0 rfl H locs ls hP hD hS (lv_sub hl [1, 2, 3, 0] rfl)
          · have h := ite_f c9 h
            obtain ⟨rfl, rfl, rfl⟩ := in3 h
            exact k1 rfl H locs ls hP hD hS (lv_sub hl [] rfl)
set_option maxRecDepth 100000 in
set_option maxHeartbeats 4000000 in
theorem s_Li_isUnjust_20 (l : Launch) (z : Zz) (ad : Nat → Nat) (E : Ev) (q1 : Nat) (x2 : Int32) {Q : State → Prop} {p : Program} {e : Env} {s : State} {m : MethodId} {below : List Frame} {meth : Method} {c : Code} {A : Nat → Prop} {args : Array Value} (hx : p.tables.exec = Jvm.exec) (hb : c.code = prog_9_method_12_code) (hml : c.maxLocals = 4) (hts : ∀ w ∈ WG, w.before args s = true) (hown : s.vm.findClass "Ballothall$Lists" = some m.cls) (hlocks : meth.locks = false) (hA : ∀ q, s.heap.size ≤ q → A q) (hG : KG z s) (hZ : FZ z A s) (hL : Lay E) : ∀ (fu : Nat) (M : Mm) (x3 : Int32) (t : Nat) (w3 : Int32) (N : Mm), l_Li_isUnjust_20 E q1 x2 fu M x3 = some (t, w3, N) → (t = 1 → ∀ (H : Heap) (locs : List Loc) (ls : Array Slot), va_P z.1 classes (wv z ad E N) H → va_D A (wv z ad E N) → va_S A s.heap H locs → lv_has ls 4 [] → W p l e (rmK 2 62 0 0) s m args below meth c H locs 0 0 Q (F0 m 68 ls [])) → (t = 2 → ∀ (H : Heap) (locs : List Loc) (ls : Array Slot), va_P z.1 classes (wv z ad E N) H → va_D A (wv z ad E N) → va_S A s.heap H locs → lv_has ls 4 [(0, .ref (ad 53)), (1, .ref (ad q1)), (2, .int x2)] → W p l e (rmK 2 62 0 0) s m args below meth c H locs 0 0 Q (F0 m 76 ls [])) → ∀ (H : Heap) (locs : List Loc) (ls : Array Slot), va_P z.1 classes (wv z ad E M) H → va_D A (wv z ad E M) → va_S A s.heap H locs → lv_has ls 4 [(0, .ref (ad 53)), (1, .ref (ad q1)), (2, .int x2), (3, .int x3)] → W p l e (rmK 2 62 0 0) s m args below meth c H locs 0 0 Q (F0 m 20 ls []) := by
  intro fu
  induction fu with
  | zero =>
    intro M x3 t w3 N h
    have h : (none : Option (Nat × Int32 × Mm)) = some _ := h
    cases h
  | succ fu ih =>
    intro M x3 t w3 N h k1 k2 H locs ls hP hD hS hl
    obtain ⟨⟨t0, w30, N0⟩, g0, h⟩ := bd_e h
    refine b_Li_isUnjust_20b l z ad E M q1 x2 x3 t0 w30 N0 hx hb hml hts hown hlocks hA hG hZ hL g0 (fun e0 => ?_) (fun e0 => ?_) (fun e0 => ?_) H locs ls hP hD hS hl
    · subst e0
      have h := ite_t rfl h
      exact ih N0 w30 t w3 N h k1 k2
    · subst e0
      have h := ite_f (by decide) h
      obtain ⟨rfl, rfl, rfl⟩ := in3 h
      exact k1 rfl
    · subst e0
      have h := ite_f (by decide) h
      obtain ⟨rfl, rfl, rfl⟩ := in3 h
      exact k2 rfl
set_option maxRecDepth 100000 in
set_option maxHeartbeats 4000000 in
theorem b_Li_isUnjust_10b (l : Launch) (z : Zz) (ad : Nat → Nat) (E : Ev) (M : Mm) (q1 : Nat) (x2 : Int32) (t : Nat) (w2 : Int32) (N : Mm) {Q : State → Prop} {p : Program} {e : Env} {s : State} {m : MethodId} {below : List Frame} {meth : Method} {c : Code} {A : Nat → Prop} {args : Array Value} (hx : p.tables.exec = Jvm.exec) (hb : c.code = prog_9_method_12_code) (hml : c.maxLocals = 4) (hts : ∀ w ∈ WG, w.before args s = true) (hown : s.vm.findClass "Ballothall$Lists" = some m.cls) (hlocks : meth.locks = false) (hA : ∀ q, s.heap.size ≤ q → A q) (hG : KG z s) (hZ : FZ z A s) (hL : Lay E) (h : Li_isUnjust_10b E M q1 x2 = some (t, w2, N)) (k0 : t = 0 → ∀ (H : Heap) (locs : List Loc) (ls : Array Slot), va_P z.1 classes (wv z ad E N) H → va_D A (wv z ad E N) → va_S A s.heap H locs → lv_has ls 4 [(0, .ref (ad 53)), (1, .ref (ad q1)), (2, .int w2)] → W p l e (rmK 2 62 0 0) s m args below meth c H locs 0 0 Q (F0 m 10 ls [])) (k1 : t = 1 → ∀ (H : Heap) (locs : List Loc) (ls : Array Slot), va_P z.1 classes (wv z ad E N) H → va_D A (wv z ad E N) → va_S A s.heap H locs → lv_has ls 4 [] → W p l e (rmK 2 62 0 0) s m args below meth c H locs 0 0 Q (F0 m 68 ls [])) (k2 : t = 2 → ∀ (H : Heap) (locs : List Loc) (ls : Array Slot), va_P z.1 classes (wv z ad E N) H → va_D A (wv z ad E N) → va_S A s.heap H locs → lv_has ls 4 [] → W p l e (rmK 2 62 0 0) s m args below meth c H locs 0 0 Q (F0 m 82 ls [])) : ∀ (H : Heap) (locs : List Loc) (ls : Array Slot), va_P z.1 classes (wv z ad E M) H → va_D A (wv z ad E M) → va_S A s.heap H locs → lv_has ls 4 [(0, .ref (ad 53)), (1, .ref (ad q1)), (2, .int x2)] → W p l e (rmK 2 62 0 0) s m args below meth c H locs 0 0 Q (F0 m 10 ls []) := by
  intro H locs ls hP hD hS hl
  unfold Li_isUnjust_10b at h
  obtain ⟨h_q1, h⟩ := ck_e h
  refine lv_iload_n hx hb d_9_12_10 rfl (lv_at hl 2 rfl) ?_
  refine lv_aload_n hx hb d_9_12_11 rfl (lv_at hl 0 rfl) ?_
  refine m_gi (C := "Ballothall$Lists") (T := TX7) (N := 11) (ci := 7) (k := 0) hx hb hts iX7 hown hG hP (yi_53 hL) (yt_53 hL) rfl (by decide) w_242 (fun _ h9 => h9) rfl rfl d_9_12_12 ?_
  refine lv_icmp_ge (tgt := 82) hx hb d_9_12_15 (by decide) (fun c9 => ?_) (fun c9 => ?_)
  · have h := ite_t c9 h
    obtain ⟨rfl, rfl, rfl⟩ := in3 h
    exact k2 rfl H locs ls hP hD hS (lv_sub hl [] rfl)
  · have h := ite_f c9 h
    refine lv_iconst (v := 0) hx hb d_9_12_18 (by decide +kernel) ?_
    refine lv_istore_n (lv' := [(3, .int 0), (0, .ref (ad 53)), (1, .ref (ad q1)), (2, .int x2)]) hx hb d_9_12_19 rfl hl (by decide) rfl (fun ls hl => ?_)
    obtain ⟨⟨t7, v7_3, M7⟩, g7, h⟩ := bd_e h
    refine s_Li_isUnjust_20 l z ad E q1 x2 hx hb hml hts hown hlocks hA hG hZ hL FU M 0 t7 v7_3 M7 g7 (fun e7 H locs ls hP hD hS hl => ?_) (fun e7 H locs ls hP hD hS hl => ?_) H locs ls hP hD hS (lv_sub hl [1, 2, 3, 0] rfl)
    · subst e7
      have h := ite_t rfl h
      obtain ⟨rfl, rfl, rfl⟩ := in3 h
      exact k1 rfl H locs ls hP hD hS (lv_sub hl [] rfl)
    · subst e7
      have h := ite_f (by decide) h
      have h := ite_t rfl h
      refine lv_iinc (v := (x2 + 1)) (lv' := [(2, .int (x2 + 1)), (0, .ref (ad 53)), (1, .ref (ad q1))]) hx hb d_9_12_76 hl (k := 2) rfl (congrArg (fun q => x2 + q) (show Int32.ofInt 1 = 1 by decide +kernel)) (by decide) rfl (fun ls hl => ?_)
      refine lv_goto (tgt := 10) hx hb d_9_12_79 (by decide) ?_
      obtain ⟨rfl, rfl, rfl⟩ := in3 h
      exact k0 rfl H locs ls hP hD hS (lv_sub hl [1, 2, 0] rfl)
set_option maxRecDepth 100000 in
set_option maxHeartbeats 4000000 in
theorem s_Li_isUnjust_10 (l : Launch) (z : Zz) (ad : Nat → Nat) (E : Ev) (q1 : Nat) {Q : State → Prop} {p : Program} {e : Env} {s : State} {m : MethodId} {below : List Frame} {meth : Method} {c : Code} {A : Nat → Prop} {args : Array Value} (hx : p.tables.exec = Jvm.exec) (hb : c.code = prog_9_method_12_code) (hml : c.maxLocals = 4) (hts : ∀ w ∈ WG, w.before args s = true) (hown : s.vm.findClass "Ballothall$Lists" = some m.cls) (hlocks : meth.locks = false) (hA : ∀ q, s.heap.size ≤ q → A q) (hG : KG z s) (hZ : FZ z A s) (hL : Lay E) : ∀ (fu : Nat) (M : Mm) (x2 : Int32) (t : Nat) (w2 : Int32) (N : Mm), l_Li_isUnjust_10 E q1 fu M x2 = some (t, w2, N) → (t = 1 → ∀ (H : Heap) (locs : List Loc) (ls : Array Slot), va_P z.1 classes (wv z ad E N) H → va_D A (wv z ad E N) → va_S A s.heap H locs → lv_has ls 4 [] → W p l e (rmK 2 62 0 0) s m args below meth c H locs 0 0 Q (F0 m 68 ls [])) → (t = 2 → ∀ (H : Heap) (locs : List Loc) (ls : Array Slot), va_P z.1 classes (wv z ad E N) H → va_D A (wv z ad E N) → va_S A s.heap H locs → lv_has ls 4 [] → W p l e (rmK 2 62 0 0) s m args below meth c H locs 0 0 Q (F0 m 82 ls [])) → ∀ (H : Heap) (locs : List Loc) (ls : Array Slot), va_P z.1 classes (wv z ad E M) H → va_D A (wv z ad E M) → va_S A s.heap H locs → lv_has ls 4 [(0, .ref (ad 53)), (1, .ref (ad q1)), (2, .int x2)] → W p l e (rmK 2 62 0 0) s m args below meth c H locs 0 0 Q (F0 m 10 ls []) := by
  intro fu
  induction fu with
  | zero =>
    intro M x2 t w2 N h
    have h : (none : Option (Nat × Int32 × Mm)) = some _ := h
    cases h
  | succ fu ih =>
    intro M x2 t w2 N h k1 k2 H locs ls hP hD hS hl
    obtain ⟨⟨t0, w20, N0⟩, g0, h⟩ := bd_e h
    refine b_Li_isUnjust_10b l z ad E M q1 x2 t0 w20 N0 hx hb hml hts hown hlocks hA hG hZ hL g0 (fun e0 => ?_) (fun e0 => ?_) (fun e0 => ?_) H locs ls hP hD hS hl
    · subst e0
      have h := ite_t rfl h
      exact ih N0 w20 t w2 N h k1 k2
    · subst e0
      have h := ite_f (by decide) h
      obtain ⟨rfl, rfl, rfl⟩ := in3 h
      exact k1 rfl
    · subst e0
      have h := ite_f (by decide) h
      obtain ⟨rfl, rfl, rfl⟩ := in3 h
      exact k2 rfl
set_option maxRecDepth 100000 in
set_option maxHeartbeats 4000000 in
theorem s_Li_isUnjust (l : Launch) (z : Zz) (ad : Nat → Nat) (E : Ev) (M : Mm) (r : Int32) (N : Mm) (hL : Lay E) (h : f_Li_isUnjust E M = some (r, N)) : CT l z ⟨"Ballothall$Lists", "isUnjust", "()Z"⟩ prog_9_method_12_code 4 (some .boolean) [.ref (ad 53)] (wv z ad E M) 2 62 0 0 (fun _ => some (.int r)) (fun _ => wv z ad E N) := by
  refine CT.of (own := "Ballothall$Lists") (by decide +kernel) (Nat.le_of_ble_eq_true rfl) rfl (fun p e s m below meth c A ls hx hb hml hr hts hown hlocks hin hA hG hZ hP hD hS hl => ?_)
  have hl : lv_has ls 4 [(0, .ref (ad 53))] := hl
  have key : ∀ (H : Heap) (locs : List Loc) (args : Array Value), (∀ w ∈ WG, w.before args s = true) → va_P z.1 classes (wv z ad E M) H → va_S A s.heap H locs → W p l e (rmK 2 62 0 0) s m args below meth c H locs 0 0 (MQ below (QK z A (fun _ => some (.int r)) (fun _ => wv z ad E N)) args s 0 0 A) (F0 m 0 ls []) := by
    intro H locs args hts hP hS
    unfold f_Li_isUnjust at h
    refine lv_aload_n hx hb d_9_12_0 rfl (lv_at hl 0 rfl) ?_
    obtain ⟨⟨r0, M0⟩, g0, h⟩ := bd_e h
    refine kV (As := []) (rest := []) (s_Li_latest l z ad E M r0 M0 hL g0) hx hb hml hown hts w_584 w_581 w_583 w_s_46c41a w_5 md_cb0049 ⟨Nat.le_of_ble_eq_true rfl, Nat.le_of_ble_eq_true rfl⟩ hG hZ hP hD hS hA 53 (wv_o (ci := 7) (yi_53 hL) (yt_53 hL)) rfl rfl rfl hl.1 rfl (Nat.le_of_ble_eq_true rfl) d_9_12_1 ⟨Nat.le_of_ble_eq_true rfl, Nat.le_of_ble_eq_true rfl⟩ (fun _ H locs hP hD hS => ?_)
    have hP : va_P z.1 classes (wv z ad E M0) H := hP
    have hD : va_D A (wv z ad E M0) := hD
    obtain ⟨h_r0, h⟩ := ck_e h
    refine W.eq (g2 := F0 m 4 ls [.ref (ad r0)]) rfl ?_
    refine m_grN (j := (r0 + 2)) (C := "Ballothall$KeptSeats") (T := TX6) (N := 7) (ci := 6) (k := 4) hx hb hts iX6 hown hG hP (isKs_i h_r0) (isKs_T h_r0) rfl (by decide) n_221 rfl (fun _ h9 => h9) rfl rfl (isKs_r4 h_r0) d_9_12_4 ?_
    refine lv_astore_n (lv' := [(1, .ref (ad (r0 + 2))), (0, .ref (ad 53))]) hx hb d_9_12_7 rfl hl (by decide) rfl (fun ls hl => ?_)
    refine lv_iconst (v := 0) hx hb d_9_12_8 (by decide +kernel) ?_
    refine lv_istore_n (lv' := [(2, .int 0), (1, .ref (ad (r0 + 2))), (0, .ref (ad 53))]) hx hb d_9_12_9 rfl hl (by decide) rfl (fun ls hl => ?_)
    obtain ⟨⟨t8, v8_2, M8⟩, g8, h⟩ := bd_e h
    refine s_Li_isUnjust_10 l z ad E (r0 + 2) hx hb hml hts hown hlocks hA hG hZ hL FU M0 0 t8 v8_2 M8 g8 (fun e8 H locs ls hP hD hS hl => ?_) (fun e8 H locs ls hP hD hS hl => ?_) H locs ls hP hD hS (lv_sub hl [2, 1, 0] rfl)
    · subst e8
      have h := ite_t rfl h
      refine lv_iconst (v := 1) hx hb d_9_12_68 (by decide +kernel) ?_
      obtain ⟨rfl, rfl⟩ := in2 h
      exact W.zret hx hb hr rfl (fun t ht hW => qkA hP hD hS (fun k => k) rfl rfl ht) hS.2.2 d_9_12_69
    · subst e8
      have h := ite_f (by decide) h
      have h := ite_t rfl h
      refine lv_iconst (v := 0) hx hb d_9_12_82 (by decide +kernel) ?_
      obtain ⟨rfl, rfl⟩ := in2 h
      exact W.zret hx hb hr rfl (fun t ht hW => qkA hP hD hS (fun k => k) rfl rfl ht) hS.2.2 d_9_12_83
  exact key _ _ _ hts hP hS
set_option maxRecDepth 100000 in
set_option maxHeartbeats 4000000 in
theorem s_Po_path (l : Launch) (z : Zz) (ad : Nat → Nat) (E : Ev) (M : Mm) (x1 : Int32) (x2 : Int32) (r : Int32) (N : Mm) (hL : Lay E) (h : f_Po_path E M x1 x2 = some (r, N)) : CT l z ⟨"Ballothall$Poll", "path", "(II)I"⟩ prog_11_method_6_code 3 (some .int) [.ref (ad 41), .int x1, .int x2] (wv z ad E M) 0 20 0 0 (fun _ => some (.int r)) (fun _ => wv z ad E N) := by
  refine CT.of (own := "Ballothall$Poll") (by decide +kernel) (Nat.le_of_ble_eq_true rfl) rfl (fun p e s m below meth c A ls hx hb hml hr hts hown hlocks hin hA hG hZ hP hD hS hl => ?_)
  have hl : lv_has ls 3 [(0, .ref (ad 41)), (1, .int x1), (2, .int x2)] := hl
  have key : ∀ (H : Heap) (locs : List Loc) (args : Array Value), (∀ w ∈ WG, w.before args s = true) → va_P z.1 classes (wv z ad E M) H → va_S A s.heap H locs → W p l e (rmK 0 20 0 0) s m args below meth c H locs 0 0 (MQ below (QK z A (fun _ => some (.int r)) (fun _ => wv z ad E N)) args s 0 0 A) (F0 m 0 ls []) := by
    intro H locs args hts hP hS
    unfold f_Po_path at h
    refine lv_aload_n hx hb d_11_6_0 rfl (lv_at hl 0 rfl) ?_
    refine m_gr (j := 47) (C := "Ballothall$Poll") (T := TX9) (N := 12) (ci := 9) (k := 8) hx hb hts iX9 hown hG hP (yi_41 hL) (yt_41 hL) rfl (by decide) w_115 (fun _ h9 => h9) rfl rfl (yr_41_8 hL) d_11_6_1 ?_
    refine lv_iload_n hx hb d_11_6_4 rfl (lv_at hl 1 rfl) ?_
    refine lv_bipush (v := 8) hx hb d_11_6_5 (by decide +kernel) ?_
    refine lv_imul hx hb d_11_6_7 ?_
    refine lv_iload_n hx hb d_11_6_8 rfl (lv_at hl 2 rfl) ?_
    refine lv_iadd hx hb d_11_6_9 ?_
    obtain ⟨ok0, h⟩ := ck_e h
    refine m_ia hx hb hG hP (yi_47 hL) (yt_47 hL) ok0 d_11_6_10 ?_
    obtain ⟨rfl, rfl⟩ := in2 h
    exact W.iret hx hb hr (fun t ht hW => qkA hP hD hS (fun k => k) rfl rfl ht) hS.2.2 d_11_6_11
  exact key _ _ _ hts hP hS
set_option maxRecDepth 100000 in
set_option maxHeartbeats 4000000 in
theorem b_Po_widenPaths_10b (l : Launch) (z : Zz) (ad : Nat → Nat) (E : Ev) (M : Mm) (x1 : Int32) (x2 : Int32) (x3 : Int32) (x4 : Int32) (t : Nat) (w4 : Int32) (N : Mm) {Q : State → Prop} {p : Program} {e : Env} {s : State} {m : MethodId} {below : List Frame} {meth : Method} {c : Code} {A : Nat → Prop} {args : Array Value} (hx : p.tables.exec = Jvm.exec) (hb : c.code = prog_11_method_13_code) (hml : c.maxLocals = 6) (hts : ∀ w ∈ WG, w.before args s = true) (hown : s.vm.findClass "Ballothall$Poll" = some m.cls) (hlocks : meth.locks = false) (hA : ∀ q, s.heap.size ≤ q → A q) (hG : KG z s) (hZ : FZ z A s) (hL : Lay E) (h : Po_widenPaths_10b E M x1 x2 x3 x4 = some (t, w4, N)) (k0 : t = 0 → ∀ (H : Heap) (locs : List Loc) (ls : Array Slot), va_P z.1 classes (wv z ad E N) H → va_D A (wv z ad E N) → va_S A s.heap H locs → lv_has ls 6 [(0, .ref (ad 41)), (1, .int x1), (2, .int x2), (3, .int x3), (4, .int w4)] → W p l e (rmK 1 42 0 0) s m args below meth c H locs 0 0 Q (F0 m 10 ls [])) (k1 : t = 1 → ∀ (H : Heap) (locs : List Loc) (ls : Array Slot), va_P z.1 classes (wv z ad E N) H → va_D A (wv z ad E N) → va_S A s.heap H locs → lv_has ls 6 [] → W p l e (rmK 1 42 0 0) s m args below meth c H locs 0 0 Q (F0 m 73 ls [])) : ∀ (H : Heap) (locs : List Loc) (ls : Array Slot), va_P z.1 classes (wv z ad E M) H → va_D A (wv z ad E M) → va_S A s.heap H locs → lv_has ls 6 [(0, .ref (ad 41)), (1, .int x1), (2, .int x2), (3, .int x3), (4, .int x4)] → W p l e (rmK 1 42 0 0) s m args below meth c H locs 0 0 Q (F0 m 10 ls []) := by
  intro H locs ls hP hD hS hl
  unfold Po_widenPaths_10b at h
  refine lv_iload hx hb d_11_13_10 (lv_at hl 4 rfl) ?_
  refine lv_aload_n hx hb d_11_13_12 rfl (lv_at hl 0 rfl) ?_
  refine m_gr (j := 2) (C := "Ballothall$Poll") (T := TX9) (N := 12) (ci := 9) (k := 0) hx hb hts iX9 hown hG hP (yi_41 hL) (yt_41 hL) rfl (by decide) w_107 (fun _ h9 => h9) rfl rfl (yr_41_0 hL) d_11_13_13 ?_
  refine m_giN (C := "Ballothall$BallotBox") (T := TX0) (N := 10) (ci := 0) (k := 2) hx hb hts iX0 hown hG hP (yi_2 hL) (yt_2 hL) rfl (by decide) n_53 rfl (fun _ h9 => h9) rfl rfl d_11_13_16 ?_
  refine lv_icmp_ge (tgt := 73) hx hb d_11_13_19 (by decide) (fun c9 => ?_) (fun c9 => ?_)
  · have h := ite_t c9 h
    obtain ⟨rfl, rfl, rfl⟩ := in3 h
    exact k1 rfl H locs ls hP hD hS (lv_sub hl [] rfl)
  · have h := ite_f c9 h
    refine lv_iload_n hx hb d_11_13_22 rfl (lv_at hl 3 rfl) ?_
    refine lv_aload_n hx hb d_11_13_23 rfl (lv_at hl 0 rfl) ?_
    refine lv_iload_n hx hb d_11_13_24 rfl (lv_at hl 2 rfl) ?_
    refine lv_iload hx hb d_11_13_25 (lv_at hl 4 rfl) ?_
    obtain ⟨⟨r1, M1⟩, g1, h⟩ := bd_e h
    refine kV (As := [.int x2, .int x4]) (rest := [.int x3]) (s_Po_path l z ad E M x2 x4 r1 M1 hL g1) hx hb hml hown hts w_733 w_730 w_732 w_s_f68c3b w_3 md_2f75ac ⟨Nat.le_of_ble_eq_true rfl, Nat.le_of_ble_eq_true rfl⟩ hG hZ hP hD hS hA 41 (wv_o (ci := 9) (yi_41 hL) (yt_41 hL)) rfl rfl rfl hl.1 rfl (Nat.le_of_ble_eq_true rfl) d_11_13_27 ⟨Nat.le_of_ble_eq_true rfl, Nat.le_of_ble_eq_true rfl⟩ (fun _ H locs hP hD hS => ?_)
    have hP : va_P z.1 classes (wv z ad E M1) H := hP
    have hD : va_D A (wv z ad E M1) := hD
    refine W.eq (g2 := F0 m 30 ls [.int r1, .int x3]) rfl ?_
    refine va_mmin hx hb (by rw [hml]; exact hl.1.symm) hown (hts _ w_738) (hts _ w_521) (hts _ w_17) (hts _ w_min) (Nat.le_of_ble_eq_true rfl) (Nat.le_of_ble_eq_true rfl) (Nat.le_of_ble_eq_true rfl) (Nat.le_of_ble_eq_true rfl) d_11_13_30 ?_
    refine lv_istore (lv' := [(5, .int (mnI x3 r1)), (0, .ref (ad 41)), (1, .int x1), (2, .int x2), (3, .int x3), (4, .int x4)]) hx hb d_11_13_33 hl (by decide) rfl (fun ls hl => ?_)
    refine lv_iload hx hb d_11_13_35 (lv_at hl 5 rfl) ?_
    refine lv_iload_n hx hb d_11_13_37 rfl (lv_at hl 2 rfl) ?_
    refine lv_icmp_eq (tgt := 67) hx hb d_11_13_38 (by decide) (fun c9 => ?_) (fun c9 => ?_)
    · have h := ite_t c9 h
      refine lv_iinc (v := (x4 + 1)) (lv' := [(4, .int (x4 + 1)), (5, .int (mnI x3 r1)), (0, .ref (ad 41)), (1, .int x1), (2, .int x2), (3, .int x3)]) hx hb d_11_13_67 hl (k := 5) rfl (congrArg (fun q => x4 + q) (show Int32.ofInt 1 = 1 by decide +kernel)) (by decide) rfl (fun ls hl => ?_)
      refine lv_goto (tgt := 10) hx hb d_11_13_70 (by decide) ?_
      obtain ⟨rfl, rfl, rfl⟩ := in3 h
      exact k0 rfl H locs ls hP hD hS (lv_sub hl [2, 3, 4, 5, 0] rfl)
    · have h := ite_f c9 h
      refine lv_iload hx hb d_11_13_41 (lv_at hl 0 rfl) ?_
      refine lv_aload_n hx hb d_11_13_43 rfl (lv_at hl 1 rfl) ?_
      refine lv_iload_n hx hb d_11_13_44 rfl (lv_at hl 2 rfl) ?_
      refine lv_iload hx hb d_11_13_45 (lv_at hl 5 rfl) ?_
      obtain ⟨⟨r2, M2⟩, g2, h⟩ := bd_e h
      refine kV (As := [.int x1, .int x4]) (rest := [.int (mnI x3 r1)]) (s_Po_path l z ad E M1 x1 x4 r2 M2 hL g2) hx hb hml hown hts w_733 w_730 w_732 w_s_f68c3b w_3 md_2f75ac ⟨Nat.le_of_ble_eq_true rfl, Nat.le_of_ble_eq_true rfl⟩ hG hZ hP hD hS hA 41 (wv_o (ci := 9) (yi_41 hL) (yt_41 hL)) rfl rfl rfl hl.1 rfl (Nat.le_of_ble_eq_true rfl) d_11_13_47 ⟨Nat.le_of_ble_eq_true rfl, Nat.le_of_ble_eq_true rfl⟩ (fun _ H locs hP hD hS => ?_)
      have hP : va_P z.1 classes (wv z ad E M2) H := hP
      have hD : va_D A (wv z ad E M2) := hD
      refine W.eq (g2 := F0 m 50 ls [.int r2, .int (mnI x3 r1)]) rfl ?_
      refine lv_icmp_le (tgt := 67) hx hb d_11_13_50 (by decide) (fun c9 => ?_) (fun c9 => ?_)
      · have h := ite_t c9 h
        refine lv_iinc (v := (x4 + 1)) (lv' := [(4, .int (x4 + 1)), (5, .int (mnI x3 r1)), (0, .ref (ad 41)), (1, .int x1), (2, .int x2), (3, .int x3)]) hx hb d_11_13_67 hl (k := 5) rfl (congrArg (fun q => x4 + q) (show Int32.ofInt 1 = 1 by decide +kernel)) (by decide) rfl (fun ls hl => ?_)
        refine lv_goto (tgt := 10) hx hb d_11_13_70 (by decide) ?_
        obtain ⟨rfl, rfl, rfl⟩ := in3 h
        exact k0 rfl H locs ls hP hD hS (lv_sub hl [2, 3, 4, 5, 0] rfl)
      · have h := ite_f c9 h
        refine lv_aload_n hx hb d_11_13_53 rfl (lv_at hl 1 rfl) ?_
        refine m_gr (j := 47) (C := "Ballothall$Poll") (T := TX9) (N := 12) (ci := 9) (k := 8) hx hb hts iX9 hown hG hP (yi_41 hL) (yt_41 hL) rfl (by decide) w_115 (fun _ h9 => h9) rfl rfl (yr_41_8 hL) d_11_13_54 ?_
        refine lv_iload_n hx hb d_11_13_57 rfl (lv_at hl 2 rfl) ?_
        refine lv_bipush (v := 8) hx hb d_11_13_58 (by decide +kernel) ?_
        refine lv_imul hx hb d_11_13_60 ?_
        refine lv_iload hx hb d_11_13_61 (lv_at hl 5 rfl) ?_
        refine lv_iadd hx hb d_11_13_63 ?_
        refine lv_iload hx hb d_11_13_64 (lv_at hl 0 rfl) ?_
        obtain ⟨ok3, h⟩ := ck_e h
        refine m_is hx hb hG hP hD hS (yi_47 hL) (yt_47 hL) ok3 d_11_13_66 (fun H locs hP hD hS => ?_)
        have hP : va_P z.1 classes (wv z ad E (u2 M2 47 ((x1 * (8 : Int32)) + x4).toNatClampNeg (mnI x3 r1))) H := hP
        have hD : va_D A (wv z ad E (u2 M2 47 ((x1 * (8 : Int32)) + x4).toNatClampNeg (mnI x3 r1))) := hD
        refine lv_iinc (v := (x4 + 1)) (lv' := [(4, .int (x4 + 1)), (5, .int (mnI x3 r1)), (0, .ref (ad 41)), (1, .int x1), (2, .int x2), (3, .int x3)]) hx hb d_11_13_67 hl (k := 5) rfl (congrArg (fun q => x4 + q) (show Int32.ofInt 1 = 1 by decide +kernel)) (by decide) rfl (fun ls hl => ?_)
        refine lv_goto (tgt := 10) hx hb d_11_13_70 (by decide) ?_
        obtain ⟨rfl, rfl, rfl⟩ := in3 h
        exact k0 rfl H locs ls hP hD hS (lv_sub hl [2, 3, 4, 5, 0] rfl)
set_option maxRecDepth 100000 in
set_option maxHeartbeats 4000000 in
theorem s_Po_widenPaths_10 (l : Launch) (z : Zz) (ad : Nat → Nat) (E : Ev) (x1 : Int32) (x2 : Int32) (x3 : Int32) {Q : State → Prop} {p : Program} {e : Env} {s : State} {m : MethodId} {below : List Frame} {meth : Method} {c : Code} {A : Nat → Prop} {args : Array Value} (hx : p.tables.exec = Jvm.exec) (hb : c.code = prog_11_method_13_code) (hml : c.maxLocals = 6) (hts : ∀ w ∈ WG, w.before args s = true) (hown : s.vm.findClass "Ballothall$Poll" = some m.cls) (hlocks : meth.locks = false) (hA : ∀ q, s.heap.size ≤ q → A q) (hG : KG z s) (hZ : FZ z A s) (hL : Lay E) : ∀ (fu : Nat) (M : Mm) (x4 : Int32) (t : Nat) (w4 : Int32) (N : Mm), l_Po_widenPaths_10 E x1 x2 x3 fu M x4 = some (t, w4, N) → (t = 1 → ∀ (H : Heap) (locs : List Loc) (ls : Array Slot), va_P z.1 classes (wv z ad E N) H → va_D A (wv z ad E N) → va_S A s.heap H locs → lv_has ls 6 [] → W p l e (rmK 1 42 0 0) s m args below meth c H locs 0 0 Q (F0 m 73 ls [])) → ∀ (H : Heap) (locs : List Loc) (ls : Array Slot), va_P z.1 classes (wv z ad E M) H → va_D A (wv z ad E M) → va_S A s.heap H locs → lv_has ls 6 [(0, .ref (ad 41)), (1, .int x1), (2, .int x2), (3, .int x3), (4, .int x4)] → W p l e (rmK 1 42 0 0) s m args below meth c H locs 0 0 Q (F0 m 10 ls []) := by
  intro fu
  induction fu with
  | zero =>
    intro M x4 t w4 N h
    have h : (none : Option (Nat × Int32 × Mm)) = some _ := h
    cases h
  | succ fu ih =>
    intro M x4 t w4 N h k1 H locs ls hP hD hS hl
    obtain ⟨⟨t0, w40, N0⟩, g0, h⟩ := bd_e h
    refine b_Po_widenPaths_10b l z ad E M x1 x2 x3 x4 t0 w40 N0 hx hb hml hts hown hlocks hA hG hZ hL g0 (fun e0 => ?_) (fun e0 => ?_) H locs ls hP hD hS hl
    · subst e0
      have h := ite_t rfl h
      exact ih N0 w40 t w4 N h k1
    · subst e0
      have h := ite_f (by decide) h
      obtain ⟨rfl, rfl, rfl⟩ := in3 h
      exact k1 rfl
set_option maxRecDepth 100000 in
set_option maxHeartbeats 4000000 in
theorem s_Po_widenPaths (l : Launch) (z : Zz) (ad : Nat → Nat) (E : Ev) (M : Mm) (x1 : Int32) (x2 : Int32) (N : Mm) (hL : Lay E) (h : f_Po_widenPaths E M x1 x2 = some N) : CT l z ⟨"Ballothall$Poll", "widenPaths", "(II)V"⟩ prog_11_method_13_code 6 none [.ref (ad 41), .int x1, .int x2] (wv z ad E M) 1 42 0 0 (fun _ => none) (fun _ => wv z ad E N) := by
  refine CT.of (own := "Ballothall$Poll") (by decide +kernel) (Nat.le_of_ble_eq_true rfl) rfl (fun p e s m below meth c A ls hx hb hml hr hts hown hlocks hin hA hG hZ hP hD hS hl => ?_)
  have hl : lv_has ls 6 [(0, .ref (ad 41)), (1, .int x1), (2, .int x2)] := hl
  have key : ∀ (H : Heap) (locs : List Loc) (args : Array Value), (∀ w ∈ WG, w.before args s = true) → va_P z.1 classes (wv z ad E M) H → va_S A s.heap H locs → W p l e (rmK 1 42 0 0) s m args below meth c H locs 0 0 (MQ below (QK z A (fun _ => none) (fun _ => wv z ad E N)) args s 0 0 A) (F0 m 0 ls []) := by
    intro H locs args hts hP hS
    unfold f_Po_widenPaths at h
    refine lv_aload_n hx hb d_11_13_0 rfl (lv_at hl 0 rfl) ?_
    refine lv_iload_n hx hb d_11_13_1 rfl (lv_at hl 1 rfl) ?_
    refine lv_iload_n hx hb d_11_13_2 rfl (lv_at hl 2 rfl) ?_
    obtain ⟨⟨r0, M0⟩, g0, h⟩ := bd_e h
    refine kV (As := [.int x1, .int x2]) (rest := []) (s_Po_path l z ad E M x1 x2 r0 M0 hL g0) hx hb hml hown hts w_733 w_730 w_732 w_s_f68c3b w_3 md_2f75ac ⟨Nat.le_of_ble_eq_true rfl, Nat.le_of_ble_eq_true rfl⟩ hG hZ hP hD hS hA 41 (wv_o (ci := 9) (yi_41 hL) (yt_41 hL)) rfl rfl rfl hl.1 rfl (Nat.le_of_ble_eq_true rfl) d_11_13_3 ⟨Nat.le_of_ble_eq_true rfl, Nat.le_of_ble_eq_true rfl⟩ (fun _ H locs hP hD hS => ?_)
    have hP : va_P z.1 classes (wv z ad E M0) H := hP
    have hD : va_D A (wv z ad E M0) := hD
    refine W.eq (g2 := F0 m 6 ls [.int r0]) rfl ?_
    refine lv_istore_n (lv' := [(3, .int r0), (0, .ref (ad 41)), (1, .int x1), (2, .int x2)]) hx hb d_11_13_6 rfl hl (by decide) rfl (fun ls hl => ?_)
    refine lv_iconst (v := 0) hx hb d_11_13_7 (by decide +kernel) ?_
    refine lv_istore (lv' := [(4, .int 0), (3, .int r0), (0, .ref (ad 41)), (1, .int x1), (2, .int x2)]) hx hb d_11_13_8 hl (by decide) rfl (fun ls hl => ?_)
    obtain ⟨⟨t4, v4_4, M4⟩, g4, h⟩ := bd_e h
    obtain ⟨ok4, h⟩ := ck_e h
    refine s_Po_widenPaths_10 l z ad E x1 x2 r0 hx hb hml hts hown hlocks hA hG hZ hL FU M0 0 t4 v4_4 M4 g4 (fun e4 H locs ls hP hD hS hl => ?_) H locs ls hP hD hS (lv_sub hl [2, 3, 4, 1, 0] rfl)
    obtain rfl := in1 h
    exact W.vret hx hb hr (fun t ht hW => qkA hP hD hS (fun k => k) rfl rfl ht) hS.2.2 d_11_13_73
  exact key _ _ _ hts hP hS
set_option maxRecDepth 100000 in
set_option maxHeartbeats 4000000 in
theorem b_Po_findPaths_j55 (l : Launch) (z : Zz) (ad : Nat → Nat) (E : Ev) (M : Mm) (x1 : Int32) (x2 : Int32) (y0 : Int32) (y1 : Int32) (y2 : Nat) (t : Nat) (w2 : Int32) (N : Mm) {Q : State → Prop} {p : Program} {e : Env} {s : State} {m : MethodId} {below : List Frame} {meth : Method} {c : Code} {A : Nat → Prop} {args : Array Value} (hx : p.tables.exec = Jvm.exec) (hb : c.code = prog_11_method_12_code) (hml : c.maxLocals = 3) (hts : ∀ w ∈ WG, w.before args s = true) (hown : s.vm.findClass "Ballothall$Poll" = some m.cls) (hlocks : meth.locks = false) (hA : ∀ q, s.heap.size ≤ q → A q) (hG : KG z s) (hZ : FZ z A s) (hL : Lay E) (h : Po_findPaths_j55 E M x1 x2 y0 y1 y2 = some (t, w2, N)) (k0 : t = 0 → ∀ (H : Heap) (locs : List Loc) (ls : Array Slot), va_P z.1 classes (wv z ad E N) H → va_D A (wv z ad E N) → va_S A s.heap H locs → lv_has ls 3 [(0, .ref (ad 41)), (1, .int x1), (2, .int w2)] → W p l e (rmK 2 67 0 0) s m args below meth c H locs 0 0 Q (F0 m 15 ls [])) (k1 : t = 1 → ∀ (H : Heap) (locs : List Loc) (ls : Array Slot), va_P z.1 classes (wv z ad E N) H → va_D A (wv z ad E N) → va_S A s.heap H locs → lv_has ls 3 [(0, .ref (ad 41)), (1, .int x1)] → W p l e (rmK 2 67 0 0) s m args below meth c H locs 0 0 Q (F0 m 62 ls [])) : ∀ (H : Heap) (locs : List Loc) (ls : Array Slot), va_P z.1 classes (wv z ad E M) H → va_D A (wv z ad E M) → va_S A s.heap H locs → lv_has ls 3 [(0, .ref (ad 41)), (1, .int x1), (2, .int x2)] → W p l e (rmK 2 67 0 0) s m args below meth c H locs 0 0 Q (F0 m 55 ls [.int y0, .int y1, .ref (ad y2)]) := by
  intro H locs ls hP hD hS hl
  unfold Po_findPaths_j55 at h
  obtain ⟨h_y2, h⟩ := ck_e h
  obtain ⟨ok1, h⟩ := ck_e h
  refine m_is hx hb hG hP hD hS h_y2.1 (isIA_T h_y2) ok1 d_11_12_55 (fun H locs hP hD hS => ?_)
  have hP : va_P z.1 classes (wv z ad E (u2 M y2 y1.toNatClampNeg y0)) H := hP
  have hD : va_D A (wv z ad E (u2 M y2 y1.toNatClampNeg y0)) := hD
  refine lv_iinc (v := (x2 + 1)) (lv' := [(2, .int (x2 + 1)), (0, .ref (ad 41)), (1, .int x1)]) hx hb d_11_12_56 hl (k := 2) rfl (congrArg (fun q => x2 + q) (show Int32.ofInt 1 = 1 by decide +kernel)) (by decide) rfl (fun ls hl => ?_)
  refine lv_goto (tgt := 15) hx hb d_11_12_59 (by decide) ?_
  obtain ⟨rfl, rfl, rfl⟩ := in3 h
  exact k0 rfl H locs ls hP hD hS (lv_sub hl [1, 2, 0] rfl)
set_option maxRecDepth 100000 in
set_option maxHeartbeats 4000000 in
theorem b_Po_findPaths_15b (l : Launch) (z : Zz) (ad : Nat → Nat) (E : Ev) (M : Mm) (x1 : Int32) (x2 : Int32) (t : Nat) (w2 : Int32) (N : Mm) {Q : State → Prop} {p : Program} {e : Env} {s : State} {m : MethodId} {below : List Frame} {meth : Method} {c : Code} {A : Nat → Prop} {args : Array Value} (hx : p.tables.exec = Jvm.exec) (hb : c.code = prog_11_method_12_code) (hml : c.maxLocals = 3) (hts : ∀ w ∈ WG, w.before args s = true) (hown : s.vm.findClass "Ballothall$Poll" = some m.cls) (hlocks : meth.locks = false) (hA : ∀ q, s.heap.size ≤ q → A q) (hG : KG z s) (hZ : FZ z A s) (hL : Lay E) (h : Po_findPaths_15b E M x1 x2 = some (t, w2, N)) (k0 : t = 0 → ∀ (H : Heap) (locs : List Loc) (ls : Array Slot), va_P z.1 classes (wv z ad E N) H → va_D A (wv z ad E N) → va_S A s.heap H locs → lv_has ls 3 [(0, .ref (ad 41)), (1, .int x1), (2, .int w2)] → W p l e (rmK 2 67 0 0) s m args below meth c H locs 0 0 Q (F0 m 15 ls [])) (k1 : t = 1 → ∀ (H : Heap) (locs : List Loc) (ls : Array Slot), va_P z.1 classes (wv z ad E N) H → va_D A (wv z ad E N) → va_S A s.heap H locs → lv_has ls 3 [(0, .ref (ad 41)), (1, .int x1)] → W p l e (rmK 2 67 0 0) s m args below meth c H locs 0 0 Q (F0 m 62 ls [])) : ∀ (H : Heap) (locs : List Loc) (ls : Array Slot), va_P z.1 classes (wv z ad E M) H → va_D A (wv z ad E M) → va_S A s.heap H locs → lv_has ls 3 [(0, .ref (ad 41)), (1, .int x1), (2, .int x2)] → W p l e (rmK 2 67 0 0) s m args below meth c H locs 0 0 Q (F0 m 15 ls []) := by
  intro H locs ls hP hD hS hl
  unfold Po_findPaths_15b at h
  refine lv_iload_n hx hb d_11_12_15 rfl (lv_at hl 2 rfl) ?_
  refine lv_aload_n hx hb d_11_12_16 rfl (lv_at hl 0 rfl) ?_
  refine m_gr (j := 2) (C := "Ballothall$Poll") (T := TX9) (N := 12) (ci := 9) (k := 0) hx hb hts iX9 hown hG hP (yi_41 hL) (yt_41 hL) rfl (by decide) w_107 (fun _ h9 => h9) rfl rfl (yr_41_0 hL) d_11_12_17 ?_
  refine m_giN (C := "Ballothall$BallotBox") (T := TX0) (N := 10) (ci := 0) (k := 2) hx hb hts iX0 hown hG hP (yi_2 hL) (yt_2 hL) rfl (by decide) n_53 rfl (fun _ h9 => h9) rfl rfl d_11_12_20 ?_
  refine lv_icmp_ge (tgt := 62) hx hb d_11_12_23 (by decide) (fun c9 => ?_) (fun c9 => ?_)
  · have h := ite_t c9 h
    obtain ⟨rfl, rfl, rfl⟩ := in3 h
    exact k1 rfl H locs ls hP hD hS (lv_sub hl [0, 1] rfl)
  · have h := ite_f c9 h
    refine lv_aload_n hx hb d_11_12_26 rfl (lv_at hl 0 rfl) ?_
    refine m_gr (j := 47) (C := "Ballothall$Poll") (T := TX9) (N := 12) (ci := 9) (k := 8) hx hb hts iX9 hown hG hP (yi_41 hL) (yt_41 hL) rfl (by decide) w_115 (fun _ h9 => h9) rfl rfl (yr_41_8 hL) d_11_12_27 ?_
    refine lv_iload_n hx hb d_11_12_30 rfl (lv_at hl 1 rfl) ?_
    refine lv_bipush (v := 8) hx hb d_11_12_31 (by decide +kernel) ?_
    refine lv_imul hx hb d_11_12_33 ?_
    refine lv_iload_n hx hb d_11_12_34 rfl (lv_at hl 2 rfl) ?_
    refine lv_iadd hx hb d_11_12_35 ?_
    refine lv_aload_n hx hb d_11_12_36 rfl (lv_at hl 0 rfl) ?_
    refine lv_iload_n hx hb d_11_12_37 rfl (lv_at hl 1 rfl) ?_
    refine lv_iload_n hx hb d_11_12_38 rfl (lv_at hl 2 rfl) ?_
    obtain ⟨⟨r0, M0⟩, g0, h⟩ := bd_e h
    refine kV (As := [.int x1, .int x2]) (rest := [.int ((x1 * (8 : Int32)) + x2), .ref (ad 47)]) (s_Po_beats l z ad E M x1 x2 r0 M0 hL g0) hx hb hml hown hts w_705 w_702 w_704 w_s_3a49be w_3 md_755902 ⟨Nat.le_of_ble_eq_true rfl, Nat.le_of_ble_eq_true rfl⟩ hG hZ hP hD hS hA 41 (wv_o (ci := 9) (yi_41 hL) (yt_41 hL)) rfl rfl rfl hl.1 rfl (Nat.le_of_ble_eq_true rfl) d_11_12_39 ⟨Nat.le_of_ble_eq_true rfl, Nat.le_of_ble_eq_true rfl⟩ (fun _ H locs hP hD hS => ?_)
    have hP : va_P z.1 classes (wv z ad E M0) H := hP
    have hD : va_D A (wv z ad E M0) := hD
    refine W.eq (g2 := F0 m 42 ls [.int r0, .int ((x1 * (8 : Int32)) + x2), .ref (ad 47)]) rfl ?_
    refine lv_if_eq (tgt := 54) hx hb d_11_12_42 (by decide) (fun c9 => ?_) (fun c9 => ?_)
    · have h := ite_t c9 h
      refine lv_iconst (v := 0) hx hb d_11_12_54 (by decide +kernel) ?_
      exact b_Po_findPaths_j55 l z ad E M0 x1 x2 0 ((x1 * (8 : Int32)) + x2) 47 t w2 N hx hb hml hts hown hlocks hA hG hZ hL h k0 k1 H locs ls hP hD hS (lv_sub hl [0, 1, 2] rfl)
    · have h := ite_f c9 h
      refine lv_aload_n hx hb d_11_12_45 rfl (lv_at hl 0 rfl) ?_
      refine lv_iload_n hx hb d_11_12_46 rfl (lv_at hl 1 rfl) ?_
      refine lv_iload_n hx hb d_11_12_47 rfl (lv_at hl 2 rfl) ?_
      obtain ⟨⟨r2, M2⟩, g2, h⟩ := bd_e h
      refine kV (As := [.int x1, .int x2]) (rest := [.int ((x1 * (8 : Int32)) + x2), .ref (ad 47)]) (s_Po_pair l z ad E M0 x1 x2 r2 M2 hL g2) hx hb hml hown hts w_709 w_706 w_708 w_s_776300 w_3 md_5a94c2 ⟨Nat.le_of_ble_eq_true rfl, Nat.le_of_ble_eq_true rfl⟩ hG hZ hP hD hS hA 41 (wv_o (ci := 9) (yi_41 hL) (yt_41 hL)) rfl rfl rfl hl.1 rfl (Nat.le_of_ble_eq_true rfl) d_11_12_48 ⟨Nat.le_of_ble_eq_true rfl, Nat.le_of_ble_eq_true rfl⟩ (fun _ H locs hP hD hS => ?_)
      have hP : va_P z.1 classes (wv z ad E M2) H := hP
      have hD : va_D A (wv z ad E M2) := hD
      refine W.eq (g2 := F0 m 51 ls [.int r2, .int ((x1 * (8 : Int32)) + x2), .ref (ad 47)]) rfl ?_
      refine lv_goto (tgt := 55) hx hb d_11_12_51 (by decide) ?_
      exact b_Po_findPaths_j55 l z ad E M2 x1 x2 r2 ((x1 * (8 : Int32)) + x2) 47 t w2 N hx hb hml hts hown hlocks hA hG hZ hL h k0 k1 H locs ls hP hD hS (lv_sub hl [0, 1, 2] rfl)
set_option maxRecDepth 100000 in
set_option maxHeartbeats 4000000 in
theorem s_Po_findPaths_15 (l : Launch) (z : Zz) (ad : Nat → Nat) (E : Ev) (x1 : Int32) {Q : State → Prop} {p : Program} {e : Env} {s : State} {m : MethodId} {below : List Frame} {meth : Method} {c : Code} {A : Nat → Prop} {args : Array Value} (hx : p.tables.exec = Jvm.exec) (hb : c.code = prog_11_method_12_code) (hml : c.maxLocals = 3) (hts : ∀ w ∈ WG, w.before args s = true) (hown : s.vm.findClass "Ballothall$Poll" = some m.cls) (hlocks : meth.locks = false) (hA : ∀ q, s.heap.size ≤ q → A q) (hG : KG z s) (hZ : FZ z A s) (hL : Lay E) : ∀ (fu : Nat) (M : Mm) (x2 : Int32) (t : Nat) (w2 : Int32) (N : Mm), l_Po_findPaths_15 E x1 fu M x2 = some (t, w2, N) → (t = 1 → ∀ (H : Heap) (locs : List Loc) (ls : Array Slot), va_P z.1 classes (wv z ad E N) H → va_D A (wv z ad E N) → va_S A s.heap H locs → lv_has ls 3 [(0, .ref (ad 41)), (1, .int x1)] → W p l e (rmK 2 67 0 0) s m args below meth c H locs 0 0 Q (F0 m 62 ls [])) → ∀ (H : Heap) (locs : List Loc) (ls : Array Slot), va_P z.1 classes (wv z ad E M) H → va_D A (wv z ad E M) → va_S A s.heap H locs → lv_has ls 3 [(0, .ref (ad 41)), (1, .int x1), (2, .int x2)] → W p l e (rmK 2 67 0 0) s m args below meth c H locs 0 0 Q (F0 m 15 ls []) := by
  intro fu
  induction fu with
  | zero =>
    intro M x2 t w2 N h
    have h : (none : Option (Nat × Int32 × Mm)) = some _ := h
    cases h
  | succ fu ih =>
    intro M x2 t w2 N h k1 H locs ls hP hD hS hl
    obtain ⟨⟨t0, w20, N0⟩, g0, h⟩ := bd_e h
    refine b_Po_findPaths_15b l z ad E M x1 x2 t0 w20 N0 hx hb hml hts hown hlocks hA hG hZ hL g0 (fun e0 => ?_) (fun e0 => ?_) H locs ls hP hD hS hl
    · subst e0
      have h := ite_t rfl h
      exact ih N0 w20 t w2 N h k1
    · subst e0
      have h := ite_f (by decide) h
      obtain ⟨rfl, rfl, rfl⟩ := in3 h
      exact k1 rfl
set_option maxRecDepth 100000 in
set_option maxHeartbeats 4000000 in
theorem b_Po_findPaths_2b (l : Launch) (z : Zz) (ad : Nat → Nat) (E : Ev) (M : Mm) (x1 : Int32) (t : Nat) (w1 : Int32) (N : Mm) {Q : State → Prop} {p : Program} {e : Env} {s : State} {m : MethodId} {below : List Frame} {meth : Method} {c : Code} {A : Nat → Prop} {args : Array Value} (hx : p.tables.exec = Jvm.exec) (hb : c.code = prog_11_method_12_code) (hml : c.maxLocals = 3) (hts : ∀ w ∈ WG, w.before args s = true) (hown : s.vm.findClass "Ballothall$Poll" = some m.cls) (hlocks : meth.locks = false) (hA : ∀ q, s.heap.size ≤ q → A q) (hG : KG z s) (hZ : FZ z A s) (hL : Lay E) (h : Po_findPaths_2b E M x1 = some (t, w1, N)) (k0 : t = 0 → ∀ (H : Heap) (locs : List Loc) (ls : Array Slot), va_P z.1 classes (wv z ad E N) H → va_D A (wv z ad E N) → va_S A s.heap H locs → lv_has ls 3 [(0, .ref (ad 41)), (1, .int w1)] → W p l e (rmK 2 67 0 0) s m args below meth c H locs 0 0 Q (F0 m 2 ls [])) (k1 : t = 1 → ∀ (H : Heap) (locs : List Loc) (ls : Array Slot), va_P z.1 classes (wv z ad E N) H → va_D A (wv z ad E N) → va_S A s.heap H locs → lv_has ls 3 [(0, .ref (ad 41))] → W p l e (rmK 2 67 0 0) s m args below meth c H locs 0 0 Q (F0 m 68 ls [])) : ∀ (H : Heap) (locs : List Loc) (ls : Array Slot), va_P z.1 classes (wv z ad E M) H → va_D A (wv z ad E M) → va_S A s.heap H locs → lv_has ls 3 [(0, .ref (ad 41)), (1, .int x1)] → W p l e (rmK 2 67 0 0) s m args below meth c H locs 0 0 Q (F0 m 2 ls []) := by
  intro H locs ls hP hD hS hl
  unfold Po_findPaths_2b at h
  refine lv_iload_n hx hb d_11_12_2 rfl (lv_at hl 1 rfl) ?_
  refine lv_aload_n hx hb d_11_12_3 rfl (lv_at hl 0 rfl) ?_
  refine m_gr (j := 2) (C := "Ballothall$Poll") (T := TX9) (N := 12) (ci := 9) (k := 0) hx hb hts iX9 hown hG hP (yi_41 hL) (yt_41 hL) rfl (by decide) w_107 (fun _ h9 => h9) rfl rfl (yr_41_0 hL) d_11_12_4 ?_
  refine m_giN (C := "Ballothall$BallotBox") (T := TX0) (N := 10) (ci := 0) (k := 2) hx hb hts iX0 hown hG hP (yi_2 hL) (yt_2 hL) rfl (by decide) n_53 rfl (fun _ h9 => h9) rfl rfl d_11_12_7 ?_
  refine lv_icmp_ge (tgt := 68) hx hb d_11_12_10 (by decide) (fun c9 => ?_) (fun c9 => ?_)
  · have h := ite_t c9 h
    obtain ⟨rfl, rfl, rfl⟩ := in3 h
    exact k1 rfl H locs ls hP hD hS (lv_sub hl [0] rfl)
  · have h := ite_f c9 h
    refine lv_iconst (v := 0) hx hb d_11_12_13 (by decide +kernel) ?_
    refine lv_istore_n (lv' := [(2, .int 0), (0, .ref (ad 41)), (1, .int x1)]) hx hb d_11_12_14 rfl hl (by decide) rfl (fun ls hl => ?_)
    obtain ⟨⟨t3, v3_2, M3⟩, g3, h⟩ := bd_e h
    obtain ⟨ok3, h⟩ := ck_e h
    refine s_Po_findPaths_15 l z ad E x1 hx hb hml hts hown hlocks hA hG hZ hL FU M 0 t3 v3_2 M3 g3 (fun e3 H locs ls hP hD hS hl => ?_) H locs ls hP hD hS (lv_sub hl [1, 2, 0] rfl)
    refine lv_iinc (v := (x1 + 1)) (lv' := [(1, .int (x1 + 1)), (0, .ref (ad 41))]) hx hb d_11_12_62 hl (k := 1) rfl (congrArg (fun q => x1 + q) (show Int32.ofInt 1 = 1 by decide +kernel)) (by decide) rfl (fun ls hl => ?_)
    refine lv_goto (tgt := 2) hx hb d_11_12_65 (by decide) ?_
    obtain ⟨rfl, rfl, rfl⟩ := in3 h
    exact k0 rfl H locs ls hP hD hS (lv_sub hl [1, 0] rfl)
set_option maxRecDepth 100000 in
set_option maxHeartbeats 4000000 in
theorem s_Po_findPaths_2 (l : Launch) (z : Zz) (ad : Nat → Nat) (E : Ev) {Q : State → Prop} {p : Program} {e : Env} {s : State} {m : MethodId} {below : List Frame} {meth : Method} {c : Code} {A : Nat → Prop} {args : Array Value} (hx : p.tables.exec = Jvm.exec) (hb : c.code = prog_11_method_12_code) (hml : c.maxLocals = 3) (hts : ∀ w ∈ WG, w.before args s = true) (hown : s.vm.findClass "Ballothall$Poll" = some m.cls) (hlocks : meth.locks = false) (hA : ∀ q, s.heap.size ≤ q → A q) (hG : KG z s) (hZ : FZ z A s) (hL : Lay E) : ∀ (fu : Nat) (M : Mm) (x1 : Int32) (t : Nat) (w1 : Int32) (N : Mm), l_Po_findPaths_2 E fu M x1 = some (t, w1, N) → (t = 1 → ∀ (H : Heap) (locs : List Loc) (ls : Array Slot), va_P z.1 classes (wv z ad E N) H → va_D A (wv z ad E N) → va_S A s.heap H locs → lv_has ls 3 [(0, .ref (ad 41))] → W p l e (rmK 2 67 0 0) s m args below meth c H locs 0 0 Q (F0 m 68 ls [])) → ∀ (H : Heap) (locs : List Loc) (ls : Array Slot), va_P z.1 classes (wv z ad E M) H → va_D A (wv z ad E M) → va_S A s.heap H locs → lv_has ls 3 [(0, .ref (ad 41)), (1, .int x1)] → W p l e (rmK 2 67 0 0) s m args below meth c H locs 0 0 Q (F0 m 2 ls []) := by
  intro fu
  induction fu with
  | zero =>
    intro M x1 t w1 N h
    have h : (none : Option (Nat × Int32 × Mm)) = some _ := h
    cases h
  | succ fu ih =>
    intro M x1 t w1 N h k1 H locs ls hP hD hS hl
    obtain ⟨⟨t0, w10, N0⟩, g0, h⟩ := bd_e h
    refine b_Po_findPaths_2b l z ad E M x1 t0 w10 N0 hx hb hml hts hown hlocks hA hG hZ hL g0 (fun e0 => ?_) (fun e0 => ?_) H locs ls hP hD hS hl
    · subst e0
      have h := ite_t rfl h
      exact ih N0 w10 t w1 N h k1
    · subst e0
      have h := ite_f (by decide) h
      obtain ⟨rfl, rfl, rfl⟩ := in3 h
      exact k1 rfl
set_option maxRecDepth 100000 in
set_option maxHeartbeats 4000000 in
theorem b_Po_findPaths_83b (l : Launch) (z : Zz) (ad : Nat → Nat) (E : Ev) (M : Mm) (x1 : Int32) (x2 : Int32) (t : Nat) (w2 : Int32) (N : Mm) {Q : State → Prop} {p : Program} {e : Env} {s : State} {m : MethodId} {below : List Frame} {meth : Method} {c : Code} {A : Nat → Prop} {args : Array Value} (hx : p.tables.exec = Jvm.exec) (hb : c.code = prog_11_method_12_code) (hml : c.maxLocals = 3) (hts : ∀ w ∈ WG, w.before args s = true) (hown : s.vm.findClass "Ballothall$Poll" = some m.cls) (hlocks : meth.locks = false) (hA : ∀ q, s.heap.size ≤ q → A q) (hG : KG z s) (hZ : FZ z A s) (hL : Lay E) (h : Po_findPaths_83b E M x1 x2 = some (t, w2, N)) (k0 : t = 0 → ∀ (H : Heap) (locs : List Loc) (ls : Array Slot), va_P z.1 classes (wv z ad E N) H → va_D A (wv z ad E N) → va_S A s.heap H locs → lv_has ls 3 [(0, .ref (ad 41)), (1, .int x1), (2, .int w2)] → W p l e (rmK 2 67 0 0) s m args below meth c H locs 0 0 Q (F0 m 83 ls [])) (k1 : t = 1 → ∀ (H : Heap) (locs : List Loc) (ls : Array Slot), va_P z.1 classes (wv z ad E N) H → va_D A (wv z ad E N) → va_S A s.heap H locs → lv_has ls 3 [(0, .ref (ad 41)), (1, .int x1)] → W p l e (rmK 2 67 0 0) s m args below meth c H locs 0 0 Q (F0 m 120 ls [])) : ∀ (H : Heap) (locs : List Loc) (ls : Array Slot), va_P z.1 classes (wv z ad E M) H → va_D A (wv z ad E M) → va_S A s.heap H locs → lv_has ls 3 [(0, .ref (ad 41)), (1, .int x1), (2, .int x2)] → W p l e (rmK 2 67 0 0) s m args below meth c H locs 0 0 Q (F0 m 83 ls []) := by
  intro H locs ls hP hD hS hl
  unfold Po_findPaths_83b at h
  refine lv_iload_n hx hb d_11_12_83 rfl (lv_at hl 2 rfl) ?_
  refine lv_aload_n hx hb d_11_12_84 rfl (lv_at hl 0 rfl) ?_
  refine m_gr (j := 2) (C := "Ballothall$Poll") (T := TX9) (N := 12) (ci := 9) (k := 0) hx hb hts iX9 hown hG hP (yi_41 hL) (yt_41 hL) rfl (by decide) w_107 (fun _ h9 => h9) rfl rfl (yr_41_0 hL) d_11_12_85 ?_
  refine m_giN (C := "Ballothall$BallotBox") (T := TX0) (N := 10) (ci := 0) (k := 2) hx hb hts iX0 hown hG hP (yi_2 hL) (yt_2 hL) rfl (by decide) n_53 rfl (fun _ h9 => h9) rfl rfl d_11_12_88 ?_
  refine lv_icmp_ge (tgt := 120) hx hb d_11_12_91 (by decide) (fun c9 => ?_) (fun c9 => ?_)
  · have h := ite_t c9 h
    obtain ⟨rfl, rfl, rfl⟩ := in3 h
    exact k1 rfl H locs ls hP hD hS (lv_sub hl [0, 1] rfl)
  · have h := ite_f c9 h
    refine lv_iload_n hx hb d_11_12_94 rfl (lv_at hl 2 rfl) ?_
    refine lv_iload_n hx hb d_11_12_95 rfl (lv_at hl 1 rfl) ?_
    refine lv_icmp_eq (tgt := 114) hx hb d_11_12_96 (by decide) (fun c9 => ?_) (fun c9 => ?_)
    · have h := ite_t c9 h
      refine lv_iinc (v := (x2 + 1)) (lv' := [(2, .int (x2 + 1)), (0, .ref (ad 41)), (1, .int x1)]) hx hb d_11_12_114 hl (k := 2) rfl (congrArg (fun q => x2 + q) (show Int32.ofInt 1 = 1 by decide +kernel)) (by decide) rfl (fun ls hl => ?_)
      refine lv_goto (tgt := 83) hx hb d_11_12_117 (by decide) ?_
      obtain ⟨rfl, rfl, rfl⟩ := in3 h
      exact k0 rfl H locs ls hP hD hS (lv_sub hl [1, 2, 0] rfl)
    · have h := ite_f c9 h
      refine lv_aload_n hx hb d_11_12_99 rfl (lv_at hl 0 rfl) ?_
      refine lv_iload_n hx hb d_11_12_100 rfl (lv_at hl 2 rfl) ?_
      refine lv_iload_n hx hb d_11_12_101 rfl (lv_at hl 1 rfl) ?_
      obtain ⟨⟨r5, M5⟩, g5, h⟩ := bd_e h
      refine kV (As := [.int x2, .int x1]) (rest := []) (s_Po_path l z ad E M x2 x1 r5 M5 hL g5) hx hb hml hown hts w_733 w_730 w_732 w_s_f68c3b w_3 md_2f75ac ⟨Nat.le_of_ble_eq_true rfl, Nat.le_of_ble_eq_true rfl⟩ hG hZ hP hD hS hA 41 (wv_o (ci := 9) (yi_41 hL) (yt_41 hL)) rfl rfl rfl hl.1 rfl (Nat.le_of_ble_eq_true rfl) d_11_12_102 ⟨Nat.le_of_ble_eq_true rfl, Nat.le_of_ble_eq_true rfl⟩ (fun _ H locs hP hD hS => ?_)
      have hP : va_P z.1 classes (wv z ad E M5) H := hP
      have hD : va_D A (wv z ad E M5) := hD
      refine W.eq (g2 := F0 m 105 ls [.int r5]) rfl ?_
      refine lv_if_le (tgt := 114) hx hb d_11_12_105 (by decide) (fun c9 => ?_) (fun c9 => ?_)
      · have h := ite_t c9 h
        refine lv_iinc (v := (x2 + 1)) (lv' := [(2, .int (x2 + 1)), (0, .ref (ad 41)), (1, .int x1)]) hx hb d_11_12_114 hl (k := 2) rfl (congrArg (fun q => x2 + q) (show Int32.ofInt 1 = 1 by decide +kernel)) (by decide) rfl (fun ls hl => ?_)
        refine lv_goto (tgt := 83) hx hb d_11_12_117 (by decide) ?_
        obtain ⟨rfl, rfl, rfl⟩ := in3 h
        exact k0 rfl H locs ls hP hD hS (lv_sub hl [1, 2, 0] rfl)
      · have h := ite_f c9 h
        refine lv_aload_n hx hb d_11_12_108 rfl (lv_at hl 0 rfl) ?_
        refine lv_iload_n hx hb d_11_12_109 rfl (lv_at hl 2 rfl) ?_
        refine lv_iload_n hx hb d_11_12_110 rfl (lv_at hl 1 rfl) ?_
        obtain ⟨M6, g6, h⟩ := bd_e h
        refine kV (As := [.int x2, .int x1]) (rest := []) (s_Po_widenPaths l z ad E M5 x2 x1 M6 hL g6) hx hb hml hown hts w_737 w_734 w_736 w_s_e0fb07 w_3 md_4155ed ⟨Nat.le_of_ble_eq_true rfl, Nat.le_of_ble_eq_true rfl⟩ hG hZ hP hD hS hA 41 (wv_o (ci := 9) (yi_41 hL) (yt_41 hL)) rfl rfl rfl hl.1 rfl (Nat.le_of_ble_eq_true rfl) d_11_12_111 ⟨Nat.le_of_ble_eq_true rfl, Nat.le_of_ble_eq_true rfl⟩ (fun _ H locs hP hD hS => ?_)
        have hP : va_P z.1 classes (wv z ad E M6) H := hP
        have hD : va_D A (wv z ad E M6) := hD
        refine W.eq (g2 := F0 m 114 ls []) rfl ?_
        refine lv_iinc (v := (x2 + 1)) (lv' := [(2, .int (x2 + 1)), (0, .ref (ad 41)), (1, .int x1)]) hx hb d_11_12_114 hl (k := 2) rfl (congrArg (fun q => x2 + q) (show Int32.ofInt 1 = 1 by decide +kernel)) (by decide) rfl (fun ls hl => ?_)
        refine lv_goto (tgt := 83) hx hb d_11_12_117 (by decide) ?_
        obtain ⟨rfl, rfl, rfl⟩ := in3 h
        exact k0 rfl H locs ls hP hD hS (lv_sub hl [1, 2, 0] rfl)
