set_option maxRecDepth 100000 in
set_option maxHeartbeats 4000000 in
theorem b_Li_spread_6b (l : Launch) (z : Zz) (ad : Nat → Nat) (E : Ev) (M : Mm) (x1 : Int32) (x2 : Int32) (x3 : Int32) (x4 : Int64) (x6 : Int32) (t : Nat) (w4 : Int64) (w6 : Int32) (N : Mm) {Q : State → Prop} {p : Program} {e : Env} {s : State} {m : MethodId} {below : List Frame} {meth : Method} {c : Code} {A : Nat → Prop} {args : Array Value} (hx : p.tables.exec = Jvm.exec) (hb : c.code = prog_9_method_5_code) (hml : c.maxLocals = 7) (hts : ∀ w ∈ WG, w.before args s = true) (hown : s.vm.findClass "Ballothall$Lists" = some m.cls) (hlocks : meth.locks = false) (hA : ∀ q, s.heap.size ≤ q → A q) (hG : KG z s) (hZ : FZ z A s) (hL : Lay E) (h : Li_spread_6b E M x1 x2 x3 x4 x6 = some (t, w4, w6, N)) (k0 : t = 0 → ∀ (H : Heap) (locs : List Loc) (ls : Array Slot), va_P z.1 classes (wv z ad E N) H → va_D A (wv z ad E N) → va_S A s.heap H locs → lv_has ls 7 [(0, .ref (ad 53)), (1, .int x1), (2, .int x2), (3, .int x3), (4, .long w4), (6, .int w6)] → W p l e (rmK 5 140 0 0) s m args below meth c H locs 0 0 Q (F0 m 6 ls [])) (k1 : t = 1 → ∀ (H : Heap) (locs : List Loc) (ls : Array Slot), va_P z.1 classes (wv z ad E N) H → va_D A (wv z ad E N) → va_S A s.heap H locs → lv_has ls 7 [(0, .ref (ad 53)), (1, .int x1), (2, .int x2), (3, .int x3), (4, .long w4)] → W p l e (rmK 5 140 0 0) s m args below meth c H locs 0 0 Q (F0 m 34 ls [])) : ∀ (H : Heap) (locs : List Loc) (ls : Array Slot), va_P z.1 classes (wv z ad E M) H → va_D A (wv z ad E M) → va_S A s.heap H locs → lv_has ls 7 [(0, .ref (ad 53)), (1, .int x1), (2, .int x2), (3, .int x3), (4, .long x4), (6, .int x6)] → W p l e (rmK 5 140 0 0) s m args below meth c H locs 0 0 Q (F0 m 6 ls []) := by
  intro H locs ls hP hD hS hl
  unfold Li_spread_6b at h
  refine lv_iload hx hb d_9_5_6 (lv_at hl 5 rfl) ?_
  refine lv_aload_n hx hb d_9_5_8 rfl (lv_at hl 0 rfl) ?_
  refine m_gi (C := "Ballothall$Lists") (T := TX7) (N := 11) (ci := 7) (k := 0) hx hb hts iX7 hown hG hP (yi_53 hL) (yt_53 hL) rfl (by decide) w_242 (fun _ h9 => h9) rfl rfl d_9_5_9 ?_
  refine lv_icmp_ge (tgt := 34) hx hb d_9_5_12 (by decide) (fun c9 => ?_) (fun c9 => ?_)
  · have h := ite_t c9 h
    obtain ⟨rfl, rfl, rfl, rfl⟩ := in4 h
    exact k1 rfl H locs ls hP hD hS (lv_sub hl [0, 1, 2, 3, 4] rfl)
  · have h := ite_f c9 h
    refine lv_lload hx hb d_9_5_15 (lv_at hl 4 rfl) ?_
    refine lv_aload_n hx hb d_9_5_17 rfl (lv_at hl 0 rfl) ?_
    refine m_gr (j := 54) (C := "Ballothall$Lists") (T := TX7) (N := 11) (ci := 7) (k := 1) hx hb hts iX7 hown hG hP (yi_53 hL) (yt_53 hL) rfl (by decide) w_244 (fun _ h9 => h9) rfl rfl (yr_53_1 hL) d_9_5_18 ?_
    refine lv_iload hx hb d_9_5_21 (lv_at hl 5 rfl) ?_
    obtain ⟨ok0, h⟩ := ck_e h
    refine m_ia hx hb hG hP (yi_54 hL) (yt_54 hL) ok0 d_9_5_23 ?_
    refine lv_i2l (v := (M.1 54 x6.toNatClampNeg).toInt64) hx hb d_9_5_24 rfl ?_
    refine lv_ladd hx hb d_9_5_25 ?_
    obtain ⟨v1, e1, h⟩ := nb_e h
    refine nrmL e1.symm ?_
    refine lv_lstore (lv' := [(4, .long v1), (0, .ref (ad 53)), (1, .int x1), (2, .int x2), (3, .int x3), (6, .int x6)]) hx hb d_9_5_26 hl (by decide) rfl (fun ls hl => ?_)
    refine lv_iinc (v := (x6 + 1)) (lv' := [(6, .int (x6 + 1)), (4, .long v1), (0, .ref (ad 53)), (1, .int x1), (2, .int x2), (3, .int x3)]) hx hb d_9_5_28 hl (k := 5) rfl (congrArg (fun q => x6 + q) (show Int32.ofInt 1 = 1 by decide +kernel)) (by decide) rfl (fun ls hl => ?_)
    refine lv_goto (tgt := 6) hx hb d_9_5_31 (by decide) ?_
    obtain ⟨rfl, rfl, rfl, rfl⟩ := in4 h
    exact k0 rfl H locs ls hP hD hS (lv_sub hl [2, 3, 4, 5, 1, 0] rfl)
set_option maxRecDepth 100000 in
set_option maxHeartbeats 4000000 in
theorem s_Li_spread_6 (l : Launch) (z : Zz) (ad : Nat → Nat) (E : Ev) (x1 : Int32) (x2 : Int32) (x3 : Int32) {Q : State → Prop} {p : Program} {e : Env} {s : State} {m : MethodId} {below : List Frame} {meth : Method} {c : Code} {A : Nat → Prop} {args : Array Value} (hx : p.tables.exec = Jvm.exec) (hb : c.code = prog_9_method_5_code) (hml : c.maxLocals = 7) (hts : ∀ w ∈ WG, w.before args s = true) (hown : s.vm.findClass "Ballothall$Lists" = some m.cls) (hlocks : meth.locks = false) (hA : ∀ q, s.heap.size ≤ q → A q) (hG : KG z s) (hZ : FZ z A s) (hL : Lay E) : ∀ (fu : Nat) (M : Mm) (x4 : Int64) (x6 : Int32) (t : Nat) (w4 : Int64) (w6 : Int32) (N : Mm), l_Li_spread_6 E x1 x2 x3 fu M x4 x6 = some (t, w4, w6, N) → (t = 1 → ∀ (H : Heap) (locs : List Loc) (ls : Array Slot), va_P z.1 classes (wv z ad E N) H → va_D A (wv z ad E N) → va_S A s.heap H locs → lv_has ls 7 [(0, .ref (ad 53)), (1, .int x1), (2, .int x2), (3, .int x3), (4, .long w4)] → W p l e (rmK 5 140 0 0) s m args below meth c H locs 0 0 Q (F0 m 34 ls [])) → ∀ (H : Heap) (locs : List Loc) (ls : Array Slot), va_P z.1 classes (wv z ad E M) H → va_D A (wv z ad E M) → va_S A s.heap H locs → lv_has ls 7 [(0, .ref (ad 53)), (1, .int x1), (2, .int x2), (3, .int x3), (4, .long x4), (6, .int x6)] → W p l e (rmK 5 140 0 0) s m args below meth c H locs 0 0 Q (F0 m 6 ls []) := by
  intro fu
  induction fu with
  | zero =>
    intro M x4 x6 t w4 w6 N h
    have h : (none : Option (Nat × Int64 × Int32 × Mm)) = some _ := h
    cases h
  | succ fu ih =>
    intro M x4 x6 t w4 w6 N h k1 H locs ls hP hD hS hl
    obtain ⟨⟨t0, w40, w60, N0⟩, g0, h⟩ := bd_e h
    refine b_Li_spread_6b l z ad E M x1 x2 x3 x4 x6 t0 w40 w60 N0 hx hb hml hts hown hlocks hA hG hZ hL g0 (fun e0 => ?_) (fun e0 => ?_) H locs ls hP hD hS hl
    · subst e0
      have h := ite_t rfl h
      exact ih N0 w40 w60 t w4 w6 N h k1
    · subst e0
      have h := ite_f (by decide) h
      obtain ⟨rfl, rfl, rfl, rfl⟩ := in4 h
      exact k1 rfl
set_option maxRecDepth 100000 in
set_option maxHeartbeats 4000000 in
theorem b_Li_spread_49b (l : Launch) (z : Zz) (ad : Nat → Nat) (E : Ev) (M : Mm) (x1 : Int32) (x2 : Int32) (x3 : Int32) (x4 : Int64) (x6 : Int32) (t : Nat) (w6 : Int32) (N : Mm) {Q : State → Prop} {p : Program} {e : Env} {s : State} {m : MethodId} {below : List Frame} {meth : Method} {c : Code} {A : Nat → Prop} {args : Array Value} (hx : p.tables.exec = Jvm.exec) (hb : c.code = prog_9_method_5_code) (hml : c.maxLocals = 7) (hts : ∀ w ∈ WG, w.before args s = true) (hown : s.vm.findClass "Ballothall$Lists" = some m.cls) (hlocks : meth.locks = false) (hA : ∀ q, s.heap.size ≤ q → A q) (hG : KG z s) (hZ : FZ z A s) (hL : Lay E) (h : Li_spread_49b E M x1 x2 x3 x4 x6 = some (t, w6, N)) (k0 : t = 0 → ∀ (H : Heap) (locs : List Loc) (ls : Array Slot), va_P z.1 classes (wv z ad E N) H → va_D A (wv z ad E N) → va_S A s.heap H locs → lv_has ls 7 [(0, .ref (ad 53)), (1, .int x1), (2, .int x2), (3, .int x3), (4, .long x4), (6, .int w6)] → W p l e (rmK 5 140 0 0) s m args below meth c H locs 0 0 Q (F0 m 49 ls [])) (k1 : t = 1 → ∀ (H : Heap) (locs : List Loc) (ls : Array Slot), va_P z.1 classes (wv z ad E N) H → va_D A (wv z ad E N) → va_S A s.heap H locs → lv_has ls 7 [(0, .ref (ad 53)), (1, .int x1), (2, .int x2)] → W p l e (rmK 5 140 0 0) s m args below meth c H locs 0 0 Q (F0 m 84 ls [])) : ∀ (H : Heap) (locs : List Loc) (ls : Array Slot), va_P z.1 classes (wv z ad E M) H → va_D A (wv z ad E M) → va_S A s.heap H locs → lv_has ls 7 [(0, .ref (ad 53)), (1, .int x1), (2, .int x2), (3, .int x3), (4, .long x4), (6, .int x6)] → W p l e (rmK 5 140 0 0) s m args below meth c H locs 0 0 Q (F0 m 49 ls []) := by
  intro H locs ls hP hD hS hl
  unfold Li_spread_49b at h
  refine lv_iload hx hb d_9_5_49 (lv_at hl 5 rfl) ?_
  refine lv_aload_n hx hb d_9_5_51 rfl (lv_at hl 0 rfl) ?_
  refine m_gi (C := "Ballothall$Lists") (T := TX7) (N := 11) (ci := 7) (k := 0) hx hb hts iX7 hown hG hP (yi_53 hL) (yt_53 hL) rfl (by decide) w_242 (fun _ h9 => h9) rfl rfl d_9_5_52 ?_
  refine lv_icmp_ge (tgt := 84) hx hb d_9_5_55 (by decide) (fun c9 => ?_) (fun c9 => ?_)
  · have h := ite_t c9 h
    obtain ⟨rfl, rfl, rfl⟩ := in3 h
    exact k1 rfl H locs ls hP hD hS (lv_sub hl [0, 1, 2] rfl)
  · have h := ite_f c9 h
    refine lv_aload_n hx hb d_9_5_58 rfl (lv_at hl 0 rfl) ?_
    refine lv_iload hx hb d_9_5_59 (lv_at hl 5 rfl) ?_
    obtain ⟨⟨r4, M4⟩, g4, h⟩ := bd_e h
    refine kV (As := [.int x6]) (rest := []) (s_Li_isFirstOfUnit l z ad E M x6 r4 M4 hL g4) hx hb hml hown hts w_1532 w_1529 w_1531 w_s_af83a0 w_5 md_fff193 ⟨Nat.le_of_ble_eq_true rfl, Nat.le_of_ble_eq_true rfl⟩ hG hZ hP hD hS hA 53 (wv_o (ci := 7) (yi_53 hL) (yt_53 hL)) rfl rfl rfl hl.1 rfl (Nat.le_of_ble_eq_true rfl) d_9_5_61 ⟨Nat.le_of_ble_eq_true rfl, Nat.le_of_ble_eq_true rfl⟩ (fun _ H locs hP hD hS => ?_)
    have hP : va_P z.1 classes (wv z ad E M4) H := hP
    have hD : va_D A (wv z ad E M4) := hD
    refine W.eq (g2 := F0 m 64 ls [.int r4]) rfl ?_
    refine lv_if_eq (tgt := 78) hx hb d_9_5_64 (by decide) (fun c9 => ?_) (fun c9 => ?_)
    · have h := ite_t c9 h
      refine lv_iinc (v := (x6 + 1)) (lv' := [(6, .int (x6 + 1)), (0, .ref (ad 53)), (1, .int x1), (2, .int x2), (3, .int x3), (4, .long x4)]) hx hb d_9_5_78 hl (k := 5) rfl (congrArg (fun q => x6 + q) (show Int32.ofInt 1 = 1 by decide +kernel)) (by decide) rfl (fun ls hl => ?_)
      refine lv_goto (tgt := 49) hx hb d_9_5_81 (by decide) ?_
      obtain ⟨rfl, rfl, rfl⟩ := in3 h
      exact k0 rfl H locs ls hP hD hS (lv_sub hl [1, 2, 3, 4, 5, 0] rfl)
    · have h := ite_f c9 h
      refine lv_aload_n hx hb d_9_5_67 rfl (lv_at hl 0 rfl) ?_
      refine lv_iload hx hb d_9_5_68 (lv_at hl 5 rfl) ?_
      refine lv_iload_n hx hb d_9_5_70 rfl (lv_at hl 3 rfl) ?_
      refine lv_i2l (v := x3.toInt64) hx hb d_9_5_71 rfl ?_
      refine lv_lload hx hb d_9_5_72 (lv_at hl 4 rfl) ?_
      refine lv_lmul hx hb d_9_5_74 ?_
      obtain ⟨M5, g5, h⟩ := bd_e h
      refine kV (As := [.int x6, .long (x3.toInt64 * x4)]) (rest := []) (s_Li_appendUnit l z ad E M4 x6 (x3.toInt64 * x4) M5 hL g5) hx hb hml hown hts w_1540 w_1537 w_1539 w_s_a3b725 w_5 md_2bc459 ⟨Nat.le_of_ble_eq_true rfl, Nat.le_of_ble_eq_true rfl⟩ hG hZ hP hD hS hA 53 (wv_o (ci := 7) (yi_53 hL) (yt_53 hL)) rfl rfl rfl hl.1 rfl (Nat.le_of_ble_eq_true rfl) d_9_5_75 ⟨Nat.le_of_ble_eq_true rfl, Nat.le_of_ble_eq_true rfl⟩ (fun _ H locs hP hD hS => ?_)
      have hP : va_P z.1 classes (wv z ad E M5) H := hP
      have hD : va_D A (wv z ad E M5) := hD
      refine W.eq (g2 := F0 m 78 ls []) rfl ?_
      refine lv_iinc (v := (x6 + 1)) (lv' := [(6, .int (x6 + 1)), (0, .ref (ad 53)), (1, .int x1), (2, .int x2), (3, .int x3), (4, .long x4)]) hx hb d_9_5_78 hl (k := 5) rfl (congrArg (fun q => x6 + q) (show Int32.ofInt 1 = 1 by decide +kernel)) (by decide) rfl (fun ls hl => ?_)
      refine lv_goto (tgt := 49) hx hb d_9_5_81 (by decide) ?_
      obtain ⟨rfl, rfl, rfl⟩ := in3 h
      exact k0 rfl H locs ls hP hD hS (lv_sub hl [1, 2, 3, 4, 5, 0] rfl)
set_option maxRecDepth 100000 in
set_option maxHeartbeats 4000000 in
theorem s_Li_spread_49 (l : Launch) (z : Zz) (ad : Nat → Nat) (E : Ev) (x1 : Int32) (x2 : Int32) (x3 : Int32) (x4 : Int64) {Q : State → Prop} {p : Program} {e : Env} {s : State} {m : MethodId} {below : List Frame} {meth : Method} {c : Code} {A : Nat → Prop} {args : Array Value} (hx : p.tables.exec = Jvm.exec) (hb : c.code = prog_9_method_5_code) (hml : c.maxLocals = 7) (hts : ∀ w ∈ WG, w.before args s = true) (hown : s.vm.findClass "Ballothall$Lists" = some m.cls) (hlocks : meth.locks = false) (hA : ∀ q, s.heap.size ≤ q → A q) (hG : KG z s) (hZ : FZ z A s) (hL : Lay E) : ∀ (fu : Nat) (M : Mm) (x6 : Int32) (t : Nat) (w6 : Int32) (N : Mm), l_Li_spread_49 E x1 x2 x3 x4 fu M x6 = some (t, w6, N) → (t = 1 → ∀ (H : Heap) (locs : List Loc) (ls : Array Slot), va_P z.1 classes (wv z ad E N) H → va_D A (wv z ad E N) → va_S A s.heap H locs → lv_has ls 7 [(0, .ref (ad 53)), (1, .int x1), (2, .int x2)] → W p l e (rmK 5 140 0 0) s m args below meth c H locs 0 0 Q (F0 m 84 ls [])) → ∀ (H : Heap) (locs : List Loc) (ls : Array Slot), va_P z.1 classes (wv z ad E M) H → va_D A (wv z ad E M) → va_S A s.heap H locs → lv_has ls 7 [(0, .ref (ad 53)), (1, .int x1), (2, .int x2), (3, .int x3), (4, .long x4), (6, .int x6)] → W p l e (rmK 5 140 0 0) s m args below meth c H locs 0 0 Q (F0 m 49 ls []) := by
  intro fu
  induction fu with
  | zero =>
    intro M x6 t w6 N h
    have h : (none : Option (Nat × Int32 × Mm)) = some _ := h
    cases h
  | succ fu ih =>
    intro M x6 t w6 N h k1 H locs ls hP hD hS hl
    obtain ⟨⟨t0, w60, N0⟩, g0, h⟩ := bd_e h
    refine b_Li_spread_49b l z ad E M x1 x2 x3 x4 x6 t0 w60 N0 hx hb hml hts hown hlocks hA hG hZ hL g0 (fun e0 => ?_) (fun e0 => ?_) H locs ls hP hD hS hl
    · subst e0
      have h := ite_t rfl h
      exact ih N0 w60 t w6 N h k1
    · subst e0
      have h := ite_f (by decide) h
      obtain ⟨rfl, rfl, rfl⟩ := in3 h
      exact k1 rfl
set_option maxRecDepth 100000 in
set_option maxHeartbeats 4000000 in
theorem b_Li_spread_104b (l : Launch) (z : Zz) (ad : Nat → Nat) (E : Ev) (M : Mm) (x1 : Int32) (x6 : Int32) (t : Nat) (w6 : Int32) (N : Mm) {Q : State → Prop} {p : Program} {e : Env} {s : State} {m : MethodId} {below : List Frame} {meth : Method} {c : Code} {A : Nat → Prop} {args : Array Value} (hx : p.tables.exec = Jvm.exec) (hb : c.code = prog_9_method_5_code) (hml : c.maxLocals = 7) (hts : ∀ w ∈ WG, w.before args s = true) (hown : s.vm.findClass "Ballothall$Lists" = some m.cls) (hlocks : meth.locks = false) (hA : ∀ q, s.heap.size ≤ q → A q) (hG : KG z s) (hZ : FZ z A s) (hL : Lay E) (h : Li_spread_104b E M x1 x6 = some (t, w6, N)) (k0 : t = 0 → ∀ (H : Heap) (locs : List Loc) (ls : Array Slot), va_P z.1 classes (wv z ad E N) H → va_D A (wv z ad E N) → va_S A s.heap H locs → lv_has ls 7 [(0, .ref (ad 53)), (1, .int x1), (6, .int w6)] → W p l e (rmK 5 140 0 0) s m args below meth c H locs 0 0 Q (F0 m 104 ls [])) (k1 : t = 1 → ∀ (H : Heap) (locs : List Loc) (ls : Array Slot), va_P z.1 classes (wv z ad E N) H → va_D A (wv z ad E N) → va_S A s.heap H locs → lv_has ls 7 [(0, .ref (ad 53))] → W p l e (rmK 5 140 0 0) s m args below meth c H locs 0 0 Q (F0 m 147 ls [])) : ∀ (H : Heap) (locs : List Loc) (ls : Array Slot), va_P z.1 classes (wv z ad E M) H → va_D A (wv z ad E M) → va_S A s.heap H locs → lv_has ls 7 [(0, .ref (ad 53)), (1, .int x1), (6, .int x6)] → W p l e (rmK 5 140 0 0) s m args below meth c H locs 0 0 Q (F0 m 104 ls []) := by
  intro H locs ls hP hD hS hl
  unfold Li_spread_104b at h
  refine lv_iload hx hb d_9_5_104 (lv_at hl 2 rfl) ?_
  refine lv_aload_n hx hb d_9_5_106 rfl (lv_at hl 0 rfl) ?_
  refine m_gr (j := 57) (C := "Ballothall$Lists") (T := TX7) (N := 11) (ci := 7) (k := 4) hx hb hts iX7 hown hG hP (yi_53 hL) (yt_53 hL) rfl (by decide) w_249 (fun _ h9 => h9) rfl rfl (yr_53_4 hL) d_9_5_107 ?_
  refine m_giN (C := "Ballothall$Division") (T := TX4) (N := 8) (ci := 4) (k := 0) hx hb hts iX4 hown hG hP (yi_57 hL) (yt_57 hL) rfl (by decide) n_176 rfl (fun _ h9 => h9) rfl rfl d_9_5_110 ?_
  refine lv_icmp_ge (tgt := 147) hx hb d_9_5_113 (by decide) (fun c9 => ?_) (fun c9 => ?_)
  · have h := ite_t c9 h
    obtain ⟨rfl, rfl, rfl⟩ := in3 h
    exact k1 rfl H locs ls hP hD hS (lv_sub hl [0] rfl)
  · have h := ite_f c9 h
    refine lv_aload_n hx hb d_9_5_116 rfl (lv_at hl 0 rfl) ?_
    refine lv_aload_n hx hb d_9_5_117 rfl (lv_at hl 0 rfl) ?_
    refine m_gr (j := 57) (C := "Ballothall$Lists") (T := TX7) (N := 11) (ci := 7) (k := 4) hx hb hts iX7 hown hG hP (yi_53 hL) (yt_53 hL) rfl (by decide) w_249 (fun _ h9 => h9) rfl rfl (yr_53_4 hL) d_9_5_118 ?_
    refine m_grN (j := 58) (C := "Ballothall$Division") (T := TX4) (N := 8) (ci := 4) (k := 2) hx hb hts iX4 hown hG hP (yi_57 hL) (yt_57 hL) rfl (by decide) n_180 rfl (fun _ h9 => h9) rfl rfl (yr_57_2 hL) d_9_5_121 ?_
    refine lv_iload hx hb d_9_5_124 (lv_at hl 2 rfl) ?_
    obtain ⟨ok9, h⟩ := ck_e h
    refine m_ia hx hb hG hP (yi_58 hL) (yt_58 hL) ok9 d_9_5_126 ?_
    refine lv_iload_n hx hb d_9_5_127 rfl (lv_at hl 1 rfl) ?_
    refine lv_aload_n hx hb d_9_5_128 rfl (lv_at hl 0 rfl) ?_
    refine m_gr (j := 57) (C := "Ballothall$Lists") (T := TX7) (N := 11) (ci := 7) (k := 4) hx hb hts iX7 hown hG hP (yi_53 hL) (yt_53 hL) rfl (by decide) w_249 (fun _ h9 => h9) rfl rfl (yr_53_4 hL) d_9_5_129 ?_
    refine m_grN (j := 61) (C := "Ballothall$Division") (T := TX4) (N := 8) (ci := 4) (k := 5) hx hb hts iX4 hown hG hP (yi_57 hL) (yt_57 hL) rfl (by decide) n_184 rfl (fun _ h9 => h9) rfl rfl (yr_57_5 hL) d_9_5_132 ?_
    refine lv_iload hx hb d_9_5_135 (lv_at hl 2 rfl) ?_
    obtain ⟨ok10, h⟩ := ck_e h
    refine m_ia hx hb hG hP (yi_61 hL) (yt_61 hL) ok10 d_9_5_137 ?_
    obtain ⟨M11, g11, h⟩ := bd_e h
    refine kV (As := [.int (M.1 58 x6.toNatClampNeg), .int x1, .int (M.1 61 x6.toNatClampNeg)]) (rest := []) (s_Li_spreadInside l z ad E M (M.1 58 x6.toNatClampNeg) x1 (M.1 61 x6.toNatClampNeg) M11 hL g11) hx hb hml hown hts w_1580 w_1577 w_1579 w_s_c92924 w_5 md_b5a701 ⟨Nat.le_of_ble_eq_true rfl, Nat.le_of_ble_eq_true rfl⟩ hG hZ hP hD hS hA 53 (wv_o (ci := 7) (yi_53 hL) (yt_53 hL)) rfl rfl rfl hl.1 rfl (Nat.le_of_ble_eq_true rfl) d_9_5_138 ⟨Nat.le_of_ble_eq_true rfl, Nat.le_of_ble_eq_true rfl⟩ (fun _ H locs hP hD hS => ?_)
    have hP : va_P z.1 classes (wv z ad E M11) H := hP
    have hD : va_D A (wv z ad E M11) := hD
    refine W.eq (g2 := F0 m 141 ls []) rfl ?_
    refine lv_iinc (v := (x6 + 1)) (lv' := [(6, .int (x6 + 1)), (0, .ref (ad 53)), (1, .int x1)]) hx hb d_9_5_141 hl (k := 2) rfl (congrArg (fun q => x6 + q) (show Int32.ofInt 1 = 1 by decide +kernel)) (by decide) rfl (fun ls hl => ?_)
    refine lv_goto (tgt := 104) hx hb d_9_5_144 (by decide) ?_
    obtain ⟨rfl, rfl, rfl⟩ := in3 h
    exact k0 rfl H locs ls hP hD hS (lv_sub hl [1, 2, 0] rfl)
set_option maxRecDepth 100000 in
set_option maxHeartbeats 4000000 in
theorem s_Li_spread_104 (l : Launch) (z : Zz) (ad : Nat → Nat) (E : Ev) (x1 : Int32) {Q : State → Prop} {p : Program} {e : Env} {s : State} {m : MethodId} {below : List Frame} {meth : Method} {c : Code} {A : Nat → Prop} {args : Array Value} (hx : p.tables.exec = Jvm.exec) (hb : c.code = prog_9_method_5_code) (hml : c.maxLocals = 7) (hts : ∀ w ∈ WG, w.before args s = true) (hown : s.vm.findClass "Ballothall$Lists" = some m.cls) (hlocks : meth.locks = false) (hA : ∀ q, s.heap.size ≤ q → A q) (hG : KG z s) (hZ : FZ z A s) (hL : Lay E) : ∀ (fu : Nat) (M : Mm) (x6 : Int32) (t : Nat) (w6 : Int32) (N : Mm), l_Li_spread_104 E x1 fu M x6 = some (t, w6, N) → (t = 1 → ∀ (H : Heap) (locs : List Loc) (ls : Array Slot), va_P z.1 classes (wv z ad E N) H → va_D A (wv z ad E N) → va_S A s.heap H locs → lv_has ls 7 [(0, .ref (ad 53))] → W p l e (rmK 5 140 0 0) s m args below meth c H locs 0 0 Q (F0 m 147 ls [])) → ∀ (H : Heap) (locs : List Loc) (ls : Array Slot), va_P z.1 classes (wv z ad E M) H → va_D A (wv z ad E M) → va_S A s.heap H locs → lv_has ls 7 [(0, .ref (ad 53)), (1, .int x1), (6, .int x6)] → W p l e (rmK 5 140 0 0) s m args below meth c H locs 0 0 Q (F0 m 104 ls []) := by
  intro fu
  induction fu with
  | zero =>
    intro M x6 t w6 N h
    have h : (none : Option (Nat × Int32 × Mm)) = some _ := h
    cases h
  | succ fu ih =>
    intro M x6 t w6 N h k1 H locs ls hP hD hS hl
    obtain ⟨⟨t0, w60, N0⟩, g0, h⟩ := bd_e h
    refine b_Li_spread_104b l z ad E M x1 x6 t0 w60 N0 hx hb hml hts hown hlocks hA hG hZ hL g0 (fun e0 => ?_) (fun e0 => ?_) H locs ls hP hD hS hl
    · subst e0
      have h := ite_t rfl h
      exact ih N0 w60 t w6 N h k1
    · subst e0
      have h := ite_f (by decide) h
      obtain ⟨rfl, rfl, rfl⟩ := in3 h
      exact k1 rfl
set_option maxRecDepth 100000 in
set_option maxHeartbeats 4000000 in
theorem s_Li_spread (l : Launch) (z : Zz) (ad : Nat → Nat) (E : Ev) (M : Mm) (x1 : Int32) (x2 : Int32) (x3 : Int32) (r : Int32) (N : Mm) (hL : Lay E) (h : f_Li_spread E M x1 x2 x3 = some (r, N)) : CT l z ⟨"Ballothall$Lists", "spread", "(III)I"⟩ prog_9_method_5_code 7 (some .int) [.ref (ad 53), .int x1, .int x2, .int x3] (wv z ad E M) 5 140 0 0 (fun _ => some (.int r)) (fun _ => wv z ad E N) := by
  refine CT.of (own := "Ballothall$Lists") (by decide +kernel) (Nat.le_of_ble_eq_true rfl) rfl (fun p e s m below meth c A ls hx hb hml hr hts hown hlocks hin hA hG hZ hP hD hS hl => ?_)
  have hl : lv_has ls 7 [(0, .ref (ad 53)), (1, .int x1), (2, .int x2), (3, .int x3)] := hl
  have key : ∀ (H : Heap) (locs : List Loc) (args : Array Value), (∀ w ∈ WG, w.before args s = true) → va_P z.1 classes (wv z ad E M) H → va_S A s.heap H locs → W p l e (rmK 5 140 0 0) s m args below meth c H locs 0 0 (MQ below (QK z A (fun _ => some (.int r)) (fun _ => wv z ad E N)) args s 0 0 A) (F0 m 0 ls []) := by
    intro H locs args hts hP hS
    unfold f_Li_spread at h
    refine lv_lconst (v := 0) hx hb d_9_5_0 (by decide +kernel) ?_
    refine lv_lstore (lv' := [(4, .long 0), (0, .ref (ad 53)), (1, .int x1), (2, .int x2), (3, .int x3)]) hx hb d_9_5_1 hl (by decide) rfl (fun ls hl => ?_)
    refine lv_iconst (v := 0) hx hb d_9_5_3 (by decide +kernel) ?_
    refine lv_istore (lv' := [(6, .int 0), (4, .long 0), (0, .ref (ad 53)), (1, .int x1), (2, .int x2), (3, .int x3)]) hx hb d_9_5_4 hl (by decide) rfl (fun ls hl => ?_)
    obtain ⟨⟨t2, v2_4, v2_6, M2⟩, g2, h⟩ := bd_e h
    obtain ⟨ok2, h⟩ := ck_e h
    refine s_Li_spread_6 l z ad E x1 x2 x3 hx hb hml hts hown hlocks hA hG hZ hL FU M 0 0 t2 v2_4 v2_6 M2 g2 (fun e2 H locs ls hP hD hS hl => ?_) H locs ls hP hD hS (lv_sub hl [2, 3, 4, 5, 1, 0] rfl)
    refine lv_aload_n hx hb d_9_5_34 rfl (lv_at hl 0 rfl) ?_
    refine m_gr (j := 57) (C := "Ballothall$Lists") (T := TX7) (N := 11) (ci := 7) (k := 4) hx hb hts iX7 hown hG hP (yi_53 hL) (yt_53 hL) rfl (by decide) w_249 (fun _ h9 => h9) rfl rfl (yr_53_4 hL) d_9_5_35 ?_
    obtain ⟨M3, g3, h⟩ := bd_e h
    refine kVN (As := []) (rest := []) (s_Di_clear l z ad E M2 57 M3 hL g3) hx hb hml hown hts w_1528 n_1525 w_1527 w_s_030e9c w_6 md_4dddda ⟨Nat.le_of_ble_eq_true rfl, Nat.le_of_ble_eq_true rfl⟩ hG hZ hP hD hS hA 57 (wv_o (ci := 4) (yi_57 hL) (yt_57 hL)) rfl rfl rfl hl.1 rfl (Nat.le_of_ble_eq_true rfl) d_9_5_38 ⟨Nat.le_of_ble_eq_true rfl, Nat.le_of_ble_eq_true rfl⟩ (fun _ H locs hP hD hS => ?_)
    have hP : va_P z.1 classes (wv z ad E M3) H := hP
    have hD : va_D A (wv z ad E M3) := hD
    refine W.eq (g2 := F0 m 41 ls []) rfl ?_
    refine lv_aload_n hx hb d_9_5_41 rfl (lv_at hl 0 rfl) ?_
    refine lv_iconst (v := 0) hx hb d_9_5_42 (by decide +kernel) ?_
    refine m_pi (C := "Ballothall$Lists") (T := TX7) (N := 11) (ci := 7) (k := 6) (ty := .boolean) hx hb hts iX7 hown hG hP hD hS (yi_53 hL) (yt_53 hL) rfl (by decide) w_251 (fun _ h9 => h9) rfl rfl tyX7_ok nmX7 rfl (by decide +kernel) rfl rfl d_9_5_43 (fun H locs hP hD hS => ?_)
    have hP : va_P z.1 classes (wv z ad E (u2 M3 53 6 0)) H := hP
    have hD : va_D A (wv z ad E (u2 M3 53 6 0)) := hD
    refine lv_iconst (v := 0) hx hb d_9_5_46 (by decide +kernel) ?_
    refine lv_istore (lv' := [(6, .int 0), (0, .ref (ad 53)), (1, .int x1), (2, .int x2), (3, .int x3), (4, .long v2_4)]) hx hb d_9_5_47 hl (by decide) rfl (fun ls hl => ?_)
    obtain ⟨⟨t6, v6_6, M6⟩, g6, h⟩ := bd_e h
    obtain ⟨ok6, h⟩ := ck_e h
    refine s_Li_spread_49 l z ad E x1 x2 x3 v2_4 hx hb hml hts hown hlocks hA hG hZ hL FU (u2 M3 53 6 0) 0 t6 v6_6 M6 g6 (fun e6 H locs ls hP hD hS hl => ?_) H locs ls hP hD hS (lv_sub hl [1, 2, 3, 4, 5, 0] rfl)
    refine lv_aload_n hx hb d_9_5_84 rfl (lv_at hl 0 rfl) ?_
    refine m_gr (j := 57) (C := "Ballothall$Lists") (T := TX7) (N := 11) (ci := 7) (k := 4) hx hb hts iX7 hown hG hP (yi_53 hL) (yt_53 hL) rfl (by decide) w_249 (fun _ h9 => h9) rfl rfl (yr_53_4 hL) d_9_5_85 ?_
    refine lv_iload_n hx hb d_9_5_88 rfl (lv_at hl 1 rfl) ?_
    refine lv_iload_n hx hb d_9_5_89 rfl (lv_at hl 2 rfl) ?_
    obtain ⟨M7, g7, h⟩ := bd_e h
    refine kVN (As := [.int x1, .int x2]) (rest := []) (s_Di_distribute l z ad E M6 57 x1 x2 M7 hL g7) hx hb hml hown hts w_1549 n_1546 w_1548 w_s_cb71bb w_6 md_9f0e03 ⟨Nat.le_of_ble_eq_true rfl, Nat.le_of_ble_eq_true rfl⟩ hG hZ hP hD hS hA 57 (wv_o (ci := 4) (yi_57 hL) (yt_57 hL)) rfl rfl rfl hl.1 rfl (Nat.le_of_ble_eq_true rfl) d_9_5_90 ⟨Nat.le_of_ble_eq_true rfl, Nat.le_of_ble_eq_true rfl⟩ (fun _ H locs hP hD hS => ?_)
    have hP : va_P z.1 classes (wv z ad E M7) H := hP
    have hD : va_D A (wv z ad E M7) := hD
    refine W.eq (g2 := F0 m 93 ls []) rfl ?_
    refine lv_aload_n hx hb d_9_5_93 rfl (lv_at hl 0 rfl) ?_
    refine m_gr (j := 71) (C := "Ballothall$Lists") (T := TX7) (N := 11) (ci := 7) (k := 7) hx hb hts iX7 hown hG hP (yi_53 hL) (yt_53 hL) rfl (by decide) w_252 (fun _ h9 => h9) rfl rfl (yr_53_7 hL) d_9_5_94 ?_
    refine lv_iconst (v := 0) hx hb d_9_5_97 (by decide +kernel) ?_
    obtain ⟨M8, g8, h⟩ := bd_e h
    refine kS (As := [.ref (ad 71), .int 0]) (rest := []) (s_Ar_fillI l z ad E M7 71 0 M8 hL g8) hx hb hml hown hts w_653 w_1576 w_652 w_23 md_e8f65d ⟨Nat.le_of_ble_eq_true rfl, Nat.le_of_ble_eq_true rfl⟩ hG hZ hP hD hS hA rfl hl.1 rfl (Nat.le_of_ble_eq_true rfl) d_9_5_98 ⟨Nat.le_of_ble_eq_true rfl, Nat.le_of_ble_eq_true rfl⟩ (fun _ H locs hP hD hS => ?_)
    have hP : va_P z.1 classes (wv z ad E M8) H := hP
    have hD : va_D A (wv z ad E M8) := hD
    refine W.eq (g2 := F0 m 101 ls []) rfl ?_
    refine lv_iconst (v := 0) hx hb d_9_5_101 (by decide +kernel) ?_
    refine lv_istore (lv' := [(6, .int 0), (0, .ref (ad 53)), (1, .int x1), (2, .int x2)]) hx hb d_9_5_102 hl (by decide) rfl (fun ls hl => ?_)
    obtain ⟨⟨t12, v12_6, M12⟩, g12, h⟩ := bd_e h
    obtain ⟨ok12, h⟩ := ck_e h
    refine s_Li_spread_104 l z ad E x1 hx hb hml hts hown hlocks hA hG hZ hL FU M8 0 t12 v12_6 M12 g12 (fun e12 H locs ls hP hD hS hl => ?_) H locs ls hP hD hS (lv_sub hl [1, 2, 0] rfl)
    refine lv_aload_n hx hb d_9_5_147 rfl (lv_at hl 0 rfl) ?_
    refine m_gr (j := 57) (C := "Ballothall$Lists") (T := TX7) (N := 11) (ci := 7) (k := 4) hx hb hts iX7 hown hG hP (yi_53 hL) (yt_53 hL) rfl (by decide) w_249 (fun _ h9 => h9) rfl rfl (yr_53_4 hL) d_9_5_148 ?_
    refine m_giN (C := "Ballothall$Division") (T := TX4) (N := 8) (ci := 4) (k := 0) hx hb hts iX4 hown hG hP (yi_57 hL) (yt_57 hL) rfl (by decide) n_176 rfl (fun _ h9 => h9) rfl rfl d_9_5_151 ?_
    obtain ⟨rfl, rfl⟩ := in2 h
    exact W.iret hx hb hr (fun t ht hW => qkA hP hD hS (fun k => k) rfl rfl ht) hS.2.2 d_9_5_154
  exact key _ _ _ hts hP hS
set_option maxRecDepth 100000 in
set_option maxHeartbeats 4000000 in
theorem s_Li_keepSpread (l : Launch) (z : Zz) (ad : Nat → Nat) (E : Ev) (M : Mm) (N : Mm) (hL : Lay E) (h : f_Li_keepSpread E M = some N) : CT l z ⟨"Ballothall$Lists", "keepSpread", "()V"⟩ prog_9_method_9_code 2 none [.ref (ad 53)] (wv z ad E M) 1 60 0 0 (fun _ => none) (fun _ => wv z ad E N) := by
  refine CT.of (own := "Ballothall$Lists") (by decide +kernel) (Nat.le_of_ble_eq_true rfl) rfl (fun p e s m below meth c A ls hx hb hml hr hts hown hlocks hin hA hG hZ hP hD hS hl => ?_)
  have hl : lv_has ls 2 [(0, .ref (ad 53))] := hl
  have key : ∀ (H : Heap) (locs : List Loc) (args : Array Value), (∀ w ∈ WG, w.before args s = true) → va_P z.1 classes (wv z ad E M) H → va_S A s.heap H locs → W p l e (rmK 1 60 0 0) s m args below meth c H locs 0 0 (MQ below (QK z A (fun _ => none) (fun _ => wv z ad E N)) args s 0 0 A) (F0 m 0 ls []) := by
    intro H locs args hts hP hS
    unfold f_Li_keepSpread at h
    refine lv_aload_n hx hb d_9_9_0 rfl (lv_at hl 0 rfl) ?_
    refine lv_aload_n hx hb d_9_9_1 rfl (lv_at hl 0 rfl) ?_
    refine m_gi (C := "Ballothall$Lists") (T := TX7) (N := 11) (ci := 7) (k := 10) hx hb hts iX7 hown hG hP (yi_53 hL) (yt_53 hL) rfl (by decide) w_255 (fun _ h9 => h9) rfl rfl d_9_9_2 ?_
    refine lv_iconst (v := 1) hx hb d_9_9_5 (by decide +kernel) ?_
    refine lv_iadd hx hb d_9_9_6 ?_
    refine lv_bipush (v := 21) hx hb d_9_9_7 (by decide +kernel) ?_
    refine lv_irem hx hb d_9_9_9 (by decide +kernel) ?_
    refine nrm (x1 := (rmI ((M.1 53 10) + (1 : Int32)) (21 : Int32))) rfl ?_
    refine m_pi (C := "Ballothall$Lists") (T := TX7) (N := 11) (ci := 7) (k := 10) (ty := .int) hx hb hts iX7 hown hG hP hD hS (yi_53 hL) (yt_53 hL) rfl (by decide) w_255 (fun _ h9 => h9) rfl rfl tyX7_ok nmX7 rfl (by decide +kernel) rfl rfl d_9_9_10 (fun H locs hP hD hS => ?_)
    have hP : va_P z.1 classes (wv z ad E (u2 M 53 10 (rmI ((M.1 53 10) + (1 : Int32)) (21 : Int32)))) H := hP
    have hD : va_D A (wv z ad E (u2 M 53 10 (rmI ((M.1 53 10) + (1 : Int32)) (21 : Int32)))) := hD
    refine lv_aload_n hx hb d_9_9_13 rfl (lv_at hl 0 rfl) ?_
    refine m_gr (j := 73) (C := "Ballothall$Lists") (T := TX7) (N := 11) (ci := 7) (k := 9) hx hb hts iX7 hown hG hP (yi_53 hL) (yt_53 hL) rfl (by decide) w_254 (fun _ h9 => h9) rfl rfl (yr_53_9 hL) d_9_9_14 ?_
    refine lv_aload_n hx hb d_9_9_17 rfl (lv_at hl 0 rfl) ?_
    refine m_gi (C := "Ballothall$Lists") (T := TX7) (N := 11) (ci := 7) (k := 10) hx hb hts iX7 hown hG hP (yi_53 hL) (yt_53 hL) rfl (by decide) w_255 (fun _ h9 => h9) rfl rfl d_9_9_18 ?_
    obtain ⟨ok0, h⟩ := ck_e h
    refine m_aa (k := (74 + 5 * ((u2 M 53 10 (rmI ((M.1 53 10) + (1 : Int32)) (21 : Int32))).1 53 10).toNatClampNeg)) (t := 3) (C := "Ballothall$KeptSeats") hx hb hG hP (yi_73 hL) (yt_73 hL) rfl rfl ok0 (ya_73 hL (inb_lt ok0)) d_9_9_21 ?_
    refine lv_astore_n (lv' := [(1, .ref (ad (74 + 5 * ((u2 M 53 10 (rmI ((M.1 53 10) + (1 : Int32)) (21 : Int32))).1 53 10).toNatClampNeg))), (0, .ref (ad 53))]) hx hb d_9_9_22 rfl hl (by decide) rfl (fun ls hl => ?_)
    refine lv_aload_n hx hb d_9_9_23 rfl (lv_at hl 0 rfl) ?_
    refine lv_aload_n hx hb d_9_9_24 rfl (lv_at hl 1 rfl) ?_
    refine m_gr (j := 57) (C := "Ballothall$Lists") (T := TX7) (N := 11) (ci := 7) (k := 4) hx hb hts iX7 hown hG hP (yi_53 hL) (yt_53 hL) rfl (by decide) w_249 (fun _ h9 => h9) rfl rfl (yr_53_4 hL) d_9_9_25 ?_
    refine m_giN (C := "Ballothall$Division") (T := TX4) (N := 8) (ci := 4) (k := 1) hx hb hts iX4 hown hG hP (yi_57 hL) (yt_57 hL) rfl (by decide) n_178 rfl (fun _ h9 => h9) rfl rfl d_9_9_28 ?_
    refine lv_bipush (v := 60) hx hb d_9_9_31 (by decide +kernel) ?_
    refine va_mmin hx hb (by rw [hml]; exact hl.1.symm) hown (hts _ w_1585) (hts _ w_521) (hts _ w_17) (hts _ w_min) (Nat.le_of_ble_eq_true rfl) (Nat.le_of_ble_eq_true rfl) (Nat.le_of_ble_eq_true rfl) (Nat.le_of_ble_eq_true rfl) d_9_9_33 ?_
    obtain ⟨v1, e1, h⟩ := nb_e h
    refine nrm e1.symm ?_
    refine m_piN (C := "Ballothall$KeptSeats") (T := TX6) (N := 7) (ci := 6) (k := 0) (ty := .int) hx hb hts iX6 hown hG hP hD hS (isKs_i (yg_73 hL ok0)) (isKs_T (yg_73 hL ok0)) rfl (by decide) n_212 rfl (fun _ h9 => h9) rfl rfl tyX6_ok nmX6 rfl (by decide +kernel) rfl rfl d_9_9_36 (fun H locs hP hD hS => ?_)
    have hP : va_P z.1 classes (wv z ad E (u2 (u2 M 53 10 (rmI ((M.1 53 10) + (1 : Int32)) (21 : Int32))) (74 + 5 * ((u2 M 53 10 (rmI ((M.1 53 10) + (1 : Int32)) (21 : Int32))).1 53 10).toNatClampNeg) 0 v1)) H := hP
    have hD : va_D A (wv z ad E (u2 (u2 M 53 10 (rmI ((M.1 53 10) + (1 : Int32)) (21 : Int32))) (74 + 5 * ((u2 M 53 10 (rmI ((M.1 53 10) + (1 : Int32)) (21 : Int32))).1 53 10).toNatClampNeg) 0 v1)) := hD
    obtain ⟨M2, e2, h⟩ := nb_e h
    rw [← e2] at hP hD
    refine lv_aload_n hx hb d_9_9_39 rfl (lv_at hl 0 rfl) ?_
    refine lv_aload_n hx hb d_9_9_40 rfl (lv_at hl 1 rfl) ?_
    refine m_gi (C := "Ballothall$Lists") (T := TX7) (N := 11) (ci := 7) (k := 6) hx hb hts iX7 hown hG hP (yi_53 hL) (yt_53 hL) rfl (by decide) w_251 (fun _ h9 => h9) rfl rfl d_9_9_41 ?_
    obtain ⟨ok3, h⟩ := ck_e h
    refine m_piN (C := "Ballothall$KeptSeats") (T := TX6) (N := 7) (ci := 6) (k := 1) (ty := .boolean) hx hb hts iX6 hown hG hP hD hS (isKs_i (yg_73 hL ok0)) (isKs_T (yg_73 hL ok0)) rfl (by decide) n_214 rfl (fun _ h9 => h9) rfl rfl tyX6_ok nmX6 rfl (by decide +kernel) (nz_b ok3) (fz_b ok3) d_9_9_44 (fun H locs hP hD hS => ?_)
    have hP : va_P z.1 classes (wv z ad E (u2 M2 (74 + 5 * ((u2 M 53 10 (rmI ((M.1 53 10) + (1 : Int32)) (21 : Int32))).1 53 10).toNatClampNeg) 1 (M2.1 53 6))) H := hP
    have hD : va_D A (wv z ad E (u2 M2 (74 + 5 * ((u2 M 53 10 (rmI ((M.1 53 10) + (1 : Int32)) (21 : Int32))).1 53 10).toNatClampNeg) 1 (M2.1 53 6))) := hD
    obtain ⟨M4, e4, h⟩ := nb_e h
    rw [← e4] at hP hD
    refine lv_aload_n hx hb d_9_9_47 rfl (lv_at hl 0 rfl) ?_
    refine lv_aload_n hx hb d_9_9_48 rfl (lv_at hl 1 rfl) ?_
    refine m_gi (C := "Ballothall$Lists") (T := TX7) (N := 11) (ci := 7) (k := 0) hx hb hts iX7 hown hG hP (yi_53 hL) (yt_53 hL) rfl (by decide) w_242 (fun _ h9 => h9) rfl rfl d_9_9_49 ?_
    refine m_piN (C := "Ballothall$KeptSeats") (T := TX6) (N := 7) (ci := 6) (k := 2) (ty := .int) hx hb hts iX6 hown hG hP hD hS (isKs_i (yg_73 hL ok0)) (isKs_T (yg_73 hL ok0)) rfl (by decide) n_216 rfl (fun _ h9 => h9) rfl rfl tyX6_ok nmX6 rfl (by decide +kernel) rfl rfl d_9_9_52 (fun H locs hP hD hS => ?_)
    have hP : va_P z.1 classes (wv z ad E (u2 M4 (74 + 5 * ((u2 M 53 10 (rmI ((M.1 53 10) + (1 : Int32)) (21 : Int32))).1 53 10).toNatClampNeg) 2 (M4.1 53 0))) H := hP
    have hD : va_D A (wv z ad E (u2 M4 (74 + 5 * ((u2 M 53 10 (rmI ((M.1 53 10) + (1 : Int32)) (21 : Int32))).1 53 10).toNatClampNeg) 2 (M4.1 53 0))) := hD
    obtain ⟨M5, e5, h⟩ := nb_e h
    rw [← e5] at hP hD
    refine lv_aload_n hx hb d_9_9_55 rfl (lv_at hl 1 rfl) ?_
    refine m_gr (j := 57) (C := "Ballothall$Lists") (T := TX7) (N := 11) (ci := 7) (k := 4) hx hb hts iX7 hown hG hP (yi_53 hL) (yt_53 hL) rfl (by decide) w_249 (fun _ h9 => h9) rfl rfl (yr_53_4 hL) d_9_9_56 ?_
    refine m_grN (j := 63) (C := "Ballothall$Division") (T := TX4) (N := 8) (ci := 4) (k := 7) hx hb hts iX4 hown hG hP (yi_57 hL) (yt_57 hL) rfl (by decide) n_187 rfl (fun _ h9 => h9) rfl rfl (yr_57_7 hL) d_9_9_59 ?_
    refine lv_iconst (v := 0) hx hb d_9_9_62 (by decide +kernel) ?_
    refine lv_aload_n hx hb d_9_9_63 rfl (lv_at hl 0 rfl) ?_
    refine m_grN (j := ((74 + 5 * ((u2 M 53 10 (rmI ((M.1 53 10) + (1 : Int32)) (21 : Int32))).1 53 10).toNatClampNeg) + 1)) (C := "Ballothall$KeptSeats") (T := TX6) (N := 7) (ci := 6) (k := 3) hx hb hts iX6 hown hG hP (isKs_i (yg_73 hL ok0)) (isKs_T (yg_73 hL ok0)) rfl (by decide) n_218 rfl (fun _ h9 => h9) rfl rfl (isKs_r3 (yg_73 hL ok0)) d_9_9_64 ?_
    refine lv_iconst (v := 0) hx hb d_9_9_67 (by decide +kernel) ?_
    refine lv_aload_n hx hb d_9_9_68 rfl (lv_at hl 0 rfl) ?_
    refine m_giN (C := "Ballothall$KeptSeats") (T := TX6) (N := 7) (ci := 6) (k := 0) hx hb hts iX6 hown hG hP (isKs_i (yg_73 hL ok0)) (isKs_T (yg_73 hL ok0)) rfl (by decide) n_212 rfl (fun _ h9 => h9) rfl rfl d_9_9_69 ?_
    obtain ⟨ok6, h⟩ := ck_e h
    refine m_cpy hx hb (by rw [hml]; exact hl.1.symm) hown (hts _ w_1586) (hts _ w_621) (hts _ w_620) (hts _ w_24) hG hP hD hS (yi_63 hL) (yt_63 hL) (isKs_i1 (yg_73 hL ok0)) (isKs_t1 (yg_73 hL ok0)) ok6 (Nat.le_of_ble_eq_true rfl) (Nat.le_of_ble_eq_true rfl) d_9_9_72 (fun H locs hP hD hS => ?_)
    have hP : va_P z.1 classes (wv z ad E (uA M5 ((74 + 5 * ((u2 M 53 10 (rmI ((M.1 53 10) + (1 : Int32)) (21 : Int32))).1 53 10).toNatClampNeg) + 1) (va_cpy (M5.1 63) (M5.1 ((74 + 5 * ((u2 M 53 10 (rmI ((M.1 53 10) + (1 : Int32)) (21 : Int32))).1 53 10).toNatClampNeg) + 1)) (0 : Int32).toNatClampNeg (0 : Int32).toNatClampNeg (M5.1 (74 + 5 * ((u2 M 53 10 (rmI ((M.1 53 10) + (1 : Int32)) (21 : Int32))).1 53 10).toNatClampNeg) 0).toNatClampNeg))) H := hP
    have hD : va_D A (wv z ad E (uA M5 ((74 + 5 * ((u2 M 53 10 (rmI ((M.1 53 10) + (1 : Int32)) (21 : Int32))).1 53 10).toNatClampNeg) + 1) (va_cpy (M5.1 63) (M5.1 ((74 + 5 * ((u2 M 53 10 (rmI ((M.1 53 10) + (1 : Int32)) (21 : Int32))).1 53 10).toNatClampNeg) + 1)) (0 : Int32).toNatClampNeg (0 : Int32).toNatClampNeg (M5.1 (74 + 5 * ((u2 M 53 10 (rmI ((M.1 53 10) + (1 : Int32)) (21 : Int32))).1 53 10).toNatClampNeg) 0).toNatClampNeg))) := hD
    obtain ⟨M7, e7, h⟩ := nb_e h
    rw [← e7] at hP hD
    refine lv_aload_n hx hb d_9_9_75 rfl (lv_at hl 1 rfl) ?_
    refine m_gr (j := 71) (C := "Ballothall$Lists") (T := TX7) (N := 11) (ci := 7) (k := 7) hx hb hts iX7 hown hG hP (yi_53 hL) (yt_53 hL) rfl (by decide) w_252 (fun _ h9 => h9) rfl rfl (yr_53_7 hL) d_9_9_76 ?_
    refine lv_iconst (v := 0) hx hb d_9_9_79 (by decide +kernel) ?_
    refine lv_aload_n hx hb d_9_9_80 rfl (lv_at hl 0 rfl) ?_
    refine m_grN (j := ((74 + 5 * ((u2 M 53 10 (rmI ((M.1 53 10) + (1 : Int32)) (21 : Int32))).1 53 10).toNatClampNeg) + 2)) (C := "Ballothall$KeptSeats") (T := TX6) (N := 7) (ci := 6) (k := 4) hx hb hts iX6 hown hG hP (isKs_i (yg_73 hL ok0)) (isKs_T (yg_73 hL ok0)) rfl (by decide) n_221 rfl (fun _ h9 => h9) rfl rfl (isKs_r4 (yg_73 hL ok0)) d_9_9_81 ?_
    refine lv_iconst (v := 0) hx hb d_9_9_84 (by decide +kernel) ?_
    refine lv_bipush (v := 8) hx hb d_9_9_85 (by decide +kernel) ?_
    obtain ⟨ok8, h⟩ := ck_e h
    refine m_cpy hx hb (by rw [hml]; exact hl.1.symm) hown (hts _ w_1586) (hts _ w_621) (hts _ w_620) (hts _ w_24) hG hP hD hS (yi_71 hL) (yt_71 hL) (isKs_i2 (yg_73 hL ok0)) (isKs_t2 (yg_73 hL ok0)) ok8 (Nat.le_of_ble_eq_true rfl) (Nat.le_of_ble_eq_true rfl) d_9_9_87 (fun H locs hP hD hS => ?_)
    have hP : va_P z.1 classes (wv z ad E (uA M7 ((74 + 5 * ((u2 M 53 10 (rmI ((M.1 53 10) + (1 : Int32)) (21 : Int32))).1 53 10).toNatClampNeg) + 2) (va_cpy (M7.1 71) (M7.1 ((74 + 5 * ((u2 M 53 10 (rmI ((M.1 53 10) + (1 : Int32)) (21 : Int32))).1 53 10).toNatClampNeg) + 2)) (0 : Int32).toNatClampNeg (0 : Int32).toNatClampNeg (8 : Int32).toNatClampNeg))) H := hP
    have hD : va_D A (wv z ad E (uA M7 ((74 + 5 * ((u2 M 53 10 (rmI ((M.1 53 10) + (1 : Int32)) (21 : Int32))).1 53 10).toNatClampNeg) + 2) (va_cpy (M7.1 71) (M7.1 ((74 + 5 * ((u2 M 53 10 (rmI ((M.1 53 10) + (1 : Int32)) (21 : Int32))).1 53 10).toNatClampNeg) + 2)) (0 : Int32).toNatClampNeg (0 : Int32).toNatClampNeg (8 : Int32).toNatClampNeg))) := hD
    obtain ⟨M9, e9, h⟩ := nb_e h
    rw [← e9] at hP hD
    refine lv_aload_n hx hb d_9_9_90 rfl (lv_at hl 1 rfl) ?_
    refine m_gr (j := 54) (C := "Ballothall$Lists") (T := TX7) (N := 11) (ci := 7) (k := 1) hx hb hts iX7 hown hG hP (yi_53 hL) (yt_53 hL) rfl (by decide) w_244 (fun _ h9 => h9) rfl rfl (yr_53_1 hL) d_9_9_91 ?_
    refine lv_iconst (v := 0) hx hb d_9_9_94 (by decide +kernel) ?_
    refine lv_aload_n hx hb d_9_9_95 rfl (lv_at hl 0 rfl) ?_
    refine m_grN (j := ((74 + 5 * ((u2 M 53 10 (rmI ((M.1 53 10) + (1 : Int32)) (21 : Int32))).1 53 10).toNatClampNeg) + 3)) (C := "Ballothall$KeptSeats") (T := TX6) (N := 7) (ci := 6) (k := 5) hx hb hts iX6 hown hG hP (isKs_i (yg_73 hL ok0)) (isKs_T (yg_73 hL ok0)) rfl (by decide) n_224 rfl (fun _ h9 => h9) rfl rfl (isKs_r5 (yg_73 hL ok0)) d_9_9_96 ?_
    refine lv_iconst (v := 0) hx hb d_9_9_99 (by decide +kernel) ?_
    refine lv_bipush (v := 8) hx hb d_9_9_100 (by decide +kernel) ?_
    obtain ⟨ok10, h⟩ := ck_e h
    refine m_cpy hx hb (by rw [hml]; exact hl.1.symm) hown (hts _ w_1586) (hts _ w_621) (hts _ w_620) (hts _ w_24) hG hP hD hS (yi_54 hL) (yt_54 hL) (isKs_i3 (yg_73 hL ok0)) (isKs_t3 (yg_73 hL ok0)) ok10 (Nat.le_of_ble_eq_true rfl) (Nat.le_of_ble_eq_true rfl) d_9_9_102 (fun H locs hP hD hS => ?_)
    have hP : va_P z.1 classes (wv z ad E (uA M9 ((74 + 5 * ((u2 M 53 10 (rmI ((M.1 53 10) + (1 : Int32)) (21 : Int32))).1 53 10).toNatClampNeg) + 3) (va_cpy (M9.1 54) (M9.1 ((74 + 5 * ((u2 M 53 10 (rmI ((M.1 53 10) + (1 : Int32)) (21 : Int32))).1 53 10).toNatClampNeg) + 3)) (0 : Int32).toNatClampNeg (0 : Int32).toNatClampNeg (8 : Int32).toNatClampNeg))) H := hP
    have hD : va_D A (wv z ad E (uA M9 ((74 + 5 * ((u2 M 53 10 (rmI ((M.1 53 10) + (1 : Int32)) (21 : Int32))).1 53 10).toNatClampNeg) + 3) (va_cpy (M9.1 54) (M9.1 ((74 + 5 * ((u2 M 53 10 (rmI ((M.1 53 10) + (1 : Int32)) (21 : Int32))).1 53 10).toNatClampNeg) + 3)) (0 : Int32).toNatClampNeg (0 : Int32).toNatClampNeg (8 : Int32).toNatClampNeg))) := hD
    obtain ⟨M11, e11, h⟩ := nb_e h
    rw [← e11] at hP hD
    refine lv_aload_n hx hb d_9_9_105 rfl (lv_at hl 1 rfl) ?_
    refine m_gr (j := 55) (C := "Ballothall$Lists") (T := TX7) (N := 11) (ci := 7) (k := 2) hx hb hts iX7 hown hG hP (yi_53 hL) (yt_53 hL) rfl (by decide) w_245 (fun _ h9 => h9) rfl rfl (yr_53_2 hL) d_9_9_106 ?_
    refine lv_iconst (v := 0) hx hb d_9_9_109 (by decide +kernel) ?_
    refine lv_aload_n hx hb d_9_9_110 rfl (lv_at hl 0 rfl) ?_
    refine m_grN (j := ((74 + 5 * ((u2 M 53 10 (rmI ((M.1 53 10) + (1 : Int32)) (21 : Int32))).1 53 10).toNatClampNeg) + 4)) (C := "Ballothall$KeptSeats") (T := TX6) (N := 7) (ci := 6) (k := 6) hx hb hts iX6 hown hG hP (isKs_i (yg_73 hL ok0)) (isKs_T (yg_73 hL ok0)) rfl (by decide) n_226 rfl (fun _ h9 => h9) rfl rfl (isKs_r6 (yg_73 hL ok0)) d_9_9_111 ?_
    refine lv_iconst (v := 0) hx hb d_9_9_114 (by decide +kernel) ?_
    refine lv_bipush (v := 8) hx hb d_9_9_115 (by decide +kernel) ?_
    obtain ⟨ok12, h⟩ := ck_e h
    refine m_cpy hx hb (by rw [hml]; exact hl.1.symm) hown (hts _ w_1586) (hts _ w_621) (hts _ w_620) (hts _ w_24) hG hP hD hS (yi_55 hL) (yt_55 hL) (isKs_i4 (yg_73 hL ok0)) (isKs_t4 (yg_73 hL ok0)) ok12 (Nat.le_of_ble_eq_true rfl) (Nat.le_of_ble_eq_true rfl) d_9_9_117 (fun H locs hP hD hS => ?_)
    have hP : va_P z.1 classes (wv z ad E (uA M11 ((74 + 5 * ((u2 M 53 10 (rmI ((M.1 53 10) + (1 : Int32)) (21 : Int32))).1 53 10).toNatClampNeg) + 4) (va_cpy (M11.1 55) (M11.1 ((74 + 5 * ((u2 M 53 10 (rmI ((M.1 53 10) + (1 : Int32)) (21 : Int32))).1 53 10).toNatClampNeg) + 4)) (0 : Int32).toNatClampNeg (0 : Int32).toNatClampNeg (8 : Int32).toNatClampNeg))) H := hP
    have hD : va_D A (wv z ad E (uA M11 ((74 + 5 * ((u2 M 53 10 (rmI ((M.1 53 10) + (1 : Int32)) (21 : Int32))).1 53 10).toNatClampNeg) + 4) (va_cpy (M11.1 55) (M11.1 ((74 + 5 * ((u2 M 53 10 (rmI ((M.1 53 10) + (1 : Int32)) (21 : Int32))).1 53 10).toNatClampNeg) + 4)) (0 : Int32).toNatClampNeg (0 : Int32).toNatClampNeg (8 : Int32).toNatClampNeg))) := hD
    obtain ⟨M13, e13, h⟩ := nb_e h
    rw [← e13] at hP hD
    obtain rfl := in1 h
    exact W.vret hx hb hr (fun t ht hW => qkA hP hD hS (fun k => k) rfl rfl ht) hS.2.2 d_9_9_120
  exact key _ _ _ hts hP hS
set_option maxRecDepth 100000 in
set_option maxHeartbeats 4000000 in
theorem s_B_seats (l : Launch) (z : Zz) (ad : Nat → Nat) (E : Ev) (M : Mm) (x1 : Int32) (x2 : Int32) (x3 : Int32) (r : Int32) (N : Mm) (hL : Lay E) (h : f_B_seats E M x1 x2 x3 = some (r, N)) : CT l z ⟨"Ballothall", "seats", "(III)I"⟩ prog_1_method_13_code 5 (some .int) [.ref (ad 1), .int x1, .int x2, .int x3] (wv z ad E M) 6 166 0 0 (fun _ => some (.int r)) (fun _ => wv z ad E N) := by
  refine CT.of (own := "Ballothall") (by decide +kernel) (Nat.le_of_ble_eq_true rfl) rfl (fun p e s m below meth c A ls hx hb hml hr hts hown hlocks hin hA hG hZ hP hD hS hl => ?_)
  have hl : lv_has ls 5 [(0, .ref (ad 1)), (1, .int x1), (2, .int x2), (3, .int x3)] := hl
  have key : ∀ (H : Heap) (locs : List Loc) (args : Array Value), (∀ w ∈ WG, w.before args s = true) → va_P z.1 classes (wv z ad E M) H → va_S A s.heap H locs → W p l e (rmK 6 166 0 0) s m args below meth c H locs 0 0 (MQ below (QK z A (fun _ => some (.int r)) (fun _ => wv z ad E N)) args s 0 0 A) (F0 m 0 ls []) := by
    intro H locs args hts hP hS
    unfold f_B_seats at h
    refine lv_iload_n hx hb d_1_13_0 rfl (lv_at hl 1 rfl) ?_
    refine lv_iconst (v := 0) hx hb d_1_13_1 (by decide +kernel) ?_
    refine lv_iconst (v := 5) hx hb d_1_13_2 (by decide +kernel) ?_
    obtain ⟨M0, g0, h⟩ := bd_e h
    refine kS (As := [.int x1, .int 0, .int 5]) (rest := []) (s_B_needRange l z ad E M x1 0 5 M0 hL g0) hx hb hml hown hts w_548 w_546 w_547 w_1 md_519134 ⟨Nat.le_of_ble_eq_true rfl, Nat.le_of_ble_eq_true rfl⟩ hG hZ hP hD hS hA rfl hl.1 rfl (Nat.le_of_ble_eq_true rfl) d_1_13_3 ⟨Nat.le_of_ble_eq_true rfl, Nat.le_of_ble_eq_true rfl⟩ (fun _ H locs hP hD hS => ?_)
    have hP : va_P z.1 classes (wv z ad E M0) H := hP
    have hD : va_D A (wv z ad E M0) := hD
    refine W.eq (g2 := F0 m 6 ls []) rfl ?_
    refine lv_iload_n hx hb d_1_13_6 rfl (lv_at hl 2 rfl) ?_
    refine lv_iconst (v := 1) hx hb d_1_13_7 (by decide +kernel) ?_
    refine lv_bipush (v := 60) hx hb d_1_13_8 (by decide +kernel) ?_
    obtain ⟨M1, g1, h⟩ := bd_e h
    refine kS (As := [.int x2, .int 1, .int 60]) (rest := []) (s_B_needRange l z ad E M0 x2 1 60 M1 hL g1) hx hb hml hown hts w_548 w_546 w_547 w_1 md_519134 ⟨Nat.le_of_ble_eq_true rfl, Nat.le_of_ble_eq_true rfl⟩ hG hZ hP hD hS hA rfl hl.1 rfl (Nat.le_of_ble_eq_true rfl) d_1_13_10 ⟨Nat.le_of_ble_eq_true rfl, Nat.le_of_ble_eq_true rfl⟩ (fun _ H locs hP hD hS => ?_)
    have hP : va_P z.1 classes (wv z ad E M1) H := hP
    have hD : va_D A (wv z ad E M1) := hD
    refine W.eq (g2 := F0 m 13 ls []) rfl ?_
    refine lv_iload_n hx hb d_1_13_13 rfl (lv_at hl 3 rfl) ?_
    refine lv_iconst (v := 0) hx hb d_1_13_14 (by decide +kernel) ?_
    refine lv_bipush (v := 20) hx hb d_1_13_15 (by decide +kernel) ?_
    obtain ⟨M2, g2, h⟩ := bd_e h
    refine kS (As := [.int x3, .int 0, .int 20]) (rest := []) (s_B_needRange l z ad E M1 x3 0 20 M2 hL g2) hx hb hml hown hts w_548 w_546 w_547 w_1 md_519134 ⟨Nat.le_of_ble_eq_true rfl, Nat.le_of_ble_eq_true rfl⟩ hG hZ hP hD hS hA rfl hl.1 rfl (Nat.le_of_ble_eq_true rfl) d_1_13_17 ⟨Nat.le_of_ble_eq_true rfl, Nat.le_of_ble_eq_true rfl⟩ (fun _ H locs hP hD hS => ?_)
    have hP : va_P z.1 classes (wv z ad E M2) H := hP
    have hD : va_D A (wv z ad E M2) := hD
    refine W.eq (g2 := F0 m 20 ls []) rfl ?_
    refine lv_aload_n hx hb d_1_13_20 rfl (lv_at hl 0 rfl) ?_
    refine m_gr (j := 53) (C := "Ballothall") (T := TX11) (N := 14) (ci := 11) (k := 3) hx hb hts iX11 hown hG hP (yi_1 hL) (yt_1 hL) rfl (by decide) w_400 (fun _ h9 => h9) rfl rfl (yr_1_3 hL) d_1_13_21 ?_
    refine lv_iload_n hx hb d_1_13_24 rfl (lv_at hl 1 rfl) ?_
    refine lv_iload_n hx hb d_1_13_25 rfl (lv_at hl 2 rfl) ?_
    refine lv_iload_n hx hb d_1_13_26 rfl (lv_at hl 3 rfl) ?_
    obtain ⟨⟨r3, M3⟩, g3, h⟩ := bd_e h
    refine kVN (As := [.int x1, .int x2, .int x3]) (rest := []) (s_Li_spread l z ad E M2 x1 x2 x3 r3 M3 hL g3) hx hb hml hown hts w_1524 n_1521 w_1523 w_s_de34cc w_5 md_9eb116 ⟨Nat.le_of_ble_eq_true rfl, Nat.le_of_ble_eq_true rfl⟩ hG hZ hP hD hS hA 53 (wv_o (ci := 7) (yi_53 hL) (yt_53 hL)) rfl rfl rfl hl.1 rfl (Nat.le_of_ble_eq_true rfl) d_1_13_27 ⟨Nat.le_of_ble_eq_true rfl, Nat.le_of_ble_eq_true rfl⟩ (fun _ H locs hP hD hS => ?_)
    have hP : va_P z.1 classes (wv z ad E M3) H := hP
    have hD : va_D A (wv z ad E M3) := hD
    refine W.eq (g2 := F0 m 30 ls [.int r3]) rfl ?_
    refine lv_istore (lv' := [(4, .int r3), (0, .ref (ad 1)), (1, .int x1), (2, .int x2), (3, .int x3)]) hx hb d_1_13_30 hl (by decide) rfl (fun ls hl => ?_)
    refine lv_aload_n hx hb d_1_13_32 rfl (lv_at hl 1 rfl) ?_
    refine m_gr (j := 53) (C := "Ballothall") (T := TX11) (N := 14) (ci := 11) (k := 3) hx hb hts iX11 hown hG hP (yi_1 hL) (yt_1 hL) rfl (by decide) w_400 (fun _ h9 => h9) rfl rfl (yr_1_3 hL) d_1_13_33 ?_
    obtain ⟨M4, g4, h⟩ := bd_e h
    refine kVN (As := []) (rest := []) (s_Li_keepSpread l z ad E M3 M4 hL g4) hx hb hml hown hts w_1584 n_1581 w_1583 w_s_aea49b w_5 md_a55234 ⟨Nat.le_of_ble_eq_true rfl, Nat.le_of_ble_eq_true rfl⟩ hG hZ hP hD hS hA 53 (wv_o (ci := 7) (yi_53 hL) (yt_53 hL)) rfl rfl rfl hl.1 rfl (Nat.le_of_ble_eq_true rfl) d_1_13_36 ⟨Nat.le_of_ble_eq_true rfl, Nat.le_of_ble_eq_true rfl⟩ (fun _ H locs hP hD hS => ?_)
    have hP : va_P z.1 classes (wv z ad E M4) H := hP
    have hD : va_D A (wv z ad E M4) := hD
    refine W.eq (g2 := F0 m 39 ls []) rfl ?_
    refine lv_aload_n hx hb d_1_13_39 rfl (lv_at hl 1 rfl) ?_
    refine lv_bipush (v := 8) hx hb d_1_13_40 (by decide +kernel) ?_
    refine lv_iconst (v := 0) hx hb d_1_13_42 (by decide +kernel) ?_
    refine lv_iconst (v := 0) hx hb d_1_13_43 (by decide +kernel) ?_
    obtain ⟨M5, g5, h⟩ := bd_e h
    refine kV (As := [.int 8, .int 0, .int 0]) (rest := []) (s_B_remember l z ad E M4 8 0 0 M5 hL g5) hx hb hml hown hts w_519 w_516 w_518 w_s_b872b3 w_1 md_7af0bb ⟨Nat.le_of_ble_eq_true rfl, Nat.le_of_ble_eq_true rfl⟩ hG hZ hP hD hS hA 1 (wv_o (ci := 11) (yi_1 hL) (yt_1 hL)) rfl rfl rfl hl.1 rfl (Nat.le_of_ble_eq_true rfl) d_1_13_44 ⟨Nat.le_of_ble_eq_true rfl, Nat.le_of_ble_eq_true rfl⟩ (fun _ H locs hP hD hS => ?_)
    have hP : va_P z.1 classes (wv z ad E M5) H := hP
    have hD : va_D A (wv z ad E M5) := hD
    refine W.eq (g2 := F0 m 47 ls []) rfl ?_
    refine lv_iload hx hb d_1_13_47 (lv_at hl 0 rfl) ?_
    obtain ⟨rfl, rfl⟩ := in2 h
    exact W.iret hx hb hr (fun t ht hW => qkA hP hD hS (fun k => k) rfl rfl ht) hS.2.2 d_1_13_49
  exact key _ _ _ hts hP hS
set_option maxRecDepth 100000 in
set_option maxHeartbeats 4000000 in
theorem s_B_seatsOf (l : Launch) (z : Zz) (ad : Nat → Nat) (E : Ev) (M : Mm) (x1 : Int32) (r : Int32) (N : Mm) (hL : Lay E) (h : f_B_seatsOf E M x1 = some (r, N)) : CT l z ⟨"Ballothall", "seatsOf", "(I)I"⟩ prog_1_method_14_code 2 (some .int) [.ref (ad 1), .int x1] (wv z ad E M) 1 41 0 0 (fun _ => some (.int r)) (fun _ => wv z ad E N) := by
  refine CT.of (own := "Ballothall") (by decide +kernel) (Nat.le_of_ble_eq_true rfl) rfl (fun p e s m below meth c A ls hx hb hml hr hts hown hlocks hin hA hG hZ hP hD hS hl => ?_)
  have hl : lv_has ls 2 [(0, .ref (ad 1)), (1, .int x1)] := hl
  have key : ∀ (H : Heap) (locs : List Loc) (args : Array Value), (∀ w ∈ WG, w.before args s = true) → va_P z.1 classes (wv z ad E M) H → va_S A s.heap H locs → W p l e (rmK 1 41 0 0) s m args below meth c H locs 0 0 (MQ below (QK z A (fun _ => some (.int r)) (fun _ => wv z ad E N)) args s 0 0 A) (F0 m 0 ls []) := by
    intro H locs args hts hP hS
    unfold f_B_seatsOf at h
    refine lv_iload_n hx hb d_1_14_0 rfl (lv_at hl 1 rfl) ?_
    refine lv_aload_n hx hb d_1_14_1 rfl (lv_at hl 0 rfl) ?_
    refine m_gr (j := 53) (C := "Ballothall") (T := TX11) (N := 14) (ci := 11) (k := 3) hx hb hts iX11 hown hG hP (yi_1 hL) (yt_1 hL) rfl (by decide) w_400 (fun _ h9 => h9) rfl rfl (yr_1_3 hL) d_1_14_2 ?_
    refine m_giN (C := "Ballothall$Lists") (T := TX7) (N := 11) (ci := 7) (k := 0) hx hb hts iX7 hown hG hP (yi_53 hL) (yt_53 hL) rfl (by decide) n_243 rfl (fun _ h9 => h9) rfl rfl d_1_14_5 ?_
    obtain ⟨M0, g0, h⟩ := bd_e h
    refine kS (As := [.int x1, .int (M.1 53 0)]) (rest := []) (s_B_needIndex l z ad E M x1 (M.1 53 0) M0 hL g0) hx hb hml hown hts w_529 w_527 w_528 w_1 md_6cb26b ⟨Nat.le_of_ble_eq_true rfl, Nat.le_of_ble_eq_true rfl⟩ hG hZ hP hD hS hA rfl hl.1 rfl (Nat.le_of_ble_eq_true rfl) d_1_14_8 ⟨Nat.le_of_ble_eq_true rfl, Nat.le_of_ble_eq_true rfl⟩ (fun _ H locs hP hD hS => ?_)
    have hP : va_P z.1 classes (wv z ad E M0) H := hP
    have hD : va_D A (wv z ad E M0) := hD
    refine W.eq (g2 := F0 m 11 ls []) rfl ?_
    refine lv_aload_n hx hb d_1_14_11 rfl (lv_at hl 0 rfl) ?_
    refine m_gr (j := 53) (C := "Ballothall") (T := TX11) (N := 14) (ci := 11) (k := 3) hx hb hts iX11 hown hG hP (yi_1 hL) (yt_1 hL) rfl (by decide) w_400 (fun _ h9 => h9) rfl rfl (yr_1_3 hL) d_1_14_12 ?_
    obtain ⟨⟨r1, M1⟩, g1, h⟩ := bd_e h
    refine kVN (As := []) (rest := []) (s_Li_latest l z ad E M0 r1 M1 hL g1) hx hb hml hown hts w_584 n_1591 w_583 w_s_46c41a w_5 md_cb0049 ⟨Nat.le_of_ble_eq_true rfl, Nat.le_of_ble_eq_true rfl⟩ hG hZ hP hD hS hA 53 (wv_o (ci := 7) (yi_53 hL) (yt_53 hL)) rfl rfl rfl hl.1 rfl (Nat.le_of_ble_eq_true rfl) d_1_14_15 ⟨Nat.le_of_ble_eq_true rfl, Nat.le_of_ble_eq_true rfl⟩ (fun _ H locs hP hD hS => ?_)
    have hP : va_P z.1 classes (wv z ad E M1) H := hP
    have hD : va_D A (wv z ad E M1) := hD
    obtain ⟨h_r1, h⟩ := ck_e h
    refine W.eq (g2 := F0 m 18 ls [.ref (ad r1)]) rfl ?_
    refine m_grN (j := (r1 + 2)) (C := "Ballothall$KeptSeats") (T := TX6) (N := 7) (ci := 6) (k := 4) hx hb hts iX6 hown hG hP (isKs_i h_r1) (isKs_T h_r1) rfl (by decide) n_222 rfl (fun _ h9 => h9) rfl rfl (isKs_r4 h_r1) d_1_14_18 ?_
    refine lv_iload_n hx hb d_1_14_21 rfl (lv_at hl 1 rfl) ?_
    obtain ⟨ok2, h⟩ := ck_e h
    refine m_ia hx hb hG hP (isKs_i2 h_r1) (isKs_t2 h_r1) ok2 d_1_14_22 ?_
    obtain ⟨rfl, rfl⟩ := in2 h
    exact W.iret hx hb hr (fun t ht hW => qkA hP hD hS (fun k => k) rfl rfl ht) hS.2.2 d_1_14_23
  exact key _ _ _ hts hP hS
set_option maxRecDepth 100000 in
set_option maxHeartbeats 4000000 in
theorem b_B_setLot_j76 (l : Launch) (z : Zz) (ad : Nat → Nat) (E : Ev) (M : Mm) (x2 : Int32) (x5 : Int32) (y0 : Int32) (r : Int32) (N : Mm) {p : Program} {e : Env} {s : State} {m : MethodId} {below : List Frame} {meth : Method} {c : Code} {A : Nat → Prop} {args : Array Value} (hx : p.tables.exec = Jvm.exec) (hb : c.code = prog_1_method_3_code) (hml : c.maxLocals = 6) (hts : ∀ w ∈ WG, w.before args s = true) (hown : s.vm.findClass "Ballothall" = some m.cls) (hlocks : meth.locks = false) (hA : ∀ q, s.heap.size ≤ q → A q) (hG : KG z s) (hZ : FZ z A s) (hL : Lay E) (hr : meth.sig.returnType = (some .int)) (h : B_setLot_j76 E M x2 x5 y0 = some (r, N)) : ∀ (H : Heap) (locs : List Loc) (ls : Array Slot), va_P z.1 classes (wv z ad E M) H → va_D A (wv z ad E M) → va_S A s.heap H locs → lv_has ls 6 [(2, .int x2), (5, .int x5)] → W p l e (rmK 2 63 0 0) s m args below meth c H locs 0 0 (MQ below (QK z A (fun _ => some (.int r)) (fun _ => wv z ad E N)) args s 0 0 A) (F0 m 76 ls [.int y0, .ref (ad 1)]) := by
  intro H locs ls hP hD hS hl
  unfold B_setLot_j76 at h
  refine lv_iload_n hx hb d_1_3_76 rfl (lv_at hl 0 rfl) ?_
  refine lv_iload hx hb d_1_3_77 (lv_at hl 1 rfl) ?_
  obtain ⟨M4, g4, h⟩ := bd_e h
  refine kV (As := [.int y0, .int x2, .int x5]) (rest := []) (s_B_remember l z ad E M y0 x2 x5 M4 hL g4) hx hb hml hown hts w_519 w_516 w_518 w_s_b872b3 w_1 md_7af0bb ⟨Nat.le_of_ble_eq_true rfl, Nat.le_of_ble_eq_true rfl⟩ hG hZ hP hD hS hA 1 (wv_o (ci := 11) (yi_1 hL) (yt_1 hL)) rfl rfl rfl hl.1 rfl (Nat.le_of_ble_eq_true rfl) d_1_3_79 ⟨Nat.le_of_ble_eq_true rfl, Nat.le_of_ble_eq_true rfl⟩ (fun _ H locs hP hD hS => ?_)
  have hP : va_P z.1 classes (wv z ad E M4) H := hP
  have hD : va_D A (wv z ad E M4) := hD
  refine W.eq (g2 := F0 m 82 ls []) rfl ?_
  refine lv_iload hx hb d_1_3_82 (lv_at hl 1 rfl) ?_
  obtain ⟨rfl, rfl⟩ := in2 h
  exact W.iret hx hb hr (fun t ht hW => qkA hP hD hS (fun k => k) rfl rfl ht) hS.2.2 d_1_3_84
set_option maxRecDepth 100000 in
set_option maxHeartbeats 4000000 in
theorem b_B_setLot_j53 (l : Launch) (z : Zz) (ad : Nat → Nat) (E : Ev) (M : Mm) (x1 : Int32) (x2 : Int32) (x3 : Int32) (y0 : Nat) (r : Int32) (N : Mm) {p : Program} {e : Env} {s : State} {m : MethodId} {below : List Frame} {meth : Method} {c : Code} {A : Nat → Prop} {args : Array Value} (hx : p.tables.exec = Jvm.exec) (hb : c.code = prog_1_method_3_code) (hml : c.maxLocals = 6) (hts : ∀ w ∈ WG, w.before args s = true) (hown : s.vm.findClass "Ballothall" = some m.cls) (hlocks : meth.locks = false) (hA : ∀ q, s.heap.size ≤ q → A q) (hG : KG z s) (hZ : FZ z A s) (hL : Lay E) (hr : meth.sig.returnType = (some .int)) (h : B_setLot_j53 E M x1 x2 x3 y0 = some (r, N)) : ∀ (H : Heap) (locs : List Loc) (ls : Array Slot), va_P z.1 classes (wv z ad E M) H → va_D A (wv z ad E M) → va_S A s.heap H locs → lv_has ls 6 [(0, .ref (ad 1)), (1, .int x1), (2, .int x2), (3, .int x3)] → W p l e (rmK 2 63 0 0) s m args below meth c H locs 0 0 (MQ below (QK z A (fun _ => some (.int r)) (fun _ => wv z ad E N)) args s 0 0 A) (F0 m 53 ls [.ref (ad y0)]) := by
  intro H locs ls hP hD hS hl
  unfold B_setLot_j53 at h
  obtain ⟨h_y0, h⟩ := ck_e h
  refine lv_astore (lv' := [(4, .ref (ad y0)), (0, .ref (ad 1)), (1, .int x1), (2, .int x2), (3, .int x3)]) hx hb d_1_3_53 hl (by decide) rfl (fun ls hl => ?_)
  refine lv_aload hx hb d_1_3_55 (lv_at hl 0 rfl) ?_
  refine lv_iload_n hx hb d_1_3_57 rfl (lv_at hl 3 rfl) ?_
  obtain ⟨ok2, h⟩ := ck_e h
  refine m_ia hx hb hG hP h_y0.1 (isIA_T h_y0) ok2 d_1_3_58 ?_
  refine lv_istore (lv' := [(5, .int (M.1 y0 x2.toNatClampNeg)), (4, .ref (ad y0)), (0, .ref (ad 1)), (1, .int x1), (2, .int x2), (3, .int x3)]) hx hb d_1_3_59 hl (by decide) rfl (fun ls hl => ?_)
  refine lv_aload hx hb d_1_3_61 (lv_at hl 1 rfl) ?_
  refine lv_iload_n hx hb d_1_3_63 rfl (lv_at hl 4 rfl) ?_
  refine lv_iload_n hx hb d_1_3_64 rfl (lv_at hl 5 rfl) ?_
  obtain ⟨ok3, h⟩ := ck_e h
  refine m_is hx hb hG hP hD hS h_y0.1 (isIA_T h_y0) ok3 d_1_3_65 (fun H locs hP hD hS => ?_)
  have hP : va_P z.1 classes (wv z ad E (u2 M y0 x2.toNatClampNeg x3)) H := hP
  have hD : va_D A (wv z ad E (u2 M y0 x2.toNatClampNeg x3)) := hD
  refine lv_aload_n hx hb d_1_3_66 rfl (lv_at hl 2 rfl) ?_
  refine lv_iload_n hx hb d_1_3_67 rfl (lv_at hl 3 rfl) ?_
  refine lv_if_eq (tgt := 75) hx hb d_1_3_68 (by decide) (fun c9 => ?_) (fun c9 => ?_)
  · have h := ite_t c9 h
    refine lv_iconst (v := 1) hx hb d_1_3_75 (by decide +kernel) ?_
    exact b_B_setLot_j76 l z ad E (u2 M y0 x2.toNatClampNeg x3) x2 (M.1 y0 x2.toNatClampNeg) 1 r N hx hb hml hts hown hlocks hA hG hZ hL hr h H locs ls hP hD hS (lv_sub hl [4, 0] rfl)
  · have h := ite_f c9 h
    refine lv_iconst (v := 2) hx hb d_1_3_71 (by decide +kernel) ?_
    refine lv_goto (tgt := 76) hx hb d_1_3_72 (by decide) ?_
    exact b_B_setLot_j76 l z ad E (u2 M y0 x2.toNatClampNeg x3) x2 (M.1 y0 x2.toNatClampNeg) 2 r N hx hb hml hts hown hlocks hA hG hZ hL hr h H locs ls hP hD hS (lv_sub hl [4, 0] rfl)
set_option maxRecDepth 100000 in
set_option maxHeartbeats 4000000 in
theorem b_B_setLot_j22 (l : Launch) (z : Zz) (ad : Nat → Nat) (E : Ev) (M : Mm) (x1 : Int32) (x2 : Int32) (x3 : Int32) (y0 : Int32) (y1 : Int32) (r : Int32) (N : Mm) {p : Program} {e : Env} {s : State} {m : MethodId} {below : List Frame} {meth : Method} {c : Code} {A : Nat → Prop} {args : Array Value} (hx : p.tables.exec = Jvm.exec) (hb : c.code = prog_1_method_3_code) (hml : c.maxLocals = 6) (hts : ∀ w ∈ WG, w.before args s = true) (hown : s.vm.findClass "Ballothall" = some m.cls) (hlocks : meth.locks = false) (hA : ∀ q, s.heap.size ≤ q → A q) (hG : KG z s) (hZ : FZ z A s) (hL : Lay E) (hr : meth.sig.returnType = (some .int)) (h : B_setLot_j22 E M x1 x2 x3 y0 y1 = some (r, N)) : ∀ (H : Heap) (locs : List Loc) (ls : Array Slot), va_P z.1 classes (wv z ad E M) H → va_D A (wv z ad E M) → va_S A s.heap H locs → lv_has ls 6 [(0, .ref (ad 1)), (1, .int x1), (2, .int x2), (3, .int x3)] → W p l e (rmK 2 63 0 0) s m args below meth c H locs 0 0 (MQ below (QK z A (fun _ => some (.int r)) (fun _ => wv z ad E N)) args s 0 0 A) (F0 m 22 ls [.int y0, .int y1]) := by
  intro H locs ls hP hD hS hl
  unfold B_setLot_j22 at h
  obtain ⟨M0, g0, h⟩ := bd_e h
  refine kS (As := [.int y1, .int y0]) (rest := []) (s_B_needIndex l z ad E M y1 y0 M0 hL g0) hx hb hml hown hts w_529 w_527 w_528 w_1 md_6cb26b ⟨Nat.le_of_ble_eq_true rfl, Nat.le_of_ble_eq_true rfl⟩ hG hZ hP hD hS hA rfl hl.1 rfl (Nat.le_of_ble_eq_true rfl) d_1_3_22 ⟨Nat.le_of_ble_eq_true rfl, Nat.le_of_ble_eq_true rfl⟩ (fun _ H locs hP hD hS => ?_)
  have hP : va_P z.1 classes (wv z ad E M0) H := hP
  have hD : va_D A (wv z ad E M0) := hD
  refine W.eq (g2 := F0 m 25 ls []) rfl ?_
  refine lv_iload_n hx hb d_1_3_25 rfl (lv_at hl 3 rfl) ?_
  refine lv_iconst (v := 0) hx hb d_1_3_26 (by decide +kernel) ?_
  refine lv_bipush (v := 99) hx hb d_1_3_27 (by decide +kernel) ?_
  obtain ⟨M1, g1, h⟩ := bd_e h
  refine kS (As := [.int x3, .int 0, .int 99]) (rest := []) (s_B_needRange l z ad E M0 x3 0 99 M1 hL g1) hx hb hml hown hts w_548 w_546 w_547 w_1 md_519134 ⟨Nat.le_of_ble_eq_true rfl, Nat.le_of_ble_eq_true rfl⟩ hG hZ hP hD hS hA rfl hl.1 rfl (Nat.le_of_ble_eq_true rfl) d_1_3_29 ⟨Nat.le_of_ble_eq_true rfl, Nat.le_of_ble_eq_true rfl⟩ (fun _ H locs hP hD hS => ?_)
  have hP : va_P z.1 classes (wv z ad E M1) H := hP
  have hD : va_D A (wv z ad E M1) := hD
  refine W.eq (g2 := F0 m 32 ls []) rfl ?_
  refine lv_iload_n hx hb d_1_3_32 rfl (lv_at hl 1 rfl) ?_
  refine lv_if_eq (tgt := 46) hx hb d_1_3_33 (by decide) (fun c9 => ?_) (fun c9 => ?_)
  · have h := ite_t c9 h
    refine lv_aload_n hx hb d_1_3_46 rfl (lv_at hl 0 rfl) ?_
    refine m_gr (j := 2) (C := "Ballothall") (T := TX11) (N := 14) (ci := 11) (k := 0) hx hb hts iX11 hown hG hP (yi_1 hL) (yt_1 hL) rfl (by decide) w_397 (fun _ h9 => h9) rfl rfl (yr_1_0 hL) d_1_3_47 ?_
    refine m_grN (j := 4) (C := "Ballothall$BallotBox") (T := TX0) (N := 10) (ci := 0) (k := 4) hx hb hts iX0 hown hG hP (yi_2 hL) (yt_2 hL) rfl (by decide) n_62 rfl (fun _ h9 => h9) rfl rfl (yr_2_4 hL) d_1_3_50 ?_
    exact b_B_setLot_j53 l z ad E M1 x1 x2 x3 4 r N hx hb hml hts hown hlocks hA hG hZ hL hr h H locs ls hP hD hS (lv_sub hl [0, 1, 2, 3] rfl)
  · have h := ite_f c9 h
    refine lv_aload_n hx hb d_1_3_36 rfl (lv_at hl 0 rfl) ?_
    refine m_gr (j := 53) (C := "Ballothall") (T := TX11) (N := 14) (ci := 11) (k := 3) hx hb hts iX11 hown hG hP (yi_1 hL) (yt_1 hL) rfl (by decide) w_400 (fun _ h9 => h9) rfl rfl (yr_1_3 hL) d_1_3_37 ?_
    refine m_grN (j := 56) (C := "Ballothall$Lists") (T := TX7) (N := 11) (ci := 7) (k := 3) hx hb hts iX7 hown hG hP (yi_53 hL) (yt_53 hL) rfl (by decide) n_248 rfl (fun _ h9 => h9) rfl rfl (yr_53_3 hL) d_1_3_40 ?_
    refine lv_goto (tgt := 53) hx hb d_1_3_43 (by decide) ?_
    exact b_B_setLot_j53 l z ad E M1 x1 x2 x3 56 r N hx hb hml hts hown hlocks hA hG hZ hL hr h H locs ls hP hD hS (lv_sub hl [0, 1, 2, 3] rfl)
set_option maxRecDepth 100000 in
set_option maxHeartbeats 4000000 in
theorem s_B_setLot (l : Launch) (z : Zz) (ad : Nat → Nat) (E : Ev) (M : Mm) (x1 : Int32) (x2 : Int32) (x3 : Int32) (r : Int32) (N : Mm) (hL : Lay E) (h : f_B_setLot E M x1 x2 x3 = some (r, N)) : CT l z ⟨"Ballothall", "setLot", "(ZII)I"⟩ prog_1_method_3_code 6 (some .int) [.ref (ad 1), .int x1, .int x2, .int x3] (wv z ad E M) 2 63 0 0 (fun _ => some (.int r)) (fun _ => wv z ad E N) := by
  refine CT.of (own := "Ballothall") (by decide +kernel) (Nat.le_of_ble_eq_true rfl) rfl (fun p e s m below meth c A ls hx hb hml hr hts hown hlocks hin hA hG hZ hP hD hS hl => ?_)
  have hl : lv_has ls 6 [(0, .ref (ad 1)), (1, .int x1), (2, .int x2), (3, .int x3)] := hl
  have key : ∀ (H : Heap) (locs : List Loc) (args : Array Value), (∀ w ∈ WG, w.before args s = true) → va_P z.1 classes (wv z ad E M) H → va_S A s.heap H locs → W p l e (rmK 2 63 0 0) s m args below meth c H locs 0 0 (MQ below (QK z A (fun _ => some (.int r)) (fun _ => wv z ad E N)) args s 0 0 A) (F0 m 0 ls []) := by
    intro H locs args hts hP hS
    unfold f_B_setLot at h
    refine lv_iload_n hx hb d_1_3_0 rfl (lv_at hl 2 rfl) ?_
    refine lv_iload_n hx hb d_1_3_1 rfl (lv_at hl 1 rfl) ?_
    refine lv_if_eq (tgt := 15) hx hb d_1_3_2 (by decide) (fun c9 => ?_) (fun c9 => ?_)
    · have h := ite_t c9 h
      refine lv_aload_n hx hb d_1_3_15 rfl (lv_at hl 0 rfl) ?_
      refine m_gr (j := 2) (C := "Ballothall") (T := TX11) (N := 14) (ci := 11) (k := 0) hx hb hts iX11 hown hG hP (yi_1 hL) (yt_1 hL) rfl (by decide) w_397 (fun _ h9 => h9) rfl rfl (yr_1_0 hL) d_1_3_16 ?_
      refine m_giN (C := "Ballothall$BallotBox") (T := TX0) (N := 10) (ci := 0) (k := 2) hx hb hts iX0 hown hG hP (yi_2 hL) (yt_2 hL) rfl (by decide) n_52 rfl (fun _ h9 => h9) rfl rfl d_1_3_19 ?_
      exact b_B_setLot_j22 l z ad E M x1 x2 x3 (M.1 2 2) x2 r N hx hb hml hts hown hlocks hA hG hZ hL hr h H locs ls hP hD hS (lv_sub hl [0, 1, 2, 3] rfl)
    · have h := ite_f c9 h
      refine lv_aload_n hx hb d_1_3_5 rfl (lv_at hl 0 rfl) ?_
      refine m_gr (j := 53) (C := "Ballothall") (T := TX11) (N := 14) (ci := 11) (k := 3) hx hb hts iX11 hown hG hP (yi_1 hL) (yt_1 hL) rfl (by decide) w_400 (fun _ h9 => h9) rfl rfl (yr_1_3 hL) d_1_3_6 ?_
      refine m_giN (C := "Ballothall$Lists") (T := TX7) (N := 11) (ci := 7) (k := 0) hx hb hts iX7 hown hG hP (yi_53 hL) (yt_53 hL) rfl (by decide) n_243 rfl (fun _ h9 => h9) rfl rfl d_1_3_9 ?_
      refine lv_goto (tgt := 22) hx hb d_1_3_12 (by decide) ?_
      exact b_B_setLot_j22 l z ad E M x1 x2 x3 (M.1 53 0) x2 r N hx hb hml hts hown hlocks hA hG hZ hL hr h H locs ls hP hD hS (lv_sub hl [0, 1, 2, 3] rfl)
  exact key _ _ _ hts hP hS
set_option maxRecDepth 100000 in
set_option maxHeartbeats 4000000 in
theorem s_B_setQuota (l : Launch) (z : Zz) (ad : Nat → Nat) (E : Ev) (M : Mm) (x1 : Int32) (r : Int32) (N : Mm) (hL : Lay E) (h : f_B_setQuota E M x1 = some (r, N)) : CT l z ⟨"Ballothall", "setQuota", "(I)I"⟩ prog_1_method_47_code 3 (some .int) [.ref (ad 1), .int x1] (wv z ad E M) 2 63 0 0 (fun _ => some (.int r)) (fun _ => wv z ad E N) := by
  refine CT.of (own := "Ballothall") (by decide +kernel) (Nat.le_of_ble_eq_true rfl) rfl (fun p e s m below meth c A ls hx hb hml hr hts hown hlocks hin hA hG hZ hP hD hS hl => ?_)
  have hl : lv_has ls 3 [(0, .ref (ad 1)), (1, .int x1)] := hl
  have key : ∀ (H : Heap) (locs : List Loc) (args : Array Value), (∀ w ∈ WG, w.before args s = true) → va_P z.1 classes (wv z ad E M) H → va_S A s.heap H locs → W p l e (rmK 2 63 0 0) s m args below meth c H locs 0 0 (MQ below (QK z A (fun _ => some (.int r)) (fun _ => wv z ad E N)) args s 0 0 A) (F0 m 0 ls []) := by
    intro H locs args hts hP hS
    unfold f_B_setQuota at h
    refine lv_iload_n hx hb d_1_47_0 rfl (lv_at hl 1 rfl) ?_
    refine lv_iconst (v := 1) hx hb d_1_47_1 (by decide +kernel) ?_
    refine lv_sipush (v := 12000) hx hb d_1_47_2 (by decide +kernel) ?_
    obtain ⟨M0, g0, h⟩ := bd_e h
    refine kS (As := [.int x1, .int 1, .int 12000]) (rest := []) (s_B_needRange l z ad E M x1 1 12000 M0 hL g0) hx hb hml hown hts w_548 w_546 w_547 w_1 md_519134 ⟨Nat.le_of_ble_eq_true rfl, Nat.le_of_ble_eq_true rfl⟩ hG hZ hP hD hS hA rfl hl.1 rfl (Nat.le_of_ble_eq_true rfl) d_1_47_5 ⟨Nat.le_of_ble_eq_true rfl, Nat.le_of_ble_eq_true rfl⟩ (fun _ H locs hP hD hS => ?_)
    have hP : va_P z.1 classes (wv z ad E M0) H := hP
    have hD : va_D A (wv z ad E M0) := hD
    refine W.eq (g2 := F0 m 8 ls []) rfl ?_
    refine lv_aload_n hx hb d_1_47_8 rfl (lv_at hl 0 rfl) ?_
    refine m_gr (j := 243) (C := "Ballothall") (T := TX11) (N := 14) (ci := 11) (k := 6) hx hb hts iX11 hown hG hP (yi_1 hL) (yt_1 hL) rfl (by decide) w_403 (fun _ h9 => h9) rfl rfl (yr_1_6 hL) d_1_47_9 ?_
    refine m_giN (C := "Ballothall$Council") (T := TX1) (N := 4) (ci := 1) (k := 1) hx hb hts iX1 hown hG hP (yi_243 hL) (yt_243 hL) rfl (by decide) n_385 rfl (fun _ h9 => h9) rfl rfl d_1_47_12 ?_
    refine lv_istore_n (lv' := [(2, .int (M0.1 243 1)), (0, .ref (ad 1)), (1, .int x1)]) hx hb d_1_47_15 rfl hl (by decide) rfl (fun ls hl => ?_)
    refine lv_aload_n hx hb d_1_47_16 rfl (lv_at hl 1 rfl) ?_
    refine m_gr (j := 243) (C := "Ballothall") (T := TX11) (N := 14) (ci := 11) (k := 6) hx hb hts iX11 hown hG hP (yi_1 hL) (yt_1 hL) rfl (by decide) w_403 (fun _ h9 => h9) rfl rfl (yr_1_6 hL) d_1_47_17 ?_
    refine lv_iload_n hx hb d_1_47_20 rfl (lv_at hl 2 rfl) ?_
    refine m_piN (C := "Ballothall$Council") (T := TX1) (N := 4) (ci := 1) (k := 1) (ty := .int) hx hb hts iX1 hown hG hP hD hS (yi_243 hL) (yt_243 hL) rfl (by decide) n_385 rfl (fun _ h9 => h9) rfl rfl tyX1_ok nmX1 rfl (by decide +kernel) rfl rfl d_1_47_21 (fun H locs hP hD hS => ?_)
    have hP : va_P z.1 classes (wv z ad E (u2 M0 243 1 x1)) H := hP
    have hD : va_D A (wv z ad E (u2 M0 243 1 x1)) := hD
    refine lv_aload_n hx hb d_1_47_24 rfl (lv_at hl 1 rfl) ?_
    refine lv_bipush (v := 12) hx hb d_1_47_25 (by decide +kernel) ?_
    refine lv_iconst (v := 0) hx hb d_1_47_27 (by decide +kernel) ?_
    refine lv_iload_n hx hb d_1_47_28 rfl (lv_at hl 0 rfl) ?_
    obtain ⟨M1, g1, h⟩ := bd_e h
    refine kV (As := [.int 12, .int 0, .int (M0.1 243 1)]) (rest := []) (s_B_remember l z ad E (u2 M0 243 1 x1) 12 0 (M0.1 243 1) M1 hL g1) hx hb hml hown hts w_519 w_516 w_518 w_s_b872b3 w_1 md_7af0bb ⟨Nat.le_of_ble_eq_true rfl, Nat.le_of_ble_eq_true rfl⟩ hG hZ hP hD hS hA 1 (wv_o (ci := 11) (yi_1 hL) (yt_1 hL)) rfl rfl rfl hl.1 rfl (Nat.le_of_ble_eq_true rfl) d_1_47_29 ⟨Nat.le_of_ble_eq_true rfl, Nat.le_of_ble_eq_true rfl⟩ (fun _ H locs hP hD hS => ?_)
    have hP : va_P z.1 classes (wv z ad E M1) H := hP
    have hD : va_D A (wv z ad E M1) := hD
    refine W.eq (g2 := F0 m 32 ls []) rfl ?_
    refine lv_iload_n hx hb d_1_47_32 rfl (lv_at hl 0 rfl) ?_
    obtain ⟨rfl, rfl⟩ := in2 h
    exact W.iret hx hb hr (fun t ht hW => qkA hP hD hS (fun k => k) rfl rfl ht) hS.2.2 d_1_47_33
  exact key _ _ _ hts hP hS
set_option maxRecDepth 100000 in
set_option maxHeartbeats 4000000 in
theorem s_B_solidQuotas (l : Launch) (z : Zz) (ad : Nat → Nat) (E : Ev) (M : Mm) (x1 : Int32) (r : Int32) (N : Mm) (hL : Lay E) (h : f_B_solidQuotas E M x1 = some (r, N)) : CT l z ⟨"Ballothall", "solidQuotas", "(I)I"⟩ prog_1_method_24_code 3 (some .int) [.ref (ad 1), .int x1] (wv z ad E M) 2 70 0 0 (fun _ => some (.int r)) (fun _ => wv z ad E N) := by
  refine CT.of (own := "Ballothall") (by decide +kernel) (Nat.le_of_ble_eq_true rfl) rfl (fun p e s m below meth c A ls hx hb hml hr hts hown hlocks hin hA hG hZ hP hD hS hl => ?_)
  have hl : lv_has ls 3 [(0, .ref (ad 1)), (1, .int x1)] := hl
  have key : ∀ (H : Heap) (locs : List Loc) (args : Array Value), (∀ w ∈ WG, w.before args s = true) → va_P z.1 classes (wv z ad E M) H → va_S A s.heap H locs → W p l e (rmK 2 70 0 0) s m args below meth c H locs 0 0 (MQ below (QK z A (fun _ => some (.int r)) (fun _ => wv z ad E N)) args s 0 0 A) (F0 m 0 ls []) := by
    intro H locs args hts hP hS
    unfold f_B_solidQuotas at h
    refine lv_iload_n hx hb d_1_24_0 rfl (lv_at hl 1 rfl) ?_
    refine lv_iconst (v := 1) hx hb d_1_24_1 (by decide +kernel) ?_
    refine lv_aload_n hx hb d_1_24_2 rfl (lv_at hl 0 rfl) ?_
    refine m_gr (j := 2) (C := "Ballothall") (T := TX11) (N := 14) (ci := 11) (k := 0) hx hb hts iX11 hown hG hP (yi_1 hL) (yt_1 hL) rfl (by decide) w_397 (fun _ h9 => h9) rfl rfl (yr_1_0 hL) d_1_24_3 ?_
    obtain ⟨⟨r0, M0⟩, g0, h⟩ := bd_e h
    refine kVN (As := []) (rest := [.int 1, .int x1]) (s_Bx_everybody l z ad E M r0 M0 hL g0) hx hb hml hown hts w_668 n_665 w_667 w_s_8b8b67 w_2 md_b59579 ⟨Nat.le_of_ble_eq_true rfl, Nat.le_of_ble_eq_true rfl⟩ hG hZ hP hD hS hA 2 (wv_o (ci := 0) (yi_2 hL) (yt_2 hL)) rfl rfl rfl hl.1 rfl (Nat.le_of_ble_eq_true rfl) d_1_24_6 ⟨Nat.le_of_ble_eq_true rfl, Nat.le_of_ble_eq_true rfl⟩ (fun _ H locs hP hD hS => ?_)
    have hP : va_P z.1 classes (wv z ad E M0) H := hP
    have hD : va_D A (wv z ad E M0) := hD
    refine W.eq (g2 := F0 m 9 ls [.int r0, .int 1, .int x1]) rfl ?_
    obtain ⟨M1, g1, h⟩ := bd_e h
    refine kS (As := [.int x1, .int 1, .int r0]) (rest := []) (s_B_needRange l z ad E M0 x1 1 r0 M1 hL g1) hx hb hml hown hts w_548 w_546 w_547 w_1 md_519134 ⟨Nat.le_of_ble_eq_true rfl, Nat.le_of_ble_eq_true rfl⟩ hG hZ hP hD hS hA rfl hl.1 rfl (Nat.le_of_ble_eq_true rfl) d_1_24_9 ⟨Nat.le_of_ble_eq_true rfl, Nat.le_of_ble_eq_true rfl⟩ (fun _ H locs hP hD hS => ?_)
    have hP : va_P z.1 classes (wv z ad E M1) H := hP
    have hD : va_D A (wv z ad E M1) := hD
    refine W.eq (g2 := F0 m 12 ls []) rfl ?_
    refine lv_aload_n hx hb d_1_24_12 rfl (lv_at hl 0 rfl) ?_
    refine m_gr (j := 179) (C := "Ballothall") (T := TX11) (N := 14) (ci := 11) (k := 4) hx hb hts iX11 hown hG hP (yi_1 hL) (yt_1 hL) rfl (by decide) w_401 (fun _ h9 => h9) rfl rfl (yr_1_4 hL) d_1_24_13 ?_
    obtain ⟨⟨r2, M2⟩, g2, h⟩ := bd_e h
    refine kVN (As := []) (rest := []) (s_Co_latest l z ad E M1 r2 M2 hL g2) hx hb hml hown hts w_596 n_593 w_595 w_s_ad1675 w_8 md_6f7cc1 ⟨Nat.le_of_ble_eq_true rfl, Nat.le_of_ble_eq_true rfl⟩ hG hZ hP hD hS hA 179 (wv_o (ci := 3) (yi_179 hL) (yt_179 hL)) rfl rfl rfl hl.1 rfl (Nat.le_of_ble_eq_true rfl) d_1_24_16 ⟨Nat.le_of_ble_eq_true rfl, Nat.le_of_ble_eq_true rfl⟩ (fun _ H locs hP hD hS => ?_)
    have hP : va_P z.1 classes (wv z ad E M2) H := hP
    have hD : va_D A (wv z ad E M2) := hD
    cases r2 with
    | none =>
      refine W.eq (g2 := F0 m 19 ls [.null]) rfl ?_
      refine lv_astore_nN (lv' := [(2, .null), (0, .ref (ad 1)), (1, .int x1)]) hx hb d_1_24_19 rfl hl (by decide) rfl (fun ls hl => ?_)
      refine lv_aload_nN hx hb d_1_24_20 rfl (lv_at hl 0 rfl) ?_
      refine lv_ifnullN (tgt := 32) hx hb d_1_24_21 (by decide) ?_
      cases h
    | some p2 =>
      obtain ⟨h_p2, h⟩ := ck_e h
      refine W.eq (g2 := F0 m 19 ls [.ref (ad p2)]) rfl ?_
      refine lv_astore_n (lv' := [(2, .ref (ad p2)), (0, .ref (ad 1)), (1, .int x1)]) hx hb d_1_24_19 rfl hl (by decide) rfl (fun ls hl => ?_)
      refine lv_aload_n hx hb d_1_24_20 rfl (lv_at hl 0 rfl) ?_
      refine lv_ifnull hx hb d_1_24_21 ?_
      refine lv_aload_n hx hb d_1_24_24 rfl (lv_at hl 0 rfl) ?_
      refine m_giN (C := "Ballothall$Count") (T := TX2) (N := 10) (ci := 2) (k := 0) hx hb hts iX2 hown hG hP (isCt_i h_p2) (isCt_T h_p2) rfl (by decide) n_1080 rfl (fun _ h9 => h9) rfl rfl d_1_24_25 ?_
      refine lv_iconst (v := 1) hx hb d_1_24_28 (by decide +kernel) ?_
      refine lv_icmp_ge (tgt := 42) hx hb d_1_24_29 (by decide) (fun c9 => ?_) (fun c9 => ?_)
      · have h := ite_t c9 h
        refine lv_aload_n hx hb d_1_24_42 rfl (lv_at hl 1 rfl) ?_
        refine m_gr (j := 2) (C := "Ballothall") (T := TX11) (N := 14) (ci := 11) (k := 0) hx hb hts iX11 hown hG hP (yi_1 hL) (yt_1 hL) rfl (by decide) w_397 (fun _ h9 => h9) rfl rfl (yr_1_0 hL) d_1_24_43 ?_
        refine lv_aload_n hx hb d_1_24_46 rfl (lv_at hl 1 rfl) ?_
        refine m_gr (j := 2) (C := "Ballothall") (T := TX11) (N := 14) (ci := 11) (k := 0) hx hb hts iX11 hown hG hP (yi_1 hL) (yt_1 hL) rfl (by decide) w_397 (fun _ h9 => h9) rfl rfl (yr_1_0 hL) d_1_24_47 ?_
        refine m_grN (j := 5) (C := "Ballothall$BallotBox") (T := TX0) (N := 10) (ci := 0) (k := 5) hx hb hts iX0 hown hG hP (yi_2 hL) (yt_2 hL) rfl (by decide) n_66 rfl (fun _ h9 => h9) rfl rfl (yr_2_5 hL) d_1_24_50 ?_
        refine lv_aload_n hx hb d_1_24_53 rfl (lv_at hl 1 rfl) ?_
        refine m_gr (j := 2) (C := "Ballothall") (T := TX11) (N := 14) (ci := 11) (k := 0) hx hb hts iX11 hown hG hP (yi_1 hL) (yt_1 hL) rfl (by decide) w_397 (fun _ h9 => h9) rfl rfl (yr_1_0 hL) d_1_24_54 ?_
        refine m_giN (C := "Ballothall$BallotBox") (T := TX0) (N := 10) (ci := 0) (k := 3) hx hb hts iX0 hown hG hP (yi_2 hL) (yt_2 hL) rfl (by decide) n_58 rfl (fun _ h9 => h9) rfl rfl d_1_24_57 ?_
        refine lv_aload_n hx hb d_1_24_60 rfl (lv_at hl 1 rfl) ?_
        refine m_gr (j := 2) (C := "Ballothall") (T := TX11) (N := 14) (ci := 11) (k := 0) hx hb hts iX11 hown hG hP (yi_1 hL) (yt_1 hL) rfl (by decide) w_397 (fun _ h9 => h9) rfl rfl (yr_1_0 hL) d_1_24_61 ?_
        obtain ⟨⟨r3, M3⟩, g3, h⟩ := bd_e h
        refine kVN (As := []) (rest := [.int (M2.1 2 3), .ref (ad 5), .ref (ad 2)]) (s_Bx_everybody l z ad E M2 r3 M3 hL g3) hx hb hml hown hts w_668 n_665 w_667 w_s_8b8b67 w_2 md_b59579 ⟨Nat.le_of_ble_eq_true rfl, Nat.le_of_ble_eq_true rfl⟩ hG hZ hP hD hS hA 2 (wv_o (ci := 0) (yi_2 hL) (yt_2 hL)) rfl rfl rfl hl.1 rfl (Nat.le_of_ble_eq_true rfl) d_1_24_64 ⟨Nat.le_of_ble_eq_true rfl, Nat.le_of_ble_eq_true rfl⟩ (fun _ H locs hP hD hS => ?_)
        have hP : va_P z.1 classes (wv z ad E M3) H := hP
        have hD : va_D A (wv z ad E M3) := hD
        refine W.eq (g2 := F0 m 67 ls [.int r3, .int (M2.1 2 3), .ref (ad 5), .ref (ad 2)]) rfl ?_
        obtain ⟨M4, g4, h⟩ := bd_e h
        refine kVN (As := [.ref (ad 5), .int (M2.1 2 3), .int r3]) (rest := []) (s_Bx_findSupport l z ad E M3 5 (M2.1 2 3) r3 M4 hL g4) hx hb hml hown hts w_650 n_647 w_649 w_s_0b6f71 w_2 md_c007fa ⟨Nat.le_of_ble_eq_true rfl, Nat.le_of_ble_eq_true rfl⟩ hG hZ hP hD hS hA 2 (wv_o (ci := 0) (yi_2 hL) (yt_2 hL)) rfl rfl rfl hl.1 rfl (Nat.le_of_ble_eq_true rfl) d_1_24_67 ⟨Nat.le_of_ble_eq_true rfl, Nat.le_of_ble_eq_true rfl⟩ (fun _ H locs hP hD hS => ?_)
        have hP : va_P z.1 classes (wv z ad E M4) H := hP
        have hD : va_D A (wv z ad E M4) := hD
        refine W.eq (g2 := F0 m 70 ls []) rfl ?_
        refine lv_aload_n hx hb d_1_24_70 rfl (lv_at hl 1 rfl) ?_
        refine m_gr (j := 2) (C := "Ballothall") (T := TX11) (N := 14) (ci := 11) (k := 0) hx hb hts iX11 hown hG hP (yi_1 hL) (yt_1 hL) rfl (by decide) w_397 (fun _ h9 => h9) rfl rfl (yr_1_0 hL) d_1_24_71 ?_
        refine m_grN (j := 40) (C := "Ballothall$BallotBox") (T := TX0) (N := 10) (ci := 0) (k := 9) hx hb hts iX0 hown hG hP (yi_2 hL) (yt_2 hL) rfl (by decide) n_78 rfl (fun _ h9 => h9) rfl rfl (yr_2_9 hL) d_1_24_74 ?_
        refine lv_iload_n hx hb d_1_24_77 rfl (lv_at hl 2 rfl) ?_
        obtain ⟨ok5, h⟩ := ck_e h
        refine m_ia hx hb hG hP (yi_40 hL) (yt_40 hL) ok5 d_1_24_78 ?_
        refine lv_aload_n hx hb d_1_24_79 rfl (lv_at hl 0 rfl) ?_
        refine m_giN (C := "Ballothall$Count") (T := TX2) (N := 10) (ci := 2) (k := 0) hx hb hts iX2 hown hG hP (isCt_i h_p2) (isCt_T h_p2) rfl (by decide) n_1080 rfl (fun _ h9 => h9) rfl rfl d_1_24_80 ?_
        obtain ⟨ok6, h⟩ := ck_e h
        refine lv_idiv hx hb d_1_24_83 ok6 ?_
        refine lv_iload_n hx hb d_1_24_84 rfl (lv_at hl 2 rfl) ?_
        obtain ⟨⟨r7, M7⟩, g7, h⟩ := bd_e h
        refine kS (As := [.int x1]) (rest := [.int ((M4.1 40 x1.toNatClampNeg) / (M4.1 p2 0))]) (s_In_bitCount l z ad E M4 x1 r7 M7 hL g7) hx hb hml hown hts w_657 w_655 w_656 w_30 md_eafe8c ⟨Nat.le_of_ble_eq_true rfl, Nat.le_of_ble_eq_true rfl⟩ hG hZ hP hD hS hA rfl hl.1 rfl (Nat.le_of_ble_eq_true rfl) d_1_24_85 ⟨Nat.le_of_ble_eq_true rfl, Nat.le_of_ble_eq_true rfl⟩ (fun _ H locs hP hD hS => ?_)
        have hP : va_P z.1 classes (wv z ad E M7) H := hP
        have hD : va_D A (wv z ad E M7) := hD
        refine W.eq (g2 := F0 m 88 ls [.int r7, .int ((M4.1 40 x1.toNatClampNeg) / (M4.1 p2 0))]) rfl ?_
        refine va_mmin hx hb (by rw [hml]; exact hl.1.symm) hown (hts _ w_520) (hts _ w_521) (hts _ w_17) (hts _ w_min) (Nat.le_of_ble_eq_true rfl) (Nat.le_of_ble_eq_true rfl) (Nat.le_of_ble_eq_true rfl) (Nat.le_of_ble_eq_true rfl) d_1_24_88 ?_
        obtain ⟨v8, e8, h⟩ := nb_e h
        refine nrm e8.symm ?_
        obtain ⟨rfl, rfl⟩ := in2 h
        exact W.iret hx hb hr (fun t ht hW => qkA hP hD hS (fun k => k) rfl rfl ht) hS.2.2 d_1_24_91
      · have h := ite_f c9 h
        cases h
  exact key _ _ _ hts hP hS
set_option maxRecDepth 100000 in
set_option maxHeartbeats 4000000 in
theorem s_B_steps (l : Launch) (z : Zz) (ad : Nat → Nat) (E : Ev) (M : Mm) (r : Int32) (N : Mm) (hL : Lay E) (h : f_B_steps E M = some (r, N)) : CT l z ⟨"Ballothall", "steps", "()I"⟩ prog_1_method_21_code 2 (some .int) [.ref (ad 1)] (wv z ad E M) 1 40 0 0 (fun _ => some (.int r)) (fun _ => wv z ad E N) := by
  refine CT.of (own := "Ballothall") (by decide +kernel) (Nat.le_of_ble_eq_true rfl) rfl (fun p e s m below meth c A ls hx hb hml hr hts hown hlocks hin hA hG hZ hP hD hS hl => ?_)
  have hl : lv_has ls 2 [(0, .ref (ad 1))] := hl
  have key : ∀ (H : Heap) (locs : List Loc) (args : Array Value), (∀ w ∈ WG, w.before args s = true) → va_P z.1 classes (wv z ad E M) H → va_S A s.heap H locs → W p l e (rmK 1 40 0 0) s m args below meth c H locs 0 0 (MQ below (QK z A (fun _ => some (.int r)) (fun _ => wv z ad E N)) args s 0 0 A) (F0 m 0 ls []) := by
    intro H locs args hts hP hS
    unfold f_B_steps at h
    refine lv_aload_n hx hb d_1_21_0 rfl (lv_at hl 0 rfl) ?_
    refine m_gr (j := 179) (C := "Ballothall") (T := TX11) (N := 14) (ci := 11) (k := 4) hx hb hts iX11 hown hG hP (yi_1 hL) (yt_1 hL) rfl (by decide) w_401 (fun _ h9 => h9) rfl rfl (yr_1_4 hL) d_1_21_1 ?_
    obtain ⟨⟨r0, M0⟩, g0, h⟩ := bd_e h
    refine kVN (As := []) (rest := []) (s_Co_latest l z ad E M r0 M0 hL g0) hx hb hml hown hts w_596 n_593 w_595 w_s_ad1675 w_8 md_6f7cc1 ⟨Nat.le_of_ble_eq_true rfl, Nat.le_of_ble_eq_true rfl⟩ hG hZ hP hD hS hA 179 (wv_o (ci := 3) (yi_179 hL) (yt_179 hL)) rfl rfl rfl hl.1 rfl (Nat.le_of_ble_eq_true rfl) d_1_21_4 ⟨Nat.le_of_ble_eq_true rfl, Nat.le_of_ble_eq_true rfl⟩ (fun _ H locs hP hD hS => ?_)
    have hP : va_P z.1 classes (wv z ad E M0) H := hP
    have hD : va_D A (wv z ad E M0) := hD
    cases r0 with
    | none =>
      refine W.eq (g2 := F0 m 7 ls [.null]) rfl ?_
      refine lv_astore_nN (lv' := [(1, .null), (0, .ref (ad 1))]) hx hb d_1_21_7 rfl hl (by decide) rfl (fun ls hl => ?_)
      refine lv_aload_nN hx hb d_1_21_8 rfl (lv_at hl 0 rfl) ?_
      refine lv_ifnonnullN hx hb d_1_21_9 ?_
      refine lv_iconst (v := 0) hx hb d_1_21_12 (by decide +kernel) ?_
      refine lv_goto (tgt := 25) hx hb d_1_21_13 (by decide) ?_
      obtain ⟨rfl, rfl⟩ := in2 h
      exact W.iret hx hb hr (fun t ht hW => qkA hP hD hS (fun k => k) rfl rfl ht) hS.2.2 d_1_21_25
    | some p0 =>
      obtain ⟨h_p0, h⟩ := ck_e h
      refine W.eq (g2 := F0 m 7 ls [.ref (ad p0)]) rfl ?_
      refine lv_astore_n (lv' := [(1, .ref (ad p0)), (0, .ref (ad 1))]) hx hb d_1_21_7 rfl hl (by decide) rfl (fun ls hl => ?_)
      refine lv_aload_n hx hb d_1_21_8 rfl (lv_at hl 0 rfl) ?_
      refine lv_ifnonnull (tgt := 16) hx hb d_1_21_9 (by decide) ?_
      refine lv_aload_n hx hb d_1_21_16 rfl (lv_at hl 0 rfl) ?_
      refine m_giN (C := "Ballothall$Count") (T := TX2) (N := 10) (ci := 2) (k := 4) hx hb hts iX2 hown hG hP (isCt_i h_p0) (isCt_T h_p0) rfl (by decide) n_1087 rfl (fun _ h9 => h9) rfl rfl d_1_21_17 ?_
      refine lv_aload_n hx hb d_1_21_20 rfl (lv_at hl 0 rfl) ?_
      refine m_giN (C := "Ballothall$Count") (T := TX2) (N := 10) (ci := 2) (k := 5) hx hb hts iX2 hown hG hP (isCt_i h_p0) (isCt_T h_p0) rfl (by decide) n_1089 rfl (fun _ h9 => h9) rfl rfl d_1_21_21 ?_
      refine lv_iadd hx hb d_1_21_24 ?_
      obtain ⟨rfl, rfl⟩ := in2 h
      exact W.iret hx hb hr (fun t ht hW => qkA hP hD hS (fun k => k) rfl rfl ht) hS.2.2 d_1_21_25
  exact key _ _ _ hts hP hS
set_option maxRecDepth 100000 in
set_option maxHeartbeats 4000000 in
theorem s_B_strongestPath (l : Launch) (z : Zz) (ad : Nat → Nat) (E : Ev) (M : Mm) (x1 : Int32) (x2 : Int32) (r : Int32) (N : Mm) (hL : Lay E) (h : f_B_strongestPath E M x1 x2 = some (r, N)) : CT l z ⟨"Ballothall", "strongestPath", "(II)I"⟩ prog_1_method_27_code 3 (some .int) [.ref (ad 1), .int x1, .int x2] (wv z ad E M) 4 115 0 0 (fun _ => some (.int r)) (fun _ => wv z ad E N) := by
  refine CT.of (own := "Ballothall") (by decide +kernel) (Nat.le_of_ble_eq_true rfl) rfl (fun p e s m below meth c A ls hx hb hml hr hts hown hlocks hin hA hG hZ hP hD hS hl => ?_)
  have hl : lv_has ls 3 [(0, .ref (ad 1)), (1, .int x1), (2, .int x2)] := hl
  have key : ∀ (H : Heap) (locs : List Loc) (args : Array Value), (∀ w ∈ WG, w.before args s = true) → va_P z.1 classes (wv z ad E M) H → va_S A s.heap H locs → W p l e (rmK 4 115 0 0) s m args below meth c H locs 0 0 (MQ below (QK z A (fun _ => some (.int r)) (fun _ => wv z ad E N)) args s 0 0 A) (F0 m 0 ls []) := by
    intro H locs args hts hP hS
    unfold f_B_strongestPath at h
    refine lv_iload_n hx hb d_1_27_0 rfl (lv_at hl 1 rfl) ?_
    refine lv_aload_n hx hb d_1_27_1 rfl (lv_at hl 0 rfl) ?_
    refine m_gr (j := 2) (C := "Ballothall") (T := TX11) (N := 14) (ci := 11) (k := 0) hx hb hts iX11 hown hG hP (yi_1 hL) (yt_1 hL) rfl (by decide) w_397 (fun _ h9 => h9) rfl rfl (yr_1_0 hL) d_1_27_2 ?_
    refine m_giN (C := "Ballothall$BallotBox") (T := TX0) (N := 10) (ci := 0) (k := 2) hx hb hts iX0 hown hG hP (yi_2 hL) (yt_2 hL) rfl (by decide) n_52 rfl (fun _ h9 => h9) rfl rfl d_1_27_5 ?_
    obtain ⟨M0, g0, h⟩ := bd_e h
    refine kS (As := [.int x1, .int (M.1 2 2)]) (rest := []) (s_B_needIndex l z ad E M x1 (M.1 2 2) M0 hL g0) hx hb hml hown hts w_529 w_527 w_528 w_1 md_6cb26b ⟨Nat.le_of_ble_eq_true rfl, Nat.le_of_ble_eq_true rfl⟩ hG hZ hP hD hS hA rfl hl.1 rfl (Nat.le_of_ble_eq_true rfl) d_1_27_8 ⟨Nat.le_of_ble_eq_true rfl, Nat.le_of_ble_eq_true rfl⟩ (fun _ H locs hP hD hS => ?_)
    have hP : va_P z.1 classes (wv z ad E M0) H := hP
    have hD : va_D A (wv z ad E M0) := hD
    refine W.eq (g2 := F0 m 11 ls []) rfl ?_
    refine lv_iload_n hx hb d_1_27_11 rfl (lv_at hl 2 rfl) ?_
    refine lv_aload_n hx hb d_1_27_12 rfl (lv_at hl 0 rfl) ?_
    refine m_gr (j := 2) (C := "Ballothall") (T := TX11) (N := 14) (ci := 11) (k := 0) hx hb hts iX11 hown hG hP (yi_1 hL) (yt_1 hL) rfl (by decide) w_397 (fun _ h9 => h9) rfl rfl (yr_1_0 hL) d_1_27_13 ?_
    refine m_giN (C := "Ballothall$BallotBox") (T := TX0) (N := 10) (ci := 0) (k := 2) hx hb hts iX0 hown hG hP (yi_2 hL) (yt_2 hL) rfl (by decide) n_52 rfl (fun _ h9 => h9) rfl rfl d_1_27_16 ?_
    obtain ⟨M1, g1, h⟩ := bd_e h
    refine kS (As := [.int x2, .int (M0.1 2 2)]) (rest := []) (s_B_needIndex l z ad E M0 x2 (M0.1 2 2) M1 hL g1) hx hb hml hown hts w_529 w_527 w_528 w_1 md_6cb26b ⟨Nat.le_of_ble_eq_true rfl, Nat.le_of_ble_eq_true rfl⟩ hG hZ hP hD hS hA rfl hl.1 rfl (Nat.le_of_ble_eq_true rfl) d_1_27_19 ⟨Nat.le_of_ble_eq_true rfl, Nat.le_of_ble_eq_true rfl⟩ (fun _ H locs hP hD hS => ?_)
    have hP : va_P z.1 classes (wv z ad E M1) H := hP
    have hD : va_D A (wv z ad E M1) := hD
    refine W.eq (g2 := F0 m 22 ls []) rfl ?_
    refine lv_aload_n hx hb d_1_27_22 rfl (lv_at hl 0 rfl) ?_
    refine m_gr (j := 41) (C := "Ballothall") (T := TX11) (N := 14) (ci := 11) (k := 1) hx hb hts iX11 hown hG hP (yi_1 hL) (yt_1 hL) rfl (by decide) w_398 (fun _ h9 => h9) rfl rfl (yr_1_1 hL) d_1_27_23 ?_
    refine lv_aload_n hx hb d_1_27_26 rfl (lv_at hl 0 rfl) ?_
    refine m_gr (j := 2) (C := "Ballothall") (T := TX11) (N := 14) (ci := 11) (k := 0) hx hb hts iX11 hown hG hP (yi_1 hL) (yt_1 hL) rfl (by decide) w_397 (fun _ h9 => h9) rfl rfl (yr_1_0 hL) d_1_27_27 ?_
    obtain ⟨⟨r2, M2⟩, g2, h⟩ := bd_e h
    refine kVN (As := []) (rest := [.ref (ad 41)]) (s_Bx_everybody l z ad E M1 r2 M2 hL g2) hx hb hml hown hts w_668 n_665 w_667 w_s_8b8b67 w_2 md_b59579 ⟨Nat.le_of_ble_eq_true rfl, Nat.le_of_ble_eq_true rfl⟩ hG hZ hP hD hS hA 2 (wv_o (ci := 0) (yi_2 hL) (yt_2 hL)) rfl rfl rfl hl.1 rfl (Nat.le_of_ble_eq_true rfl) d_1_27_30 ⟨Nat.le_of_ble_eq_true rfl, Nat.le_of_ble_eq_true rfl⟩ (fun _ H locs hP hD hS => ?_)
    have hP : va_P z.1 classes (wv z ad E M2) H := hP
    have hD : va_D A (wv z ad E M2) := hD
    refine W.eq (g2 := F0 m 33 ls [.int r2, .ref (ad 41)]) rfl ?_
    obtain ⟨M3, g3, h⟩ := bd_e h
    refine kVN (As := [.int r2]) (rest := []) (s_Po_open l z ad E M2 r2 M3 hL g3) hx hb hml hown hts w_672 n_669 w_671 w_s_229dc4 w_3 md_60bc9b ⟨Nat.le_of_ble_eq_true rfl, Nat.le_of_ble_eq_true rfl⟩ hG hZ hP hD hS hA 41 (wv_o (ci := 9) (yi_41 hL) (yt_41 hL)) rfl rfl rfl hl.1 rfl (Nat.le_of_ble_eq_true rfl) d_1_27_33 ⟨Nat.le_of_ble_eq_true rfl, Nat.le_of_ble_eq_true rfl⟩ (fun _ H locs hP hD hS => ?_)
    have hP : va_P z.1 classes (wv z ad E M3) H := hP
    have hD : va_D A (wv z ad E M3) := hD
    refine W.eq (g2 := F0 m 36 ls []) rfl ?_
    refine lv_aload_n hx hb d_1_27_36 rfl (lv_at hl 0 rfl) ?_
    refine m_gr (j := 41) (C := "Ballothall") (T := TX11) (N := 14) (ci := 11) (k := 1) hx hb hts iX11 hown hG hP (yi_1 hL) (yt_1 hL) rfl (by decide) w_398 (fun _ h9 => h9) rfl rfl (yr_1_1 hL) d_1_27_37 ?_
    obtain ⟨M4, g4, h⟩ := bd_e h
    refine kVN (As := []) (rest := []) (s_Po_findPaths l z ad E M3 M4 hL g4) hx hb hml hown hts w_729 n_1331 w_728 w_s_3d2a4d w_3 md_b5f468 ⟨Nat.le_of_ble_eq_true rfl, Nat.le_of_ble_eq_true rfl⟩ hG hZ hP hD hS hA 41 (wv_o (ci := 9) (yi_41 hL) (yt_41 hL)) rfl rfl rfl hl.1 rfl (Nat.le_of_ble_eq_true rfl) d_1_27_40 ⟨Nat.le_of_ble_eq_true rfl, Nat.le_of_ble_eq_true rfl⟩ (fun _ H locs hP hD hS => ?_)
    have hP : va_P z.1 classes (wv z ad E M4) H := hP
    have hD : va_D A (wv z ad E M4) := hD
    refine W.eq (g2 := F0 m 43 ls []) rfl ?_
    refine lv_aload_n hx hb d_1_27_43 rfl (lv_at hl 0 rfl) ?_
    refine m_gr (j := 41) (C := "Ballothall") (T := TX11) (N := 14) (ci := 11) (k := 1) hx hb hts iX11 hown hG hP (yi_1 hL) (yt_1 hL) rfl (by decide) w_398 (fun _ h9 => h9) rfl rfl (yr_1_1 hL) d_1_27_44 ?_
    refine lv_iload_n hx hb d_1_27_47 rfl (lv_at hl 1 rfl) ?_
    refine lv_iload_n hx hb d_1_27_48 rfl (lv_at hl 2 rfl) ?_
    obtain ⟨⟨r5, M5⟩, g5, h⟩ := bd_e h
    refine kVN (As := [.int x1, .int x2]) (rest := []) (s_Po_path l z ad E M4 x1 x2 r5 M5 hL g5) hx hb hml hown hts w_733 n_1332 w_732 w_s_f68c3b w_3 md_2f75ac ⟨Nat.le_of_ble_eq_true rfl, Nat.le_of_ble_eq_true rfl⟩ hG hZ hP hD hS hA 41 (wv_o (ci := 9) (yi_41 hL) (yt_41 hL)) rfl rfl rfl hl.1 rfl (Nat.le_of_ble_eq_true rfl) d_1_27_49 ⟨Nat.le_of_ble_eq_true rfl, Nat.le_of_ble_eq_true rfl⟩ (fun _ H locs hP hD hS => ?_)
    have hP : va_P z.1 classes (wv z ad E M5) H := hP
    have hD : va_D A (wv z ad E M5) := hD
    refine W.eq (g2 := F0 m 52 ls [.int r5]) rfl ?_
    obtain ⟨rfl, rfl⟩ := in2 h
    exact W.iret hx hb hr (fun t ht hW => qkA hP hD hS (fun k => k) rfl rfl ht) hS.2.2 d_1_27_52
  exact key _ _ _ hts hP hS
set_option maxRecDepth 100000 in
set_option maxHeartbeats 4000000 in
theorem b_Cl_setsSwungBy_4b (l : Launch) (z : Zz) (ad : Nat → Nat) (E : Ev) (M : Mm) (x1 : Int32) (x2 : Int32) (x3 : Int32) (t : Nat) (w2 : Int32) (w3 : Int32) (N : Mm) {Q : State → Prop} {p : Program} {e : Env} {s : State} {m : MethodId} {below : List Frame} {meth : Method} {c : Code} {A : Nat → Prop} {args : Array Value} (hx : p.tables.exec = Jvm.exec) (hb : c.code = prog_3_method_5_code) (hml : c.maxLocals = 4) (hts : ∀ w ∈ WG, w.before args s = true) (hown : s.vm.findClass "Ballothall$Council" = some m.cls) (hlocks : meth.locks = false) (hA : ∀ q, s.heap.size ≤ q → A q) (hG : KG z s) (hZ : FZ z A s) (hL : Lay E) (h : Cl_setsSwungBy_4b E M x1 x2 x3 = some (t, w2, w3, N)) (k0 : t = 0 → ∀ (H : Heap) (locs : List Loc) (ls : Array Slot), va_P z.1 classes (wv z ad E N) H → va_D A (wv z ad E N) → va_S A s.heap H locs → lv_has ls 4 [(0, .ref (ad 243)), (1, .int x1), (2, .int w2), (3, .int w3)] → W p l e (rmK 2 63 0 0) s m args below meth c H locs 0 0 Q (F0 m 4 ls [])) (k1 : t = 1 → ∀ (H : Heap) (locs : List Loc) (ls : Array Slot), va_P z.1 classes (wv z ad E N) H → va_D A (wv z ad E N) → va_S A s.heap H locs → lv_has ls 4 [(2, .int w2)] → W p l e (rmK 2 63 0 0) s m args below meth c H locs 0 0 Q (F0 m 32 ls [])) : ∀ (H : Heap) (locs : List Loc) (ls : Array Slot), va_P z.1 classes (wv z ad E M) H → va_D A (wv z ad E M) → va_S A s.heap H locs → lv_has ls 4 [(0, .ref (ad 243)), (1, .int x1), (2, .int x2), (3, .int x3)] → W p l e (rmK 2 63 0 0) s m args below meth c H locs 0 0 Q (F0 m 4 ls []) := by
  intro H locs ls hP hD hS hl
  unfold Cl_setsSwungBy_4b at h
  refine lv_iload_n hx hb d_3_5_4 rfl (lv_at hl 3 rfl) ?_
  refine lv_iconst (v := 1) hx hb d_3_5_5 (by decide +kernel) ?_
  refine lv_aload_n hx hb d_3_5_6 rfl (lv_at hl 0 rfl) ?_
  refine m_gi (C := "Ballothall$Council") (T := TX1) (N := 4) (ci := 1) (k := 0) hx hb hts iX1 hown hG hP (yi_243 hL) (yt_243 hL) rfl (by decide) w_382 (fun _ h9 => h9) rfl rfl d_3_5_7 ?_
  refine lv_ishl hx hb d_3_5_10 ?_
  refine lv_icmp_ge (tgt := 32) hx hb d_3_5_11 (by decide) (fun c9 => ?_) (fun c9 => ?_)
  · have h := ite_t c9 h
    obtain ⟨rfl, rfl, rfl, rfl⟩ := in4 h
    exact k1 rfl H locs ls hP hD hS (lv_sub hl [2] rfl)
  · have h := ite_f c9 h
    refine lv_aload_n hx hb d_3_5_14 rfl (lv_at hl 0 rfl) ?_
    refine lv_iload_n hx hb d_3_5_15 rfl (lv_at hl 3 rfl) ?_
    refine lv_iload_n hx hb d_3_5_16 rfl (lv_at hl 1 rfl) ?_
    obtain ⟨⟨r0, M0⟩, g0, h⟩ := bd_e h
    refine kV (As := [.int x3, .int x1]) (rest := []) (s_Cl_isSwung l z ad E M x3 x1 r0 M0 hL g0) hx hb hml hown hts w_762 w_759 w_761 w_s_ce08ed w_11 md_99b449 ⟨Nat.le_of_ble_eq_true rfl, Nat.le_of_ble_eq_true rfl⟩ hG hZ hP hD hS hA 243 (wv_o (ci := 1) (yi_243 hL) (yt_243 hL)) rfl rfl rfl hl.1 rfl (Nat.le_of_ble_eq_true rfl) d_3_5_17 ⟨Nat.le_of_ble_eq_true rfl, Nat.le_of_ble_eq_true rfl⟩ (fun _ H locs hP hD hS => ?_)
    have hP : va_P z.1 classes (wv z ad E M0) H := hP
    have hD : va_D A (wv z ad E M0) := hD
    refine W.eq (g2 := F0 m 20 ls [.int r0]) rfl ?_
    refine lv_if_eq (tgt := 26) hx hb d_3_5_20 (by decide) (fun c9 => ?_) (fun c9 => ?_)
    · have h := ite_t c9 h
      refine lv_iinc (v := (x3 + 1)) (lv' := [(3, .int (x3 + 1)), (0, .ref (ad 243)), (1, .int x1), (2, .int x2)]) hx hb d_3_5_26 hl (k := 3) rfl (congrArg (fun q => x3 + q) (show Int32.ofInt 1 = 1 by decide +kernel)) (by decide) rfl (fun ls hl => ?_)
      refine lv_goto (tgt := 4) hx hb d_3_5_29 (by decide) ?_
      obtain ⟨rfl, rfl, rfl, rfl⟩ := in4 h
      exact k0 rfl H locs ls hP hD hS (lv_sub hl [1, 2, 3, 0] rfl)
    · have h := ite_f c9 h
      refine lv_iinc (v := (x2 + 1)) (lv' := [(2, .int (x2 + 1)), (0, .ref (ad 243)), (1, .int x1), (3, .int x3)]) hx hb d_3_5_23 hl (k := 2) rfl (congrArg (fun q => x2 + q) (show Int32.ofInt 1 = 1 by decide +kernel)) (by decide) rfl (fun ls hl => ?_)
      refine lv_iinc (v := (x3 + 1)) (lv' := [(3, .int (x3 + 1)), (2, .int (x2 + 1)), (0, .ref (ad 243)), (1, .int x1)]) hx hb d_3_5_26 hl (k := 3) rfl (congrArg (fun q => x3 + q) (show Int32.ofInt 1 = 1 by decide +kernel)) (by decide) rfl (fun ls hl => ?_)
      refine lv_goto (tgt := 4) hx hb d_3_5_29 (by decide) ?_
      obtain ⟨rfl, rfl, rfl, rfl⟩ := in4 h
      exact k0 rfl H locs ls hP hD hS (lv_sub hl [2, 3, 1, 0] rfl)
set_option maxRecDepth 100000 in
set_option maxHeartbeats 4000000 in
theorem s_Cl_setsSwungBy_4 (l : Launch) (z : Zz) (ad : Nat → Nat) (E : Ev) (x1 : Int32) {Q : State → Prop} {p : Program} {e : Env} {s : State} {m : MethodId} {below : List Frame} {meth : Method} {c : Code} {A : Nat → Prop} {args : Array Value} (hx : p.tables.exec = Jvm.exec) (hb : c.code = prog_3_method_5_code) (hml : c.maxLocals = 4) (hts : ∀ w ∈ WG, w.before args s = true) (hown : s.vm.findClass "Ballothall$Council" = some m.cls) (hlocks : meth.locks = false) (hA : ∀ q, s.heap.size ≤ q → A q) (hG : KG z s) (hZ : FZ z A s) (hL : Lay E) : ∀ (fu : Nat) (M : Mm) (x2 : Int32) (x3 : Int32) (t : Nat) (w2 : Int32) (w3 : Int32) (N : Mm), l_Cl_setsSwungBy_4 E x1 fu M x2 x3 = some (t, w2, w3, N) → (t = 1 → ∀ (H : Heap) (locs : List Loc) (ls : Array Slot), va_P z.1 classes (wv z ad E N) H → va_D A (wv z ad E N) → va_S A s.heap H locs → lv_has ls 4 [(2, .int w2)] → W p l e (rmK 2 63 0 0) s m args below meth c H locs 0 0 Q (F0 m 32 ls [])) → ∀ (H : Heap) (locs : List Loc) (ls : Array Slot), va_P z.1 classes (wv z ad E M) H → va_D A (wv z ad E M) → va_S A s.heap H locs → lv_has ls 4 [(0, .ref (ad 243)), (1, .int x1), (2, .int x2), (3, .int x3)] → W p l e (rmK 2 63 0 0) s m args below meth c H locs 0 0 Q (F0 m 4 ls []) := by
  intro fu
  induction fu with
  | zero =>
    intro M x2 x3 t w2 w3 N h
    have h : (none : Option (Nat × Int32 × Int32 × Mm)) = some _ := h
    cases h
  | succ fu ih =>
    intro M x2 x3 t w2 w3 N h k1 H locs ls hP hD hS hl
    obtain ⟨⟨t0, w20, w30, N0⟩, g0, h⟩ := bd_e h
    refine b_Cl_setsSwungBy_4b l z ad E M x1 x2 x3 t0 w20 w30 N0 hx hb hml hts hown hlocks hA hG hZ hL g0 (fun e0 => ?_) (fun e0 => ?_) H locs ls hP hD hS hl
    · subst e0
      have h := ite_t rfl h
      exact ih N0 w20 w30 t w2 w3 N h k1
    · subst e0
      have h := ite_f (by decide) h
      obtain ⟨rfl, rfl, rfl, rfl⟩ := in4 h
      exact k1 rfl
set_option maxRecDepth 100000 in
set_option maxHeartbeats 4000000 in
theorem s_Cl_setsSwungBy (l : Launch) (z : Zz) (ad : Nat → Nat) (E : Ev) (M : Mm) (x1 : Int32) (r : Int32) (N : Mm) (hL : Lay E) (h : f_Cl_setsSwungBy E M x1 = some (r, N)) : CT l z ⟨"Ballothall$Council", "setsSwungBy", "(I)I"⟩ prog_3_method_5_code 4 (some .int) [.ref (ad 243), .int x1] (wv z ad E M) 2 63 0 0 (fun _ => some (.int r)) (fun _ => wv z ad E N) := by
  refine CT.of (own := "Ballothall$Council") (by decide +kernel) (Nat.le_of_ble_eq_true rfl) rfl (fun p e s m below meth c A ls hx hb hml hr hts hown hlocks hin hA hG hZ hP hD hS hl => ?_)
  have hl : lv_has ls 4 [(0, .ref (ad 243)), (1, .int x1)] := hl
  have key : ∀ (H : Heap) (locs : List Loc) (args : Array Value), (∀ w ∈ WG, w.before args s = true) → va_P z.1 classes (wv z ad E M) H → va_S A s.heap H locs → W p l e (rmK 2 63 0 0) s m args below meth c H locs 0 0 (MQ below (QK z A (fun _ => some (.int r)) (fun _ => wv z ad E N)) args s 0 0 A) (F0 m 0 ls []) := by
    intro H locs args hts hP hS
    unfold f_Cl_setsSwungBy at h
    refine lv_iconst (v := 0) hx hb d_3_5_0 (by decide +kernel) ?_
    refine lv_istore_n (lv' := [(2, .int 0), (0, .ref (ad 243)), (1, .int x1)]) hx hb d_3_5_1 rfl hl (by decide) rfl (fun ls hl => ?_)
    refine lv_iconst (v := 0) hx hb d_3_5_2 (by decide +kernel) ?_
    refine lv_istore_n (lv' := [(3, .int 0), (2, .int 0), (0, .ref (ad 243)), (1, .int x1)]) hx hb d_3_5_3 rfl hl (by decide) rfl (fun ls hl => ?_)
    obtain ⟨⟨t1, v1_2, v1_3, M1⟩, g1, h⟩ := bd_e h
    obtain ⟨ok1, h⟩ := ck_e h
    refine s_Cl_setsSwungBy_4 l z ad E x1 hx hb hml hts hown hlocks hA hG hZ hL FU M 0 0 t1 v1_2 v1_3 M1 g1 (fun e1 H locs ls hP hD hS hl => ?_) H locs ls hP hD hS (lv_sub hl [2, 3, 1, 0] rfl)
    refine lv_iload_n hx hb d_3_5_32 rfl (lv_at hl 0 rfl) ?_
    obtain ⟨rfl, rfl⟩ := in2 h
    exact W.iret hx hb hr (fun t ht hW => qkA hP hD hS (fun k => k) rfl rfl ht) hS.2.2 d_3_5_33
  exact key _ _ _ hts hP hS
set_option maxRecDepth 100000 in
set_option maxHeartbeats 4000000 in
theorem s_B_swings (l : Launch) (z : Zz) (ad : Nat → Nat) (E : Ev) (M : Mm) (x1 : Int32) (r : Int32) (N : Mm) (hL : Lay E) (h : f_B_swings E M x1 = some (r, N)) : CT l z ⟨"Ballothall", "swings", "(I)I"⟩ prog_1_method_48_code 2 (some .int) [.ref (ad 1), .int x1] (wv z ad E M) 3 86 0 0 (fun _ => some (.int r)) (fun _ => wv z ad E N) := by
  refine CT.of (own := "Ballothall") (by decide +kernel) (Nat.le_of_ble_eq_true rfl) rfl (fun p e s m below meth c A ls hx hb hml hr hts hown hlocks hin hA hG hZ hP hD hS hl => ?_)
  have hl : lv_has ls 2 [(0, .ref (ad 1)), (1, .int x1)] := hl
  have key : ∀ (H : Heap) (locs : List Loc) (args : Array Value), (∀ w ∈ WG, w.before args s = true) → va_P z.1 classes (wv z ad E M) H → va_S A s.heap H locs → W p l e (rmK 3 86 0 0) s m args below meth c H locs 0 0 (MQ below (QK z A (fun _ => some (.int r)) (fun _ => wv z ad E N)) args s 0 0 A) (F0 m 0 ls []) := by
    intro H locs args hts hP hS
    unfold f_B_swings at h
    refine lv_iload_n hx hb d_1_48_0 rfl (lv_at hl 1 rfl) ?_
    refine lv_aload_n hx hb d_1_48_1 rfl (lv_at hl 0 rfl) ?_
    refine m_gr (j := 243) (C := "Ballothall") (T := TX11) (N := 14) (ci := 11) (k := 6) hx hb hts iX11 hown hG hP (yi_1 hL) (yt_1 hL) rfl (by decide) w_403 (fun _ h9 => h9) rfl rfl (yr_1_6 hL) d_1_48_2 ?_
    refine m_giN (C := "Ballothall$Council") (T := TX1) (N := 4) (ci := 1) (k := 0) hx hb hts iX1 hown hG hP (yi_243 hL) (yt_243 hL) rfl (by decide) n_383 rfl (fun _ h9 => h9) rfl rfl d_1_48_5 ?_
    obtain ⟨M0, g0, h⟩ := bd_e h
    refine kS (As := [.int x1, .int (M.1 243 0)]) (rest := []) (s_B_needIndex l z ad E M x1 (M.1 243 0) M0 hL g0) hx hb hml hown hts w_529 w_527 w_528 w_1 md_6cb26b ⟨Nat.le_of_ble_eq_true rfl, Nat.le_of_ble_eq_true rfl⟩ hG hZ hP hD hS hA rfl hl.1 rfl (Nat.le_of_ble_eq_true rfl) d_1_48_8 ⟨Nat.le_of_ble_eq_true rfl, Nat.le_of_ble_eq_true rfl⟩ (fun _ H locs hP hD hS => ?_)
    have hP : va_P z.1 classes (wv z ad E M0) H := hP
    have hD : va_D A (wv z ad E M0) := hD
    refine W.eq (g2 := F0 m 11 ls []) rfl ?_
    refine lv_aload_n hx hb d_1_48_11 rfl (lv_at hl 0 rfl) ?_
    refine m_gr (j := 243) (C := "Ballothall") (T := TX11) (N := 14) (ci := 11) (k := 6) hx hb hts iX11 hown hG hP (yi_1 hL) (yt_1 hL) rfl (by decide) w_403 (fun _ h9 => h9) rfl rfl (yr_1_6 hL) d_1_48_12 ?_
    obtain ⟨M1, g1, h⟩ := bd_e h
    refine kVN (As := []) (rest := []) (s_Cl_findSums l z ad E M0 M1 hL g1) hx hb hml hown hts w_754 n_1672 w_753 w_s_13b3b8 w_11 md_bc486d ⟨Nat.le_of_ble_eq_true rfl, Nat.le_of_ble_eq_true rfl⟩ hG hZ hP hD hS hA 243 (wv_o (ci := 1) (yi_243 hL) (yt_243 hL)) rfl rfl rfl hl.1 rfl (Nat.le_of_ble_eq_true rfl) d_1_48_15 ⟨Nat.le_of_ble_eq_true rfl, Nat.le_of_ble_eq_true rfl⟩ (fun _ H locs hP hD hS => ?_)
    have hP : va_P z.1 classes (wv z ad E M1) H := hP
    have hD : va_D A (wv z ad E M1) := hD
    refine W.eq (g2 := F0 m 18 ls []) rfl ?_
    refine lv_aload_n hx hb d_1_48_18 rfl (lv_at hl 0 rfl) ?_
    refine m_gr (j := 243) (C := "Ballothall") (T := TX11) (N := 14) (ci := 11) (k := 6) hx hb hts iX11 hown hG hP (yi_1 hL) (yt_1 hL) rfl (by decide) w_403 (fun _ h9 => h9) rfl rfl (yr_1_6 hL) d_1_48_19 ?_
    refine lv_iload_n hx hb d_1_48_22 rfl (lv_at hl 1 rfl) ?_
    obtain ⟨⟨r2, M2⟩, g2, h⟩ := bd_e h
    refine kVN (As := [.int x1]) (rest := []) (s_Cl_setsSwungBy l z ad E M1 x1 r2 M2 hL g2) hx hb hml hown hts w_1681 n_1678 w_1680 w_s_cd90bd w_11 md_4de701 ⟨Nat.le_of_ble_eq_true rfl, Nat.le_of_ble_eq_true rfl⟩ hG hZ hP hD hS hA 243 (wv_o (ci := 1) (yi_243 hL) (yt_243 hL)) rfl rfl rfl hl.1 rfl (Nat.le_of_ble_eq_true rfl) d_1_48_23 ⟨Nat.le_of_ble_eq_true rfl, Nat.le_of_ble_eq_true rfl⟩ (fun _ H locs hP hD hS => ?_)
    have hP : va_P z.1 classes (wv z ad E M2) H := hP
    have hD : va_D A (wv z ad E M2) := hD
    refine W.eq (g2 := F0 m 26 ls [.int r2]) rfl ?_
    obtain ⟨rfl, rfl⟩ := in2 h
    exact W.iret hx hb hr (fun t ht hW => qkA hP hD hS (fun k => k) rfl rfl ht) hS.2.2 d_1_48_26
  exact key _ _ _ hts hP hS
set_option maxRecDepth 100000 in
set_option maxHeartbeats 4000000 in
theorem s_B_takeBack (l : Launch) (z : Zz) (ad : Nat → Nat) (E : Ev) (M : Mm) (x1 : Int32) (x2 : Int32) (r : Int32) (N : Mm) (hL : Lay E) (h : f_B_takeBack E M x1 x2 = some (r, N)) : CT l z ⟨"Ballothall", "takeBack", "(II)I"⟩ prog_1_method_6_code 3 (some .int) [.ref (ad 1), .int x1, .int x2] (wv z ad E M) 2 63 0 0 (fun _ => some (.int r)) (fun _ => wv z ad E N) := by
  refine CT.of (own := "Ballothall") (by decide +kernel) (Nat.le_of_ble_eq_true rfl) rfl (fun p e s m below meth c A ls hx hb hml hr hts hown hlocks hin hA hG hZ hP hD hS hl => ?_)
  have hl : lv_has ls 3 [(0, .ref (ad 1)), (1, .int x1), (2, .int x2)] := hl
  have key : ∀ (H : Heap) (locs : List Loc) (args : Array Value), (∀ w ∈ WG, w.before args s = true) → va_P z.1 classes (wv z ad E M) H → va_S A s.heap H locs → W p l e (rmK 2 63 0 0) s m args below meth c H locs 0 0 (MQ below (QK z A (fun _ => some (.int r)) (fun _ => wv z ad E N)) args s 0 0 A) (F0 m 0 ls []) := by
    intro H locs args hts hP hS
    unfold f_B_takeBack at h
    refine lv_iload_n hx hb d_1_6_0 rfl (lv_at hl 1 rfl) ?_
    refine lv_aload_n hx hb d_1_6_1 rfl (lv_at hl 0 rfl) ?_
    refine m_gr (j := 2) (C := "Ballothall") (T := TX11) (N := 14) (ci := 11) (k := 0) hx hb hts iX11 hown hG hP (yi_1 hL) (yt_1 hL) rfl (by decide) w_397 (fun _ h9 => h9) rfl rfl (yr_1_0 hL) d_1_6_2 ?_
    refine m_giN (C := "Ballothall$BallotBox") (T := TX0) (N := 10) (ci := 0) (k := 3) hx hb hts iX0 hown hG hP (yi_2 hL) (yt_2 hL) rfl (by decide) n_58 rfl (fun _ h9 => h9) rfl rfl d_1_6_5 ?_
    obtain ⟨M0, g0, h⟩ := bd_e h
    refine kS (As := [.int x1, .int (M.1 2 3)]) (rest := []) (s_B_needIndex l z ad E M x1 (M.1 2 3) M0 hL g0) hx hb hml hown hts w_529 w_527 w_528 w_1 md_6cb26b ⟨Nat.le_of_ble_eq_true rfl, Nat.le_of_ble_eq_true rfl⟩ hG hZ hP hD hS hA rfl hl.1 rfl (Nat.le_of_ble_eq_true rfl) d_1_6_8 ⟨Nat.le_of_ble_eq_true rfl, Nat.le_of_ble_eq_true rfl⟩ (fun _ H locs hP hD hS => ?_)
    have hP : va_P z.1 classes (wv z ad E M0) H := hP
    have hD : va_D A (wv z ad E M0) := hD
    refine W.eq (g2 := F0 m 11 ls []) rfl ?_
    refine lv_iload_n hx hb d_1_6_11 rfl (lv_at hl 2 rfl) ?_
    refine lv_iconst (v := 1) hx hb d_1_6_12 (by decide +kernel) ?_
    refine lv_aload_n hx hb d_1_6_13 rfl (lv_at hl 0 rfl) ?_
    refine m_gr (j := 2) (C := "Ballothall") (T := TX11) (N := 14) (ci := 11) (k := 0) hx hb hts iX11 hown hG hP (yi_1 hL) (yt_1 hL) rfl (by decide) w_397 (fun _ h9 => h9) rfl rfl (yr_1_0 hL) d_1_6_14 ?_
    refine m_grN (j := 5) (C := "Ballothall$BallotBox") (T := TX0) (N := 10) (ci := 0) (k := 5) hx hb hts iX0 hown hG hP (yi_2 hL) (yt_2 hL) rfl (by decide) n_66 rfl (fun _ h9 => h9) rfl rfl (yr_2_5 hL) d_1_6_17 ?_
    refine lv_iload_n hx hb d_1_6_20 rfl (lv_at hl 1 rfl) ?_
    obtain ⟨ok1, h⟩ := ck_e h
    refine m_ia hx hb hG hP (yi_5 hL) (yt_5 hL) ok1 d_1_6_21 ?_
    obtain ⟨M2, g2, h⟩ := bd_e h
    refine kS (As := [.int x2, .int 1, .int (M0.1 5 x1.toNatClampNeg)]) (rest := []) (s_B_needRange l z ad E M0 x2 1 (M0.1 5 x1.toNatClampNeg) M2 hL g2) hx hb hml hown hts w_548 w_546 w_547 w_1 md_519134 ⟨Nat.le_of_ble_eq_true rfl, Nat.le_of_ble_eq_true rfl⟩ hG hZ hP hD hS hA rfl hl.1 rfl (Nat.le_of_ble_eq_true rfl) d_1_6_22 ⟨Nat.le_of_ble_eq_true rfl, Nat.le_of_ble_eq_true rfl⟩ (fun _ H locs hP hD hS => ?_)
    have hP : va_P z.1 classes (wv z ad E M2) H := hP
    have hD : va_D A (wv z ad E M2) := hD
    refine W.eq (g2 := F0 m 25 ls []) rfl ?_
    refine lv_aload_n hx hb d_1_6_25 rfl (lv_at hl 0 rfl) ?_
    refine lv_iconst (v := 4) hx hb d_1_6_26 (by decide +kernel) ?_
    refine lv_iload_n hx hb d_1_6_27 rfl (lv_at hl 1 rfl) ?_
    refine lv_aload_n hx hb d_1_6_28 rfl (lv_at hl 0 rfl) ?_
    refine m_gr (j := 2) (C := "Ballothall") (T := TX11) (N := 14) (ci := 11) (k := 0) hx hb hts iX11 hown hG hP (yi_1 hL) (yt_1 hL) rfl (by decide) w_397 (fun _ h9 => h9) rfl rfl (yr_1_0 hL) d_1_6_29 ?_
    refine m_grN (j := 5) (C := "Ballothall$BallotBox") (T := TX0) (N := 10) (ci := 0) (k := 5) hx hb hts iX0 hown hG hP (yi_2 hL) (yt_2 hL) rfl (by decide) n_66 rfl (fun _ h9 => h9) rfl rfl (yr_2_5 hL) d_1_6_32 ?_
    refine lv_iload_n hx hb d_1_6_35 rfl (lv_at hl 1 rfl) ?_
    obtain ⟨ok3, h⟩ := ck_e h
    refine m_ia hx hb hG hP (yi_5 hL) (yt_5 hL) ok3 d_1_6_36 ?_
    obtain ⟨M4, g4, h⟩ := bd_e h
    refine kV (As := [.int 4, .int x1, .int (M2.1 5 x1.toNatClampNeg)]) (rest := []) (s_B_remember l z ad E M2 4 x1 (M2.1 5 x1.toNatClampNeg) M4 hL g4) hx hb hml hown hts w_519 w_516 w_518 w_s_b872b3 w_1 md_7af0bb ⟨Nat.le_of_ble_eq_true rfl, Nat.le_of_ble_eq_true rfl⟩ hG hZ hP hD hS hA 1 (wv_o (ci := 11) (yi_1 hL) (yt_1 hL)) rfl rfl rfl hl.1 rfl (Nat.le_of_ble_eq_true rfl) d_1_6_37 ⟨Nat.le_of_ble_eq_true rfl, Nat.le_of_ble_eq_true rfl⟩ (fun _ H locs hP hD hS => ?_)
    have hP : va_P z.1 classes (wv z ad E M4) H := hP
    have hD : va_D A (wv z ad E M4) := hD
    refine W.eq (g2 := F0 m 40 ls []) rfl ?_
    refine lv_aload_n hx hb d_1_6_40 rfl (lv_at hl 0 rfl) ?_
    refine m_gr (j := 2) (C := "Ballothall") (T := TX11) (N := 14) (ci := 11) (k := 0) hx hb hts iX11 hown hG hP (yi_1 hL) (yt_1 hL) rfl (by decide) w_397 (fun _ h9 => h9) rfl rfl (yr_1_0 hL) d_1_6_41 ?_
    refine m_grN (j := 5) (C := "Ballothall$BallotBox") (T := TX0) (N := 10) (ci := 0) (k := 5) hx hb hts iX0 hown hG hP (yi_2 hL) (yt_2 hL) rfl (by decide) n_66 rfl (fun _ h9 => h9) rfl rfl (yr_2_5 hL) d_1_6_44 ?_
    refine lv_iload_n hx hb d_1_6_47 rfl (lv_at hl 1 rfl) ?_
    refine lv_dup2_11 hx hb d_1_6_48 rfl rfl ?_
    obtain ⟨ok5, h⟩ := ck_e h
    refine m_ia hx hb hG hP (yi_5 hL) (yt_5 hL) ok5 d_1_6_49 ?_
    refine lv_iload_n hx hb d_1_6_50 rfl (lv_at hl 2 rfl) ?_
    refine lv_isub hx hb d_1_6_51 ?_
    obtain ⟨v6, e6, h⟩ := nb_e h
    refine nrm e6.symm ?_
    obtain ⟨ok7, h⟩ := ck_e h
    refine m_is hx hb hG hP hD hS (yi_5 hL) (yt_5 hL) ok7 d_1_6_52 (fun H locs hP hD hS => ?_)
    have hP : va_P z.1 classes (wv z ad E (u2 M4 5 x1.toNatClampNeg v6)) H := hP
    have hD : va_D A (wv z ad E (u2 M4 5 x1.toNatClampNeg v6)) := hD
    refine lv_aload_n hx hb d_1_6_53 rfl (lv_at hl 0 rfl) ?_
    refine m_gr (j := 2) (C := "Ballothall") (T := TX11) (N := 14) (ci := 11) (k := 0) hx hb hts iX11 hown hG hP (yi_1 hL) (yt_1 hL) rfl (by decide) w_397 (fun _ h9 => h9) rfl rfl (yr_1_0 hL) d_1_6_54 ?_
    refine m_grN (j := 5) (C := "Ballothall$BallotBox") (T := TX0) (N := 10) (ci := 0) (k := 5) hx hb hts iX0 hown hG hP (yi_2 hL) (yt_2 hL) rfl (by decide) n_66 rfl (fun _ h9 => h9) rfl rfl (yr_2_5 hL) d_1_6_57 ?_
    refine lv_iload_n hx hb d_1_6_60 rfl (lv_at hl 1 rfl) ?_
    obtain ⟨ok8, h⟩ := ck_e h
    refine m_ia hx hb hG hP (yi_5 hL) (yt_5 hL) ok8 d_1_6_61 ?_
    obtain ⟨rfl, rfl⟩ := in2 h
    exact W.iret hx hb hr (fun t ht hW => qkA hP hD hS (fun k => k) rfl rfl ht) hS.2.2 d_1_6_62
  exact key _ _ _ hts hP hS
set_option maxRecDepth 100000 in
set_option maxHeartbeats 4000000 in
theorem s_Co_goBack (l : Launch) (z : Zz) (ad : Nat → Nat) (E : Ev) (M : Mm) (N : Mm) (hL : Lay E) (h : f_Co_goBack E M = some N) : CT l z ⟨"Ballothall$Counting", "goBack", "()V"⟩ prog_5_method_3_code 1 none [.ref (ad 179)] (wv z ad E M) 0 20 0 0 (fun _ => none) (fun _ => wv z ad E N) := by
  refine CT.of (own := "Ballothall$Counting") (by decide +kernel) (Nat.le_of_ble_eq_true rfl) rfl (fun p e s m below meth c A ls hx hb hml hr hts hown hlocks hin hA hG hZ hP hD hS hl => ?_)
  have hl : lv_has ls 1 [(0, .ref (ad 179))] := hl
  have key : ∀ (H : Heap) (locs : List Loc) (args : Array Value), (∀ w ∈ WG, w.before args s = true) → va_P z.1 classes (wv z ad E M) H → va_S A s.heap H locs → W p l e (rmK 0 20 0 0) s m args below meth c H locs 0 0 (MQ below (QK z A (fun _ => none) (fun _ => wv z ad E N)) args s 0 0 A) (F0 m 0 ls []) := by
    intro H locs args hts hP hS
    unfold f_Co_goBack at h
    refine lv_aload_n hx hb d_5_3_0 rfl (lv_at hl 0 rfl) ?_
    refine lv_aload_n hx hb d_5_3_1 rfl (lv_at hl 0 rfl) ?_
    refine m_gi (C := "Ballothall$Counting") (T := TX3) (N := 15) (ci := 3) (k := 2) hx hb hts iX3 hown hG hP (yi_179 hL) (yt_179 hL) rfl (by decide) w_305 (fun _ h9 => h9) rfl rfl d_5_3_2 ?_
    refine lv_bipush (v := 21) hx hb d_5_3_5 (by decide +kernel) ?_
    refine lv_iadd hx hb d_5_3_7 ?_
    refine lv_iconst (v := 1) hx hb d_5_3_8 (by decide +kernel) ?_
    refine lv_isub hx hb d_5_3_9 ?_
    refine lv_bipush (v := 21) hx hb d_5_3_10 (by decide +kernel) ?_
    refine lv_irem hx hb d_5_3_12 (by decide +kernel) ?_
    refine nrm (x1 := (rmI (((M.1 179 2) + (21 : Int32)) - (1 : Int32)) (21 : Int32))) rfl ?_
    refine m_pi (C := "Ballothall$Counting") (T := TX3) (N := 15) (ci := 3) (k := 2) (ty := .int) hx hb hts iX3 hown hG hP hD hS (yi_179 hL) (yt_179 hL) rfl (by decide) w_305 (fun _ h9 => h9) rfl rfl tyX3_ok nmX3 rfl (by decide +kernel) rfl rfl d_5_3_13 (fun H locs hP hD hS => ?_)
    have hP : va_P z.1 classes (wv z ad E (u2 M 179 2 (rmI (((M.1 179 2) + (21 : Int32)) - (1 : Int32)) (21 : Int32)))) H := hP
    have hD : va_D A (wv z ad E (u2 M 179 2 (rmI (((M.1 179 2) + (21 : Int32)) - (1 : Int32)) (21 : Int32)))) := hD
    obtain rfl := in1 h
    exact W.vret hx hb hr (fun t ht hW => qkA hP hD hS (fun k => k) rfl rfl ht) hS.2.2 d_5_3_16
  exact key _ _ _ hts hP hS
set_option maxRecDepth 100000 in
set_option maxHeartbeats 4000000 in
theorem s_Li_takeChangeBack (l : Launch) (z : Zz) (ad : Nat → Nat) (E : Ev) (M : Mm) (x1 : Int32) (x2 : Int32) (x3 : Int32) (N : Mm) (hL : Lay E) (h : f_Li_takeChangeBack E M x1 x2 x3 = some N) : CT l z ⟨"Ballothall$Lists", "takeChangeBack", "(III)V"⟩ prog_9_method_11_code 4 none [.ref (ad 53), .int x1, .int x2, .int x3] (wv z ad E M) 0 20 0 0 (fun _ => none) (fun _ => wv z ad E N) := by
  refine CT.of (own := "Ballothall$Lists") (by decide +kernel) (Nat.le_of_ble_eq_true rfl) rfl (fun p e s m below meth c A ls hx hb hml hr hts hown hlocks hin hA hG hZ hP hD hS hl => ?_)
  have hl : lv_has ls 4 [(0, .ref (ad 53)), (1, .int x1), (2, .int x2), (3, .int x3)] := hl
  have key : ∀ (H : Heap) (locs : List Loc) (args : Array Value), (∀ w ∈ WG, w.before args s = true) → va_P z.1 classes (wv z ad E M) H → va_S A s.heap H locs → W p l e (rmK 0 20 0 0) s m args below meth c H locs 0 0 (MQ below (QK z A (fun _ => none) (fun _ => wv z ad E N)) args s 0 0 A) (F0 m 0 ls []) := by
    intro H locs args hts hP hS
    unfold f_Li_takeChangeBack at h
    refine lv_iload_n hx hb d_9_11_0 rfl (lv_at hl 1 rfl) ?_
    by_cases s0_2 : x1 = 2
    · have h := ite_t s0_2 h
      refine nrm s0_2 ?_
      refine lv_tableIn (off := 51) (tgt := 52) hx hb d_9_11_1 (by decide +kernel) (by decide +kernel) rfl (by decide) ?_
      refine lv_aload_n hx hb d_9_11_52 rfl (lv_at hl 0 rfl) ?_
      refine m_gr (j := 56) (C := "Ballothall$Lists") (T := TX7) (N := 11) (ci := 7) (k := 3) hx hb hts iX7 hown hG hP (yi_53 hL) (yt_53 hL) rfl (by decide) w_247 (fun _ h9 => h9) rfl rfl (yr_53_3 hL) d_9_11_53 ?_
      refine lv_iload_n hx hb d_9_11_56 rfl (lv_at hl 2 rfl) ?_
      refine lv_iload_n hx hb d_9_11_57 rfl (lv_at hl 3 rfl) ?_
      obtain ⟨ok1, h⟩ := ck_e h
      refine m_is hx hb hG hP hD hS (yi_56 hL) (yt_56 hL) ok1 d_9_11_58 (fun H locs hP hD hS => ?_)
      have hP : va_P z.1 classes (wv z ad E (u2 M 56 x2.toNatClampNeg x3)) H := hP
      have hD : va_D A (wv z ad E (u2 M 56 x2.toNatClampNeg x3)) := hD
      refine lv_goto (tgt := 101) hx hb d_9_11_59 (by decide) ?_
      obtain rfl := in1 h
      exact W.vret hx hb hr (fun t ht hW => qkA hP hD hS (fun k => k) rfl rfl ht) hS.2.2 d_9_11_101
    have h := ite_f s0_2 h
    by_cases s0_3 : x1 = 3
    · have h := ite_t s0_3 h
      refine nrm s0_3 ?_
      refine lv_tableIn (off := 100) (tgt := 101) hx hb d_9_11_1 (by decide +kernel) (by decide +kernel) rfl (by decide) ?_
      obtain rfl := in1 h
      exact W.vret hx hb hr (fun t ht hW => qkA hP hD hS (fun k => k) rfl rfl ht) hS.2.2 d_9_11_101
    have h := ite_f s0_3 h
    by_cases s0_4 : x1 = 4
    · have h := ite_t s0_4 h
      refine nrm s0_4 ?_
      refine lv_tableIn (off := 100) (tgt := 101) hx hb d_9_11_1 (by decide +kernel) (by decide +kernel) rfl (by decide) ?_
      obtain rfl := in1 h
      exact W.vret hx hb hr (fun t ht hW => qkA hP hD hS (fun k => k) rfl rfl ht) hS.2.2 d_9_11_101
    have h := ite_f s0_4 h
    by_cases s0_5 : x1 = 5
    · have h := ite_t s0_5 h
      refine nrm s0_5 ?_
      refine lv_tableIn (off := 43) (tgt := 44) hx hb d_9_11_1 (by decide +kernel) (by decide +kernel) rfl (by decide) ?_
      refine lv_aload_n hx hb d_9_11_44 rfl (lv_at hl 0 rfl) ?_
      refine lv_iload_n hx hb d_9_11_45 rfl (lv_at hl 2 rfl) ?_
      refine m_pi (C := "Ballothall$Lists") (T := TX7) (N := 11) (ci := 7) (k := 0) (ty := .int) hx hb hts iX7 hown hG hP hD hS (yi_53 hL) (yt_53 hL) rfl (by decide) w_242 (fun _ h9 => h9) rfl rfl tyX7_ok nmX7 rfl (by decide +kernel) rfl rfl d_9_11_46 (fun H locs hP hD hS => ?_)
      have hP : va_P z.1 classes (wv z ad E (u2 M 53 0 x2)) H := hP
      have hD : va_D A (wv z ad E (u2 M 53 0 x2)) := hD
      refine lv_goto (tgt := 101) hx hb d_9_11_49 (by decide) ?_
      obtain rfl := in1 h
      exact W.vret hx hb hr (fun t ht hW => qkA hP hD hS (fun k => k) rfl rfl ht) hS.2.2 d_9_11_101
    have h := ite_f s0_5 h
    by_cases s0_6 : x1 = 6
    · have h := ite_t s0_6 h
      refine nrm s0_6 ?_
      refine lv_tableIn (off := 61) (tgt := 62) hx hb d_9_11_1 (by decide +kernel) (by decide +kernel) rfl (by decide) ?_
      refine lv_aload_n hx hb d_9_11_62 rfl (lv_at hl 0 rfl) ?_
      refine m_gr (j := 54) (C := "Ballothall$Lists") (T := TX7) (N := 11) (ci := 7) (k := 1) hx hb hts iX7 hown hG hP (yi_53 hL) (yt_53 hL) rfl (by decide) w_244 (fun _ h9 => h9) rfl rfl (yr_53_1 hL) d_9_11_63 ?_
      refine lv_iload_n hx hb d_9_11_66 rfl (lv_at hl 2 rfl) ?_
      refine lv_iload_n hx hb d_9_11_67 rfl (lv_at hl 3 rfl) ?_
      obtain ⟨ok2, h⟩ := ck_e h
      refine m_is hx hb hG hP hD hS (yi_54 hL) (yt_54 hL) ok2 d_9_11_68 (fun H locs hP hD hS => ?_)
      have hP : va_P z.1 classes (wv z ad E (u2 M 54 x2.toNatClampNeg x3)) H := hP
      have hD : va_D A (wv z ad E (u2 M 54 x2.toNatClampNeg x3)) := hD
      refine lv_goto (tgt := 101) hx hb d_9_11_69 (by decide) ?_
      obtain rfl := in1 h
      exact W.vret hx hb hr (fun t ht hW => qkA hP hD hS (fun k => k) rfl rfl ht) hS.2.2 d_9_11_101
    have h := ite_f s0_6 h
    by_cases s0_7 : x1 = 7
    · have h := ite_t s0_7 h
      refine nrm s0_7 ?_
      refine lv_tableIn (off := 71) (tgt := 72) hx hb d_9_11_1 (by decide +kernel) (by decide +kernel) rfl (by decide) ?_
      refine lv_aload_n hx hb d_9_11_72 rfl (lv_at hl 0 rfl) ?_
      refine m_gr (j := 55) (C := "Ballothall$Lists") (T := TX7) (N := 11) (ci := 7) (k := 2) hx hb hts iX7 hown hG hP (yi_53 hL) (yt_53 hL) rfl (by decide) w_245 (fun _ h9 => h9) rfl rfl (yr_53_2 hL) d_9_11_73 ?_
      refine lv_iload_n hx hb d_9_11_76 rfl (lv_at hl 2 rfl) ?_
      refine lv_iload_n hx hb d_9_11_77 rfl (lv_at hl 3 rfl) ?_
      obtain ⟨ok3, h⟩ := ck_e h
      refine m_is hx hb hG hP hD hS (yi_55 hL) (yt_55 hL) ok3 d_9_11_78 (fun H locs hP hD hS => ?_)
      have hP : va_P z.1 classes (wv z ad E (u2 M 55 x2.toNatClampNeg x3)) H := hP
      have hD : va_D A (wv z ad E (u2 M 55 x2.toNatClampNeg x3)) := hD
      refine lv_goto (tgt := 101) hx hb d_9_11_79 (by decide) ?_
      obtain rfl := in1 h
      exact W.vret hx hb hr (fun t ht hW => qkA hP hD hS (fun k => k) rfl rfl ht) hS.2.2 d_9_11_101
    have h := ite_f s0_7 h
    by_cases s0_8 : x1 = 8
    · have h := ite_t s0_8 h
      refine nrm s0_8 ?_
      refine lv_tableIn (off := 81) (tgt := 82) hx hb d_9_11_1 (by decide +kernel) (by decide +kernel) rfl (by decide) ?_
      refine lv_aload_n hx hb d_9_11_82 rfl (lv_at hl 0 rfl) ?_
      refine lv_aload_n hx hb d_9_11_83 rfl (lv_at hl 0 rfl) ?_
      refine m_gi (C := "Ballothall$Lists") (T := TX7) (N := 11) (ci := 7) (k := 10) hx hb hts iX7 hown hG hP (yi_53 hL) (yt_53 hL) rfl (by decide) w_255 (fun _ h9 => h9) rfl rfl d_9_11_84 ?_
      refine lv_bipush (v := 21) hx hb d_9_11_87 (by decide +kernel) ?_
      refine lv_iadd hx hb d_9_11_89 ?_
      refine lv_iconst (v := 1) hx hb d_9_11_90 (by decide +kernel) ?_
      refine lv_isub hx hb d_9_11_91 ?_
      refine lv_bipush (v := 21) hx hb d_9_11_92 (by decide +kernel) ?_
      refine lv_irem hx hb d_9_11_94 (by decide +kernel) ?_
      refine nrm (x1 := (rmI (((M.1 53 10) + (21 : Int32)) - (1 : Int32)) (21 : Int32))) rfl ?_
      refine m_pi (C := "Ballothall$Lists") (T := TX7) (N := 11) (ci := 7) (k := 10) (ty := .int) hx hb hts iX7 hown hG hP hD hS (yi_53 hL) (yt_53 hL) rfl (by decide) w_255 (fun _ h9 => h9) rfl rfl tyX7_ok nmX7 rfl (by decide +kernel) rfl rfl d_9_11_95 (fun H locs hP hD hS => ?_)
      have hP : va_P z.1 classes (wv z ad E (u2 M 53 10 (rmI (((M.1 53 10) + (21 : Int32)) - (1 : Int32)) (21 : Int32)))) H := hP
      have hD : va_D A (wv z ad E (u2 M 53 10 (rmI (((M.1 53 10) + (21 : Int32)) - (1 : Int32)) (21 : Int32)))) := hD
      refine lv_goto (tgt := 101) hx hb d_9_11_98 (by decide) ?_
      obtain rfl := in1 h
      exact W.vret hx hb hr (fun t ht hW => qkA hP hD hS (fun k => k) rfl rfl ht) hS.2.2 d_9_11_101
    have h := ite_f s0_8 h
    refine lv_tableOut (tgt := 101) hx hb d_9_11_1 (by
        have h9 := tb0 (x := x1) (lo := 2) (n := 9) (by decide) (fun q q1 q2 => by
          rcases (show q = 2 ∨ q = 3 ∨ q = 4 ∨ q = 5 ∨ q = 6 ∨ q = 7 ∨ q = 8 by omega) with rfl | rfl | rfl | rfl | rfl | rfl | rfl
          · exact s0_2
          · exact s0_3
          · exact s0_4
          · exact s0_5
          · exact s0_6
          · exact s0_7
          · exact s0_8)
        omega) (by decide) ?_
    obtain rfl := in1 h
    exact W.vret hx hb hr (fun t ht hW => qkA hP hD hS (fun k => k) rfl rfl ht) hS.2.2 d_9_11_101
  exact key _ _ _ hts hP hS
set_option maxRecDepth 100000 in
set_option maxHeartbeats 4000000 in
theorem s_B_takeChangeBack (l : Launch) (z : Zz) (ad : Nat → Nat) (E : Ev) (M : Mm) (x1 : Int32) (x2 : Int32) (x3 : Int32) (N : Mm) (hL : Lay E) (h : f_B_takeChangeBack E M x1 x2 x3 = some N) : CT l z ⟨"Ballothall", "takeChangeBack", "(III)V"⟩ prog_1_method_62_code 4 none [.ref (ad 1), .int x1, .int x2, .int x3] (wv z ad E M) 1 43 0 0 (fun _ => none) (fun _ => wv z ad E N) := by
  refine CT.of (own := "Ballothall") (by decide +kernel) (Nat.le_of_ble_eq_true rfl) rfl (fun p e s m below meth c A ls hx hb hml hr hts hown hlocks hin hA hG hZ hP hD hS hl => ?_)
  have hl : lv_has ls 4 [(0, .ref (ad 1)), (1, .int x1), (2, .int x2), (3, .int x3)] := hl
  have key : ∀ (H : Heap) (locs : List Loc) (args : Array Value), (∀ w ∈ WG, w.before args s = true) → va_P z.1 classes (wv z ad E M) H → va_S A s.heap H locs → W p l e (rmK 1 43 0 0) s m args below meth c H locs 0 0 (MQ below (QK z A (fun _ => none) (fun _ => wv z ad E N)) args s 0 0 A) (F0 m 0 ls []) := by
    intro H locs args hts hP hS
    unfold f_B_takeChangeBack at h
    refine lv_iload_n hx hb d_1_62_0 rfl (lv_at hl 1 rfl) ?_
    by_cases s0_0 : x1 = 0
    · have h := ite_t s0_0 h
      refine nrm s0_0 ?_
      refine lv_tableIn (off := 67) (tgt := 68) hx hb d_1_62_1 (by decide +kernel) (by decide +kernel) rfl (by decide) ?_
      refine lv_aload_n hx hb d_1_62_68 rfl (lv_at hl 0 rfl) ?_
      refine m_gr (j := 2) (C := "Ballothall") (T := TX11) (N := 14) (ci := 11) (k := 0) hx hb hts iX11 hown hG hP (yi_1 hL) (yt_1 hL) rfl (by decide) w_397 (fun _ h9 => h9) rfl rfl (yr_1_0 hL) d_1_62_69 ?_
      refine lv_iload_n hx hb d_1_62_72 rfl (lv_at hl 2 rfl) ?_
      refine m_piN (C := "Ballothall$BallotBox") (T := TX0) (N := 10) (ci := 0) (k := 2) (ty := .int) hx hb hts iX0 hown hG hP hD hS (yi_2 hL) (yt_2 hL) rfl (by decide) n_52 rfl (fun _ h9 => h9) rfl rfl tyX0_ok nmX0 rfl (by decide +kernel) rfl rfl d_1_62_73 (fun H locs hP hD hS => ?_)
      have hP : va_P z.1 classes (wv z ad E (u2 M 2 2 x2)) H := hP
      have hD : va_D A (wv z ad E (u2 M 2 2 x2)) := hD
      refine lv_goto (tgt := 169) hx hb d_1_62_76 (by decide) ?_
      obtain rfl := in1 h
      exact W.vret hx hb hr (fun t ht hW => qkA hP hD hS (fun k => k) rfl rfl ht) hS.2.2 d_1_62_169
    have h := ite_f s0_0 h
    by_cases s0_1 : x1 = 1
    · have h := ite_t s0_1 h
      refine nrm s0_1 ?_
      refine lv_tableIn (off := 78) (tgt := 79) hx hb d_1_62_1 (by decide +kernel) (by decide +kernel) rfl (by decide) ?_
      refine lv_aload_n hx hb d_1_62_79 rfl (lv_at hl 0 rfl) ?_
      refine m_gr (j := 2) (C := "Ballothall") (T := TX11) (N := 14) (ci := 11) (k := 0) hx hb hts iX11 hown hG hP (yi_1 hL) (yt_1 hL) rfl (by decide) w_397 (fun _ h9 => h9) rfl rfl (yr_1_0 hL) d_1_62_80 ?_
      refine m_grN (j := 4) (C := "Ballothall$BallotBox") (T := TX0) (N := 10) (ci := 0) (k := 4) hx hb hts iX0 hown hG hP (yi_2 hL) (yt_2 hL) rfl (by decide) n_62 rfl (fun _ h9 => h9) rfl rfl (yr_2_4 hL) d_1_62_83 ?_
      refine lv_iload_n hx hb d_1_62_86 rfl (lv_at hl 2 rfl) ?_
      refine lv_iload_n hx hb d_1_62_87 rfl (lv_at hl 3 rfl) ?_
      obtain ⟨ok1, h⟩ := ck_e h
      refine m_is hx hb hG hP hD hS (yi_4 hL) (yt_4 hL) ok1 d_1_62_88 (fun H locs hP hD hS => ?_)
      have hP : va_P z.1 classes (wv z ad E (u2 M 4 x2.toNatClampNeg x3)) H := hP
      have hD : va_D A (wv z ad E (u2 M 4 x2.toNatClampNeg x3)) := hD
      refine lv_goto (tgt := 169) hx hb d_1_62_89 (by decide) ?_
      obtain rfl := in1 h
      exact W.vret hx hb hr (fun t ht hW => qkA hP hD hS (fun k => k) rfl rfl ht) hS.2.2 d_1_62_169
    have h := ite_f s0_1 h
    by_cases s0_2 : x1 = 2
    · have h := ite_t s0_2 h
      refine nrm s0_2 ?_
      refine lv_tableIn (off := 158) (tgt := 159) hx hb d_1_62_1 (by decide +kernel) (by decide +kernel) rfl (by decide) ?_
      refine lv_aload_n hx hb d_1_62_159 rfl (lv_at hl 0 rfl) ?_
      refine m_gr (j := 53) (C := "Ballothall") (T := TX11) (N := 14) (ci := 11) (k := 3) hx hb hts iX11 hown hG hP (yi_1 hL) (yt_1 hL) rfl (by decide) w_400 (fun _ h9 => h9) rfl rfl (yr_1_3 hL) d_1_62_160 ?_
      refine lv_iload_n hx hb d_1_62_163 rfl (lv_at hl 1 rfl) ?_
      refine lv_iload_n hx hb d_1_62_164 rfl (lv_at hl 2 rfl) ?_
      refine lv_iload_n hx hb d_1_62_165 rfl (lv_at hl 3 rfl) ?_
      obtain ⟨M2, g2, h⟩ := bd_e h
      refine kVN (As := [.int x1, .int x2, .int x3]) (rest := []) (s_Li_takeChangeBack l z ad E M x1 x2 x3 M2 hL g2) hx hb hml hown hts w_1503 n_1500 w_1502 w_s_f7e76e w_5 md_b6fc12 ⟨Nat.le_of_ble_eq_true rfl, Nat.le_of_ble_eq_true rfl⟩ hG hZ hP hD hS hA 53 (wv_o (ci := 7) (yi_53 hL) (yt_53 hL)) rfl rfl rfl hl.1 rfl (Nat.le_of_ble_eq_true rfl) d_1_62_166 ⟨Nat.le_of_ble_eq_true rfl, Nat.le_of_ble_eq_true rfl⟩ (fun _ H locs hP hD hS => ?_)
      have hP : va_P z.1 classes (wv z ad E M2) H := hP
      have hD : va_D A (wv z ad E M2) := hD
      refine W.eq (g2 := F0 m 169 ls []) rfl ?_
      obtain rfl := in1 h
      exact W.vret hx hb hr (fun t ht hW => qkA hP hD hS (fun k => k) rfl rfl ht) hS.2.2 d_1_62_169
    have h := ite_f s0_2 h
    by_cases s0_3 : x1 = 3
    · have h := ite_t s0_3 h
      refine nrm s0_3 ?_
      refine lv_tableIn (off := 91) (tgt := 92) hx hb d_1_62_1 (by decide +kernel) (by decide +kernel) rfl (by decide) ?_
      refine lv_aload_n hx hb d_1_62_92 rfl (lv_at hl 0 rfl) ?_
      refine m_gr (j := 2) (C := "Ballothall") (T := TX11) (N := 14) (ci := 11) (k := 0) hx hb hts iX11 hown hG hP (yi_1 hL) (yt_1 hL) rfl (by decide) w_397 (fun _ h9 => h9) rfl rfl (yr_1_0 hL) d_1_62_93 ?_
      refine lv_iload_n hx hb d_1_62_96 rfl (lv_at hl 2 rfl) ?_
      refine m_piN (C := "Ballothall$BallotBox") (T := TX0) (N := 10) (ci := 0) (k := 3) (ty := .int) hx hb hts iX0 hown hG hP hD hS (yi_2 hL) (yt_2 hL) rfl (by decide) n_58 rfl (fun _ h9 => h9) rfl rfl tyX0_ok nmX0 rfl (by decide +kernel) rfl rfl d_1_62_97 (fun H locs hP hD hS => ?_)
      have hP : va_P z.1 classes (wv z ad E (u2 M 2 3 x2)) H := hP
      have hD : va_D A (wv z ad E (u2 M 2 3 x2)) := hD
      refine lv_goto (tgt := 169) hx hb d_1_62_100 (by decide) ?_
      obtain rfl := in1 h
      exact W.vret hx hb hr (fun t ht hW => qkA hP hD hS (fun k => k) rfl rfl ht) hS.2.2 d_1_62_169
    have h := ite_f s0_3 h
    by_cases s0_4 : x1 = 4
    · have h := ite_t s0_4 h
      refine nrm s0_4 ?_
      refine lv_tableIn (off := 102) (tgt := 103) hx hb d_1_62_1 (by decide +kernel) (by decide +kernel) rfl (by decide) ?_
      refine lv_aload_n hx hb d_1_62_103 rfl (lv_at hl 0 rfl) ?_
      refine m_gr (j := 2) (C := "Ballothall") (T := TX11) (N := 14) (ci := 11) (k := 0) hx hb hts iX11 hown hG hP (yi_1 hL) (yt_1 hL) rfl (by decide) w_397 (fun _ h9 => h9) rfl rfl (yr_1_0 hL) d_1_62_104 ?_
      refine m_grN (j := 5) (C := "Ballothall$BallotBox") (T := TX0) (N := 10) (ci := 0) (k := 5) hx hb hts iX0 hown hG hP (yi_2 hL) (yt_2 hL) rfl (by decide) n_66 rfl (fun _ h9 => h9) rfl rfl (yr_2_5 hL) d_1_62_107 ?_
      refine lv_iload_n hx hb d_1_62_110 rfl (lv_at hl 2 rfl) ?_
      refine lv_iload_n hx hb d_1_62_111 rfl (lv_at hl 3 rfl) ?_
      obtain ⟨ok3, h⟩ := ck_e h
      refine m_is hx hb hG hP hD hS (yi_5 hL) (yt_5 hL) ok3 d_1_62_112 (fun H locs hP hD hS => ?_)
      have hP : va_P z.1 classes (wv z ad E (u2 M 5 x2.toNatClampNeg x3)) H := hP
      have hD : va_D A (wv z ad E (u2 M 5 x2.toNatClampNeg x3)) := hD
      refine lv_goto (tgt := 169) hx hb d_1_62_113 (by decide) ?_
      obtain rfl := in1 h
      exact W.vret hx hb hr (fun t ht hW => qkA hP hD hS (fun k => k) rfl rfl ht) hS.2.2 d_1_62_169
    have h := ite_f s0_4 h
    by_cases s0_5 : x1 = 5
    · have h := ite_t s0_5 h
      refine nrm s0_5 ?_
      refine lv_tableIn (off := 158) (tgt := 159) hx hb d_1_62_1 (by decide +kernel) (by decide +kernel) rfl (by decide) ?_
      refine lv_aload_n hx hb d_1_62_159 rfl (lv_at hl 0 rfl) ?_
      refine m_gr (j := 53) (C := "Ballothall") (T := TX11) (N := 14) (ci := 11) (k := 3) hx hb hts iX11 hown hG hP (yi_1 hL) (yt_1 hL) rfl (by decide) w_400 (fun _ h9 => h9) rfl rfl (yr_1_3 hL) d_1_62_160 ?_
      refine lv_iload_n hx hb d_1_62_163 rfl (lv_at hl 1 rfl) ?_
      refine lv_iload_n hx hb d_1_62_164 rfl (lv_at hl 2 rfl) ?_
      refine lv_iload_n hx hb d_1_62_165 rfl (lv_at hl 3 rfl) ?_
      obtain ⟨M4, g4, h⟩ := bd_e h
      refine kVN (As := [.int x1, .int x2, .int x3]) (rest := []) (s_Li_takeChangeBack l z ad E M x1 x2 x3 M4 hL g4) hx hb hml hown hts w_1503 n_1500 w_1502 w_s_f7e76e w_5 md_b6fc12 ⟨Nat.le_of_ble_eq_true rfl, Nat.le_of_ble_eq_true rfl⟩ hG hZ hP hD hS hA 53 (wv_o (ci := 7) (yi_53 hL) (yt_53 hL)) rfl rfl rfl hl.1 rfl (Nat.le_of_ble_eq_true rfl) d_1_62_166 ⟨Nat.le_of_ble_eq_true rfl, Nat.le_of_ble_eq_true rfl⟩ (fun _ H locs hP hD hS => ?_)
      have hP : va_P z.1 classes (wv z ad E M4) H := hP
      have hD : va_D A (wv z ad E M4) := hD
      refine W.eq (g2 := F0 m 169 ls []) rfl ?_
      obtain rfl := in1 h
      exact W.vret hx hb hr (fun t ht hW => qkA hP hD hS (fun k => k) rfl rfl ht) hS.2.2 d_1_62_169
    have h := ite_f s0_5 h
    by_cases s0_6 : x1 = 6
    · have h := ite_t s0_6 h
      refine nrm s0_6 ?_
      refine lv_tableIn (off := 158) (tgt := 159) hx hb d_1_62_1 (by decide +kernel) (by decide +kernel) rfl (by decide) ?_
      refine lv_aload_n hx hb d_1_62_159 rfl (lv_at hl 0 rfl) ?_
      refine m_gr (j := 53) (C := "Ballothall") (T := TX11) (N := 14) (ci := 11) (k := 3) hx hb hts iX11 hown hG hP (yi_1 hL) (yt_1 hL) rfl (by decide) w_400 (fun _ h9 => h9) rfl rfl (yr_1_3 hL) d_1_62_160 ?_
      refine lv_iload_n hx hb d_1_62_163 rfl (lv_at hl 1 rfl) ?_
      refine lv_iload_n hx hb d_1_62_164 rfl (lv_at hl 2 rfl) ?_
      refine lv_iload_n hx hb d_1_62_165 rfl (lv_at hl 3 rfl) ?_
      obtain ⟨M5, g5, h⟩ := bd_e h
      refine kVN (As := [.int x1, .int x2, .int x3]) (rest := []) (s_Li_takeChangeBack l z ad E M x1 x2 x3 M5 hL g5) hx hb hml hown hts w_1503 n_1500 w_1502 w_s_f7e76e w_5 md_b6fc12 ⟨Nat.le_of_ble_eq_true rfl, Nat.le_of_ble_eq_true rfl⟩ hG hZ hP hD hS hA 53 (wv_o (ci := 7) (yi_53 hL) (yt_53 hL)) rfl rfl rfl hl.1 rfl (Nat.le_of_ble_eq_true rfl) d_1_62_166 ⟨Nat.le_of_ble_eq_true rfl, Nat.le_of_ble_eq_true rfl⟩ (fun _ H locs hP hD hS => ?_)
      have hP : va_P z.1 classes (wv z ad E M5) H := hP
      have hD : va_D A (wv z ad E M5) := hD
      refine W.eq (g2 := F0 m 169 ls []) rfl ?_
      obtain rfl := in1 h
      exact W.vret hx hb hr (fun t ht hW => qkA hP hD hS (fun k => k) rfl rfl ht) hS.2.2 d_1_62_169
    have h := ite_f s0_6 h
    by_cases s0_7 : x1 = 7
    · have h := ite_t s0_7 h
      refine nrm s0_7 ?_
      refine lv_tableIn (off := 158) (tgt := 159) hx hb d_1_62_1 (by decide +kernel) (by decide +kernel) rfl (by decide) ?_
      refine lv_aload_n hx hb d_1_62_159 rfl (lv_at hl 0 rfl) ?_
      refine m_gr (j := 53) (C := "Ballothall") (T := TX11) (N := 14) (ci := 11) (k := 3) hx hb hts iX11 hown hG hP (yi_1 hL) (yt_1 hL) rfl (by decide) w_400 (fun _ h9 => h9) rfl rfl (yr_1_3 hL) d_1_62_160 ?_
      refine lv_iload_n hx hb d_1_62_163 rfl (lv_at hl 1 rfl) ?_
      refine lv_iload_n hx hb d_1_62_164 rfl (lv_at hl 2 rfl) ?_
      refine lv_iload_n hx hb d_1_62_165 rfl (lv_at hl 3 rfl) ?_
      obtain ⟨M6, g6, h⟩ := bd_e h
      refine kVN (As := [.int x1, .int x2, .int x3]) (rest := []) (s_Li_takeChangeBack l z ad E M x1 x2 x3 M6 hL g6) hx hb hml hown hts w_1503 n_1500 w_1502 w_s_f7e76e w_5 md_b6fc12 ⟨Nat.le_of_ble_eq_true rfl, Nat.le_of_ble_eq_true rfl⟩ hG hZ hP hD hS hA 53 (wv_o (ci := 7) (yi_53 hL) (yt_53 hL)) rfl rfl rfl hl.1 rfl (Nat.le_of_ble_eq_true rfl) d_1_62_166 ⟨Nat.le_of_ble_eq_true rfl, Nat.le_of_ble_eq_true rfl⟩ (fun _ H locs hP hD hS => ?_)
      have hP : va_P z.1 classes (wv z ad E M6) H := hP
      have hD : va_D A (wv z ad E M6) := hD
      refine W.eq (g2 := F0 m 169 ls []) rfl ?_
      obtain rfl := in1 h
      exact W.vret hx hb hr (fun t ht hW => qkA hP hD hS (fun k => k) rfl rfl ht) hS.2.2 d_1_62_169
    have h := ite_f s0_7 h
    by_cases s0_8 : x1 = 8
    · have h := ite_t s0_8 h
      refine nrm s0_8 ?_
      refine lv_tableIn (off := 158) (tgt := 159) hx hb d_1_62_1 (by decide +kernel) (by decide +kernel) rfl (by decide) ?_
      refine lv_aload_n hx hb d_1_62_159 rfl (lv_at hl 0 rfl) ?_
      refine m_gr (j := 53) (C := "Ballothall") (T := TX11) (N := 14) (ci := 11) (k := 3) hx hb hts iX11 hown hG hP (yi_1 hL) (yt_1 hL) rfl (by decide) w_400 (fun _ h9 => h9) rfl rfl (yr_1_3 hL) d_1_62_160 ?_
      refine lv_iload_n hx hb d_1_62_163 rfl (lv_at hl 1 rfl) ?_
      refine lv_iload_n hx hb d_1_62_164 rfl (lv_at hl 2 rfl) ?_
      refine lv_iload_n hx hb d_1_62_165 rfl (lv_at hl 3 rfl) ?_
      obtain ⟨M7, g7, h⟩ := bd_e h
      refine kVN (As := [.int x1, .int x2, .int x3]) (rest := []) (s_Li_takeChangeBack l z ad E M x1 x2 x3 M7 hL g7) hx hb hml hown hts w_1503 n_1500 w_1502 w_s_f7e76e w_5 md_b6fc12 ⟨Nat.le_of_ble_eq_true rfl, Nat.le_of_ble_eq_true rfl⟩ hG hZ hP hD hS hA 53 (wv_o (ci := 7) (yi_53 hL) (yt_53 hL)) rfl rfl rfl hl.1 rfl (Nat.le_of_ble_eq_true rfl) d_1_62_166 ⟨Nat.le_of_ble_eq_true rfl, Nat.le_of_ble_eq_true rfl⟩ (fun _ H locs hP hD hS => ?_)
      have hP : va_P z.1 classes (wv z ad E M7) H := hP
      have hD : va_D A (wv z ad E M7) := hD
      refine W.eq (g2 := F0 m 169 ls []) rfl ?_
      obtain rfl := in1 h
      exact W.vret hx hb hr (fun t ht hW => qkA hP hD hS (fun k => k) rfl rfl ht) hS.2.2 d_1_62_169
    have h := ite_f s0_8 h
    by_cases s0_9 : x1 = 9
    · have h := ite_t s0_9 h
      refine nrm s0_9 ?_
      refine lv_tableIn (off := 115) (tgt := 116) hx hb d_1_62_1 (by decide +kernel) (by decide +kernel) rfl (by decide) ?_
      refine lv_aload_n hx hb d_1_62_116 rfl (lv_at hl 0 rfl) ?_
      refine m_gr (j := 179) (C := "Ballothall") (T := TX11) (N := 14) (ci := 11) (k := 4) hx hb hts iX11 hown hG hP (yi_1 hL) (yt_1 hL) rfl (by decide) w_401 (fun _ h9 => h9) rfl rfl (yr_1_4 hL) d_1_62_117 ?_
      obtain ⟨M8, g8, h⟩ := bd_e h
      refine kVN (As := []) (rest := []) (s_Co_goBack l z ad E M M8 hL g8) hx hb hml hown hts w_1499 n_1496 w_1498 w_s_aea976 w_8 md_1d44b6 ⟨Nat.le_of_ble_eq_true rfl, Nat.le_of_ble_eq_true rfl⟩ hG hZ hP hD hS hA 179 (wv_o (ci := 3) (yi_179 hL) (yt_179 hL)) rfl rfl rfl hl.1 rfl (Nat.le_of_ble_eq_true rfl) d_1_62_120 ⟨Nat.le_of_ble_eq_true rfl, Nat.le_of_ble_eq_true rfl⟩ (fun _ H locs hP hD hS => ?_)
      have hP : va_P z.1 classes (wv z ad E M8) H := hP
      have hD : va_D A (wv z ad E M8) := hD
      refine W.eq (g2 := F0 m 123 ls []) rfl ?_
      refine lv_goto (tgt := 169) hx hb d_1_62_123 (by decide) ?_
      obtain rfl := in1 h
      exact W.vret hx hb hr (fun t ht hW => qkA hP hD hS (fun k => k) rfl rfl ht) hS.2.2 d_1_62_169
    have h := ite_f s0_9 h
    by_cases s0_10 : x1 = 10
    · have h := ite_t s0_10 h
      refine nrm s0_10 ?_
      refine lv_tableIn (off := 125) (tgt := 126) hx hb d_1_62_1 (by decide +kernel) (by decide +kernel) rfl (by decide) ?_
      refine lv_aload_n hx hb d_1_62_126 rfl (lv_at hl 0 rfl) ?_
      refine m_gr (j := 219) (C := "Ballothall") (T := TX11) (N := 14) (ci := 11) (k := 5) hx hb hts iX11 hown hG hP (yi_1 hL) (yt_1 hL) rfl (by decide) w_402 (fun _ h9 => h9) rfl rfl (yr_1_5 hL) d_1_62_127 ?_
      refine lv_iload_n hx hb d_1_62_130 rfl (lv_at hl 2 rfl) ?_
      refine m_piN (C := "Ballothall$Wards") (T := TX10) (N := 5) (ci := 10) (k := 0) (ty := .int) hx hb hts iX10 hown hG hP hD hS (yi_219 hL) (yt_219 hL) rfl (by decide) n_359 rfl (fun _ h9 => h9) rfl rfl tyX10_ok nmX10 rfl (by decide +kernel) rfl rfl d_1_62_131 (fun H locs hP hD hS => ?_)
      have hP : va_P z.1 classes (wv z ad E (u2 M 219 0 x2)) H := hP
      have hD : va_D A (wv z ad E (u2 M 219 0 x2)) := hD
      refine lv_goto (tgt := 169) hx hb d_1_62_134 (by decide) ?_
      obtain rfl := in1 h
      exact W.vret hx hb hr (fun t ht hW => qkA hP hD hS (fun k => k) rfl rfl ht) hS.2.2 d_1_62_169
    have h := ite_f s0_10 h
    by_cases s0_11 : x1 = 11
    · have h := ite_t s0_11 h
      refine nrm s0_11 ?_
      refine lv_tableIn (off := 136) (tgt := 137) hx hb d_1_62_1 (by decide +kernel) (by decide +kernel) rfl (by decide) ?_
      refine lv_aload_n hx hb d_1_62_137 rfl (lv_at hl 0 rfl) ?_
      refine m_gr (j := 243) (C := "Ballothall") (T := TX11) (N := 14) (ci := 11) (k := 6) hx hb hts iX11 hown hG hP (yi_1 hL) (yt_1 hL) rfl (by decide) w_403 (fun _ h9 => h9) rfl rfl (yr_1_6 hL) d_1_62_138 ?_
      refine lv_iload_n hx hb d_1_62_141 rfl (lv_at hl 2 rfl) ?_
      refine m_piN (C := "Ballothall$Council") (T := TX1) (N := 4) (ci := 1) (k := 0) (ty := .int) hx hb hts iX1 hown hG hP hD hS (yi_243 hL) (yt_243 hL) rfl (by decide) n_383 rfl (fun _ h9 => h9) rfl rfl tyX1_ok nmX1 rfl (by decide +kernel) rfl rfl d_1_62_142 (fun H locs hP hD hS => ?_)
      have hP : va_P z.1 classes (wv z ad E (u2 M 243 0 x2)) H := hP
      have hD : va_D A (wv z ad E (u2 M 243 0 x2)) := hD
      refine lv_goto (tgt := 169) hx hb d_1_62_145 (by decide) ?_
      obtain rfl := in1 h
      exact W.vret hx hb hr (fun t ht hW => qkA hP hD hS (fun k => k) rfl rfl ht) hS.2.2 d_1_62_169
    have h := ite_f s0_11 h
    by_cases s0_12 : x1 = 12
    · have h := ite_t s0_12 h
      refine nrm s0_12 ?_
      refine lv_tableIn (off := 147) (tgt := 148) hx hb d_1_62_1 (by decide +kernel) (by decide +kernel) rfl (by decide) ?_
      refine lv_aload_n hx hb d_1_62_148 rfl (lv_at hl 0 rfl) ?_
      refine m_gr (j := 243) (C := "Ballothall") (T := TX11) (N := 14) (ci := 11) (k := 6) hx hb hts iX11 hown hG hP (yi_1 hL) (yt_1 hL) rfl (by decide) w_403 (fun _ h9 => h9) rfl rfl (yr_1_6 hL) d_1_62_149 ?_
      refine lv_iload_n hx hb d_1_62_152 rfl (lv_at hl 3 rfl) ?_
      refine m_piN (C := "Ballothall$Council") (T := TX1) (N := 4) (ci := 1) (k := 1) (ty := .int) hx hb hts iX1 hown hG hP hD hS (yi_243 hL) (yt_243 hL) rfl (by decide) n_385 rfl (fun _ h9 => h9) rfl rfl tyX1_ok nmX1 rfl (by decide +kernel) rfl rfl d_1_62_153 (fun H locs hP hD hS => ?_)
      have hP : va_P z.1 classes (wv z ad E (u2 M 243 1 x3)) H := hP
      have hD : va_D A (wv z ad E (u2 M 243 1 x3)) := hD
      refine lv_goto (tgt := 169) hx hb d_1_62_156 (by decide) ?_
      obtain rfl := in1 h
      exact W.vret hx hb hr (fun t ht hW => qkA hP hD hS (fun k => k) rfl rfl ht) hS.2.2 d_1_62_169
    have h := ite_f s0_12 h
    refine lv_tableOut (tgt := 159) hx hb d_1_62_1 (by
        have h9 := tb0 (x := x1) (lo := 0) (n := 13) (by decide) (fun q q1 q2 => by
          rcases (show q = 0 ∨ q = 1 ∨ q = 2 ∨ q = 3 ∨ q = 4 ∨ q = 5 ∨ q = 6 ∨ q = 7 ∨ q = 8 ∨ q = 9 ∨ q = 10 ∨ q = 11 ∨ q = 12 by omega) with rfl | rfl | rfl | rfl | rfl | rfl | rfl | rfl | rfl | rfl | rfl | rfl | rfl
          · exact s0_0
          · exact s0_1
          · exact s0_2
          · exact s0_3
          · exact s0_4
          · exact s0_5
          · exact s0_6
          · exact s0_7
          · exact s0_8
          · exact s0_9
          · exact s0_10
          · exact s0_11
          · exact s0_12)
        omega) (by decide) ?_
    refine lv_aload_n hx hb d_1_62_159 rfl (lv_at hl 0 rfl) ?_
    refine m_gr (j := 53) (C := "Ballothall") (T := TX11) (N := 14) (ci := 11) (k := 3) hx hb hts iX11 hown hG hP (yi_1 hL) (yt_1 hL) rfl (by decide) w_400 (fun _ h9 => h9) rfl rfl (yr_1_3 hL) d_1_62_160 ?_
    refine lv_iload_n hx hb d_1_62_163 rfl (lv_at hl 1 rfl) ?_
    refine lv_iload_n hx hb d_1_62_164 rfl (lv_at hl 2 rfl) ?_
    refine lv_iload_n hx hb d_1_62_165 rfl (lv_at hl 3 rfl) ?_
    obtain ⟨M9, g9, h⟩ := bd_e h
    refine kVN (As := [.int x1, .int x2, .int x3]) (rest := []) (s_Li_takeChangeBack l z ad E M x1 x2 x3 M9 hL g9) hx hb hml hown hts w_1503 n_1500 w_1502 w_s_f7e76e w_5 md_b6fc12 ⟨Nat.le_of_ble_eq_true rfl, Nat.le_of_ble_eq_true rfl⟩ hG hZ hP hD hS hA 53 (wv_o (ci := 7) (yi_53 hL) (yt_53 hL)) rfl rfl rfl hl.1 rfl (Nat.le_of_ble_eq_true rfl) d_1_62_166 ⟨Nat.le_of_ble_eq_true rfl, Nat.le_of_ble_eq_true rfl⟩ (fun _ H locs hP hD hS => ?_)
    have hP : va_P z.1 classes (wv z ad E M9) H := hP
    have hD : va_D A (wv z ad E M9) := hD
    refine W.eq (g2 := F0 m 169 ls []) rfl ?_
    obtain rfl := in1 h
    exact W.vret hx hb hr (fun t ht hW => qkA hP hD hS (fun k => k) rfl rfl ht) hS.2.2 d_1_62_169
  exact key _ _ _ hts hP hS
