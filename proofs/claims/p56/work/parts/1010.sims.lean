set_option maxRecDepth 100000 in
set_option maxHeartbeats 4000000 in
theorem s_Bx_appendSign (l : Launch) (z : Zz) (ad : Nat → Nat) (E : Ev) (M : Mm) (x1 : Int32) (N : Mm) (hL : Lay E) (h : f_Bx_appendSign E M x1 = some N) : CT l z ⟨"Ballothall$BallotBox", "appendSign", "(I)V"⟩ prog_2_method_5_code 2 none [.ref (ad 2), .int x1] (wv z ad E M) 0 20 0 0 (fun _ => none) (fun _ => wv z ad E N) := by
  refine CT.of (own := "Ballothall$BallotBox") (by decide +kernel) (Nat.le_of_ble_eq_true rfl) rfl (fun p e s m below meth c A ls hx hb hml hr hts hown hlocks hin hA hG hZ hP hD hS hl => ?_)
  have hl : lv_has ls 2 [(0, .ref (ad 2)), (1, .int x1)] := hl
  have key : ∀ (H : Heap) (locs : List Loc) (args : Array Value), (∀ w ∈ WG, w.before args s = true) → va_P z.1 classes (wv z ad E M) H → va_S A s.heap H locs → W p l e (rmK 0 20 0 0) s m args below meth c H locs 0 0 (MQ below (QK z A (fun _ => none) (fun _ => wv z ad E N)) args s 0 0 A) (F0 m 0 ls []) := by
    intro H locs args hts hP hS
    unfold f_Bx_appendSign at h
    refine lv_iload_n hx hb d_2_5_0 rfl (lv_at hl 1 rfl) ?_
    refine lv_if_eq (tgt := 36) hx hb d_2_5_1 (by decide) (fun c9 => ?_) (fun c9 => ?_)
    · have h := ite_t c9 h
      obtain rfl := in1 h
      exact W.vret hx hb hr (fun t ht hW => qkA hP hD hS (fun k => k) rfl rfl ht) hS.2.2 d_2_5_36
    · have h := ite_f c9 h
      refine lv_aload_n hx hb d_2_5_4 rfl (lv_at hl 0 rfl) ?_
      refine m_gi (C := "Ballothall$BallotBox") (T := TX0) (N := 10) (ci := 0) (k := 1) hx hb hts iX0 hown hG hP (yi_2 hL) (yt_2 hL) rfl (by decide) w_50 (fun _ h9 => h9) rfl rfl d_2_5_5 ?_
      refine lv_aload_n hx hb d_2_5_8 rfl (lv_at hl 0 rfl) ?_
      refine m_gr (j := 3) (C := "Ballothall$BallotBox") (T := TX0) (N := 10) (ci := 0) (k := 0) hx hb hts iX0 hown hG hP (yi_2 hL) (yt_2 hL) rfl (by decide) w_48 (fun _ h9 => h9) rfl rfl (yr_2_0 hL) d_2_5_9 ?_
      refine m_len (v := 30) hx hb hG hP (yi_3 hL) (yt_3 hL) rfl d_2_5_12 ?_
      refine lv_icmp_ge (tgt := 36) hx hb d_2_5_13 (by decide) (fun c9 => ?_) (fun c9 => ?_)
      · have h := ite_t c9 h
        obtain rfl := in1 h
        exact W.vret hx hb hr (fun t ht hW => qkA hP hD hS (fun k => k) rfl rfl ht) hS.2.2 d_2_5_36
      · have h := ite_f c9 h
        refine lv_aload_n hx hb d_2_5_16 rfl (lv_at hl 0 rfl) ?_
        refine m_gr (j := 3) (C := "Ballothall$BallotBox") (T := TX0) (N := 10) (ci := 0) (k := 0) hx hb hts iX0 hown hG hP (yi_2 hL) (yt_2 hL) rfl (by decide) w_48 (fun _ h9 => h9) rfl rfl (yr_2_0 hL) d_2_5_17 ?_
        refine lv_aload_n hx hb d_2_5_20 rfl (lv_at hl 0 rfl) ?_
        refine m_gi (C := "Ballothall$BallotBox") (T := TX0) (N := 10) (ci := 0) (k := 1) hx hb hts iX0 hown hG hP (yi_2 hL) (yt_2 hL) rfl (by decide) w_50 (fun _ h9 => h9) rfl rfl d_2_5_21 ?_
        refine lv_iload_n hx hb d_2_5_24 rfl (lv_at hl 1 rfl) ?_
        obtain ⟨ok0, h⟩ := ck_e h
        refine m_is hx hb hG hP hD hS (yi_3 hL) (yt_3 hL) ok0 d_2_5_25 (fun H locs hP hD hS => ?_)
        have hP : va_P z.1 classes (wv z ad E (u2 M 3 (M.1 2 1).toNatClampNeg x1)) H := hP
        have hD : va_D A (wv z ad E (u2 M 3 (M.1 2 1).toNatClampNeg x1)) := hD
        refine lv_aload_n hx hb d_2_5_26 rfl (lv_at hl 0 rfl) ?_
        refine lv_dup hx hb d_2_5_27 rfl ?_
        refine m_gi (C := "Ballothall$BallotBox") (T := TX0) (N := 10) (ci := 0) (k := 1) hx hb hts iX0 hown hG hP (yi_2 hL) (yt_2 hL) rfl (by decide) w_50 (fun _ h9 => h9) rfl rfl d_2_5_28 ?_
        refine lv_iconst (v := 1) hx hb d_2_5_31 (by decide +kernel) ?_
        refine lv_iadd hx hb d_2_5_32 ?_
        refine m_pi (C := "Ballothall$BallotBox") (T := TX0) (N := 10) (ci := 0) (k := 1) (ty := .int) hx hb hts iX0 hown hG hP hD hS (yi_2 hL) (yt_2 hL) rfl (by decide) w_50 (fun _ h9 => h9) rfl rfl tyX0_ok nmX0 rfl (by decide +kernel) rfl rfl d_2_5_33 (fun H locs hP hD hS => ?_)
        have hP : va_P z.1 classes (wv z ad E (u2 (u2 M 3 (M.1 2 1).toNatClampNeg x1) 2 1 (((u2 M 3 (M.1 2 1).toNatClampNeg x1).1 2 1) + (1 : Int32)))) H := hP
        have hD : va_D A (wv z ad E (u2 (u2 M 3 (M.1 2 1).toNatClampNeg x1) 2 1 (((u2 M 3 (M.1 2 1).toNatClampNeg x1).1 2 1) + (1 : Int32)))) := hD
        obtain ⟨M1, e1, h⟩ := nb_e h
        rw [← e1] at hP hD
        obtain rfl := in1 h
        exact W.vret hx hb hr (fun t ht hW => qkA hP hD hS (fun k => k) rfl rfl ht) hS.2.2 d_2_5_36
  exact key _ _ _ hts hP hS
set_option maxRecDepth 100000 in
set_option maxHeartbeats 4000000 in
theorem b_B_type_6b (l : Launch) (z : Zz) (ad : Nat → Nat) (E : Ev) (M : Mm) (x1 : Int64) (x3 : Int32) (x4 : Int32) (t : Nat) (w3 : Int32) (w4 : Int32) (N : Mm) {Q : State → Prop} {p : Program} {e : Env} {s : State} {m : MethodId} {below : List Frame} {meth : Method} {c : Code} {A : Nat → Prop} {args : Array Value} (hx : p.tables.exec = Jvm.exec) (hb : c.code = prog_1_method_4_code) (hml : c.maxLocals = 5) (hts : ∀ w ∈ WG, w.before args s = true) (hown : s.vm.findClass "Ballothall" = some m.cls) (hlocks : meth.locks = false) (hA : ∀ q, s.heap.size ≤ q → A q) (hG : KG z s) (hZ : FZ z A s) (hL : Lay E) (h : B_type_6b E M x1 x3 x4 = some (t, w3, w4, N)) (k0 : t = 0 → ∀ (H : Heap) (locs : List Loc) (ls : Array Slot), va_P z.1 classes (wv z ad E N) H → va_D A (wv z ad E N) → va_S A s.heap H locs → lv_has ls 5 [(0, .ref (ad 1)), (1, .long x1), (3, .int w3), (4, .int w4)] → W p l e (rmK 1 41 0 0) s m args below meth c H locs 0 0 Q (F0 m 6 ls [])) (k1 : t = 1 → ∀ (H : Heap) (locs : List Loc) (ls : Array Slot), va_P z.1 classes (wv z ad E N) H → va_D A (wv z ad E N) → va_S A s.heap H locs → lv_has ls 5 [(0, .ref (ad 1)), (1, .long x1), (3, .int w3)] → W p l e (rmK 1 41 0 0) s m args below meth c H locs 0 0 Q (F0 m 33 ls [])) : ∀ (H : Heap) (locs : List Loc) (ls : Array Slot), va_P z.1 classes (wv z ad E M) H → va_D A (wv z ad E M) → va_S A s.heap H locs → lv_has ls 5 [(0, .ref (ad 1)), (1, .long x1), (3, .int x3), (4, .int x4)] → W p l e (rmK 1 41 0 0) s m args below meth c H locs 0 0 Q (F0 m 6 ls []) := by
  intro H locs ls hP hD hS hl
  unfold B_type_6b at h
  refine lv_iload hx hb d_1_4_6 (lv_at hl 3 rfl) ?_
  refine lv_if_lt (tgt := 33) hx hb d_1_4_8 (by decide) (fun c9 => ?_) (fun c9 => ?_)
  · have h := ite_t c9 h
    obtain ⟨rfl, rfl, rfl, rfl⟩ := in4 h
    exact k1 rfl H locs ls hP hD hS (lv_sub hl [0, 1, 2] rfl)
  · have h := ite_f c9 h
    refine lv_lload_n hx hb d_1_4_11 rfl (lv_at hl 1 rfl) ?_
    refine lv_iload hx hb d_1_4_12 (lv_at hl 3 rfl) ?_
    refine lv_lshr (v := (x1 >>> (x4.toInt64 &&& 63))) hx hb d_1_4_14 rfl ?_
    refine lv_ldc2 hx hb hown (hts _ w_1013) d_1_4_15 ?_
    refine lv_land hx hb d_1_4_18 ?_
    refine lv_lconst (v := 0) hx hb d_1_4_19 (by decide +kernel) ?_
    refine W.lcmp hx hb d_1_4_20 ?_
    refine lv_if_eq (tgt := 27) hx hb d_1_4_21 (by decide) (fun c9 => ?_) (fun c9 => ?_)
    · have h := ite_t c9 h
      refine lv_iinc (v := (x4 + (-8))) (lv' := [(4, .int (x4 + (-8))), (0, .ref (ad 1)), (1, .long x1), (3, .int x3)]) hx hb d_1_4_27 hl (k := 3) rfl (congrArg (fun q => x4 + q) (show Int32.ofInt (-8) = (-8) by decide +kernel)) (by decide) rfl (fun ls hl => ?_)
      refine lv_goto (tgt := 6) hx hb d_1_4_30 (by decide) ?_
      obtain ⟨rfl, rfl, rfl, rfl⟩ := in4 h
      exact k0 rfl H locs ls hP hD hS (lv_sub hl [1, 2, 3, 0] rfl)
    · have h := ite_f c9 h
      refine lv_iinc (v := (x3 + 1)) (lv' := [(3, .int (x3 + 1)), (0, .ref (ad 1)), (1, .long x1), (4, .int x4)]) hx hb d_1_4_24 hl (k := 2) rfl (congrArg (fun q => x3 + q) (show Int32.ofInt 1 = 1 by decide +kernel)) (by decide) rfl (fun ls hl => ?_)
      refine lv_iinc (v := (x4 + (-8))) (lv' := [(4, .int (x4 + (-8))), (3, .int (x3 + 1)), (0, .ref (ad 1)), (1, .long x1)]) hx hb d_1_4_27 hl (k := 3) rfl (congrArg (fun q => x4 + q) (show Int32.ofInt (-8) = (-8) by decide +kernel)) (by decide) rfl (fun ls hl => ?_)
      refine lv_goto (tgt := 6) hx hb d_1_4_30 (by decide) ?_
      obtain ⟨rfl, rfl, rfl, rfl⟩ := in4 h
      exact k0 rfl H locs ls hP hD hS (lv_sub hl [2, 3, 1, 0] rfl)
set_option maxRecDepth 100000 in
set_option maxHeartbeats 4000000 in
theorem s_B_type_6 (l : Launch) (z : Zz) (ad : Nat → Nat) (E : Ev) (x1 : Int64) {Q : State → Prop} {p : Program} {e : Env} {s : State} {m : MethodId} {below : List Frame} {meth : Method} {c : Code} {A : Nat → Prop} {args : Array Value} (hx : p.tables.exec = Jvm.exec) (hb : c.code = prog_1_method_4_code) (hml : c.maxLocals = 5) (hts : ∀ w ∈ WG, w.before args s = true) (hown : s.vm.findClass "Ballothall" = some m.cls) (hlocks : meth.locks = false) (hA : ∀ q, s.heap.size ≤ q → A q) (hG : KG z s) (hZ : FZ z A s) (hL : Lay E) : ∀ (fu : Nat) (M : Mm) (x3 : Int32) (x4 : Int32) (t : Nat) (w3 : Int32) (w4 : Int32) (N : Mm), l_B_type_6 E x1 fu M x3 x4 = some (t, w3, w4, N) → (t = 1 → ∀ (H : Heap) (locs : List Loc) (ls : Array Slot), va_P z.1 classes (wv z ad E N) H → va_D A (wv z ad E N) → va_S A s.heap H locs → lv_has ls 5 [(0, .ref (ad 1)), (1, .long x1), (3, .int w3)] → W p l e (rmK 1 41 0 0) s m args below meth c H locs 0 0 Q (F0 m 33 ls [])) → ∀ (H : Heap) (locs : List Loc) (ls : Array Slot), va_P z.1 classes (wv z ad E M) H → va_D A (wv z ad E M) → va_S A s.heap H locs → lv_has ls 5 [(0, .ref (ad 1)), (1, .long x1), (3, .int x3), (4, .int x4)] → W p l e (rmK 1 41 0 0) s m args below meth c H locs 0 0 Q (F0 m 6 ls []) := by
  intro fu
  induction fu with
  | zero =>
    intro M x3 x4 t w3 w4 N h
    have h : (none : Option (Nat × Int32 × Int32 × Mm)) = some _ := h
    cases h
  | succ fu ih =>
    intro M x3 x4 t w3 w4 N h k1 H locs ls hP hD hS hl
    obtain ⟨⟨t0, w30, w40, N0⟩, g0, h⟩ := bd_e h
    refine b_B_type_6b l z ad E M x1 x3 x4 t0 w30 w40 N0 hx hb hml hts hown hlocks hA hG hZ hL g0 (fun e0 => ?_) (fun e0 => ?_) H locs ls hP hD hS hl
    · subst e0
      have h := ite_t rfl h
      exact ih N0 w30 w40 t w3 w4 N h k1
    · subst e0
      have h := ite_f (by decide) h
      obtain ⟨rfl, rfl, rfl, rfl⟩ := in4 h
      exact k1 rfl
set_option maxRecDepth 100000 in
set_option maxHeartbeats 4000000 in
theorem b_B_type_51b (l : Launch) (z : Zz) (ad : Nat → Nat) (E : Ev) (M : Mm) (x1 : Int64) (x4 : Int32) (t : Nat) (w4 : Int32) (N : Mm) {Q : State → Prop} {p : Program} {e : Env} {s : State} {m : MethodId} {below : List Frame} {meth : Method} {c : Code} {A : Nat → Prop} {args : Array Value} (hx : p.tables.exec = Jvm.exec) (hb : c.code = prog_1_method_4_code) (hml : c.maxLocals = 5) (hts : ∀ w ∈ WG, w.before args s = true) (hown : s.vm.findClass "Ballothall" = some m.cls) (hlocks : meth.locks = false) (hA : ∀ q, s.heap.size ≤ q → A q) (hG : KG z s) (hZ : FZ z A s) (hL : Lay E) (h : B_type_51b E M x1 x4 = some (t, w4, N)) (k0 : t = 0 → ∀ (H : Heap) (locs : List Loc) (ls : Array Slot), va_P z.1 classes (wv z ad E N) H → va_D A (wv z ad E N) → va_S A s.heap H locs → lv_has ls 5 [(0, .ref (ad 1)), (1, .long x1), (4, .int w4)] → W p l e (rmK 1 41 0 0) s m args below meth c H locs 0 0 Q (F0 m 51 ls [])) (k1 : t = 1 → ∀ (H : Heap) (locs : List Loc) (ls : Array Slot), va_P z.1 classes (wv z ad E N) H → va_D A (wv z ad E N) → va_S A s.heap H locs → lv_has ls 5 [(0, .ref (ad 1))] → W p l e (rmK 1 41 0 0) s m args below meth c H locs 0 0 Q (F0 m 78 ls [])) : ∀ (H : Heap) (locs : List Loc) (ls : Array Slot), va_P z.1 classes (wv z ad E M) H → va_D A (wv z ad E M) → va_S A s.heap H locs → lv_has ls 5 [(0, .ref (ad 1)), (1, .long x1), (4, .int x4)] → W p l e (rmK 1 41 0 0) s m args below meth c H locs 0 0 Q (F0 m 51 ls []) := by
  intro H locs ls hP hD hS hl
  unfold B_type_51b at h
  refine lv_iload hx hb d_1_4_51 (lv_at hl 2 rfl) ?_
  refine lv_if_lt (tgt := 78) hx hb d_1_4_53 (by decide) (fun c9 => ?_) (fun c9 => ?_)
  · have h := ite_t c9 h
    obtain ⟨rfl, rfl, rfl⟩ := in3 h
    exact k1 rfl H locs ls hP hD hS (lv_sub hl [0] rfl)
  · have h := ite_f c9 h
    refine lv_aload_n hx hb d_1_4_56 rfl (lv_at hl 0 rfl) ?_
    refine m_gr (j := 2) (C := "Ballothall") (T := TX11) (N := 14) (ci := 11) (k := 0) hx hb hts iX11 hown hG hP (yi_1 hL) (yt_1 hL) rfl (by decide) w_397 (fun _ h9 => h9) rfl rfl (yr_1_0 hL) d_1_4_57 ?_
    refine lv_lload_n hx hb d_1_4_60 rfl (lv_at hl 1 rfl) ?_
    refine lv_iload hx hb d_1_4_61 (lv_at hl 2 rfl) ?_
    refine lv_lshr (v := (x1 >>> (x4.toInt64 &&& 63))) hx hb d_1_4_63 rfl ?_
    refine lv_ldc2 hx hb hown (hts _ w_1013) d_1_4_64 ?_
    refine lv_land hx hb d_1_4_67 ?_
    refine lv_l2i (v := ((x1 >>> (x4.toInt64 &&& 63)) &&& (255 : Int64)).toInt32) hx hb d_1_4_68 rfl ?_
    obtain ⟨M2, g2, h⟩ := bd_e h
    refine kVN (As := [.int ((x1 >>> (x4.toInt64 &&& 63)) &&& (255 : Int64)).toInt32]) (rest := []) (s_Bx_appendSign l z ad E M ((x1 >>> (x4.toInt64 &&& 63)) &&& (255 : Int64)).toInt32 M2 hL g2) hx hb hml hown hts w_1017 n_1014 w_1016 w_s_aa5e63 w_2 md_dc90bd ⟨Nat.le_of_ble_eq_true rfl, Nat.le_of_ble_eq_true rfl⟩ hG hZ hP hD hS hA 2 (wv_o (ci := 0) (yi_2 hL) (yt_2 hL)) rfl rfl rfl hl.1 rfl (Nat.le_of_ble_eq_true rfl) d_1_4_69 ⟨Nat.le_of_ble_eq_true rfl, Nat.le_of_ble_eq_true rfl⟩ (fun _ H locs hP hD hS => ?_)
    have hP : va_P z.1 classes (wv z ad E M2) H := hP
    have hD : va_D A (wv z ad E M2) := hD
    refine W.eq (g2 := F0 m 72 ls []) rfl ?_
    refine lv_iinc (v := (x4 + (-8))) (lv' := [(4, .int (x4 + (-8))), (0, .ref (ad 1)), (1, .long x1)]) hx hb d_1_4_72 hl (k := 2) rfl (congrArg (fun q => x4 + q) (show Int32.ofInt (-8) = (-8) by decide +kernel)) (by decide) rfl (fun ls hl => ?_)
    refine lv_goto (tgt := 51) hx hb d_1_4_75 (by decide) ?_
    obtain ⟨rfl, rfl, rfl⟩ := in3 h
    exact k0 rfl H locs ls hP hD hS (lv_sub hl [1, 2, 0] rfl)
set_option maxRecDepth 100000 in
set_option maxHeartbeats 4000000 in
theorem s_B_type_51 (l : Launch) (z : Zz) (ad : Nat → Nat) (E : Ev) (x1 : Int64) {Q : State → Prop} {p : Program} {e : Env} {s : State} {m : MethodId} {below : List Frame} {meth : Method} {c : Code} {A : Nat → Prop} {args : Array Value} (hx : p.tables.exec = Jvm.exec) (hb : c.code = prog_1_method_4_code) (hml : c.maxLocals = 5) (hts : ∀ w ∈ WG, w.before args s = true) (hown : s.vm.findClass "Ballothall" = some m.cls) (hlocks : meth.locks = false) (hA : ∀ q, s.heap.size ≤ q → A q) (hG : KG z s) (hZ : FZ z A s) (hL : Lay E) : ∀ (fu : Nat) (M : Mm) (x4 : Int32) (t : Nat) (w4 : Int32) (N : Mm), l_B_type_51 E x1 fu M x4 = some (t, w4, N) → (t = 1 → ∀ (H : Heap) (locs : List Loc) (ls : Array Slot), va_P z.1 classes (wv z ad E N) H → va_D A (wv z ad E N) → va_S A s.heap H locs → lv_has ls 5 [(0, .ref (ad 1))] → W p l e (rmK 1 41 0 0) s m args below meth c H locs 0 0 Q (F0 m 78 ls [])) → ∀ (H : Heap) (locs : List Loc) (ls : Array Slot), va_P z.1 classes (wv z ad E M) H → va_D A (wv z ad E M) → va_S A s.heap H locs → lv_has ls 5 [(0, .ref (ad 1)), (1, .long x1), (4, .int x4)] → W p l e (rmK 1 41 0 0) s m args below meth c H locs 0 0 Q (F0 m 51 ls []) := by
  intro fu
  induction fu with
  | zero =>
    intro M x4 t w4 N h
    have h : (none : Option (Nat × Int32 × Mm)) = some _ := h
    cases h
  | succ fu ih =>
    intro M x4 t w4 N h k1 H locs ls hP hD hS hl
    obtain ⟨⟨t0, w40, N0⟩, g0, h⟩ := bd_e h
    refine b_B_type_51b l z ad E M x1 x4 t0 w40 N0 hx hb hml hts hown hlocks hA hG hZ hL g0 (fun e0 => ?_) (fun e0 => ?_) H locs ls hP hD hS hl
    · subst e0
      have h := ite_t rfl h
      exact ih N0 w40 t w4 N h k1
    · subst e0
      have h := ite_f (by decide) h
      obtain ⟨rfl, rfl, rfl⟩ := in3 h
      exact k1 rfl
set_option maxRecDepth 100000 in
set_option maxHeartbeats 4000000 in
theorem s_B_type (l : Launch) (z : Zz) (ad : Nat → Nat) (E : Ev) (M : Mm) (x1 : Int64) (r : Int32) (N : Mm) (hL : Lay E) (h : f_B_type E M x1 = some (r, N)) : CT l z ⟨"Ballothall", "type", "(J)I"⟩ prog_1_method_4_code 5 (some .int) [.ref (ad 1), .long x1] (wv z ad E M) 1 41 0 0 (fun _ => some (.int r)) (fun _ => wv z ad E N) := by
  refine CT.of (own := "Ballothall") (by decide +kernel) (Nat.le_of_ble_eq_true rfl) rfl (fun p e s m below meth c A ls hx hb hml hr hts hown hlocks hin hA hG hZ hP hD hS hl => ?_)
  have hl : lv_has ls 5 [(0, .ref (ad 1)), (1, .long x1)] := hl
  have key : ∀ (H : Heap) (locs : List Loc) (args : Array Value), (∀ w ∈ WG, w.before args s = true) → va_P z.1 classes (wv z ad E M) H → va_S A s.heap H locs → W p l e (rmK 1 41 0 0) s m args below meth c H locs 0 0 (MQ below (QK z A (fun _ => some (.int r)) (fun _ => wv z ad E N)) args s 0 0 A) (F0 m 0 ls []) := by
    intro H locs args hts hP hS
    unfold f_B_type at h
    refine lv_iconst (v := 0) hx hb d_1_4_0 (by decide +kernel) ?_
    refine lv_istore_n (lv' := [(3, .int 0), (0, .ref (ad 1)), (1, .long x1)]) hx hb d_1_4_1 rfl hl (by decide) rfl (fun ls hl => ?_)
    refine lv_bipush (v := 56) hx hb d_1_4_2 (by decide +kernel) ?_
    refine lv_istore (lv' := [(4, .int 56), (3, .int 0), (0, .ref (ad 1)), (1, .long x1)]) hx hb d_1_4_4 hl (by decide) rfl (fun ls hl => ?_)
    obtain ⟨⟨t0, v0_3, v0_4, M0⟩, g0, h⟩ := bd_e h
    obtain ⟨ok0, h⟩ := ck_e h
    refine s_B_type_6 l z ad E x1 hx hb hml hts hown hlocks hA hG hZ hL FU M 0 56 t0 v0_3 v0_4 M0 g0 (fun e0 H locs ls hP hD hS hl => ?_) H locs ls hP hD hS (lv_sub hl [2, 3, 1, 0] rfl)
    refine lv_aload_n hx hb d_1_4_33 rfl (lv_at hl 0 rfl) ?_
    refine m_gr (j := 2) (C := "Ballothall") (T := TX11) (N := 14) (ci := 11) (k := 0) hx hb hts iX11 hown hG hP (yi_1 hL) (yt_1 hL) rfl (by decide) w_397 (fun _ h9 => h9) rfl rfl (yr_1_0 hL) d_1_4_34 ?_
    refine m_giN (C := "Ballothall$BallotBox") (T := TX0) (N := 10) (ci := 0) (k := 1) hx hb hts iX0 hown hG hP (yi_2 hL) (yt_2 hL) rfl (by decide) n_49 rfl (fun _ h9 => h9) rfl rfl d_1_4_37 ?_
    refine lv_iload_n hx hb d_1_4_40 rfl (lv_at hl 2 rfl) ?_
    refine lv_iadd hx hb d_1_4_41 ?_
    refine lv_bipush (v := 30) hx hb d_1_4_42 (by decide +kernel) ?_
    obtain ⟨M1, g1, h⟩ := bd_e h
    refine kS (As := [.int ((M0.1 2 1) + v0_3), .int 30]) (rest := []) (s_B_needRoom l z ad E M0 ((M0.1 2 1) + v0_3) 30 M1 hL g1) hx hb hml hown hts w_446 w_444 w_445 w_1 md_ec9fa9 ⟨Nat.le_of_ble_eq_true rfl, Nat.le_of_ble_eq_true rfl⟩ hG hZ hP hD hS hA rfl hl.1 rfl (Nat.le_of_ble_eq_true rfl) d_1_4_44 ⟨Nat.le_of_ble_eq_true rfl, Nat.le_of_ble_eq_true rfl⟩ (fun _ H locs hP hD hS => ?_)
    have hP : va_P z.1 classes (wv z ad E M1) H := hP
    have hD : va_D A (wv z ad E M1) := hD
    refine W.eq (g2 := F0 m 47 ls []) rfl ?_
    refine lv_bipush (v := 56) hx hb d_1_4_47 (by decide +kernel) ?_
    refine lv_istore (lv' := [(4, .int 56), (0, .ref (ad 1)), (1, .long x1), (3, .int v0_3)]) hx hb d_1_4_49 hl (by decide) rfl (fun ls hl => ?_)
    obtain ⟨⟨t3, v3_4, M3⟩, g3, h⟩ := bd_e h
    obtain ⟨ok3, h⟩ := ck_e h
    refine s_B_type_51 l z ad E x1 hx hb hml hts hown hlocks hA hG hZ hL FU M1 56 t3 v3_4 M3 g3 (fun e3 H locs ls hP hD hS hl => ?_) H locs ls hP hD hS (lv_sub hl [1, 2, 0] rfl)
    refine lv_aload_n hx hb d_1_4_78 rfl (lv_at hl 0 rfl) ?_
    refine m_gr (j := 2) (C := "Ballothall") (T := TX11) (N := 14) (ci := 11) (k := 0) hx hb hts iX11 hown hG hP (yi_1 hL) (yt_1 hL) rfl (by decide) w_397 (fun _ h9 => h9) rfl rfl (yr_1_0 hL) d_1_4_79 ?_
    refine m_giN (C := "Ballothall$BallotBox") (T := TX0) (N := 10) (ci := 0) (k := 1) hx hb hts iX0 hown hG hP (yi_2 hL) (yt_2 hL) rfl (by decide) n_49 rfl (fun _ h9 => h9) rfl rfl d_1_4_82 ?_
    obtain ⟨rfl, rfl⟩ := in2 h
    exact W.iret hx hb hr (fun t ht hW => qkA hP hD hS (fun k => k) rfl rfl ht) hS.2.2 d_1_4_85
  exact key _ _ _ hts hP hS
set_option maxRecDepth 100000 in
set_option maxHeartbeats 4000000 in
theorem s_B_undo (l : Launch) (z : Zz) (ad : Nat → Nat) (E : Ev) (M : Mm) (r : Int32) (N : Mm) (hL : Lay E) (h : f_B_undo E M = some (r, N)) : CT l z ⟨"Ballothall", "undo", "()I"⟩ prog_1_method_50_code 1 (some .int) [.ref (ad 1)] (wv z ad E M) 2 66 0 0 (fun _ => some (.int r)) (fun _ => wv z ad E N) := by
  refine CT.of (own := "Ballothall") (by decide +kernel) (Nat.le_of_ble_eq_true rfl) rfl (fun p e s m below meth c A ls hx hb hml hr hts hown hlocks hin hA hG hZ hP hD hS hl => ?_)
  have hl : lv_has ls 1 [(0, .ref (ad 1))] := hl
  have key : ∀ (H : Heap) (locs : List Loc) (args : Array Value), (∀ w ∈ WG, w.before args s = true) → va_P z.1 classes (wv z ad E M) H → va_S A s.heap H locs → W p l e (rmK 2 66 0 0) s m args below meth c H locs 0 0 (MQ below (QK z A (fun _ => some (.int r)) (fun _ => wv z ad E N)) args s 0 0 A) (F0 m 0 ls []) := by
    intro H locs args hts hP hS
    unfold f_B_undo at h
    refine lv_aload_n hx hb d_1_50_0 rfl (lv_at hl 0 rfl) ?_
    refine m_gi (C := "Ballothall") (T := TX11) (N := 14) (ci := 11) (k := 11) hx hb hts iX11 hown hG hP (yi_1 hL) (yt_1 hL) rfl (by decide) w_408 (fun _ h9 => h9) rfl rfl d_1_50_1 ?_
    refine lv_if_ne (tgt := 9) hx hb d_1_50_4 (by decide) (fun c9 => ?_) (fun c9 => ?_)
    · have h := ite_f c9 h
      refine lv_aload_n hx hb d_1_50_9 rfl (lv_at hl 0 rfl) ?_
      refine lv_aload_n hx hb d_1_50_10 rfl (lv_at hl 0 rfl) ?_
      refine m_gr (j := 246) (C := "Ballothall") (T := TX11) (N := 14) (ci := 11) (k := 7) hx hb hts iX11 hown hG hP (yi_1 hL) (yt_1 hL) rfl (by decide) w_404 (fun _ h9 => h9) rfl rfl (yr_1_7 hL) d_1_50_11 ?_
      refine lv_aload_n hx hb d_1_50_14 rfl (lv_at hl 0 rfl) ?_
      refine m_gi (C := "Ballothall") (T := TX11) (N := 14) (ci := 11) (k := 10) hx hb hts iX11 hown hG hP (yi_1 hL) (yt_1 hL) rfl (by decide) w_407 (fun _ h9 => h9) rfl rfl d_1_50_15 ?_
      obtain ⟨ok0, h⟩ := ck_e h
      refine m_ia hx hb hG hP (yi_246 hL) (yt_246 hL) ok0 d_1_50_18 ?_
      refine lv_aload_n hx hb d_1_50_19 rfl (lv_at hl 0 rfl) ?_
      refine m_gr (j := 247) (C := "Ballothall") (T := TX11) (N := 14) (ci := 11) (k := 8) hx hb hts iX11 hown hG hP (yi_1 hL) (yt_1 hL) rfl (by decide) w_405 (fun _ h9 => h9) rfl rfl (yr_1_8 hL) d_1_50_20 ?_
      refine lv_aload_n hx hb d_1_50_23 rfl (lv_at hl 0 rfl) ?_
      refine m_gi (C := "Ballothall") (T := TX11) (N := 14) (ci := 11) (k := 10) hx hb hts iX11 hown hG hP (yi_1 hL) (yt_1 hL) rfl (by decide) w_407 (fun _ h9 => h9) rfl rfl d_1_50_24 ?_
      obtain ⟨ok1, h⟩ := ck_e h
      refine m_ia hx hb hG hP (yi_247 hL) (yt_247 hL) ok1 d_1_50_27 ?_
      refine lv_aload_n hx hb d_1_50_28 rfl (lv_at hl 0 rfl) ?_
      refine m_gr (j := 248) (C := "Ballothall") (T := TX11) (N := 14) (ci := 11) (k := 9) hx hb hts iX11 hown hG hP (yi_1 hL) (yt_1 hL) rfl (by decide) w_406 (fun _ h9 => h9) rfl rfl (yr_1_9 hL) d_1_50_29 ?_
      refine lv_aload_n hx hb d_1_50_32 rfl (lv_at hl 0 rfl) ?_
      refine m_gi (C := "Ballothall") (T := TX11) (N := 14) (ci := 11) (k := 10) hx hb hts iX11 hown hG hP (yi_1 hL) (yt_1 hL) rfl (by decide) w_407 (fun _ h9 => h9) rfl rfl d_1_50_33 ?_
      obtain ⟨ok2, h⟩ := ck_e h
      refine m_ia hx hb hG hP (yi_248 hL) (yt_248 hL) ok2 d_1_50_36 ?_
      obtain ⟨M3, g3, h⟩ := bd_e h
      refine kV (As := [.int (M.1 246 (M.1 1 10).toNatClampNeg), .int (M.1 247 (M.1 1 10).toNatClampNeg), .int (M.1 248 (M.1 1 10).toNatClampNeg)]) (rest := []) (s_B_takeChangeBack l z ad E M (M.1 246 (M.1 1 10).toNatClampNeg) (M.1 247 (M.1 1 10).toNatClampNeg) (M.1 248 (M.1 1 10).toNatClampNeg) M3 hL g3) hx hb hml hown hts w_1495 w_1492 w_1494 w_s_46a037 w_1 md_d03cf9 ⟨Nat.le_of_ble_eq_true rfl, Nat.le_of_ble_eq_true rfl⟩ hG hZ hP hD hS hA 1 (wv_o (ci := 11) (yi_1 hL) (yt_1 hL)) rfl rfl rfl hl.1 rfl (Nat.le_of_ble_eq_true rfl) d_1_50_37 ⟨Nat.le_of_ble_eq_true rfl, Nat.le_of_ble_eq_true rfl⟩ (fun _ H locs hP hD hS => ?_)
      have hP : va_P z.1 classes (wv z ad E M3) H := hP
      have hD : va_D A (wv z ad E M3) := hD
      refine W.eq (g2 := F0 m 40 ls []) rfl ?_
      refine lv_aload_n hx hb d_1_50_40 rfl (lv_at hl 0 rfl) ?_
      refine lv_aload_n hx hb d_1_50_41 rfl (lv_at hl 0 rfl) ?_
      refine m_gi (C := "Ballothall") (T := TX11) (N := 14) (ci := 11) (k := 10) hx hb hts iX11 hown hG hP (yi_1 hL) (yt_1 hL) rfl (by decide) w_407 (fun _ h9 => h9) rfl rfl d_1_50_42 ?_
      refine lv_bipush (v := 20) hx hb d_1_50_45 (by decide +kernel) ?_
      refine lv_iadd hx hb d_1_50_47 ?_
      refine lv_iconst (v := 1) hx hb d_1_50_48 (by decide +kernel) ?_
      refine lv_isub hx hb d_1_50_49 ?_
      refine lv_bipush (v := 20) hx hb d_1_50_50 (by decide +kernel) ?_
      refine lv_irem hx hb d_1_50_52 (by decide +kernel) ?_
      refine nrm (x1 := (rmI (((M3.1 1 10) + (20 : Int32)) - (1 : Int32)) (20 : Int32))) rfl ?_
      refine m_pi (C := "Ballothall") (T := TX11) (N := 14) (ci := 11) (k := 10) (ty := .int) hx hb hts iX11 hown hG hP hD hS (yi_1 hL) (yt_1 hL) rfl (by decide) w_407 (fun _ h9 => h9) rfl rfl tyX11_ok nmX11 rfl (by decide +kernel) rfl rfl d_1_50_53 (fun H locs hP hD hS => ?_)
      have hP : va_P z.1 classes (wv z ad E (u2 M3 1 10 (rmI (((M3.1 1 10) + (20 : Int32)) - (1 : Int32)) (20 : Int32)))) H := hP
      have hD : va_D A (wv z ad E (u2 M3 1 10 (rmI (((M3.1 1 10) + (20 : Int32)) - (1 : Int32)) (20 : Int32)))) := hD
      refine lv_aload_n hx hb d_1_50_56 rfl (lv_at hl 0 rfl) ?_
      refine lv_dup hx hb d_1_50_57 rfl ?_
      refine m_gi (C := "Ballothall") (T := TX11) (N := 14) (ci := 11) (k := 11) hx hb hts iX11 hown hG hP (yi_1 hL) (yt_1 hL) rfl (by decide) w_408 (fun _ h9 => h9) rfl rfl d_1_50_58 ?_
      refine lv_iconst (v := 1) hx hb d_1_50_61 (by decide +kernel) ?_
      refine lv_isub hx hb d_1_50_62 ?_
      refine m_pi (C := "Ballothall") (T := TX11) (N := 14) (ci := 11) (k := 11) (ty := .int) hx hb hts iX11 hown hG hP hD hS (yi_1 hL) (yt_1 hL) rfl (by decide) w_408 (fun _ h9 => h9) rfl rfl tyX11_ok nmX11 rfl (by decide +kernel) rfl rfl d_1_50_63 (fun H locs hP hD hS => ?_)
      have hP : va_P z.1 classes (wv z ad E (u2 (u2 M3 1 10 (rmI (((M3.1 1 10) + (20 : Int32)) - (1 : Int32)) (20 : Int32))) 1 11 (((u2 M3 1 10 (rmI (((M3.1 1 10) + (20 : Int32)) - (1 : Int32)) (20 : Int32))).1 1 11) - (1 : Int32)))) H := hP
      have hD : va_D A (wv z ad E (u2 (u2 M3 1 10 (rmI (((M3.1 1 10) + (20 : Int32)) - (1 : Int32)) (20 : Int32))) 1 11 (((u2 M3 1 10 (rmI (((M3.1 1 10) + (20 : Int32)) - (1 : Int32)) (20 : Int32))).1 1 11) - (1 : Int32)))) := hD
      obtain ⟨M4, e4, h⟩ := nb_e h
      rw [← e4] at hP hD
      refine lv_aload_n hx hb d_1_50_66 rfl (lv_at hl 0 rfl) ?_
      refine m_gi (C := "Ballothall") (T := TX11) (N := 14) (ci := 11) (k := 11) hx hb hts iX11 hown hG hP (yi_1 hL) (yt_1 hL) rfl (by decide) w_408 (fun _ h9 => h9) rfl rfl d_1_50_67 ?_
      obtain ⟨rfl, rfl⟩ := in2 h
      exact W.iret hx hb hr (fun t ht hW => qkA hP hD hS (fun k => k) rfl rfl ht) hS.2.2 d_1_50_70
    · have h := ite_t c9 h
      refine lv_iconst (v := (-1)) hx hb d_1_50_7 (by decide +kernel) ?_
      obtain ⟨rfl, rfl⟩ := in2 h
      exact W.iret hx hb hr (fun t ht hW => qkA hP hD hS (fun k => k) rfl rfl ht) hS.2.2 d_1_50_8
  exact key _ _ _ hts hP hS
set_option maxRecDepth 100000 in
set_option maxHeartbeats 4000000 in
theorem s_Wa_append (l : Launch) (z : Zz) (ad : Nat → Nat) (E : Ev) (M : Mm) (x1 : Int32) (x2 : Int32) (x3 : Int32) (r : Int32) (N : Mm) (hL : Lay E) (h : f_Wa_append E M x1 x2 x3 = some (r, N)) : CT l z ⟨"Ballothall$Wards", "append", "(III)I"⟩ prog_12_method_2_code 5 (some .int) [.ref (ad 219), .int x1, .int x2, .int x3] (wv z ad E M) 0 20 0 0 (fun _ => some (.int r)) (fun _ => wv z ad E N) := by
  refine CT.of (own := "Ballothall$Wards") (by decide +kernel) (Nat.le_of_ble_eq_true rfl) rfl (fun p e s m below meth c A ls hx hb hml hr hts hown hlocks hin hA hG hZ hP hD hS hl => ?_)
  have hl : lv_has ls 5 [(0, .ref (ad 219)), (1, .int x1), (2, .int x2), (3, .int x3)] := hl
  have key : ∀ (H : Heap) (locs : List Loc) (args : Array Value), (∀ w ∈ WG, w.before args s = true) → va_P z.1 classes (wv z ad E M) H → va_S A s.heap H locs → W p l e (rmK 0 20 0 0) s m args below meth c H locs 0 0 (MQ below (QK z A (fun _ => some (.int r)) (fun _ => wv z ad E N)) args s 0 0 A) (F0 m 0 ls []) := by
    intro H locs args hts hP hS
    unfold f_Wa_append at h
    refine lv_aload_n hx hb d_12_2_0 rfl (lv_at hl 0 rfl) ?_
    refine m_gi (C := "Ballothall$Wards") (T := TX10) (N := 5) (ci := 10) (k := 0) hx hb hts iX10 hown hG hP (yi_219 hL) (yt_219 hL) rfl (by decide) w_358 (fun _ h9 => h9) rfl rfl d_12_2_1 ?_
    refine lv_istore (lv' := [(4, .int (M.1 219 0)), (0, .ref (ad 219)), (1, .int x1), (2, .int x2), (3, .int x3)]) hx hb d_12_2_4 hl (by decide) rfl (fun ls hl => ?_)
    refine lv_aload_n hx hb d_12_2_6 rfl (lv_at hl 1 rfl) ?_
    refine m_gr (j := 220) (C := "Ballothall$Wards") (T := TX10) (N := 5) (ci := 10) (k := 1) hx hb hts iX10 hown hG hP (yi_219 hL) (yt_219 hL) rfl (by decide) w_360 (fun _ h9 => h9) rfl rfl (yr_219_1 hL) d_12_2_7 ?_
    refine lv_iload hx hb d_12_2_10 (lv_at hl 0 rfl) ?_
    refine lv_iload_n hx hb d_12_2_12 rfl (lv_at hl 2 rfl) ?_
    obtain ⟨ok0, h⟩ := ck_e h
    refine m_is hx hb hG hP hD hS (yi_220 hL) (yt_220 hL) ok0 d_12_2_13 (fun H locs hP hD hS => ?_)
    have hP : va_P z.1 classes (wv z ad E (u2 M 220 (M.1 219 0).toNatClampNeg x1)) H := hP
    have hD : va_D A (wv z ad E (u2 M 220 (M.1 219 0).toNatClampNeg x1)) := hD
    refine lv_aload_n hx hb d_12_2_14 rfl (lv_at hl 1 rfl) ?_
    refine m_gr (j := 221) (C := "Ballothall$Wards") (T := TX10) (N := 5) (ci := 10) (k := 2) hx hb hts iX10 hown hG hP (yi_219 hL) (yt_219 hL) rfl (by decide) w_361 (fun _ h9 => h9) rfl rfl (yr_219_2 hL) d_12_2_15 ?_
    refine lv_iconst (v := 0) hx hb d_12_2_18 (by decide +kernel) ?_
    refine m_ar (k := 222) hx hb hG hP (yi_221 hL) (yt_221 hL) (by decide +kernel) ((ya_221 hL (by decide +kernel)).trans (by decide +kernel)) d_12_2_19 ?_
    refine lv_iload hx hb d_12_2_20 (lv_at hl 0 rfl) ?_
    refine lv_iload_n hx hb d_12_2_22 rfl (lv_at hl 3 rfl) ?_
    obtain ⟨ok1, h⟩ := ck_e h
    refine m_is hx hb hG hP hD hS (yi_222 hL) (yt_222 hL) ok1 d_12_2_23 (fun H locs hP hD hS => ?_)
    have hP : va_P z.1 classes (wv z ad E (u2 (u2 M 220 (M.1 219 0).toNatClampNeg x1) 222 (M.1 219 0).toNatClampNeg x2)) H := hP
    have hD : va_D A (wv z ad E (u2 (u2 M 220 (M.1 219 0).toNatClampNeg x1) 222 (M.1 219 0).toNatClampNeg x2)) := hD
    refine lv_aload_n hx hb d_12_2_24 rfl (lv_at hl 1 rfl) ?_
    refine m_gr (j := 221) (C := "Ballothall$Wards") (T := TX10) (N := 5) (ci := 10) (k := 2) hx hb hts iX10 hown hG hP (yi_219 hL) (yt_219 hL) rfl (by decide) w_361 (fun _ h9 => h9) rfl rfl (yr_219_2 hL) d_12_2_25 ?_
    refine lv_iconst (v := 1) hx hb d_12_2_28 (by decide +kernel) ?_
    refine m_ar (k := 223) hx hb hG hP (yi_221 hL) (yt_221 hL) (by decide +kernel) ((ya_221 hL (by decide +kernel)).trans (by decide +kernel)) d_12_2_29 ?_
    refine lv_iload hx hb d_12_2_30 (lv_at hl 0 rfl) ?_
    refine lv_iload_n hx hb d_12_2_32 rfl (lv_at hl 4 rfl) ?_
    obtain ⟨ok2, h⟩ := ck_e h
    refine m_is hx hb hG hP hD hS (yi_223 hL) (yt_223 hL) ok2 d_12_2_33 (fun H locs hP hD hS => ?_)
    have hP : va_P z.1 classes (wv z ad E (u2 (u2 (u2 M 220 (M.1 219 0).toNatClampNeg x1) 222 (M.1 219 0).toNatClampNeg x2) 223 (M.1 219 0).toNatClampNeg x3)) H := hP
    have hD : va_D A (wv z ad E (u2 (u2 (u2 M 220 (M.1 219 0).toNatClampNeg x1) 222 (M.1 219 0).toNatClampNeg x2) 223 (M.1 219 0).toNatClampNeg x3)) := hD
    obtain ⟨M3, e3, h⟩ := nb_e h
    rw [← e3] at hP hD
    refine lv_aload_n hx hb d_12_2_34 rfl (lv_at hl 1 rfl) ?_
    refine lv_dup hx hb d_12_2_35 rfl ?_
    refine m_gi (C := "Ballothall$Wards") (T := TX10) (N := 5) (ci := 10) (k := 0) hx hb hts iX10 hown hG hP (yi_219 hL) (yt_219 hL) rfl (by decide) w_358 (fun _ h9 => h9) rfl rfl d_12_2_36 ?_
    refine lv_iconst (v := 1) hx hb d_12_2_39 (by decide +kernel) ?_
    refine lv_iadd hx hb d_12_2_40 ?_
    refine m_pi (C := "Ballothall$Wards") (T := TX10) (N := 5) (ci := 10) (k := 0) (ty := .int) hx hb hts iX10 hown hG hP hD hS (yi_219 hL) (yt_219 hL) rfl (by decide) w_358 (fun _ h9 => h9) rfl rfl tyX10_ok nmX10 rfl (by decide +kernel) rfl rfl d_12_2_41 (fun H locs hP hD hS => ?_)
    have hP : va_P z.1 classes (wv z ad E (u2 M3 219 0 ((M3.1 219 0) + (1 : Int32)))) H := hP
    have hD : va_D A (wv z ad E (u2 M3 219 0 ((M3.1 219 0) + (1 : Int32)))) := hD
    refine lv_iload hx hb d_12_2_44 (lv_at hl 0 rfl) ?_
    obtain ⟨rfl, rfl⟩ := in2 h
    exact W.iret hx hb hr (fun t ht hW => qkA hP hD hS (fun k => k) rfl rfl ht) hS.2.2 d_12_2_46
  exact key _ _ _ hts hP hS
set_option maxRecDepth 100000 in
set_option maxHeartbeats 4000000 in
theorem s_B_ward (l : Launch) (z : Zz) (ad : Nat → Nat) (E : Ev) (M : Mm) (x1 : Int32) (x2 : Int32) (x3 : Int32) (r : Int32) (N : Mm) (hL : Lay E) (h : f_B_ward E M x1 x2 x3 = some (r, N)) : CT l z ⟨"Ballothall", "ward", "(III)I"⟩ prog_1_method_41_code 5 (some .int) [.ref (ad 1), .int x1, .int x2, .int x3] (wv z ad E M) 2 63 0 0 (fun _ => some (.int r)) (fun _ => wv z ad E N) := by
  refine CT.of (own := "Ballothall") (by decide +kernel) (Nat.le_of_ble_eq_true rfl) rfl (fun p e s m below meth c A ls hx hb hml hr hts hown hlocks hin hA hG hZ hP hD hS hl => ?_)
  have hl : lv_has ls 5 [(0, .ref (ad 1)), (1, .int x1), (2, .int x2), (3, .int x3)] := hl
  have key : ∀ (H : Heap) (locs : List Loc) (args : Array Value), (∀ w ∈ WG, w.before args s = true) → va_P z.1 classes (wv z ad E M) H → va_S A s.heap H locs → W p l e (rmK 2 63 0 0) s m args below meth c H locs 0 0 (MQ below (QK z A (fun _ => some (.int r)) (fun _ => wv z ad E N)) args s 0 0 A) (F0 m 0 ls []) := by
    intro H locs args hts hP hS
    unfold f_B_ward at h
    refine lv_iload_n hx hb d_1_41_0 rfl (lv_at hl 1 rfl) ?_
    refine lv_iconst (v := 1) hx hb d_1_41_1 (by decide +kernel) ?_
    refine lv_ldc hx hb hown (hts _ w_1022) d_1_41_2 ?_
    obtain ⟨M0, g0, h⟩ := bd_e h
    refine kS (As := [.int x1, .int 1, .int 100000]) (rest := []) (s_B_needRange l z ad E M x1 1 100000 M0 hL g0) hx hb hml hown hts w_548 w_546 w_547 w_1 md_519134 ⟨Nat.le_of_ble_eq_true rfl, Nat.le_of_ble_eq_true rfl⟩ hG hZ hP hD hS hA rfl hl.1 rfl (Nat.le_of_ble_eq_true rfl) d_1_41_4 ⟨Nat.le_of_ble_eq_true rfl, Nat.le_of_ble_eq_true rfl⟩ (fun _ H locs hP hD hS => ?_)
    have hP : va_P z.1 classes (wv z ad E M0) H := hP
    have hD : va_D A (wv z ad E M0) := hD
    refine W.eq (g2 := F0 m 7 ls []) rfl ?_
    refine lv_iload_n hx hb d_1_41_7 rfl (lv_at hl 2 rfl) ?_
    refine lv_iconst (v := 0) hx hb d_1_41_8 (by decide +kernel) ?_
    refine lv_ldc hx hb hown (hts _ w_1022) d_1_41_9 ?_
    obtain ⟨M1, g1, h⟩ := bd_e h
    refine kS (As := [.int x2, .int 0, .int 100000]) (rest := []) (s_B_needRange l z ad E M0 x2 0 100000 M1 hL g1) hx hb hml hown hts w_548 w_546 w_547 w_1 md_519134 ⟨Nat.le_of_ble_eq_true rfl, Nat.le_of_ble_eq_true rfl⟩ hG hZ hP hD hS hA rfl hl.1 rfl (Nat.le_of_ble_eq_true rfl) d_1_41_11 ⟨Nat.le_of_ble_eq_true rfl, Nat.le_of_ble_eq_true rfl⟩ (fun _ H locs hP hD hS => ?_)
    have hP : va_P z.1 classes (wv z ad E M1) H := hP
    have hD : va_D A (wv z ad E M1) := hD
    refine W.eq (g2 := F0 m 14 ls []) rfl ?_
    refine lv_iload_n hx hb d_1_41_14 rfl (lv_at hl 3 rfl) ?_
    refine lv_iconst (v := 0) hx hb d_1_41_15 (by decide +kernel) ?_
    refine lv_ldc hx hb hown (hts _ w_1022) d_1_41_16 ?_
    obtain ⟨M2, g2, h⟩ := bd_e h
    refine kS (As := [.int x3, .int 0, .int 100000]) (rest := []) (s_B_needRange l z ad E M1 x3 0 100000 M2 hL g2) hx hb hml hown hts w_548 w_546 w_547 w_1 md_519134 ⟨Nat.le_of_ble_eq_true rfl, Nat.le_of_ble_eq_true rfl⟩ hG hZ hP hD hS hA rfl hl.1 rfl (Nat.le_of_ble_eq_true rfl) d_1_41_18 ⟨Nat.le_of_ble_eq_true rfl, Nat.le_of_ble_eq_true rfl⟩ (fun _ H locs hP hD hS => ?_)
    have hP : va_P z.1 classes (wv z ad E M2) H := hP
    have hD : va_D A (wv z ad E M2) := hD
    refine W.eq (g2 := F0 m 21 ls []) rfl ?_
    refine lv_aload_n hx hb d_1_41_21 rfl (lv_at hl 0 rfl) ?_
    refine m_gr (j := 219) (C := "Ballothall") (T := TX11) (N := 14) (ci := 11) (k := 5) hx hb hts iX11 hown hG hP (yi_1 hL) (yt_1 hL) rfl (by decide) w_402 (fun _ h9 => h9) rfl rfl (yr_1_5 hL) d_1_41_22 ?_
    refine m_giN (C := "Ballothall$Wards") (T := TX10) (N := 5) (ci := 10) (k := 0) hx hb hts iX10 hown hG hP (yi_219 hL) (yt_219 hL) rfl (by decide) n_359 rfl (fun _ h9 => h9) rfl rfl d_1_41_25 ?_
    refine lv_iconst (v := 1) hx hb d_1_41_28 (by decide +kernel) ?_
    refine lv_iadd hx hb d_1_41_29 ?_
    refine lv_bipush (v := 16) hx hb d_1_41_30 (by decide +kernel) ?_
    obtain ⟨M3, g3, h⟩ := bd_e h
    refine kS (As := [.int ((M2.1 219 0) + (1 : Int32)), .int 16]) (rest := []) (s_B_needRoom l z ad E M2 ((M2.1 219 0) + (1 : Int32)) 16 M3 hL g3) hx hb hml hown hts w_446 w_444 w_445 w_1 md_ec9fa9 ⟨Nat.le_of_ble_eq_true rfl, Nat.le_of_ble_eq_true rfl⟩ hG hZ hP hD hS hA rfl hl.1 rfl (Nat.le_of_ble_eq_true rfl) d_1_41_32 ⟨Nat.le_of_ble_eq_true rfl, Nat.le_of_ble_eq_true rfl⟩ (fun _ H locs hP hD hS => ?_)
    have hP : va_P z.1 classes (wv z ad E M3) H := hP
    have hD : va_D A (wv z ad E M3) := hD
    refine W.eq (g2 := F0 m 35 ls []) rfl ?_
    refine lv_aload_n hx hb d_1_41_35 rfl (lv_at hl 0 rfl) ?_
    refine m_gr (j := 219) (C := "Ballothall") (T := TX11) (N := 14) (ci := 11) (k := 5) hx hb hts iX11 hown hG hP (yi_1 hL) (yt_1 hL) rfl (by decide) w_402 (fun _ h9 => h9) rfl rfl (yr_1_5 hL) d_1_41_36 ?_
    refine lv_iload_n hx hb d_1_41_39 rfl (lv_at hl 1 rfl) ?_
    refine lv_iload_n hx hb d_1_41_40 rfl (lv_at hl 2 rfl) ?_
    refine lv_iload_n hx hb d_1_41_41 rfl (lv_at hl 3 rfl) ?_
    obtain ⟨⟨r4, M4⟩, g4, h⟩ := bd_e h
    refine kVN (As := [.int x1, .int x2, .int x3]) (rest := []) (s_Wa_append l z ad E M3 x1 x2 x3 r4 M4 hL g4) hx hb hml hown hts w_1613 n_1610 w_1612 w_s_c4bf49 w_10 md_d51d3b ⟨Nat.le_of_ble_eq_true rfl, Nat.le_of_ble_eq_true rfl⟩ hG hZ hP hD hS hA 219 (wv_o (ci := 10) (yi_219 hL) (yt_219 hL)) rfl rfl rfl hl.1 rfl (Nat.le_of_ble_eq_true rfl) d_1_41_42 ⟨Nat.le_of_ble_eq_true rfl, Nat.le_of_ble_eq_true rfl⟩ (fun _ H locs hP hD hS => ?_)
    have hP : va_P z.1 classes (wv z ad E M4) H := hP
    have hD : va_D A (wv z ad E M4) := hD
    refine W.eq (g2 := F0 m 45 ls [.int r4]) rfl ?_
    refine lv_istore (lv' := [(4, .int r4), (0, .ref (ad 1)), (1, .int x1), (2, .int x2), (3, .int x3)]) hx hb d_1_41_45 hl (by decide) rfl (fun ls hl => ?_)
    refine lv_aload_n hx hb d_1_41_47 rfl (lv_at hl 1 rfl) ?_
    refine lv_bipush (v := 10) hx hb d_1_41_48 (by decide +kernel) ?_
    refine lv_iload hx hb d_1_41_50 (lv_at hl 0 rfl) ?_
    refine lv_iconst (v := 0) hx hb d_1_41_52 (by decide +kernel) ?_
    obtain ⟨M5, g5, h⟩ := bd_e h
    refine kV (As := [.int 10, .int r4, .int 0]) (rest := []) (s_B_remember l z ad E M4 10 r4 0 M5 hL g5) hx hb hml hown hts w_519 w_516 w_518 w_s_b872b3 w_1 md_7af0bb ⟨Nat.le_of_ble_eq_true rfl, Nat.le_of_ble_eq_true rfl⟩ hG hZ hP hD hS hA 1 (wv_o (ci := 11) (yi_1 hL) (yt_1 hL)) rfl rfl rfl hl.1 rfl (Nat.le_of_ble_eq_true rfl) d_1_41_53 ⟨Nat.le_of_ble_eq_true rfl, Nat.le_of_ble_eq_true rfl⟩ (fun _ H locs hP hD hS => ?_)
    have hP : va_P z.1 classes (wv z ad E M5) H := hP
    have hD : va_D A (wv z ad E M5) := hD
    refine W.eq (g2 := F0 m 56 ls []) rfl ?_
    refine lv_iload hx hb d_1_41_56 (lv_at hl 0 rfl) ?_
    obtain ⟨rfl, rfl⟩ := in2 h
    exact W.iret hx hb hr (fun t ht hW => qkA hP hD hS (fun k => k) rfl rfl ht) hS.2.2 d_1_41_58
  exact key _ _ _ hts hP hS
set_option maxRecDepth 100000 in
set_option maxHeartbeats 4000000 in
theorem b_B_wasted_32b (l : Launch) (z : Zz) (ad : Nat → Nat) (E : Ev) (M : Mm) (x1 : Int32) (x2 : Int32) (x3 : Int32) (x4 : Int32) (t : Nat) (w3 : Int32) (w4 : Int32) (N : Mm) {Q : State → Prop} {p : Program} {e : Env} {s : State} {m : MethodId} {below : List Frame} {meth : Method} {c : Code} {A : Nat → Prop} {args : Array Value} (hx : p.tables.exec = Jvm.exec) (hb : c.code = prog_1_method_45_code) (hml : c.maxLocals = 7) (hts : ∀ w ∈ WG, w.before args s = true) (hown : s.vm.findClass "Ballothall" = some m.cls) (hlocks : meth.locks = false) (hA : ∀ q, s.heap.size ≤ q → A q) (hG : KG z s) (hZ : FZ z A s) (hL : Lay E) (h : B_wasted_32b E M x1 x2 x3 x4 = some (t, w3, w4, N)) (k0 : t = 0 → ∀ (H : Heap) (locs : List Loc) (ls : Array Slot), va_P z.1 classes (wv z ad E N) H → va_D A (wv z ad E N) → va_S A s.heap H locs → lv_has ls 7 [(0, .ref (ad 1)), (1, .int x1), (2, .int x2), (3, .int w3), (4, .int w4)] → W p l e (rmK 3 91 0 0) s m args below meth c H locs 0 0 Q (F0 m 32 ls [])) (k1 : t = 1 → ∀ (H : Heap) (locs : List Loc) (ls : Array Slot), va_P z.1 classes (wv z ad E N) H → va_D A (wv z ad E N) → va_S A s.heap H locs → lv_has ls 7 [(3, .int w3)] → W p l e (rmK 3 91 0 0) s m args below meth c H locs 0 0 Q (F0 m 97 ls [])) : ∀ (H : Heap) (locs : List Loc) (ls : Array Slot), va_P z.1 classes (wv z ad E M) H → va_D A (wv z ad E M) → va_S A s.heap H locs → lv_has ls 7 [(0, .ref (ad 1)), (1, .int x1), (2, .int x2), (3, .int x3), (4, .int x4)] → W p l e (rmK 3 91 0 0) s m args below meth c H locs 0 0 Q (F0 m 32 ls []) := by
  intro H locs ls hP hD hS hl
  unfold B_wasted_32b at h
  refine lv_iload hx hb d_1_45_32 (lv_at hl 4 rfl) ?_
  refine lv_iload_n hx hb d_1_45_34 rfl (lv_at hl 1 rfl) ?_
  refine lv_icmp_ge (tgt := 97) hx hb d_1_45_35 (by decide) (fun c9 => ?_) (fun c9 => ?_)
  · have h := ite_t c9 h
    obtain ⟨rfl, rfl, rfl, rfl⟩ := in4 h
    exact k1 rfl H locs ls hP hD hS (lv_sub hl [3] rfl)
  · have h := ite_f c9 h
    refine lv_aload_n hx hb d_1_45_38 rfl (lv_at hl 0 rfl) ?_
    refine m_gr (j := 219) (C := "Ballothall") (T := TX11) (N := 14) (ci := 11) (k := 5) hx hb hts iX11 hown hG hP (yi_1 hL) (yt_1 hL) rfl (by decide) w_402 (fun _ h9 => h9) rfl rfl (yr_1_5 hL) d_1_45_39 ?_
    refine lv_iload hx hb d_1_45_42 (lv_at hl 4 rfl) ?_
    refine lv_iload_n hx hb d_1_45_44 rfl (lv_at hl 2 rfl) ?_
    obtain ⟨⟨r3, M3⟩, g3, h⟩ := bd_e h
    refine kVN (As := [.int x4, .int x2]) (rest := []) (s_Wa_votesIn l z ad E M x4 x2 r3 M3 hL g3) hx hb hml hown hts w_1648 n_1645 w_1647 w_s_a85b93 w_10 md_2866d7 ⟨Nat.le_of_ble_eq_true rfl, Nat.le_of_ble_eq_true rfl⟩ hG hZ hP hD hS hA 219 (wv_o (ci := 10) (yi_219 hL) (yt_219 hL)) rfl rfl rfl hl.1 rfl (Nat.le_of_ble_eq_true rfl) d_1_45_45 ⟨Nat.le_of_ble_eq_true rfl, Nat.le_of_ble_eq_true rfl⟩ (fun _ H locs hP hD hS => ?_)
    have hP : va_P z.1 classes (wv z ad E M3) H := hP
    have hD : va_D A (wv z ad E M3) := hD
    refine W.eq (g2 := F0 m 48 ls [.int r3]) rfl ?_
    refine lv_istore (lv' := [(5, .int r3), (0, .ref (ad 1)), (1, .int x1), (2, .int x2), (3, .int x3), (4, .int x4)]) hx hb d_1_45_48 hl (by decide) rfl (fun ls hl => ?_)
    refine lv_aload_n hx hb d_1_45_50 rfl (lv_at hl 1 rfl) ?_
    refine m_gr (j := 219) (C := "Ballothall") (T := TX11) (N := 14) (ci := 11) (k := 5) hx hb hts iX11 hown hG hP (yi_1 hL) (yt_1 hL) rfl (by decide) w_402 (fun _ h9 => h9) rfl rfl (yr_1_5 hL) d_1_45_51 ?_
    refine lv_iload hx hb d_1_45_54 (lv_at hl 5 rfl) ?_
    refine lv_iconst (v := 1) hx hb d_1_45_56 (by decide +kernel) ?_
    refine lv_iload_n hx hb d_1_45_57 rfl (lv_at hl 3 rfl) ?_
    refine lv_isub hx hb d_1_45_58 ?_
    obtain ⟨⟨r4, M4⟩, g4, h⟩ := bd_e h
    refine kVN (As := [.int x4, .int ((1 : Int32) - x2)]) (rest := []) (s_Wa_votesIn l z ad E M3 x4 ((1 : Int32) - x2) r4 M4 hL g4) hx hb hml hown hts w_1648 n_1645 w_1647 w_s_a85b93 w_10 md_2866d7 ⟨Nat.le_of_ble_eq_true rfl, Nat.le_of_ble_eq_true rfl⟩ hG hZ hP hD hS hA 219 (wv_o (ci := 10) (yi_219 hL) (yt_219 hL)) rfl rfl rfl hl.1 rfl (Nat.le_of_ble_eq_true rfl) d_1_45_59 ⟨Nat.le_of_ble_eq_true rfl, Nat.le_of_ble_eq_true rfl⟩ (fun _ H locs hP hD hS => ?_)
    have hP : va_P z.1 classes (wv z ad E M4) H := hP
    have hD : va_D A (wv z ad E M4) := hD
    refine W.eq (g2 := F0 m 62 ls [.int r4]) rfl ?_
    refine lv_istore (lv' := [(6, .int r4), (5, .int r3), (0, .ref (ad 1)), (1, .int x1), (2, .int x2), (3, .int x3), (4, .int x4)]) hx hb d_1_45_62 hl (by decide) rfl (fun ls hl => ?_)
    refine lv_iload_n hx hb d_1_45_64 rfl (lv_at hl 5 rfl) ?_
    refine lv_iload hx hb d_1_45_65 (lv_at hl 1 rfl) ?_
    refine lv_iload hx hb d_1_45_67 (lv_at hl 0 rfl) ?_
    refine lv_icmp_le (tgt := 87) hx hb d_1_45_69 (by decide) (fun c9 => ?_) (fun c9 => ?_)
    · have h := ite_t c9 h
      refine lv_iload hx hb d_1_45_87 (lv_at hl 1 rfl) ?_
      refine lv_iadd hx hb d_1_45_89 ?_
      refine lv_istore_n (lv' := [(3, .int (x3 + r3)), (6, .int r4), (5, .int r3), (0, .ref (ad 1)), (1, .int x1), (2, .int x2), (4, .int x4)]) hx hb d_1_45_90 rfl hl (by decide) rfl (fun ls hl => ?_)
      refine lv_iinc (v := (x4 + 1)) (lv' := [(4, .int (x4 + 1)), (3, .int (x3 + r3)), (6, .int r4), (5, .int r3), (0, .ref (ad 1)), (1, .int x1), (2, .int x2)]) hx hb d_1_45_91 hl (k := 6) rfl (congrArg (fun q => x4 + q) (show Int32.ofInt 1 = 1 by decide +kernel)) (by decide) rfl (fun ls hl => ?_)
      refine lv_goto (tgt := 32) hx hb d_1_45_94 (by decide) ?_
      obtain ⟨rfl, rfl, rfl, rfl⟩ := in4 h
      exact k0 rfl H locs ls hP hD hS (lv_sub hl [4, 5, 6, 1, 0] rfl)
    · have h := ite_f c9 h
      refine lv_iload hx hb d_1_45_72 (lv_at hl 1 rfl) ?_
      refine lv_iload hx hb d_1_45_74 (lv_at hl 1 rfl) ?_
      refine lv_iload hx hb d_1_45_76 (lv_at hl 0 rfl) ?_
      refine lv_iadd hx hb d_1_45_78 ?_
      refine lv_iconst (v := 2) hx hb d_1_45_79 (by decide +kernel) ?_
      refine lv_idiv hx hb d_1_45_80 (by decide +kernel) ?_
      refine lv_isub hx hb d_1_45_81 ?_
      refine lv_iconst (v := 1) hx hb d_1_45_82 (by decide +kernel) ?_
      refine lv_isub hx hb d_1_45_83 ?_
      refine lv_goto (tgt := 89) hx hb d_1_45_84 (by decide) ?_
      refine lv_iadd hx hb d_1_45_89 ?_
      obtain ⟨v5, e5, h⟩ := nb_e h
      refine nrm e5.symm ?_
      refine lv_istore_n (lv' := [(3, .int v5), (6, .int r4), (5, .int r3), (0, .ref (ad 1)), (1, .int x1), (2, .int x2), (4, .int x4)]) hx hb d_1_45_90 rfl hl (by decide) rfl (fun ls hl => ?_)
      refine lv_iinc (v := (x4 + 1)) (lv' := [(4, .int (x4 + 1)), (3, .int v5), (6, .int r4), (5, .int r3), (0, .ref (ad 1)), (1, .int x1), (2, .int x2)]) hx hb d_1_45_91 hl (k := 6) rfl (congrArg (fun q => x4 + q) (show Int32.ofInt 1 = 1 by decide +kernel)) (by decide) rfl (fun ls hl => ?_)
      refine lv_goto (tgt := 32) hx hb d_1_45_94 (by decide) ?_
      obtain ⟨rfl, rfl, rfl, rfl⟩ := in4 h
      exact k0 rfl H locs ls hP hD hS (lv_sub hl [4, 5, 6, 1, 0] rfl)
set_option maxRecDepth 100000 in
set_option maxHeartbeats 4000000 in
theorem s_B_wasted_32 (l : Launch) (z : Zz) (ad : Nat → Nat) (E : Ev) (x1 : Int32) (x2 : Int32) {Q : State → Prop} {p : Program} {e : Env} {s : State} {m : MethodId} {below : List Frame} {meth : Method} {c : Code} {A : Nat → Prop} {args : Array Value} (hx : p.tables.exec = Jvm.exec) (hb : c.code = prog_1_method_45_code) (hml : c.maxLocals = 7) (hts : ∀ w ∈ WG, w.before args s = true) (hown : s.vm.findClass "Ballothall" = some m.cls) (hlocks : meth.locks = false) (hA : ∀ q, s.heap.size ≤ q → A q) (hG : KG z s) (hZ : FZ z A s) (hL : Lay E) : ∀ (fu : Nat) (M : Mm) (x3 : Int32) (x4 : Int32) (t : Nat) (w3 : Int32) (w4 : Int32) (N : Mm), l_B_wasted_32 E x1 x2 fu M x3 x4 = some (t, w3, w4, N) → (t = 1 → ∀ (H : Heap) (locs : List Loc) (ls : Array Slot), va_P z.1 classes (wv z ad E N) H → va_D A (wv z ad E N) → va_S A s.heap H locs → lv_has ls 7 [(3, .int w3)] → W p l e (rmK 3 91 0 0) s m args below meth c H locs 0 0 Q (F0 m 97 ls [])) → ∀ (H : Heap) (locs : List Loc) (ls : Array Slot), va_P z.1 classes (wv z ad E M) H → va_D A (wv z ad E M) → va_S A s.heap H locs → lv_has ls 7 [(0, .ref (ad 1)), (1, .int x1), (2, .int x2), (3, .int x3), (4, .int x4)] → W p l e (rmK 3 91 0 0) s m args below meth c H locs 0 0 Q (F0 m 32 ls []) := by
  intro fu
  induction fu with
  | zero =>
    intro M x3 x4 t w3 w4 N h
    have h : (none : Option (Nat × Int32 × Int32 × Mm)) = some _ := h
    cases h
  | succ fu ih =>
    intro M x3 x4 t w3 w4 N h k1 H locs ls hP hD hS hl
    obtain ⟨⟨t0, w30, w40, N0⟩, g0, h⟩ := bd_e h
    refine b_B_wasted_32b l z ad E M x1 x2 x3 x4 t0 w30 w40 N0 hx hb hml hts hown hlocks hA hG hZ hL g0 (fun e0 => ?_) (fun e0 => ?_) H locs ls hP hD hS hl
    · subst e0
      have h := ite_t rfl h
      exact ih N0 w30 w40 t w3 w4 N h k1
    · subst e0
      have h := ite_f (by decide) h
      obtain ⟨rfl, rfl, rfl, rfl⟩ := in4 h
      exact k1 rfl
set_option maxRecDepth 100000 in
set_option maxHeartbeats 4000000 in
theorem s_B_wasted (l : Launch) (z : Zz) (ad : Nat → Nat) (E : Ev) (M : Mm) (x1 : Int32) (x2 : Int32) (r : Int32) (N : Mm) (hL : Lay E) (h : f_B_wasted E M x1 x2 = some (r, N)) : CT l z ⟨"Ballothall", "wasted", "(II)I"⟩ prog_1_method_45_code 7 (some .int) [.ref (ad 1), .int x1, .int x2] (wv z ad E M) 3 91 0 0 (fun _ => some (.int r)) (fun _ => wv z ad E N) := by
  refine CT.of (own := "Ballothall") (by decide +kernel) (Nat.le_of_ble_eq_true rfl) rfl (fun p e s m below meth c A ls hx hb hml hr hts hown hlocks hin hA hG hZ hP hD hS hl => ?_)
  have hl : lv_has ls 7 [(0, .ref (ad 1)), (1, .int x1), (2, .int x2)] := hl
  have key : ∀ (H : Heap) (locs : List Loc) (args : Array Value), (∀ w ∈ WG, w.before args s = true) → va_P z.1 classes (wv z ad E M) H → va_S A s.heap H locs → W p l e (rmK 3 91 0 0) s m args below meth c H locs 0 0 (MQ below (QK z A (fun _ => some (.int r)) (fun _ => wv z ad E N)) args s 0 0 A) (F0 m 0 ls []) := by
    intro H locs args hts hP hS
    unfold f_B_wasted at h
    refine lv_iload_n hx hb d_1_45_0 rfl (lv_at hl 1 rfl) ?_
    refine lv_iconst (v := 1) hx hb d_1_45_1 (by decide +kernel) ?_
    refine lv_aload_n hx hb d_1_45_2 rfl (lv_at hl 0 rfl) ?_
    refine m_gr (j := 219) (C := "Ballothall") (T := TX11) (N := 14) (ci := 11) (k := 5) hx hb hts iX11 hown hG hP (yi_1 hL) (yt_1 hL) rfl (by decide) w_402 (fun _ h9 => h9) rfl rfl (yr_1_5 hL) d_1_45_3 ?_
    refine m_giN (C := "Ballothall$Wards") (T := TX10) (N := 5) (ci := 10) (k := 0) hx hb hts iX10 hown hG hP (yi_219 hL) (yt_219 hL) rfl (by decide) n_359 rfl (fun _ h9 => h9) rfl rfl d_1_45_6 ?_
    obtain ⟨M0, g0, h⟩ := bd_e h
    refine kS (As := [.int x1, .int 1, .int (M.1 219 0)]) (rest := []) (s_B_needRange l z ad E M x1 1 (M.1 219 0) M0 hL g0) hx hb hml hown hts w_548 w_546 w_547 w_1 md_519134 ⟨Nat.le_of_ble_eq_true rfl, Nat.le_of_ble_eq_true rfl⟩ hG hZ hP hD hS hA rfl hl.1 rfl (Nat.le_of_ble_eq_true rfl) d_1_45_9 ⟨Nat.le_of_ble_eq_true rfl, Nat.le_of_ble_eq_true rfl⟩ (fun _ H locs hP hD hS => ?_)
    have hP : va_P z.1 classes (wv z ad E M0) H := hP
    have hD : va_D A (wv z ad E M0) := hD
    refine W.eq (g2 := F0 m 12 ls []) rfl ?_
    refine lv_iload_n hx hb d_1_45_12 rfl (lv_at hl 2 rfl) ?_
    refine lv_iconst (v := 0) hx hb d_1_45_13 (by decide +kernel) ?_
    refine lv_iconst (v := 1) hx hb d_1_45_14 (by decide +kernel) ?_
    obtain ⟨M1, g1, h⟩ := bd_e h
    refine kS (As := [.int x2, .int 0, .int 1]) (rest := []) (s_B_needRange l z ad E M0 x2 0 1 M1 hL g1) hx hb hml hown hts w_548 w_546 w_547 w_1 md_519134 ⟨Nat.le_of_ble_eq_true rfl, Nat.le_of_ble_eq_true rfl⟩ hG hZ hP hD hS hA rfl hl.1 rfl (Nat.le_of_ble_eq_true rfl) d_1_45_15 ⟨Nat.le_of_ble_eq_true rfl, Nat.le_of_ble_eq_true rfl⟩ (fun _ H locs hP hD hS => ?_)
    have hP : va_P z.1 classes (wv z ad E M1) H := hP
    have hD : va_D A (wv z ad E M1) := hD
    refine W.eq (g2 := F0 m 18 ls []) rfl ?_
    refine lv_aload_n hx hb d_1_45_18 rfl (lv_at hl 0 rfl) ?_
    refine m_gr (j := 219) (C := "Ballothall") (T := TX11) (N := 14) (ci := 11) (k := 5) hx hb hts iX11 hown hG hP (yi_1 hL) (yt_1 hL) rfl (by decide) w_402 (fun _ h9 => h9) rfl rfl (yr_1_5 hL) d_1_45_19 ?_
    refine lv_iload_n hx hb d_1_45_22 rfl (lv_at hl 1 rfl) ?_
    obtain ⟨⟨r2, M2⟩, g2, h⟩ := bd_e h
    refine kVN (As := [.int x1]) (rest := []) (s_Wa_divide l z ad E M1 x1 r2 M2 hL g2) hx hb hml hown hts w_1621 n_1618 w_1620 w_s_af9e07 w_10 md_d7e64c ⟨Nat.le_of_ble_eq_true rfl, Nat.le_of_ble_eq_true rfl⟩ hG hZ hP hD hS hA 219 (wv_o (ci := 10) (yi_219 hL) (yt_219 hL)) rfl rfl rfl hl.1 rfl (Nat.le_of_ble_eq_true rfl) d_1_45_23 ⟨Nat.le_of_ble_eq_true rfl, Nat.le_of_ble_eq_true rfl⟩ (fun _ H locs hP hD hS => ?_)
    have hP : va_P z.1 classes (wv z ad E M2) H := hP
    have hD : va_D A (wv z ad E M2) := hD
    refine W.eq (g2 := F0 m 26 ls [.int r2]) rfl ?_
    refine lv_pop hx hb d_1_45_26 rfl ?_
    refine lv_iconst (v := 0) hx hb d_1_45_27 (by decide +kernel) ?_
    refine lv_istore_n (lv' := [(3, .int 0), (0, .ref (ad 1)), (1, .int x1), (2, .int x2)]) hx hb d_1_45_28 rfl hl (by decide) rfl (fun ls hl => ?_)
    refine lv_iconst (v := 0) hx hb d_1_45_29 (by decide +kernel) ?_
    refine lv_istore (lv' := [(4, .int 0), (3, .int 0), (0, .ref (ad 1)), (1, .int x1), (2, .int x2)]) hx hb d_1_45_30 hl (by decide) rfl (fun ls hl => ?_)
    obtain ⟨⟨t6, v6_3, v6_4, M6⟩, g6, h⟩ := bd_e h
    obtain ⟨ok6, h⟩ := ck_e h
    refine s_B_wasted_32 l z ad E x1 x2 hx hb hml hts hown hlocks hA hG hZ hL FU M2 0 0 t6 v6_3 v6_4 M6 g6 (fun e6 H locs ls hP hD hS hl => ?_) H locs ls hP hD hS (lv_sub hl [2, 3, 4, 1, 0] rfl)
    refine lv_iload_n hx hb d_1_45_97 rfl (lv_at hl 0 rfl) ?_
    obtain ⟨rfl, rfl⟩ := in2 h
    exact W.iret hx hb hr (fun t ht hW => qkA hP hD hS (fun k => k) rfl rfl ht) hS.2.2 d_1_45_98
  exact key _ _ _ hts hP hS
set_option maxRecDepth 100000 in
set_option maxHeartbeats 4000000 in
theorem s_B_winner (l : Launch) (z : Zz) (ad : Nat → Nat) (E : Ev) (M : Mm) (x1 : Int32) (r : Int32) (N : Mm) (hL : Lay E) (h : f_B_winner E M x1 = some (r, N)) : CT l z ⟨"Ballothall", "winner", "(I)I"⟩ prog_1_method_32_code 2 (some .int) [.ref (ad 1), .int x1] (wv z ad E M) 5 135 0 0 (fun _ => some (.int r)) (fun _ => wv z ad E N) := by
  refine CT.of (own := "Ballothall") (by decide +kernel) (Nat.le_of_ble_eq_true rfl) rfl (fun p e s m below meth c A ls hx hb hml hr hts hown hlocks hin hA hG hZ hP hD hS hl => ?_)
  have hl : lv_has ls 2 [(0, .ref (ad 1)), (1, .int x1)] := hl
  have key : ∀ (H : Heap) (locs : List Loc) (args : Array Value), (∀ w ∈ WG, w.before args s = true) → va_P z.1 classes (wv z ad E M) H → va_S A s.heap H locs → W p l e (rmK 5 135 0 0) s m args below meth c H locs 0 0 (MQ below (QK z A (fun _ => some (.int r)) (fun _ => wv z ad E N)) args s 0 0 A) (F0 m 0 ls []) := by
    intro H locs args hts hP hS
    unfold f_B_winner at h
    refine lv_iload_n hx hb d_1_32_0 rfl (lv_at hl 1 rfl) ?_
    refine lv_iconst (v := 0) hx hb d_1_32_1 (by decide +kernel) ?_
    refine lv_iconst (v := 4) hx hb d_1_32_2 (by decide +kernel) ?_
    obtain ⟨M0, g0, h⟩ := bd_e h
    refine kS (As := [.int x1, .int 0, .int 4]) (rest := []) (s_B_needRange l z ad E M x1 0 4 M0 hL g0) hx hb hml hown hts w_548 w_546 w_547 w_1 md_519134 ⟨Nat.le_of_ble_eq_true rfl, Nat.le_of_ble_eq_true rfl⟩ hG hZ hP hD hS hA rfl hl.1 rfl (Nat.le_of_ble_eq_true rfl) d_1_32_3 ⟨Nat.le_of_ble_eq_true rfl, Nat.le_of_ble_eq_true rfl⟩ (fun _ H locs hP hD hS => ?_)
    have hP : va_P z.1 classes (wv z ad E M0) H := hP
    have hD : va_D A (wv z ad E M0) := hD
    refine W.eq (g2 := F0 m 6 ls []) rfl ?_
    refine lv_aload_n hx hb d_1_32_6 rfl (lv_at hl 0 rfl) ?_
    refine m_gr (j := 41) (C := "Ballothall") (T := TX11) (N := 14) (ci := 11) (k := 1) hx hb hts iX11 hown hG hP (yi_1 hL) (yt_1 hL) rfl (by decide) w_398 (fun _ h9 => h9) rfl rfl (yr_1_1 hL) d_1_32_7 ?_
    refine lv_aload_n hx hb d_1_32_10 rfl (lv_at hl 0 rfl) ?_
    refine m_gr (j := 2) (C := "Ballothall") (T := TX11) (N := 14) (ci := 11) (k := 0) hx hb hts iX11 hown hG hP (yi_1 hL) (yt_1 hL) rfl (by decide) w_397 (fun _ h9 => h9) rfl rfl (yr_1_0 hL) d_1_32_11 ?_
    obtain ⟨⟨r1, M1⟩, g1, h⟩ := bd_e h
    refine kVN (As := []) (rest := [.ref (ad 41)]) (s_Bx_everybody l z ad E M0 r1 M1 hL g1) hx hb hml hown hts w_668 n_665 w_667 w_s_8b8b67 w_2 md_b59579 ⟨Nat.le_of_ble_eq_true rfl, Nat.le_of_ble_eq_true rfl⟩ hG hZ hP hD hS hA 2 (wv_o (ci := 0) (yi_2 hL) (yt_2 hL)) rfl rfl rfl hl.1 rfl (Nat.le_of_ble_eq_true rfl) d_1_32_14 ⟨Nat.le_of_ble_eq_true rfl, Nat.le_of_ble_eq_true rfl⟩ (fun _ H locs hP hD hS => ?_)
    have hP : va_P z.1 classes (wv z ad E M1) H := hP
    have hD : va_D A (wv z ad E M1) := hD
    refine W.eq (g2 := F0 m 17 ls [.int r1, .ref (ad 41)]) rfl ?_
    obtain ⟨M2, g2, h⟩ := bd_e h
    refine kVN (As := [.int r1]) (rest := []) (s_Po_open l z ad E M1 r1 M2 hL g2) hx hb hml hown hts w_672 n_669 w_671 w_s_229dc4 w_3 md_60bc9b ⟨Nat.le_of_ble_eq_true rfl, Nat.le_of_ble_eq_true rfl⟩ hG hZ hP hD hS hA 41 (wv_o (ci := 9) (yi_41 hL) (yt_41 hL)) rfl rfl rfl hl.1 rfl (Nat.le_of_ble_eq_true rfl) d_1_32_17 ⟨Nat.le_of_ble_eq_true rfl, Nat.le_of_ble_eq_true rfl⟩ (fun _ H locs hP hD hS => ?_)
    have hP : va_P z.1 classes (wv z ad E M2) H := hP
    have hD : va_D A (wv z ad E M2) := hD
    refine W.eq (g2 := F0 m 20 ls []) rfl ?_
    refine lv_aload_n hx hb d_1_32_20 rfl (lv_at hl 0 rfl) ?_
    refine m_gr (j := 41) (C := "Ballothall") (T := TX11) (N := 14) (ci := 11) (k := 1) hx hb hts iX11 hown hG hP (yi_1 hL) (yt_1 hL) rfl (by decide) w_398 (fun _ h9 => h9) rfl rfl (yr_1_1 hL) d_1_32_21 ?_
    refine lv_iload_n hx hb d_1_32_24 rfl (lv_at hl 1 rfl) ?_
    obtain ⟨⟨r3, M3⟩, g3, h⟩ := bd_e h
    refine kVN (As := [.int x1]) (rest := []) (s_Po_bestBy l z ad E M2 x1 r3 M3 hL g3) hx hb hml hown hts w_1374 n_1438 w_1373 w_s_0765de w_3 md_2b9f88 ⟨Nat.le_of_ble_eq_true rfl, Nat.le_of_ble_eq_true rfl⟩ hG hZ hP hD hS hA 41 (wv_o (ci := 9) (yi_41 hL) (yt_41 hL)) rfl rfl rfl hl.1 rfl (Nat.le_of_ble_eq_true rfl) d_1_32_25 ⟨Nat.le_of_ble_eq_true rfl, Nat.le_of_ble_eq_true rfl⟩ (fun _ H locs hP hD hS => ?_)
    have hP : va_P z.1 classes (wv z ad E M3) H := hP
    have hD : va_D A (wv z ad E M3) := hD
    refine W.eq (g2 := F0 m 28 ls [.int r3]) rfl ?_
    obtain ⟨rfl, rfl⟩ := in2 h
    exact W.iret hx hb hr (fun t ht hW => qkA hP hD hS (fun k => k) rfl rfl ht) hS.2.2 d_1_32_28
  exact key _ _ _ hts hP hS
set_option maxRecDepth 100000 in
set_option maxHeartbeats 4000000 in
theorem s_Na_copyFrom (l : Launch) (z : Zz) (ad : Nat → Nat) (E : Ev) (M : Mm) (p0 : Nat) (p1 : Nat) (N : Mm) (hL : Lay E) (h : f_Na_copyFrom E M p0 p1 = some N) : CT l z ⟨"Ballothall$Natural", "copyFrom", "(LBallothall$Natural;)V"⟩ prog_10_method_3_code 2 none [.ref (ad p0), .ref (ad p1)] (wv z ad E M) 1 60 0 0 (fun _ => none) (fun _ => wv z ad E N) := by
  refine CT.of (own := "Ballothall$Natural") (by decide +kernel) (Nat.le_of_ble_eq_true rfl) rfl (fun p e s m below meth c A ls hx hb hml hr hts hown hlocks hin hA hG hZ hP hD hS hl => ?_)
  have hl : lv_has ls 2 [(0, .ref (ad p0)), (1, .ref (ad p1))] := hl
  have key : ∀ (H : Heap) (locs : List Loc) (args : Array Value), (∀ w ∈ WG, w.before args s = true) → va_P z.1 classes (wv z ad E M) H → va_S A s.heap H locs → W p l e (rmK 1 60 0 0) s m args below meth c H locs 0 0 (MQ below (QK z A (fun _ => none) (fun _ => wv z ad E N)) args s 0 0 A) (F0 m 0 ls []) := by
    intro H locs args hts hP hS
    unfold f_Na_copyFrom at h
    obtain ⟨h_p0, h⟩ := ck_e h
    obtain ⟨h_p1, h⟩ := ck_e h
    refine lv_aload_n hx hb d_10_3_0 rfl (lv_at hl 1 rfl) ?_
    refine m_gr (j := (p1 + 1)) (C := "Ballothall$Natural") (T := TX8) (N := 2) (ci := 8) (k := 0) hx hb hts iX8 hown hG hP (isNa_i h_p1) (isNa_T h_p1) rfl (by decide) w_294 (fun _ h9 => h9) rfl rfl (isNa_r0 h_p1) d_10_3_1 ?_
    refine lv_iconst (v := 0) hx hb d_10_3_4 (by decide +kernel) ?_
    refine lv_aload_n hx hb d_10_3_5 rfl (lv_at hl 0 rfl) ?_
    refine m_gr (j := (p0 + 1)) (C := "Ballothall$Natural") (T := TX8) (N := 2) (ci := 8) (k := 0) hx hb hts iX8 hown hG hP (isNa_i h_p0) (isNa_T h_p0) rfl (by decide) w_294 (fun _ h9 => h9) rfl rfl (isNa_r0 h_p0) d_10_3_6 ?_
    refine lv_iconst (v := 0) hx hb d_10_3_9 (by decide +kernel) ?_
    refine lv_aload_n hx hb d_10_3_10 rfl (lv_at hl 1 rfl) ?_
    refine m_gi (C := "Ballothall$Natural") (T := TX8) (N := 2) (ci := 8) (k := 1) hx hb hts iX8 hown hG hP (isNa_i h_p1) (isNa_T h_p1) rfl (by decide) w_295 (fun _ h9 => h9) rfl rfl d_10_3_11 ?_
    obtain ⟨ok0, h⟩ := ck_e h
    refine m_cpy hx hb (by rw [hml]; exact hl.1.symm) hown (hts _ w_619) (hts _ w_621) (hts _ w_620) (hts _ w_24) hG hP hD hS (isNa_i1 h_p1) (isNa_t1 h_p1) (isNa_i1 h_p0) (isNa_t1 h_p0) ok0 (Nat.le_of_ble_eq_true rfl) (Nat.le_of_ble_eq_true rfl) d_10_3_14 (fun H locs hP hD hS => ?_)
    have hP : va_P z.1 classes (wv z ad E (uA M (p0 + 1) (va_cpy (M.1 (p1 + 1)) (M.1 (p0 + 1)) (0 : Int32).toNatClampNeg (0 : Int32).toNatClampNeg (M.1 p1 1).toNatClampNeg))) H := hP
    have hD : va_D A (wv z ad E (uA M (p0 + 1) (va_cpy (M.1 (p1 + 1)) (M.1 (p0 + 1)) (0 : Int32).toNatClampNeg (0 : Int32).toNatClampNeg (M.1 p1 1).toNatClampNeg))) := hD
    obtain ⟨M1, e1, h⟩ := nb_e h
    rw [← e1] at hP hD
    refine lv_aload_n hx hb d_10_3_17 rfl (lv_at hl 0 rfl) ?_
    refine lv_aload_n hx hb d_10_3_18 rfl (lv_at hl 1 rfl) ?_
    refine m_gi (C := "Ballothall$Natural") (T := TX8) (N := 2) (ci := 8) (k := 1) hx hb hts iX8 hown hG hP (isNa_i h_p1) (isNa_T h_p1) rfl (by decide) w_295 (fun _ h9 => h9) rfl rfl d_10_3_19 ?_
    refine m_pi (C := "Ballothall$Natural") (T := TX8) (N := 2) (ci := 8) (k := 1) (ty := .int) hx hb hts iX8 hown hG hP hD hS (isNa_i h_p0) (isNa_T h_p0) rfl (by decide) w_295 (fun _ h9 => h9) rfl rfl tyX8_ok nmX8 rfl (by decide +kernel) rfl rfl d_10_3_22 (fun H locs hP hD hS => ?_)
    have hP : va_P z.1 classes (wv z ad E (u2 M1 p0 1 (M1.1 p1 1))) H := hP
    have hD : va_D A (wv z ad E (u2 M1 p0 1 (M1.1 p1 1))) := hD
    obtain rfl := in1 h
    exact W.vret hx hb hr (fun t ht hW => qkA hP hD hS (fun k => k) rfl rfl ht) hS.2.2 d_10_3_25
  exact key _ _ _ hts hP hS
set_option maxRecDepth 100000 in
set_option maxHeartbeats 4000000 in
theorem b_Na_subtractMultiple_j50 (l : Launch) (z : Zz) (ad : Nat → Nat) (E : Ev) (M : Mm) (q0 : Nat) (q1 : Nat) (x2 : Int32) (x3 : Int64) (x7 : Int32) (y0 : Int64) (y1 : Int64) (y2 : Int64) (t : Nat) (w5 : Int64) (w7 : Int32) (N : Mm) {Q : State → Prop} {p : Program} {e : Env} {s : State} {m : MethodId} {below : List Frame} {meth : Method} {c : Code} {A : Nat → Prop} {args : Array Value} (hx : p.tables.exec = Jvm.exec) (hb : c.code = prog_10_method_17_code) (hml : c.maxLocals = 8) (hts : ∀ w ∈ WG, w.before args s = true) (hown : s.vm.findClass "Ballothall$Natural" = some m.cls) (hlocks : meth.locks = false) (hA : ∀ q, s.heap.size ≤ q → A q) (hG : KG z s) (hZ : FZ z A s) (hL : Lay E) (h : Na_subtractMultiple_j50 E M q0 q1 x2 x3 x7 y0 y1 y2 = some (t, w5, w7, N)) (k0 : t = 0 → ∀ (H : Heap) (locs : List Loc) (ls : Array Slot), va_P z.1 classes (wv z ad E N) H → va_D A (wv z ad E N) → va_S A s.heap H locs → lv_has ls 8 [(0, .ref (ad q0)), (1, .ref (ad q1)), (2, .int x2), (3, .long x3), (5, .long w5), (7, .int w7)] → W p l e (rmK 0 20 0 0) s m args below meth c H locs 0 0 Q (F0 m 6 ls [])) (k1 : t = 1 → ∀ (H : Heap) (locs : List Loc) (ls : Array Slot), va_P z.1 classes (wv z ad E N) H → va_D A (wv z ad E N) → va_S A s.heap H locs → lv_has ls 8 [(5, .long w5)] → W p l e (rmK 0 20 0 0) s m args below meth c H locs 0 0 Q (F0 m 83 ls [])) : ∀ (H : Heap) (locs : List Loc) (ls : Array Slot), va_P z.1 classes (wv z ad E M) H → va_D A (wv z ad E M) → va_S A s.heap H locs → lv_has ls 8 [(0, .ref (ad q0)), (1, .ref (ad q1)), (2, .int x2), (3, .long x3), (7, .int x7)] → W p l e (rmK 0 20 0 0) s m args below meth c H locs 0 0 Q (F0 m 50 ls [.long y0, .long y1, .long y2]) := by
  intro H locs ls hP hD hS hl
  unfold Na_subtractMultiple_j50 at h
  obtain ⟨h_q0, h⟩ := ck_e h
  obtain ⟨h_q1, h⟩ := ck_e h
  refine lv_lsub hx hb d_10_17_50 ?_
  refine lv_ladd hx hb d_10_17_51 ?_
  refine lv_lstore (lv' := [(5, .long (y2 + (y1 - y0))), (0, .ref (ad q0)), (1, .ref (ad q1)), (2, .int x2), (3, .long x3), (7, .int x7)]) hx hb d_10_17_52 hl (by decide) rfl (fun ls hl => ?_)
  refine lv_aload_n hx hb d_10_17_54 rfl (lv_at hl 1 rfl) ?_
  refine m_gr (j := (q0 + 1)) (C := "Ballothall$Natural") (T := TX8) (N := 2) (ci := 8) (k := 0) hx hb hts iX8 hown hG hP (isNa_i h_q0) (isNa_T h_q0) rfl (by decide) w_294 (fun _ h9 => h9) rfl rfl (isNa_r0 h_q0) d_10_17_55 ?_
  refine lv_iload_n hx hb d_10_17_58 rfl (lv_at hl 3 rfl) ?_
  refine lv_iload hx hb d_10_17_59 (lv_at hl 5 rfl) ?_
  refine lv_iadd hx hb d_10_17_61 ?_
  refine lv_lload hx hb d_10_17_62 (lv_at hl 0 rfl) ?_
  refine lv_ldc2 hx hb hown (hts _ w_605) d_10_17_64 ?_
  refine lv_land hx hb d_10_17_67 ?_
  refine lv_l2i (v := ((y2 + (y1 - y0)) &&& (1073741823 : Int64)).toInt32) hx hb d_10_17_68 rfl ?_
  obtain ⟨v1, e1, h⟩ := nb_e h
  refine nrm e1.symm ?_
  obtain ⟨ok2, h⟩ := ck_e h
  refine m_is hx hb hG hP hD hS (isNa_i1 h_q0) (isNa_t1 h_q0) ok2 d_10_17_69 (fun H locs hP hD hS => ?_)
  have hP : va_P z.1 classes (wv z ad E (u2 M (q0 + 1) (x2 + x7).toNatClampNeg v1)) H := hP
  have hD : va_D A (wv z ad E (u2 M (q0 + 1) (x2 + x7).toNatClampNeg v1)) := hD
  refine lv_lload hx hb d_10_17_70 (lv_at hl 0 rfl) ?_
  refine lv_bipush (v := 30) hx hb d_10_17_72 (by decide +kernel) ?_
  refine lv_lshr (v := ((y2 + (y1 - y0)) >>> ((30 : Int32).toInt64 &&& 63))) hx hb d_10_17_74 rfl ?_
  obtain ⟨v3, e3, h⟩ := nb_e h
  refine nrmL e3.symm ?_
  refine lv_lstore (lv' := [(5, .long v3), (0, .ref (ad q0)), (1, .ref (ad q1)), (2, .int x2), (3, .long x3), (7, .int x7)]) hx hb d_10_17_75 hl (by decide) rfl (fun ls hl => ?_)
  refine lv_iinc (v := (x7 + 1)) (lv' := [(7, .int (x7 + 1)), (5, .long v3), (0, .ref (ad q0)), (1, .ref (ad q1)), (2, .int x2), (3, .long x3)]) hx hb d_10_17_77 hl (k := 5) rfl (congrArg (fun q => x7 + q) (show Int32.ofInt 1 = 1 by decide +kernel)) (by decide) rfl (fun ls hl => ?_)
  refine lv_goto (tgt := 6) hx hb d_10_17_80 (by decide) ?_
  obtain ⟨rfl, rfl, rfl, rfl⟩ := in4 h
  exact k0 rfl H locs ls hP hD hS (lv_sub hl [2, 3, 4, 5, 1, 0] rfl)
set_option maxRecDepth 100000 in
set_option maxHeartbeats 4000000 in
theorem b_Na_subtractMultiple_6b (l : Launch) (z : Zz) (ad : Nat → Nat) (E : Ev) (M : Mm) (q0 : Nat) (q1 : Nat) (x2 : Int32) (x3 : Int64) (x5 : Int64) (x7 : Int32) (t : Nat) (w5 : Int64) (w7 : Int32) (N : Mm) {Q : State → Prop} {p : Program} {e : Env} {s : State} {m : MethodId} {below : List Frame} {meth : Method} {c : Code} {A : Nat → Prop} {args : Array Value} (hx : p.tables.exec = Jvm.exec) (hb : c.code = prog_10_method_17_code) (hml : c.maxLocals = 8) (hts : ∀ w ∈ WG, w.before args s = true) (hown : s.vm.findClass "Ballothall$Natural" = some m.cls) (hlocks : meth.locks = false) (hA : ∀ q, s.heap.size ≤ q → A q) (hG : KG z s) (hZ : FZ z A s) (hL : Lay E) (h : Na_subtractMultiple_6b E M q0 q1 x2 x3 x5 x7 = some (t, w5, w7, N)) (k0 : t = 0 → ∀ (H : Heap) (locs : List Loc) (ls : Array Slot), va_P z.1 classes (wv z ad E N) H → va_D A (wv z ad E N) → va_S A s.heap H locs → lv_has ls 8 [(0, .ref (ad q0)), (1, .ref (ad q1)), (2, .int x2), (3, .long x3), (5, .long w5), (7, .int w7)] → W p l e (rmK 0 20 0 0) s m args below meth c H locs 0 0 Q (F0 m 6 ls [])) (k1 : t = 1 → ∀ (H : Heap) (locs : List Loc) (ls : Array Slot), va_P z.1 classes (wv z ad E N) H → va_D A (wv z ad E N) → va_S A s.heap H locs → lv_has ls 8 [(5, .long w5)] → W p l e (rmK 0 20 0 0) s m args below meth c H locs 0 0 Q (F0 m 83 ls [])) : ∀ (H : Heap) (locs : List Loc) (ls : Array Slot), va_P z.1 classes (wv z ad E M) H → va_D A (wv z ad E M) → va_S A s.heap H locs → lv_has ls 8 [(0, .ref (ad q0)), (1, .ref (ad q1)), (2, .int x2), (3, .long x3), (5, .long x5), (7, .int x7)] → W p l e (rmK 0 20 0 0) s m args below meth c H locs 0 0 Q (F0 m 6 ls []) := by
  intro H locs ls hP hD hS hl
  unfold Na_subtractMultiple_6b at h
  obtain ⟨h_q0, h⟩ := ck_e h
  obtain ⟨h_q1, h⟩ := ck_e h
  refine lv_iload hx hb d_10_17_6 (lv_at hl 5 rfl) ?_
  refine lv_aload_n hx hb d_10_17_8 rfl (lv_at hl 1 rfl) ?_
  refine m_gi (C := "Ballothall$Natural") (T := TX8) (N := 2) (ci := 8) (k := 1) hx hb hts iX8 hown hG hP (isNa_i h_q1) (isNa_T h_q1) rfl (by decide) w_295 (fun _ h9 => h9) rfl rfl d_10_17_9 ?_
  refine lv_icmp_gt (tgt := 83) hx hb d_10_17_12 (by decide) (fun c9 => ?_) (fun c9 => ?_)
  · have h := ite_t c9 h
    obtain ⟨rfl, rfl, rfl, rfl⟩ := in4 h
    exact k1 rfl H locs ls hP hD hS (lv_sub hl [4] rfl)
  · have h := ite_f c9 h
    refine lv_lload hx hb d_10_17_15 (lv_at hl 4 rfl) ?_
    refine lv_aload_n hx hb d_10_17_17 rfl (lv_at hl 0 rfl) ?_
    refine m_gr (j := (q0 + 1)) (C := "Ballothall$Natural") (T := TX8) (N := 2) (ci := 8) (k := 0) hx hb hts iX8 hown hG hP (isNa_i h_q0) (isNa_T h_q0) rfl (by decide) w_294 (fun _ h9 => h9) rfl rfl (isNa_r0 h_q0) d_10_17_18 ?_
    refine lv_iload_n hx hb d_10_17_21 rfl (lv_at hl 2 rfl) ?_
    refine lv_iload hx hb d_10_17_22 (lv_at hl 5 rfl) ?_
    refine lv_iadd hx hb d_10_17_24 ?_
    obtain ⟨ok0, h⟩ := ck_e h
    refine m_ia hx hb hG hP (isNa_i1 h_q0) (isNa_t1 h_q0) ok0 d_10_17_25 ?_
    refine lv_i2l (v := (M.1 (q0 + 1) (x2 + x7).toNatClampNeg).toInt64) hx hb d_10_17_26 rfl ?_
    refine lv_iload hx hb d_10_17_27 (lv_at hl 5 rfl) ?_
    refine lv_aload_n hx hb d_10_17_29 rfl (lv_at hl 1 rfl) ?_
    refine m_gi (C := "Ballothall$Natural") (T := TX8) (N := 2) (ci := 8) (k := 1) hx hb hts iX8 hown hG hP (isNa_i h_q1) (isNa_T h_q1) rfl (by decide) w_295 (fun _ h9 => h9) rfl rfl d_10_17_30 ?_
    refine lv_icmp_ge (tgt := 49) hx hb d_10_17_33 (by decide) (fun c9 => ?_) (fun c9 => ?_)
    · have h := ite_t c9 h
      refine lv_lconst (v := 0) hx hb d_10_17_49 (by decide +kernel) ?_
      exact b_Na_subtractMultiple_j50 l z ad E M q0 q1 x2 x3 x7 0 (M.1 (q0 + 1) (x2 + x7).toNatClampNeg).toInt64 x5 t w5 w7 N hx hb hml hts hown hlocks hA hG hZ hL h k0 k1 H locs ls hP hD hS (lv_sub hl [0, 1, 2, 3, 5] rfl)
    · have h := ite_f c9 h
      refine lv_lload_n hx hb d_10_17_36 rfl (lv_at hl 3 rfl) ?_
      refine lv_aload_n hx hb d_10_17_37 rfl (lv_at hl 1 rfl) ?_
      refine m_gr (j := (q1 + 1)) (C := "Ballothall$Natural") (T := TX8) (N := 2) (ci := 8) (k := 0) hx hb hts iX8 hown hG hP (isNa_i h_q1) (isNa_T h_q1) rfl (by decide) w_294 (fun _ h9 => h9) rfl rfl (isNa_r0 h_q1) d_10_17_38 ?_
      refine lv_iload hx hb d_10_17_41 (lv_at hl 5 rfl) ?_
      obtain ⟨ok4, h⟩ := ck_e h
      refine m_ia hx hb hG hP (isNa_i1 h_q1) (isNa_t1 h_q1) ok4 d_10_17_43 ?_
      refine lv_i2l (v := (M.1 (q1 + 1) x7.toNatClampNeg).toInt64) hx hb d_10_17_44 rfl ?_
      refine lv_lmul hx hb d_10_17_45 ?_
      refine lv_goto (tgt := 50) hx hb d_10_17_46 (by decide) ?_
      exact b_Na_subtractMultiple_j50 l z ad E M q0 q1 x2 x3 x7 (x3 * (M.1 (q1 + 1) x7.toNatClampNeg).toInt64) (M.1 (q0 + 1) (x2 + x7).toNatClampNeg).toInt64 x5 t w5 w7 N hx hb hml hts hown hlocks hA hG hZ hL h k0 k1 H locs ls hP hD hS (lv_sub hl [0, 1, 2, 3, 5] rfl)
set_option maxRecDepth 100000 in
set_option maxHeartbeats 4000000 in
theorem s_Na_subtractMultiple_6 (l : Launch) (z : Zz) (ad : Nat → Nat) (E : Ev) (q0 : Nat) (q1 : Nat) (x2 : Int32) (x3 : Int64) {Q : State → Prop} {p : Program} {e : Env} {s : State} {m : MethodId} {below : List Frame} {meth : Method} {c : Code} {A : Nat → Prop} {args : Array Value} (hx : p.tables.exec = Jvm.exec) (hb : c.code = prog_10_method_17_code) (hml : c.maxLocals = 8) (hts : ∀ w ∈ WG, w.before args s = true) (hown : s.vm.findClass "Ballothall$Natural" = some m.cls) (hlocks : meth.locks = false) (hA : ∀ q, s.heap.size ≤ q → A q) (hG : KG z s) (hZ : FZ z A s) (hL : Lay E) : ∀ (fu : Nat) (M : Mm) (x5 : Int64) (x7 : Int32) (t : Nat) (w5 : Int64) (w7 : Int32) (N : Mm), l_Na_subtractMultiple_6 E q0 q1 x2 x3 fu M x5 x7 = some (t, w5, w7, N) → (t = 1 → ∀ (H : Heap) (locs : List Loc) (ls : Array Slot), va_P z.1 classes (wv z ad E N) H → va_D A (wv z ad E N) → va_S A s.heap H locs → lv_has ls 8 [(5, .long w5)] → W p l e (rmK 0 20 0 0) s m args below meth c H locs 0 0 Q (F0 m 83 ls [])) → ∀ (H : Heap) (locs : List Loc) (ls : Array Slot), va_P z.1 classes (wv z ad E M) H → va_D A (wv z ad E M) → va_S A s.heap H locs → lv_has ls 8 [(0, .ref (ad q0)), (1, .ref (ad q1)), (2, .int x2), (3, .long x3), (5, .long x5), (7, .int x7)] → W p l e (rmK 0 20 0 0) s m args below meth c H locs 0 0 Q (F0 m 6 ls []) := by
  intro fu
  induction fu with
  | zero =>
    intro M x5 x7 t w5 w7 N h
    have h : (none : Option (Nat × Int64 × Int32 × Mm)) = some _ := h
    cases h
  | succ fu ih =>
    intro M x5 x7 t w5 w7 N h k1 H locs ls hP hD hS hl
    obtain ⟨⟨t0, w50, w70, N0⟩, g0, h⟩ := bd_e h
    refine b_Na_subtractMultiple_6b l z ad E M q0 q1 x2 x3 x5 x7 t0 w50 w70 N0 hx hb hml hts hown hlocks hA hG hZ hL g0 (fun e0 => ?_) (fun e0 => ?_) H locs ls hP hD hS hl
    · subst e0
      have h := ite_t rfl h
      exact ih N0 w50 w70 t w5 w7 N h k1
    · subst e0
      have h := ite_f (by decide) h
      obtain ⟨rfl, rfl, rfl, rfl⟩ := in4 h
      exact k1 rfl
set_option maxRecDepth 100000 in
set_option maxHeartbeats 4000000 in
theorem s_Na_subtractMultiple (l : Launch) (z : Zz) (ad : Nat → Nat) (E : Ev) (M : Mm) (p0 : Nat) (p1 : Nat) (x2 : Int32) (x3 : Int64) (r : Int64) (N : Mm) (hL : Lay E) (h : f_Na_subtractMultiple E M p0 p1 x2 x3 = some (r, N)) : CT l z ⟨"Ballothall$Natural", "subtractMultiple", "(LBallothall$Natural;IJ)J"⟩ prog_10_method_17_code 8 (some .long) [.ref (ad p0), .ref (ad p1), .int x2, .long x3] (wv z ad E M) 0 20 0 0 (fun _ => some (.long r)) (fun _ => wv z ad E N) := by
  refine CT.of (own := "Ballothall$Natural") (by decide +kernel) (Nat.le_of_ble_eq_true rfl) rfl (fun p e s m below meth c A ls hx hb hml hr hts hown hlocks hin hA hG hZ hP hD hS hl => ?_)
  have hl : lv_has ls 8 [(0, .ref (ad p0)), (1, .ref (ad p1)), (2, .int x2), (3, .long x3)] := hl
  have key : ∀ (H : Heap) (locs : List Loc) (args : Array Value), (∀ w ∈ WG, w.before args s = true) → va_P z.1 classes (wv z ad E M) H → va_S A s.heap H locs → W p l e (rmK 0 20 0 0) s m args below meth c H locs 0 0 (MQ below (QK z A (fun _ => some (.long r)) (fun _ => wv z ad E N)) args s 0 0 A) (F0 m 0 ls []) := by
    intro H locs args hts hP hS
    unfold f_Na_subtractMultiple at h
    obtain ⟨h_p0, h⟩ := ck_e h
    obtain ⟨h_p1, h⟩ := ck_e h
    refine lv_lconst (v := 0) hx hb d_10_17_0 (by decide +kernel) ?_
    refine lv_lstore (lv' := [(5, .long 0), (0, .ref (ad p0)), (1, .ref (ad p1)), (2, .int x2), (3, .long x3)]) hx hb d_10_17_1 hl (by decide) rfl (fun ls hl => ?_)
    refine lv_iconst (v := 0) hx hb d_10_17_3 (by decide +kernel) ?_
    refine lv_istore (lv' := [(7, .int 0), (5, .long 0), (0, .ref (ad p0)), (1, .ref (ad p1)), (2, .int x2), (3, .long x3)]) hx hb d_10_17_4 hl (by decide) rfl (fun ls hl => ?_)
    obtain ⟨⟨t5, v5_5, v5_7, M5⟩, g5, h⟩ := bd_e h
    obtain ⟨ok5, h⟩ := ck_e h
    refine s_Na_subtractMultiple_6 l z ad E p0 p1 x2 x3 hx hb hml hts hown hlocks hA hG hZ hL FU M 0 0 t5 v5_5 v5_7 M5 g5 (fun e5 H locs ls hP hD hS hl => ?_) H locs ls hP hD hS (lv_sub hl [2, 3, 4, 5, 1, 0] rfl)
    refine lv_lload hx hb d_10_17_83 (lv_at hl 0 rfl) ?_
    obtain ⟨rfl, rfl⟩ := in2 h
    exact W.lret hx hb hr (fun t ht hW => qkA hP hD hS (fun k => k) rfl rfl ht) hS.2.2 d_10_17_85
  exact key _ _ _ hts hP hS
set_option maxRecDepth 100000 in
set_option maxHeartbeats 4000000 in
theorem b_Na_takeMultiple_78b (l : Launch) (z : Zz) (ad : Nat → Nat) (E : Ev) (M : Mm) (q0 : Nat) (q1 : Nat) (x2 : Int32) (x3 : Int32) (x4 : Int64) (x8 : Int64) (x10 : Int64) (x12 : Int32) (t : Nat) (w8 : Int64) (w10 : Int64) (w12 : Int32) (N : Mm) {Q : State → Prop} {p : Program} {e : Env} {s : State} {m : MethodId} {below : List Frame} {meth : Method} {c : Code} {A : Nat → Prop} {args : Array Value} (hx : p.tables.exec = Jvm.exec) (hb : c.code = prog_10_method_16_code) (hml : c.maxLocals = 13) (hts : ∀ w ∈ WG, w.before args s = true) (hown : s.vm.findClass "Ballothall$Natural" = some m.cls) (hlocks : meth.locks = false) (hA : ∀ q, s.heap.size ≤ q → A q) (hG : KG z s) (hZ : FZ z A s) (hL : Lay E) (h : Na_takeMultiple_78b E M q0 q1 x2 x3 x4 x8 x10 x12 = some (t, w8, w10, w12, N)) (k0 : t = 0 → ∀ (H : Heap) (locs : List Loc) (ls : Array Slot), va_P z.1 classes (wv z ad E N) H → va_D A (wv z ad E N) → va_S A s.heap H locs → lv_has ls 13 [(0, .ref (ad q0)), (1, .ref (ad q1)), (2, .int x2), (3, .int x3), (4, .long x4), (8, .long w8), (10, .long w10), (12, .int w12)] → W p l e (rmK 1 47 0 0) s m args below meth c H locs 0 0 Q (F0 m 78 ls [])) (k1 : t = 1 → ∀ (H : Heap) (locs : List Loc) (ls : Array Slot), va_P z.1 classes (wv z ad E N) H → va_D A (wv z ad E N) → va_S A s.heap H locs → lv_has ls 13 [(0, .ref (ad q0)), (1, .ref (ad q1)), (2, .int x2), (8, .long w8)] → W p l e (rmK 1 47 0 0) s m args below meth c H locs 0 0 Q (F0 m 146 ls [])) : ∀ (H : Heap) (locs : List Loc) (ls : Array Slot), va_P z.1 classes (wv z ad E M) H → va_D A (wv z ad E M) → va_S A s.heap H locs → lv_has ls 13 [(0, .ref (ad q0)), (1, .ref (ad q1)), (2, .int x2), (3, .int x3), (4, .long x4), (8, .long x8), (10, .long x10), (12, .int x12)] → W p l e (rmK 1 47 0 0) s m args below meth c H locs 0 0 Q (F0 m 78 ls []) := by
  intro H locs ls hP hD hS hl
  unfold Na_takeMultiple_78b at h
  obtain ⟨h_q0, h⟩ := ck_e h
  obtain ⟨h_q1, h⟩ := ck_e h
  refine lv_iload hx hb d_10_16_78 (lv_at hl 7 rfl) ?_
  refine lv_iconst (v := 2) hx hb d_10_16_80 (by decide +kernel) ?_
  refine lv_icmp_ge (tgt := 146) hx hb d_10_16_81 (by decide) (fun c9 => ?_) (fun c9 => ?_)
  · have h := ite_t c9 h
    obtain ⟨rfl, rfl, rfl, rfl, rfl⟩ := in5 h
    exact k1 rfl H locs ls hP hD hS (lv_sub hl [0, 1, 2, 5] rfl)
  · have h := ite_f c9 h
    refine lv_lload hx hb d_10_16_84 (lv_at hl 6 rfl) ?_
    refine lv_ldc2 hx hb hown (hts _ w_605) d_10_16_86 ?_
    refine W.lcmp hx hb d_10_16_89 ?_
    refine lv_if_gt (tgt := 146) hx hb d_10_16_90 (by decide) (fun c9 => ?_) (fun c9 => ?_)
    · have h := ite_t c9 h
      obtain ⟨rfl, rfl, rfl, rfl, rfl⟩ := in5 h
      exact k1 rfl H locs ls hP hD hS (lv_sub hl [0, 1, 2, 5] rfl)
    · have h := ite_f c9 h
      refine lv_lload hx hb d_10_16_93 (lv_at hl 5 rfl) ?_
      refine lv_aload_n hx hb d_10_16_95 rfl (lv_at hl 1 rfl) ?_
      refine m_gr (j := (q1 + 1)) (C := "Ballothall$Natural") (T := TX8) (N := 2) (ci := 8) (k := 0) hx hb hts iX8 hown hG hP (isNa_i h_q1) (isNa_T h_q1) rfl (by decide) w_294 (fun _ h9 => h9) rfl rfl (isNa_r0 h_q1) d_10_16_96 ?_
      refine lv_aload_n hx hb d_10_16_99 rfl (lv_at hl 1 rfl) ?_
      refine m_gi (C := "Ballothall$Natural") (T := TX8) (N := 2) (ci := 8) (k := 1) hx hb hts iX8 hown hG hP (isNa_i h_q1) (isNa_T h_q1) rfl (by decide) w_295 (fun _ h9 => h9) rfl rfl d_10_16_100 ?_
      refine lv_iconst (v := 2) hx hb d_10_16_103 (by decide +kernel) ?_
      refine lv_isub hx hb d_10_16_104 ?_
      obtain ⟨ok7, h⟩ := ck_e h
      refine m_ia hx hb hG hP (isNa_i1 h_q1) (isNa_t1 h_q1) ok7 d_10_16_105 ?_
      refine lv_i2l (v := (M.1 (q1 + 1) ((M.1 q1 1) - (2 : Int32)).toNatClampNeg).toInt64) hx hb d_10_16_106 rfl ?_
      refine lv_lmul hx hb d_10_16_107 ?_
      refine lv_lload hx hb d_10_16_108 (lv_at hl 6 rfl) ?_
      refine lv_bipush (v := 30) hx hb d_10_16_110 (by decide +kernel) ?_
      refine lv_lshl (v := (x10 <<< ((30 : Int32).toInt64 &&& 63))) hx hb d_10_16_112 rfl ?_
      refine lv_aload_n hx hb d_10_16_113 rfl (lv_at hl 0 rfl) ?_
      refine m_gr (j := (q0 + 1)) (C := "Ballothall$Natural") (T := TX8) (N := 2) (ci := 8) (k := 0) hx hb hts iX8 hown hG hP (isNa_i h_q0) (isNa_T h_q0) rfl (by decide) w_294 (fun _ h9 => h9) rfl rfl (isNa_r0 h_q0) d_10_16_114 ?_
      refine lv_iload_n hx hb d_10_16_117 rfl (lv_at hl 3 rfl) ?_
      refine lv_iconst (v := 2) hx hb d_10_16_118 (by decide +kernel) ?_
      refine lv_isub hx hb d_10_16_119 ?_
      obtain ⟨ok8, h⟩ := ck_e h
      refine m_ia hx hb hG hP (isNa_i1 h_q0) (isNa_t1 h_q0) ok8 d_10_16_120 ?_
      refine lv_i2l (v := (M.1 (q0 + 1) (x3 - (2 : Int32)).toNatClampNeg).toInt64) hx hb d_10_16_121 rfl ?_
      refine lv_ladd hx hb d_10_16_122 ?_
      refine W.lcmp hx hb d_10_16_123 ?_
      refine lv_if_le (tgt := 140) hx hb d_10_16_124 (by decide) (fun c9 => ?_) (fun c9 => ?_)
      · have h := ite_t c9 h
        refine lv_iinc (v := (x12 + 1)) (lv' := [(12, .int (x12 + 1)), (0, .ref (ad q0)), (1, .ref (ad q1)), (2, .int x2), (3, .int x3), (4, .long x4), (8, .long x8), (10, .long x10)]) hx hb d_10_16_140 hl (k := 7) rfl (congrArg (fun q => x12 + q) (show Int32.ofInt 1 = 1 by decide +kernel)) (by decide) rfl (fun ls hl => ?_)
        refine lv_goto (tgt := 78) hx hb d_10_16_143 (by decide) ?_
        obtain ⟨rfl, rfl, rfl, rfl, rfl⟩ := in5 h
        exact k0 rfl H locs ls hP hD hS (lv_sub hl [1, 2, 3, 4, 5, 6, 7, 0] rfl)
      · have h := ite_f c9 h
        refine lv_lload hx hb d_10_16_127 (lv_at hl 5 rfl) ?_
        refine lv_lconst (v := 1) hx hb d_10_16_129 (by decide +kernel) ?_
        refine lv_lsub hx hb d_10_16_130 ?_
        refine lv_lstore (lv' := [(8, .long (x8 - (1 : Int64))), (0, .ref (ad q0)), (1, .ref (ad q1)), (2, .int x2), (3, .int x3), (4, .long x4), (10, .long x10), (12, .int x12)]) hx hb d_10_16_131 hl (by decide) rfl (fun ls hl => ?_)
        refine lv_lload hx hb d_10_16_133 (lv_at hl 6 rfl) ?_
        refine lv_lload hx hb d_10_16_135 (lv_at hl 5 rfl) ?_
        refine lv_ladd hx hb d_10_16_137 ?_
        refine lv_lstore (lv' := [(10, .long (x10 + x4)), (8, .long (x8 - (1 : Int64))), (0, .ref (ad q0)), (1, .ref (ad q1)), (2, .int x2), (3, .int x3), (4, .long x4), (12, .int x12)]) hx hb d_10_16_138 hl (by decide) rfl (fun ls hl => ?_)
        refine lv_iinc (v := (x12 + 1)) (lv' := [(12, .int (x12 + 1)), (10, .long (x10 + x4)), (8, .long (x8 - (1 : Int64))), (0, .ref (ad q0)), (1, .ref (ad q1)), (2, .int x2), (3, .int x3), (4, .long x4)]) hx hb d_10_16_140 hl (k := 7) rfl (congrArg (fun q => x12 + q) (show Int32.ofInt 1 = 1 by decide +kernel)) (by decide) rfl (fun ls hl => ?_)
        refine lv_goto (tgt := 78) hx hb d_10_16_143 (by decide) ?_
        obtain ⟨rfl, rfl, rfl, rfl, rfl⟩ := in5 h
        exact k0 rfl H locs ls hP hD hS (lv_sub hl [3, 4, 5, 6, 7, 2, 1, 0] rfl)
set_option maxRecDepth 100000 in
set_option maxHeartbeats 4000000 in
theorem s_Na_takeMultiple_78 (l : Launch) (z : Zz) (ad : Nat → Nat) (E : Ev) (q0 : Nat) (q1 : Nat) (x2 : Int32) (x3 : Int32) (x4 : Int64) {Q : State → Prop} {p : Program} {e : Env} {s : State} {m : MethodId} {below : List Frame} {meth : Method} {c : Code} {A : Nat → Prop} {args : Array Value} (hx : p.tables.exec = Jvm.exec) (hb : c.code = prog_10_method_16_code) (hml : c.maxLocals = 13) (hts : ∀ w ∈ WG, w.before args s = true) (hown : s.vm.findClass "Ballothall$Natural" = some m.cls) (hlocks : meth.locks = false) (hA : ∀ q, s.heap.size ≤ q → A q) (hG : KG z s) (hZ : FZ z A s) (hL : Lay E) : ∀ (fu : Nat) (M : Mm) (x8 : Int64) (x10 : Int64) (x12 : Int32) (t : Nat) (w8 : Int64) (w10 : Int64) (w12 : Int32) (N : Mm), l_Na_takeMultiple_78 E q0 q1 x2 x3 x4 fu M x8 x10 x12 = some (t, w8, w10, w12, N) → (t = 1 → ∀ (H : Heap) (locs : List Loc) (ls : Array Slot), va_P z.1 classes (wv z ad E N) H → va_D A (wv z ad E N) → va_S A s.heap H locs → lv_has ls 13 [(0, .ref (ad q0)), (1, .ref (ad q1)), (2, .int x2), (8, .long w8)] → W p l e (rmK 1 47 0 0) s m args below meth c H locs 0 0 Q (F0 m 146 ls [])) → ∀ (H : Heap) (locs : List Loc) (ls : Array Slot), va_P z.1 classes (wv z ad E M) H → va_D A (wv z ad E M) → va_S A s.heap H locs → lv_has ls 13 [(0, .ref (ad q0)), (1, .ref (ad q1)), (2, .int x2), (3, .int x3), (4, .long x4), (8, .long x8), (10, .long x10), (12, .int x12)] → W p l e (rmK 1 47 0 0) s m args below meth c H locs 0 0 Q (F0 m 78 ls []) := by
  intro fu
  induction fu with
  | zero =>
    intro M x8 x10 x12 t w8 w10 w12 N h
    have h : (none : Option (Nat × Int64 × Int64 × Int32 × Mm)) = some _ := h
    cases h
  | succ fu ih =>
    intro M x8 x10 x12 t w8 w10 w12 N h k1 H locs ls hP hD hS hl
    obtain ⟨⟨t0, w80, w100, w120, N0⟩, g0, h⟩ := bd_e h
    refine b_Na_takeMultiple_78b l z ad E M q0 q1 x2 x3 x4 x8 x10 x12 t0 w80 w100 w120 N0 hx hb hml hts hown hlocks hA hG hZ hL g0 (fun e0 => ?_) (fun e0 => ?_) H locs ls hP hD hS hl
    · subst e0
      have h := ite_t rfl h
      exact ih N0 w80 w100 w120 t w8 w10 w12 N h k1
    · subst e0
      have h := ite_f (by decide) h
      obtain ⟨rfl, rfl, rfl, rfl, rfl⟩ := in5 h
      exact k1 rfl
set_option maxRecDepth 100000 in
set_option maxHeartbeats 4000000 in
theorem b_Na_takeMultiple_j146 (l : Launch) (z : Zz) (ad : Nat → Nat) (E : Ev) (M : Mm) (q0 : Nat) (q1 : Nat) (x2 : Int32) (x8 : Int64) (r : Int32) (N : Mm) {p : Program} {e : Env} {s : State} {m : MethodId} {below : List Frame} {meth : Method} {c : Code} {A : Nat → Prop} {args : Array Value} (hx : p.tables.exec = Jvm.exec) (hb : c.code = prog_10_method_16_code) (hml : c.maxLocals = 13) (hts : ∀ w ∈ WG, w.before args s = true) (hown : s.vm.findClass "Ballothall$Natural" = some m.cls) (hlocks : meth.locks = false) (hA : ∀ q, s.heap.size ≤ q → A q) (hG : KG z s) (hZ : FZ z A s) (hL : Lay E) (hr : meth.sig.returnType = (some .int)) (h : Na_takeMultiple_j146 E M q0 q1 x2 x8 = some (r, N)) : ∀ (H : Heap) (locs : List Loc) (ls : Array Slot), va_P z.1 classes (wv z ad E M) H → va_D A (wv z ad E M) → va_S A s.heap H locs → lv_has ls 13 [(0, .ref (ad q0)), (1, .ref (ad q1)), (2, .int x2), (8, .long x8)] → W p l e (rmK 1 47 0 0) s m args below meth c H locs 0 0 (MQ below (QK z A (fun _ => some (.int r)) (fun _ => wv z ad E N)) args s 0 0 A) (F0 m 146 ls []) := by
  intro H locs ls hP hD hS hl
  unfold Na_takeMultiple_j146 at h
  obtain ⟨h_q0, h⟩ := ck_e h
  obtain ⟨h_q1, h⟩ := ck_e h
  refine lv_aload_n hx hb d_10_16_146 rfl (lv_at hl 0 rfl) ?_
  refine lv_aload_n hx hb d_10_16_147 rfl (lv_at hl 1 rfl) ?_
  refine lv_iload_n hx hb d_10_16_148 rfl (lv_at hl 2 rfl) ?_
  refine lv_lload hx hb d_10_16_149 (lv_at hl 3 rfl) ?_
  obtain ⟨⟨r10, M10⟩, g10, h⟩ := bd_e h
  refine kV (As := [.ref (ad q1), .int x2, .long x8]) (rest := []) (s_Na_subtractMultiple l z ad E M q0 q1 x2 x8 r10 M10 hL g10) hx hb hml hown hts w_1213 w_1210 w_1212 w_s_2dcc45 w_9 md_0f6454 ⟨Nat.le_of_ble_eq_true rfl, Nat.le_of_ble_eq_true rfl⟩ hG hZ hP hD hS hA q0 (wv_o (ci := 8) (isNa_i h_q0) (isNa_T h_q0)) rfl rfl rfl hl.1 rfl (Nat.le_of_ble_eq_true rfl) d_10_16_151 ⟨Nat.le_of_ble_eq_true rfl, Nat.le_of_ble_eq_true rfl⟩ (fun _ H locs hP hD hS => ?_)
  have hP : va_P z.1 classes (wv z ad E M10) H := hP
  have hD : va_D A (wv z ad E M10) := hD
  refine W.eq (g2 := F0 m 154 ls [.long r10]) rfl ?_
  refine lv_lconst (v := 0) hx hb d_10_16_154 (by decide +kernel) ?_
  refine W.lcmp hx hb d_10_16_155 ?_
  refine lv_if_ge (tgt := 175) hx hb d_10_16_156 (by decide) (fun c9 => ?_) (fun c9 => ?_)
  · have h := ite_t c9 h
    refine lv_lload hx hb d_10_16_175 (lv_at hl 3 rfl) ?_
    refine lv_l2i (v := x8.toInt32) hx hb d_10_16_177 rfl ?_
    obtain ⟨rfl, rfl⟩ := in2 h
    exact W.iret hx hb hr (fun t ht hW => qkA hP hD hS (fun k => k) rfl rfl ht) hS.2.2 d_10_16_178
  · have h := ite_f c9 h
    refine lv_lload hx hb d_10_16_159 (lv_at hl 3 rfl) ?_
    refine lv_lconst (v := 1) hx hb d_10_16_161 (by decide +kernel) ?_
    refine lv_lsub hx hb d_10_16_162 ?_
    refine lv_lstore (lv' := [(8, .long (x8 - (1 : Int64))), (0, .ref (ad q0)), (1, .ref (ad q1)), (2, .int x2)]) hx hb d_10_16_163 hl (by decide) rfl (fun ls hl => ?_)
    refine lv_aload_n hx hb d_10_16_165 rfl (lv_at hl 1 rfl) ?_
    refine lv_aload_n hx hb d_10_16_166 rfl (lv_at hl 2 rfl) ?_
    refine lv_iload_n hx hb d_10_16_167 rfl (lv_at hl 3 rfl) ?_
    refine lv_ldc2 hx hb hown (hts _ w_1214) d_10_16_168 ?_
    obtain ⟨⟨r11, M11⟩, g11, h⟩ := bd_e h
    refine kV (As := [.ref (ad q1), .int x2, .long (-1)]) (rest := []) (s_Na_subtractMultiple l z ad E M10 q0 q1 x2 (-1) r11 M11 hL g11) hx hb hml hown hts w_1213 w_1210 w_1212 w_s_2dcc45 w_9 md_0f6454 ⟨Nat.le_of_ble_eq_true rfl, Nat.le_of_ble_eq_true rfl⟩ hG hZ hP hD hS hA q0 (wv_o (ci := 8) (isNa_i h_q0) (isNa_T h_q0)) rfl rfl rfl hl.1 rfl (Nat.le_of_ble_eq_true rfl) d_10_16_171 ⟨Nat.le_of_ble_eq_true rfl, Nat.le_of_ble_eq_true rfl⟩ (fun _ H locs hP hD hS => ?_)
    have hP : va_P z.1 classes (wv z ad E M11) H := hP
    have hD : va_D A (wv z ad E M11) := hD
    refine W.eq (g2 := F0 m 174 ls [.long r11]) rfl ?_
    refine lv_pop2_2 hx hb d_10_16_174 rfl ?_
    refine lv_lload hx hb d_10_16_175 (lv_at hl 0 rfl) ?_
    refine lv_l2i (v := (x8 - (1 : Int64)).toInt32) hx hb d_10_16_177 rfl ?_
    obtain ⟨rfl, rfl⟩ := in2 h
    exact W.iret hx hb hr (fun t ht hW => qkA hP hD hS (fun k => k) rfl rfl ht) hS.2.2 d_10_16_178
set_option maxRecDepth 100000 in
set_option maxHeartbeats 4000000 in
theorem s_Na_takeMultiple (l : Launch) (z : Zz) (ad : Nat → Nat) (E : Ev) (M : Mm) (p0 : Nat) (p1 : Nat) (x2 : Int32) (r : Int32) (N : Mm) (hL : Lay E) (h : f_Na_takeMultiple E M p0 p1 x2 = some (r, N)) : CT l z ⟨"Ballothall$Natural", "takeMultiple", "(LBallothall$Natural;I)I"⟩ prog_10_method_16_code 13 (some .int) [.ref (ad p0), .ref (ad p1), .int x2] (wv z ad E M) 1 47 0 0 (fun _ => some (.int r)) (fun _ => wv z ad E N) := by
  refine CT.of (own := "Ballothall$Natural") (by decide +kernel) (Nat.le_of_ble_eq_true rfl) rfl (fun p e s m below meth c A ls hx hb hml hr hts hown hlocks hin hA hG hZ hP hD hS hl => ?_)
  have hl : lv_has ls 13 [(0, .ref (ad p0)), (1, .ref (ad p1)), (2, .int x2)] := hl
  have key : ∀ (H : Heap) (locs : List Loc) (args : Array Value), (∀ w ∈ WG, w.before args s = true) → va_P z.1 classes (wv z ad E M) H → va_S A s.heap H locs → W p l e (rmK 1 47 0 0) s m args below meth c H locs 0 0 (MQ below (QK z A (fun _ => some (.int r)) (fun _ => wv z ad E N)) args s 0 0 A) (F0 m 0 ls []) := by
    intro H locs args hts hP hS
    unfold f_Na_takeMultiple at h
    obtain ⟨h_p0, h⟩ := ck_e h
    obtain ⟨h_p1, h⟩ := ck_e h
    refine lv_iload_n hx hb d_10_16_0 rfl (lv_at hl 2 rfl) ?_
    refine lv_aload_n hx hb d_10_16_1 rfl (lv_at hl 1 rfl) ?_
    refine m_gi (C := "Ballothall$Natural") (T := TX8) (N := 2) (ci := 8) (k := 1) hx hb hts iX8 hown hG hP (isNa_i h_p1) (isNa_T h_p1) rfl (by decide) w_295 (fun _ h9 => h9) rfl rfl d_10_16_2 ?_
    refine lv_iadd hx hb d_10_16_5 ?_
    refine lv_istore_n (lv' := [(3, .int (x2 + (M.1 p1 1))), (0, .ref (ad p0)), (1, .ref (ad p1)), (2, .int x2)]) hx hb d_10_16_6 rfl hl (by decide) rfl (fun ls hl => ?_)
    refine lv_aload_n hx hb d_10_16_7 rfl (lv_at hl 2 rfl) ?_
    refine m_gr (j := (p1 + 1)) (C := "Ballothall$Natural") (T := TX8) (N := 2) (ci := 8) (k := 0) hx hb hts iX8 hown hG hP (isNa_i h_p1) (isNa_T h_p1) rfl (by decide) w_294 (fun _ h9 => h9) rfl rfl (isNa_r0 h_p1) d_10_16_8 ?_
    refine lv_aload_n hx hb d_10_16_11 rfl (lv_at hl 2 rfl) ?_
    refine m_gi (C := "Ballothall$Natural") (T := TX8) (N := 2) (ci := 8) (k := 1) hx hb hts iX8 hown hG hP (isNa_i h_p1) (isNa_T h_p1) rfl (by decide) w_295 (fun _ h9 => h9) rfl rfl d_10_16_12 ?_
    refine lv_iconst (v := 1) hx hb d_10_16_15 (by decide +kernel) ?_
    refine lv_isub hx hb d_10_16_16 ?_
    obtain ⟨ok0, h⟩ := ck_e h
    refine m_ia hx hb hG hP (isNa_i1 h_p1) (isNa_t1 h_p1) ok0 d_10_16_17 ?_
    refine lv_i2l (v := (M.1 (p1 + 1) ((M.1 p1 1) - (1 : Int32)).toNatClampNeg).toInt64) hx hb d_10_16_18 rfl ?_
    obtain ⟨v1, e1, h⟩ := nb_e h
    refine nrmL e1.symm ?_
    refine lv_lstore (lv' := [(4, .long v1), (3, .int (x2 + (M.1 p1 1))), (0, .ref (ad p0)), (1, .ref (ad p1)), (2, .int x2)]) hx hb d_10_16_19 hl (by decide) rfl (fun ls hl => ?_)
    refine lv_lload hx hb d_10_16_21 (lv_at hl 0 rfl) ?_
    refine lv_lconst (v := 0) hx hb d_10_16_23 (by decide +kernel) ?_
    refine W.lcmp hx hb d_10_16_24 ?_
    refine lv_if_ne (tgt := 30) hx hb d_10_16_25 (by decide) (fun c9 => ?_) (fun c9 => ?_)
    · have h := ite_f c9 h
      refine lv_aload_n hx hb d_10_16_30 rfl (lv_at hl 2 rfl) ?_
      refine m_gr (j := (p0 + 1)) (C := "Ballothall$Natural") (T := TX8) (N := 2) (ci := 8) (k := 0) hx hb hts iX8 hown hG hP (isNa_i h_p0) (isNa_T h_p0) rfl (by decide) w_294 (fun _ h9 => h9) rfl rfl (isNa_r0 h_p0) d_10_16_31 ?_
      refine lv_iload_n hx hb d_10_16_34 rfl (lv_at hl 1 rfl) ?_
      obtain ⟨ok2, h⟩ := ck_e h
      refine m_ia hx hb hG hP (isNa_i1 h_p0) (isNa_t1 h_p0) ok2 d_10_16_35 ?_
      refine lv_i2l (v := (M.1 (p0 + 1) (x2 + (M.1 p1 1)).toNatClampNeg).toInt64) hx hb d_10_16_36 rfl ?_
      refine lv_bipush (v := 30) hx hb d_10_16_37 (by decide +kernel) ?_
      refine lv_lshl (v := ((M.1 (p0 + 1) (x2 + (M.1 p1 1)).toNatClampNeg).toInt64 <<< ((30 : Int32).toInt64 &&& 63))) hx hb d_10_16_39 rfl ?_
      refine lv_aload_n hx hb d_10_16_40 rfl (lv_at hl 2 rfl) ?_
      refine m_gr (j := (p0 + 1)) (C := "Ballothall$Natural") (T := TX8) (N := 2) (ci := 8) (k := 0) hx hb hts iX8 hown hG hP (isNa_i h_p0) (isNa_T h_p0) rfl (by decide) w_294 (fun _ h9 => h9) rfl rfl (isNa_r0 h_p0) d_10_16_41 ?_
      refine lv_iload_n hx hb d_10_16_44 rfl (lv_at hl 1 rfl) ?_
      refine lv_iconst (v := 1) hx hb d_10_16_45 (by decide +kernel) ?_
      refine lv_isub hx hb d_10_16_46 ?_
      obtain ⟨ok3, h⟩ := ck_e h
      refine m_ia hx hb hG hP (isNa_i1 h_p0) (isNa_t1 h_p0) ok3 d_10_16_47 ?_
      refine lv_i2l (v := (M.1 (p0 + 1) ((x2 + (M.1 p1 1)) - (1 : Int32)).toNatClampNeg).toInt64) hx hb d_10_16_48 rfl ?_
      refine lv_ladd hx hb d_10_16_49 ?_
      obtain ⟨v4, e4, h⟩ := nb_e h
      refine nrmL e4.symm ?_
      refine lv_lstore (lv' := [(6, .long v4), (4, .long v1), (3, .int (x2 + (M.1 p1 1))), (0, .ref (ad p0)), (1, .ref (ad p1)), (2, .int x2)]) hx hb d_10_16_50 hl (by decide) rfl (fun ls hl => ?_)
      refine lv_lload hx hb d_10_16_52 (lv_at hl 0 rfl) ?_
      refine lv_lload hx hb d_10_16_54 (lv_at hl 1 rfl) ?_
      obtain ⟨ok5, h⟩ := ck_e h
      refine lv_ldiv hx hb d_10_16_56 ok5 ?_
      refine lv_ldc2 hx hb hown (hts _ w_605) d_10_16_57 ?_
      refine va_mmin_long hx hb (by rw [hml]; exact hl.1.symm) hown (hts _ w_1209) (hts _ w_720) (hts _ w_17) (hts _ w_minL) (Nat.le_of_ble_eq_true rfl) (Nat.le_of_ble_eq_true rfl) (Nat.le_of_ble_eq_true rfl) (Nat.le_of_ble_eq_true rfl) d_10_16_60 ?_
      refine lv_lstore (lv' := [(8, .long (mnL (v4 / v1) 1073741823)), (6, .long v4), (4, .long v1), (3, .int (x2 + (M.1 p1 1))), (0, .ref (ad p0)), (1, .ref (ad p1)), (2, .int x2)]) hx hb d_10_16_63 hl (by decide) rfl (fun ls hl => ?_)
      refine lv_lload hx hb d_10_16_65 (lv_at hl 1 rfl) ?_
      refine lv_lload hx hb d_10_16_67 (lv_at hl 0 rfl) ?_
      refine lv_lload hx hb d_10_16_69 (lv_at hl 2 rfl) ?_
      refine lv_lmul hx hb d_10_16_71 ?_
      refine lv_lsub hx hb d_10_16_72 ?_
      obtain ⟨v6, e6, h⟩ := nb_e h
      refine nrmL e6.symm ?_
      refine lv_lstore (lv' := [(10, .long v6), (8, .long (mnL (v4 / v1) 1073741823)), (6, .long v4), (4, .long v1), (3, .int (x2 + (M.1 p1 1))), (0, .ref (ad p0)), (1, .ref (ad p1)), (2, .int x2)]) hx hb d_10_16_73 hl (by decide) rfl (fun ls hl => ?_)
      refine lv_iconst (v := 0) hx hb d_10_16_75 (by decide +kernel) ?_
      refine lv_istore (lv' := [(12, .int 0), (10, .long v6), (8, .long (mnL (v4 / v1) 1073741823)), (6, .long v4), (4, .long v1), (3, .int (x2 + (M.1 p1 1))), (0, .ref (ad p0)), (1, .ref (ad p1)), (2, .int x2)]) hx hb d_10_16_76 hl (by decide) rfl (fun ls hl => ?_)
      obtain ⟨⟨t9, v9_8, v9_10, v9_12, M9⟩, g9, h⟩ := bd_e h
      obtain ⟨ok9, h⟩ := ck_e h
      refine s_Na_takeMultiple_78 l z ad E p0 p1 x2 (x2 + (M.1 p1 1)) v1 hx hb hml hts hown hlocks hA hG hZ hL FU M (mnL (v4 / v1) 1073741823) v6 0 t9 v9_8 v9_10 v9_12 M9 g9 (fun e9 H locs ls hP hD hS hl => ?_) H locs ls hP hD hS (lv_sub hl [6, 7, 8, 5, 4, 2, 1, 0] rfl)
      exact b_Na_takeMultiple_j146 l z ad E M9 p0 p1 x2 v9_8 r N hx hb hml hts hown hlocks hA hG hZ hL hr h H locs ls hP hD hS (lv_sub hl [0, 1, 2, 3] rfl)
    · have h := ite_t c9 h
      refine lv_iconst (v := 0) hx hb d_10_16_28 (by decide +kernel) ?_
      obtain ⟨rfl, rfl⟩ := in2 h
      exact W.iret hx hb hr (fun t ht hW => qkA hP hD hS (fun k => k) rfl rfl ht) hS.2.2 d_10_16_29
  exact key _ _ _ hts hP hS
set_option maxRecDepth 100000 in
set_option maxHeartbeats 4000000 in
theorem b_Na_divide_43b (l : Launch) (z : Zz) (ad : Nat → Nat) (E : Ev) (M : Mm) (q0 : Nat) (q1 : Nat) (q2 : Nat) (q3 : Nat) (x4 : Int32) (t : Nat) (w4 : Int32) (N : Mm) {Q : State → Prop} {p : Program} {e : Env} {s : State} {m : MethodId} {below : List Frame} {meth : Method} {c : Code} {A : Nat → Prop} {args : Array Value} (hx : p.tables.exec = Jvm.exec) (hb : c.code = prog_10_method_15_code) (hml : c.maxLocals = 6) (hts : ∀ w ∈ WG, w.before args s = true) (hown : s.vm.findClass "Ballothall$Natural" = some m.cls) (hlocks : meth.locks = false) (hA : ∀ q, s.heap.size ≤ q → A q) (hG : KG z s) (hZ : FZ z A s) (hL : Lay E) (h : Na_divide_43b E M q0 q1 q2 q3 x4 = some (t, w4, N)) (k0 : t = 0 → ∀ (H : Heap) (locs : List Loc) (ls : Array Slot), va_P z.1 classes (wv z ad E N) H → va_D A (wv z ad E N) → va_S A s.heap H locs → lv_has ls 6 [(0, .ref (ad q0)), (1, .ref (ad q1)), (2, .ref (ad q2)), (3, .ref (ad q3)), (4, .int w4)] → W p l e (rmK 3 87 0 0) s m args below meth c H locs 0 0 Q (F0 m 43 ls [])) (k1 : t = 1 → ∀ (H : Heap) (locs : List Loc) (ls : Array Slot), va_P z.1 classes (wv z ad E N) H → va_D A (wv z ad E N) → va_S A s.heap H locs → lv_has ls 6 [(0, .ref (ad q0)), (1, .ref (ad q1)), (2, .ref (ad q2)), (3, .ref (ad q3)), (4, .int w4)] → W p l e (rmK 3 87 0 0) s m args below meth c H locs 0 0 Q (F0 m 76 ls [])) : ∀ (H : Heap) (locs : List Loc) (ls : Array Slot), va_P z.1 classes (wv z ad E M) H → va_D A (wv z ad E M) → va_S A s.heap H locs → lv_has ls 6 [(0, .ref (ad q0)), (1, .ref (ad q1)), (2, .ref (ad q2)), (3, .ref (ad q3)), (4, .int x4)] → W p l e (rmK 3 87 0 0) s m args below meth c H locs 0 0 Q (F0 m 43 ls []) := by
  intro H locs ls hP hD hS hl
  unfold Na_divide_43b at h
  obtain ⟨h_q0, h⟩ := ck_e h
  obtain ⟨h_q1, h⟩ := ck_e h
  obtain ⟨h_q2, h⟩ := ck_e h
  obtain ⟨h_q3, h⟩ := ck_e h
  refine lv_iload hx hb d_10_15_43 (lv_at hl 4 rfl) ?_
  refine lv_bipush (v := 30) hx hb d_10_15_45 (by decide +kernel) ?_
  refine lv_icmp_ge (tgt := 76) hx hb d_10_15_47 (by decide) (fun c9 => ?_) (fun c9 => ?_)
  · have h := ite_t c9 h
    obtain ⟨rfl, rfl, rfl⟩ := in3 h
    exact k1 rfl H locs ls hP hD hS (lv_sub hl [0, 1, 2, 3, 4] rfl)
  · have h := ite_f c9 h
    refine lv_aload_n hx hb d_10_15_50 rfl (lv_at hl 1 rfl) ?_
    refine m_gr (j := (q1 + 1)) (C := "Ballothall$Natural") (T := TX8) (N := 2) (ci := 8) (k := 0) hx hb hts iX8 hown hG hP (isNa_i h_q1) (isNa_T h_q1) rfl (by decide) w_294 (fun _ h9 => h9) rfl rfl (isNa_r0 h_q1) d_10_15_51 ?_
    refine lv_aload_n hx hb d_10_15_54 rfl (lv_at hl 1 rfl) ?_
    refine m_gi (C := "Ballothall$Natural") (T := TX8) (N := 2) (ci := 8) (k := 1) hx hb hts iX8 hown hG hP (isNa_i h_q1) (isNa_T h_q1) rfl (by decide) w_295 (fun _ h9 => h9) rfl rfl d_10_15_55 ?_
    refine lv_iconst (v := 1) hx hb d_10_15_58 (by decide +kernel) ?_
    refine lv_isub hx hb d_10_15_59 ?_
    obtain ⟨ok0, h⟩ := ck_e h
    refine m_ia hx hb hG hP (isNa_i1 h_q1) (isNa_t1 h_q1) ok0 d_10_15_60 ?_
    refine lv_iload hx hb d_10_15_61 (lv_at hl 4 rfl) ?_
    refine lv_ishl hx hb d_10_15_63 ?_
    refine lv_bipush (v := 29) hx hb d_10_15_64 (by decide +kernel) ?_
    refine lv_ishr hx hb d_10_15_66 ?_
    refine lv_if_ne (tgt := 76) hx hb d_10_15_67 (by decide) (fun c9 => ?_) (fun c9 => ?_)
    · have h := ite_f c9 h
      obtain ⟨rfl, rfl, rfl⟩ := in3 h
      exact k1 rfl H locs ls hP hD hS (lv_sub hl [0, 1, 2, 3, 4] rfl)
    · have h := ite_t c9 h
      refine lv_iinc (v := (x4 + 1)) (lv' := [(4, .int (x4 + 1)), (0, .ref (ad q0)), (1, .ref (ad q1)), (2, .ref (ad q2)), (3, .ref (ad q3))]) hx hb d_10_15_70 hl (k := 4) rfl (congrArg (fun q => x4 + q) (show Int32.ofInt 1 = 1 by decide +kernel)) (by decide) rfl (fun ls hl => ?_)
      refine lv_goto (tgt := 43) hx hb d_10_15_73 (by decide) ?_
      obtain ⟨rfl, rfl, rfl⟩ := in3 h
      exact k0 rfl H locs ls hP hD hS (lv_sub hl [1, 2, 3, 4, 0] rfl)
set_option maxRecDepth 100000 in
set_option maxHeartbeats 4000000 in
theorem s_Na_divide_43 (l : Launch) (z : Zz) (ad : Nat → Nat) (E : Ev) (q0 : Nat) (q1 : Nat) (q2 : Nat) (q3 : Nat) {Q : State → Prop} {p : Program} {e : Env} {s : State} {m : MethodId} {below : List Frame} {meth : Method} {c : Code} {A : Nat → Prop} {args : Array Value} (hx : p.tables.exec = Jvm.exec) (hb : c.code = prog_10_method_15_code) (hml : c.maxLocals = 6) (hts : ∀ w ∈ WG, w.before args s = true) (hown : s.vm.findClass "Ballothall$Natural" = some m.cls) (hlocks : meth.locks = false) (hA : ∀ q, s.heap.size ≤ q → A q) (hG : KG z s) (hZ : FZ z A s) (hL : Lay E) : ∀ (fu : Nat) (M : Mm) (x4 : Int32) (t : Nat) (w4 : Int32) (N : Mm), l_Na_divide_43 E q0 q1 q2 q3 fu M x4 = some (t, w4, N) → (t = 1 → ∀ (H : Heap) (locs : List Loc) (ls : Array Slot), va_P z.1 classes (wv z ad E N) H → va_D A (wv z ad E N) → va_S A s.heap H locs → lv_has ls 6 [(0, .ref (ad q0)), (1, .ref (ad q1)), (2, .ref (ad q2)), (3, .ref (ad q3)), (4, .int w4)] → W p l e (rmK 3 87 0 0) s m args below meth c H locs 0 0 Q (F0 m 76 ls [])) → ∀ (H : Heap) (locs : List Loc) (ls : Array Slot), va_P z.1 classes (wv z ad E M) H → va_D A (wv z ad E M) → va_S A s.heap H locs → lv_has ls 6 [(0, .ref (ad q0)), (1, .ref (ad q1)), (2, .ref (ad q2)), (3, .ref (ad q3)), (4, .int x4)] → W p l e (rmK 3 87 0 0) s m args below meth c H locs 0 0 Q (F0 m 43 ls []) := by
  intro fu
  induction fu with
  | zero =>
    intro M x4 t w4 N h
    have h : (none : Option (Nat × Int32 × Mm)) = some _ := h
    cases h
  | succ fu ih =>
    intro M x4 t w4 N h k1 H locs ls hP hD hS hl
    obtain ⟨⟨t0, w40, N0⟩, g0, h⟩ := bd_e h
    refine b_Na_divide_43b l z ad E M q0 q1 q2 q3 x4 t0 w40 N0 hx hb hml hts hown hlocks hA hG hZ hL g0 (fun e0 => ?_) (fun e0 => ?_) H locs ls hP hD hS hl
    · subst e0
      have h := ite_t rfl h
      exact ih N0 w40 t w4 N h k1
    · subst e0
      have h := ite_f (by decide) h
      obtain ⟨rfl, rfl, rfl⟩ := in3 h
      exact k1 rfl
set_option maxRecDepth 100000 in
set_option maxHeartbeats 4000000 in
theorem b_Na_divide_103b (l : Launch) (z : Zz) (ad : Nat → Nat) (E : Ev) (M : Mm) (q0 : Nat) (q2 : Nat) (q3 : Nat) (x4 : Int32) (x5 : Int32) (t : Nat) (w5 : Int32) (N : Mm) {Q : State → Prop} {p : Program} {e : Env} {s : State} {m : MethodId} {below : List Frame} {meth : Method} {c : Code} {A : Nat → Prop} {args : Array Value} (hx : p.tables.exec = Jvm.exec) (hb : c.code = prog_10_method_15_code) (hml : c.maxLocals = 6) (hts : ∀ w ∈ WG, w.before args s = true) (hown : s.vm.findClass "Ballothall$Natural" = some m.cls) (hlocks : meth.locks = false) (hA : ∀ q, s.heap.size ≤ q → A q) (hG : KG z s) (hZ : FZ z A s) (hL : Lay E) (h : Na_divide_103b E M q0 q2 q3 x4 x5 = some (t, w5, N)) (k0 : t = 0 → ∀ (H : Heap) (locs : List Loc) (ls : Array Slot), va_P z.1 classes (wv z ad E N) H → va_D A (wv z ad E N) → va_S A s.heap H locs → lv_has ls 6 [(0, .ref (ad q0)), (2, .ref (ad q2)), (3, .ref (ad q3)), (4, .int x4), (5, .int w5)] → W p l e (rmK 3 87 0 0) s m args below meth c H locs 0 0 Q (F0 m 103 ls [])) (k1 : t = 1 → ∀ (H : Heap) (locs : List Loc) (ls : Array Slot), va_P z.1 classes (wv z ad E N) H → va_D A (wv z ad E N) → va_S A s.heap H locs → lv_has ls 6 [(0, .ref (ad q0)), (2, .ref (ad q2)), (3, .ref (ad q3)), (4, .int x4)] → W p l e (rmK 3 87 0 0) s m args below meth c H locs 0 0 Q (F0 m 124 ls [])) : ∀ (H : Heap) (locs : List Loc) (ls : Array Slot), va_P z.1 classes (wv z ad E M) H → va_D A (wv z ad E M) → va_S A s.heap H locs → lv_has ls 6 [(0, .ref (ad q0)), (2, .ref (ad q2)), (3, .ref (ad q3)), (4, .int x4), (5, .int x5)] → W p l e (rmK 3 87 0 0) s m args below meth c H locs 0 0 Q (F0 m 103 ls []) := by
  intro H locs ls hP hD hS hl
  unfold Na_divide_103b at h
  obtain ⟨h_q0, h⟩ := ck_e h
  obtain ⟨h_q2, h⟩ := ck_e h
  obtain ⟨h_q3, h⟩ := ck_e h
  refine lv_iload hx hb d_10_15_103 (lv_at hl 4 rfl) ?_
  refine lv_bipush (v := 13) hx hb d_10_15_105 (by decide +kernel) ?_
  refine lv_icmp_ge (tgt := 124) hx hb d_10_15_107 (by decide) (fun c9 => ?_) (fun c9 => ?_)
  · have h := ite_t c9 h
    obtain ⟨rfl, rfl, rfl⟩ := in3 h
    exact k1 rfl H locs ls hP hD hS (lv_sub hl [0, 1, 2, 3] rfl)
  · have h := ite_f c9 h
    refine lv_aload_n hx hb d_10_15_110 rfl (lv_at hl 0 rfl) ?_
    refine m_gr (j := (q0 + 1)) (C := "Ballothall$Natural") (T := TX8) (N := 2) (ci := 8) (k := 0) hx hb hts iX8 hown hG hP (isNa_i h_q0) (isNa_T h_q0) rfl (by decide) w_294 (fun _ h9 => h9) rfl rfl (isNa_r0 h_q0) d_10_15_111 ?_
    refine lv_iload hx hb d_10_15_114 (lv_at hl 4 rfl) ?_
    refine lv_iconst (v := 0) hx hb d_10_15_116 (by decide +kernel) ?_
    obtain ⟨ok5, h⟩ := ck_e h
    refine m_is hx hb hG hP hD hS (isNa_i1 h_q0) (isNa_t1 h_q0) ok5 d_10_15_117 (fun H locs hP hD hS => ?_)
    have hP : va_P z.1 classes (wv z ad E (u2 M (q0 + 1) x5.toNatClampNeg 0)) H := hP
    have hD : va_D A (wv z ad E (u2 M (q0 + 1) x5.toNatClampNeg 0)) := hD
    refine lv_iinc (v := (x5 + 1)) (lv' := [(5, .int (x5 + 1)), (0, .ref (ad q0)), (2, .ref (ad q2)), (3, .ref (ad q3)), (4, .int x4)]) hx hb d_10_15_118 hl (k := 4) rfl (congrArg (fun q => x5 + q) (show Int32.ofInt 1 = 1 by decide +kernel)) (by decide) rfl (fun ls hl => ?_)
    refine lv_goto (tgt := 103) hx hb d_10_15_121 (by decide) ?_
    obtain ⟨rfl, rfl, rfl⟩ := in3 h
    exact k0 rfl H locs ls hP hD hS (lv_sub hl [1, 2, 3, 4, 0] rfl)
set_option maxRecDepth 100000 in
set_option maxHeartbeats 4000000 in
theorem s_Na_divide_103 (l : Launch) (z : Zz) (ad : Nat → Nat) (E : Ev) (q0 : Nat) (q2 : Nat) (q3 : Nat) (x4 : Int32) {Q : State → Prop} {p : Program} {e : Env} {s : State} {m : MethodId} {below : List Frame} {meth : Method} {c : Code} {A : Nat → Prop} {args : Array Value} (hx : p.tables.exec = Jvm.exec) (hb : c.code = prog_10_method_15_code) (hml : c.maxLocals = 6) (hts : ∀ w ∈ WG, w.before args s = true) (hown : s.vm.findClass "Ballothall$Natural" = some m.cls) (hlocks : meth.locks = false) (hA : ∀ q, s.heap.size ≤ q → A q) (hG : KG z s) (hZ : FZ z A s) (hL : Lay E) : ∀ (fu : Nat) (M : Mm) (x5 : Int32) (t : Nat) (w5 : Int32) (N : Mm), l_Na_divide_103 E q0 q2 q3 x4 fu M x5 = some (t, w5, N) → (t = 1 → ∀ (H : Heap) (locs : List Loc) (ls : Array Slot), va_P z.1 classes (wv z ad E N) H → va_D A (wv z ad E N) → va_S A s.heap H locs → lv_has ls 6 [(0, .ref (ad q0)), (2, .ref (ad q2)), (3, .ref (ad q3)), (4, .int x4)] → W p l e (rmK 3 87 0 0) s m args below meth c H locs 0 0 Q (F0 m 124 ls [])) → ∀ (H : Heap) (locs : List Loc) (ls : Array Slot), va_P z.1 classes (wv z ad E M) H → va_D A (wv z ad E M) → va_S A s.heap H locs → lv_has ls 6 [(0, .ref (ad q0)), (2, .ref (ad q2)), (3, .ref (ad q3)), (4, .int x4), (5, .int x5)] → W p l e (rmK 3 87 0 0) s m args below meth c H locs 0 0 Q (F0 m 103 ls []) := by
  intro fu
  induction fu with
  | zero =>
    intro M x5 t w5 N h
    have h : (none : Option (Nat × Int32 × Mm)) = some _ := h
    cases h
  | succ fu ih =>
    intro M x5 t w5 N h k1 H locs ls hP hD hS hl
    obtain ⟨⟨t0, w50, N0⟩, g0, h⟩ := bd_e h
    refine b_Na_divide_103b l z ad E M q0 q2 q3 x4 x5 t0 w50 N0 hx hb hml hts hown hlocks hA hG hZ hL g0 (fun e0 => ?_) (fun e0 => ?_) H locs ls hP hD hS hl
    · subst e0
      have h := ite_t rfl h
      exact ih N0 w50 t w5 N h k1
    · subst e0
      have h := ite_f (by decide) h
      obtain ⟨rfl, rfl, rfl⟩ := in3 h
      exact k1 rfl
set_option maxRecDepth 100000 in
set_option maxHeartbeats 4000000 in
theorem b_Na_divide_148b (l : Launch) (z : Zz) (ad : Nat → Nat) (E : Ev) (M : Mm) (q0 : Nat) (q2 : Nat) (q3 : Nat) (x4 : Int32) (x5 : Int32) (t : Nat) (w5 : Int32) (N : Mm) {Q : State → Prop} {p : Program} {e : Env} {s : State} {m : MethodId} {below : List Frame} {meth : Method} {c : Code} {A : Nat → Prop} {args : Array Value} (hx : p.tables.exec = Jvm.exec) (hb : c.code = prog_10_method_15_code) (hml : c.maxLocals = 6) (hts : ∀ w ∈ WG, w.before args s = true) (hown : s.vm.findClass "Ballothall$Natural" = some m.cls) (hlocks : meth.locks = false) (hA : ∀ q, s.heap.size ≤ q → A q) (hG : KG z s) (hZ : FZ z A s) (hL : Lay E) (h : Na_divide_148b E M q0 q2 q3 x4 x5 = some (t, w5, N)) (k0 : t = 0 → ∀ (H : Heap) (locs : List Loc) (ls : Array Slot), va_P z.1 classes (wv z ad E N) H → va_D A (wv z ad E N) → va_S A s.heap H locs → lv_has ls 6 [(0, .ref (ad q0)), (2, .ref (ad q2)), (3, .ref (ad q3)), (4, .int x4), (5, .int w5)] → W p l e (rmK 3 87 0 0) s m args below meth c H locs 0 0 Q (F0 m 148 ls [])) (k1 : t = 1 → ∀ (H : Heap) (locs : List Loc) (ls : Array Slot), va_P z.1 classes (wv z ad E N) H → va_D A (wv z ad E N) → va_S A s.heap H locs → lv_has ls 6 [(0, .ref (ad q0)), (2, .ref (ad q2)), (4, .int x4)] → W p l e (rmK 3 87 0 0) s m args below meth c H locs 0 0 Q (F0 m 173 ls [])) : ∀ (H : Heap) (locs : List Loc) (ls : Array Slot), va_P z.1 classes (wv z ad E M) H → va_D A (wv z ad E M) → va_S A s.heap H locs → lv_has ls 6 [(0, .ref (ad q0)), (2, .ref (ad q2)), (3, .ref (ad q3)), (4, .int x4), (5, .int x5)] → W p l e (rmK 3 87 0 0) s m args below meth c H locs 0 0 Q (F0 m 148 ls []) := by
  intro H locs ls hP hD hS hl
  unfold Na_divide_148b at h
  obtain ⟨h_q0, h⟩ := ck_e h
  obtain ⟨h_q2, h⟩ := ck_e h
  obtain ⟨h_q3, h⟩ := ck_e h
  refine lv_iload hx hb d_10_15_148 (lv_at hl 4 rfl) ?_
  refine lv_if_lt (tgt := 173) hx hb d_10_15_150 (by decide) (fun c9 => ?_) (fun c9 => ?_)
  · have h := ite_t c9 h
    obtain ⟨rfl, rfl, rfl⟩ := in3 h
    exact k1 rfl H locs ls hP hD hS (lv_sub hl [0, 1, 3] rfl)
  · have h := ite_f c9 h
    refine lv_aload_n hx hb d_10_15_153 rfl (lv_at hl 1 rfl) ?_
    refine m_gr (j := (q2 + 1)) (C := "Ballothall$Natural") (T := TX8) (N := 2) (ci := 8) (k := 0) hx hb hts iX8 hown hG hP (isNa_i h_q2) (isNa_T h_q2) rfl (by decide) w_294 (fun _ h9 => h9) rfl rfl (isNa_r0 h_q2) d_10_15_154 ?_
    refine lv_iload hx hb d_10_15_157 (lv_at hl 4 rfl) ?_
    refine lv_aload_n hx hb d_10_15_159 rfl (lv_at hl 0 rfl) ?_
    refine lv_aload_n hx hb d_10_15_160 rfl (lv_at hl 2 rfl) ?_
    refine lv_iload hx hb d_10_15_161 (lv_at hl 4 rfl) ?_
    obtain ⟨⟨r9, M9⟩, g9, h⟩ := bd_e h
    refine kV (As := [.ref (ad q3), .int x5]) (rest := [.int x5, .ref (ad (q2 + 1))]) (s_Na_takeMultiple l z ad E M q0 q3 x5 r9 M9 hL g9) hx hb hml hown hts w_1208 w_1205 w_1207 w_s_55265e w_9 md_88ef4b ⟨Nat.le_of_ble_eq_true rfl, Nat.le_of_ble_eq_true rfl⟩ hG hZ hP hD hS hA q0 (wv_o (ci := 8) (isNa_i h_q0) (isNa_T h_q0)) rfl rfl rfl hl.1 rfl (Nat.le_of_ble_eq_true rfl) d_10_15_163 ⟨Nat.le_of_ble_eq_true rfl, Nat.le_of_ble_eq_true rfl⟩ (fun _ H locs hP hD hS => ?_)
    have hP : va_P z.1 classes (wv z ad E M9) H := hP
    have hD : va_D A (wv z ad E M9) := hD
    refine W.eq (g2 := F0 m 166 ls [.int r9, .int x5, .ref (ad (q2 + 1))]) rfl ?_
    obtain ⟨ok10, h⟩ := ck_e h
    refine m_is hx hb hG hP hD hS (isNa_i1 h_q2) (isNa_t1 h_q2) ok10 d_10_15_166 (fun H locs hP hD hS => ?_)
    have hP : va_P z.1 classes (wv z ad E (u2 M9 (q2 + 1) x5.toNatClampNeg r9)) H := hP
    have hD : va_D A (wv z ad E (u2 M9 (q2 + 1) x5.toNatClampNeg r9)) := hD
    refine lv_iinc (v := (x5 + (-1))) (lv' := [(5, .int (x5 + (-1))), (0, .ref (ad q0)), (2, .ref (ad q2)), (3, .ref (ad q3)), (4, .int x4)]) hx hb d_10_15_167 hl (k := 4) rfl (congrArg (fun q => x5 + q) (show Int32.ofInt (-1) = (-1) by decide +kernel)) (by decide) rfl (fun ls hl => ?_)
    refine lv_goto (tgt := 148) hx hb d_10_15_170 (by decide) ?_
    obtain ⟨rfl, rfl, rfl⟩ := in3 h
    exact k0 rfl H locs ls hP hD hS (lv_sub hl [1, 2, 3, 4, 0] rfl)
set_option maxRecDepth 100000 in
set_option maxHeartbeats 4000000 in
theorem s_Na_divide_148 (l : Launch) (z : Zz) (ad : Nat → Nat) (E : Ev) (q0 : Nat) (q2 : Nat) (q3 : Nat) (x4 : Int32) {Q : State → Prop} {p : Program} {e : Env} {s : State} {m : MethodId} {below : List Frame} {meth : Method} {c : Code} {A : Nat → Prop} {args : Array Value} (hx : p.tables.exec = Jvm.exec) (hb : c.code = prog_10_method_15_code) (hml : c.maxLocals = 6) (hts : ∀ w ∈ WG, w.before args s = true) (hown : s.vm.findClass "Ballothall$Natural" = some m.cls) (hlocks : meth.locks = false) (hA : ∀ q, s.heap.size ≤ q → A q) (hG : KG z s) (hZ : FZ z A s) (hL : Lay E) : ∀ (fu : Nat) (M : Mm) (x5 : Int32) (t : Nat) (w5 : Int32) (N : Mm), l_Na_divide_148 E q0 q2 q3 x4 fu M x5 = some (t, w5, N) → (t = 1 → ∀ (H : Heap) (locs : List Loc) (ls : Array Slot), va_P z.1 classes (wv z ad E N) H → va_D A (wv z ad E N) → va_S A s.heap H locs → lv_has ls 6 [(0, .ref (ad q0)), (2, .ref (ad q2)), (4, .int x4)] → W p l e (rmK 3 87 0 0) s m args below meth c H locs 0 0 Q (F0 m 173 ls [])) → ∀ (H : Heap) (locs : List Loc) (ls : Array Slot), va_P z.1 classes (wv z ad E M) H → va_D A (wv z ad E M) → va_S A s.heap H locs → lv_has ls 6 [(0, .ref (ad q0)), (2, .ref (ad q2)), (3, .ref (ad q3)), (4, .int x4), (5, .int x5)] → W p l e (rmK 3 87 0 0) s m args below meth c H locs 0 0 Q (F0 m 148 ls []) := by
  intro fu
  induction fu with
  | zero =>
    intro M x5 t w5 N h
    have h : (none : Option (Nat × Int32 × Mm)) = some _ := h
    cases h
  | succ fu ih =>
    intro M x5 t w5 N h k1 H locs ls hP hD hS hl
    obtain ⟨⟨t0, w50, N0⟩, g0, h⟩ := bd_e h
    refine b_Na_divide_148b l z ad E M q0 q2 q3 x4 x5 t0 w50 N0 hx hb hml hts hown hlocks hA hG hZ hL g0 (fun e0 => ?_) (fun e0 => ?_) H locs ls hP hD hS hl
    · subst e0
      have h := ite_t rfl h
      exact ih N0 w50 t w5 N h k1
    · subst e0
      have h := ite_f (by decide) h
      obtain ⟨rfl, rfl, rfl⟩ := in3 h
      exact k1 rfl
set_option maxRecDepth 100000 in
set_option maxHeartbeats 4000000 in
theorem b_Na_divide_j76 (l : Launch) (z : Zz) (ad : Nat → Nat) (E : Ev) (M : Mm) (q0 : Nat) (q1 : Nat) (q2 : Nat) (q3 : Nat) (x4 : Int32) (N : Mm) {p : Program} {e : Env} {s : State} {m : MethodId} {below : List Frame} {meth : Method} {c : Code} {A : Nat → Prop} {args : Array Value} (hx : p.tables.exec = Jvm.exec) (hb : c.code = prog_10_method_15_code) (hml : c.maxLocals = 6) (hts : ∀ w ∈ WG, w.before args s = true) (hown : s.vm.findClass "Ballothall$Natural" = some m.cls) (hlocks : meth.locks = false) (hA : ∀ q, s.heap.size ≤ q → A q) (hG : KG z s) (hZ : FZ z A s) (hL : Lay E) (hr : meth.sig.returnType = none) (h : Na_divide_j76 E M q0 q1 q2 q3 x4 = some N) : ∀ (H : Heap) (locs : List Loc) (ls : Array Slot), va_P z.1 classes (wv z ad E M) H → va_D A (wv z ad E M) → va_S A s.heap H locs → lv_has ls 6 [(0, .ref (ad q0)), (1, .ref (ad q1)), (2, .ref (ad q2)), (3, .ref (ad q3)), (4, .int x4)] → W p l e (rmK 3 87 0 0) s m args below meth c H locs 0 0 (MQ below (QK z A (fun _ => none) (fun _ => wv z ad E N)) args s 0 0 A) (F0 m 76 ls []) := by
  intro H locs ls hP hD hS hl
  unfold Na_divide_j76 at h
  obtain ⟨h_q0, h⟩ := ck_e h
  obtain ⟨h_q1, h⟩ := ck_e h
  obtain ⟨h_q2, h⟩ := ck_e h
  obtain ⟨h_q3, h⟩ := ck_e h
  refine lv_aload_n hx hb d_10_15_76 rfl (lv_at hl 3 rfl) ?_
  refine lv_aload_n hx hb d_10_15_77 rfl (lv_at hl 1 rfl) ?_
  obtain ⟨M2, g2, h⟩ := bd_e h
  refine kV (As := [.ref (ad q1)]) (rest := []) (s_Na_copyFrom l z ad E M q3 q1 M2 hL g2) hx hb hml hown hts w_1175 w_1200 w_1174 w_s_8c9b61 w_9 md_68420c ⟨Nat.le_of_ble_eq_true rfl, Nat.le_of_ble_eq_true rfl⟩ hG hZ hP hD hS hA q3 (wv_o (ci := 8) (isNa_i h_q3) (isNa_T h_q3)) rfl rfl rfl hl.1 rfl (Nat.le_of_ble_eq_true rfl) d_10_15_78 ⟨Nat.le_of_ble_eq_true rfl, Nat.le_of_ble_eq_true rfl⟩ (fun _ H locs hP hD hS => ?_)
  have hP : va_P z.1 classes (wv z ad E M2) H := hP
  have hD : va_D A (wv z ad E M2) := hD
  refine W.eq (g2 := F0 m 81 ls []) rfl ?_
  refine lv_aload_n hx hb d_10_15_81 rfl (lv_at hl 3 rfl) ?_
  refine lv_iconst (v := 1) hx hb d_10_15_82 (by decide +kernel) ?_
  refine lv_iload hx hb d_10_15_83 (lv_at hl 4 rfl) ?_
  refine lv_ishl hx hb d_10_15_85 ?_
  obtain ⟨M3, g3, h⟩ := bd_e h
  refine kV (As := [.int ((1 : Int32) <<< (x4 &&& 31))]) (rest := []) (s_Na_multiplySmall l z ad E M2 q3 ((1 : Int32) <<< (x4 &&& 31)) M3 hL g3) hx hb hml hown hts w_642 w_1203 w_641 w_s_f32dd6 w_9 md_664187 ⟨Nat.le_of_ble_eq_true rfl, Nat.le_of_ble_eq_true rfl⟩ hG hZ hP hD hS hA q3 (wv_o (ci := 8) (isNa_i h_q3) (isNa_T h_q3)) rfl rfl rfl hl.1 rfl (Nat.le_of_ble_eq_true rfl) d_10_15_86 ⟨Nat.le_of_ble_eq_true rfl, Nat.le_of_ble_eq_true rfl⟩ (fun _ H locs hP hD hS => ?_)
  have hP : va_P z.1 classes (wv z ad E M3) H := hP
  have hD : va_D A (wv z ad E M3) := hD
  refine W.eq (g2 := F0 m 89 ls []) rfl ?_
  refine lv_aload_n hx hb d_10_15_89 rfl (lv_at hl 0 rfl) ?_
  refine lv_iconst (v := 1) hx hb d_10_15_90 (by decide +kernel) ?_
  refine lv_iload hx hb d_10_15_91 (lv_at hl 4 rfl) ?_
  refine lv_ishl hx hb d_10_15_93 ?_
  obtain ⟨M4, g4, h⟩ := bd_e h
  refine kV (As := [.int ((1 : Int32) <<< (x4 &&& 31))]) (rest := []) (s_Na_multiplySmall l z ad E M3 q0 ((1 : Int32) <<< (x4 &&& 31)) M4 hL g4) hx hb hml hown hts w_642 w_1203 w_641 w_s_f32dd6 w_9 md_664187 ⟨Nat.le_of_ble_eq_true rfl, Nat.le_of_ble_eq_true rfl⟩ hG hZ hP hD hS hA q0 (wv_o (ci := 8) (isNa_i h_q0) (isNa_T h_q0)) rfl rfl rfl hl.1 rfl (Nat.le_of_ble_eq_true rfl) d_10_15_94 ⟨Nat.le_of_ble_eq_true rfl, Nat.le_of_ble_eq_true rfl⟩ (fun _ H locs hP hD hS => ?_)
  have hP : va_P z.1 classes (wv z ad E M4) H := hP
  have hD : va_D A (wv z ad E M4) := hD
  refine W.eq (g2 := F0 m 97 ls []) rfl ?_
  refine lv_aload_n hx hb d_10_15_97 rfl (lv_at hl 0 rfl) ?_
  refine m_gi (C := "Ballothall$Natural") (T := TX8) (N := 2) (ci := 8) (k := 1) hx hb hts iX8 hown hG hP (isNa_i h_q0) (isNa_T h_q0) rfl (by decide) w_295 (fun _ h9 => h9) rfl rfl d_10_15_98 ?_
  refine lv_istore (lv' := [(5, .int (M4.1 q0 1)), (0, .ref (ad q0)), (1, .ref (ad q1)), (2, .ref (ad q2)), (3, .ref (ad q3)), (4, .int x4)]) hx hb d_10_15_101 hl (by decide) rfl (fun ls hl => ?_)
  obtain ⟨⟨t6, v6_5, M6⟩, g6, h⟩ := bd_e h
  obtain ⟨ok6, h⟩ := ck_e h
  refine s_Na_divide_103 l z ad E q0 q2 q3 x4 hx hb hml hts hown hlocks hA hG hZ hL FU M4 (M4.1 q0 1) t6 v6_5 M6 g6 (fun e6 H locs ls hP hD hS hl => ?_) H locs ls hP hD hS (lv_sub hl [1, 3, 4, 5, 0] rfl)
  refine lv_aload_n hx hb d_10_15_124 rfl (lv_at hl 1 rfl) ?_
  refine m_gr (j := (q2 + 1)) (C := "Ballothall$Natural") (T := TX8) (N := 2) (ci := 8) (k := 0) hx hb hts iX8 hown hG hP (isNa_i h_q2) (isNa_T h_q2) rfl (by decide) w_294 (fun _ h9 => h9) rfl rfl (isNa_r0 h_q2) d_10_15_125 ?_
  refine lv_iconst (v := 0) hx hb d_10_15_128 (by decide +kernel) ?_
  obtain ⟨M7, g7, h⟩ := bd_e h
  refine kS (As := [.ref (ad (q2 + 1)), .int 0]) (rest := []) (s_Ar_fillI l z ad E M6 (q2 + 1) 0 M7 hL g7) hx hb hml hown hts w_653 w_1204 w_652 w_23 md_e8f65d ⟨Nat.le_of_ble_eq_true rfl, Nat.le_of_ble_eq_true rfl⟩ hG hZ hP hD hS hA rfl hl.1 rfl (Nat.le_of_ble_eq_true rfl) d_10_15_129 ⟨Nat.le_of_ble_eq_true rfl, Nat.le_of_ble_eq_true rfl⟩ (fun _ H locs hP hD hS => ?_)
  have hP : va_P z.1 classes (wv z ad E M7) H := hP
  have hD : va_D A (wv z ad E M7) := hD
  refine W.eq (g2 := F0 m 132 ls []) rfl ?_
  refine lv_aload_n hx hb d_10_15_132 rfl (lv_at hl 0 rfl) ?_
  refine m_gi (C := "Ballothall$Natural") (T := TX8) (N := 2) (ci := 8) (k := 1) hx hb hts iX8 hown hG hP (isNa_i h_q0) (isNa_T h_q0) rfl (by decide) w_295 (fun _ h9 => h9) rfl rfl d_10_15_133 ?_
  refine lv_bipush (v := 12) hx hb d_10_15_136 (by decide +kernel) ?_
  refine va_mmin hx hb (by rw [hml]; exact hl.1.symm) hown (hts _ w_626) (hts _ w_521) (hts _ w_17) (hts _ w_min) (Nat.le_of_ble_eq_true rfl) (Nat.le_of_ble_eq_true rfl) (Nat.le_of_ble_eq_true rfl) (Nat.le_of_ble_eq_true rfl) d_10_15_138 ?_
  refine lv_aload_n hx hb d_10_15_141 rfl (lv_at hl 2 rfl) ?_
  refine m_gi (C := "Ballothall$Natural") (T := TX8) (N := 2) (ci := 8) (k := 1) hx hb hts iX8 hown hG hP (isNa_i h_q3) (isNa_T h_q3) rfl (by decide) w_295 (fun _ h9 => h9) rfl rfl d_10_15_142 ?_
  refine lv_isub hx hb d_10_15_145 ?_
  obtain ⟨v8, e8, h⟩ := nb_e h
  refine nrm e8.symm ?_
  refine lv_istore (lv' := [(5, .int v8), (0, .ref (ad q0)), (2, .ref (ad q2)), (3, .ref (ad q3)), (4, .int x4)]) hx hb d_10_15_146 hl (by decide) rfl (fun ls hl => ?_)
  obtain ⟨⟨t11, v11_5, M11⟩, g11, h⟩ := bd_e h
  obtain ⟨ok11, h⟩ := ck_e h
  refine s_Na_divide_148 l z ad E q0 q2 q3 x4 hx hb hml hts hown hlocks hA hG hZ hL FU M7 v8 t11 v11_5 M11 g11 (fun e11 H locs ls hP hD hS hl => ?_) H locs ls hP hD hS (lv_sub hl [1, 2, 3, 4, 0] rfl)
  refine lv_aload_n hx hb d_10_15_173 rfl (lv_at hl 1 rfl) ?_
  refine lv_bipush (v := 13) hx hb d_10_15_174 (by decide +kernel) ?_
  obtain ⟨M12, g12, h⟩ := bd_e h
  refine kV (As := [.int 13]) (rest := []) (s_Na_trimTo l z ad E M11 q2 13 M12 hL g12) hx hb hml hown hts w_625 w_622 w_624 w_s_8e7085 w_9 md_0a866a ⟨Nat.le_of_ble_eq_true rfl, Nat.le_of_ble_eq_true rfl⟩ hG hZ hP hD hS hA q2 (wv_o (ci := 8) (isNa_i h_q2) (isNa_T h_q2)) rfl rfl rfl hl.1 rfl (Nat.le_of_ble_eq_true rfl) d_10_15_176 ⟨Nat.le_of_ble_eq_true rfl, Nat.le_of_ble_eq_true rfl⟩ (fun _ H locs hP hD hS => ?_)
  have hP : va_P z.1 classes (wv z ad E M12) H := hP
  have hD : va_D A (wv z ad E M12) := hD
  refine W.eq (g2 := F0 m 179 ls []) rfl ?_
  refine lv_aload_n hx hb d_10_15_179 rfl (lv_at hl 0 rfl) ?_
  refine lv_bipush (v := 13) hx hb d_10_15_180 (by decide +kernel) ?_
  obtain ⟨M13, g13, h⟩ := bd_e h
  refine kV (As := [.int 13]) (rest := []) (s_Na_trimTo l z ad E M12 q0 13 M13 hL g13) hx hb hml hown hts w_625 w_622 w_624 w_s_8e7085 w_9 md_0a866a ⟨Nat.le_of_ble_eq_true rfl, Nat.le_of_ble_eq_true rfl⟩ hG hZ hP hD hS hA q0 (wv_o (ci := 8) (isNa_i h_q0) (isNa_T h_q0)) rfl rfl rfl hl.1 rfl (Nat.le_of_ble_eq_true rfl) d_10_15_182 ⟨Nat.le_of_ble_eq_true rfl, Nat.le_of_ble_eq_true rfl⟩ (fun _ H locs hP hD hS => ?_)
  have hP : va_P z.1 classes (wv z ad E M13) H := hP
  have hD : va_D A (wv z ad E M13) := hD
  refine W.eq (g2 := F0 m 185 ls []) rfl ?_
  refine lv_aload_n hx hb d_10_15_185 rfl (lv_at hl 0 rfl) ?_
  refine lv_iconst (v := 1) hx hb d_10_15_186 (by decide +kernel) ?_
  refine lv_iload hx hb d_10_15_187 (lv_at hl 2 rfl) ?_
  refine lv_ishl hx hb d_10_15_189 ?_
  obtain ⟨⟨r14, M14⟩, g14, h⟩ := bd_e h
  refine kV (As := [.int ((1 : Int32) <<< (x4 &&& 31))]) (rest := []) (s_Na_divideSmall l z ad E M13 q0 ((1 : Int32) <<< (x4 &&& 31)) r14 M14 hL g14) hx hb hml hown hts w_1142 w_1201 w_1141 w_s_b783c0 w_9 md_e931a9 ⟨Nat.le_of_ble_eq_true rfl, Nat.le_of_ble_eq_true rfl⟩ hG hZ hP hD hS hA q0 (wv_o (ci := 8) (isNa_i h_q0) (isNa_T h_q0)) rfl rfl rfl hl.1 rfl (Nat.le_of_ble_eq_true rfl) d_10_15_190 ⟨Nat.le_of_ble_eq_true rfl, Nat.le_of_ble_eq_true rfl⟩ (fun _ H locs hP hD hS => ?_)
  have hP : va_P z.1 classes (wv z ad E M14) H := hP
  have hD : va_D A (wv z ad E M14) := hD
  refine W.eq (g2 := F0 m 193 ls [.int r14]) rfl ?_
  refine lv_pop hx hb d_10_15_193 rfl ?_
  obtain rfl := in1 h
  exact W.vret hx hb hr (fun t ht hW => qkA hP hD hS (fun k => k) rfl rfl ht) hS.2.2 d_10_15_194
