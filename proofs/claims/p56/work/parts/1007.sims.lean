set_option maxRecDepth 100000 in
set_option maxHeartbeats 4000000 in
theorem b_Fb_findOrder_2b (l : Launch) (z : Zz) (ad : Nat → Nat) (E : Ev) (M : Mm) (x1 : Int32) (x2 : Int32) (x3 : Int32) (t : Nat) (w3 : Int32) (N : Mm) {Q : State → Prop} {p : Program} {e : Env} {s : State} {m : MethodId} {below : List Frame} {meth : Method} {c : Code} {A : Nat → Prop} {args : Array Value} (hx : p.tables.exec = Jvm.exec) (hb : c.code = prog_7_method_4_code) (hml : c.maxLocals = 7) (hts : ∀ w ∈ WG, w.before args s = true) (hown : s.vm.findClass "Ballothall$FalseBallot" = some m.cls) (hlocks : meth.locks = false) (hA : ∀ q, s.heap.size ≤ q → A q) (hG : KG z s) (hZ : FZ z A s) (hL : Lay E) (h : Fb_findOrder_2b E M x1 x2 x3 = some (t, w3, N)) (k0 : t = 0 → ∀ (H : Heap) (locs : List Loc) (ls : Array Slot), va_P z.1 classes (wv z ad E N) H → va_D A (wv z ad E N) → va_S A s.heap H locs → lv_has ls 7 [(0, .ref (ad 51)), (1, .int x1), (2, .int x2), (3, .int w3)] → W p l e (rmK 5 135 0 0) s m args below meth c H locs 0 0 Q (F0 m 2 ls [])) (k1 : t = 1 → ∀ (H : Heap) (locs : List Loc) (ls : Array Slot), va_P z.1 classes (wv z ad E N) H → va_D A (wv z ad E N) → va_S A s.heap H locs → lv_has ls 7 [(0, .ref (ad 51)), (1, .int x1), (2, .int x2)] → W p l e (rmK 5 135 0 0) s m args below meth c H locs 0 0 Q (F0 m 20 ls [])) : ∀ (H : Heap) (locs : List Loc) (ls : Array Slot), va_P z.1 classes (wv z ad E M) H → va_D A (wv z ad E M) → va_S A s.heap H locs → lv_has ls 7 [(0, .ref (ad 51)), (1, .int x1), (2, .int x2), (3, .int x3)] → W p l e (rmK 5 135 0 0) s m args below meth c H locs 0 0 Q (F0 m 2 ls []) := by
  intro H locs ls hP hD hS hl
  unfold Fb_findOrder_2b at h
  refine lv_iload_n hx hb d_7_4_2 rfl (lv_at hl 3 rfl) ?_
  refine lv_iconst (v := 5) hx hb d_7_4_3 (by decide +kernel) ?_
  refine lv_icmp_ge (tgt := 20) hx hb d_7_4_4 (by decide) (fun c9 => ?_) (fun c9 => ?_)
  · have h := ite_t c9 h
    obtain ⟨rfl, rfl, rfl⟩ := in3 h
    exact k1 rfl H locs ls hP hD hS (lv_sub hl [0, 1, 2] rfl)
  · have h := ite_f c9 h
    refine lv_aload_n hx hb d_7_4_7 rfl (lv_at hl 0 rfl) ?_
    refine m_gr (j := 52) (C := "Ballothall$FalseBallot") (T := TX5) (N := 3) (ci := 5) (k := 2) hx hb hts iX5 hown hG hP (yi_51 hL) (yt_51 hL) rfl (by decide) w_154 (fun _ h9 => h9) rfl rfl (yr_51_2 hL) d_7_4_8 ?_
    refine lv_iload_n hx hb d_7_4_11 rfl (lv_at hl 3 rfl) ?_
    refine lv_iload_n hx hb d_7_4_12 rfl (lv_at hl 3 rfl) ?_
    obtain ⟨ok0, h⟩ := ck_e h
    refine m_is hx hb hG hP hD hS (yi_52 hL) (yt_52 hL) ok0 d_7_4_13 (fun H locs hP hD hS => ?_)
    have hP : va_P z.1 classes (wv z ad E (u2 M 52 x3.toNatClampNeg x3)) H := hP
    have hD : va_D A (wv z ad E (u2 M 52 x3.toNatClampNeg x3)) := hD
    refine lv_iinc (v := (x3 + 1)) (lv' := [(3, .int (x3 + 1)), (0, .ref (ad 51)), (1, .int x1), (2, .int x2)]) hx hb d_7_4_14 hl (k := 3) rfl (congrArg (fun q => x3 + q) (show Int32.ofInt 1 = 1 by decide +kernel)) (by decide) rfl (fun ls hl => ?_)
    refine lv_goto (tgt := 2) hx hb d_7_4_17 (by decide) ?_
    obtain ⟨rfl, rfl, rfl⟩ := in3 h
    exact k0 rfl H locs ls hP hD hS (lv_sub hl [1, 2, 3, 0] rfl)
set_option maxRecDepth 100000 in
set_option maxHeartbeats 4000000 in
theorem s_Fb_findOrder_2 (l : Launch) (z : Zz) (ad : Nat → Nat) (E : Ev) (x1 : Int32) (x2 : Int32) {Q : State → Prop} {p : Program} {e : Env} {s : State} {m : MethodId} {below : List Frame} {meth : Method} {c : Code} {A : Nat → Prop} {args : Array Value} (hx : p.tables.exec = Jvm.exec) (hb : c.code = prog_7_method_4_code) (hml : c.maxLocals = 7) (hts : ∀ w ∈ WG, w.before args s = true) (hown : s.vm.findClass "Ballothall$FalseBallot" = some m.cls) (hlocks : meth.locks = false) (hA : ∀ q, s.heap.size ≤ q → A q) (hG : KG z s) (hZ : FZ z A s) (hL : Lay E) : ∀ (fu : Nat) (M : Mm) (x3 : Int32) (t : Nat) (w3 : Int32) (N : Mm), l_Fb_findOrder_2 E x1 x2 fu M x3 = some (t, w3, N) → (t = 1 → ∀ (H : Heap) (locs : List Loc) (ls : Array Slot), va_P z.1 classes (wv z ad E N) H → va_D A (wv z ad E N) → va_S A s.heap H locs → lv_has ls 7 [(0, .ref (ad 51)), (1, .int x1), (2, .int x2)] → W p l e (rmK 5 135 0 0) s m args below meth c H locs 0 0 Q (F0 m 20 ls [])) → ∀ (H : Heap) (locs : List Loc) (ls : Array Slot), va_P z.1 classes (wv z ad E M) H → va_D A (wv z ad E M) → va_S A s.heap H locs → lv_has ls 7 [(0, .ref (ad 51)), (1, .int x1), (2, .int x2), (3, .int x3)] → W p l e (rmK 5 135 0 0) s m args below meth c H locs 0 0 Q (F0 m 2 ls []) := by
  intro fu
  induction fu with
  | zero =>
    intro M x3 t w3 N h
    have h : (none : Option (Nat × Int32 × Mm)) = some _ := h
    cases h
  | succ fu ih =>
    intro M x3 t w3 N h k1 H locs ls hP hD hS hl
    obtain ⟨⟨t0, w30, N0⟩, g0, h⟩ := bd_e h
    refine b_Fb_findOrder_2b l z ad E M x1 x2 x3 t0 w30 N0 hx hb hml hts hown hlocks hA hG hZ hL g0 (fun e0 => ?_) (fun e0 => ?_) H locs ls hP hD hS hl
    · subst e0
      have h := ite_t rfl h
      exact ih N0 w30 t w3 N h k1
    · subst e0
      have h := ite_f (by decide) h
      obtain ⟨rfl, rfl, rfl⟩ := in3 h
      exact k1 rfl
set_option maxRecDepth 100000 in
set_option maxHeartbeats 4000000 in
theorem b_Fb_findOrder_j94 (l : Launch) (z : Zz) (ad : Nat → Nat) (E : Ev) (M : Mm) (x1 : Int32) (x2 : Int32) (x3 : Int64) (x5 : Int32) (t : Nat) (w5 : Int32) (N : Mm) {Q : State → Prop} {p : Program} {e : Env} {s : State} {m : MethodId} {below : List Frame} {meth : Method} {c : Code} {A : Nat → Prop} {args : Array Value} (hx : p.tables.exec = Jvm.exec) (hb : c.code = prog_7_method_4_code) (hml : c.maxLocals = 7) (hts : ∀ w ∈ WG, w.before args s = true) (hown : s.vm.findClass "Ballothall$FalseBallot" = some m.cls) (hlocks : meth.locks = false) (hA : ∀ q, s.heap.size ≤ q → A q) (hG : KG z s) (hZ : FZ z A s) (hL : Lay E) (h : Fb_findOrder_j94 E M x1 x2 x3 x5 = some (t, w5, N)) (k0 : t = 0 → ∀ (H : Heap) (locs : List Loc) (ls : Array Slot), va_P z.1 classes (wv z ad E N) H → va_D A (wv z ad E N) → va_S A s.heap H locs → lv_has ls 7 [(0, .ref (ad 51)), (1, .int x1), (2, .int x2), (3, .long x3), (5, .int w5)] → W p l e (rmK 5 135 0 0) s m args below meth c H locs 0 0 Q (F0 m 35 ls [])) (k1 : t = 1 → ∀ (H : Heap) (locs : List Loc) (ls : Array Slot), va_P z.1 classes (wv z ad E N) H → va_D A (wv z ad E N) → va_S A s.heap H locs → lv_has ls 7 [] → W p l e (rmK 5 135 0 0) s m args below meth c H locs 0 0 Q (F0 m 92 ls [])) (k2 : t = 2 → ∀ (H : Heap) (locs : List Loc) (ls : Array Slot), va_P z.1 classes (wv z ad E N) H → va_D A (wv z ad E N) → va_S A s.heap H locs → lv_has ls 7 [] → W p l e (rmK 5 135 0 0) s m args below meth c H locs 0 0 Q (F0 m 104 ls [])) : ∀ (H : Heap) (locs : List Loc) (ls : Array Slot), va_P z.1 classes (wv z ad E M) H → va_D A (wv z ad E M) → va_S A s.heap H locs → lv_has ls 7 [(0, .ref (ad 51)), (1, .int x1), (2, .int x2), (3, .long x3), (5, .int x5)] → W p l e (rmK 5 135 0 0) s m args below meth c H locs 0 0 Q (F0 m 94 ls []) := by
  intro H locs ls hP hD hS hl
  unfold Fb_findOrder_j94 at h
  refine lv_aload_n hx hb d_7_4_94 rfl (lv_at hl 0 rfl) ?_
  obtain ⟨M9, g9, h⟩ := bd_e h
  refine kV (As := []) (rest := []) (s_Fb_goToNextOrder l z ad E M M9 hL g9) hx hb hml hown hts w_1429 w_1426 w_1428 w_s_8750fd w_4 md_202b03 ⟨Nat.le_of_ble_eq_true rfl, Nat.le_of_ble_eq_true rfl⟩ hG hZ hP hD hS hA 51 (wv_o (ci := 5) (yi_51 hL) (yt_51 hL)) rfl rfl rfl hl.1 rfl (Nat.le_of_ble_eq_true rfl) d_7_4_95 ⟨Nat.le_of_ble_eq_true rfl, Nat.le_of_ble_eq_true rfl⟩ (fun _ H locs hP hD hS => ?_)
  have hP : va_P z.1 classes (wv z ad E M9) H := hP
  have hD : va_D A (wv z ad E M9) := hD
  refine W.eq (g2 := F0 m 98 ls []) rfl ?_
  refine lv_iinc (v := (x5 + 1)) (lv' := [(5, .int (x5 + 1)), (0, .ref (ad 51)), (1, .int x1), (2, .int x2), (3, .long x3)]) hx hb d_7_4_98 hl (k := 4) rfl (congrArg (fun q => x5 + q) (show Int32.ofInt 1 = 1 by decide +kernel)) (by decide) rfl (fun ls hl => ?_)
  refine lv_goto (tgt := 35) hx hb d_7_4_101 (by decide) ?_
  obtain ⟨rfl, rfl, rfl⟩ := in3 h
  exact k0 rfl H locs ls hP hD hS (lv_sub hl [1, 2, 3, 4, 0] rfl)
set_option maxRecDepth 100000 in
set_option maxHeartbeats 4000000 in
theorem b_Fb_findOrder_35b (l : Launch) (z : Zz) (ad : Nat → Nat) (E : Ev) (M : Mm) (x1 : Int32) (x2 : Int32) (x3 : Int64) (x5 : Int32) (t : Nat) (w5 : Int32) (N : Mm) {Q : State → Prop} {p : Program} {e : Env} {s : State} {m : MethodId} {below : List Frame} {meth : Method} {c : Code} {A : Nat → Prop} {args : Array Value} (hx : p.tables.exec = Jvm.exec) (hb : c.code = prog_7_method_4_code) (hml : c.maxLocals = 7) (hts : ∀ w ∈ WG, w.before args s = true) (hown : s.vm.findClass "Ballothall$FalseBallot" = some m.cls) (hlocks : meth.locks = false) (hA : ∀ q, s.heap.size ≤ q → A q) (hG : KG z s) (hZ : FZ z A s) (hL : Lay E) (h : Fb_findOrder_35b E M x1 x2 x3 x5 = some (t, w5, N)) (k0 : t = 0 → ∀ (H : Heap) (locs : List Loc) (ls : Array Slot), va_P z.1 classes (wv z ad E N) H → va_D A (wv z ad E N) → va_S A s.heap H locs → lv_has ls 7 [(0, .ref (ad 51)), (1, .int x1), (2, .int x2), (3, .long x3), (5, .int w5)] → W p l e (rmK 5 135 0 0) s m args below meth c H locs 0 0 Q (F0 m 35 ls [])) (k1 : t = 1 → ∀ (H : Heap) (locs : List Loc) (ls : Array Slot), va_P z.1 classes (wv z ad E N) H → va_D A (wv z ad E N) → va_S A s.heap H locs → lv_has ls 7 [] → W p l e (rmK 5 135 0 0) s m args below meth c H locs 0 0 Q (F0 m 92 ls [])) (k2 : t = 2 → ∀ (H : Heap) (locs : List Loc) (ls : Array Slot), va_P z.1 classes (wv z ad E N) H → va_D A (wv z ad E N) → va_S A s.heap H locs → lv_has ls 7 [] → W p l e (rmK 5 135 0 0) s m args below meth c H locs 0 0 Q (F0 m 104 ls [])) : ∀ (H : Heap) (locs : List Loc) (ls : Array Slot), va_P z.1 classes (wv z ad E M) H → va_D A (wv z ad E M) → va_S A s.heap H locs → lv_has ls 7 [(0, .ref (ad 51)), (1, .int x1), (2, .int x2), (3, .long x3), (5, .int x5)] → W p l e (rmK 5 135 0 0) s m args below meth c H locs 0 0 Q (F0 m 35 ls []) := by
  intro H locs ls hP hD hS hl
  unfold Fb_findOrder_35b at h
  refine lv_iload hx hb d_7_4_35 (lv_at hl 4 rfl) ?_
  refine lv_i2l (v := x5.toInt64) hx hb d_7_4_37 rfl ?_
  refine lv_lload_n hx hb d_7_4_38 rfl (lv_at hl 3 rfl) ?_
  refine W.lcmp hx hb d_7_4_39 ?_
  refine lv_if_ge (tgt := 104) hx hb d_7_4_40 (by decide) (fun c9 => ?_) (fun c9 => ?_)
  · have h := ite_t c9 h
    obtain ⟨rfl, rfl, rfl⟩ := in3 h
    exact k2 rfl H locs ls hP hD hS (lv_sub hl [] rfl)
  · have h := ite_f c9 h
    refine lv_aload_n hx hb d_7_4_43 rfl (lv_at hl 0 rfl) ?_
    obtain ⟨M5, g5, h⟩ := bd_e h
    refine kV (As := []) (rest := []) (s_Fb_writeTrial l z ad E M M5 hL g5) hx hb hml hown hts w_1422 w_1419 w_1421 w_s_897e6a w_4 md_fc3851 ⟨Nat.le_of_ble_eq_true rfl, Nat.le_of_ble_eq_true rfl⟩ hG hZ hP hD hS hA 51 (wv_o (ci := 5) (yi_51 hL) (yt_51 hL)) rfl rfl rfl hl.1 rfl (Nat.le_of_ble_eq_true rfl) d_7_4_44 ⟨Nat.le_of_ble_eq_true rfl, Nat.le_of_ble_eq_true rfl⟩ (fun _ H locs hP hD hS => ?_)
    have hP : va_P z.1 classes (wv z ad E M5) H := hP
    have hD : va_D A (wv z ad E M5) := hD
    refine W.eq (g2 := F0 m 47 ls []) rfl ?_
    refine lv_aload_n hx hb d_7_4_47 rfl (lv_at hl 0 rfl) ?_
    refine m_gr (j := 41) (C := "Ballothall$FalseBallot") (T := TX5) (N := 3) (ci := 5) (k := 1) hx hb hts iX5 hown hG hP (yi_51 hL) (yt_51 hL) rfl (by decide) w_153 (fun _ h9 => h9) rfl rfl (yr_51_1 hL) d_7_4_48 ?_
    refine lv_bipush (v := 30) hx hb d_7_4_51 (by decide +kernel) ?_
    refine lv_iconst (v := 1) hx hb d_7_4_53 (by decide +kernel) ?_
    obtain ⟨M6, g6, h⟩ := bd_e h
    refine kVN (As := [.int 30, .int 1]) (rest := []) (s_Po_change l z ad E M5 30 1 M6 hL g6) hx hb hml hown hts w_677 n_1413 w_676 w_s_d035ed w_3 md_d775df ⟨Nat.le_of_ble_eq_true rfl, Nat.le_of_ble_eq_true rfl⟩ hG hZ hP hD hS hA 41 (wv_o (ci := 9) (yi_41 hL) (yt_41 hL)) rfl rfl rfl hl.1 rfl (Nat.le_of_ble_eq_true rfl) d_7_4_54 ⟨Nat.le_of_ble_eq_true rfl, Nat.le_of_ble_eq_true rfl⟩ (fun _ H locs hP hD hS => ?_)
    have hP : va_P z.1 classes (wv z ad E M6) H := hP
    have hD : va_D A (wv z ad E M6) := hD
    refine W.eq (g2 := F0 m 57 ls []) rfl ?_
    refine lv_aload_n hx hb d_7_4_57 rfl (lv_at hl 0 rfl) ?_
    refine m_gr (j := 41) (C := "Ballothall$FalseBallot") (T := TX5) (N := 3) (ci := 5) (k := 1) hx hb hts iX5 hown hG hP (yi_51 hL) (yt_51 hL) rfl (by decide) w_153 (fun _ h9 => h9) rfl rfl (yr_51_1 hL) d_7_4_58 ?_
    refine lv_iload_n hx hb d_7_4_61 rfl (lv_at hl 1 rfl) ?_
    obtain ⟨⟨r7, M7⟩, g7, h⟩ := bd_e h
    refine kVN (As := [.int x1]) (rest := []) (s_Po_bestBy l z ad E M6 x1 r7 M7 hL g7) hx hb hml hown hts w_1374 n_1371 w_1373 w_s_0765de w_3 md_2b9f88 ⟨Nat.le_of_ble_eq_true rfl, Nat.le_of_ble_eq_true rfl⟩ hG hZ hP hD hS hA 41 (wv_o (ci := 9) (yi_41 hL) (yt_41 hL)) rfl rfl rfl hl.1 rfl (Nat.le_of_ble_eq_true rfl) d_7_4_62 ⟨Nat.le_of_ble_eq_true rfl, Nat.le_of_ble_eq_true rfl⟩ (fun _ H locs hP hD hS => ?_)
    have hP : va_P z.1 classes (wv z ad E M7) H := hP
    have hD : va_D A (wv z ad E M7) := hD
    refine W.eq (g2 := F0 m 65 ls [.int r7]) rfl ?_
    refine lv_istore (lv' := [(6, .int r7), (0, .ref (ad 51)), (1, .int x1), (2, .int x2), (3, .long x3), (5, .int x5)]) hx hb d_7_4_65 hl (by decide) rfl (fun ls hl => ?_)
    refine lv_aload_n hx hb d_7_4_67 rfl (lv_at hl 1 rfl) ?_
    refine m_gr (j := 41) (C := "Ballothall$FalseBallot") (T := TX5) (N := 3) (ci := 5) (k := 1) hx hb hts iX5 hown hG hP (yi_51 hL) (yt_51 hL) rfl (by decide) w_153 (fun _ h9 => h9) rfl rfl (yr_51_1 hL) d_7_4_68 ?_
    refine lv_bipush (v := 30) hx hb d_7_4_71 (by decide +kernel) ?_
    refine lv_iconst (v := (-1)) hx hb d_7_4_73 (by decide +kernel) ?_
    obtain ⟨M8, g8, h⟩ := bd_e h
    refine kVN (As := [.int 30, .int (-1)]) (rest := []) (s_Po_change l z ad E M7 30 (-1) M8 hL g8) hx hb hml hown hts w_677 n_1413 w_676 w_s_d035ed w_3 md_d775df ⟨Nat.le_of_ble_eq_true rfl, Nat.le_of_ble_eq_true rfl⟩ hG hZ hP hD hS hA 41 (wv_o (ci := 9) (yi_41 hL) (yt_41 hL)) rfl rfl rfl hl.1 rfl (Nat.le_of_ble_eq_true rfl) d_7_4_74 ⟨Nat.le_of_ble_eq_true rfl, Nat.le_of_ble_eq_true rfl⟩ (fun _ H locs hP hD hS => ?_)
    have hP : va_P z.1 classes (wv z ad E M8) H := hP
    have hD : va_D A (wv z ad E M8) := hD
    refine W.eq (g2 := F0 m 77 ls []) rfl ?_
    refine lv_iload hx hb d_7_4_77 (lv_at hl 0 rfl) ?_
    refine lv_iconst (v := (-1)) hx hb d_7_4_79 (by decide +kernel) ?_
    refine lv_icmp_eq (tgt := 94) hx hb d_7_4_80 (by decide) (fun c9 => ?_) (fun c9 => ?_)
    · have h := ite_t c9 h
      exact b_Fb_findOrder_j94 l z ad E M8 x1 x2 x3 x5 t w5 N hx hb hml hts hown hlocks hA hG hZ hL h k0 k1 k2 H locs ls hP hD hS (lv_sub hl [1, 2, 3, 4, 5] rfl)
    · have h := ite_f c9 h
      refine lv_iload_n hx hb d_7_4_83 rfl (lv_at hl 3 rfl) ?_
      refine lv_iload hx hb d_7_4_84 (lv_at hl 0 rfl) ?_
      obtain ⟨⟨r10, M10⟩, g10, h⟩ := bd_e h
      refine kSN (As := [.int x2, .int r7]) (rest := []) (s_B_has l z ad E M8 x2 r7 r10 M10 hL g10) hx hb hml hown hts w_693 n_1425 w_692 w_1 md_26545c ⟨Nat.le_of_ble_eq_true rfl, Nat.le_of_ble_eq_true rfl⟩ hG hZ hP hD hS hA rfl hl.1 rfl (Nat.le_of_ble_eq_true rfl) d_7_4_86 ⟨Nat.le_of_ble_eq_true rfl, Nat.le_of_ble_eq_true rfl⟩ (fun _ H locs hP hD hS => ?_)
      have hP : va_P z.1 classes (wv z ad E M10) H := hP
      have hD : va_D A (wv z ad E M10) := hD
      refine W.eq (g2 := F0 m 89 ls [.int r10]) rfl ?_
      refine lv_if_eq (tgt := 94) hx hb d_7_4_89 (by decide) (fun c9 => ?_) (fun c9 => ?_)
      · have h := ite_t c9 h
        exact b_Fb_findOrder_j94 l z ad E M10 x1 x2 x3 x5 t w5 N hx hb hml hts hown hlocks hA hG hZ hL h k0 k1 k2 H locs ls hP hD hS (lv_sub hl [1, 2, 3, 4, 5] rfl)
      · have h := ite_f c9 h
        obtain ⟨rfl, rfl, rfl⟩ := in3 h
        exact k1 rfl H locs ls hP hD hS (lv_sub hl [] rfl)
set_option maxRecDepth 100000 in
set_option maxHeartbeats 4000000 in
theorem s_Fb_findOrder_35 (l : Launch) (z : Zz) (ad : Nat → Nat) (E : Ev) (x1 : Int32) (x2 : Int32) (x3 : Int64) {Q : State → Prop} {p : Program} {e : Env} {s : State} {m : MethodId} {below : List Frame} {meth : Method} {c : Code} {A : Nat → Prop} {args : Array Value} (hx : p.tables.exec = Jvm.exec) (hb : c.code = prog_7_method_4_code) (hml : c.maxLocals = 7) (hts : ∀ w ∈ WG, w.before args s = true) (hown : s.vm.findClass "Ballothall$FalseBallot" = some m.cls) (hlocks : meth.locks = false) (hA : ∀ q, s.heap.size ≤ q → A q) (hG : KG z s) (hZ : FZ z A s) (hL : Lay E) : ∀ (fu : Nat) (M : Mm) (x5 : Int32) (t : Nat) (w5 : Int32) (N : Mm), l_Fb_findOrder_35 E x1 x2 x3 fu M x5 = some (t, w5, N) → (t = 1 → ∀ (H : Heap) (locs : List Loc) (ls : Array Slot), va_P z.1 classes (wv z ad E N) H → va_D A (wv z ad E N) → va_S A s.heap H locs → lv_has ls 7 [] → W p l e (rmK 5 135 0 0) s m args below meth c H locs 0 0 Q (F0 m 92 ls [])) → (t = 2 → ∀ (H : Heap) (locs : List Loc) (ls : Array Slot), va_P z.1 classes (wv z ad E N) H → va_D A (wv z ad E N) → va_S A s.heap H locs → lv_has ls 7 [] → W p l e (rmK 5 135 0 0) s m args below meth c H locs 0 0 Q (F0 m 104 ls [])) → ∀ (H : Heap) (locs : List Loc) (ls : Array Slot), va_P z.1 classes (wv z ad E M) H → va_D A (wv z ad E M) → va_S A s.heap H locs → lv_has ls 7 [(0, .ref (ad 51)), (1, .int x1), (2, .int x2), (3, .long x3), (5, .int x5)] → W p l e (rmK 5 135 0 0) s m args below meth c H locs 0 0 Q (F0 m 35 ls []) := by
  intro fu
  induction fu with
  | zero =>
    intro M x5 t w5 N h
    have h : (none : Option (Nat × Int32 × Mm)) = some _ := h
    cases h
  | succ fu ih =>
    intro M x5 t w5 N h k1 k2 H locs ls hP hD hS hl
    obtain ⟨⟨t0, w50, N0⟩, g0, h⟩ := bd_e h
    refine b_Fb_findOrder_35b l z ad E M x1 x2 x3 x5 t0 w50 N0 hx hb hml hts hown hlocks hA hG hZ hL g0 (fun e0 => ?_) (fun e0 => ?_) (fun e0 => ?_) H locs ls hP hD hS hl
    · subst e0
      have h := ite_t rfl h
      exact ih N0 w50 t w5 N h k1 k2
    · subst e0
      have h := ite_f (by decide) h
      obtain ⟨rfl, rfl, rfl⟩ := in3 h
      exact k1 rfl
    · subst e0
      have h := ite_f (by decide) h
      obtain ⟨rfl, rfl, rfl⟩ := in3 h
      exact k2 rfl
set_option maxRecDepth 100000 in
set_option maxHeartbeats 4000000 in
theorem s_Fb_findOrder (l : Launch) (z : Zz) (ad : Nat → Nat) (E : Ev) (M : Mm) (x1 : Int32) (x2 : Int32) (r : Int32) (N : Mm) (hL : Lay E) (h : f_Fb_findOrder E M x1 x2 = some (r, N)) : CT l z ⟨"Ballothall$FalseBallot", "findOrder", "(II)Z"⟩ prog_7_method_4_code 7 (some .boolean) [.ref (ad 51), .int x1, .int x2] (wv z ad E M) 5 135 0 0 (fun _ => some (.int r)) (fun _ => wv z ad E N) := by
  refine CT.of (own := "Ballothall$FalseBallot") (by decide +kernel) (Nat.le_of_ble_eq_true rfl) rfl (fun p e s m below meth c A ls hx hb hml hr hts hown hlocks hin hA hG hZ hP hD hS hl => ?_)
  have hl : lv_has ls 7 [(0, .ref (ad 51)), (1, .int x1), (2, .int x2)] := hl
  have key : ∀ (H : Heap) (locs : List Loc) (args : Array Value), (∀ w ∈ WG, w.before args s = true) → va_P z.1 classes (wv z ad E M) H → va_S A s.heap H locs → W p l e (rmK 5 135 0 0) s m args below meth c H locs 0 0 (MQ below (QK z A (fun _ => some (.int r)) (fun _ => wv z ad E N)) args s 0 0 A) (F0 m 0 ls []) := by
    intro H locs args hts hP hS
    unfold f_Fb_findOrder at h
    refine lv_iconst (v := 0) hx hb d_7_4_0 (by decide +kernel) ?_
    refine lv_istore_n (lv' := [(3, .int 0), (0, .ref (ad 51)), (1, .int x1), (2, .int x2)]) hx hb d_7_4_1 rfl hl (by decide) rfl (fun ls hl => ?_)
    obtain ⟨⟨t1, v1_3, M1⟩, g1, h⟩ := bd_e h
    obtain ⟨ok1, h⟩ := ck_e h
    refine s_Fb_findOrder_2 l z ad E x1 x2 hx hb hml hts hown hlocks hA hG hZ hL FU M 0 t1 v1_3 M1 g1 (fun e1 H locs ls hP hD hS hl => ?_) H locs ls hP hD hS (lv_sub hl [1, 2, 3, 0] rfl)
    obtain ⟨fa, hf1, hf2, hf3, hf4⟩ := id hZ
    refine va_getsN hx hb hf1 hS hown (va_Nw.use rfl (hG.2.1 _ n_1418 rfl)) (fun _ h9 => h9) d_7_4_20 ?_
    refine lv_aload_n hx hb d_7_4_23 rfl (lv_at hl 0 rfl) ?_
    refine m_gr (j := 2) (C := "Ballothall$FalseBallot") (T := TX5) (N := 3) (ci := 5) (k := 0) hx hb hts iX5 hown hG hP (yi_51 hL) (yt_51 hL) rfl (by decide) w_152 (fun _ h9 => h9) rfl rfl (yr_51_0 hL) d_7_4_24 ?_
    refine m_giN (C := "Ballothall$BallotBox") (T := TX0) (N := 10) (ci := 0) (k := 2) hx hb hts iX0 hown hG hP (yi_2 hL) (yt_2 hL) rfl (by decide) n_54 rfl (fun _ h9 => h9) rfl rfl d_7_4_27 ?_
    obtain ⟨ok3, h⟩ := ck_e h
    refine m_fl hx hb hG hS hf2 hf3 hf4 ok3 d_7_4_30 ?_
    obtain ⟨v4, e4, h⟩ := nb_e h
    refine nrmL e4.symm ?_
    refine lv_lstore_n (lv' := [(3, .long v4), (0, .ref (ad 51)), (1, .int x1), (2, .int x2)]) hx hb d_7_4_31 rfl hl (by decide) rfl (fun ls hl => ?_)
    refine lv_iconst (v := 0) hx hb d_7_4_32 (by decide +kernel) ?_
    refine lv_istore (lv' := [(5, .int 0), (3, .long v4), (0, .ref (ad 51)), (1, .int x1), (2, .int x2)]) hx hb d_7_4_33 hl (by decide) rfl (fun ls hl => ?_)
    obtain ⟨⟨t11, v11_5, M11⟩, g11, h⟩ := bd_e h
    refine s_Fb_findOrder_35 l z ad E x1 x2 v4 hx hb hml hts hown hlocks hA hG hZ hL FU M1 0 t11 v11_5 M11 g11 (fun e11 H locs ls hP hD hS hl => ?_) (fun e11 H locs ls hP hD hS hl => ?_) H locs ls hP hD hS (lv_sub hl [2, 3, 4, 1, 0] rfl)
    · subst e11
      have h := ite_t rfl h
      refine lv_iconst (v := 1) hx hb d_7_4_92 (by decide +kernel) ?_
      obtain ⟨rfl, rfl⟩ := in2 h
      exact W.zret hx hb hr rfl (fun t ht hW => qkA hP hD hS (fun k => k) rfl rfl ht) hS.2.2 d_7_4_93
    · subst e11
      have h := ite_f (by decide) h
      have h := ite_t rfl h
      refine lv_iconst (v := 0) hx hb d_7_4_104 (by decide +kernel) ?_
      obtain ⟨rfl, rfl⟩ := in2 h
      exact W.zret hx hb hr rfl (fun t ht hW => qkA hP hD hS (fun k => k) rfl rfl ht) hS.2.2 d_7_4_105
  exact key _ _ _ hts hP hS
set_option maxRecDepth 100000 in
set_option maxHeartbeats 4000000 in
theorem b_Fb_findKind_j65 (l : Launch) (z : Zz) (ad : Nat → Nat) (E : Ev) (M : Mm) (x1 : Int32) (x2 : Int32) (x3 : Int32) (y0 : Int32) (t : Nat) (w3 : Int32) (N : Mm) {Q : State → Prop} {p : Program} {e : Env} {s : State} {m : MethodId} {below : List Frame} {meth : Method} {c : Code} {A : Nat → Prop} {args : Array Value} (hx : p.tables.exec = Jvm.exec) (hb : c.code = prog_7_method_2_code) (hml : c.maxLocals = 5) (hts : ∀ w ∈ WG, w.before args s = true) (hown : s.vm.findClass "Ballothall$FalseBallot" = some m.cls) (hlocks : meth.locks = false) (hA : ∀ q, s.heap.size ≤ q → A q) (hG : KG z s) (hZ : FZ z A s) (hL : Lay E) (h : Fb_findKind_j65 E M x1 x2 x3 y0 = some (t, w3, N)) (k0 : t = 0 → ∀ (H : Heap) (locs : List Loc) (ls : Array Slot), va_P z.1 classes (wv z ad E N) H → va_D A (wv z ad E N) → va_S A s.heap H locs → lv_has ls 5 [(0, .ref (ad 51)), (1, .int x1), (2, .int x2), (3, .int w3)] → W p l e (rmK 6 161 0 0) s m args below meth c H locs 0 0 Q (F0 m 32 ls [])) (k1 : t = 1 → ∀ (H : Heap) (locs : List Loc) (ls : Array Slot), va_P z.1 classes (wv z ad E N) H → va_D A (wv z ad E N) → va_S A s.heap H locs → lv_has ls 5 [(3, .int w3)] → W p l e (rmK 6 161 0 0) s m args below meth c H locs 0 0 Q (F0 m 91 ls [])) (k2 : t = 2 → ∀ (H : Heap) (locs : List Loc) (ls : Array Slot), va_P z.1 classes (wv z ad E N) H → va_D A (wv z ad E N) → va_S A s.heap H locs → lv_has ls 5 [] → W p l e (rmK 6 161 0 0) s m args below meth c H locs 0 0 Q (F0 m 108 ls [])) : ∀ (H : Heap) (locs : List Loc) (ls : Array Slot), va_P z.1 classes (wv z ad E M) H → va_D A (wv z ad E M) → va_S A s.heap H locs → lv_has ls 5 [(0, .ref (ad 51)), (1, .int x1), (2, .int x2), (3, .int x3)] → W p l e (rmK 6 161 0 0) s m args below meth c H locs 0 0 Q (F0 m 65 ls [.int y0]) := by
  intro H locs ls hP hD hS hl
  unfold Fb_findKind_j65 at h
  refine lv_istore (lv' := [(4, .int y0), (0, .ref (ad 51)), (1, .int x1), (2, .int x2), (3, .int x3)]) hx hb d_7_2_65 hl (by decide) rfl (fun ls hl => ?_)
  refine lv_iload hx hb d_7_2_67 (lv_at hl 0 rfl) ?_
  refine lv_if_eq (tgt := 102) hx hb d_7_2_69 (by decide) (fun c9 => ?_) (fun c9 => ?_)
  · have h := ite_t c9 h
    refine lv_iinc (v := (x3 + 1)) (lv' := [(3, .int (x3 + 1)), (4, .int y0), (0, .ref (ad 51)), (1, .int x1), (2, .int x2)]) hx hb d_7_2_102 hl (k := 4) rfl (congrArg (fun q => x3 + q) (show Int32.ofInt 1 = 1 by decide +kernel)) (by decide) rfl (fun ls hl => ?_)
    refine lv_goto (tgt := 32) hx hb d_7_2_105 (by decide) ?_
    obtain ⟨rfl, rfl, rfl⟩ := in3 h
    exact k0 rfl H locs ls hP hD hS (lv_sub hl [2, 3, 4, 0] rfl)
  · have h := ite_f c9 h
    refine lv_aload_n hx hb d_7_2_72 rfl (lv_at hl 1 rfl) ?_
    refine m_gr (j := 41) (C := "Ballothall$FalseBallot") (T := TX5) (N := 3) (ci := 5) (k := 1) hx hb hts iX5 hown hG hP (yi_51 hL) (yt_51 hL) rfl (by decide) w_153 (fun _ h9 => h9) rfl rfl (yr_51_1 hL) d_7_2_73 ?_
    refine lv_iload_n hx hb d_7_2_76 rfl (lv_at hl 4 rfl) ?_
    refine lv_iconst (v := (-1)) hx hb d_7_2_77 (by decide +kernel) ?_
    obtain ⟨M4, g4, h⟩ := bd_e h
    refine kVN (As := [.int x3, .int (-1)]) (rest := []) (s_Po_change l z ad E M x3 (-1) M4 hL g4) hx hb hml hown hts w_677 n_1413 w_676 w_s_d035ed w_3 md_d775df ⟨Nat.le_of_ble_eq_true rfl, Nat.le_of_ble_eq_true rfl⟩ hG hZ hP hD hS hA 41 (wv_o (ci := 9) (yi_41 hL) (yt_41 hL)) rfl rfl rfl hl.1 rfl (Nat.le_of_ble_eq_true rfl) d_7_2_78 ⟨Nat.le_of_ble_eq_true rfl, Nat.le_of_ble_eq_true rfl⟩ (fun _ H locs hP hD hS => ?_)
    have hP : va_P z.1 classes (wv z ad E M4) H := hP
    have hD : va_D A (wv z ad E M4) := hD
    refine W.eq (g2 := F0 m 81 ls []) rfl ?_
    refine lv_aload_n hx hb d_7_2_81 rfl (lv_at hl 1 rfl) ?_
    refine lv_iload_n hx hb d_7_2_82 rfl (lv_at hl 2 rfl) ?_
    refine lv_iload hx hb d_7_2_83 (lv_at hl 0 rfl) ?_
    obtain ⟨⟨r5, M5⟩, g5, h⟩ := bd_e h
    refine kV (As := [.int x1, .int y0]) (rest := []) (s_Fb_findOrder l z ad E M4 x1 y0 r5 M5 hL g5) hx hb hml hown hts w_1417 w_1414 w_1416 w_s_c26e58 w_4 md_0e0b7f ⟨Nat.le_of_ble_eq_true rfl, Nat.le_of_ble_eq_true rfl⟩ hG hZ hP hD hS hA 51 (wv_o (ci := 5) (yi_51 hL) (yt_51 hL)) rfl rfl rfl hl.1 rfl (Nat.le_of_ble_eq_true rfl) d_7_2_85 ⟨Nat.le_of_ble_eq_true rfl, Nat.le_of_ble_eq_true rfl⟩ (fun _ H locs hP hD hS => ?_)
    have hP : va_P z.1 classes (wv z ad E M5) H := hP
    have hD : va_D A (wv z ad E M5) := hD
    refine W.eq (g2 := F0 m 88 ls [.int r5]) rfl ?_
    refine lv_if_eq (tgt := 93) hx hb d_7_2_88 (by decide) (fun c9 => ?_) (fun c9 => ?_)
    · have h := ite_t c9 h
      refine lv_aload_n hx hb d_7_2_93 rfl (lv_at hl 1 rfl) ?_
      refine m_gr (j := 41) (C := "Ballothall$FalseBallot") (T := TX5) (N := 3) (ci := 5) (k := 1) hx hb hts iX5 hown hG hP (yi_51 hL) (yt_51 hL) rfl (by decide) w_153 (fun _ h9 => h9) rfl rfl (yr_51_1 hL) d_7_2_94 ?_
      refine lv_iload_n hx hb d_7_2_97 rfl (lv_at hl 4 rfl) ?_
      refine lv_iconst (v := 1) hx hb d_7_2_98 (by decide +kernel) ?_
      obtain ⟨M6, g6, h⟩ := bd_e h
      refine kVN (As := [.int x3, .int 1]) (rest := []) (s_Po_change l z ad E M5 x3 1 M6 hL g6) hx hb hml hown hts w_677 n_1413 w_676 w_s_d035ed w_3 md_d775df ⟨Nat.le_of_ble_eq_true rfl, Nat.le_of_ble_eq_true rfl⟩ hG hZ hP hD hS hA 41 (wv_o (ci := 9) (yi_41 hL) (yt_41 hL)) rfl rfl rfl hl.1 rfl (Nat.le_of_ble_eq_true rfl) d_7_2_99 ⟨Nat.le_of_ble_eq_true rfl, Nat.le_of_ble_eq_true rfl⟩ (fun _ H locs hP hD hS => ?_)
      have hP : va_P z.1 classes (wv z ad E M6) H := hP
      have hD : va_D A (wv z ad E M6) := hD
      refine W.eq (g2 := F0 m 102 ls []) rfl ?_
      refine lv_iinc (v := (x3 + 1)) (lv' := [(3, .int (x3 + 1)), (4, .int y0), (0, .ref (ad 51)), (1, .int x1), (2, .int x2)]) hx hb d_7_2_102 hl (k := 4) rfl (congrArg (fun q => x3 + q) (show Int32.ofInt 1 = 1 by decide +kernel)) (by decide) rfl (fun ls hl => ?_)
      refine lv_goto (tgt := 32) hx hb d_7_2_105 (by decide) ?_
      obtain ⟨rfl, rfl, rfl⟩ := in3 h
      exact k0 rfl H locs ls hP hD hS (lv_sub hl [2, 3, 4, 0] rfl)
    · have h := ite_f c9 h
      obtain ⟨rfl, rfl, rfl⟩ := in3 h
      exact k1 rfl H locs ls hP hD hS (lv_sub hl [4] rfl)
set_option maxRecDepth 100000 in
set_option maxHeartbeats 4000000 in
theorem b_Fb_findKind_32b (l : Launch) (z : Zz) (ad : Nat → Nat) (E : Ev) (M : Mm) (x1 : Int32) (x2 : Int32) (x3 : Int32) (t : Nat) (w3 : Int32) (N : Mm) {Q : State → Prop} {p : Program} {e : Env} {s : State} {m : MethodId} {below : List Frame} {meth : Method} {c : Code} {A : Nat → Prop} {args : Array Value} (hx : p.tables.exec = Jvm.exec) (hb : c.code = prog_7_method_2_code) (hml : c.maxLocals = 5) (hts : ∀ w ∈ WG, w.before args s = true) (hown : s.vm.findClass "Ballothall$FalseBallot" = some m.cls) (hlocks : meth.locks = false) (hA : ∀ q, s.heap.size ≤ q → A q) (hG : KG z s) (hZ : FZ z A s) (hL : Lay E) (h : Fb_findKind_32b E M x1 x2 x3 = some (t, w3, N)) (k0 : t = 0 → ∀ (H : Heap) (locs : List Loc) (ls : Array Slot), va_P z.1 classes (wv z ad E N) H → va_D A (wv z ad E N) → va_S A s.heap H locs → lv_has ls 5 [(0, .ref (ad 51)), (1, .int x1), (2, .int x2), (3, .int w3)] → W p l e (rmK 6 161 0 0) s m args below meth c H locs 0 0 Q (F0 m 32 ls [])) (k1 : t = 1 → ∀ (H : Heap) (locs : List Loc) (ls : Array Slot), va_P z.1 classes (wv z ad E N) H → va_D A (wv z ad E N) → va_S A s.heap H locs → lv_has ls 5 [(3, .int w3)] → W p l e (rmK 6 161 0 0) s m args below meth c H locs 0 0 Q (F0 m 91 ls [])) (k2 : t = 2 → ∀ (H : Heap) (locs : List Loc) (ls : Array Slot), va_P z.1 classes (wv z ad E N) H → va_D A (wv z ad E N) → va_S A s.heap H locs → lv_has ls 5 [] → W p l e (rmK 6 161 0 0) s m args below meth c H locs 0 0 Q (F0 m 108 ls [])) : ∀ (H : Heap) (locs : List Loc) (ls : Array Slot), va_P z.1 classes (wv z ad E M) H → va_D A (wv z ad E M) → va_S A s.heap H locs → lv_has ls 5 [(0, .ref (ad 51)), (1, .int x1), (2, .int x2), (3, .int x3)] → W p l e (rmK 6 161 0 0) s m args below meth c H locs 0 0 Q (F0 m 32 ls []) := by
  intro H locs ls hP hD hS hl
  unfold Fb_findKind_32b at h
  refine lv_iload_n hx hb d_7_2_32 rfl (lv_at hl 3 rfl) ?_
  refine lv_aload_n hx hb d_7_2_33 rfl (lv_at hl 0 rfl) ?_
  refine m_gr (j := 2) (C := "Ballothall$FalseBallot") (T := TX5) (N := 3) (ci := 5) (k := 0) hx hb hts iX5 hown hG hP (yi_51 hL) (yt_51 hL) rfl (by decide) w_152 (fun _ h9 => h9) rfl rfl (yr_51_0 hL) d_7_2_34 ?_
  refine m_giN (C := "Ballothall$BallotBox") (T := TX0) (N := 10) (ci := 0) (k := 3) hx hb hts iX0 hown hG hP (yi_2 hL) (yt_2 hL) rfl (by decide) n_56 rfl (fun _ h9 => h9) rfl rfl d_7_2_37 ?_
  refine lv_icmp_ge (tgt := 108) hx hb d_7_2_40 (by decide) (fun c9 => ?_) (fun c9 => ?_)
  · have h := ite_t c9 h
    obtain ⟨rfl, rfl, rfl⟩ := in3 h
    exact k2 rfl H locs ls hP hD hS (lv_sub hl [] rfl)
  · have h := ite_f c9 h
    refine lv_aload_n hx hb d_7_2_43 rfl (lv_at hl 0 rfl) ?_
    refine m_gr (j := 2) (C := "Ballothall$FalseBallot") (T := TX5) (N := 3) (ci := 5) (k := 0) hx hb hts iX5 hown hG hP (yi_51 hL) (yt_51 hL) rfl (by decide) w_152 (fun _ h9 => h9) rfl rfl (yr_51_0 hL) d_7_2_44 ?_
    refine m_grN (j := 5) (C := "Ballothall$BallotBox") (T := TX0) (N := 10) (ci := 0) (k := 5) hx hb hts iX0 hown hG hP (yi_2 hL) (yt_2 hL) rfl (by decide) n_64 rfl (fun _ h9 => h9) rfl rfl (yr_2_5 hL) d_7_2_47 ?_
    refine lv_iload_n hx hb d_7_2_50 rfl (lv_at hl 3 rfl) ?_
    obtain ⟨ok3, h⟩ := ck_e h
    refine m_ia hx hb hG hP (yi_5 hL) (yt_5 hL) ok3 d_7_2_51 ?_
    refine lv_if_le (tgt := 64) hx hb d_7_2_52 (by decide) (fun c9 => ?_) (fun c9 => ?_)
    · have h := ite_t c9 h
      refine lv_iconst (v := 0) hx hb d_7_2_64 (by decide +kernel) ?_
      exact b_Fb_findKind_j65 l z ad E M x1 x2 x3 0 t w3 N hx hb hml hts hown hlocks hA hG hZ hL h k0 k1 k2 H locs ls hP hD hS (lv_sub hl [0, 1, 2, 3] rfl)
    · have h := ite_f c9 h
      refine lv_aload_n hx hb d_7_2_55 rfl (lv_at hl 0 rfl) ?_
      refine lv_iload_n hx hb d_7_2_56 rfl (lv_at hl 3 rfl) ?_
      refine lv_iload_n hx hb d_7_2_57 rfl (lv_at hl 2 rfl) ?_
      obtain ⟨⟨r7, M7⟩, g7, h⟩ := bd_e h
      refine kV (As := [.int x3, .int x2]) (rest := []) (s_Fb_aheadOf l z ad E M x3 x2 r7 M7 hL g7) hx hb hml hown hts w_1411 w_1408 w_1410 w_s_8e50a8 w_4 md_eafa96 ⟨Nat.le_of_ble_eq_true rfl, Nat.le_of_ble_eq_true rfl⟩ hG hZ hP hD hS hA 51 (wv_o (ci := 5) (yi_51 hL) (yt_51 hL)) rfl rfl rfl hl.1 rfl (Nat.le_of_ble_eq_true rfl) d_7_2_58 ⟨Nat.le_of_ble_eq_true rfl, Nat.le_of_ble_eq_true rfl⟩ (fun _ H locs hP hD hS => ?_)
      have hP : va_P z.1 classes (wv z ad E M7) H := hP
      have hD : va_D A (wv z ad E M7) := hD
      refine W.eq (g2 := F0 m 61 ls [.int r7]) rfl ?_
      refine lv_goto (tgt := 65) hx hb d_7_2_61 (by decide) ?_
      exact b_Fb_findKind_j65 l z ad E M7 x1 x2 x3 r7 t w3 N hx hb hml hts hown hlocks hA hG hZ hL h k0 k1 k2 H locs ls hP hD hS (lv_sub hl [0, 1, 2, 3] rfl)
set_option maxRecDepth 100000 in
set_option maxHeartbeats 4000000 in
theorem s_Fb_findKind_32 (l : Launch) (z : Zz) (ad : Nat → Nat) (E : Ev) (x1 : Int32) (x2 : Int32) {Q : State → Prop} {p : Program} {e : Env} {s : State} {m : MethodId} {below : List Frame} {meth : Method} {c : Code} {A : Nat → Prop} {args : Array Value} (hx : p.tables.exec = Jvm.exec) (hb : c.code = prog_7_method_2_code) (hml : c.maxLocals = 5) (hts : ∀ w ∈ WG, w.before args s = true) (hown : s.vm.findClass "Ballothall$FalseBallot" = some m.cls) (hlocks : meth.locks = false) (hA : ∀ q, s.heap.size ≤ q → A q) (hG : KG z s) (hZ : FZ z A s) (hL : Lay E) : ∀ (fu : Nat) (M : Mm) (x3 : Int32) (t : Nat) (w3 : Int32) (N : Mm), l_Fb_findKind_32 E x1 x2 fu M x3 = some (t, w3, N) → (t = 1 → ∀ (H : Heap) (locs : List Loc) (ls : Array Slot), va_P z.1 classes (wv z ad E N) H → va_D A (wv z ad E N) → va_S A s.heap H locs → lv_has ls 5 [(3, .int w3)] → W p l e (rmK 6 161 0 0) s m args below meth c H locs 0 0 Q (F0 m 91 ls [])) → (t = 2 → ∀ (H : Heap) (locs : List Loc) (ls : Array Slot), va_P z.1 classes (wv z ad E N) H → va_D A (wv z ad E N) → va_S A s.heap H locs → lv_has ls 5 [] → W p l e (rmK 6 161 0 0) s m args below meth c H locs 0 0 Q (F0 m 108 ls [])) → ∀ (H : Heap) (locs : List Loc) (ls : Array Slot), va_P z.1 classes (wv z ad E M) H → va_D A (wv z ad E M) → va_S A s.heap H locs → lv_has ls 5 [(0, .ref (ad 51)), (1, .int x1), (2, .int x2), (3, .int x3)] → W p l e (rmK 6 161 0 0) s m args below meth c H locs 0 0 Q (F0 m 32 ls []) := by
  intro fu
  induction fu with
  | zero =>
    intro M x3 t w3 N h
    have h : (none : Option (Nat × Int32 × Mm)) = some _ := h
    cases h
  | succ fu ih =>
    intro M x3 t w3 N h k1 k2 H locs ls hP hD hS hl
    obtain ⟨⟨t0, w30, N0⟩, g0, h⟩ := bd_e h
    refine b_Fb_findKind_32b l z ad E M x1 x2 x3 t0 w30 N0 hx hb hml hts hown hlocks hA hG hZ hL g0 (fun e0 => ?_) (fun e0 => ?_) (fun e0 => ?_) H locs ls hP hD hS hl
    · subst e0
      have h := ite_t rfl h
      exact ih N0 w30 t w3 N h k1 k2
    · subst e0
      have h := ite_f (by decide) h
      obtain ⟨rfl, rfl, rfl⟩ := in3 h
      exact k1 rfl
    · subst e0
      have h := ite_f (by decide) h
      obtain ⟨rfl, rfl, rfl⟩ := in3 h
      exact k2 rfl
set_option maxRecDepth 100000 in
set_option maxHeartbeats 4000000 in
theorem s_Fb_findKind (l : Launch) (z : Zz) (ad : Nat → Nat) (E : Ev) (M : Mm) (x1 : Int32) (r : Int32) (N : Mm) (hL : Lay E) (h : f_Fb_findKind E M x1 = some (r, N)) : CT l z ⟨"Ballothall$FalseBallot", "findKind", "(I)I"⟩ prog_7_method_2_code 5 (some .int) [.ref (ad 51), .int x1] (wv z ad E M) 6 161 0 0 (fun _ => some (.int r)) (fun _ => wv z ad E N) := by
  refine CT.of (own := "Ballothall$FalseBallot") (by decide +kernel) (Nat.le_of_ble_eq_true rfl) rfl (fun p e s m below meth c A ls hx hb hml hr hts hown hlocks hin hA hG hZ hP hD hS hl => ?_)
  have hl : lv_has ls 5 [(0, .ref (ad 51)), (1, .int x1)] := hl
  have key : ∀ (H : Heap) (locs : List Loc) (args : Array Value), (∀ w ∈ WG, w.before args s = true) → va_P z.1 classes (wv z ad E M) H → va_S A s.heap H locs → W p l e (rmK 6 161 0 0) s m args below meth c H locs 0 0 (MQ below (QK z A (fun _ => some (.int r)) (fun _ => wv z ad E N)) args s 0 0 A) (F0 m 0 ls []) := by
    intro H locs args hts hP hS
    unfold f_Fb_findKind at h
    refine lv_aload_n hx hb d_7_2_0 rfl (lv_at hl 0 rfl) ?_
    refine m_gr (j := 41) (C := "Ballothall$FalseBallot") (T := TX5) (N := 3) (ci := 5) (k := 1) hx hb hts iX5 hown hG hP (yi_51 hL) (yt_51 hL) rfl (by decide) w_153 (fun _ h9 => h9) rfl rfl (yr_51_1 hL) d_7_2_1 ?_
    refine lv_aload_n hx hb d_7_2_4 rfl (lv_at hl 0 rfl) ?_
    refine m_gr (j := 2) (C := "Ballothall$FalseBallot") (T := TX5) (N := 3) (ci := 5) (k := 0) hx hb hts iX5 hown hG hP (yi_51 hL) (yt_51 hL) rfl (by decide) w_152 (fun _ h9 => h9) rfl rfl (yr_51_0 hL) d_7_2_5 ?_
    obtain ⟨⟨r0, M0⟩, g0, h⟩ := bd_e h
    refine kVN (As := []) (rest := [.ref (ad 41)]) (s_Bx_everybody l z ad E M r0 M0 hL g0) hx hb hml hown hts w_668 n_1369 w_667 w_s_8b8b67 w_2 md_b59579 ⟨Nat.le_of_ble_eq_true rfl, Nat.le_of_ble_eq_true rfl⟩ hG hZ hP hD hS hA 2 (wv_o (ci := 0) (yi_2 hL) (yt_2 hL)) rfl rfl rfl hl.1 rfl (Nat.le_of_ble_eq_true rfl) d_7_2_8 ⟨Nat.le_of_ble_eq_true rfl, Nat.le_of_ble_eq_true rfl⟩ (fun _ H locs hP hD hS => ?_)
    have hP : va_P z.1 classes (wv z ad E M0) H := hP
    have hD : va_D A (wv z ad E M0) := hD
    refine W.eq (g2 := F0 m 11 ls [.int r0, .ref (ad 41)]) rfl ?_
    obtain ⟨M1, g1, h⟩ := bd_e h
    refine kVN (As := [.int r0]) (rest := []) (s_Po_open l z ad E M0 r0 M1 hL g1) hx hb hml hown hts w_672 n_1370 w_671 w_s_229dc4 w_3 md_60bc9b ⟨Nat.le_of_ble_eq_true rfl, Nat.le_of_ble_eq_true rfl⟩ hG hZ hP hD hS hA 41 (wv_o (ci := 9) (yi_41 hL) (yt_41 hL)) rfl rfl rfl hl.1 rfl (Nat.le_of_ble_eq_true rfl) d_7_2_11 ⟨Nat.le_of_ble_eq_true rfl, Nat.le_of_ble_eq_true rfl⟩ (fun _ H locs hP hD hS => ?_)
    have hP : va_P z.1 classes (wv z ad E M1) H := hP
    have hD : va_D A (wv z ad E M1) := hD
    refine W.eq (g2 := F0 m 14 ls []) rfl ?_
    refine lv_aload_n hx hb d_7_2_14 rfl (lv_at hl 0 rfl) ?_
    refine m_gr (j := 41) (C := "Ballothall$FalseBallot") (T := TX5) (N := 3) (ci := 5) (k := 1) hx hb hts iX5 hown hG hP (yi_51 hL) (yt_51 hL) rfl (by decide) w_153 (fun _ h9 => h9) rfl rfl (yr_51_1 hL) d_7_2_15 ?_
    refine lv_iload_n hx hb d_7_2_18 rfl (lv_at hl 1 rfl) ?_
    obtain ⟨⟨r2, M2⟩, g2, h⟩ := bd_e h
    refine kVN (As := [.int x1]) (rest := []) (s_Po_bestBy l z ad E M1 x1 r2 M2 hL g2) hx hb hml hown hts w_1374 n_1371 w_1373 w_s_0765de w_3 md_2b9f88 ⟨Nat.le_of_ble_eq_true rfl, Nat.le_of_ble_eq_true rfl⟩ hG hZ hP hD hS hA 41 (wv_o (ci := 9) (yi_41 hL) (yt_41 hL)) rfl rfl rfl hl.1 rfl (Nat.le_of_ble_eq_true rfl) d_7_2_19 ⟨Nat.le_of_ble_eq_true rfl, Nat.le_of_ble_eq_true rfl⟩ (fun _ H locs hP hD hS => ?_)
    have hP : va_P z.1 classes (wv z ad E M2) H := hP
    have hD : va_D A (wv z ad E M2) := hD
    refine W.eq (g2 := F0 m 22 ls [.int r2]) rfl ?_
    refine lv_istore_n (lv' := [(2, .int r2), (0, .ref (ad 51)), (1, .int x1)]) hx hb d_7_2_22 rfl hl (by decide) rfl (fun ls hl => ?_)
    refine lv_iload_n hx hb d_7_2_23 rfl (lv_at hl 0 rfl) ?_
    refine lv_iconst (v := (-1)) hx hb d_7_2_24 (by decide +kernel) ?_
    refine lv_icmp_ne (tgt := 30) hx hb d_7_2_25 (by decide) (fun c9 => ?_) (fun c9 => ?_)
    · have h := ite_f c9 h
      refine lv_iconst (v := 0) hx hb d_7_2_30 (by decide +kernel) ?_
      refine lv_istore_n (lv' := [(3, .int 0), (2, .int r2), (0, .ref (ad 51)), (1, .int x1)]) hx hb d_7_2_31 rfl hl (by decide) rfl (fun ls hl => ?_)
      obtain ⟨⟨t8, v8_3, M8⟩, g8, h⟩ := bd_e h
      refine s_Fb_findKind_32 l z ad E x1 r2 hx hb hml hts hown hlocks hA hG hZ hL FU M2 0 t8 v8_3 M8 g8 (fun e8 H locs ls hP hD hS hl => ?_) (fun e8 H locs ls hP hD hS hl => ?_) H locs ls hP hD hS (lv_sub hl [2, 3, 1, 0] rfl)
      · subst e8
        have h := ite_t rfl h
        refine lv_iload_n hx hb d_7_2_91 rfl (lv_at hl 0 rfl) ?_
        obtain ⟨rfl, rfl⟩ := in2 h
        exact W.iret hx hb hr (fun t ht hW => qkA hP hD hS (fun k => k) rfl rfl ht) hS.2.2 d_7_2_92
      · subst e8
        have h := ite_f (by decide) h
        have h := ite_t rfl h
        refine lv_iconst (v := (-1)) hx hb d_7_2_108 (by decide +kernel) ?_
        obtain ⟨rfl, rfl⟩ := in2 h
        exact W.iret hx hb hr (fun t ht hW => qkA hP hD hS (fun k => k) rfl rfl ht) hS.2.2 d_7_2_109
    · have h := ite_t c9 h
      refine lv_iconst (v := (-1)) hx hb d_7_2_28 (by decide +kernel) ?_
      obtain ⟨rfl, rfl⟩ := in2 h
      exact W.iret hx hb hr (fun t ht hW => qkA hP hD hS (fun k => k) rfl rfl ht) hS.2.2 d_7_2_29
  exact key _ _ _ hts hP hS
set_option maxRecDepth 100000 in
set_option maxHeartbeats 4000000 in
theorem s_B_gain (l : Launch) (z : Zz) (ad : Nat → Nat) (E : Ev) (M : Mm) (x1 : Int32) (r : Int32) (N : Mm) (hL : Lay E) (h : f_B_gain E M x1 = some (r, N)) : CT l z ⟨"Ballothall", "gain", "(I)I"⟩ prog_1_method_36_code 2 (some .int) [.ref (ad 1), .int x1] (wv z ad E M) 7 185 0 0 (fun _ => some (.int r)) (fun _ => wv z ad E N) := by
  refine CT.of (own := "Ballothall") (by decide +kernel) (Nat.le_of_ble_eq_true rfl) rfl (fun p e s m below meth c A ls hx hb hml hr hts hown hlocks hin hA hG hZ hP hD hS hl => ?_)
  have hl : lv_has ls 2 [(0, .ref (ad 1)), (1, .int x1)] := hl
  have key : ∀ (H : Heap) (locs : List Loc) (args : Array Value), (∀ w ∈ WG, w.before args s = true) → va_P z.1 classes (wv z ad E M) H → va_S A s.heap H locs → W p l e (rmK 7 185 0 0) s m args below meth c H locs 0 0 (MQ below (QK z A (fun _ => some (.int r)) (fun _ => wv z ad E N)) args s 0 0 A) (F0 m 0 ls []) := by
    intro H locs args hts hP hS
    unfold f_B_gain at h
    refine lv_iload_n hx hb d_1_36_0 rfl (lv_at hl 1 rfl) ?_
    refine lv_iconst (v := 0) hx hb d_1_36_1 (by decide +kernel) ?_
    refine lv_iconst (v := 4) hx hb d_1_36_2 (by decide +kernel) ?_
    obtain ⟨M0, g0, h⟩ := bd_e h
    refine kS (As := [.int x1, .int 0, .int 4]) (rest := []) (s_B_needRange l z ad E M x1 0 4 M0 hL g0) hx hb hml hown hts w_548 w_546 w_547 w_1 md_519134 ⟨Nat.le_of_ble_eq_true rfl, Nat.le_of_ble_eq_true rfl⟩ hG hZ hP hD hS hA rfl hl.1 rfl (Nat.le_of_ble_eq_true rfl) d_1_36_3 ⟨Nat.le_of_ble_eq_true rfl, Nat.le_of_ble_eq_true rfl⟩ (fun _ H locs hP hD hS => ?_)
    have hP : va_P z.1 classes (wv z ad E M0) H := hP
    have hD : va_D A (wv z ad E M0) := hD
    refine W.eq (g2 := F0 m 6 ls []) rfl ?_
    refine lv_aload_n hx hb d_1_36_6 rfl (lv_at hl 0 rfl) ?_
    obtain ⟨M1, g1, h⟩ := bd_e h
    refine kV (As := []) (rest := []) (s_B_needFewCandidates l z ad E M0 M1 hL g1) hx hb hml hown hts w_1363 w_1360 w_1362 w_s_bfc401 w_1 md_38a853 ⟨Nat.le_of_ble_eq_true rfl, Nat.le_of_ble_eq_true rfl⟩ hG hZ hP hD hS hA 1 (wv_o (ci := 11) (yi_1 hL) (yt_1 hL)) rfl rfl rfl hl.1 rfl (Nat.le_of_ble_eq_true rfl) d_1_36_7 ⟨Nat.le_of_ble_eq_true rfl, Nat.le_of_ble_eq_true rfl⟩ (fun _ H locs hP hD hS => ?_)
    have hP : va_P z.1 classes (wv z ad E M1) H := hP
    have hD : va_D A (wv z ad E M1) := hD
    refine W.eq (g2 := F0 m 10 ls []) rfl ?_
    refine lv_aload_n hx hb d_1_36_10 rfl (lv_at hl 0 rfl) ?_
    refine m_gr (j := 51) (C := "Ballothall") (T := TX11) (N := 14) (ci := 11) (k := 2) hx hb hts iX11 hown hG hP (yi_1 hL) (yt_1 hL) rfl (by decide) w_399 (fun _ h9 => h9) rfl rfl (yr_1_2 hL) d_1_36_11 ?_
    refine lv_iload_n hx hb d_1_36_14 rfl (lv_at hl 1 rfl) ?_
    obtain ⟨⟨r2, M2⟩, g2, h⟩ := bd_e h
    refine kVN (As := [.int x1]) (rest := []) (s_Fb_findKind l z ad E M1 x1 r2 M2 hL g2) hx hb hml hown hts w_1368 n_1365 w_1367 w_s_93fc6e w_4 md_b41941 ⟨Nat.le_of_ble_eq_true rfl, Nat.le_of_ble_eq_true rfl⟩ hG hZ hP hD hS hA 51 (wv_o (ci := 5) (yi_51 hL) (yt_51 hL)) rfl rfl rfl hl.1 rfl (Nat.le_of_ble_eq_true rfl) d_1_36_15 ⟨Nat.le_of_ble_eq_true rfl, Nat.le_of_ble_eq_true rfl⟩ (fun _ H locs hP hD hS => ?_)
    have hP : va_P z.1 classes (wv z ad E M2) H := hP
    have hD : va_D A (wv z ad E M2) := hD
    refine W.eq (g2 := F0 m 18 ls [.int r2]) rfl ?_
    obtain ⟨rfl, rfl⟩ := in2 h
    exact W.iret hx hb hr (fun t ht hW => qkA hP hD hS (fun k => k) rfl rfl ht) hS.2.2 d_1_36_18
  exact key _ _ _ hts hP hS
set_option maxRecDepth 100000 in
set_option maxHeartbeats 4000000 in
theorem b_B_gainAt_j34 (l : Launch) (z : Zz) (ad : Nat → Nat) (E : Ev) (M : Mm) (x2 : Int32) (y0 : Int32) (y1 : Int32) (r : Int32) (N : Mm) {p : Program} {e : Env} {s : State} {m : MethodId} {below : List Frame} {meth : Method} {c : Code} {A : Nat → Prop} {args : Array Value} (hx : p.tables.exec = Jvm.exec) (hb : c.code = prog_1_method_37_code) (hml : c.maxLocals = 3) (hts : ∀ w ∈ WG, w.before args s = true) (hown : s.vm.findClass "Ballothall" = some m.cls) (hlocks : meth.locks = false) (hA : ∀ q, s.heap.size ≤ q → A q) (hG : KG z s) (hZ : FZ z A s) (hL : Lay E) (hr : meth.sig.returnType = (some .int)) (h : B_gainAt_j34 E M x2 y0 y1 = some (r, N)) : ∀ (H : Heap) (locs : List Loc) (ls : Array Slot), va_P z.1 classes (wv z ad E M) H → va_D A (wv z ad E M) → va_S A s.heap H locs → lv_has ls 3 [(0, .ref (ad 1)), (2, .int x2)] → W p l e (rmK 7 185 0 0) s m args below meth c H locs 0 0 (MQ below (QK z A (fun _ => some (.int r)) (fun _ => wv z ad E N)) args s 0 0 A) (F0 m 34 ls [.int y0, .int y1]) := by
  intro H locs ls hP hD hS hl
  unfold B_gainAt_j34 at h
  obtain ⟨M3, g3, h⟩ := bd_e h
  refine kS (As := [.int y1, .int y0]) (rest := []) (s_B_needPlace l z ad E M y1 y0 M3 hL g3) hx hb hml hown hts w_1343 w_1341 w_1342 w_1 md_541664 ⟨Nat.le_of_ble_eq_true rfl, Nat.le_of_ble_eq_true rfl⟩ hG hZ hP hD hS hA rfl hl.1 rfl (Nat.le_of_ble_eq_true rfl) d_1_37_34 ⟨Nat.le_of_ble_eq_true rfl, Nat.le_of_ble_eq_true rfl⟩ (fun _ H locs hP hD hS => ?_)
  have hP : va_P z.1 classes (wv z ad E M3) H := hP
  have hD : va_D A (wv z ad E M3) := hD
  refine W.eq (g2 := F0 m 37 ls []) rfl ?_
  refine lv_aload_n hx hb d_1_37_37 rfl (lv_at hl 0 rfl) ?_
  refine m_gr (j := 51) (C := "Ballothall") (T := TX11) (N := 14) (ci := 11) (k := 2) hx hb hts iX11 hown hG hP (yi_1 hL) (yt_1 hL) rfl (by decide) w_399 (fun _ h9 => h9) rfl rfl (yr_1_2 hL) d_1_37_38 ?_
  refine m_grN (j := 52) (C := "Ballothall$FalseBallot") (T := TX5) (N := 3) (ci := 5) (k := 2) hx hb hts iX5 hown hG hP (yi_51 hL) (yt_51 hL) rfl (by decide) n_155 rfl (fun _ h9 => h9) rfl rfl (yr_51_2 hL) d_1_37_41 ?_
  refine lv_iload_n hx hb d_1_37_44 rfl (lv_at hl 1 rfl) ?_
  obtain ⟨ok4, h⟩ := ck_e h
  refine m_ia hx hb hG hP (yi_52 hL) (yt_52 hL) ok4 d_1_37_45 ?_
  obtain ⟨rfl, rfl⟩ := in2 h
  exact W.iret hx hb hr (fun t ht hW => qkA hP hD hS (fun k => k) rfl rfl ht) hS.2.2 d_1_37_46
set_option maxRecDepth 100000 in
set_option maxHeartbeats 4000000 in
theorem s_B_gainAt (l : Launch) (z : Zz) (ad : Nat → Nat) (E : Ev) (M : Mm) (x1 : Int32) (x2 : Int32) (r : Int32) (N : Mm) (hL : Lay E) (h : f_B_gainAt E M x1 x2 = some (r, N)) : CT l z ⟨"Ballothall", "gainAt", "(II)I"⟩ prog_1_method_37_code 3 (some .int) [.ref (ad 1), .int x1, .int x2] (wv z ad E M) 7 185 0 0 (fun _ => some (.int r)) (fun _ => wv z ad E N) := by
  refine CT.of (own := "Ballothall") (by decide +kernel) (Nat.le_of_ble_eq_true rfl) rfl (fun p e s m below meth c A ls hx hb hml hr hts hown hlocks hin hA hG hZ hP hD hS hl => ?_)
  have hl : lv_has ls 3 [(0, .ref (ad 1)), (1, .int x1), (2, .int x2)] := hl
  have key : ∀ (H : Heap) (locs : List Loc) (args : Array Value), (∀ w ∈ WG, w.before args s = true) → va_P z.1 classes (wv z ad E M) H → va_S A s.heap H locs → W p l e (rmK 7 185 0 0) s m args below meth c H locs 0 0 (MQ below (QK z A (fun _ => some (.int r)) (fun _ => wv z ad E N)) args s 0 0 A) (F0 m 0 ls []) := by
    intro H locs args hts hP hS
    unfold f_B_gainAt at h
    refine lv_iload_n hx hb d_1_37_0 rfl (lv_at hl 1 rfl) ?_
    refine lv_iconst (v := 0) hx hb d_1_37_1 (by decide +kernel) ?_
    refine lv_iconst (v := 4) hx hb d_1_37_2 (by decide +kernel) ?_
    obtain ⟨M0, g0, h⟩ := bd_e h
    refine kS (As := [.int x1, .int 0, .int 4]) (rest := []) (s_B_needRange l z ad E M x1 0 4 M0 hL g0) hx hb hml hown hts w_548 w_546 w_547 w_1 md_519134 ⟨Nat.le_of_ble_eq_true rfl, Nat.le_of_ble_eq_true rfl⟩ hG hZ hP hD hS hA rfl hl.1 rfl (Nat.le_of_ble_eq_true rfl) d_1_37_3 ⟨Nat.le_of_ble_eq_true rfl, Nat.le_of_ble_eq_true rfl⟩ (fun _ H locs hP hD hS => ?_)
    have hP : va_P z.1 classes (wv z ad E M0) H := hP
    have hD : va_D A (wv z ad E M0) := hD
    refine W.eq (g2 := F0 m 6 ls []) rfl ?_
    refine lv_aload_n hx hb d_1_37_6 rfl (lv_at hl 0 rfl) ?_
    obtain ⟨M1, g1, h⟩ := bd_e h
    refine kV (As := []) (rest := []) (s_B_needFewCandidates l z ad E M0 M1 hL g1) hx hb hml hown hts w_1363 w_1360 w_1362 w_s_bfc401 w_1 md_38a853 ⟨Nat.le_of_ble_eq_true rfl, Nat.le_of_ble_eq_true rfl⟩ hG hZ hP hD hS hA 1 (wv_o (ci := 11) (yi_1 hL) (yt_1 hL)) rfl rfl rfl hl.1 rfl (Nat.le_of_ble_eq_true rfl) d_1_37_7 ⟨Nat.le_of_ble_eq_true rfl, Nat.le_of_ble_eq_true rfl⟩ (fun _ H locs hP hD hS => ?_)
    have hP : va_P z.1 classes (wv z ad E M1) H := hP
    have hD : va_D A (wv z ad E M1) := hD
    refine W.eq (g2 := F0 m 10 ls []) rfl ?_
    refine lv_iload_n hx hb d_1_37_10 rfl (lv_at hl 2 rfl) ?_
    refine lv_aload_n hx hb d_1_37_11 rfl (lv_at hl 0 rfl) ?_
    refine m_gr (j := 51) (C := "Ballothall") (T := TX11) (N := 14) (ci := 11) (k := 2) hx hb hts iX11 hown hG hP (yi_1 hL) (yt_1 hL) rfl (by decide) w_399 (fun _ h9 => h9) rfl rfl (yr_1_2 hL) d_1_37_12 ?_
    refine lv_iload_n hx hb d_1_37_15 rfl (lv_at hl 1 rfl) ?_
    obtain ⟨⟨r2, M2⟩, g2, h⟩ := bd_e h
    refine kVN (As := [.int x1]) (rest := [.int x2]) (s_Fb_findKind l z ad E M1 x1 r2 M2 hL g2) hx hb hml hown hts w_1368 n_1365 w_1367 w_s_93fc6e w_4 md_b41941 ⟨Nat.le_of_ble_eq_true rfl, Nat.le_of_ble_eq_true rfl⟩ hG hZ hP hD hS hA 51 (wv_o (ci := 5) (yi_51 hL) (yt_51 hL)) rfl rfl rfl hl.1 rfl (Nat.le_of_ble_eq_true rfl) d_1_37_16 ⟨Nat.le_of_ble_eq_true rfl, Nat.le_of_ble_eq_true rfl⟩ (fun _ H locs hP hD hS => ?_)
    have hP : va_P z.1 classes (wv z ad E M2) H := hP
    have hD : va_D A (wv z ad E M2) := hD
    refine W.eq (g2 := F0 m 19 ls [.int r2, .int x2]) rfl ?_
    refine lv_iconst (v := (-1)) hx hb d_1_37_19 (by decide +kernel) ?_
    refine lv_icmp_ne (tgt := 27) hx hb d_1_37_20 (by decide) (fun c9 => ?_) (fun c9 => ?_)
    · have h := ite_f c9 h
      refine lv_aload_n hx hb d_1_37_27 rfl (lv_at hl 0 rfl) ?_
      refine m_gr (j := 2) (C := "Ballothall") (T := TX11) (N := 14) (ci := 11) (k := 0) hx hb hts iX11 hown hG hP (yi_1 hL) (yt_1 hL) rfl (by decide) w_397 (fun _ h9 => h9) rfl rfl (yr_1_0 hL) d_1_37_28 ?_
      refine m_giN (C := "Ballothall$BallotBox") (T := TX0) (N := 10) (ci := 0) (k := 2) hx hb hts iX0 hown hG hP (yi_2 hL) (yt_2 hL) rfl (by decide) n_52 rfl (fun _ h9 => h9) rfl rfl d_1_37_31 ?_
      exact b_B_gainAt_j34 l z ad E M2 x2 (M2.1 2 2) x2 r N hx hb hml hts hown hlocks hA hG hZ hL hr h H locs ls hP hD hS (lv_sub hl [0, 2] rfl)
    · have h := ite_t c9 h
      refine lv_iconst (v := 0) hx hb d_1_37_23 (by decide +kernel) ?_
      refine lv_goto (tgt := 34) hx hb d_1_37_24 (by decide) ?_
      exact b_B_gainAt_j34 l z ad E M2 x2 0 x2 r N hx hb hml hts hown hlocks hA hG hZ hL hr h H locs ls hP hD hS (lv_sub hl [0, 2] rfl)
  exact key _ _ _ hts hP hS
set_option maxRecDepth 100000 in
set_option maxHeartbeats 4000000 in
theorem s_B_greatestDistrict (l : Launch) (z : Zz) (ad : Nat → Nat) (E : Ev) (M : Mm) (x1 : Int32) (r : Int32) (N : Mm) (hL : Lay E) (h : f_B_greatestDistrict E M x1 = some (r, N)) : CT l z ⟨"Ballothall", "greatestDistrict", "(I)I"⟩ prog_1_method_42_code 2 (some .int) [.ref (ad 1), .int x1] (wv z ad E M) 3 91 0 0 (fun _ => some (.int r)) (fun _ => wv z ad E N) := by
  refine CT.of (own := "Ballothall") (by decide +kernel) (Nat.le_of_ble_eq_true rfl) rfl (fun p e s m below meth c A ls hx hb hml hr hts hown hlocks hin hA hG hZ hP hD hS hl => ?_)
  have hl : lv_has ls 2 [(0, .ref (ad 1)), (1, .int x1)] := hl
  have key : ∀ (H : Heap) (locs : List Loc) (args : Array Value), (∀ w ∈ WG, w.before args s = true) → va_P z.1 classes (wv z ad E M) H → va_S A s.heap H locs → W p l e (rmK 3 91 0 0) s m args below meth c H locs 0 0 (MQ below (QK z A (fun _ => some (.int r)) (fun _ => wv z ad E N)) args s 0 0 A) (F0 m 0 ls []) := by
    intro H locs args hts hP hS
    unfold f_B_greatestDistrict at h
    refine lv_iload_n hx hb d_1_42_0 rfl (lv_at hl 1 rfl) ?_
    refine lv_iconst (v := 1) hx hb d_1_42_1 (by decide +kernel) ?_
    refine lv_aload_n hx hb d_1_42_2 rfl (lv_at hl 0 rfl) ?_
    refine m_gr (j := 219) (C := "Ballothall") (T := TX11) (N := 14) (ci := 11) (k := 5) hx hb hts iX11 hown hG hP (yi_1 hL) (yt_1 hL) rfl (by decide) w_402 (fun _ h9 => h9) rfl rfl (yr_1_5 hL) d_1_42_3 ?_
    refine m_giN (C := "Ballothall$Wards") (T := TX10) (N := 5) (ci := 10) (k := 0) hx hb hts iX10 hown hG hP (yi_219 hL) (yt_219 hL) rfl (by decide) n_359 rfl (fun _ h9 => h9) rfl rfl d_1_42_6 ?_
    obtain ⟨M0, g0, h⟩ := bd_e h
    refine kS (As := [.int x1, .int 1, .int (M.1 219 0)]) (rest := []) (s_B_needRange l z ad E M x1 1 (M.1 219 0) M0 hL g0) hx hb hml hown hts w_548 w_546 w_547 w_1 md_519134 ⟨Nat.le_of_ble_eq_true rfl, Nat.le_of_ble_eq_true rfl⟩ hG hZ hP hD hS hA rfl hl.1 rfl (Nat.le_of_ble_eq_true rfl) d_1_42_9 ⟨Nat.le_of_ble_eq_true rfl, Nat.le_of_ble_eq_true rfl⟩ (fun _ H locs hP hD hS => ?_)
    have hP : va_P z.1 classes (wv z ad E M0) H := hP
    have hD : va_D A (wv z ad E M0) := hD
    refine W.eq (g2 := F0 m 12 ls []) rfl ?_
    refine lv_aload_n hx hb d_1_42_12 rfl (lv_at hl 0 rfl) ?_
    refine m_gr (j := 219) (C := "Ballothall") (T := TX11) (N := 14) (ci := 11) (k := 5) hx hb hts iX11 hown hG hP (yi_1 hL) (yt_1 hL) rfl (by decide) w_402 (fun _ h9 => h9) rfl rfl (yr_1_5 hL) d_1_42_13 ?_
    refine lv_iload_n hx hb d_1_42_16 rfl (lv_at hl 1 rfl) ?_
    obtain ⟨⟨r1, M1⟩, g1, h⟩ := bd_e h
    refine kVN (As := [.int x1]) (rest := []) (s_Wa_divide l z ad E M0 x1 r1 M1 hL g1) hx hb hml hown hts w_1621 n_1618 w_1620 w_s_af9e07 w_10 md_d7e64c ⟨Nat.le_of_ble_eq_true rfl, Nat.le_of_ble_eq_true rfl⟩ hG hZ hP hD hS hA 219 (wv_o (ci := 10) (yi_219 hL) (yt_219 hL)) rfl rfl rfl hl.1 rfl (Nat.le_of_ble_eq_true rfl) d_1_42_17 ⟨Nat.le_of_ble_eq_true rfl, Nat.le_of_ble_eq_true rfl⟩ (fun _ H locs hP hD hS => ?_)
    have hP : va_P z.1 classes (wv z ad E M1) H := hP
    have hD : va_D A (wv z ad E M1) := hD
    refine W.eq (g2 := F0 m 20 ls [.int r1]) rfl ?_
    obtain ⟨rfl, rfl⟩ := in2 h
    exact W.iret hx hb hr (fun t ht hW => qkA hP hD hS (fun k => k) rfl rfl ht) hS.2.2 d_1_42_20
  exact key _ _ _ hts hP hS
set_option maxRecDepth 100000 in
set_option maxHeartbeats 4000000 in
theorem s_B_kindAt (l : Launch) (z : Zz) (ad : Nat → Nat) (E : Ev) (M : Mm) (x1 : Int32) (x2 : Int32) (x3 : Int32) (r : Int32) (N : Mm) (hL : Lay E) (h : f_B_kindAt E M x1 x2 x3 = some (r, N)) : CT l z ⟨"Ballothall", "kindAt", "(IIZ)I"⟩ prog_1_method_8_code 4 (some .int) [.ref (ad 1), .int x1, .int x2, .int x3] (wv z ad E M) 2 64 0 0 (fun _ => some (.int r)) (fun _ => wv z ad E N) := by
  refine CT.of (own := "Ballothall") (by decide +kernel) (Nat.le_of_ble_eq_true rfl) rfl (fun p e s m below meth c A ls hx hb hml hr hts hown hlocks hin hA hG hZ hP hD hS hl => ?_)
  have hl : lv_has ls 4 [(0, .ref (ad 1)), (1, .int x1), (2, .int x2), (3, .int x3)] := hl
  have key : ∀ (H : Heap) (locs : List Loc) (args : Array Value), (∀ w ∈ WG, w.before args s = true) → va_P z.1 classes (wv z ad E M) H → va_S A s.heap H locs → W p l e (rmK 2 64 0 0) s m args below meth c H locs 0 0 (MQ below (QK z A (fun _ => some (.int r)) (fun _ => wv z ad E N)) args s 0 0 A) (F0 m 0 ls []) := by
    intro H locs args hts hP hS
    unfold f_B_kindAt at h
    refine lv_iload_n hx hb d_1_8_0 rfl (lv_at hl 1 rfl) ?_
    refine lv_aload_n hx hb d_1_8_1 rfl (lv_at hl 0 rfl) ?_
    refine m_gr (j := 2) (C := "Ballothall") (T := TX11) (N := 14) (ci := 11) (k := 0) hx hb hts iX11 hown hG hP (yi_1 hL) (yt_1 hL) rfl (by decide) w_397 (fun _ h9 => h9) rfl rfl (yr_1_0 hL) d_1_8_2 ?_
    refine m_giN (C := "Ballothall$BallotBox") (T := TX0) (N := 10) (ci := 0) (k := 3) hx hb hts iX0 hown hG hP (yi_2 hL) (yt_2 hL) rfl (by decide) n_58 rfl (fun _ h9 => h9) rfl rfl d_1_8_5 ?_
    obtain ⟨M0, g0, h⟩ := bd_e h
    refine kS (As := [.int x1, .int (M.1 2 3)]) (rest := []) (s_B_needIndex l z ad E M x1 (M.1 2 3) M0 hL g0) hx hb hml hown hts w_529 w_527 w_528 w_1 md_6cb26b ⟨Nat.le_of_ble_eq_true rfl, Nat.le_of_ble_eq_true rfl⟩ hG hZ hP hD hS hA rfl hl.1 rfl (Nat.le_of_ble_eq_true rfl) d_1_8_8 ⟨Nat.le_of_ble_eq_true rfl, Nat.le_of_ble_eq_true rfl⟩ (fun _ H locs hP hD hS => ?_)
    have hP : va_P z.1 classes (wv z ad E M0) H := hP
    have hD : va_D A (wv z ad E M0) := hD
    refine W.eq (g2 := F0 m 11 ls []) rfl ?_
    refine lv_iload_n hx hb d_1_8_11 rfl (lv_at hl 2 rfl) ?_
    refine lv_aload_n hx hb d_1_8_12 rfl (lv_at hl 0 rfl) ?_
    refine m_gr (j := 2) (C := "Ballothall") (T := TX11) (N := 14) (ci := 11) (k := 0) hx hb hts iX11 hown hG hP (yi_1 hL) (yt_1 hL) rfl (by decide) w_397 (fun _ h9 => h9) rfl rfl (yr_1_0 hL) d_1_8_13 ?_
    refine m_giN (C := "Ballothall$BallotBox") (T := TX0) (N := 10) (ci := 0) (k := 2) hx hb hts iX0 hown hG hP (yi_2 hL) (yt_2 hL) rfl (by decide) n_52 rfl (fun _ h9 => h9) rfl rfl d_1_8_16 ?_
    obtain ⟨M1, g1, h⟩ := bd_e h
    refine kS (As := [.int x2, .int (M0.1 2 2)]) (rest := []) (s_B_needIndex l z ad E M0 x2 (M0.1 2 2) M1 hL g1) hx hb hml hown hts w_529 w_527 w_528 w_1 md_6cb26b ⟨Nat.le_of_ble_eq_true rfl, Nat.le_of_ble_eq_true rfl⟩ hG hZ hP hD hS hA rfl hl.1 rfl (Nat.le_of_ble_eq_true rfl) d_1_8_19 ⟨Nat.le_of_ble_eq_true rfl, Nat.le_of_ble_eq_true rfl⟩ (fun _ H locs hP hD hS => ?_)
    have hP : va_P z.1 classes (wv z ad E M1) H := hP
    have hD : va_D A (wv z ad E M1) := hD
    refine W.eq (g2 := F0 m 22 ls []) rfl ?_
    refine lv_iload_n hx hb d_1_8_22 rfl (lv_at hl 3 rfl) ?_
    refine lv_if_eq (tgt := 38) hx hb d_1_8_23 (by decide) (fun c9 => ?_) (fun c9 => ?_)
    · have h := ite_t c9 h
      refine lv_aload_n hx hb d_1_8_38 rfl (lv_at hl 0 rfl) ?_
      refine m_gr (j := 2) (C := "Ballothall") (T := TX11) (N := 14) (ci := 11) (k := 0) hx hb hts iX11 hown hG hP (yi_1 hL) (yt_1 hL) rfl (by decide) w_397 (fun _ h9 => h9) rfl rfl (yr_1_0 hL) d_1_8_39 ?_
      refine m_grN (j := 6) (C := "Ballothall$BallotBox") (T := TX0) (N := 10) (ci := 0) (k := 6) hx hb hts iX0 hown hG hP (yi_2 hL) (yt_2 hL) rfl (by decide) n_71 rfl (fun _ h9 => h9) rfl rfl (yr_2_6 hL) d_1_8_42 ?_
      refine lv_iload_n hx hb d_1_8_45 rfl (lv_at hl 1 rfl) ?_
      obtain ⟨ok2, h⟩ := ck_e h
      refine m_ia hx hb hG hP (yi_6 hL) (yt_6 hL) ok2 d_1_8_46 ?_
      refine lv_iload_n hx hb d_1_8_47 rfl (lv_at hl 2 rfl) ?_
      refine lv_ishr hx hb d_1_8_48 ?_
      refine lv_iconst (v := 1) hx hb d_1_8_49 (by decide +kernel) ?_
      refine lv_iand hx hb d_1_8_50 ?_
      obtain ⟨rfl, rfl⟩ := in2 h
      exact W.iret hx hb hr (fun t ht hW => qkA hP hD hS (fun k => k) rfl rfl ht) hS.2.2 d_1_8_51
    · have h := ite_f c9 h
      refine lv_aload_n hx hb d_1_8_26 rfl (lv_at hl 0 rfl) ?_
      refine m_gr (j := 2) (C := "Ballothall") (T := TX11) (N := 14) (ci := 11) (k := 0) hx hb hts iX11 hown hG hP (yi_1 hL) (yt_1 hL) rfl (by decide) w_397 (fun _ h9 => h9) rfl rfl (yr_1_0 hL) d_1_8_27 ?_
      refine lv_iload_n hx hb d_1_8_30 rfl (lv_at hl 1 rfl) ?_
      refine lv_iload_n hx hb d_1_8_31 rfl (lv_at hl 2 rfl) ?_
      obtain ⟨⟨r3, M3⟩, g3, h⟩ := bd_e h
      refine kVN (As := [.int x1, .int x2]) (rest := []) (s_Bx_rankOf l z ad E M1 x1 x2 r3 M3 hL g3) hx hb hml hown hts w_1062 n_1059 w_1061 w_s_6d1705 w_2 md_f4341f ⟨Nat.le_of_ble_eq_true rfl, Nat.le_of_ble_eq_true rfl⟩ hG hZ hP hD hS hA 2 (wv_o (ci := 0) (yi_2 hL) (yt_2 hL)) rfl rfl rfl hl.1 rfl (Nat.le_of_ble_eq_true rfl) d_1_8_32 ⟨Nat.le_of_ble_eq_true rfl, Nat.le_of_ble_eq_true rfl⟩ (fun _ H locs hP hD hS => ?_)
      have hP : va_P z.1 classes (wv z ad E M3) H := hP
      have hD : va_D A (wv z ad E M3) := hD
      refine W.eq (g2 := F0 m 35 ls [.int r3]) rfl ?_
      refine lv_goto (tgt := 51) hx hb d_1_8_35 (by decide) ?_
      obtain ⟨rfl, rfl⟩ := in2 h
      exact W.iret hx hb hr (fun t ht hW => qkA hP hD hS (fun k => k) rfl rfl ht) hS.2.2 d_1_8_51
  exact key _ _ _ hts hP hS
set_option maxRecDepth 100000 in
set_option maxHeartbeats 4000000 in
theorem s_Li_append (l : Launch) (z : Zz) (ad : Nat → Nat) (E : Ev) (M : Mm) (x1 : Int32) (r : Int32) (N : Mm) (hL : Lay E) (h : f_Li_append E M x1 = some (r, N)) : CT l z ⟨"Ballothall$Lists", "append", "(I)I"⟩ prog_9_method_2_code 3 (some .int) [.ref (ad 53), .int x1] (wv z ad E M) 0 20 0 0 (fun _ => some (.int r)) (fun _ => wv z ad E N) := by
  refine CT.of (own := "Ballothall$Lists") (by decide +kernel) (Nat.le_of_ble_eq_true rfl) rfl (fun p e s m below meth c A ls hx hb hml hr hts hown hlocks hin hA hG hZ hP hD hS hl => ?_)
  have hl : lv_has ls 3 [(0, .ref (ad 53)), (1, .int x1)] := hl
  have key : ∀ (H : Heap) (locs : List Loc) (args : Array Value), (∀ w ∈ WG, w.before args s = true) → va_P z.1 classes (wv z ad E M) H → va_S A s.heap H locs → W p l e (rmK 0 20 0 0) s m args below meth c H locs 0 0 (MQ below (QK z A (fun _ => some (.int r)) (fun _ => wv z ad E N)) args s 0 0 A) (F0 m 0 ls []) := by
    intro H locs args hts hP hS
    unfold f_Li_append at h
    refine lv_aload_n hx hb d_9_2_0 rfl (lv_at hl 0 rfl) ?_
    refine m_gi (C := "Ballothall$Lists") (T := TX7) (N := 11) (ci := 7) (k := 0) hx hb hts iX7 hown hG hP (yi_53 hL) (yt_53 hL) rfl (by decide) w_242 (fun _ h9 => h9) rfl rfl d_9_2_1 ?_
    refine lv_istore_n (lv' := [(2, .int (M.1 53 0)), (0, .ref (ad 53)), (1, .int x1)]) hx hb d_9_2_4 rfl hl (by decide) rfl (fun ls hl => ?_)
    refine lv_aload_n hx hb d_9_2_5 rfl (lv_at hl 1 rfl) ?_
    refine m_gr (j := 54) (C := "Ballothall$Lists") (T := TX7) (N := 11) (ci := 7) (k := 1) hx hb hts iX7 hown hG hP (yi_53 hL) (yt_53 hL) rfl (by decide) w_244 (fun _ h9 => h9) rfl rfl (yr_53_1 hL) d_9_2_6 ?_
    refine lv_iload_n hx hb d_9_2_9 rfl (lv_at hl 0 rfl) ?_
    refine lv_iload_n hx hb d_9_2_10 rfl (lv_at hl 2 rfl) ?_
    obtain ⟨ok0, h⟩ := ck_e h
    refine m_is hx hb hG hP hD hS (yi_54 hL) (yt_54 hL) ok0 d_9_2_11 (fun H locs hP hD hS => ?_)
    have hP : va_P z.1 classes (wv z ad E (u2 M 54 (M.1 53 0).toNatClampNeg x1)) H := hP
    have hD : va_D A (wv z ad E (u2 M 54 (M.1 53 0).toNatClampNeg x1)) := hD
    refine lv_aload_n hx hb d_9_2_12 rfl (lv_at hl 1 rfl) ?_
    refine m_gr (j := 55) (C := "Ballothall$Lists") (T := TX7) (N := 11) (ci := 7) (k := 2) hx hb hts iX7 hown hG hP (yi_53 hL) (yt_53 hL) rfl (by decide) w_245 (fun _ h9 => h9) rfl rfl (yr_53_2 hL) d_9_2_13 ?_
    refine lv_iload_n hx hb d_9_2_16 rfl (lv_at hl 0 rfl) ?_
    refine lv_iconst (v := 0) hx hb d_9_2_17 (by decide +kernel) ?_
    obtain ⟨ok1, h⟩ := ck_e h
    refine m_is hx hb hG hP hD hS (yi_55 hL) (yt_55 hL) ok1 d_9_2_18 (fun H locs hP hD hS => ?_)
    have hP : va_P z.1 classes (wv z ad E (u2 (u2 M 54 (M.1 53 0).toNatClampNeg x1) 55 (M.1 53 0).toNatClampNeg 0)) H := hP
    have hD : va_D A (wv z ad E (u2 (u2 M 54 (M.1 53 0).toNatClampNeg x1) 55 (M.1 53 0).toNatClampNeg 0)) := hD
    refine lv_aload_n hx hb d_9_2_19 rfl (lv_at hl 1 rfl) ?_
    refine m_gr (j := 56) (C := "Ballothall$Lists") (T := TX7) (N := 11) (ci := 7) (k := 3) hx hb hts iX7 hown hG hP (yi_53 hL) (yt_53 hL) rfl (by decide) w_247 (fun _ h9 => h9) rfl rfl (yr_53_3 hL) d_9_2_20 ?_
    refine lv_iload_n hx hb d_9_2_23 rfl (lv_at hl 0 rfl) ?_
    refine lv_iload_n hx hb d_9_2_24 rfl (lv_at hl 0 rfl) ?_
    obtain ⟨ok2, h⟩ := ck_e h
    refine m_is hx hb hG hP hD hS (yi_56 hL) (yt_56 hL) ok2 d_9_2_25 (fun H locs hP hD hS => ?_)
    have hP : va_P z.1 classes (wv z ad E (u2 (u2 (u2 M 54 (M.1 53 0).toNatClampNeg x1) 55 (M.1 53 0).toNatClampNeg 0) 56 (M.1 53 0).toNatClampNeg (M.1 53 0))) H := hP
    have hD : va_D A (wv z ad E (u2 (u2 (u2 M 54 (M.1 53 0).toNatClampNeg x1) 55 (M.1 53 0).toNatClampNeg 0) 56 (M.1 53 0).toNatClampNeg (M.1 53 0))) := hD
    obtain ⟨M3, e3, h⟩ := nb_e h
    rw [← e3] at hP hD
    refine lv_aload_n hx hb d_9_2_26 rfl (lv_at hl 1 rfl) ?_
    refine lv_dup hx hb d_9_2_27 rfl ?_
    refine m_gi (C := "Ballothall$Lists") (T := TX7) (N := 11) (ci := 7) (k := 0) hx hb hts iX7 hown hG hP (yi_53 hL) (yt_53 hL) rfl (by decide) w_242 (fun _ h9 => h9) rfl rfl d_9_2_28 ?_
    refine lv_iconst (v := 1) hx hb d_9_2_31 (by decide +kernel) ?_
    refine lv_iadd hx hb d_9_2_32 ?_
    refine m_pi (C := "Ballothall$Lists") (T := TX7) (N := 11) (ci := 7) (k := 0) (ty := .int) hx hb hts iX7 hown hG hP hD hS (yi_53 hL) (yt_53 hL) rfl (by decide) w_242 (fun _ h9 => h9) rfl rfl tyX7_ok nmX7 rfl (by decide +kernel) rfl rfl d_9_2_33 (fun H locs hP hD hS => ?_)
    have hP : va_P z.1 classes (wv z ad E (u2 M3 53 0 ((M3.1 53 0) + (1 : Int32)))) H := hP
    have hD : va_D A (wv z ad E (u2 M3 53 0 ((M3.1 53 0) + (1 : Int32)))) := hD
    refine lv_iload_n hx hb d_9_2_36 rfl (lv_at hl 0 rfl) ?_
    obtain ⟨rfl, rfl⟩ := in2 h
    exact W.iret hx hb hr (fun t ht hW => qkA hP hD hS (fun k => k) rfl rfl ht) hS.2.2 d_9_2_37
  exact key _ _ _ hts hP hS
set_option maxRecDepth 100000 in
set_option maxHeartbeats 4000000 in
theorem s_B_list (l : Launch) (z : Zz) (ad : Nat → Nat) (E : Ev) (M : Mm) (x1 : Int32) (r : Int32) (N : Mm) (hL : Lay E) (h : f_B_list E M x1 = some (r, N)) : CT l z ⟨"Ballothall", "list", "(I)I"⟩ prog_1_method_10_code 3 (some .int) [.ref (ad 1), .int x1] (wv z ad E M) 2 63 0 0 (fun _ => some (.int r)) (fun _ => wv z ad E N) := by
  refine CT.of (own := "Ballothall") (by decide +kernel) (Nat.le_of_ble_eq_true rfl) rfl (fun p e s m below meth c A ls hx hb hml hr hts hown hlocks hin hA hG hZ hP hD hS hl => ?_)
  have hl : lv_has ls 3 [(0, .ref (ad 1)), (1, .int x1)] := hl
  have key : ∀ (H : Heap) (locs : List Loc) (args : Array Value), (∀ w ∈ WG, w.before args s = true) → va_P z.1 classes (wv z ad E M) H → va_S A s.heap H locs → W p l e (rmK 2 63 0 0) s m args below meth c H locs 0 0 (MQ below (QK z A (fun _ => some (.int r)) (fun _ => wv z ad E N)) args s 0 0 A) (F0 m 0 ls []) := by
    intro H locs args hts hP hS
    unfold f_B_list at h
    refine lv_iload_n hx hb d_1_10_0 rfl (lv_at hl 1 rfl) ?_
    refine lv_iconst (v := 0) hx hb d_1_10_1 (by decide +kernel) ?_
    refine lv_ldc hx hb hown (hts _ w_1512) d_1_10_2 ?_
    obtain ⟨M0, g0, h⟩ := bd_e h
    refine kS (As := [.int x1, .int 0, .int 10000000]) (rest := []) (s_B_needRange l z ad E M x1 0 10000000 M0 hL g0) hx hb hml hown hts w_548 w_546 w_547 w_1 md_519134 ⟨Nat.le_of_ble_eq_true rfl, Nat.le_of_ble_eq_true rfl⟩ hG hZ hP hD hS hA rfl hl.1 rfl (Nat.le_of_ble_eq_true rfl) d_1_10_4 ⟨Nat.le_of_ble_eq_true rfl, Nat.le_of_ble_eq_true rfl⟩ (fun _ H locs hP hD hS => ?_)
    have hP : va_P z.1 classes (wv z ad E M0) H := hP
    have hD : va_D A (wv z ad E M0) := hD
    refine W.eq (g2 := F0 m 7 ls []) rfl ?_
    refine lv_aload_n hx hb d_1_10_7 rfl (lv_at hl 0 rfl) ?_
    refine m_gr (j := 53) (C := "Ballothall") (T := TX11) (N := 14) (ci := 11) (k := 3) hx hb hts iX11 hown hG hP (yi_1 hL) (yt_1 hL) rfl (by decide) w_400 (fun _ h9 => h9) rfl rfl (yr_1_3 hL) d_1_10_8 ?_
    refine m_giN (C := "Ballothall$Lists") (T := TX7) (N := 11) (ci := 7) (k := 0) hx hb hts iX7 hown hG hP (yi_53 hL) (yt_53 hL) rfl (by decide) n_243 rfl (fun _ h9 => h9) rfl rfl d_1_10_11 ?_
    refine lv_iconst (v := 1) hx hb d_1_10_14 (by decide +kernel) ?_
    refine lv_iadd hx hb d_1_10_15 ?_
    refine lv_bipush (v := 8) hx hb d_1_10_16 (by decide +kernel) ?_
    obtain ⟨M1, g1, h⟩ := bd_e h
    refine kS (As := [.int ((M0.1 53 0) + (1 : Int32)), .int 8]) (rest := []) (s_B_needRoom l z ad E M0 ((M0.1 53 0) + (1 : Int32)) 8 M1 hL g1) hx hb hml hown hts w_446 w_444 w_445 w_1 md_ec9fa9 ⟨Nat.le_of_ble_eq_true rfl, Nat.le_of_ble_eq_true rfl⟩ hG hZ hP hD hS hA rfl hl.1 rfl (Nat.le_of_ble_eq_true rfl) d_1_10_18 ⟨Nat.le_of_ble_eq_true rfl, Nat.le_of_ble_eq_true rfl⟩ (fun _ H locs hP hD hS => ?_)
    have hP : va_P z.1 classes (wv z ad E M1) H := hP
    have hD : va_D A (wv z ad E M1) := hD
    refine W.eq (g2 := F0 m 21 ls []) rfl ?_
    refine lv_aload_n hx hb d_1_10_21 rfl (lv_at hl 0 rfl) ?_
    refine m_gr (j := 53) (C := "Ballothall") (T := TX11) (N := 14) (ci := 11) (k := 3) hx hb hts iX11 hown hG hP (yi_1 hL) (yt_1 hL) rfl (by decide) w_400 (fun _ h9 => h9) rfl rfl (yr_1_3 hL) d_1_10_22 ?_
    refine lv_iload_n hx hb d_1_10_25 rfl (lv_at hl 1 rfl) ?_
    obtain ⟨⟨r2, M2⟩, g2, h⟩ := bd_e h
    refine kVN (As := [.int x1]) (rest := []) (s_Li_append l z ad E M1 x1 r2 M2 hL g2) hx hb hml hown hts w_1516 n_1513 w_1515 w_s_e9d9cd w_5 md_b749d4 ⟨Nat.le_of_ble_eq_true rfl, Nat.le_of_ble_eq_true rfl⟩ hG hZ hP hD hS hA 53 (wv_o (ci := 7) (yi_53 hL) (yt_53 hL)) rfl rfl rfl hl.1 rfl (Nat.le_of_ble_eq_true rfl) d_1_10_26 ⟨Nat.le_of_ble_eq_true rfl, Nat.le_of_ble_eq_true rfl⟩ (fun _ H locs hP hD hS => ?_)
    have hP : va_P z.1 classes (wv z ad E M2) H := hP
    have hD : va_D A (wv z ad E M2) := hD
    refine W.eq (g2 := F0 m 29 ls [.int r2]) rfl ?_
    refine lv_istore_n (lv' := [(2, .int r2), (0, .ref (ad 1)), (1, .int x1)]) hx hb d_1_10_29 rfl hl (by decide) rfl (fun ls hl => ?_)
    refine lv_aload_n hx hb d_1_10_30 rfl (lv_at hl 1 rfl) ?_
    refine lv_iconst (v := 5) hx hb d_1_10_31 (by decide +kernel) ?_
    refine lv_iload_n hx hb d_1_10_32 rfl (lv_at hl 0 rfl) ?_
    refine lv_iconst (v := 0) hx hb d_1_10_33 (by decide +kernel) ?_
    obtain ⟨M3, g3, h⟩ := bd_e h
    refine kV (As := [.int 5, .int r2, .int 0]) (rest := []) (s_B_remember l z ad E M2 5 r2 0 M3 hL g3) hx hb hml hown hts w_519 w_516 w_518 w_s_b872b3 w_1 md_7af0bb ⟨Nat.le_of_ble_eq_true rfl, Nat.le_of_ble_eq_true rfl⟩ hG hZ hP hD hS hA 1 (wv_o (ci := 11) (yi_1 hL) (yt_1 hL)) rfl rfl rfl hl.1 rfl (Nat.le_of_ble_eq_true rfl) d_1_10_34 ⟨Nat.le_of_ble_eq_true rfl, Nat.le_of_ble_eq_true rfl⟩ (fun _ H locs hP hD hS => ?_)
    have hP : va_P z.1 classes (wv z ad E M3) H := hP
    have hD : va_D A (wv z ad E M3) := hD
    refine W.eq (g2 := F0 m 37 ls []) rfl ?_
    refine lv_iload_n hx hb d_1_10_37 rfl (lv_at hl 0 rfl) ?_
    obtain ⟨rfl, rfl⟩ := in2 h
    exact W.iret hx hb hr (fun t ht hW => qkA hP hD hS (fun k => k) rfl rfl ht) hS.2.2 d_1_10_38
  exact key _ _ _ hts hP hS
set_option maxRecDepth 100000 in
set_option maxHeartbeats 4000000 in
theorem s_Cl_append (l : Launch) (z : Zz) (ad : Nat → Nat) (E : Ev) (M : Mm) (x1 : Int32) (r : Int32) (N : Mm) (hL : Lay E) (h : f_Cl_append E M x1 = some (r, N)) : CT l z ⟨"Ballothall$Council", "append", "(I)I"⟩ prog_3_method_2_code 3 (some .int) [.ref (ad 243), .int x1] (wv z ad E M) 0 20 0 0 (fun _ => some (.int r)) (fun _ => wv z ad E N) := by
  refine CT.of (own := "Ballothall$Council") (by decide +kernel) (Nat.le_of_ble_eq_true rfl) rfl (fun p e s m below meth c A ls hx hb hml hr hts hown hlocks hin hA hG hZ hP hD hS hl => ?_)
  have hl : lv_has ls 3 [(0, .ref (ad 243)), (1, .int x1)] := hl
  have key : ∀ (H : Heap) (locs : List Loc) (args : Array Value), (∀ w ∈ WG, w.before args s = true) → va_P z.1 classes (wv z ad E M) H → va_S A s.heap H locs → W p l e (rmK 0 20 0 0) s m args below meth c H locs 0 0 (MQ below (QK z A (fun _ => some (.int r)) (fun _ => wv z ad E N)) args s 0 0 A) (F0 m 0 ls []) := by
    intro H locs args hts hP hS
    unfold f_Cl_append at h
    refine lv_aload_n hx hb d_3_2_0 rfl (lv_at hl 0 rfl) ?_
    refine m_gi (C := "Ballothall$Council") (T := TX1) (N := 4) (ci := 1) (k := 0) hx hb hts iX1 hown hG hP (yi_243 hL) (yt_243 hL) rfl (by decide) w_382 (fun _ h9 => h9) rfl rfl d_3_2_1 ?_
    refine lv_istore_n (lv' := [(2, .int (M.1 243 0)), (0, .ref (ad 243)), (1, .int x1)]) hx hb d_3_2_4 rfl hl (by decide) rfl (fun ls hl => ?_)
    refine lv_aload_n hx hb d_3_2_5 rfl (lv_at hl 1 rfl) ?_
    refine m_gr (j := 244) (C := "Ballothall$Council") (T := TX1) (N := 4) (ci := 1) (k := 2) hx hb hts iX1 hown hG hP (yi_243 hL) (yt_243 hL) rfl (by decide) w_386 (fun _ h9 => h9) rfl rfl (yr_243_2 hL) d_3_2_6 ?_
    refine lv_iload_n hx hb d_3_2_9 rfl (lv_at hl 0 rfl) ?_
    refine lv_iload_n hx hb d_3_2_10 rfl (lv_at hl 2 rfl) ?_
    obtain ⟨ok0, h⟩ := ck_e h
    refine m_is hx hb hG hP hD hS (yi_244 hL) (yt_244 hL) ok0 d_3_2_11 (fun H locs hP hD hS => ?_)
    have hP : va_P z.1 classes (wv z ad E (u2 M 244 (M.1 243 0).toNatClampNeg x1)) H := hP
    have hD : va_D A (wv z ad E (u2 M 244 (M.1 243 0).toNatClampNeg x1)) := hD
    refine lv_aload_n hx hb d_3_2_12 rfl (lv_at hl 1 rfl) ?_
    refine lv_dup hx hb d_3_2_13 rfl ?_
    refine m_gi (C := "Ballothall$Council") (T := TX1) (N := 4) (ci := 1) (k := 0) hx hb hts iX1 hown hG hP (yi_243 hL) (yt_243 hL) rfl (by decide) w_382 (fun _ h9 => h9) rfl rfl d_3_2_14 ?_
    refine lv_iconst (v := 1) hx hb d_3_2_17 (by decide +kernel) ?_
    refine lv_iadd hx hb d_3_2_18 ?_
    refine m_pi (C := "Ballothall$Council") (T := TX1) (N := 4) (ci := 1) (k := 0) (ty := .int) hx hb hts iX1 hown hG hP hD hS (yi_243 hL) (yt_243 hL) rfl (by decide) w_382 (fun _ h9 => h9) rfl rfl tyX1_ok nmX1 rfl (by decide +kernel) rfl rfl d_3_2_19 (fun H locs hP hD hS => ?_)
    have hP : va_P z.1 classes (wv z ad E (u2 (u2 M 244 (M.1 243 0).toNatClampNeg x1) 243 0 (((u2 M 244 (M.1 243 0).toNatClampNeg x1).1 243 0) + (1 : Int32)))) H := hP
    have hD : va_D A (wv z ad E (u2 (u2 M 244 (M.1 243 0).toNatClampNeg x1) 243 0 (((u2 M 244 (M.1 243 0).toNatClampNeg x1).1 243 0) + (1 : Int32)))) := hD
    obtain ⟨M1, e1, h⟩ := nb_e h
    rw [← e1] at hP hD
    refine lv_iload_n hx hb d_3_2_22 rfl (lv_at hl 0 rfl) ?_
    obtain ⟨rfl, rfl⟩ := in2 h
    exact W.iret hx hb hr (fun t ht hW => qkA hP hD hS (fun k => k) rfl rfl ht) hS.2.2 d_3_2_23
  exact key _ _ _ hts hP hS
set_option maxRecDepth 100000 in
set_option maxHeartbeats 4000000 in
theorem s_B_member (l : Launch) (z : Zz) (ad : Nat → Nat) (E : Ev) (M : Mm) (x1 : Int32) (r : Int32) (N : Mm) (hL : Lay E) (h : f_B_member E M x1 = some (r, N)) : CT l z ⟨"Ballothall", "member", "(I)I"⟩ prog_1_method_46_code 3 (some .int) [.ref (ad 1), .int x1] (wv z ad E M) 2 63 0 0 (fun _ => some (.int r)) (fun _ => wv z ad E N) := by
  refine CT.of (own := "Ballothall") (by decide +kernel) (Nat.le_of_ble_eq_true rfl) rfl (fun p e s m below meth c A ls hx hb hml hr hts hown hlocks hin hA hG hZ hP hD hS hl => ?_)
  have hl : lv_has ls 3 [(0, .ref (ad 1)), (1, .int x1)] := hl
  have key : ∀ (H : Heap) (locs : List Loc) (args : Array Value), (∀ w ∈ WG, w.before args s = true) → va_P z.1 classes (wv z ad E M) H → va_S A s.heap H locs → W p l e (rmK 2 63 0 0) s m args below meth c H locs 0 0 (MQ below (QK z A (fun _ => some (.int r)) (fun _ => wv z ad E N)) args s 0 0 A) (F0 m 0 ls []) := by
    intro H locs args hts hP hS
    unfold f_B_member at h
    refine lv_iload_n hx hb d_1_46_0 rfl (lv_at hl 1 rfl) ?_
    refine lv_iconst (v := 0) hx hb d_1_46_1 (by decide +kernel) ?_
    refine lv_sipush (v := 1000) hx hb d_1_46_2 (by decide +kernel) ?_
    obtain ⟨M0, g0, h⟩ := bd_e h
    refine kS (As := [.int x1, .int 0, .int 1000]) (rest := []) (s_B_needRange l z ad E M x1 0 1000 M0 hL g0) hx hb hml hown hts w_548 w_546 w_547 w_1 md_519134 ⟨Nat.le_of_ble_eq_true rfl, Nat.le_of_ble_eq_true rfl⟩ hG hZ hP hD hS hA rfl hl.1 rfl (Nat.le_of_ble_eq_true rfl) d_1_46_5 ⟨Nat.le_of_ble_eq_true rfl, Nat.le_of_ble_eq_true rfl⟩ (fun _ H locs hP hD hS => ?_)
    have hP : va_P z.1 classes (wv z ad E M0) H := hP
    have hD : va_D A (wv z ad E M0) := hD
    refine W.eq (g2 := F0 m 8 ls []) rfl ?_
    refine lv_aload_n hx hb d_1_46_8 rfl (lv_at hl 0 rfl) ?_
    refine m_gr (j := 243) (C := "Ballothall") (T := TX11) (N := 14) (ci := 11) (k := 6) hx hb hts iX11 hown hG hP (yi_1 hL) (yt_1 hL) rfl (by decide) w_403 (fun _ h9 => h9) rfl rfl (yr_1_6 hL) d_1_46_9 ?_
    refine m_giN (C := "Ballothall$Council") (T := TX1) (N := 4) (ci := 1) (k := 0) hx hb hts iX1 hown hG hP (yi_243 hL) (yt_243 hL) rfl (by decide) n_383 rfl (fun _ h9 => h9) rfl rfl d_1_46_12 ?_
    refine lv_iconst (v := 1) hx hb d_1_46_15 (by decide +kernel) ?_
    refine lv_iadd hx hb d_1_46_16 ?_
    refine lv_bipush (v := 12) hx hb d_1_46_17 (by decide +kernel) ?_
    obtain ⟨M1, g1, h⟩ := bd_e h
    refine kS (As := [.int ((M0.1 243 0) + (1 : Int32)), .int 12]) (rest := []) (s_B_needRoom l z ad E M0 ((M0.1 243 0) + (1 : Int32)) 12 M1 hL g1) hx hb hml hown hts w_446 w_444 w_445 w_1 md_ec9fa9 ⟨Nat.le_of_ble_eq_true rfl, Nat.le_of_ble_eq_true rfl⟩ hG hZ hP hD hS hA rfl hl.1 rfl (Nat.le_of_ble_eq_true rfl) d_1_46_19 ⟨Nat.le_of_ble_eq_true rfl, Nat.le_of_ble_eq_true rfl⟩ (fun _ H locs hP hD hS => ?_)
    have hP : va_P z.1 classes (wv z ad E M1) H := hP
    have hD : va_D A (wv z ad E M1) := hD
    refine W.eq (g2 := F0 m 22 ls []) rfl ?_
    refine lv_aload_n hx hb d_1_46_22 rfl (lv_at hl 0 rfl) ?_
    refine m_gr (j := 243) (C := "Ballothall") (T := TX11) (N := 14) (ci := 11) (k := 6) hx hb hts iX11 hown hG hP (yi_1 hL) (yt_1 hL) rfl (by decide) w_403 (fun _ h9 => h9) rfl rfl (yr_1_6 hL) d_1_46_23 ?_
    refine lv_iload_n hx hb d_1_46_26 rfl (lv_at hl 1 rfl) ?_
    obtain ⟨⟨r2, M2⟩, g2, h⟩ := bd_e h
    refine kVN (As := [.int x1]) (rest := []) (s_Cl_append l z ad E M1 x1 r2 M2 hL g2) hx hb hml hown hts w_1663 n_1660 w_1662 w_s_eb7ceb w_11 md_843631 ⟨Nat.le_of_ble_eq_true rfl, Nat.le_of_ble_eq_true rfl⟩ hG hZ hP hD hS hA 243 (wv_o (ci := 1) (yi_243 hL) (yt_243 hL)) rfl rfl rfl hl.1 rfl (Nat.le_of_ble_eq_true rfl) d_1_46_27 ⟨Nat.le_of_ble_eq_true rfl, Nat.le_of_ble_eq_true rfl⟩ (fun _ H locs hP hD hS => ?_)
    have hP : va_P z.1 classes (wv z ad E M2) H := hP
    have hD : va_D A (wv z ad E M2) := hD
    refine W.eq (g2 := F0 m 30 ls [.int r2]) rfl ?_
    refine lv_istore_n (lv' := [(2, .int r2), (0, .ref (ad 1)), (1, .int x1)]) hx hb d_1_46_30 rfl hl (by decide) rfl (fun ls hl => ?_)
    refine lv_aload_n hx hb d_1_46_31 rfl (lv_at hl 1 rfl) ?_
    refine lv_bipush (v := 11) hx hb d_1_46_32 (by decide +kernel) ?_
    refine lv_iload_n hx hb d_1_46_34 rfl (lv_at hl 0 rfl) ?_
    refine lv_iconst (v := 0) hx hb d_1_46_35 (by decide +kernel) ?_
    obtain ⟨M3, g3, h⟩ := bd_e h
    refine kV (As := [.int 11, .int r2, .int 0]) (rest := []) (s_B_remember l z ad E M2 11 r2 0 M3 hL g3) hx hb hml hown hts w_519 w_516 w_518 w_s_b872b3 w_1 md_7af0bb ⟨Nat.le_of_ble_eq_true rfl, Nat.le_of_ble_eq_true rfl⟩ hG hZ hP hD hS hA 1 (wv_o (ci := 11) (yi_1 hL) (yt_1 hL)) rfl rfl rfl hl.1 rfl (Nat.le_of_ble_eq_true rfl) d_1_46_36 ⟨Nat.le_of_ble_eq_true rfl, Nat.le_of_ble_eq_true rfl⟩ (fun _ H locs hP hD hS => ?_)
    have hP : va_P z.1 classes (wv z ad E M3) H := hP
    have hD : va_D A (wv z ad E M3) := hD
    refine W.eq (g2 := F0 m 39 ls []) rfl ?_
    refine lv_iload_n hx hb d_1_46_39 rfl (lv_at hl 0 rfl) ?_
    obtain ⟨rfl, rfl⟩ := in2 h
    exact W.iret hx hb hr (fun t ht hW => qkA hP hD hS (fun k => k) rfl rfl ht) hS.2.2 d_1_46_40
  exact key _ _ _ hts hP hS
set_option maxRecDepth 100000 in
set_option maxHeartbeats 4000000 in
theorem s_B_ordersTurned (l : Launch) (z : Zz) (ad : Nat → Nat) (E : Ev) (M : Mm) (x1 : Int32) (r : Int64) (N : Mm) (hL : Lay E) (h : f_B_ordersTurned E M x1 = some (r, N)) : CT l z ⟨"Ballothall", "ordersTurned", "(I)J"⟩ prog_1_method_49_code 2 (some .long) [.ref (ad 1), .int x1] (wv z ad E M) 3 88 0 0 (fun _ => some (.long r)) (fun _ => wv z ad E N) := by
  refine CT.of (own := "Ballothall") (by decide +kernel) (Nat.le_of_ble_eq_true rfl) rfl (fun p e s m below meth c A ls hx hb hml hr hts hown hlocks hin hA hG hZ hP hD hS hl => ?_)
  have hl : lv_has ls 2 [(0, .ref (ad 1)), (1, .int x1)] := hl
  have key : ∀ (H : Heap) (locs : List Loc) (args : Array Value), (∀ w ∈ WG, w.before args s = true) → va_P z.1 classes (wv z ad E M) H → va_S A s.heap H locs → W p l e (rmK 3 88 0 0) s m args below meth c H locs 0 0 (MQ below (QK z A (fun _ => some (.long r)) (fun _ => wv z ad E N)) args s 0 0 A) (F0 m 0 ls []) := by
    intro H locs args hts hP hS
    unfold f_B_ordersTurned at h
    refine lv_iload_n hx hb d_1_49_0 rfl (lv_at hl 1 rfl) ?_
    refine lv_aload_n hx hb d_1_49_1 rfl (lv_at hl 0 rfl) ?_
    refine m_gr (j := 243) (C := "Ballothall") (T := TX11) (N := 14) (ci := 11) (k := 6) hx hb hts iX11 hown hG hP (yi_1 hL) (yt_1 hL) rfl (by decide) w_403 (fun _ h9 => h9) rfl rfl (yr_1_6 hL) d_1_49_2 ?_
    refine m_giN (C := "Ballothall$Council") (T := TX1) (N := 4) (ci := 1) (k := 0) hx hb hts iX1 hown hG hP (yi_243 hL) (yt_243 hL) rfl (by decide) n_383 rfl (fun _ h9 => h9) rfl rfl d_1_49_5 ?_
    obtain ⟨M0, g0, h⟩ := bd_e h
    refine kS (As := [.int x1, .int (M.1 243 0)]) (rest := []) (s_B_needIndex l z ad E M x1 (M.1 243 0) M0 hL g0) hx hb hml hown hts w_529 w_527 w_528 w_1 md_6cb26b ⟨Nat.le_of_ble_eq_true rfl, Nat.le_of_ble_eq_true rfl⟩ hG hZ hP hD hS hA rfl hl.1 rfl (Nat.le_of_ble_eq_true rfl) d_1_49_8 ⟨Nat.le_of_ble_eq_true rfl, Nat.le_of_ble_eq_true rfl⟩ (fun _ H locs hP hD hS => ?_)
    have hP : va_P z.1 classes (wv z ad E M0) H := hP
    have hD : va_D A (wv z ad E M0) := hD
    refine W.eq (g2 := F0 m 11 ls []) rfl ?_
    refine lv_aload_n hx hb d_1_49_11 rfl (lv_at hl 0 rfl) ?_
    refine m_gr (j := 243) (C := "Ballothall") (T := TX11) (N := 14) (ci := 11) (k := 6) hx hb hts iX11 hown hG hP (yi_1 hL) (yt_1 hL) rfl (by decide) w_403 (fun _ h9 => h9) rfl rfl (yr_1_6 hL) d_1_49_12 ?_
    obtain ⟨M1, g1, h⟩ := bd_e h
    refine kVN (As := []) (rest := []) (s_Cl_findSums l z ad E M0 M1 hL g1) hx hb hml hown hts w_754 n_1672 w_753 w_s_13b3b8 w_11 md_bc486d ⟨Nat.le_of_ble_eq_true rfl, Nat.le_of_ble_eq_true rfl⟩ hG hZ hP hD hS hA 243 (wv_o (ci := 1) (yi_243 hL) (yt_243 hL)) rfl rfl rfl hl.1 rfl (Nat.le_of_ble_eq_true rfl) d_1_49_15 ⟨Nat.le_of_ble_eq_true rfl, Nat.le_of_ble_eq_true rfl⟩ (fun _ H locs hP hD hS => ?_)
    have hP : va_P z.1 classes (wv z ad E M1) H := hP
    have hD : va_D A (wv z ad E M1) := hD
    refine W.eq (g2 := F0 m 18 ls []) rfl ?_
    refine lv_aload_n hx hb d_1_49_18 rfl (lv_at hl 0 rfl) ?_
    refine m_gr (j := 243) (C := "Ballothall") (T := TX11) (N := 14) (ci := 11) (k := 6) hx hb hts iX11 hown hG hP (yi_1 hL) (yt_1 hL) rfl (by decide) w_403 (fun _ h9 => h9) rfl rfl (yr_1_6 hL) d_1_49_19 ?_
    refine lv_iload_n hx hb d_1_49_22 rfl (lv_at hl 1 rfl) ?_
    obtain ⟨⟨r2, M2⟩, g2, h⟩ := bd_e h
    refine kVN (As := [.int x1]) (rest := []) (s_Cl_ordersTurnedBy l z ad E M1 x1 r2 M2 hL g2) hx hb hml hown hts w_758 n_1673 w_757 w_s_b6ce20 w_11 md_27e5a0 ⟨Nat.le_of_ble_eq_true rfl, Nat.le_of_ble_eq_true rfl⟩ hG hZ hP hD hS hA 243 (wv_o (ci := 1) (yi_243 hL) (yt_243 hL)) rfl rfl rfl hl.1 rfl (Nat.le_of_ble_eq_true rfl) d_1_49_23 ⟨Nat.le_of_ble_eq_true rfl, Nat.le_of_ble_eq_true rfl⟩ (fun _ H locs hP hD hS => ?_)
    have hP : va_P z.1 classes (wv z ad E M2) H := hP
    have hD : va_D A (wv z ad E M2) := hD
    refine W.eq (g2 := F0 m 26 ls [.long r2]) rfl ?_
    obtain ⟨rfl, rfl⟩ := in2 h
    exact W.lret hx hb hr (fun t ht hW => qkA hP hD hS (fun k => k) rfl rfl ht) hS.2.2 d_1_49_26
  exact key _ _ _ hts hP hS
set_option maxRecDepth 100000 in
set_option maxHeartbeats 4000000 in
theorem s_B_outputByte (l : Launch) (z : Zz) (ad : Nat → Nat) (E : Ev) (M : Mm) (x1 : Int32) (r : Int32) (N : Mm) (hL : Lay E) (h : f_B_outputByte E M x1 = some (r, N)) : CT l z ⟨"Ballothall", "outputByte", "(I)I"⟩ prog_1_method_23_code 2 (some .int) [.ref (ad 1), .int x1] (wv z ad E M) 0 20 0 0 (fun _ => some (.int r)) (fun _ => wv z ad E N) := by
  refine CT.of (own := "Ballothall") (by decide +kernel) (Nat.le_of_ble_eq_true rfl) rfl (fun p e s m below meth c A ls hx hb hml hr hts hown hlocks hin hA hG hZ hP hD hS hl => ?_)
  have hl : lv_has ls 2 [(0, .ref (ad 1)), (1, .int x1)] := hl
  have key : ∀ (H : Heap) (locs : List Loc) (args : Array Value), (∀ w ∈ WG, w.before args s = true) → va_P z.1 classes (wv z ad E M) H → va_S A s.heap H locs → W p l e (rmK 0 20 0 0) s m args below meth c H locs 0 0 (MQ below (QK z A (fun _ => some (.int r)) (fun _ => wv z ad E N)) args s 0 0 A) (F0 m 0 ls []) := by
    intro H locs args hts hP hS
    unfold f_B_outputByte at h
    refine lv_iload_n hx hb d_1_23_0 rfl (lv_at hl 1 rfl) ?_
    refine lv_if_lt (tgt := 12) hx hb d_1_23_1 (by decide) (fun c9 => ?_) (fun c9 => ?_)
    · have h := ite_t c9 h
      refine lv_iconst (v := (-1)) hx hb d_1_23_12 (by decide +kernel) ?_
      refine lv_goto (tgt := 22) hx hb d_1_23_13 (by decide) ?_
      obtain ⟨rfl, rfl⟩ := in2 h
      exact W.iret hx hb hr (fun t ht hW => qkA hP hD hS (fun k => k) rfl rfl ht) hS.2.2 d_1_23_22
    · have h := ite_f c9 h
      refine lv_iload_n hx hb d_1_23_4 rfl (lv_at hl 1 rfl) ?_
      refine lv_aload_n hx hb d_1_23_5 rfl (lv_at hl 0 rfl) ?_
      refine m_gi (C := "Ballothall") (T := TX11) (N := 14) (ci := 11) (k := 13) hx hb hts iX11 hown hG hP (yi_1 hL) (yt_1 hL) rfl (by decide) w_410 (fun _ h9 => h9) rfl rfl d_1_23_6 ?_
      refine lv_icmp_lt (tgt := 16) hx hb d_1_23_9 (by decide) (fun c9 => ?_) (fun c9 => ?_)
      · have h := ite_t c9 h
        refine lv_aload_n hx hb d_1_23_16 rfl (lv_at hl 0 rfl) ?_
        refine m_gr (j := 249) (C := "Ballothall") (T := TX11) (N := 14) (ci := 11) (k := 12) hx hb hts iX11 hown hG hP (yi_1 hL) (yt_1 hL) rfl (by decide) w_409 (fun _ h9 => h9) rfl rfl (yr_1_12 hL) d_1_23_17 ?_
        refine lv_iload_n hx hb d_1_23_20 rfl (lv_at hl 1 rfl) ?_
        obtain ⟨ok0, h⟩ := ck_e h
        refine m_ia hx hb hG hP (yi_249 hL) (yt_249 hL) ok0 d_1_23_21 ?_
        obtain ⟨rfl, rfl⟩ := in2 h
        exact W.iret hx hb hr (fun t ht hW => qkA hP hD hS (fun k => k) rfl rfl ht) hS.2.2 d_1_23_22
      · have h := ite_f c9 h
        refine lv_iconst (v := (-1)) hx hb d_1_23_12 (by decide +kernel) ?_
        refine lv_goto (tgt := 22) hx hb d_1_23_13 (by decide) ?_
        obtain ⟨rfl, rfl⟩ := in2 h
        exact W.iret hx hb hr (fun t ht hW => qkA hP hD hS (fun k => k) rfl rfl ht) hS.2.2 d_1_23_22
  exact key _ _ _ hts hP hS
set_option maxRecDepth 100000 in
set_option maxHeartbeats 4000000 in
theorem s_B_pathWinners (l : Launch) (z : Zz) (ad : Nat → Nat) (E : Ev) (M : Mm) (r : Int32) (N : Mm) (hL : Lay E) (h : f_B_pathWinners E M = some (r, N)) : CT l z ⟨"Ballothall", "pathWinners", "()I"⟩ prog_1_method_28_code 1 (some .int) [.ref (ad 1)] (wv z ad E M) 4 115 0 0 (fun _ => some (.int r)) (fun _ => wv z ad E N) := by
  refine CT.of (own := "Ballothall") (by decide +kernel) (Nat.le_of_ble_eq_true rfl) rfl (fun p e s m below meth c A ls hx hb hml hr hts hown hlocks hin hA hG hZ hP hD hS hl => ?_)
  have hl : lv_has ls 1 [(0, .ref (ad 1))] := hl
  have key : ∀ (H : Heap) (locs : List Loc) (args : Array Value), (∀ w ∈ WG, w.before args s = true) → va_P z.1 classes (wv z ad E M) H → va_S A s.heap H locs → W p l e (rmK 4 115 0 0) s m args below meth c H locs 0 0 (MQ below (QK z A (fun _ => some (.int r)) (fun _ => wv z ad E N)) args s 0 0 A) (F0 m 0 ls []) := by
    intro H locs args hts hP hS
    unfold f_B_pathWinners at h
    refine lv_aload_n hx hb d_1_28_0 rfl (lv_at hl 0 rfl) ?_
    refine m_gr (j := 41) (C := "Ballothall") (T := TX11) (N := 14) (ci := 11) (k := 1) hx hb hts iX11 hown hG hP (yi_1 hL) (yt_1 hL) rfl (by decide) w_398 (fun _ h9 => h9) rfl rfl (yr_1_1 hL) d_1_28_1 ?_
    refine lv_aload_n hx hb d_1_28_4 rfl (lv_at hl 0 rfl) ?_
    refine m_gr (j := 2) (C := "Ballothall") (T := TX11) (N := 14) (ci := 11) (k := 0) hx hb hts iX11 hown hG hP (yi_1 hL) (yt_1 hL) rfl (by decide) w_397 (fun _ h9 => h9) rfl rfl (yr_1_0 hL) d_1_28_5 ?_
    obtain ⟨⟨r0, M0⟩, g0, h⟩ := bd_e h
    refine kVN (As := []) (rest := [.ref (ad 41)]) (s_Bx_everybody l z ad E M r0 M0 hL g0) hx hb hml hown hts w_668 n_665 w_667 w_s_8b8b67 w_2 md_b59579 ⟨Nat.le_of_ble_eq_true rfl, Nat.le_of_ble_eq_true rfl⟩ hG hZ hP hD hS hA 2 (wv_o (ci := 0) (yi_2 hL) (yt_2 hL)) rfl rfl rfl hl.1 rfl (Nat.le_of_ble_eq_true rfl) d_1_28_8 ⟨Nat.le_of_ble_eq_true rfl, Nat.le_of_ble_eq_true rfl⟩ (fun _ H locs hP hD hS => ?_)
    have hP : va_P z.1 classes (wv z ad E M0) H := hP
    have hD : va_D A (wv z ad E M0) := hD
    refine W.eq (g2 := F0 m 11 ls [.int r0, .ref (ad 41)]) rfl ?_
    obtain ⟨M1, g1, h⟩ := bd_e h
    refine kVN (As := [.int r0]) (rest := []) (s_Po_open l z ad E M0 r0 M1 hL g1) hx hb hml hown hts w_672 n_669 w_671 w_s_229dc4 w_3 md_60bc9b ⟨Nat.le_of_ble_eq_true rfl, Nat.le_of_ble_eq_true rfl⟩ hG hZ hP hD hS hA 41 (wv_o (ci := 9) (yi_41 hL) (yt_41 hL)) rfl rfl rfl hl.1 rfl (Nat.le_of_ble_eq_true rfl) d_1_28_11 ⟨Nat.le_of_ble_eq_true rfl, Nat.le_of_ble_eq_true rfl⟩ (fun _ H locs hP hD hS => ?_)
    have hP : va_P z.1 classes (wv z ad E M1) H := hP
    have hD : va_D A (wv z ad E M1) := hD
    refine W.eq (g2 := F0 m 14 ls []) rfl ?_
    refine lv_aload_n hx hb d_1_28_14 rfl (lv_at hl 0 rfl) ?_
    refine m_gr (j := 41) (C := "Ballothall") (T := TX11) (N := 14) (ci := 11) (k := 1) hx hb hts iX11 hown hG hP (yi_1 hL) (yt_1 hL) rfl (by decide) w_398 (fun _ h9 => h9) rfl rfl (yr_1_1 hL) d_1_28_15 ?_
    obtain ⟨⟨r2, M2⟩, g2, h⟩ := bd_e h
    refine kVN (As := []) (rest := []) (s_Po_winnersByPaths l z ad E M1 r2 M2 hL g2) hx hb hml hown hts w_725 n_722 w_724 w_s_87a59c w_3 md_114b2c ⟨Nat.le_of_ble_eq_true rfl, Nat.le_of_ble_eq_true rfl⟩ hG hZ hP hD hS hA 41 (wv_o (ci := 9) (yi_41 hL) (yt_41 hL)) rfl rfl rfl hl.1 rfl (Nat.le_of_ble_eq_true rfl) d_1_28_18 ⟨Nat.le_of_ble_eq_true rfl, Nat.le_of_ble_eq_true rfl⟩ (fun _ H locs hP hD hS => ?_)
    have hP : va_P z.1 classes (wv z ad E M2) H := hP
    have hD : va_D A (wv z ad E M2) := hD
    refine W.eq (g2 := F0 m 21 ls [.int r2]) rfl ?_
    obtain ⟨rfl, rfl⟩ := in2 h
    exact W.iret hx hb hr (fun t ht hW => qkA hP hD hS (fun k => k) rfl rfl ht) hS.2.2 d_1_28_21
  exact key _ _ _ hts hP hS
set_option maxRecDepth 100000 in
set_option maxHeartbeats 4000000 in
theorem s_B_quota (l : Launch) (z : Zz) (ad : Nat → Nat) (E : Ev) (M : Mm) (r : Int32) (N : Mm) (hL : Lay E) (h : f_B_quota E M = some (r, N)) : CT l z ⟨"Ballothall", "quota", "()I"⟩ prog_1_method_18_code 2 (some .int) [.ref (ad 1)] (wv z ad E M) 1 40 0 0 (fun _ => some (.int r)) (fun _ => wv z ad E N) := by
  refine CT.of (own := "Ballothall") (by decide +kernel) (Nat.le_of_ble_eq_true rfl) rfl (fun p e s m below meth c A ls hx hb hml hr hts hown hlocks hin hA hG hZ hP hD hS hl => ?_)
  have hl : lv_has ls 2 [(0, .ref (ad 1))] := hl
  have key : ∀ (H : Heap) (locs : List Loc) (args : Array Value), (∀ w ∈ WG, w.before args s = true) → va_P z.1 classes (wv z ad E M) H → va_S A s.heap H locs → W p l e (rmK 1 40 0 0) s m args below meth c H locs 0 0 (MQ below (QK z A (fun _ => some (.int r)) (fun _ => wv z ad E N)) args s 0 0 A) (F0 m 0 ls []) := by
    intro H locs args hts hP hS
    unfold f_B_quota at h
    refine lv_aload_n hx hb d_1_18_0 rfl (lv_at hl 0 rfl) ?_
    refine m_gr (j := 179) (C := "Ballothall") (T := TX11) (N := 14) (ci := 11) (k := 4) hx hb hts iX11 hown hG hP (yi_1 hL) (yt_1 hL) rfl (by decide) w_401 (fun _ h9 => h9) rfl rfl (yr_1_4 hL) d_1_18_1 ?_
    obtain ⟨⟨r0, M0⟩, g0, h⟩ := bd_e h
    refine kVN (As := []) (rest := []) (s_Co_latest l z ad E M r0 M0 hL g0) hx hb hml hown hts w_596 n_593 w_595 w_s_ad1675 w_8 md_6f7cc1 ⟨Nat.le_of_ble_eq_true rfl, Nat.le_of_ble_eq_true rfl⟩ hG hZ hP hD hS hA 179 (wv_o (ci := 3) (yi_179 hL) (yt_179 hL)) rfl rfl rfl hl.1 rfl (Nat.le_of_ble_eq_true rfl) d_1_18_4 ⟨Nat.le_of_ble_eq_true rfl, Nat.le_of_ble_eq_true rfl⟩ (fun _ H locs hP hD hS => ?_)
    have hP : va_P z.1 classes (wv z ad E M0) H := hP
    have hD : va_D A (wv z ad E M0) := hD
    cases r0 with
    | none =>
      refine W.eq (g2 := F0 m 7 ls [.null]) rfl ?_
      refine lv_astore_nN (lv' := [(1, .null), (0, .ref (ad 1))]) hx hb d_1_18_7 rfl hl (by decide) rfl (fun ls hl => ?_)
      refine lv_aload_nN hx hb d_1_18_8 rfl (lv_at hl 0 rfl) ?_
      refine lv_ifnonnullN hx hb d_1_18_9 ?_
      refine lv_iconst (v := (-1)) hx hb d_1_18_12 (by decide +kernel) ?_
      refine lv_goto (tgt := 20) hx hb d_1_18_13 (by decide) ?_
      obtain ⟨rfl, rfl⟩ := in2 h
      exact W.iret hx hb hr (fun t ht hW => qkA hP hD hS (fun k => k) rfl rfl ht) hS.2.2 d_1_18_20
    | some p0 =>
      obtain ⟨h_p0, h⟩ := ck_e h
      refine W.eq (g2 := F0 m 7 ls [.ref (ad p0)]) rfl ?_
      refine lv_astore_n (lv' := [(1, .ref (ad p0)), (0, .ref (ad 1))]) hx hb d_1_18_7 rfl hl (by decide) rfl (fun ls hl => ?_)
      refine lv_aload_n hx hb d_1_18_8 rfl (lv_at hl 0 rfl) ?_
      refine lv_ifnonnull (tgt := 16) hx hb d_1_18_9 (by decide) ?_
      refine lv_aload_n hx hb d_1_18_16 rfl (lv_at hl 0 rfl) ?_
      refine m_giN (C := "Ballothall$Count") (T := TX2) (N := 10) (ci := 2) (k := 0) hx hb hts iX2 hown hG hP (isCt_i h_p0) (isCt_T h_p0) rfl (by decide) n_1080 rfl (fun _ h9 => h9) rfl rfl d_1_18_17 ?_
      obtain ⟨rfl, rfl⟩ := in2 h
      exact W.iret hx hb hr (fun t ht hW => qkA hP hD hS (fun k => k) rfl rfl ht) hS.2.2 d_1_18_20
  exact key _ _ _ hts hP hS
set_option maxRecDepth 100000 in
set_option maxHeartbeats 4000000 in
theorem b_B_seatAt_j24 (l : Launch) (z : Zz) (ad : Nat → Nat) (E : Ev) (M : Mm) (x1 : Int32) (q2 : Nat) (y0 : Int32) (y1 : Int32) (r : Int32) (N : Mm) {p : Program} {e : Env} {s : State} {m : MethodId} {below : List Frame} {meth : Method} {c : Code} {A : Nat → Prop} {args : Array Value} (hx : p.tables.exec = Jvm.exec) (hb : c.code = prog_1_method_15_code) (hml : c.maxLocals = 3) (hts : ∀ w ∈ WG, w.before args s = true) (hown : s.vm.findClass "Ballothall" = some m.cls) (hlocks : meth.locks = false) (hA : ∀ q, s.heap.size ≤ q → A q) (hG : KG z s) (hZ : FZ z A s) (hL : Lay E) (hr : meth.sig.returnType = (some .int)) (h : B_seatAt_j24 E M x1 q2 y0 y1 = some (r, N)) : ∀ (H : Heap) (locs : List Loc) (ls : Array Slot), va_P z.1 classes (wv z ad E M) H → va_D A (wv z ad E M) → va_S A s.heap H locs → lv_has ls 3 [(1, .int x1), (2, .ref (ad q2))] → W p l e (rmK 1 41 0 0) s m args below meth c H locs 0 0 (MQ below (QK z A (fun _ => some (.int r)) (fun _ => wv z ad E N)) args s 0 0 A) (F0 m 24 ls [.int y0, .int y1]) := by
  intro H locs ls hP hD hS hl
  unfold B_seatAt_j24 at h
  obtain ⟨h_q2, h⟩ := ck_e h
  obtain ⟨M1, g1, h⟩ := bd_e h
  refine kS (As := [.int y1, .int y0]) (rest := []) (s_B_needPlace l z ad E M y1 y0 M1 hL g1) hx hb hml hown hts w_1343 w_1341 w_1342 w_1 md_541664 ⟨Nat.le_of_ble_eq_true rfl, Nat.le_of_ble_eq_true rfl⟩ hG hZ hP hD hS hA rfl hl.1 rfl (Nat.le_of_ble_eq_true rfl) d_1_15_24 ⟨Nat.le_of_ble_eq_true rfl, Nat.le_of_ble_eq_true rfl⟩ (fun _ H locs hP hD hS => ?_)
  have hP : va_P z.1 classes (wv z ad E M1) H := hP
  have hD : va_D A (wv z ad E M1) := hD
  refine W.eq (g2 := F0 m 27 ls []) rfl ?_
  refine lv_aload_n hx hb d_1_15_27 rfl (lv_at hl 1 rfl) ?_
  refine m_grN (j := (q2 + 1)) (C := "Ballothall$KeptSeats") (T := TX6) (N := 7) (ci := 6) (k := 3) hx hb hts iX6 hown hG hP (isKs_i h_q2) (isKs_T h_q2) rfl (by decide) n_219 rfl (fun _ h9 => h9) rfl rfl (isKs_r3 h_q2) d_1_15_28 ?_
  refine lv_iload_n hx hb d_1_15_31 rfl (lv_at hl 0 rfl) ?_
  obtain ⟨ok2, h⟩ := ck_e h
  refine m_ia hx hb hG hP (isKs_i1 h_q2) (isKs_t1 h_q2) ok2 d_1_15_32 ?_
  obtain ⟨rfl, rfl⟩ := in2 h
  exact W.iret hx hb hr (fun t ht hW => qkA hP hD hS (fun k => k) rfl rfl ht) hS.2.2 d_1_15_33
set_option maxRecDepth 100000 in
set_option maxHeartbeats 4000000 in
theorem s_B_seatAt (l : Launch) (z : Zz) (ad : Nat → Nat) (E : Ev) (M : Mm) (x1 : Int32) (r : Int32) (N : Mm) (hL : Lay E) (h : f_B_seatAt E M x1 = some (r, N)) : CT l z ⟨"Ballothall", "seatAt", "(I)I"⟩ prog_1_method_15_code 3 (some .int) [.ref (ad 1), .int x1] (wv z ad E M) 1 41 0 0 (fun _ => some (.int r)) (fun _ => wv z ad E N) := by
  refine CT.of (own := "Ballothall") (by decide +kernel) (Nat.le_of_ble_eq_true rfl) rfl (fun p e s m below meth c A ls hx hb hml hr hts hown hlocks hin hA hG hZ hP hD hS hl => ?_)
  have hl : lv_has ls 3 [(0, .ref (ad 1)), (1, .int x1)] := hl
  have key : ∀ (H : Heap) (locs : List Loc) (args : Array Value), (∀ w ∈ WG, w.before args s = true) → va_P z.1 classes (wv z ad E M) H → va_S A s.heap H locs → W p l e (rmK 1 41 0 0) s m args below meth c H locs 0 0 (MQ below (QK z A (fun _ => some (.int r)) (fun _ => wv z ad E N)) args s 0 0 A) (F0 m 0 ls []) := by
    intro H locs args hts hP hS
    unfold f_B_seatAt at h
    refine lv_aload_n hx hb d_1_15_0 rfl (lv_at hl 0 rfl) ?_
    refine m_gr (j := 53) (C := "Ballothall") (T := TX11) (N := 14) (ci := 11) (k := 3) hx hb hts iX11 hown hG hP (yi_1 hL) (yt_1 hL) rfl (by decide) w_400 (fun _ h9 => h9) rfl rfl (yr_1_3 hL) d_1_15_1 ?_
    obtain ⟨⟨r0, M0⟩, g0, h⟩ := bd_e h
    refine kVN (As := []) (rest := []) (s_Li_latest l z ad E M r0 M0 hL g0) hx hb hml hown hts w_584 n_1591 w_583 w_s_46c41a w_5 md_cb0049 ⟨Nat.le_of_ble_eq_true rfl, Nat.le_of_ble_eq_true rfl⟩ hG hZ hP hD hS hA 53 (wv_o (ci := 7) (yi_53 hL) (yt_53 hL)) rfl rfl rfl hl.1 rfl (Nat.le_of_ble_eq_true rfl) d_1_15_4 ⟨Nat.le_of_ble_eq_true rfl, Nat.le_of_ble_eq_true rfl⟩ (fun _ H locs hP hD hS => ?_)
    have hP : va_P z.1 classes (wv z ad E M0) H := hP
    have hD : va_D A (wv z ad E M0) := hD
    obtain ⟨h_r0, h⟩ := ck_e h
    refine W.eq (g2 := F0 m 7 ls [.ref (ad r0)]) rfl ?_
    refine lv_astore_n (lv' := [(2, .ref (ad r0)), (0, .ref (ad 1)), (1, .int x1)]) hx hb d_1_15_7 rfl hl (by decide) rfl (fun ls hl => ?_)
    refine lv_iload_n hx hb d_1_15_8 rfl (lv_at hl 2 rfl) ?_
    refine lv_aload_n hx hb d_1_15_9 rfl (lv_at hl 0 rfl) ?_
    refine m_giN (C := "Ballothall$KeptSeats") (T := TX6) (N := 7) (ci := 6) (k := 1) hx hb hts iX6 hown hG hP (isKs_i h_r0) (isKs_T h_r0) rfl (by decide) n_215 rfl (fun _ h9 => h9) rfl rfl d_1_15_10 ?_
    refine lv_if_eq (tgt := 20) hx hb d_1_15_13 (by decide) (fun c9 => ?_) (fun c9 => ?_)
    · have h := ite_t c9 h
      refine lv_aload_n hx hb d_1_15_20 rfl (lv_at hl 0 rfl) ?_
      refine m_giN (C := "Ballothall$KeptSeats") (T := TX6) (N := 7) (ci := 6) (k := 0) hx hb hts iX6 hown hG hP (isKs_i h_r0) (isKs_T h_r0) rfl (by decide) n_213 rfl (fun _ h9 => h9) rfl rfl d_1_15_21 ?_
      exact b_B_seatAt_j24 l z ad E M0 x1 r0 (M0.1 r0 0) x1 r N hx hb hml hts hown hlocks hA hG hZ hL hr h H locs ls hP hD hS (lv_sub hl [2, 0] rfl)
    · have h := ite_f c9 h
      refine lv_iconst (v := 0) hx hb d_1_15_16 (by decide +kernel) ?_
      refine lv_goto (tgt := 24) hx hb d_1_15_17 (by decide) ?_
      exact b_B_seatAt_j24 l z ad E M0 x1 r0 0 x1 r N hx hb hml hts hown hlocks hA hG hZ hL hr h H locs ls hP hD hS (lv_sub hl [2, 0] rfl)
  exact key _ _ _ hts hP hS
set_option maxRecDepth 100000 in
set_option maxHeartbeats 4000000 in
theorem s_Di_clear (l : Launch) (z : Zz) (ad : Nat → Nat) (E : Ev) (M : Mm) (p0 : Nat) (N : Mm) (hL : Lay E) (h : f_Di_clear E M p0 = some N) : CT l z ⟨"Ballothall$Division", "clear", "()V"⟩ prog_6_method_2_code 1 none [.ref (ad p0)] (wv z ad E M) 0 20 0 0 (fun _ => none) (fun _ => wv z ad E N) := by
  refine CT.of (own := "Ballothall$Division") (by decide +kernel) (Nat.le_of_ble_eq_true rfl) rfl (fun p e s m below meth c A ls hx hb hml hr hts hown hlocks hin hA hG hZ hP hD hS hl => ?_)
  have hl : lv_has ls 1 [(0, .ref (ad p0))] := hl
  have key : ∀ (H : Heap) (locs : List Loc) (args : Array Value), (∀ w ∈ WG, w.before args s = true) → va_P z.1 classes (wv z ad E M) H → va_S A s.heap H locs → W p l e (rmK 0 20 0 0) s m args below meth c H locs 0 0 (MQ below (QK z A (fun _ => none) (fun _ => wv z ad E N)) args s 0 0 A) (F0 m 0 ls []) := by
    intro H locs args hts hP hS
    unfold f_Di_clear at h
    obtain ⟨h_p0, h⟩ := ck_e h
    refine lv_aload_n hx hb d_6_2_0 rfl (lv_at hl 0 rfl) ?_
    refine lv_iconst (v := 0) hx hb d_6_2_1 (by decide +kernel) ?_
    refine m_pi (C := "Ballothall$Division") (T := TX4) (N := 8) (ci := 4) (k := 0) (ty := .int) hx hb hts iX4 hown hG hP hD hS (isDi_i h_p0) (isDi_T h_p0) rfl (by decide) w_175 (fun _ h9 => h9) rfl rfl tyX4_ok nmX4 rfl (by decide +kernel) rfl rfl d_6_2_2 (fun H locs hP hD hS => ?_)
    have hP : va_P z.1 classes (wv z ad E (u2 M p0 0 0)) H := hP
    have hD : va_D A (wv z ad E (u2 M p0 0 0)) := hD
    refine lv_aload_n hx hb d_6_2_5 rfl (lv_at hl 0 rfl) ?_
    refine lv_iconst (v := 0) hx hb d_6_2_6 (by decide +kernel) ?_
    refine m_pi (C := "Ballothall$Division") (T := TX4) (N := 8) (ci := 4) (k := 1) (ty := .int) hx hb hts iX4 hown hG hP hD hS (isDi_i h_p0) (isDi_T h_p0) rfl (by decide) w_177 (fun _ h9 => h9) rfl rfl tyX4_ok nmX4 rfl (by decide +kernel) rfl rfl d_6_2_7 (fun H locs hP hD hS => ?_)
    have hP : va_P z.1 classes (wv z ad E (u2 (u2 M p0 0 0) p0 1 0)) H := hP
    have hD : va_D A (wv z ad E (u2 (u2 M p0 0 0) p0 1 0)) := hD
    obtain rfl := in1 h
    exact W.vret hx hb hr (fun t ht hW => qkA hP hD hS (fun k => k) rfl rfl ht) hS.2.2 d_6_2_10
  exact key _ _ _ hts hP hS
set_option maxRecDepth 100000 in
set_option maxHeartbeats 4000000 in
theorem s_Li_isSameUnit (l : Launch) (z : Zz) (ad : Nat → Nat) (E : Ev) (M : Mm) (x1 : Int32) (x2 : Int32) (r : Int32) (N : Mm) (hL : Lay E) (h : f_Li_isSameUnit E M x1 x2 = some (r, N)) : CT l z ⟨"Ballothall$Lists", "isSameUnit", "(II)Z"⟩ prog_9_method_4_code 3 (some .boolean) [.ref (ad 53), .int x1, .int x2] (wv z ad E M) 0 20 0 0 (fun _ => some (.int r)) (fun _ => wv z ad E N) := by
  refine CT.of (own := "Ballothall$Lists") (by decide +kernel) (Nat.le_of_ble_eq_true rfl) rfl (fun p e s m below meth c A ls hx hb hml hr hts hown hlocks hin hA hG hZ hP hD hS hl => ?_)
  have hl : lv_has ls 3 [(0, .ref (ad 53)), (1, .int x1), (2, .int x2)] := hl
  have key : ∀ (H : Heap) (locs : List Loc) (args : Array Value), (∀ w ∈ WG, w.before args s = true) → va_P z.1 classes (wv z ad E M) H → va_S A s.heap H locs → W p l e (rmK 0 20 0 0) s m args below meth c H locs 0 0 (MQ below (QK z A (fun _ => some (.int r)) (fun _ => wv z ad E N)) args s 0 0 A) (F0 m 0 ls []) := by
    intro H locs args hts hP hS
    unfold f_Li_isSameUnit at h
    refine lv_iload_n hx hb d_9_4_0 rfl (lv_at hl 1 rfl) ?_
    refine lv_iload_n hx hb d_9_4_1 rfl (lv_at hl 2 rfl) ?_
    refine lv_icmp_eq (tgt := 29) hx hb d_9_4_2 (by decide) (fun c9 => ?_) (fun c9 => ?_)
    · have h := ite_t c9 h
      refine lv_iconst (v := 1) hx hb d_9_4_29 (by decide +kernel) ?_
      refine lv_goto (tgt := 34) hx hb d_9_4_30 (by decide) ?_
      obtain ⟨rfl, rfl⟩ := in2 h
      exact W.zret hx hb hr rfl (fun t ht hW => qkA hP hD hS (fun k => k) rfl rfl ht) hS.2.2 d_9_4_34
    · have h := ite_f c9 h
      refine lv_aload_n hx hb d_9_4_5 rfl (lv_at hl 0 rfl) ?_
      refine m_gr (j := 55) (C := "Ballothall$Lists") (T := TX7) (N := 11) (ci := 7) (k := 2) hx hb hts iX7 hown hG hP (yi_53 hL) (yt_53 hL) rfl (by decide) w_245 (fun _ h9 => h9) rfl rfl (yr_53_2 hL) d_9_4_6 ?_
      refine lv_iload_n hx hb d_9_4_9 rfl (lv_at hl 1 rfl) ?_
      obtain ⟨ok0, h⟩ := ck_e h
      refine m_ia hx hb hG hP (yi_55 hL) (yt_55 hL) ok0 d_9_4_10 ?_
      refine lv_if_le (tgt := 33) hx hb d_9_4_11 (by decide) (fun c9 => ?_) (fun c9 => ?_)
      · have h := ite_t c9 h
        refine lv_iconst (v := 0) hx hb d_9_4_33 (by decide +kernel) ?_
        obtain ⟨rfl, rfl⟩ := in2 h
        exact W.zret hx hb hr rfl (fun t ht hW => qkA hP hD hS (fun k => k) rfl rfl ht) hS.2.2 d_9_4_34
      · have h := ite_f c9 h
        refine lv_aload_n hx hb d_9_4_14 rfl (lv_at hl 0 rfl) ?_
        refine m_gr (j := 55) (C := "Ballothall$Lists") (T := TX7) (N := 11) (ci := 7) (k := 2) hx hb hts iX7 hown hG hP (yi_53 hL) (yt_53 hL) rfl (by decide) w_245 (fun _ h9 => h9) rfl rfl (yr_53_2 hL) d_9_4_15 ?_
        refine lv_iload_n hx hb d_9_4_18 rfl (lv_at hl 1 rfl) ?_
        obtain ⟨ok1, h⟩ := ck_e h
        refine m_ia hx hb hG hP (yi_55 hL) (yt_55 hL) ok1 d_9_4_19 ?_
        refine lv_aload_n hx hb d_9_4_20 rfl (lv_at hl 0 rfl) ?_
        refine m_gr (j := 55) (C := "Ballothall$Lists") (T := TX7) (N := 11) (ci := 7) (k := 2) hx hb hts iX7 hown hG hP (yi_53 hL) (yt_53 hL) rfl (by decide) w_245 (fun _ h9 => h9) rfl rfl (yr_53_2 hL) d_9_4_21 ?_
        refine lv_iload_n hx hb d_9_4_24 rfl (lv_at hl 2 rfl) ?_
        obtain ⟨ok2, h⟩ := ck_e h
        refine m_ia hx hb hG hP (yi_55 hL) (yt_55 hL) ok2 d_9_4_25 ?_
        refine lv_icmp_ne (tgt := 33) hx hb d_9_4_26 (by decide) (fun c9 => ?_) (fun c9 => ?_)
        · have h := ite_f c9 h
          refine lv_iconst (v := 0) hx hb d_9_4_33 (by decide +kernel) ?_
          obtain ⟨rfl, rfl⟩ := in2 h
          exact W.zret hx hb hr rfl (fun t ht hW => qkA hP hD hS (fun k => k) rfl rfl ht) hS.2.2 d_9_4_34
        · have h := ite_t c9 h
          refine lv_iconst (v := 1) hx hb d_9_4_29 (by decide +kernel) ?_
          refine lv_goto (tgt := 34) hx hb d_9_4_30 (by decide) ?_
          obtain ⟨rfl, rfl⟩ := in2 h
          exact W.zret hx hb hr rfl (fun t ht hW => qkA hP hD hS (fun k => k) rfl rfl ht) hS.2.2 d_9_4_34
  exact key _ _ _ hts hP hS
set_option maxRecDepth 100000 in
set_option maxHeartbeats 4000000 in
theorem b_Li_isFirstOfUnit_2b (l : Launch) (z : Zz) (ad : Nat → Nat) (E : Ev) (M : Mm) (x1 : Int32) (x2 : Int32) (t : Nat) (w2 : Int32) (N : Mm) {Q : State → Prop} {p : Program} {e : Env} {s : State} {m : MethodId} {below : List Frame} {meth : Method} {c : Code} {A : Nat → Prop} {args : Array Value} (hx : p.tables.exec = Jvm.exec) (hb : c.code = prog_9_method_6_code) (hml : c.maxLocals = 3) (hts : ∀ w ∈ WG, w.before args s = true) (hown : s.vm.findClass "Ballothall$Lists" = some m.cls) (hlocks : meth.locks = false) (hA : ∀ q, s.heap.size ≤ q → A q) (hG : KG z s) (hZ : FZ z A s) (hL : Lay E) (h : Li_isFirstOfUnit_2b E M x1 x2 = some (t, w2, N)) (k0 : t = 0 → ∀ (H : Heap) (locs : List Loc) (ls : Array Slot), va_P z.1 classes (wv z ad E N) H → va_D A (wv z ad E N) → va_S A s.heap H locs → lv_has ls 3 [(0, .ref (ad 53)), (1, .int x1), (2, .int w2)] → W p l e (rmK 1 42 0 0) s m args below meth c H locs 0 0 Q (F0 m 2 ls [])) (k1 : t = 1 → ∀ (H : Heap) (locs : List Loc) (ls : Array Slot), va_P z.1 classes (wv z ad E N) H → va_D A (wv z ad E N) → va_S A s.heap H locs → lv_has ls 3 [] → W p l e (rmK 1 42 0 0) s m args below meth c H locs 0 0 Q (F0 m 16 ls [])) (k2 : t = 2 → ∀ (H : Heap) (locs : List Loc) (ls : Array Slot), va_P z.1 classes (wv z ad E N) H → va_D A (wv z ad E N) → va_S A s.heap H locs → lv_has ls 3 [] → W p l e (rmK 1 42 0 0) s m args below meth c H locs 0 0 Q (F0 m 24 ls [])) : ∀ (H : Heap) (locs : List Loc) (ls : Array Slot), va_P z.1 classes (wv z ad E M) H → va_D A (wv z ad E M) → va_S A s.heap H locs → lv_has ls 3 [(0, .ref (ad 53)), (1, .int x1), (2, .int x2)] → W p l e (rmK 1 42 0 0) s m args below meth c H locs 0 0 Q (F0 m 2 ls []) := by
  intro H locs ls hP hD hS hl
  unfold Li_isFirstOfUnit_2b at h
  refine lv_iload_n hx hb d_9_6_2 rfl (lv_at hl 2 rfl) ?_
  refine lv_iload_n hx hb d_9_6_3 rfl (lv_at hl 1 rfl) ?_
  refine lv_icmp_ge (tgt := 24) hx hb d_9_6_4 (by decide) (fun c9 => ?_) (fun c9 => ?_)
  · have h := ite_t c9 h
    obtain ⟨rfl, rfl, rfl⟩ := in3 h
    exact k2 rfl H locs ls hP hD hS (lv_sub hl [] rfl)
  · have h := ite_f c9 h
    refine lv_aload_n hx hb d_9_6_7 rfl (lv_at hl 0 rfl) ?_
    refine lv_iload_n hx hb d_9_6_8 rfl (lv_at hl 1 rfl) ?_
    refine lv_iload_n hx hb d_9_6_9 rfl (lv_at hl 2 rfl) ?_
    obtain ⟨⟨r0, M0⟩, g0, h⟩ := bd_e h
    refine kV (As := [.int x1, .int x2]) (rest := []) (s_Li_isSameUnit l z ad E M x1 x2 r0 M0 hL g0) hx hb hml hown hts w_1536 w_1533 w_1535 w_s_191f81 w_5 md_6c3977 ⟨Nat.le_of_ble_eq_true rfl, Nat.le_of_ble_eq_true rfl⟩ hG hZ hP hD hS hA 53 (wv_o (ci := 7) (yi_53 hL) (yt_53 hL)) rfl rfl rfl hl.1 rfl (Nat.le_of_ble_eq_true rfl) d_9_6_10 ⟨Nat.le_of_ble_eq_true rfl, Nat.le_of_ble_eq_true rfl⟩ (fun _ H locs hP hD hS => ?_)
    have hP : va_P z.1 classes (wv z ad E M0) H := hP
    have hD : va_D A (wv z ad E M0) := hD
    refine W.eq (g2 := F0 m 13 ls [.int r0]) rfl ?_
    refine lv_if_eq (tgt := 18) hx hb d_9_6_13 (by decide) (fun c9 => ?_) (fun c9 => ?_)
    · have h := ite_t c9 h
      refine lv_iinc (v := (x2 + 1)) (lv' := [(2, .int (x2 + 1)), (0, .ref (ad 53)), (1, .int x1)]) hx hb d_9_6_18 hl (k := 2) rfl (congrArg (fun q => x2 + q) (show Int32.ofInt 1 = 1 by decide +kernel)) (by decide) rfl (fun ls hl => ?_)
      refine lv_goto (tgt := 2) hx hb d_9_6_21 (by decide) ?_
      obtain ⟨rfl, rfl, rfl⟩ := in3 h
      exact k0 rfl H locs ls hP hD hS (lv_sub hl [1, 2, 0] rfl)
    · have h := ite_f c9 h
      obtain ⟨rfl, rfl, rfl⟩ := in3 h
      exact k1 rfl H locs ls hP hD hS (lv_sub hl [] rfl)
set_option maxRecDepth 100000 in
set_option maxHeartbeats 4000000 in
theorem s_Li_isFirstOfUnit_2 (l : Launch) (z : Zz) (ad : Nat → Nat) (E : Ev) (x1 : Int32) {Q : State → Prop} {p : Program} {e : Env} {s : State} {m : MethodId} {below : List Frame} {meth : Method} {c : Code} {A : Nat → Prop} {args : Array Value} (hx : p.tables.exec = Jvm.exec) (hb : c.code = prog_9_method_6_code) (hml : c.maxLocals = 3) (hts : ∀ w ∈ WG, w.before args s = true) (hown : s.vm.findClass "Ballothall$Lists" = some m.cls) (hlocks : meth.locks = false) (hA : ∀ q, s.heap.size ≤ q → A q) (hG : KG z s) (hZ : FZ z A s) (hL : Lay E) : ∀ (fu : Nat) (M : Mm) (x2 : Int32) (t : Nat) (w2 : Int32) (N : Mm), l_Li_isFirstOfUnit_2 E x1 fu M x2 = some (t, w2, N) → (t = 1 → ∀ (H : Heap) (locs : List Loc) (ls : Array Slot), va_P z.1 classes (wv z ad E N) H → va_D A (wv z ad E N) → va_S A s.heap H locs → lv_has ls 3 [] → W p l e (rmK 1 42 0 0) s m args below meth c H locs 0 0 Q (F0 m 16 ls [])) → (t = 2 → ∀ (H : Heap) (locs : List Loc) (ls : Array Slot), va_P z.1 classes (wv z ad E N) H → va_D A (wv z ad E N) → va_S A s.heap H locs → lv_has ls 3 [] → W p l e (rmK 1 42 0 0) s m args below meth c H locs 0 0 Q (F0 m 24 ls [])) → ∀ (H : Heap) (locs : List Loc) (ls : Array Slot), va_P z.1 classes (wv z ad E M) H → va_D A (wv z ad E M) → va_S A s.heap H locs → lv_has ls 3 [(0, .ref (ad 53)), (1, .int x1), (2, .int x2)] → W p l e (rmK 1 42 0 0) s m args below meth c H locs 0 0 Q (F0 m 2 ls []) := by
  intro fu
  induction fu with
  | zero =>
    intro M x2 t w2 N h
    have h : (none : Option (Nat × Int32 × Mm)) = some _ := h
    cases h
  | succ fu ih =>
    intro M x2 t w2 N h k1 k2 H locs ls hP hD hS hl
    obtain ⟨⟨t0, w20, N0⟩, g0, h⟩ := bd_e h
    refine b_Li_isFirstOfUnit_2b l z ad E M x1 x2 t0 w20 N0 hx hb hml hts hown hlocks hA hG hZ hL g0 (fun e0 => ?_) (fun e0 => ?_) (fun e0 => ?_) H locs ls hP hD hS hl
    · subst e0
      have h := ite_t rfl h
      exact ih N0 w20 t w2 N h k1 k2
    · subst e0
      have h := ite_f (by decide) h
      obtain ⟨rfl, rfl, rfl⟩ := in3 h
      exact k1 rfl
    · subst e0
      have h := ite_f (by decide) h
      obtain ⟨rfl, rfl, rfl⟩ := in3 h
      exact k2 rfl
set_option maxRecDepth 100000 in
set_option maxHeartbeats 4000000 in
theorem s_Li_isFirstOfUnit (l : Launch) (z : Zz) (ad : Nat → Nat) (E : Ev) (M : Mm) (x1 : Int32) (r : Int32) (N : Mm) (hL : Lay E) (h : f_Li_isFirstOfUnit E M x1 = some (r, N)) : CT l z ⟨"Ballothall$Lists", "isFirstOfUnit", "(I)Z"⟩ prog_9_method_6_code 3 (some .boolean) [.ref (ad 53), .int x1] (wv z ad E M) 1 42 0 0 (fun _ => some (.int r)) (fun _ => wv z ad E N) := by
  refine CT.of (own := "Ballothall$Lists") (by decide +kernel) (Nat.le_of_ble_eq_true rfl) rfl (fun p e s m below meth c A ls hx hb hml hr hts hown hlocks hin hA hG hZ hP hD hS hl => ?_)
  have hl : lv_has ls 3 [(0, .ref (ad 53)), (1, .int x1)] := hl
  have key : ∀ (H : Heap) (locs : List Loc) (args : Array Value), (∀ w ∈ WG, w.before args s = true) → va_P z.1 classes (wv z ad E M) H → va_S A s.heap H locs → W p l e (rmK 1 42 0 0) s m args below meth c H locs 0 0 (MQ below (QK z A (fun _ => some (.int r)) (fun _ => wv z ad E N)) args s 0 0 A) (F0 m 0 ls []) := by
    intro H locs args hts hP hS
    unfold f_Li_isFirstOfUnit at h
    refine lv_iconst (v := 0) hx hb d_9_6_0 (by decide +kernel) ?_
    refine lv_istore_n (lv' := [(2, .int 0), (0, .ref (ad 53)), (1, .int x1)]) hx hb d_9_6_1 rfl hl (by decide) rfl (fun ls hl => ?_)
    obtain ⟨⟨t1, v1_2, M1⟩, g1, h⟩ := bd_e h
    refine s_Li_isFirstOfUnit_2 l z ad E x1 hx hb hml hts hown hlocks hA hG hZ hL FU M 0 t1 v1_2 M1 g1 (fun e1 H locs ls hP hD hS hl => ?_) (fun e1 H locs ls hP hD hS hl => ?_) H locs ls hP hD hS (lv_sub hl [1, 2, 0] rfl)
    · subst e1
      have h := ite_t rfl h
      refine lv_iconst (v := 0) hx hb d_9_6_16 (by decide +kernel) ?_
      obtain ⟨rfl, rfl⟩ := in2 h
      exact W.zret hx hb hr rfl (fun t ht hW => qkA hP hD hS (fun k => k) rfl rfl ht) hS.2.2 d_9_6_17
    · subst e1
      have h := ite_f (by decide) h
      have h := ite_t rfl h
      refine lv_iconst (v := 1) hx hb d_9_6_24 (by decide +kernel) ?_
      obtain ⟨rfl, rfl⟩ := in2 h
      exact W.zret hx hb hr rfl (fun t ht hW => qkA hP hD hS (fun k => k) rfl rfl ht) hS.2.2 d_9_6_25
  exact key _ _ _ hts hP hS
set_option maxRecDepth 100000 in
set_option maxHeartbeats 4000000 in
theorem s_Di_append (l : Launch) (z : Zz) (ad : Nat → Nat) (E : Ev) (M : Mm) (p0 : Nat) (x1 : Int32) (x2 : Int64) (x4 : Int32) (N : Mm) (hL : Lay E) (h : f_Di_append E M p0 x1 x2 x4 = some N) : CT l z ⟨"Ballothall$Division", "append", "(IJI)V"⟩ prog_6_method_3_code 5 none [.ref (ad p0), .int x1, .long x2, .int x4] (wv z ad E M) 0 20 0 0 (fun _ => none) (fun _ => wv z ad E N) := by
  refine CT.of (own := "Ballothall$Division") (by decide +kernel) (Nat.le_of_ble_eq_true rfl) rfl (fun p e s m below meth c A ls hx hb hml hr hts hown hlocks hin hA hG hZ hP hD hS hl => ?_)
  have hl : lv_has ls 5 [(0, .ref (ad p0)), (1, .int x1), (2, .long x2), (4, .int x4)] := hl
  have key : ∀ (H : Heap) (locs : List Loc) (args : Array Value), (∀ w ∈ WG, w.before args s = true) → va_P z.1 classes (wv z ad E M) H → va_S A s.heap H locs → W p l e (rmK 0 20 0 0) s m args below meth c H locs 0 0 (MQ below (QK z A (fun _ => none) (fun _ => wv z ad E N)) args s 0 0 A) (F0 m 0 ls []) := by
    intro H locs args hts hP hS
    unfold f_Di_append at h
    obtain ⟨h_p0, h⟩ := ck_e h
    refine lv_aload_n hx hb d_6_3_0 rfl (lv_at hl 0 rfl) ?_
    refine m_gi (C := "Ballothall$Division") (T := TX4) (N := 8) (ci := 4) (k := 0) hx hb hts iX4 hown hG hP (isDi_i h_p0) (isDi_T h_p0) rfl (by decide) w_175 (fun _ h9 => h9) rfl rfl d_6_3_1 ?_
    refine lv_bipush (v := 8) hx hb d_6_3_4 (by decide +kernel) ?_
    refine lv_icmp_ge (tgt := 60) hx hb d_6_3_6 (by decide) (fun c9 => ?_) (fun c9 => ?_)
    · have h := ite_t c9 h
      obtain rfl := in1 h
      exact W.vret hx hb hr (fun t ht hW => qkA hP hD hS (fun k => k) rfl rfl ht) hS.2.2 d_6_3_60
    · have h := ite_f c9 h
      refine lv_aload_n hx hb d_6_3_9 rfl (lv_at hl 0 rfl) ?_
      refine m_gr (j := (p0 + 1)) (C := "Ballothall$Division") (T := TX4) (N := 8) (ci := 4) (k := 2) hx hb hts iX4 hown hG hP (isDi_i h_p0) (isDi_T h_p0) rfl (by decide) w_179 (fun _ h9 => h9) rfl rfl (isDi_r2 h_p0) d_6_3_10 ?_
      refine lv_aload_n hx hb d_6_3_13 rfl (lv_at hl 0 rfl) ?_
      refine m_gi (C := "Ballothall$Division") (T := TX4) (N := 8) (ci := 4) (k := 0) hx hb hts iX4 hown hG hP (isDi_i h_p0) (isDi_T h_p0) rfl (by decide) w_175 (fun _ h9 => h9) rfl rfl d_6_3_14 ?_
      refine lv_iload_n hx hb d_6_3_17 rfl (lv_at hl 1 rfl) ?_
      obtain ⟨ok0, h⟩ := ck_e h
      refine m_is hx hb hG hP hD hS (isDi_i1 h_p0) (isDi_t1 h_p0) ok0 d_6_3_18 (fun H locs hP hD hS => ?_)
      have hP : va_P z.1 classes (wv z ad E (u2 M (p0 + 1) (M.1 p0 0).toNatClampNeg x1)) H := hP
      have hD : va_D A (wv z ad E (u2 M (p0 + 1) (M.1 p0 0).toNatClampNeg x1)) := hD
      refine lv_aload_n hx hb d_6_3_19 rfl (lv_at hl 0 rfl) ?_
      refine m_gr (j := (p0 + 2)) (C := "Ballothall$Division") (T := TX4) (N := 8) (ci := 4) (k := 3) hx hb hts iX4 hown hG hP (isDi_i h_p0) (isDi_T h_p0) rfl (by decide) w_181 (fun _ h9 => h9) rfl rfl (isDi_r3 h_p0) d_6_3_20 ?_
      refine lv_aload_n hx hb d_6_3_23 rfl (lv_at hl 0 rfl) ?_
      refine m_gi (C := "Ballothall$Division") (T := TX4) (N := 8) (ci := 4) (k := 0) hx hb hts iX4 hown hG hP (isDi_i h_p0) (isDi_T h_p0) rfl (by decide) w_175 (fun _ h9 => h9) rfl rfl d_6_3_24 ?_
      refine lv_lload_n hx hb d_6_3_27 rfl (lv_at hl 2 rfl) ?_
      obtain ⟨ok1, h⟩ := ck_e h
      refine m_ls hx hb hG hP hD hS (isDi_i2 h_p0) (isDi_t2 h_p0) ok1 d_6_3_28 (fun H locs hP hD hS => ?_)
      have hP : va_P z.1 classes (wv z ad E (uL (u2 M (p0 + 1) (M.1 p0 0).toNatClampNeg x1) (p0 + 2) ((u2 M (p0 + 1) (M.1 p0 0).toNatClampNeg x1).1 p0 0).toNatClampNeg x2)) H := hP
      have hD : va_D A (wv z ad E (uL (u2 M (p0 + 1) (M.1 p0 0).toNatClampNeg x1) (p0 + 2) ((u2 M (p0 + 1) (M.1 p0 0).toNatClampNeg x1).1 p0 0).toNatClampNeg x2)) := hD
      obtain ⟨M2, e2, h⟩ := nb_e h
      rw [← e2] at hP hD
      refine lv_aload_n hx hb d_6_3_29 rfl (lv_at hl 0 rfl) ?_
      refine m_gr (j := (p0 + 3)) (C := "Ballothall$Division") (T := TX4) (N := 8) (ci := 4) (k := 4) hx hb hts iX4 hown hG hP (isDi_i h_p0) (isDi_T h_p0) rfl (by decide) w_182 (fun _ h9 => h9) rfl rfl (isDi_r4 h_p0) d_6_3_30 ?_
      refine lv_aload_n hx hb d_6_3_33 rfl (lv_at hl 0 rfl) ?_
      refine m_gi (C := "Ballothall$Division") (T := TX4) (N := 8) (ci := 4) (k := 0) hx hb hts iX4 hown hG hP (isDi_i h_p0) (isDi_T h_p0) rfl (by decide) w_175 (fun _ h9 => h9) rfl rfl d_6_3_34 ?_
      refine lv_iload hx hb d_6_3_37 (lv_at hl 3 rfl) ?_
      obtain ⟨ok3, h⟩ := ck_e h
      refine m_is hx hb hG hP hD hS (isDi_i3 h_p0) (isDi_t3 h_p0) ok3 d_6_3_39 (fun H locs hP hD hS => ?_)
      have hP : va_P z.1 classes (wv z ad E (u2 M2 (p0 + 3) (M2.1 p0 0).toNatClampNeg x4)) H := hP
      have hD : va_D A (wv z ad E (u2 M2 (p0 + 3) (M2.1 p0 0).toNatClampNeg x4)) := hD
      refine lv_aload_n hx hb d_6_3_40 rfl (lv_at hl 0 rfl) ?_
      refine m_gr (j := (p0 + 4)) (C := "Ballothall$Division") (T := TX4) (N := 8) (ci := 4) (k := 5) hx hb hts iX4 hown hG hP (isDi_i h_p0) (isDi_T h_p0) rfl (by decide) w_183 (fun _ h9 => h9) rfl rfl (isDi_r5 h_p0) d_6_3_41 ?_
      refine lv_aload_n hx hb d_6_3_44 rfl (lv_at hl 0 rfl) ?_
      refine m_gi (C := "Ballothall$Division") (T := TX4) (N := 8) (ci := 4) (k := 0) hx hb hts iX4 hown hG hP (isDi_i h_p0) (isDi_T h_p0) rfl (by decide) w_175 (fun _ h9 => h9) rfl rfl d_6_3_45 ?_
      refine lv_iconst (v := 0) hx hb d_6_3_48 (by decide +kernel) ?_
      obtain ⟨ok4, h⟩ := ck_e h
      refine m_is hx hb hG hP hD hS (isDi_i4 h_p0) (isDi_t4 h_p0) ok4 d_6_3_49 (fun H locs hP hD hS => ?_)
      have hP : va_P z.1 classes (wv z ad E (u2 (u2 M2 (p0 + 3) (M2.1 p0 0).toNatClampNeg x4) (p0 + 4) ((u2 M2 (p0 + 3) (M2.1 p0 0).toNatClampNeg x4).1 p0 0).toNatClampNeg 0)) H := hP
      have hD : va_D A (wv z ad E (u2 (u2 M2 (p0 + 3) (M2.1 p0 0).toNatClampNeg x4) (p0 + 4) ((u2 M2 (p0 + 3) (M2.1 p0 0).toNatClampNeg x4).1 p0 0).toNatClampNeg 0)) := hD
      obtain ⟨M5, e5, h⟩ := nb_e h
      rw [← e5] at hP hD
      refine lv_aload_n hx hb d_6_3_50 rfl (lv_at hl 0 rfl) ?_
      refine lv_dup hx hb d_6_3_51 rfl ?_
      refine m_gi (C := "Ballothall$Division") (T := TX4) (N := 8) (ci := 4) (k := 0) hx hb hts iX4 hown hG hP (isDi_i h_p0) (isDi_T h_p0) rfl (by decide) w_175 (fun _ h9 => h9) rfl rfl d_6_3_52 ?_
      refine lv_iconst (v := 1) hx hb d_6_3_55 (by decide +kernel) ?_
      refine lv_iadd hx hb d_6_3_56 ?_
      refine m_pi (C := "Ballothall$Division") (T := TX4) (N := 8) (ci := 4) (k := 0) (ty := .int) hx hb hts iX4 hown hG hP hD hS (isDi_i h_p0) (isDi_T h_p0) rfl (by decide) w_175 (fun _ h9 => h9) rfl rfl tyX4_ok nmX4 rfl (by decide +kernel) rfl rfl d_6_3_57 (fun H locs hP hD hS => ?_)
      have hP : va_P z.1 classes (wv z ad E (u2 M5 p0 0 ((M5.1 p0 0) + (1 : Int32)))) H := hP
      have hD : va_D A (wv z ad E (u2 M5 p0 0 ((M5.1 p0 0) + (1 : Int32)))) := hD
      obtain rfl := in1 h
      exact W.vret hx hb hr (fun t ht hW => qkA hP hD hS (fun k => k) rfl rfl ht) hS.2.2 d_6_3_60
  exact key _ _ _ hts hP hS
set_option maxRecDepth 100000 in
set_option maxHeartbeats 4000000 in
theorem b_Li_appendUnit_9b (l : Launch) (z : Zz) (ad : Nat → Nat) (E : Ev) (M : Mm) (x1 : Int32) (x2 : Int64) (x4 : Int64) (x6 : Int32) (x7 : Int32) (t : Nat) (w4 : Int64) (w6 : Int32) (w7 : Int32) (N : Mm) {Q : State → Prop} {p : Program} {e : Env} {s : State} {m : MethodId} {below : List Frame} {meth : Method} {c : Code} {A : Nat → Prop} {args : Array Value} (hx : p.tables.exec = Jvm.exec) (hb : c.code = prog_9_method_7_code) (hml : c.maxLocals = 8) (hts : ∀ w ∈ WG, w.before args s = true) (hown : s.vm.findClass "Ballothall$Lists" = some m.cls) (hlocks : meth.locks = false) (hA : ∀ q, s.heap.size ≤ q → A q) (hG : KG z s) (hZ : FZ z A s) (hL : Lay E) (h : Li_appendUnit_9b E M x1 x2 x4 x6 x7 = some (t, w4, w6, w7, N)) (k0 : t = 0 → ∀ (H : Heap) (locs : List Loc) (ls : Array Slot), va_P z.1 classes (wv z ad E N) H → va_D A (wv z ad E N) → va_S A s.heap H locs → lv_has ls 8 [(0, .ref (ad 53)), (1, .int x1), (2, .long x2), (4, .long w4), (6, .int w6), (7, .int w7)] → W p l e (rmK 1 44 0 0) s m args below meth c H locs 0 0 Q (F0 m 9 ls [])) (k1 : t = 1 → ∀ (H : Heap) (locs : List Loc) (ls : Array Slot), va_P z.1 classes (wv z ad E N) H → va_D A (wv z ad E N) → va_S A s.heap H locs → lv_has ls 8 [(0, .ref (ad 53)), (1, .int x1), (2, .long x2), (4, .long w4), (6, .int w6)] → W p l e (rmK 1 44 0 0) s m args below meth c H locs 0 0 Q (F0 m 50 ls [])) : ∀ (H : Heap) (locs : List Loc) (ls : Array Slot), va_P z.1 classes (wv z ad E M) H → va_D A (wv z ad E M) → va_S A s.heap H locs → lv_has ls 8 [(0, .ref (ad 53)), (1, .int x1), (2, .long x2), (4, .long x4), (6, .int x6), (7, .int x7)] → W p l e (rmK 1 44 0 0) s m args below meth c H locs 0 0 Q (F0 m 9 ls []) := by
  intro H locs ls hP hD hS hl
  unfold Li_appendUnit_9b at h
  refine lv_iload hx hb d_9_7_9 (lv_at hl 5 rfl) ?_
  refine lv_aload_n hx hb d_9_7_11 rfl (lv_at hl 0 rfl) ?_
  refine m_gi (C := "Ballothall$Lists") (T := TX7) (N := 11) (ci := 7) (k := 0) hx hb hts iX7 hown hG hP (yi_53 hL) (yt_53 hL) rfl (by decide) w_242 (fun _ h9 => h9) rfl rfl d_9_7_12 ?_
  refine lv_icmp_ge (tgt := 50) hx hb d_9_7_15 (by decide) (fun c9 => ?_) (fun c9 => ?_)
  · have h := ite_t c9 h
    obtain ⟨rfl, rfl, rfl, rfl, rfl⟩ := in5 h
    exact k1 rfl H locs ls hP hD hS (lv_sub hl [0, 1, 2, 3, 4] rfl)
  · have h := ite_f c9 h
    refine lv_aload_n hx hb d_9_7_18 rfl (lv_at hl 0 rfl) ?_
    refine lv_iload_n hx hb d_9_7_19 rfl (lv_at hl 1 rfl) ?_
    refine lv_iload hx hb d_9_7_20 (lv_at hl 5 rfl) ?_
    obtain ⟨⟨r0, M0⟩, g0, h⟩ := bd_e h
    refine kV (As := [.int x1, .int x7]) (rest := []) (s_Li_isSameUnit l z ad E M x1 x7 r0 M0 hL g0) hx hb hml hown hts w_1536 w_1533 w_1535 w_s_191f81 w_5 md_6c3977 ⟨Nat.le_of_ble_eq_true rfl, Nat.le_of_ble_eq_true rfl⟩ hG hZ hP hD hS hA 53 (wv_o (ci := 7) (yi_53 hL) (yt_53 hL)) rfl rfl rfl hl.1 rfl (Nat.le_of_ble_eq_true rfl) d_9_7_22 ⟨Nat.le_of_ble_eq_true rfl, Nat.le_of_ble_eq_true rfl⟩ (fun _ H locs hP hD hS => ?_)
    have hP : va_P z.1 classes (wv z ad E M0) H := hP
    have hD : va_D A (wv z ad E M0) := hD
    refine W.eq (g2 := F0 m 25 ls [.int r0]) rfl ?_
    refine lv_if_eq (tgt := 44) hx hb d_9_7_25 (by decide) (fun c9 => ?_) (fun c9 => ?_)
    · have h := ite_t c9 h
      refine lv_iinc (v := (x7 + 1)) (lv' := [(7, .int (x7 + 1)), (0, .ref (ad 53)), (1, .int x1), (2, .long x2), (4, .long x4), (6, .int x6)]) hx hb d_9_7_44 hl (k := 5) rfl (congrArg (fun q => x7 + q) (show Int32.ofInt 1 = 1 by decide +kernel)) (by decide) rfl (fun ls hl => ?_)
      refine lv_goto (tgt := 9) hx hb d_9_7_47 (by decide) ?_
      obtain ⟨rfl, rfl, rfl, rfl, rfl⟩ := in5 h
      exact k0 rfl H locs ls hP hD hS (lv_sub hl [1, 2, 3, 4, 5, 0] rfl)
    · have h := ite_f c9 h
      refine lv_lload hx hb d_9_7_28 (lv_at hl 3 rfl) ?_
      refine lv_aload_n hx hb d_9_7_30 rfl (lv_at hl 0 rfl) ?_
      refine m_gr (j := 54) (C := "Ballothall$Lists") (T := TX7) (N := 11) (ci := 7) (k := 1) hx hb hts iX7 hown hG hP (yi_53 hL) (yt_53 hL) rfl (by decide) w_244 (fun _ h9 => h9) rfl rfl (yr_53_1 hL) d_9_7_31 ?_
      refine lv_iload hx hb d_9_7_34 (lv_at hl 5 rfl) ?_
      obtain ⟨ok1, h⟩ := ck_e h
      refine m_ia hx hb hG hP (yi_54 hL) (yt_54 hL) ok1 d_9_7_36 ?_
      refine lv_i2l (v := (M0.1 54 x7.toNatClampNeg).toInt64) hx hb d_9_7_37 rfl ?_
      refine lv_ladd hx hb d_9_7_38 ?_
      obtain ⟨v2, e2, h⟩ := nb_e h
      refine nrmL e2.symm ?_
      refine lv_lstore (lv' := [(4, .long v2), (0, .ref (ad 53)), (1, .int x1), (2, .long x2), (6, .int x6), (7, .int x7)]) hx hb d_9_7_39 hl (by decide) rfl (fun ls hl => ?_)
      refine lv_iinc (v := (x6 + 1)) (lv' := [(6, .int (x6 + 1)), (4, .long v2), (0, .ref (ad 53)), (1, .int x1), (2, .long x2), (7, .int x7)]) hx hb d_9_7_41 hl (k := 4) rfl (congrArg (fun q => x6 + q) (show Int32.ofInt 1 = 1 by decide +kernel)) (by decide) rfl (fun ls hl => ?_)
      refine lv_iinc (v := (x7 + 1)) (lv' := [(7, .int (x7 + 1)), (6, .int (x6 + 1)), (4, .long v2), (0, .ref (ad 53)), (1, .int x1), (2, .long x2)]) hx hb d_9_7_44 hl (k := 5) rfl (congrArg (fun q => x7 + q) (show Int32.ofInt 1 = 1 by decide +kernel)) (by decide) rfl (fun ls hl => ?_)
      refine lv_goto (tgt := 9) hx hb d_9_7_47 (by decide) ?_
      obtain ⟨rfl, rfl, rfl, rfl, rfl⟩ := in5 h
      exact k0 rfl H locs ls hP hD hS (lv_sub hl [3, 4, 5, 2, 1, 0] rfl)
