set_option maxRecDepth 100000 in
set_option maxHeartbeats 4000000 in
theorem s_Po_findPaths_83 (l : Launch) (z : Zz) (ad : Nat → Nat) (E : Ev) (x1 : Int32) {Q : State → Prop} {p : Program} {e : Env} {s : State} {m : MethodId} {below : List Frame} {meth : Method} {c : Code} {A : Nat → Prop} {args : Array Value} (hx : p.tables.exec = Jvm.exec) (hb : c.code = prog_11_method_12_code) (hml : c.maxLocals = 3) (hts : ∀ w ∈ WG, w.before args s = true) (hown : s.vm.findClass "Ballothall$Poll" = some m.cls) (hlocks : meth.locks = false) (hA : ∀ q, s.heap.size ≤ q → A q) (hG : KG z s) (hZ : FZ z A s) (hL : Lay E) : ∀ (fu : Nat) (M : Mm) (x2 : Int32) (t : Nat) (w2 : Int32) (N : Mm), l_Po_findPaths_83 E x1 fu M x2 = some (t, w2, N) → (t = 1 → ∀ (H : Heap) (locs : List Loc) (ls : Array Slot), va_P z.1 classes (wv z ad E N) H → va_D A (wv z ad E N) → va_S A s.heap H locs → lv_has ls 3 [(0, .ref (ad 41)), (1, .int x1)] → W p l e (rmK 2 67 0 0) s m args below meth c H locs 0 0 Q (F0 m 120 ls [])) → ∀ (H : Heap) (locs : List Loc) (ls : Array Slot), va_P z.1 classes (wv z ad E M) H → va_D A (wv z ad E M) → va_S A s.heap H locs → lv_has ls 3 [(0, .ref (ad 41)), (1, .int x1), (2, .int x2)] → W p l e (rmK 2 67 0 0) s m args below meth c H locs 0 0 Q (F0 m 83 ls []) := by
  intro fu
  induction fu with
  | zero =>
    intro M x2 t w2 N h
    have h : (none : Option (Nat × Int32 × Mm)) = some _ := h
    cases h
  | succ fu ih =>
    intro M x2 t w2 N h k1 H locs ls hP hD hS hl
    obtain ⟨⟨t0, w20, N0⟩, g0, h⟩ := bd_e h
    refine b_Po_findPaths_83b l z ad E M x1 x2 t0 w20 N0 hx hb hml hts hown hlocks hA hG hZ hL g0 (fun e0 => ?_) (fun e0 => ?_) H locs ls hP hD hS hl
    · subst e0
      have h := ite_t rfl h
      exact ih N0 w20 t w2 N h k1
    · subst e0
      have h := ite_f (by decide) h
      obtain ⟨rfl, rfl, rfl⟩ := in3 h
      exact k1 rfl
set_option maxRecDepth 100000 in
set_option maxHeartbeats 4000000 in
theorem b_Po_findPaths_70b (l : Launch) (z : Zz) (ad : Nat → Nat) (E : Ev) (M : Mm) (x1 : Int32) (t : Nat) (w1 : Int32) (N : Mm) {Q : State → Prop} {p : Program} {e : Env} {s : State} {m : MethodId} {below : List Frame} {meth : Method} {c : Code} {A : Nat → Prop} {args : Array Value} (hx : p.tables.exec = Jvm.exec) (hb : c.code = prog_11_method_12_code) (hml : c.maxLocals = 3) (hts : ∀ w ∈ WG, w.before args s = true) (hown : s.vm.findClass "Ballothall$Poll" = some m.cls) (hlocks : meth.locks = false) (hA : ∀ q, s.heap.size ≤ q → A q) (hG : KG z s) (hZ : FZ z A s) (hL : Lay E) (h : Po_findPaths_70b E M x1 = some (t, w1, N)) (k0 : t = 0 → ∀ (H : Heap) (locs : List Loc) (ls : Array Slot), va_P z.1 classes (wv z ad E N) H → va_D A (wv z ad E N) → va_S A s.heap H locs → lv_has ls 3 [(0, .ref (ad 41)), (1, .int w1)] → W p l e (rmK 2 67 0 0) s m args below meth c H locs 0 0 Q (F0 m 70 ls [])) (k1 : t = 1 → ∀ (H : Heap) (locs : List Loc) (ls : Array Slot), va_P z.1 classes (wv z ad E N) H → va_D A (wv z ad E N) → va_S A s.heap H locs → lv_has ls 3 [] → W p l e (rmK 2 67 0 0) s m args below meth c H locs 0 0 Q (F0 m 126 ls [])) : ∀ (H : Heap) (locs : List Loc) (ls : Array Slot), va_P z.1 classes (wv z ad E M) H → va_D A (wv z ad E M) → va_S A s.heap H locs → lv_has ls 3 [(0, .ref (ad 41)), (1, .int x1)] → W p l e (rmK 2 67 0 0) s m args below meth c H locs 0 0 Q (F0 m 70 ls []) := by
  intro H locs ls hP hD hS hl
  unfold Po_findPaths_70b at h
  refine lv_iload_n hx hb d_11_12_70 rfl (lv_at hl 1 rfl) ?_
  refine lv_aload_n hx hb d_11_12_71 rfl (lv_at hl 0 rfl) ?_
  refine m_gr (j := 2) (C := "Ballothall$Poll") (T := TX9) (N := 12) (ci := 9) (k := 0) hx hb hts iX9 hown hG hP (yi_41 hL) (yt_41 hL) rfl (by decide) w_107 (fun _ h9 => h9) rfl rfl (yr_41_0 hL) d_11_12_72 ?_
  refine m_giN (C := "Ballothall$BallotBox") (T := TX0) (N := 10) (ci := 0) (k := 2) hx hb hts iX0 hown hG hP (yi_2 hL) (yt_2 hL) rfl (by decide) n_53 rfl (fun _ h9 => h9) rfl rfl d_11_12_75 ?_
  refine lv_icmp_ge (tgt := 126) hx hb d_11_12_78 (by decide) (fun c9 => ?_) (fun c9 => ?_)
  · have h := ite_t c9 h
    obtain ⟨rfl, rfl, rfl⟩ := in3 h
    exact k1 rfl H locs ls hP hD hS (lv_sub hl [] rfl)
  · have h := ite_f c9 h
    refine lv_iconst (v := 0) hx hb d_11_12_81 (by decide +kernel) ?_
    refine lv_istore_n (lv' := [(2, .int 0), (0, .ref (ad 41)), (1, .int x1)]) hx hb d_11_12_82 rfl hl (by decide) rfl (fun ls hl => ?_)
    obtain ⟨⟨t7, v7_2, M7⟩, g7, h⟩ := bd_e h
    obtain ⟨ok7, h⟩ := ck_e h
    refine s_Po_findPaths_83 l z ad E x1 hx hb hml hts hown hlocks hA hG hZ hL FU M 0 t7 v7_2 M7 g7 (fun e7 H locs ls hP hD hS hl => ?_) H locs ls hP hD hS (lv_sub hl [1, 2, 0] rfl)
    refine lv_iinc (v := (x1 + 1)) (lv' := [(1, .int (x1 + 1)), (0, .ref (ad 41))]) hx hb d_11_12_120 hl (k := 1) rfl (congrArg (fun q => x1 + q) (show Int32.ofInt 1 = 1 by decide +kernel)) (by decide) rfl (fun ls hl => ?_)
    refine lv_goto (tgt := 70) hx hb d_11_12_123 (by decide) ?_
    obtain ⟨rfl, rfl, rfl⟩ := in3 h
    exact k0 rfl H locs ls hP hD hS (lv_sub hl [1, 0] rfl)
set_option maxRecDepth 100000 in
set_option maxHeartbeats 4000000 in
theorem s_Po_findPaths_70 (l : Launch) (z : Zz) (ad : Nat → Nat) (E : Ev) {Q : State → Prop} {p : Program} {e : Env} {s : State} {m : MethodId} {below : List Frame} {meth : Method} {c : Code} {A : Nat → Prop} {args : Array Value} (hx : p.tables.exec = Jvm.exec) (hb : c.code = prog_11_method_12_code) (hml : c.maxLocals = 3) (hts : ∀ w ∈ WG, w.before args s = true) (hown : s.vm.findClass "Ballothall$Poll" = some m.cls) (hlocks : meth.locks = false) (hA : ∀ q, s.heap.size ≤ q → A q) (hG : KG z s) (hZ : FZ z A s) (hL : Lay E) : ∀ (fu : Nat) (M : Mm) (x1 : Int32) (t : Nat) (w1 : Int32) (N : Mm), l_Po_findPaths_70 E fu M x1 = some (t, w1, N) → (t = 1 → ∀ (H : Heap) (locs : List Loc) (ls : Array Slot), va_P z.1 classes (wv z ad E N) H → va_D A (wv z ad E N) → va_S A s.heap H locs → lv_has ls 3 [] → W p l e (rmK 2 67 0 0) s m args below meth c H locs 0 0 Q (F0 m 126 ls [])) → ∀ (H : Heap) (locs : List Loc) (ls : Array Slot), va_P z.1 classes (wv z ad E M) H → va_D A (wv z ad E M) → va_S A s.heap H locs → lv_has ls 3 [(0, .ref (ad 41)), (1, .int x1)] → W p l e (rmK 2 67 0 0) s m args below meth c H locs 0 0 Q (F0 m 70 ls []) := by
  intro fu
  induction fu with
  | zero =>
    intro M x1 t w1 N h
    have h : (none : Option (Nat × Int32 × Mm)) = some _ := h
    cases h
  | succ fu ih =>
    intro M x1 t w1 N h k1 H locs ls hP hD hS hl
    obtain ⟨⟨t0, w10, N0⟩, g0, h⟩ := bd_e h
    refine b_Po_findPaths_70b l z ad E M x1 t0 w10 N0 hx hb hml hts hown hlocks hA hG hZ hL g0 (fun e0 => ?_) (fun e0 => ?_) H locs ls hP hD hS hl
    · subst e0
      have h := ite_t rfl h
      exact ih N0 w10 t w1 N h k1
    · subst e0
      have h := ite_f (by decide) h
      obtain ⟨rfl, rfl, rfl⟩ := in3 h
      exact k1 rfl
set_option maxRecDepth 100000 in
set_option maxHeartbeats 4000000 in
theorem s_Po_findPaths (l : Launch) (z : Zz) (ad : Nat → Nat) (E : Ev) (M : Mm) (N : Mm) (hL : Lay E) (h : f_Po_findPaths E M = some N) : CT l z ⟨"Ballothall$Poll", "findPaths", "()V"⟩ prog_11_method_12_code 3 none [.ref (ad 41)] (wv z ad E M) 2 67 0 0 (fun _ => none) (fun _ => wv z ad E N) := by
  refine CT.of (own := "Ballothall$Poll") (by decide +kernel) (Nat.le_of_ble_eq_true rfl) rfl (fun p e s m below meth c A ls hx hb hml hr hts hown hlocks hin hA hG hZ hP hD hS hl => ?_)
  have hl : lv_has ls 3 [(0, .ref (ad 41))] := hl
  have key : ∀ (H : Heap) (locs : List Loc) (args : Array Value), (∀ w ∈ WG, w.before args s = true) → va_P z.1 classes (wv z ad E M) H → va_S A s.heap H locs → W p l e (rmK 2 67 0 0) s m args below meth c H locs 0 0 (MQ below (QK z A (fun _ => none) (fun _ => wv z ad E N)) args s 0 0 A) (F0 m 0 ls []) := by
    intro H locs args hts hP hS
    unfold f_Po_findPaths at h
    refine lv_iconst (v := 0) hx hb d_11_12_0 (by decide +kernel) ?_
    refine lv_istore_n (lv' := [(1, .int 0), (0, .ref (ad 41))]) hx hb d_11_12_1 rfl hl (by decide) rfl (fun ls hl => ?_)
    obtain ⟨⟨t4, v4_1, M4⟩, g4, h⟩ := bd_e h
    obtain ⟨ok4, h⟩ := ck_e h
    refine s_Po_findPaths_2 l z ad E hx hb hml hts hown hlocks hA hG hZ hL FU M 0 t4 v4_1 M4 g4 (fun e4 H locs ls hP hD hS hl => ?_) H locs ls hP hD hS (lv_sub hl [1, 0] rfl)
    refine lv_iconst (v := 0) hx hb d_11_12_68 (by decide +kernel) ?_
    refine lv_istore_n (lv' := [(1, .int 0), (0, .ref (ad 41))]) hx hb d_11_12_69 rfl hl (by decide) rfl (fun ls hl => ?_)
    obtain ⟨⟨t8, v8_1, M8⟩, g8, h⟩ := bd_e h
    obtain ⟨ok8, h⟩ := ck_e h
    refine s_Po_findPaths_70 l z ad E hx hb hml hts hown hlocks hA hG hZ hL FU M4 0 t8 v8_1 M8 g8 (fun e8 H locs ls hP hD hS hl => ?_) H locs ls hP hD hS (lv_sub hl [1, 0] rfl)
    obtain rfl := in1 h
    exact W.vret hx hb hr (fun t ht hW => qkA hP hD hS (fun k => k) rfl rfl ht) hS.2.2 d_11_12_126
  exact key _ _ _ hts hP hS
set_option maxRecDepth 100000 in
set_option maxHeartbeats 4000000 in
theorem b_Po_winnersByPaths_24b (l : Launch) (z : Zz) (ad : Nat → Nat) (E : Ev) (M : Mm) (x2 : Int32) (x1 : Int32) (x3 : Int32) (t : Nat) (w1 : Int32) (w3 : Int32) (N : Mm) {Q : State → Prop} {p : Program} {e : Env} {s : State} {m : MethodId} {below : List Frame} {meth : Method} {c : Code} {A : Nat → Prop} {args : Array Value} (hx : p.tables.exec = Jvm.exec) (hb : c.code = prog_11_method_14_code) (hml : c.maxLocals = 4) (hts : ∀ w ∈ WG, w.before args s = true) (hown : s.vm.findClass "Ballothall$Poll" = some m.cls) (hlocks : meth.locks = false) (hA : ∀ q, s.heap.size ≤ q → A q) (hG : KG z s) (hZ : FZ z A s) (hL : Lay E) (h : Po_winnersByPaths_24b E M x2 x1 x3 = some (t, w1, w3, N)) (k0 : t = 0 → ∀ (H : Heap) (locs : List Loc) (ls : Array Slot), va_P z.1 classes (wv z ad E N) H → va_D A (wv z ad E N) → va_S A s.heap H locs → lv_has ls 4 [(0, .ref (ad 41)), (1, .int w1), (2, .int x2), (3, .int w3)] → W p l e (rmK 3 89 0 0) s m args below meth c H locs 0 0 Q (F0 m 24 ls [])) (k1 : t = 1 → ∀ (H : Heap) (locs : List Loc) (ls : Array Slot), va_P z.1 classes (wv z ad E N) H → va_D A (wv z ad E N) → va_S A s.heap H locs → lv_has ls 4 [(0, .ref (ad 41)), (1, .int w1), (2, .int x2)] → W p l e (rmK 3 89 0 0) s m args below meth c H locs 0 0 Q (F0 m 64 ls [])) : ∀ (H : Heap) (locs : List Loc) (ls : Array Slot), va_P z.1 classes (wv z ad E M) H → va_D A (wv z ad E M) → va_S A s.heap H locs → lv_has ls 4 [(0, .ref (ad 41)), (1, .int x1), (2, .int x2), (3, .int x3)] → W p l e (rmK 3 89 0 0) s m args below meth c H locs 0 0 Q (F0 m 24 ls []) := by
  intro H locs ls hP hD hS hl
  unfold Po_winnersByPaths_24b at h
  refine lv_iload_n hx hb d_11_14_24 rfl (lv_at hl 3 rfl) ?_
  refine lv_aload_n hx hb d_11_14_25 rfl (lv_at hl 0 rfl) ?_
  refine m_gr (j := 2) (C := "Ballothall$Poll") (T := TX9) (N := 12) (ci := 9) (k := 0) hx hb hts iX9 hown hG hP (yi_41 hL) (yt_41 hL) rfl (by decide) w_107 (fun _ h9 => h9) rfl rfl (yr_41_0 hL) d_11_14_26 ?_
  refine m_giN (C := "Ballothall$BallotBox") (T := TX0) (N := 10) (ci := 0) (k := 2) hx hb hts iX0 hown hG hP (yi_2 hL) (yt_2 hL) rfl (by decide) n_53 rfl (fun _ h9 => h9) rfl rfl d_11_14_29 ?_
  refine lv_icmp_ge (tgt := 64) hx hb d_11_14_32 (by decide) (fun c9 => ?_) (fun c9 => ?_)
  · have h := ite_t c9 h
    obtain ⟨rfl, rfl, rfl, rfl⟩ := in4 h
    exact k1 rfl H locs ls hP hD hS (lv_sub hl [0, 1, 2] rfl)
  · have h := ite_f c9 h
    refine lv_aload_n hx hb d_11_14_35 rfl (lv_at hl 0 rfl) ?_
    refine lv_iload_n hx hb d_11_14_36 rfl (lv_at hl 3 rfl) ?_
    refine lv_iload_n hx hb d_11_14_37 rfl (lv_at hl 2 rfl) ?_
    obtain ⟨⟨r1, M1⟩, g1, h⟩ := bd_e h
    refine kV (As := [.int x3, .int x2]) (rest := []) (s_Po_path l z ad E M x3 x2 r1 M1 hL g1) hx hb hml hown hts w_733 w_730 w_732 w_s_f68c3b w_3 md_2f75ac ⟨Nat.le_of_ble_eq_true rfl, Nat.le_of_ble_eq_true rfl⟩ hG hZ hP hD hS hA 41 (wv_o (ci := 9) (yi_41 hL) (yt_41 hL)) rfl rfl rfl hl.1 rfl (Nat.le_of_ble_eq_true rfl) d_11_14_38 ⟨Nat.le_of_ble_eq_true rfl, Nat.le_of_ble_eq_true rfl⟩ (fun _ H locs hP hD hS => ?_)
    have hP : va_P z.1 classes (wv z ad E M1) H := hP
    have hD : va_D A (wv z ad E M1) := hD
    refine W.eq (g2 := F0 m 41 ls [.int r1]) rfl ?_
    refine lv_aload_n hx hb d_11_14_41 rfl (lv_at hl 0 rfl) ?_
    refine lv_iload_n hx hb d_11_14_42 rfl (lv_at hl 2 rfl) ?_
    refine lv_iload_n hx hb d_11_14_43 rfl (lv_at hl 3 rfl) ?_
    obtain ⟨⟨r2, M2⟩, g2, h⟩ := bd_e h
    refine kV (As := [.int x2, .int x3]) (rest := [.int r1]) (s_Po_path l z ad E M1 x2 x3 r2 M2 hL g2) hx hb hml hown hts w_733 w_730 w_732 w_s_f68c3b w_3 md_2f75ac ⟨Nat.le_of_ble_eq_true rfl, Nat.le_of_ble_eq_true rfl⟩ hG hZ hP hD hS hA 41 (wv_o (ci := 9) (yi_41 hL) (yt_41 hL)) rfl rfl rfl hl.1 rfl (Nat.le_of_ble_eq_true rfl) d_11_14_44 ⟨Nat.le_of_ble_eq_true rfl, Nat.le_of_ble_eq_true rfl⟩ (fun _ H locs hP hD hS => ?_)
    have hP : va_P z.1 classes (wv z ad E M2) H := hP
    have hD : va_D A (wv z ad E M2) := hD
    refine W.eq (g2 := F0 m 47 ls [.int r2, .int r1]) rfl ?_
    refine lv_icmp_le (tgt := 58) hx hb d_11_14_47 (by decide) (fun c9 => ?_) (fun c9 => ?_)
    · have h := ite_t c9 h
      refine lv_iinc (v := (x3 + 1)) (lv' := [(3, .int (x3 + 1)), (0, .ref (ad 41)), (1, .int x1), (2, .int x2)]) hx hb d_11_14_58 hl (k := 3) rfl (congrArg (fun q => x3 + q) (show Int32.ofInt 1 = 1 by decide +kernel)) (by decide) rfl (fun ls hl => ?_)
      refine lv_goto (tgt := 24) hx hb d_11_14_61 (by decide) ?_
      obtain ⟨rfl, rfl, rfl, rfl⟩ := in4 h
      exact k0 rfl H locs ls hP hD hS (lv_sub hl [1, 2, 3, 0] rfl)
    · have h := ite_f c9 h
      refine lv_iload_n hx hb d_11_14_50 rfl (lv_at hl 1 rfl) ?_
      refine lv_iconst (v := 1) hx hb d_11_14_51 (by decide +kernel) ?_
      refine lv_iload_n hx hb d_11_14_52 rfl (lv_at hl 2 rfl) ?_
      refine lv_ishl hx hb d_11_14_53 ?_
      refine lv_iconst (v := (-1)) hx hb d_11_14_54 (by decide +kernel) ?_
      refine lv_ixor hx hb d_11_14_55 ?_
      refine lv_iand hx hb d_11_14_56 ?_
      obtain ⟨v3, e3, h⟩ := nb_e h
      refine nrm e3.symm ?_
      refine lv_istore_n (lv' := [(1, .int v3), (0, .ref (ad 41)), (2, .int x2), (3, .int x3)]) hx hb d_11_14_57 rfl hl (by decide) rfl (fun ls hl => ?_)
      refine lv_iinc (v := (x3 + 1)) (lv' := [(3, .int (x3 + 1)), (1, .int v3), (0, .ref (ad 41)), (2, .int x2)]) hx hb d_11_14_58 hl (k := 3) rfl (congrArg (fun q => x3 + q) (show Int32.ofInt 1 = 1 by decide +kernel)) (by decide) rfl (fun ls hl => ?_)
      refine lv_goto (tgt := 24) hx hb d_11_14_61 (by decide) ?_
      obtain ⟨rfl, rfl, rfl, rfl⟩ := in4 h
      exact k0 rfl H locs ls hP hD hS (lv_sub hl [2, 1, 3, 0] rfl)
set_option maxRecDepth 100000 in
set_option maxHeartbeats 4000000 in
theorem s_Po_winnersByPaths_24 (l : Launch) (z : Zz) (ad : Nat → Nat) (E : Ev) (x2 : Int32) {Q : State → Prop} {p : Program} {e : Env} {s : State} {m : MethodId} {below : List Frame} {meth : Method} {c : Code} {A : Nat → Prop} {args : Array Value} (hx : p.tables.exec = Jvm.exec) (hb : c.code = prog_11_method_14_code) (hml : c.maxLocals = 4) (hts : ∀ w ∈ WG, w.before args s = true) (hown : s.vm.findClass "Ballothall$Poll" = some m.cls) (hlocks : meth.locks = false) (hA : ∀ q, s.heap.size ≤ q → A q) (hG : KG z s) (hZ : FZ z A s) (hL : Lay E) : ∀ (fu : Nat) (M : Mm) (x1 : Int32) (x3 : Int32) (t : Nat) (w1 : Int32) (w3 : Int32) (N : Mm), l_Po_winnersByPaths_24 E x2 fu M x1 x3 = some (t, w1, w3, N) → (t = 1 → ∀ (H : Heap) (locs : List Loc) (ls : Array Slot), va_P z.1 classes (wv z ad E N) H → va_D A (wv z ad E N) → va_S A s.heap H locs → lv_has ls 4 [(0, .ref (ad 41)), (1, .int w1), (2, .int x2)] → W p l e (rmK 3 89 0 0) s m args below meth c H locs 0 0 Q (F0 m 64 ls [])) → ∀ (H : Heap) (locs : List Loc) (ls : Array Slot), va_P z.1 classes (wv z ad E M) H → va_D A (wv z ad E M) → va_S A s.heap H locs → lv_has ls 4 [(0, .ref (ad 41)), (1, .int x1), (2, .int x2), (3, .int x3)] → W p l e (rmK 3 89 0 0) s m args below meth c H locs 0 0 Q (F0 m 24 ls []) := by
  intro fu
  induction fu with
  | zero =>
    intro M x1 x3 t w1 w3 N h
    have h : (none : Option (Nat × Int32 × Int32 × Mm)) = some _ := h
    cases h
  | succ fu ih =>
    intro M x1 x3 t w1 w3 N h k1 H locs ls hP hD hS hl
    obtain ⟨⟨t0, w10, w30, N0⟩, g0, h⟩ := bd_e h
    refine b_Po_winnersByPaths_24b l z ad E M x2 x1 x3 t0 w10 w30 N0 hx hb hml hts hown hlocks hA hG hZ hL g0 (fun e0 => ?_) (fun e0 => ?_) H locs ls hP hD hS hl
    · subst e0
      have h := ite_t rfl h
      exact ih N0 w10 w30 t w1 w3 N h k1
    · subst e0
      have h := ite_f (by decide) h
      obtain ⟨rfl, rfl, rfl, rfl⟩ := in4 h
      exact k1 rfl
set_option maxRecDepth 100000 in
set_option maxHeartbeats 4000000 in
theorem b_Po_winnersByPaths_11b (l : Launch) (z : Zz) (ad : Nat → Nat) (E : Ev) (M : Mm) (x1 : Int32) (x2 : Int32) (t : Nat) (w1 : Int32) (w2 : Int32) (N : Mm) {Q : State → Prop} {p : Program} {e : Env} {s : State} {m : MethodId} {below : List Frame} {meth : Method} {c : Code} {A : Nat → Prop} {args : Array Value} (hx : p.tables.exec = Jvm.exec) (hb : c.code = prog_11_method_14_code) (hml : c.maxLocals = 4) (hts : ∀ w ∈ WG, w.before args s = true) (hown : s.vm.findClass "Ballothall$Poll" = some m.cls) (hlocks : meth.locks = false) (hA : ∀ q, s.heap.size ≤ q → A q) (hG : KG z s) (hZ : FZ z A s) (hL : Lay E) (h : Po_winnersByPaths_11b E M x1 x2 = some (t, w1, w2, N)) (k0 : t = 0 → ∀ (H : Heap) (locs : List Loc) (ls : Array Slot), va_P z.1 classes (wv z ad E N) H → va_D A (wv z ad E N) → va_S A s.heap H locs → lv_has ls 4 [(0, .ref (ad 41)), (1, .int w1), (2, .int w2)] → W p l e (rmK 3 89 0 0) s m args below meth c H locs 0 0 Q (F0 m 11 ls [])) (k1 : t = 1 → ∀ (H : Heap) (locs : List Loc) (ls : Array Slot), va_P z.1 classes (wv z ad E N) H → va_D A (wv z ad E N) → va_S A s.heap H locs → lv_has ls 4 [(1, .int w1)] → W p l e (rmK 3 89 0 0) s m args below meth c H locs 0 0 Q (F0 m 70 ls [])) : ∀ (H : Heap) (locs : List Loc) (ls : Array Slot), va_P z.1 classes (wv z ad E M) H → va_D A (wv z ad E M) → va_S A s.heap H locs → lv_has ls 4 [(0, .ref (ad 41)), (1, .int x1), (2, .int x2)] → W p l e (rmK 3 89 0 0) s m args below meth c H locs 0 0 Q (F0 m 11 ls []) := by
  intro H locs ls hP hD hS hl
  unfold Po_winnersByPaths_11b at h
  refine lv_iload_n hx hb d_11_14_11 rfl (lv_at hl 2 rfl) ?_
  refine lv_aload_n hx hb d_11_14_12 rfl (lv_at hl 0 rfl) ?_
  refine m_gr (j := 2) (C := "Ballothall$Poll") (T := TX9) (N := 12) (ci := 9) (k := 0) hx hb hts iX9 hown hG hP (yi_41 hL) (yt_41 hL) rfl (by decide) w_107 (fun _ h9 => h9) rfl rfl (yr_41_0 hL) d_11_14_13 ?_
  refine m_giN (C := "Ballothall$BallotBox") (T := TX0) (N := 10) (ci := 0) (k := 2) hx hb hts iX0 hown hG hP (yi_2 hL) (yt_2 hL) rfl (by decide) n_53 rfl (fun _ h9 => h9) rfl rfl d_11_14_16 ?_
  refine lv_icmp_ge (tgt := 70) hx hb d_11_14_19 (by decide) (fun c9 => ?_) (fun c9 => ?_)
  · have h := ite_t c9 h
    obtain ⟨rfl, rfl, rfl, rfl⟩ := in4 h
    exact k1 rfl H locs ls hP hD hS (lv_sub hl [1] rfl)
  · have h := ite_f c9 h
    refine lv_iconst (v := 0) hx hb d_11_14_22 (by decide +kernel) ?_
    refine lv_istore_n (lv' := [(3, .int 0), (0, .ref (ad 41)), (1, .int x1), (2, .int x2)]) hx hb d_11_14_23 rfl hl (by decide) rfl (fun ls hl => ?_)
    obtain ⟨⟨t4, v4_1, v4_3, M4⟩, g4, h⟩ := bd_e h
    obtain ⟨ok4, h⟩ := ck_e h
    refine s_Po_winnersByPaths_24 l z ad E x2 hx hb hml hts hown hlocks hA hG hZ hL FU M x1 0 t4 v4_1 v4_3 M4 g4 (fun e4 H locs ls hP hD hS hl => ?_) H locs ls hP hD hS (lv_sub hl [1, 2, 3, 0] rfl)
    refine lv_iinc (v := (x2 + 1)) (lv' := [(2, .int (x2 + 1)), (0, .ref (ad 41)), (1, .int v4_1)]) hx hb d_11_14_64 hl (k := 2) rfl (congrArg (fun q => x2 + q) (show Int32.ofInt 1 = 1 by decide +kernel)) (by decide) rfl (fun ls hl => ?_)
    refine lv_goto (tgt := 11) hx hb d_11_14_67 (by decide) ?_
    obtain ⟨rfl, rfl, rfl, rfl⟩ := in4 h
    exact k0 rfl H locs ls hP hD hS (lv_sub hl [1, 2, 0] rfl)
set_option maxRecDepth 100000 in
set_option maxHeartbeats 4000000 in
theorem s_Po_winnersByPaths_11 (l : Launch) (z : Zz) (ad : Nat → Nat) (E : Ev) {Q : State → Prop} {p : Program} {e : Env} {s : State} {m : MethodId} {below : List Frame} {meth : Method} {c : Code} {A : Nat → Prop} {args : Array Value} (hx : p.tables.exec = Jvm.exec) (hb : c.code = prog_11_method_14_code) (hml : c.maxLocals = 4) (hts : ∀ w ∈ WG, w.before args s = true) (hown : s.vm.findClass "Ballothall$Poll" = some m.cls) (hlocks : meth.locks = false) (hA : ∀ q, s.heap.size ≤ q → A q) (hG : KG z s) (hZ : FZ z A s) (hL : Lay E) : ∀ (fu : Nat) (M : Mm) (x1 : Int32) (x2 : Int32) (t : Nat) (w1 : Int32) (w2 : Int32) (N : Mm), l_Po_winnersByPaths_11 E fu M x1 x2 = some (t, w1, w2, N) → (t = 1 → ∀ (H : Heap) (locs : List Loc) (ls : Array Slot), va_P z.1 classes (wv z ad E N) H → va_D A (wv z ad E N) → va_S A s.heap H locs → lv_has ls 4 [(1, .int w1)] → W p l e (rmK 3 89 0 0) s m args below meth c H locs 0 0 Q (F0 m 70 ls [])) → ∀ (H : Heap) (locs : List Loc) (ls : Array Slot), va_P z.1 classes (wv z ad E M) H → va_D A (wv z ad E M) → va_S A s.heap H locs → lv_has ls 4 [(0, .ref (ad 41)), (1, .int x1), (2, .int x2)] → W p l e (rmK 3 89 0 0) s m args below meth c H locs 0 0 Q (F0 m 11 ls []) := by
  intro fu
  induction fu with
  | zero =>
    intro M x1 x2 t w1 w2 N h
    have h : (none : Option (Nat × Int32 × Int32 × Mm)) = some _ := h
    cases h
  | succ fu ih =>
    intro M x1 x2 t w1 w2 N h k1 H locs ls hP hD hS hl
    obtain ⟨⟨t0, w10, w20, N0⟩, g0, h⟩ := bd_e h
    refine b_Po_winnersByPaths_11b l z ad E M x1 x2 t0 w10 w20 N0 hx hb hml hts hown hlocks hA hG hZ hL g0 (fun e0 => ?_) (fun e0 => ?_) H locs ls hP hD hS hl
    · subst e0
      have h := ite_t rfl h
      exact ih N0 w10 w20 t w1 w2 N h k1
    · subst e0
      have h := ite_f (by decide) h
      obtain ⟨rfl, rfl, rfl, rfl⟩ := in4 h
      exact k1 rfl
set_option maxRecDepth 100000 in
set_option maxHeartbeats 4000000 in
theorem s_Po_winnersByPaths (l : Launch) (z : Zz) (ad : Nat → Nat) (E : Ev) (M : Mm) (r : Int32) (N : Mm) (hL : Lay E) (h : f_Po_winnersByPaths E M = some (r, N)) : CT l z ⟨"Ballothall$Poll", "winnersByPaths", "()I"⟩ prog_11_method_14_code 4 (some .int) [.ref (ad 41)] (wv z ad E M) 3 89 0 0 (fun _ => some (.int r)) (fun _ => wv z ad E N) := by
  refine CT.of (own := "Ballothall$Poll") (by decide +kernel) (Nat.le_of_ble_eq_true rfl) rfl (fun p e s m below meth c A ls hx hb hml hr hts hown hlocks hin hA hG hZ hP hD hS hl => ?_)
  have hl : lv_has ls 4 [(0, .ref (ad 41))] := hl
  have key : ∀ (H : Heap) (locs : List Loc) (args : Array Value), (∀ w ∈ WG, w.before args s = true) → va_P z.1 classes (wv z ad E M) H → va_S A s.heap H locs → W p l e (rmK 3 89 0 0) s m args below meth c H locs 0 0 (MQ below (QK z A (fun _ => some (.int r)) (fun _ => wv z ad E N)) args s 0 0 A) (F0 m 0 ls []) := by
    intro H locs args hts hP hS
    unfold f_Po_winnersByPaths at h
    refine lv_aload_n hx hb d_11_14_0 rfl (lv_at hl 0 rfl) ?_
    obtain ⟨M0, g0, h⟩ := bd_e h
    refine kV (As := []) (rest := []) (s_Po_findPaths l z ad E M M0 hL g0) hx hb hml hown hts w_729 w_726 w_728 w_s_3d2a4d w_3 md_b5f468 ⟨Nat.le_of_ble_eq_true rfl, Nat.le_of_ble_eq_true rfl⟩ hG hZ hP hD hS hA 41 (wv_o (ci := 9) (yi_41 hL) (yt_41 hL)) rfl rfl rfl hl.1 rfl (Nat.le_of_ble_eq_true rfl) d_11_14_1 ⟨Nat.le_of_ble_eq_true rfl, Nat.le_of_ble_eq_true rfl⟩ (fun _ H locs hP hD hS => ?_)
    have hP : va_P z.1 classes (wv z ad E M0) H := hP
    have hD : va_D A (wv z ad E M0) := hD
    refine W.eq (g2 := F0 m 4 ls []) rfl ?_
    refine lv_aload_n hx hb d_11_14_4 rfl (lv_at hl 0 rfl) ?_
    refine m_gi (C := "Ballothall$Poll") (T := TX9) (N := 12) (ci := 9) (k := 1) hx hb hts iX9 hown hG hP (yi_41 hL) (yt_41 hL) rfl (by decide) w_108 (fun _ h9 => h9) rfl rfl d_11_14_5 ?_
    refine lv_istore_n (lv' := [(1, .int (M0.1 41 1)), (0, .ref (ad 41))]) hx hb d_11_14_8 rfl hl (by decide) rfl (fun ls hl => ?_)
    refine lv_iconst (v := 0) hx hb d_11_14_9 (by decide +kernel) ?_
    refine lv_istore_n (lv' := [(2, .int 0), (1, .int (M0.1 41 1)), (0, .ref (ad 41))]) hx hb d_11_14_10 rfl hl (by decide) rfl (fun ls hl => ?_)
    obtain ⟨⟨t5, v5_1, v5_2, M5⟩, g5, h⟩ := bd_e h
    obtain ⟨ok5, h⟩ := ck_e h
    refine s_Po_winnersByPaths_11 l z ad E hx hb hml hts hown hlocks hA hG hZ hL FU M0 (M0.1 41 1) 0 t5 v5_1 v5_2 M5 g5 (fun e5 H locs ls hP hD hS hl => ?_) H locs ls hP hD hS (lv_sub hl [2, 1, 0] rfl)
    refine lv_iload_n hx hb d_11_14_70 rfl (lv_at hl 0 rfl) ?_
    obtain ⟨rfl, rfl⟩ := in2 h
    exact W.iret hx hb hr (fun t ht hW => qkA hP hD hS (fun k => k) rfl rfl ht) hS.2.2 d_11_14_71
  exact key _ _ _ hts hP hS
set_option maxRecDepth 100000 in
set_option maxHeartbeats 4000000 in
theorem s_B_isBeaterOfAllMissed (l : Launch) (z : Zz) (ad : Nat → Nat) (E : Ev) (M : Mm) (r : Int32) (N : Mm) (hL : Lay E) (h : f_B_isBeaterOfAllMissed E M = some (r, N)) : CT l z ⟨"Ballothall", "isBeaterOfAllMissed", "()Z"⟩ prog_1_method_66_code 2 (some .boolean) [.ref (ad 1)] (wv z ad E M) 4 115 0 0 (fun _ => some (.int r)) (fun _ => wv z ad E N) := by
  refine CT.of (own := "Ballothall") (by decide +kernel) (Nat.le_of_ble_eq_true rfl) rfl (fun p e s m below meth c A ls hx hb hml hr hts hown hlocks hin hA hG hZ hP hD hS hl => ?_)
  have hl : lv_has ls 2 [(0, .ref (ad 1))] := hl
  have key : ∀ (H : Heap) (locs : List Loc) (args : Array Value), (∀ w ∈ WG, w.before args s = true) → va_P z.1 classes (wv z ad E M) H → va_S A s.heap H locs → W p l e (rmK 4 115 0 0) s m args below meth c H locs 0 0 (MQ below (QK z A (fun _ => some (.int r)) (fun _ => wv z ad E N)) args s 0 0 A) (F0 m 0 ls []) := by
    intro H locs args hts hP hS
    unfold f_B_isBeaterOfAllMissed at h
    refine lv_aload_n hx hb d_1_66_0 rfl (lv_at hl 0 rfl) ?_
    refine m_gr (j := 41) (C := "Ballothall") (T := TX11) (N := 14) (ci := 11) (k := 1) hx hb hts iX11 hown hG hP (yi_1 hL) (yt_1 hL) rfl (by decide) w_398 (fun _ h9 => h9) rfl rfl (yr_1_1 hL) d_1_66_1 ?_
    refine lv_aload_n hx hb d_1_66_4 rfl (lv_at hl 0 rfl) ?_
    refine m_gr (j := 2) (C := "Ballothall") (T := TX11) (N := 14) (ci := 11) (k := 0) hx hb hts iX11 hown hG hP (yi_1 hL) (yt_1 hL) rfl (by decide) w_397 (fun _ h9 => h9) rfl rfl (yr_1_0 hL) d_1_66_5 ?_
    obtain ⟨⟨r0, M0⟩, g0, h⟩ := bd_e h
    refine kVN (As := []) (rest := [.ref (ad 41)]) (s_Bx_everybody l z ad E M r0 M0 hL g0) hx hb hml hown hts w_668 n_665 w_667 w_s_8b8b67 w_2 md_b59579 ⟨Nat.le_of_ble_eq_true rfl, Nat.le_of_ble_eq_true rfl⟩ hG hZ hP hD hS hA 2 (wv_o (ci := 0) (yi_2 hL) (yt_2 hL)) rfl rfl rfl hl.1 rfl (Nat.le_of_ble_eq_true rfl) d_1_66_8 ⟨Nat.le_of_ble_eq_true rfl, Nat.le_of_ble_eq_true rfl⟩ (fun _ H locs hP hD hS => ?_)
    have hP : va_P z.1 classes (wv z ad E M0) H := hP
    have hD : va_D A (wv z ad E M0) := hD
    refine W.eq (g2 := F0 m 11 ls [.int r0, .ref (ad 41)]) rfl ?_
    obtain ⟨M1, g1, h⟩ := bd_e h
    refine kVN (As := [.int r0]) (rest := []) (s_Po_open l z ad E M0 r0 M1 hL g1) hx hb hml hown hts w_672 n_669 w_671 w_s_229dc4 w_3 md_60bc9b ⟨Nat.le_of_ble_eq_true rfl, Nat.le_of_ble_eq_true rfl⟩ hG hZ hP hD hS hA 41 (wv_o (ci := 9) (yi_41 hL) (yt_41 hL)) rfl rfl rfl hl.1 rfl (Nat.le_of_ble_eq_true rfl) d_1_66_11 ⟨Nat.le_of_ble_eq_true rfl, Nat.le_of_ble_eq_true rfl⟩ (fun _ H locs hP hD hS => ?_)
    have hP : va_P z.1 classes (wv z ad E M1) H := hP
    have hD : va_D A (wv z ad E M1) := hD
    refine W.eq (g2 := F0 m 14 ls []) rfl ?_
    refine lv_aload_n hx hb d_1_66_14 rfl (lv_at hl 0 rfl) ?_
    refine m_gr (j := 41) (C := "Ballothall") (T := TX11) (N := 14) (ci := 11) (k := 1) hx hb hts iX11 hown hG hP (yi_1 hL) (yt_1 hL) rfl (by decide) w_398 (fun _ h9 => h9) rfl rfl (yr_1_1 hL) d_1_66_15 ?_
    obtain ⟨⟨r2, M2⟩, g2, h⟩ := bd_e h
    refine kVN (As := []) (rest := []) (s_Po_beaterOfAll l z ad E M1 r2 M2 hL g2) hx hb hml hown hts w_697 n_694 w_696 w_s_516c18 w_3 md_056ea1 ⟨Nat.le_of_ble_eq_true rfl, Nat.le_of_ble_eq_true rfl⟩ hG hZ hP hD hS hA 41 (wv_o (ci := 9) (yi_41 hL) (yt_41 hL)) rfl rfl rfl hl.1 rfl (Nat.le_of_ble_eq_true rfl) d_1_66_18 ⟨Nat.le_of_ble_eq_true rfl, Nat.le_of_ble_eq_true rfl⟩ (fun _ H locs hP hD hS => ?_)
    have hP : va_P z.1 classes (wv z ad E M2) H := hP
    have hD : va_D A (wv z ad E M2) := hD
    refine W.eq (g2 := F0 m 21 ls [.int r2]) rfl ?_
    refine lv_istore_n (lv' := [(1, .int r2), (0, .ref (ad 1))]) hx hb d_1_66_21 rfl hl (by decide) rfl (fun ls hl => ?_)
    refine lv_iload_n hx hb d_1_66_22 rfl (lv_at hl 0 rfl) ?_
    refine lv_iconst (v := (-1)) hx hb d_1_66_23 (by decide +kernel) ?_
    refine lv_icmp_ne (tgt := 29) hx hb d_1_66_24 (by decide) (fun c9 => ?_) (fun c9 => ?_)
    · have h := ite_f c9 h
      refine lv_aload_n hx hb d_1_66_29 rfl (lv_at hl 1 rfl) ?_
      refine m_gr (j := 41) (C := "Ballothall") (T := TX11) (N := 14) (ci := 11) (k := 1) hx hb hts iX11 hown hG hP (yi_1 hL) (yt_1 hL) rfl (by decide) w_398 (fun _ h9 => h9) rfl rfl (yr_1_1 hL) d_1_66_30 ?_
      obtain ⟨M3, g3, h⟩ := bd_e h
      refine kVN (As := []) (rest := []) (s_Po_findDistances l z ad E M2 M3 hL g3) hx hb hml hown hts w_713 n_710 w_712 w_s_d32e6f w_3 md_4b14b3 ⟨Nat.le_of_ble_eq_true rfl, Nat.le_of_ble_eq_true rfl⟩ hG hZ hP hD hS hA 41 (wv_o (ci := 9) (yi_41 hL) (yt_41 hL)) rfl rfl rfl hl.1 rfl (Nat.le_of_ble_eq_true rfl) d_1_66_33 ⟨Nat.le_of_ble_eq_true rfl, Nat.le_of_ble_eq_true rfl⟩ (fun _ H locs hP hD hS => ?_)
      have hP : va_P z.1 classes (wv z ad E M3) H := hP
      have hD : va_D A (wv z ad E M3) := hD
      refine W.eq (g2 := F0 m 36 ls []) rfl ?_
      refine lv_aload_n hx hb d_1_66_36 rfl (lv_at hl 1 rfl) ?_
      refine m_gr (j := 41) (C := "Ballothall") (T := TX11) (N := 14) (ci := 11) (k := 1) hx hb hts iX11 hown hG hP (yi_1 hL) (yt_1 hL) rfl (by decide) w_398 (fun _ h9 => h9) rfl rfl (yr_1_1 hL) d_1_66_37 ?_
      obtain ⟨⟨r4, M4⟩, g4, h⟩ := bd_e h
      refine kVN (As := []) (rest := []) (s_Po_winnersByPaths l z ad E M3 r4 M4 hL g4) hx hb hml hown hts w_725 n_722 w_724 w_s_87a59c w_3 md_114b2c ⟨Nat.le_of_ble_eq_true rfl, Nat.le_of_ble_eq_true rfl⟩ hG hZ hP hD hS hA 41 (wv_o (ci := 9) (yi_41 hL) (yt_41 hL)) rfl rfl rfl hl.1 rfl (Nat.le_of_ble_eq_true rfl) d_1_66_40 ⟨Nat.le_of_ble_eq_true rfl, Nat.le_of_ble_eq_true rfl⟩ (fun _ H locs hP hD hS => ?_)
      have hP : va_P z.1 classes (wv z ad E M4) H := hP
      have hD : va_D A (wv z ad E M4) := hD
      refine W.eq (g2 := F0 m 43 ls [.int r4]) rfl ?_
      refine lv_iconst (v := 1) hx hb d_1_66_43 (by decide +kernel) ?_
      refine lv_iload_n hx hb d_1_66_44 rfl (lv_at hl 0 rfl) ?_
      refine lv_ishl hx hb d_1_66_45 ?_
      refine lv_icmp_ne (tgt := 61) hx hb d_1_66_46 (by decide) (fun c9 => ?_) (fun c9 => ?_)
      · have h := ite_f c9 h
        refine lv_iconst (v := 1) hx hb d_1_66_61 (by decide +kernel) ?_
        refine lv_goto (tgt := 66) hx hb d_1_66_62 (by decide) ?_
        obtain ⟨rfl, rfl⟩ := in2 h
        exact W.zret hx hb hr rfl (fun t ht hW => qkA hP hD hS (fun k => k) rfl rfl ht) hS.2.2 d_1_66_66
      · have h := ite_t c9 h
        refine lv_aload_n hx hb d_1_66_49 rfl (lv_at hl 1 rfl) ?_
        refine m_gr (j := 41) (C := "Ballothall") (T := TX11) (N := 14) (ci := 11) (k := 1) hx hb hts iX11 hown hG hP (yi_1 hL) (yt_1 hL) rfl (by decide) w_398 (fun _ h9 => h9) rfl rfl (yr_1_1 hL) d_1_66_50 ?_
        refine lv_iconst (v := 0) hx hb d_1_66_53 (by decide +kernel) ?_
        obtain ⟨⟨r5, M5⟩, g5, h⟩ := bd_e h
        refine kVN (As := [.int 0]) (rest := []) (s_Po_consensusPlace l z ad E M4 0 r5 M5 hL g5) hx hb hml hown hts w_742 n_739 w_741 w_s_cb37ef w_3 md_2413b1 ⟨Nat.le_of_ble_eq_true rfl, Nat.le_of_ble_eq_true rfl⟩ hG hZ hP hD hS hA 41 (wv_o (ci := 9) (yi_41 hL) (yt_41 hL)) rfl rfl rfl hl.1 rfl (Nat.le_of_ble_eq_true rfl) d_1_66_54 ⟨Nat.le_of_ble_eq_true rfl, Nat.le_of_ble_eq_true rfl⟩ (fun _ H locs hP hD hS => ?_)
        have hP : va_P z.1 classes (wv z ad E M5) H := hP
        have hD : va_D A (wv z ad E M5) := hD
        refine W.eq (g2 := F0 m 57 ls [.int r5]) rfl ?_
        refine lv_iload_n hx hb d_1_66_57 rfl (lv_at hl 0 rfl) ?_
        refine lv_icmp_eq (tgt := 65) hx hb d_1_66_58 (by decide) (fun c9 => ?_) (fun c9 => ?_)
        · have h := ite_t c9 h
          refine lv_iconst (v := 0) hx hb d_1_66_65 (by decide +kernel) ?_
          obtain ⟨rfl, rfl⟩ := in2 h
          exact W.zret hx hb hr rfl (fun t ht hW => qkA hP hD hS (fun k => k) rfl rfl ht) hS.2.2 d_1_66_66
        · have h := ite_f c9 h
          refine lv_iconst (v := 1) hx hb d_1_66_61 (by decide +kernel) ?_
          refine lv_goto (tgt := 66) hx hb d_1_66_62 (by decide) ?_
          obtain ⟨rfl, rfl⟩ := in2 h
          exact W.zret hx hb hr rfl (fun t ht hW => qkA hP hD hS (fun k => k) rfl rfl ht) hS.2.2 d_1_66_66
    · have h := ite_t c9 h
      refine lv_iconst (v := 0) hx hb d_1_66_27 (by decide +kernel) ?_
      obtain ⟨rfl, rfl⟩ := in2 h
      exact W.zret hx hb hr rfl (fun t ht hW => qkA hP hD hS (fun k => k) rfl rfl ht) hS.2.2 d_1_66_28
  exact key _ _ _ hts hP hS
set_option maxRecDepth 100000 in
set_option maxHeartbeats 4000000 in
theorem b_Cl_findSums_12b (l : Launch) (z : Zz) (ad : Nat → Nat) (E : Ev) (M : Mm) (x1 : Int32) (x2 : Int32) (t : Nat) (w2 : Int32) (N : Mm) {Q : State → Prop} {p : Program} {e : Env} {s : State} {m : MethodId} {below : List Frame} {meth : Method} {c : Code} {A : Nat → Prop} {args : Array Value} (hx : p.tables.exec = Jvm.exec) (hb : c.code = prog_3_method_3_code) (hml : c.maxLocals = 3) (hts : ∀ w ∈ WG, w.before args s = true) (hown : s.vm.findClass "Ballothall$Council" = some m.cls) (hlocks : meth.locks = false) (hA : ∀ q, s.heap.size ≤ q → A q) (hG : KG z s) (hZ : FZ z A s) (hL : Lay E) (h : Cl_findSums_12b E M x1 x2 = some (t, w2, N)) (k0 : t = 0 → ∀ (H : Heap) (locs : List Loc) (ls : Array Slot), va_P z.1 classes (wv z ad E N) H → va_D A (wv z ad E N) → va_S A s.heap H locs → lv_has ls 3 [(0, .ref (ad 243)), (1, .int x1), (2, .int w2)] → W p l e (rmK 0 20 0 0) s m args below meth c H locs 0 0 Q (F0 m 12 ls [])) (k1 : t = 1 → ∀ (H : Heap) (locs : List Loc) (ls : Array Slot), va_P z.1 classes (wv z ad E N) H → va_D A (wv z ad E N) → va_S A s.heap H locs → lv_has ls 3 [(0, .ref (ad 243)), (1, .int x1)] → W p l e (rmK 0 20 0 0) s m args below meth c H locs 0 0 Q (F0 m 48 ls [])) : ∀ (H : Heap) (locs : List Loc) (ls : Array Slot), va_P z.1 classes (wv z ad E M) H → va_D A (wv z ad E M) → va_S A s.heap H locs → lv_has ls 3 [(0, .ref (ad 243)), (1, .int x1), (2, .int x2)] → W p l e (rmK 0 20 0 0) s m args below meth c H locs 0 0 Q (F0 m 12 ls []) := by
  intro H locs ls hP hD hS hl
  unfold Cl_findSums_12b at h
  refine lv_iload_n hx hb d_3_3_12 rfl (lv_at hl 2 rfl) ?_
  refine lv_iconst (v := 1) hx hb d_3_3_13 (by decide +kernel) ?_
  refine lv_iload_n hx hb d_3_3_14 rfl (lv_at hl 1 rfl) ?_
  refine lv_ishl hx hb d_3_3_15 ?_
  refine lv_icmp_ge (tgt := 48) hx hb d_3_3_16 (by decide) (fun c9 => ?_) (fun c9 => ?_)
  · have h := ite_t c9 h
    obtain ⟨rfl, rfl, rfl⟩ := in3 h
    exact k1 rfl H locs ls hP hD hS (lv_sub hl [0, 1] rfl)
  · have h := ite_f c9 h
    refine lv_aload_n hx hb d_3_3_19 rfl (lv_at hl 0 rfl) ?_
    refine m_gr (j := 245) (C := "Ballothall$Council") (T := TX1) (N := 4) (ci := 1) (k := 3) hx hb hts iX1 hown hG hP (yi_243 hL) (yt_243 hL) rfl (by decide) w_387 (fun _ h9 => h9) rfl rfl (yr_243_3 hL) d_3_3_20 ?_
    refine lv_iload_n hx hb d_3_3_23 rfl (lv_at hl 2 rfl) ?_
    refine lv_iconst (v := 1) hx hb d_3_3_24 (by decide +kernel) ?_
    refine lv_iload_n hx hb d_3_3_25 rfl (lv_at hl 1 rfl) ?_
    refine lv_ishl hx hb d_3_3_26 ?_
    refine lv_ior hx hb d_3_3_27 ?_
    refine lv_aload_n hx hb d_3_3_28 rfl (lv_at hl 0 rfl) ?_
    refine m_gr (j := 245) (C := "Ballothall$Council") (T := TX1) (N := 4) (ci := 1) (k := 3) hx hb hts iX1 hown hG hP (yi_243 hL) (yt_243 hL) rfl (by decide) w_387 (fun _ h9 => h9) rfl rfl (yr_243_3 hL) d_3_3_29 ?_
    refine lv_iload_n hx hb d_3_3_32 rfl (lv_at hl 2 rfl) ?_
    obtain ⟨ok0, h⟩ := ck_e h
    refine m_ia hx hb hG hP (yi_245 hL) (yt_245 hL) ok0 d_3_3_33 ?_
    refine lv_aload_n hx hb d_3_3_34 rfl (lv_at hl 0 rfl) ?_
    refine m_gr (j := 244) (C := "Ballothall$Council") (T := TX1) (N := 4) (ci := 1) (k := 2) hx hb hts iX1 hown hG hP (yi_243 hL) (yt_243 hL) rfl (by decide) w_386 (fun _ h9 => h9) rfl rfl (yr_243_2 hL) d_3_3_35 ?_
    refine lv_iload_n hx hb d_3_3_38 rfl (lv_at hl 1 rfl) ?_
    obtain ⟨ok1, h⟩ := ck_e h
    refine m_ia hx hb hG hP (yi_244 hL) (yt_244 hL) ok1 d_3_3_39 ?_
    refine lv_iadd hx hb d_3_3_40 ?_
    obtain ⟨v2, e2, h⟩ := nb_e h
    refine nrm e2.symm ?_
    obtain ⟨ok3, h⟩ := ck_e h
    refine m_is hx hb hG hP hD hS (yi_245 hL) (yt_245 hL) ok3 d_3_3_41 (fun H locs hP hD hS => ?_)
    have hP : va_P z.1 classes (wv z ad E (u2 M 245 (x2 ||| ((1 : Int32) <<< (x1 &&& 31))).toNatClampNeg v2)) H := hP
    have hD : va_D A (wv z ad E (u2 M 245 (x2 ||| ((1 : Int32) <<< (x1 &&& 31))).toNatClampNeg v2)) := hD
    refine lv_iinc (v := (x2 + 1)) (lv' := [(2, .int (x2 + 1)), (0, .ref (ad 243)), (1, .int x1)]) hx hb d_3_3_42 hl (k := 2) rfl (congrArg (fun q => x2 + q) (show Int32.ofInt 1 = 1 by decide +kernel)) (by decide) rfl (fun ls hl => ?_)
    refine lv_goto (tgt := 12) hx hb d_3_3_45 (by decide) ?_
    obtain ⟨rfl, rfl, rfl⟩ := in3 h
    exact k0 rfl H locs ls hP hD hS (lv_sub hl [1, 2, 0] rfl)
set_option maxRecDepth 100000 in
set_option maxHeartbeats 4000000 in
theorem s_Cl_findSums_12 (l : Launch) (z : Zz) (ad : Nat → Nat) (E : Ev) (x1 : Int32) {Q : State → Prop} {p : Program} {e : Env} {s : State} {m : MethodId} {below : List Frame} {meth : Method} {c : Code} {A : Nat → Prop} {args : Array Value} (hx : p.tables.exec = Jvm.exec) (hb : c.code = prog_3_method_3_code) (hml : c.maxLocals = 3) (hts : ∀ w ∈ WG, w.before args s = true) (hown : s.vm.findClass "Ballothall$Council" = some m.cls) (hlocks : meth.locks = false) (hA : ∀ q, s.heap.size ≤ q → A q) (hG : KG z s) (hZ : FZ z A s) (hL : Lay E) : ∀ (fu : Nat) (M : Mm) (x2 : Int32) (t : Nat) (w2 : Int32) (N : Mm), l_Cl_findSums_12 E x1 fu M x2 = some (t, w2, N) → (t = 1 → ∀ (H : Heap) (locs : List Loc) (ls : Array Slot), va_P z.1 classes (wv z ad E N) H → va_D A (wv z ad E N) → va_S A s.heap H locs → lv_has ls 3 [(0, .ref (ad 243)), (1, .int x1)] → W p l e (rmK 0 20 0 0) s m args below meth c H locs 0 0 Q (F0 m 48 ls [])) → ∀ (H : Heap) (locs : List Loc) (ls : Array Slot), va_P z.1 classes (wv z ad E M) H → va_D A (wv z ad E M) → va_S A s.heap H locs → lv_has ls 3 [(0, .ref (ad 243)), (1, .int x1), (2, .int x2)] → W p l e (rmK 0 20 0 0) s m args below meth c H locs 0 0 Q (F0 m 12 ls []) := by
  intro fu
  induction fu with
  | zero =>
    intro M x2 t w2 N h
    have h : (none : Option (Nat × Int32 × Mm)) = some _ := h
    cases h
  | succ fu ih =>
    intro M x2 t w2 N h k1 H locs ls hP hD hS hl
    obtain ⟨⟨t0, w20, N0⟩, g0, h⟩ := bd_e h
    refine b_Cl_findSums_12b l z ad E M x1 x2 t0 w20 N0 hx hb hml hts hown hlocks hA hG hZ hL g0 (fun e0 => ?_) (fun e0 => ?_) H locs ls hP hD hS hl
    · subst e0
      have h := ite_t rfl h
      exact ih N0 w20 t w2 N h k1
    · subst e0
      have h := ite_f (by decide) h
      obtain ⟨rfl, rfl, rfl⟩ := in3 h
      exact k1 rfl
set_option maxRecDepth 100000 in
set_option maxHeartbeats 4000000 in
theorem b_Cl_findSums_2b (l : Launch) (z : Zz) (ad : Nat → Nat) (E : Ev) (M : Mm) (x1 : Int32) (t : Nat) (w1 : Int32) (N : Mm) {Q : State → Prop} {p : Program} {e : Env} {s : State} {m : MethodId} {below : List Frame} {meth : Method} {c : Code} {A : Nat → Prop} {args : Array Value} (hx : p.tables.exec = Jvm.exec) (hb : c.code = prog_3_method_3_code) (hml : c.maxLocals = 3) (hts : ∀ w ∈ WG, w.before args s = true) (hown : s.vm.findClass "Ballothall$Council" = some m.cls) (hlocks : meth.locks = false) (hA : ∀ q, s.heap.size ≤ q → A q) (hG : KG z s) (hZ : FZ z A s) (hL : Lay E) (h : Cl_findSums_2b E M x1 = some (t, w1, N)) (k0 : t = 0 → ∀ (H : Heap) (locs : List Loc) (ls : Array Slot), va_P z.1 classes (wv z ad E N) H → va_D A (wv z ad E N) → va_S A s.heap H locs → lv_has ls 3 [(0, .ref (ad 243)), (1, .int w1)] → W p l e (rmK 0 20 0 0) s m args below meth c H locs 0 0 Q (F0 m 2 ls [])) (k1 : t = 1 → ∀ (H : Heap) (locs : List Loc) (ls : Array Slot), va_P z.1 classes (wv z ad E N) H → va_D A (wv z ad E N) → va_S A s.heap H locs → lv_has ls 3 [] → W p l e (rmK 0 20 0 0) s m args below meth c H locs 0 0 Q (F0 m 54 ls [])) : ∀ (H : Heap) (locs : List Loc) (ls : Array Slot), va_P z.1 classes (wv z ad E M) H → va_D A (wv z ad E M) → va_S A s.heap H locs → lv_has ls 3 [(0, .ref (ad 243)), (1, .int x1)] → W p l e (rmK 0 20 0 0) s m args below meth c H locs 0 0 Q (F0 m 2 ls []) := by
  intro H locs ls hP hD hS hl
  unfold Cl_findSums_2b at h
  refine lv_iload_n hx hb d_3_3_2 rfl (lv_at hl 1 rfl) ?_
  refine lv_aload_n hx hb d_3_3_3 rfl (lv_at hl 0 rfl) ?_
  refine m_gi (C := "Ballothall$Council") (T := TX1) (N := 4) (ci := 1) (k := 0) hx hb hts iX1 hown hG hP (yi_243 hL) (yt_243 hL) rfl (by decide) w_382 (fun _ h9 => h9) rfl rfl d_3_3_4 ?_
  refine lv_icmp_ge (tgt := 54) hx hb d_3_3_7 (by decide) (fun c9 => ?_) (fun c9 => ?_)
  · have h := ite_t c9 h
    obtain ⟨rfl, rfl, rfl⟩ := in3 h
    exact k1 rfl H locs ls hP hD hS (lv_sub hl [] rfl)
  · have h := ite_f c9 h
    refine lv_iconst (v := 0) hx hb d_3_3_10 (by decide +kernel) ?_
    refine lv_istore_n (lv' := [(2, .int 0), (0, .ref (ad 243)), (1, .int x1)]) hx hb d_3_3_11 rfl hl (by decide) rfl (fun ls hl => ?_)
    obtain ⟨⟨t4, v4_2, M4⟩, g4, h⟩ := bd_e h
    obtain ⟨ok4, h⟩ := ck_e h
    refine s_Cl_findSums_12 l z ad E x1 hx hb hml hts hown hlocks hA hG hZ hL FU M 0 t4 v4_2 M4 g4 (fun e4 H locs ls hP hD hS hl => ?_) H locs ls hP hD hS (lv_sub hl [1, 2, 0] rfl)
    refine lv_iinc (v := (x1 + 1)) (lv' := [(1, .int (x1 + 1)), (0, .ref (ad 243))]) hx hb d_3_3_48 hl (k := 1) rfl (congrArg (fun q => x1 + q) (show Int32.ofInt 1 = 1 by decide +kernel)) (by decide) rfl (fun ls hl => ?_)
    refine lv_goto (tgt := 2) hx hb d_3_3_51 (by decide) ?_
    obtain ⟨rfl, rfl, rfl⟩ := in3 h
    exact k0 rfl H locs ls hP hD hS (lv_sub hl [1, 0] rfl)
set_option maxRecDepth 100000 in
set_option maxHeartbeats 4000000 in
theorem s_Cl_findSums_2 (l : Launch) (z : Zz) (ad : Nat → Nat) (E : Ev) {Q : State → Prop} {p : Program} {e : Env} {s : State} {m : MethodId} {below : List Frame} {meth : Method} {c : Code} {A : Nat → Prop} {args : Array Value} (hx : p.tables.exec = Jvm.exec) (hb : c.code = prog_3_method_3_code) (hml : c.maxLocals = 3) (hts : ∀ w ∈ WG, w.before args s = true) (hown : s.vm.findClass "Ballothall$Council" = some m.cls) (hlocks : meth.locks = false) (hA : ∀ q, s.heap.size ≤ q → A q) (hG : KG z s) (hZ : FZ z A s) (hL : Lay E) : ∀ (fu : Nat) (M : Mm) (x1 : Int32) (t : Nat) (w1 : Int32) (N : Mm), l_Cl_findSums_2 E fu M x1 = some (t, w1, N) → (t = 1 → ∀ (H : Heap) (locs : List Loc) (ls : Array Slot), va_P z.1 classes (wv z ad E N) H → va_D A (wv z ad E N) → va_S A s.heap H locs → lv_has ls 3 [] → W p l e (rmK 0 20 0 0) s m args below meth c H locs 0 0 Q (F0 m 54 ls [])) → ∀ (H : Heap) (locs : List Loc) (ls : Array Slot), va_P z.1 classes (wv z ad E M) H → va_D A (wv z ad E M) → va_S A s.heap H locs → lv_has ls 3 [(0, .ref (ad 243)), (1, .int x1)] → W p l e (rmK 0 20 0 0) s m args below meth c H locs 0 0 Q (F0 m 2 ls []) := by
  intro fu
  induction fu with
  | zero =>
    intro M x1 t w1 N h
    have h : (none : Option (Nat × Int32 × Mm)) = some _ := h
    cases h
  | succ fu ih =>
    intro M x1 t w1 N h k1 H locs ls hP hD hS hl
    obtain ⟨⟨t0, w10, N0⟩, g0, h⟩ := bd_e h
    refine b_Cl_findSums_2b l z ad E M x1 t0 w10 N0 hx hb hml hts hown hlocks hA hG hZ hL g0 (fun e0 => ?_) (fun e0 => ?_) H locs ls hP hD hS hl
    · subst e0
      have h := ite_t rfl h
      exact ih N0 w10 t w1 N h k1
    · subst e0
      have h := ite_f (by decide) h
      obtain ⟨rfl, rfl, rfl⟩ := in3 h
      exact k1 rfl
set_option maxRecDepth 100000 in
set_option maxHeartbeats 4000000 in
theorem s_Cl_findSums (l : Launch) (z : Zz) (ad : Nat → Nat) (E : Ev) (M : Mm) (N : Mm) (hL : Lay E) (h : f_Cl_findSums E M = some N) : CT l z ⟨"Ballothall$Council", "findSums", "()V"⟩ prog_3_method_3_code 3 none [.ref (ad 243)] (wv z ad E M) 0 20 0 0 (fun _ => none) (fun _ => wv z ad E N) := by
  refine CT.of (own := "Ballothall$Council") (by decide +kernel) (Nat.le_of_ble_eq_true rfl) rfl (fun p e s m below meth c A ls hx hb hml hr hts hown hlocks hin hA hG hZ hP hD hS hl => ?_)
  have hl : lv_has ls 3 [(0, .ref (ad 243))] := hl
  have key : ∀ (H : Heap) (locs : List Loc) (args : Array Value), (∀ w ∈ WG, w.before args s = true) → va_P z.1 classes (wv z ad E M) H → va_S A s.heap H locs → W p l e (rmK 0 20 0 0) s m args below meth c H locs 0 0 (MQ below (QK z A (fun _ => none) (fun _ => wv z ad E N)) args s 0 0 A) (F0 m 0 ls []) := by
    intro H locs args hts hP hS
    unfold f_Cl_findSums at h
    refine lv_iconst (v := 0) hx hb d_3_3_0 (by decide +kernel) ?_
    refine lv_istore_n (lv' := [(1, .int 0), (0, .ref (ad 243))]) hx hb d_3_3_1 rfl hl (by decide) rfl (fun ls hl => ?_)
    obtain ⟨⟨t5, v5_1, M5⟩, g5, h⟩ := bd_e h
    obtain ⟨ok5, h⟩ := ck_e h
    refine s_Cl_findSums_2 l z ad E hx hb hml hts hown hlocks hA hG hZ hL FU M 0 t5 v5_1 M5 g5 (fun e5 H locs ls hP hD hS hl => ?_) H locs ls hP hD hS (lv_sub hl [1, 0] rfl)
    obtain rfl := in1 h
    exact W.vret hx hb hr (fun t ht hW => qkA hP hD hS (fun k => k) rfl rfl ht) hS.2.2 d_3_3_54
  exact key _ _ _ hts hP hS
set_option maxRecDepth 100000 in
set_option maxHeartbeats 4000000 in
theorem s_Cl_isSwung (l : Launch) (z : Zz) (ad : Nat → Nat) (E : Ev) (M : Mm) (x1 : Int32) (x2 : Int32) (r : Int32) (N : Mm) (hL : Lay E) (h : f_Cl_isSwung E M x1 x2 = some (r, N)) : CT l z ⟨"Ballothall$Council", "isSwung", "(II)Z"⟩ prog_3_method_4_code 3 (some .boolean) [.ref (ad 243), .int x1, .int x2] (wv z ad E M) 1 41 0 0 (fun _ => some (.int r)) (fun _ => wv z ad E N) := by
  refine CT.of (own := "Ballothall$Council") (by decide +kernel) (Nat.le_of_ble_eq_true rfl) rfl (fun p e s m below meth c A ls hx hb hml hr hts hown hlocks hin hA hG hZ hP hD hS hl => ?_)
  have hl : lv_has ls 3 [(0, .ref (ad 243)), (1, .int x1), (2, .int x2)] := hl
  have key : ∀ (H : Heap) (locs : List Loc) (args : Array Value), (∀ w ∈ WG, w.before args s = true) → va_P z.1 classes (wv z ad E M) H → va_S A s.heap H locs → W p l e (rmK 1 41 0 0) s m args below meth c H locs 0 0 (MQ below (QK z A (fun _ => some (.int r)) (fun _ => wv z ad E N)) args s 0 0 A) (F0 m 0 ls []) := by
    intro H locs args hts hP hS
    unfold f_Cl_isSwung at h
    refine lv_aload_n hx hb d_3_4_0 rfl (lv_at hl 0 rfl) ?_
    refine m_gr (j := 245) (C := "Ballothall$Council") (T := TX1) (N := 4) (ci := 1) (k := 3) hx hb hts iX1 hown hG hP (yi_243 hL) (yt_243 hL) rfl (by decide) w_387 (fun _ h9 => h9) rfl rfl (yr_243_3 hL) d_3_4_1 ?_
    refine lv_iload_n hx hb d_3_4_4 rfl (lv_at hl 1 rfl) ?_
    obtain ⟨ok0, h⟩ := ck_e h
    refine m_ia hx hb hG hP (yi_245 hL) (yt_245 hL) ok0 d_3_4_5 ?_
    refine lv_aload_n hx hb d_3_4_6 rfl (lv_at hl 0 rfl) ?_
    refine m_gi (C := "Ballothall$Council") (T := TX1) (N := 4) (ci := 1) (k := 1) hx hb hts iX1 hown hG hP (yi_243 hL) (yt_243 hL) rfl (by decide) w_384 (fun _ h9 => h9) rfl rfl d_3_4_7 ?_
    refine lv_icmp_ge (tgt := 45) hx hb d_3_4_10 (by decide) (fun c9 => ?_) (fun c9 => ?_)
    · have h := ite_t c9 h
      refine lv_iconst (v := 0) hx hb d_3_4_45 (by decide +kernel) ?_
      obtain ⟨rfl, rfl⟩ := in2 h
      exact W.zret hx hb hr rfl (fun t ht hW => qkA hP hD hS (fun k => k) rfl rfl ht) hS.2.2 d_3_4_46
    · have h := ite_f c9 h
      refine lv_aload_n hx hb d_3_4_13 rfl (lv_at hl 0 rfl) ?_
      refine m_gr (j := 245) (C := "Ballothall$Council") (T := TX1) (N := 4) (ci := 1) (k := 3) hx hb hts iX1 hown hG hP (yi_243 hL) (yt_243 hL) rfl (by decide) w_387 (fun _ h9 => h9) rfl rfl (yr_243_3 hL) d_3_4_14 ?_
      refine lv_iload_n hx hb d_3_4_17 rfl (lv_at hl 1 rfl) ?_
      obtain ⟨ok1, h⟩ := ck_e h
      refine m_ia hx hb hG hP (yi_245 hL) (yt_245 hL) ok1 d_3_4_18 ?_
      refine lv_aload_n hx hb d_3_4_19 rfl (lv_at hl 0 rfl) ?_
      refine m_gr (j := 244) (C := "Ballothall$Council") (T := TX1) (N := 4) (ci := 1) (k := 2) hx hb hts iX1 hown hG hP (yi_243 hL) (yt_243 hL) rfl (by decide) w_386 (fun _ h9 => h9) rfl rfl (yr_243_2 hL) d_3_4_20 ?_
      refine lv_iload_n hx hb d_3_4_23 rfl (lv_at hl 2 rfl) ?_
      obtain ⟨ok2, h⟩ := ck_e h
      refine m_ia hx hb hG hP (yi_244 hL) (yt_244 hL) ok2 d_3_4_24 ?_
      refine lv_iadd hx hb d_3_4_25 ?_
      refine lv_aload_n hx hb d_3_4_26 rfl (lv_at hl 0 rfl) ?_
      refine m_gi (C := "Ballothall$Council") (T := TX1) (N := 4) (ci := 1) (k := 1) hx hb hts iX1 hown hG hP (yi_243 hL) (yt_243 hL) rfl (by decide) w_384 (fun _ h9 => h9) rfl rfl d_3_4_27 ?_
      refine lv_icmp_lt (tgt := 45) hx hb d_3_4_30 (by decide) (fun c9 => ?_) (fun c9 => ?_)
      · have h := ite_t c9 h
        refine lv_iconst (v := 0) hx hb d_3_4_45 (by decide +kernel) ?_
        obtain ⟨rfl, rfl⟩ := in2 h
        exact W.zret hx hb hr rfl (fun t ht hW => qkA hP hD hS (fun k => k) rfl rfl ht) hS.2.2 d_3_4_46
      · have h := ite_f c9 h
        refine lv_iload_n hx hb d_3_4_33 rfl (lv_at hl 1 rfl) ?_
        refine lv_iload_n hx hb d_3_4_34 rfl (lv_at hl 2 rfl) ?_
        obtain ⟨⟨r3, M3⟩, g3, h⟩ := bd_e h
        refine kSN (As := [.int x1, .int x2]) (rest := []) (s_B_has l z ad E M x1 x2 r3 M3 hL g3) hx hb hml hown hts w_693 n_763 w_692 w_1 md_26545c ⟨Nat.le_of_ble_eq_true rfl, Nat.le_of_ble_eq_true rfl⟩ hG hZ hP hD hS hA rfl hl.1 rfl (Nat.le_of_ble_eq_true rfl) d_3_4_35 ⟨Nat.le_of_ble_eq_true rfl, Nat.le_of_ble_eq_true rfl⟩ (fun _ H locs hP hD hS => ?_)
        have hP : va_P z.1 classes (wv z ad E M3) H := hP
        have hD : va_D A (wv z ad E M3) := hD
        refine W.eq (g2 := F0 m 38 ls [.int r3]) rfl ?_
        refine lv_if_ne (tgt := 45) hx hb d_3_4_38 (by decide) (fun c9 => ?_) (fun c9 => ?_)
        · have h := ite_f c9 h
          refine lv_iconst (v := 0) hx hb d_3_4_45 (by decide +kernel) ?_
          obtain ⟨rfl, rfl⟩ := in2 h
          exact W.zret hx hb hr rfl (fun t ht hW => qkA hP hD hS (fun k => k) rfl rfl ht) hS.2.2 d_3_4_46
        · have h := ite_t c9 h
          refine lv_iconst (v := 1) hx hb d_3_4_41 (by decide +kernel) ?_
          refine lv_goto (tgt := 46) hx hb d_3_4_42 (by decide) ?_
          obtain ⟨rfl, rfl⟩ := in2 h
          exact W.zret hx hb hr rfl (fun t ht hW => qkA hP hD hS (fun k => k) rfl rfl ht) hS.2.2 d_3_4_46
  exact key _ _ _ hts hP hS
set_option maxRecDepth 100000 in
set_option maxHeartbeats 4000000 in
theorem b_Cl_ordersTurnedBy_5b (l : Launch) (z : Zz) (ad : Nat → Nat) (E : Ev) (M : Mm) (x1 : Int32) (x2 : Int64) (x4 : Int32) (t : Nat) (w2 : Int64) (w4 : Int32) (N : Mm) {Q : State → Prop} {p : Program} {e : Env} {s : State} {m : MethodId} {below : List Frame} {meth : Method} {c : Code} {A : Nat → Prop} {args : Array Value} (hx : p.tables.exec = Jvm.exec) (hb : c.code = prog_3_method_6_code) (hml : c.maxLocals = 6) (hts : ∀ w ∈ WG, w.before args s = true) (hown : s.vm.findClass "Ballothall$Council" = some m.cls) (hlocks : meth.locks = false) (hA : ∀ q, s.heap.size ≤ q → A q) (hG : KG z s) (hZ : FZ z A s) (hL : Lay E) (h : Cl_ordersTurnedBy_5b E M x1 x2 x4 = some (t, w2, w4, N)) (k0 : t = 0 → ∀ (H : Heap) (locs : List Loc) (ls : Array Slot), va_P z.1 classes (wv z ad E N) H → va_D A (wv z ad E N) → va_S A s.heap H locs → lv_has ls 6 [(0, .ref (ad 243)), (1, .int x1), (2, .long w2), (4, .int w4)] → W p l e (rmK 2 63 0 0) s m args below meth c H locs 0 0 Q (F0 m 5 ls [])) (k1 : t = 1 → ∀ (H : Heap) (locs : List Loc) (ls : Array Slot), va_P z.1 classes (wv z ad E N) H → va_D A (wv z ad E N) → va_S A s.heap H locs → lv_has ls 6 [(2, .long w2)] → W p l e (rmK 2 63 0 0) s m args below meth c H locs 0 0 Q (F0 m 62 ls [])) : ∀ (H : Heap) (locs : List Loc) (ls : Array Slot), va_P z.1 classes (wv z ad E M) H → va_D A (wv z ad E M) → va_S A s.heap H locs → lv_has ls 6 [(0, .ref (ad 243)), (1, .int x1), (2, .long x2), (4, .int x4)] → W p l e (rmK 2 63 0 0) s m args below meth c H locs 0 0 Q (F0 m 5 ls []) := by
  intro H locs ls hP hD hS hl
  unfold Cl_ordersTurnedBy_5b at h
  refine lv_iload hx hb d_3_6_5 (lv_at hl 3 rfl) ?_
  refine lv_iconst (v := 1) hx hb d_3_6_7 (by decide +kernel) ?_
  refine lv_aload_n hx hb d_3_6_8 rfl (lv_at hl 0 rfl) ?_
  refine m_gi (C := "Ballothall$Council") (T := TX1) (N := 4) (ci := 1) (k := 0) hx hb hts iX1 hown hG hP (yi_243 hL) (yt_243 hL) rfl (by decide) w_382 (fun _ h9 => h9) rfl rfl d_3_6_9 ?_
  refine lv_ishl hx hb d_3_6_12 ?_
  refine lv_icmp_ge (tgt := 62) hx hb d_3_6_13 (by decide) (fun c9 => ?_) (fun c9 => ?_)
  · have h := ite_t c9 h
    obtain ⟨rfl, rfl, rfl, rfl⟩ := in4 h
    exact k1 rfl H locs ls hP hD hS (lv_sub hl [2] rfl)
  · have h := ite_f c9 h
    refine lv_aload_n hx hb d_3_6_16 rfl (lv_at hl 0 rfl) ?_
    refine lv_iload hx hb d_3_6_17 (lv_at hl 3 rfl) ?_
    refine lv_iload_n hx hb d_3_6_19 rfl (lv_at hl 1 rfl) ?_
    obtain ⟨⟨r0, M0⟩, g0, h⟩ := bd_e h
    refine kV (As := [.int x4, .int x1]) (rest := []) (s_Cl_isSwung l z ad E M x4 x1 r0 M0 hL g0) hx hb hml hown hts w_762 w_759 w_761 w_s_ce08ed w_11 md_99b449 ⟨Nat.le_of_ble_eq_true rfl, Nat.le_of_ble_eq_true rfl⟩ hG hZ hP hD hS hA 243 (wv_o (ci := 1) (yi_243 hL) (yt_243 hL)) rfl rfl rfl hl.1 rfl (Nat.le_of_ble_eq_true rfl) d_3_6_20 ⟨Nat.le_of_ble_eq_true rfl, Nat.le_of_ble_eq_true rfl⟩ (fun _ H locs hP hD hS => ?_)
    have hP : va_P z.1 classes (wv z ad E M0) H := hP
    have hD : va_D A (wv z ad E M0) := hD
    refine W.eq (g2 := F0 m 23 ls [.int r0]) rfl ?_
    refine lv_if_eq (tgt := 56) hx hb d_3_6_23 (by decide) (fun c9 => ?_) (fun c9 => ?_)
    · have h := ite_t c9 h
      refine lv_iinc (v := (x4 + 1)) (lv' := [(4, .int (x4 + 1)), (0, .ref (ad 243)), (1, .int x1), (2, .long x2)]) hx hb d_3_6_56 hl (k := 3) rfl (congrArg (fun q => x4 + q) (show Int32.ofInt 1 = 1 by decide +kernel)) (by decide) rfl (fun ls hl => ?_)
      refine lv_goto (tgt := 5) hx hb d_3_6_59 (by decide) ?_
      obtain ⟨rfl, rfl, rfl, rfl⟩ := in4 h
      exact k0 rfl H locs ls hP hD hS (lv_sub hl [1, 2, 3, 0] rfl)
    · have h := ite_f c9 h
      refine lv_iload hx hb d_3_6_26 (lv_at hl 3 rfl) ?_
      obtain ⟨⟨r1, M1⟩, g1, h⟩ := bd_e h
      refine kS (As := [.int x4]) (rest := []) (s_In_bitCount l z ad E M0 x4 r1 M1 hL g1) hx hb hml hown hts w_657 w_764 w_656 w_30 md_eafe8c ⟨Nat.le_of_ble_eq_true rfl, Nat.le_of_ble_eq_true rfl⟩ hG hZ hP hD hS hA rfl hl.1 rfl (Nat.le_of_ble_eq_true rfl) d_3_6_28 ⟨Nat.le_of_ble_eq_true rfl, Nat.le_of_ble_eq_true rfl⟩ (fun _ H locs hP hD hS => ?_)
      have hP : va_P z.1 classes (wv z ad E M1) H := hP
      have hD : va_D A (wv z ad E M1) := hD
      refine W.eq (g2 := F0 m 31 ls [.int r1]) rfl ?_
      refine lv_istore (lv' := [(5, .int r1), (0, .ref (ad 243)), (1, .int x1), (2, .long x2), (4, .int x4)]) hx hb d_3_6_31 hl (by decide) rfl (fun ls hl => ?_)
      refine lv_lload_n hx hb d_3_6_33 rfl (lv_at hl 3 rfl) ?_
      obtain ⟨fa, hf1, hf2, hf3, hf4⟩ := id hZ
      refine va_getsN hx hb hf1 hS hown (va_Nw.use rfl (hG.2.1 _ n_765 rfl)) (fun _ h9 => h9) d_3_6_34 ?_
      refine lv_iload hx hb d_3_6_37 (lv_at hl 0 rfl) ?_
      obtain ⟨ok3, h⟩ := ck_e h
      refine m_fl hx hb hG hS hf2 hf3 hf4 ok3 d_3_6_39 ?_
      obtain ⟨fa, hf1, hf2, hf3, hf4⟩ := id hZ
      refine va_getsN hx hb hf1 hS hown (va_Nw.use rfl (hG.2.1 _ n_765 rfl)) (fun _ h9 => h9) d_3_6_40 ?_
      refine lv_aload_n hx hb d_3_6_43 rfl (lv_at hl 1 rfl) ?_
      refine m_gi (C := "Ballothall$Council") (T := TX1) (N := 4) (ci := 1) (k := 0) hx hb hts iX1 hown hG hP (yi_243 hL) (yt_243 hL) rfl (by decide) w_382 (fun _ h9 => h9) rfl rfl d_3_6_44 ?_
      refine lv_iconst (v := 1) hx hb d_3_6_47 (by decide +kernel) ?_
      refine lv_isub hx hb d_3_6_48 ?_
      refine lv_iload hx hb d_3_6_49 (lv_at hl 0 rfl) ?_
      refine lv_isub hx hb d_3_6_51 ?_
      obtain ⟨ok5, h⟩ := ck_e h
      refine m_fl hx hb hG hS hf2 hf3 hf4 ok5 d_3_6_52 ?_
      refine lv_lmul hx hb d_3_6_53 ?_
      refine lv_ladd hx hb d_3_6_54 ?_
      obtain ⟨v6, e6, h⟩ := nb_e h
      refine nrmL e6.symm ?_
      refine lv_lstore_n (lv' := [(2, .long v6), (5, .int r1), (0, .ref (ad 243)), (1, .int x1), (4, .int x4)]) hx hb d_3_6_55 rfl hl (by decide) rfl (fun ls hl => ?_)
      refine lv_iinc (v := (x4 + 1)) (lv' := [(4, .int (x4 + 1)), (2, .long v6), (5, .int r1), (0, .ref (ad 243)), (1, .int x1)]) hx hb d_3_6_56 hl (k := 4) rfl (congrArg (fun q => x4 + q) (show Int32.ofInt 1 = 1 by decide +kernel)) (by decide) rfl (fun ls hl => ?_)
      refine lv_goto (tgt := 5) hx hb d_3_6_59 (by decide) ?_
      obtain ⟨rfl, rfl, rfl, rfl⟩ := in4 h
      exact k0 rfl H locs ls hP hD hS (lv_sub hl [3, 4, 1, 0] rfl)
set_option maxRecDepth 100000 in
set_option maxHeartbeats 4000000 in
theorem s_Cl_ordersTurnedBy_5 (l : Launch) (z : Zz) (ad : Nat → Nat) (E : Ev) (x1 : Int32) {Q : State → Prop} {p : Program} {e : Env} {s : State} {m : MethodId} {below : List Frame} {meth : Method} {c : Code} {A : Nat → Prop} {args : Array Value} (hx : p.tables.exec = Jvm.exec) (hb : c.code = prog_3_method_6_code) (hml : c.maxLocals = 6) (hts : ∀ w ∈ WG, w.before args s = true) (hown : s.vm.findClass "Ballothall$Council" = some m.cls) (hlocks : meth.locks = false) (hA : ∀ q, s.heap.size ≤ q → A q) (hG : KG z s) (hZ : FZ z A s) (hL : Lay E) : ∀ (fu : Nat) (M : Mm) (x2 : Int64) (x4 : Int32) (t : Nat) (w2 : Int64) (w4 : Int32) (N : Mm), l_Cl_ordersTurnedBy_5 E x1 fu M x2 x4 = some (t, w2, w4, N) → (t = 1 → ∀ (H : Heap) (locs : List Loc) (ls : Array Slot), va_P z.1 classes (wv z ad E N) H → va_D A (wv z ad E N) → va_S A s.heap H locs → lv_has ls 6 [(2, .long w2)] → W p l e (rmK 2 63 0 0) s m args below meth c H locs 0 0 Q (F0 m 62 ls [])) → ∀ (H : Heap) (locs : List Loc) (ls : Array Slot), va_P z.1 classes (wv z ad E M) H → va_D A (wv z ad E M) → va_S A s.heap H locs → lv_has ls 6 [(0, .ref (ad 243)), (1, .int x1), (2, .long x2), (4, .int x4)] → W p l e (rmK 2 63 0 0) s m args below meth c H locs 0 0 Q (F0 m 5 ls []) := by
  intro fu
  induction fu with
  | zero =>
    intro M x2 x4 t w2 w4 N h
    have h : (none : Option (Nat × Int64 × Int32 × Mm)) = some _ := h
    cases h
  | succ fu ih =>
    intro M x2 x4 t w2 w4 N h k1 H locs ls hP hD hS hl
    obtain ⟨⟨t0, w20, w40, N0⟩, g0, h⟩ := bd_e h
    refine b_Cl_ordersTurnedBy_5b l z ad E M x1 x2 x4 t0 w20 w40 N0 hx hb hml hts hown hlocks hA hG hZ hL g0 (fun e0 => ?_) (fun e0 => ?_) H locs ls hP hD hS hl
    · subst e0
      have h := ite_t rfl h
      exact ih N0 w20 w40 t w2 w4 N h k1
    · subst e0
      have h := ite_f (by decide) h
      obtain ⟨rfl, rfl, rfl, rfl⟩ := in4 h
      exact k1 rfl
set_option maxRecDepth 100000 in
set_option maxHeartbeats 4000000 in
theorem s_Cl_ordersTurnedBy (l : Launch) (z : Zz) (ad : Nat → Nat) (E : Ev) (M : Mm) (x1 : Int32) (r : Int64) (N : Mm) (hL : Lay E) (h : f_Cl_ordersTurnedBy E M x1 = some (r, N)) : CT l z ⟨"Ballothall$Council", "ordersTurnedBy", "(I)J"⟩ prog_3_method_6_code 6 (some .long) [.ref (ad 243), .int x1] (wv z ad E M) 2 63 0 0 (fun _ => some (.long r)) (fun _ => wv z ad E N) := by
  refine CT.of (own := "Ballothall$Council") (by decide +kernel) (Nat.le_of_ble_eq_true rfl) rfl (fun p e s m below meth c A ls hx hb hml hr hts hown hlocks hin hA hG hZ hP hD hS hl => ?_)
  have hl : lv_has ls 6 [(0, .ref (ad 243)), (1, .int x1)] := hl
  have key : ∀ (H : Heap) (locs : List Loc) (args : Array Value), (∀ w ∈ WG, w.before args s = true) → va_P z.1 classes (wv z ad E M) H → va_S A s.heap H locs → W p l e (rmK 2 63 0 0) s m args below meth c H locs 0 0 (MQ below (QK z A (fun _ => some (.long r)) (fun _ => wv z ad E N)) args s 0 0 A) (F0 m 0 ls []) := by
    intro H locs args hts hP hS
    unfold f_Cl_ordersTurnedBy at h
    refine lv_lconst (v := 0) hx hb d_3_6_0 (by decide +kernel) ?_
    refine lv_lstore_n (lv' := [(2, .long 0), (0, .ref (ad 243)), (1, .int x1)]) hx hb d_3_6_1 rfl hl (by decide) rfl (fun ls hl => ?_)
    refine lv_iconst (v := 0) hx hb d_3_6_2 (by decide +kernel) ?_
    refine lv_istore (lv' := [(4, .int 0), (2, .long 0), (0, .ref (ad 243)), (1, .int x1)]) hx hb d_3_6_3 hl (by decide) rfl (fun ls hl => ?_)
    obtain ⟨⟨t7, v7_2, v7_4, M7⟩, g7, h⟩ := bd_e h
    obtain ⟨ok7, h⟩ := ck_e h
    refine s_Cl_ordersTurnedBy_5 l z ad E x1 hx hb hml hts hown hlocks hA hG hZ hL FU M 0 0 t7 v7_2 v7_4 M7 g7 (fun e7 H locs ls hP hD hS hl => ?_) H locs ls hP hD hS (lv_sub hl [2, 3, 1, 0] rfl)
    refine lv_lload_n hx hb d_3_6_62 rfl (lv_at hl 0 rfl) ?_
    obtain ⟨rfl, rfl⟩ := in2 h
    exact W.lret hx hb hr (fun t ht hW => qkA hP hD hS (fun k => k) rfl rfl ht) hS.2.2 d_3_6_63
  exact key _ _ _ hts hP hS
set_option maxRecDepth 100000 in
set_option maxHeartbeats 4000000 in
theorem b_Cl_isOrderMissed_8b (l : Launch) (z : Zz) (ad : Nat → Nat) (E : Ev) (M : Mm) (x1 : Int64) (x3 : Int32) (t : Nat) (w1 : Int64) (w3 : Int32) (N : Mm) {Q : State → Prop} {p : Program} {e : Env} {s : State} {m : MethodId} {below : List Frame} {meth : Method} {c : Code} {A : Nat → Prop} {args : Array Value} (hx : p.tables.exec = Jvm.exec) (hb : c.code = prog_3_method_7_code) (hml : c.maxLocals = 4) (hts : ∀ w ∈ WG, w.before args s = true) (hown : s.vm.findClass "Ballothall$Council" = some m.cls) (hlocks : meth.locks = false) (hA : ∀ q, s.heap.size ≤ q → A q) (hG : KG z s) (hZ : FZ z A s) (hL : Lay E) (h : Cl_isOrderMissed_8b E M x1 x3 = some (t, w1, w3, N)) (k0 : t = 0 → ∀ (H : Heap) (locs : List Loc) (ls : Array Slot), va_P z.1 classes (wv z ad E N) H → va_D A (wv z ad E N) → va_S A s.heap H locs → lv_has ls 4 [(0, .ref (ad 243)), (1, .long w1), (3, .int w3)] → W p l e (rmK 3 88 0 0) s m args below meth c H locs 0 0 Q (F0 m 8 ls [])) (k1 : t = 1 → ∀ (H : Heap) (locs : List Loc) (ls : Array Slot), va_P z.1 classes (wv z ad E N) H → va_D A (wv z ad E N) → va_S A s.heap H locs → lv_has ls 4 [(0, .ref (ad 243)), (1, .long w1)] → W p l e (rmK 3 88 0 0) s m args below meth c H locs 0 0 Q (F0 m 30 ls [])) : ∀ (H : Heap) (locs : List Loc) (ls : Array Slot), va_P z.1 classes (wv z ad E M) H → va_D A (wv z ad E M) → va_S A s.heap H locs → lv_has ls 4 [(0, .ref (ad 243)), (1, .long x1), (3, .int x3)] → W p l e (rmK 3 88 0 0) s m args below meth c H locs 0 0 Q (F0 m 8 ls []) := by
  intro H locs ls hP hD hS hl
  unfold Cl_isOrderMissed_8b at h
  refine lv_iload_n hx hb d_3_7_8 rfl (lv_at hl 2 rfl) ?_
  refine lv_aload_n hx hb d_3_7_9 rfl (lv_at hl 0 rfl) ?_
  refine m_gi (C := "Ballothall$Council") (T := TX1) (N := 4) (ci := 1) (k := 0) hx hb hts iX1 hown hG hP (yi_243 hL) (yt_243 hL) rfl (by decide) w_382 (fun _ h9 => h9) rfl rfl d_3_7_10 ?_
  refine lv_icmp_ge (tgt := 30) hx hb d_3_7_13 (by decide) (fun c9 => ?_) (fun c9 => ?_)
  · have h := ite_t c9 h
    obtain ⟨rfl, rfl, rfl, rfl⟩ := in4 h
    exact k1 rfl H locs ls hP hD hS (lv_sub hl [0, 1] rfl)
  · have h := ite_f c9 h
    refine lv_lload_n hx hb d_3_7_16 rfl (lv_at hl 1 rfl) ?_
    refine lv_aload_n hx hb d_3_7_17 rfl (lv_at hl 0 rfl) ?_
    refine lv_iload_n hx hb d_3_7_18 rfl (lv_at hl 2 rfl) ?_
    obtain ⟨⟨r1, M1⟩, g1, h⟩ := bd_e h
    refine kV (As := [.int x3]) (rest := [.long x1]) (s_Cl_ordersTurnedBy l z ad E M x3 r1 M1 hL g1) hx hb hml hown hts w_758 w_755 w_757 w_s_b6ce20 w_11 md_27e5a0 ⟨Nat.le_of_ble_eq_true rfl, Nat.le_of_ble_eq_true rfl⟩ hG hZ hP hD hS hA 243 (wv_o (ci := 1) (yi_243 hL) (yt_243 hL)) rfl rfl rfl hl.1 rfl (Nat.le_of_ble_eq_true rfl) d_3_7_19 ⟨Nat.le_of_ble_eq_true rfl, Nat.le_of_ble_eq_true rfl⟩ (fun _ H locs hP hD hS => ?_)
    have hP : va_P z.1 classes (wv z ad E M1) H := hP
    have hD : va_D A (wv z ad E M1) := hD
    refine W.eq (g2 := F0 m 22 ls [.long r1, .long x1]) rfl ?_
    refine lv_ladd hx hb d_3_7_22 ?_
    refine lv_lstore_n (lv' := [(1, .long (x1 + r1)), (0, .ref (ad 243)), (3, .int x3)]) hx hb d_3_7_23 rfl hl (by decide) rfl (fun ls hl => ?_)
    refine lv_iinc (v := (x3 + 1)) (lv' := [(3, .int (x3 + 1)), (1, .long (x1 + r1)), (0, .ref (ad 243))]) hx hb d_3_7_24 hl (k := 2) rfl (congrArg (fun q => x3 + q) (show Int32.ofInt 1 = 1 by decide +kernel)) (by decide) rfl (fun ls hl => ?_)
    refine lv_goto (tgt := 8) hx hb d_3_7_27 (by decide) ?_
    obtain ⟨rfl, rfl, rfl, rfl⟩ := in4 h
    exact k0 rfl H locs ls hP hD hS (lv_sub hl [2, 1, 0] rfl)
set_option maxRecDepth 100000 in
set_option maxHeartbeats 4000000 in
theorem s_Cl_isOrderMissed_8 (l : Launch) (z : Zz) (ad : Nat → Nat) (E : Ev) {Q : State → Prop} {p : Program} {e : Env} {s : State} {m : MethodId} {below : List Frame} {meth : Method} {c : Code} {A : Nat → Prop} {args : Array Value} (hx : p.tables.exec = Jvm.exec) (hb : c.code = prog_3_method_7_code) (hml : c.maxLocals = 4) (hts : ∀ w ∈ WG, w.before args s = true) (hown : s.vm.findClass "Ballothall$Council" = some m.cls) (hlocks : meth.locks = false) (hA : ∀ q, s.heap.size ≤ q → A q) (hG : KG z s) (hZ : FZ z A s) (hL : Lay E) : ∀ (fu : Nat) (M : Mm) (x1 : Int64) (x3 : Int32) (t : Nat) (w1 : Int64) (w3 : Int32) (N : Mm), l_Cl_isOrderMissed_8 E fu M x1 x3 = some (t, w1, w3, N) → (t = 1 → ∀ (H : Heap) (locs : List Loc) (ls : Array Slot), va_P z.1 classes (wv z ad E N) H → va_D A (wv z ad E N) → va_S A s.heap H locs → lv_has ls 4 [(0, .ref (ad 243)), (1, .long w1)] → W p l e (rmK 3 88 0 0) s m args below meth c H locs 0 0 Q (F0 m 30 ls [])) → ∀ (H : Heap) (locs : List Loc) (ls : Array Slot), va_P z.1 classes (wv z ad E M) H → va_D A (wv z ad E M) → va_S A s.heap H locs → lv_has ls 4 [(0, .ref (ad 243)), (1, .long x1), (3, .int x3)] → W p l e (rmK 3 88 0 0) s m args below meth c H locs 0 0 Q (F0 m 8 ls []) := by
  intro fu
  induction fu with
  | zero =>
    intro M x1 x3 t w1 w3 N h
    have h : (none : Option (Nat × Int64 × Int32 × Mm)) = some _ := h
    cases h
  | succ fu ih =>
    intro M x1 x3 t w1 w3 N h k1 H locs ls hP hD hS hl
    obtain ⟨⟨t0, w10, w30, N0⟩, g0, h⟩ := bd_e h
    refine b_Cl_isOrderMissed_8b l z ad E M x1 x3 t0 w10 w30 N0 hx hb hml hts hown hlocks hA hG hZ hL g0 (fun e0 => ?_) (fun e0 => ?_) H locs ls hP hD hS hl
    · subst e0
      have h := ite_t rfl h
      exact ih N0 w10 w30 t w1 w3 N h k1
    · subst e0
      have h := ite_f (by decide) h
      obtain ⟨rfl, rfl, rfl, rfl⟩ := in4 h
      exact k1 rfl
set_option maxRecDepth 100000 in
set_option maxHeartbeats 4000000 in
theorem s_Cl_isOrderMissed (l : Launch) (z : Zz) (ad : Nat → Nat) (E : Ev) (M : Mm) (r : Int32) (N : Mm) (hL : Lay E) (h : f_Cl_isOrderMissed E M = some (r, N)) : CT l z ⟨"Ballothall$Council", "isOrderMissed", "()Z"⟩ prog_3_method_7_code 4 (some .boolean) [.ref (ad 243)] (wv z ad E M) 3 88 0 0 (fun _ => some (.int r)) (fun _ => wv z ad E N) := by
  refine CT.of (own := "Ballothall$Council") (by decide +kernel) (Nat.le_of_ble_eq_true rfl) rfl (fun p e s m below meth c A ls hx hb hml hr hts hown hlocks hin hA hG hZ hP hD hS hl => ?_)
  have hl : lv_has ls 4 [(0, .ref (ad 243))] := hl
  have key : ∀ (H : Heap) (locs : List Loc) (args : Array Value), (∀ w ∈ WG, w.before args s = true) → va_P z.1 classes (wv z ad E M) H → va_S A s.heap H locs → W p l e (rmK 3 88 0 0) s m args below meth c H locs 0 0 (MQ below (QK z A (fun _ => some (.int r)) (fun _ => wv z ad E N)) args s 0 0 A) (F0 m 0 ls []) := by
    intro H locs args hts hP hS
    unfold f_Cl_isOrderMissed at h
    refine lv_aload_n hx hb d_3_7_0 rfl (lv_at hl 0 rfl) ?_
    obtain ⟨M0, g0, h⟩ := bd_e h
    refine kV (As := []) (rest := []) (s_Cl_findSums l z ad E M M0 hL g0) hx hb hml hown hts w_754 w_751 w_753 w_s_13b3b8 w_11 md_bc486d ⟨Nat.le_of_ble_eq_true rfl, Nat.le_of_ble_eq_true rfl⟩ hG hZ hP hD hS hA 243 (wv_o (ci := 1) (yi_243 hL) (yt_243 hL)) rfl rfl rfl hl.1 rfl (Nat.le_of_ble_eq_true rfl) d_3_7_1 ⟨Nat.le_of_ble_eq_true rfl, Nat.le_of_ble_eq_true rfl⟩ (fun _ H locs hP hD hS => ?_)
    have hP : va_P z.1 classes (wv z ad E M0) H := hP
    have hD : va_D A (wv z ad E M0) := hD
    refine W.eq (g2 := F0 m 4 ls []) rfl ?_
    refine lv_lconst (v := 0) hx hb d_3_7_4 (by decide +kernel) ?_
    refine lv_lstore_n (lv' := [(1, .long 0), (0, .ref (ad 243))]) hx hb d_3_7_5 rfl hl (by decide) rfl (fun ls hl => ?_)
    refine lv_iconst (v := 0) hx hb d_3_7_6 (by decide +kernel) ?_
    refine lv_istore_n (lv' := [(3, .int 0), (1, .long 0), (0, .ref (ad 243))]) hx hb d_3_7_7 rfl hl (by decide) rfl (fun ls hl => ?_)
    obtain ⟨⟨t2, v2_1, v2_3, M2⟩, g2, h⟩ := bd_e h
    obtain ⟨ok2, h⟩ := ck_e h
    refine s_Cl_isOrderMissed_8 l z ad E hx hb hml hts hown hlocks hA hG hZ hL FU M0 0 0 t2 v2_1 v2_3 M2 g2 (fun e2 H locs ls hP hD hS hl => ?_) H locs ls hP hD hS (lv_sub hl [2, 1, 0] rfl)
    refine lv_lload_n hx hb d_3_7_30 rfl (lv_at hl 1 rfl) ?_
    refine lv_lconst (v := 0) hx hb d_3_7_31 (by decide +kernel) ?_
    refine W.lcmp hx hb d_3_7_32 ?_
    refine lv_if_eq (tgt := 53) hx hb d_3_7_33 (by decide) (fun c9 => ?_) (fun c9 => ?_)
    · have h := ite_t c9 h
      refine lv_iconst (v := 0) hx hb d_3_7_53 (by decide +kernel) ?_
      obtain ⟨rfl, rfl⟩ := in2 h
      exact W.zret hx hb hr rfl (fun t ht hW => qkA hP hD hS (fun k => k) rfl rfl ht) hS.2.2 d_3_7_54
    · have h := ite_f c9 h
      refine lv_lload_n hx hb d_3_7_36 rfl (lv_at hl 1 rfl) ?_
      obtain ⟨fa, hf1, hf2, hf3, hf4⟩ := id hZ
      refine va_getsN hx hb hf1 hS hown (va_Nw.use rfl (hG.2.1 _ n_765 rfl)) (fun _ h9 => h9) d_3_7_37 ?_
      refine lv_aload_n hx hb d_3_7_40 rfl (lv_at hl 0 rfl) ?_
      refine m_gi (C := "Ballothall$Council") (T := TX1) (N := 4) (ci := 1) (k := 0) hx hb hts iX1 hown hG hP (yi_243 hL) (yt_243 hL) rfl (by decide) w_382 (fun _ h9 => h9) rfl rfl d_3_7_41 ?_
      obtain ⟨ok4, h⟩ := ck_e h
      refine m_fl hx hb hG hS hf2 hf3 hf4 ok4 d_3_7_44 ?_
      refine W.lcmp hx hb d_3_7_45 ?_
      refine lv_if_eq (tgt := 53) hx hb d_3_7_46 (by decide) (fun c9 => ?_) (fun c9 => ?_)
      · have h := ite_t c9 h
        refine lv_iconst (v := 0) hx hb d_3_7_53 (by decide +kernel) ?_
        obtain ⟨rfl, rfl⟩ := in2 h
        exact W.zret hx hb hr rfl (fun t ht hW => qkA hP hD hS (fun k => k) rfl rfl ht) hS.2.2 d_3_7_54
      · have h := ite_f c9 h
        refine lv_iconst (v := 1) hx hb d_3_7_49 (by decide +kernel) ?_
        refine lv_goto (tgt := 54) hx hb d_3_7_50 (by decide) ?_
        obtain ⟨rfl, rfl⟩ := in2 h
        exact W.zret hx hb hr rfl (fun t ht hW => qkA hP hD hS (fun k => k) rfl rfl ht) hS.2.2 d_3_7_54
  exact key _ _ _ hts hP hS
set_option maxRecDepth 100000 in
set_option maxHeartbeats 4000000 in
theorem b_B_errors_j32 (l : Launch) (z : Zz) (ad : Nat → Nat) (E : Ev) (M : Mm) (y0 : Int32) (y1 : Int32) (r : Int32) (N : Mm) {p : Program} {e : Env} {s : State} {m : MethodId} {below : List Frame} {meth : Method} {c : Code} {A : Nat → Prop} {args : Array Value} (hx : p.tables.exec = Jvm.exec) (hb : c.code = prog_1_method_54_code) (hml : c.maxLocals = 1) (hts : ∀ w ∈ WG, w.before args s = true) (hown : s.vm.findClass "Ballothall" = some m.cls) (hlocks : meth.locks = false) (hA : ∀ q, s.heap.size ≤ q → A q) (hG : KG z s) (hZ : FZ z A s) (hL : Lay E) (hr : meth.sig.returnType = (some .int)) (h : B_errors_j32 E M y0 y1 = some (r, N)) : ∀ (H : Heap) (locs : List Loc) (ls : Array Slot), va_P z.1 classes (wv z ad E M) H → va_D A (wv z ad E M) → va_S A s.heap H locs → lv_has ls 1 [(0, .ref (ad 1))] → W p l e (rmK 6 156 0 0) s m args below meth c H locs 0 0 (MQ below (QK z A (fun _ => some (.int r)) (fun _ => wv z ad E N)) args s 0 0 A) (F0 m 32 ls [.int y0, .int y1]) := by
  intro H locs ls hP hD hS hl
  unfold B_errors_j32 at h
  refine lv_iadd hx hb d_1_54_32 ?_
  refine lv_aload_n hx hb d_1_54_33 rfl (lv_at hl 0 rfl) ?_
  refine m_gr (j := 243) (C := "Ballothall") (T := TX11) (N := 14) (ci := 11) (k := 6) hx hb hts iX11 hown hG hP (yi_1 hL) (yt_1 hL) rfl (by decide) w_403 (fun _ h9 => h9) rfl rfl (yr_1_6 hL) d_1_54_34 ?_
  obtain ⟨⟨r3, M3⟩, g3, h⟩ := bd_e h
  refine kVN (As := []) (rest := [.int (y1 + y0)]) (s_Cl_isOrderMissed l z ad E M r3 M3 hL g3) hx hb hml hown hts w_750 n_747 w_749 w_s_d5ed60 w_11 md_9cd0b2 ⟨Nat.le_of_ble_eq_true rfl, Nat.le_of_ble_eq_true rfl⟩ hG hZ hP hD hS hA 243 (wv_o (ci := 1) (yi_243 hL) (yt_243 hL)) rfl rfl rfl hl.1 rfl (Nat.le_of_ble_eq_true rfl) d_1_54_37 ⟨Nat.le_of_ble_eq_true rfl, Nat.le_of_ble_eq_true rfl⟩ (fun _ H locs hP hD hS => ?_)
  have hP : va_P z.1 classes (wv z ad E M3) H := hP
  have hD : va_D A (wv z ad E M3) := hD
  refine W.eq (g2 := F0 m 40 ls [.int r3, .int (y1 + y0)]) rfl ?_
  refine lv_if_eq (tgt := 47) hx hb d_1_54_40 (by decide) (fun c9 => ?_) (fun c9 => ?_)
  · have h := ite_t c9 h
    refine lv_iconst (v := 0) hx hb d_1_54_47 (by decide +kernel) ?_
    refine lv_iadd hx hb d_1_54_48 ?_
    obtain ⟨rfl, rfl⟩ := in2 h
    exact W.iret hx hb hr (fun t ht hW => qkA hP hD hS (fun k => k) rfl rfl ht) hS.2.2 d_1_54_49
  · have h := ite_f c9 h
    refine lv_iconst (v := 1) hx hb d_1_54_43 (by decide +kernel) ?_
    refine lv_goto (tgt := 48) hx hb d_1_54_44 (by decide) ?_
    refine lv_iadd hx hb d_1_54_48 ?_
    obtain ⟨rfl, rfl⟩ := in2 h
    exact W.iret hx hb hr (fun t ht hW => qkA hP hD hS (fun k => k) rfl rfl ht) hS.2.2 d_1_54_49
set_option maxRecDepth 100000 in
set_option maxHeartbeats 4000000 in
theorem b_B_errors_j15 (l : Launch) (z : Zz) (ad : Nat → Nat) (E : Ev) (M : Mm) (y0 : Int32) (r : Int32) (N : Mm) {p : Program} {e : Env} {s : State} {m : MethodId} {below : List Frame} {meth : Method} {c : Code} {A : Nat → Prop} {args : Array Value} (hx : p.tables.exec = Jvm.exec) (hb : c.code = prog_1_method_54_code) (hml : c.maxLocals = 1) (hts : ∀ w ∈ WG, w.before args s = true) (hown : s.vm.findClass "Ballothall" = some m.cls) (hlocks : meth.locks = false) (hA : ∀ q, s.heap.size ≤ q → A q) (hG : KG z s) (hZ : FZ z A s) (hL : Lay E) (hr : meth.sig.returnType = (some .int)) (h : B_errors_j15 E M y0 = some (r, N)) : ∀ (H : Heap) (locs : List Loc) (ls : Array Slot), va_P z.1 classes (wv z ad E M) H → va_D A (wv z ad E M) → va_S A s.heap H locs → lv_has ls 1 [(0, .ref (ad 1))] → W p l e (rmK 6 156 0 0) s m args below meth c H locs 0 0 (MQ below (QK z A (fun _ => some (.int r)) (fun _ => wv z ad E N)) args s 0 0 A) (F0 m 15 ls [.int y0]) := by
  intro H locs ls hP hD hS hl
  unfold B_errors_j15 at h
  refine lv_aload_n hx hb d_1_54_15 rfl (lv_at hl 0 rfl) ?_
  obtain ⟨⟨r1, M1⟩, g1, h⟩ := bd_e h
  refine kV (As := []) (rest := [.int y0]) (s_B_countErrors l z ad E M r1 M1 hL g1) hx hb hml hown hts w_592 w_589 w_591 w_s_e1a3ad w_1 md_8ab3bc ⟨Nat.le_of_ble_eq_true rfl, Nat.le_of_ble_eq_true rfl⟩ hG hZ hP hD hS hA 1 (wv_o (ci := 11) (yi_1 hL) (yt_1 hL)) rfl rfl rfl hl.1 rfl (Nat.le_of_ble_eq_true rfl) d_1_54_16 ⟨Nat.le_of_ble_eq_true rfl, Nat.le_of_ble_eq_true rfl⟩ (fun _ H locs hP hD hS => ?_)
  have hP : va_P z.1 classes (wv z ad E M1) H := hP
  have hD : va_D A (wv z ad E M1) := hD
  refine W.eq (g2 := F0 m 19 ls [.int r1, .int y0]) rfl ?_
  refine lv_iadd hx hb d_1_54_19 ?_
  refine lv_aload_n hx hb d_1_54_20 rfl (lv_at hl 0 rfl) ?_
  obtain ⟨⟨r2, M2⟩, g2, h⟩ := bd_e h
  refine kV (As := []) (rest := [.int (y0 + r1)]) (s_B_isBeaterOfAllMissed l z ad E M1 r2 M2 hL g2) hx hb hml hown hts w_664 w_661 w_663 w_s_2ec4e5 w_1 md_4ae834 ⟨Nat.le_of_ble_eq_true rfl, Nat.le_of_ble_eq_true rfl⟩ hG hZ hP hD hS hA 1 (wv_o (ci := 11) (yi_1 hL) (yt_1 hL)) rfl rfl rfl hl.1 rfl (Nat.le_of_ble_eq_true rfl) d_1_54_21 ⟨Nat.le_of_ble_eq_true rfl, Nat.le_of_ble_eq_true rfl⟩ (fun _ H locs hP hD hS => ?_)
  have hP : va_P z.1 classes (wv z ad E M2) H := hP
  have hD : va_D A (wv z ad E M2) := hD
  refine W.eq (g2 := F0 m 24 ls [.int r2, .int (y0 + r1)]) rfl ?_
  refine lv_if_eq (tgt := 31) hx hb d_1_54_24 (by decide) (fun c9 => ?_) (fun c9 => ?_)
  · have h := ite_t c9 h
    refine lv_iconst (v := 0) hx hb d_1_54_31 (by decide +kernel) ?_
    exact b_B_errors_j32 l z ad E M2 0 (y0 + r1) r N hx hb hml hts hown hlocks hA hG hZ hL hr h H locs ls hP hD hS (lv_sub hl [0] rfl)
  · have h := ite_f c9 h
    refine lv_iconst (v := 1) hx hb d_1_54_27 (by decide +kernel) ?_
    refine lv_goto (tgt := 32) hx hb d_1_54_28 (by decide) ?_
    exact b_B_errors_j32 l z ad E M2 1 (y0 + r1) r N hx hb hml hts hown hlocks hA hG hZ hL hr h H locs ls hP hD hS (lv_sub hl [0] rfl)
set_option maxRecDepth 100000 in
set_option maxHeartbeats 4000000 in
theorem s_B_errors (l : Launch) (z : Zz) (ad : Nat → Nat) (E : Ev) (M : Mm) (r : Int32) (N : Mm) (hL : Lay E) (h : f_B_errors E M = some (r, N)) : CT l z ⟨"Ballothall", "errors", "()I"⟩ prog_1_method_54_code 1 (some .int) [.ref (ad 1)] (wv z ad E M) 6 156 0 0 (fun _ => some (.int r)) (fun _ => wv z ad E N) := by
  refine CT.of (own := "Ballothall") (by decide +kernel) (Nat.le_of_ble_eq_true rfl) rfl (fun p e s m below meth c A ls hx hb hml hr hts hown hlocks hin hA hG hZ hP hD hS hl => ?_)
  have hl : lv_has ls 1 [(0, .ref (ad 1))] := hl
  have key : ∀ (H : Heap) (locs : List Loc) (args : Array Value), (∀ w ∈ WG, w.before args s = true) → va_P z.1 classes (wv z ad E M) H → va_S A s.heap H locs → W p l e (rmK 6 156 0 0) s m args below meth c H locs 0 0 (MQ below (QK z A (fun _ => some (.int r)) (fun _ => wv z ad E N)) args s 0 0 A) (F0 m 0 ls []) := by
    intro H locs args hts hP hS
    unfold f_B_errors at h
    refine lv_aload_n hx hb d_1_54_0 rfl (lv_at hl 0 rfl) ?_
    refine m_gr (j := 53) (C := "Ballothall") (T := TX11) (N := 14) (ci := 11) (k := 3) hx hb hts iX11 hown hG hP (yi_1 hL) (yt_1 hL) rfl (by decide) w_400 (fun _ h9 => h9) rfl rfl (yr_1_3 hL) d_1_54_1 ?_
    obtain ⟨⟨r0, M0⟩, g0, h⟩ := bd_e h
    refine kVN (As := []) (rest := []) (s_Li_isUnjust l z ad E M r0 M0 hL g0) hx hb hml hown hts w_580 n_577 w_579 w_s_a51fc7 w_5 md_338f64 ⟨Nat.le_of_ble_eq_true rfl, Nat.le_of_ble_eq_true rfl⟩ hG hZ hP hD hS hA 53 (wv_o (ci := 7) (yi_53 hL) (yt_53 hL)) rfl rfl rfl hl.1 rfl (Nat.le_of_ble_eq_true rfl) d_1_54_4 ⟨Nat.le_of_ble_eq_true rfl, Nat.le_of_ble_eq_true rfl⟩ (fun _ H locs hP hD hS => ?_)
    have hP : va_P z.1 classes (wv z ad E M0) H := hP
    have hD : va_D A (wv z ad E M0) := hD
    refine W.eq (g2 := F0 m 7 ls [.int r0]) rfl ?_
    refine lv_if_eq (tgt := 14) hx hb d_1_54_7 (by decide) (fun c9 => ?_) (fun c9 => ?_)
    · have h := ite_t c9 h
      refine lv_iconst (v := 0) hx hb d_1_54_14 (by decide +kernel) ?_
      exact b_B_errors_j15 l z ad E M0 0 r N hx hb hml hts hown hlocks hA hG hZ hL hr h H locs ls hP hD hS (lv_sub hl [0] rfl)
    · have h := ite_f c9 h
      refine lv_iconst (v := 1) hx hb d_1_54_10 (by decide +kernel) ?_
      refine lv_goto (tgt := 15) hx hb d_1_54_11 (by decide) ?_
      exact b_B_errors_j15 l z ad E M0 1 r N hx hb hml hts hown hlocks hA hG hZ hL hr h H locs ls hP hD hS (lv_sub hl [0] rfl)
  exact key _ _ _ hts hP hS
set_option maxRecDepth 100000 in
set_option maxHeartbeats 4000000 in
theorem s_B_needFewCandidates (l : Launch) (z : Zz) (ad : Nat → Nat) (E : Ev) (M : Mm) (N : Mm) (hL : Lay E) (h : f_B_needFewCandidates E M = some N) : CT l z ⟨"Ballothall", "needFewCandidates", "()V"⟩ prog_1_method_60_code 1 none [.ref (ad 1)] (wv z ad E M) 0 20 0 0 (fun _ => none) (fun _ => wv z ad E N) := by
  refine CT.of (own := "Ballothall") (by decide +kernel) (Nat.le_of_ble_eq_true rfl) rfl (fun p e s m below meth c A ls hx hb hml hr hts hown hlocks hin hA hG hZ hP hD hS hl => ?_)
  have hl : lv_has ls 1 [(0, .ref (ad 1))] := hl
  have key : ∀ (H : Heap) (locs : List Loc) (args : Array Value), (∀ w ∈ WG, w.before args s = true) → va_P z.1 classes (wv z ad E M) H → va_S A s.heap H locs → W p l e (rmK 0 20 0 0) s m args below meth c H locs 0 0 (MQ below (QK z A (fun _ => none) (fun _ => wv z ad E N)) args s 0 0 A) (F0 m 0 ls []) := by
    intro H locs args hts hP hS
    unfold f_B_needFewCandidates at h
    refine lv_aload_n hx hb d_1_60_0 rfl (lv_at hl 0 rfl) ?_
    refine m_gr (j := 2) (C := "Ballothall") (T := TX11) (N := 14) (ci := 11) (k := 0) hx hb hts iX11 hown hG hP (yi_1 hL) (yt_1 hL) rfl (by decide) w_397 (fun _ h9 => h9) rfl rfl (yr_1_0 hL) d_1_60_1 ?_
    refine m_giN (C := "Ballothall$BallotBox") (T := TX0) (N := 10) (ci := 0) (k := 2) hx hb hts iX0 hown hG hP (yi_2 hL) (yt_2 hL) rfl (by decide) n_52 rfl (fun _ h9 => h9) rfl rfl d_1_60_4 ?_
    refine lv_iconst (v := 5) hx hb d_1_60_7 (by decide +kernel) ?_
    refine lv_icmp_le (tgt := 22) hx hb d_1_60_8 (by decide) (fun c9 => ?_) (fun c9 => ?_)
    · have h := ite_t c9 h
      obtain rfl := in1 h
      exact W.vret hx hb hr (fun t ht hW => qkA hP hD hS (fun k => k) rfl rfl ht) hS.2.2 d_1_60_22
    · have h := ite_f c9 h
      cases h
  exact key _ _ _ hts hP hS
set_option maxRecDepth 100000 in
set_option maxHeartbeats 4000000 in
theorem b_Ar_fillL_6b (l : Launch) (z : Zz) (ad : Nat → Nat) (E : Ev) (M : Mm) (q0 : Nat) (x1 : Int64) (x4 : Int32) (x3 : Int32) (t : Nat) (w3 : Int32) (N : Mm) {Q : State → Prop} {p : Program} {e : Env} {s : State} {m : MethodId} {below : List Frame} {meth : Method} {c : Code} {A : Nat → Prop} {args : Array Value} (hx : p.tables.exec = Jvm.exec) (hb : c.code = prog_43_method_101_code) (hml : c.maxLocals = 5) (hts : ∀ w ∈ WG, w.before args s = true) (hown : s.vm.findClass "java/util/Arrays" = some m.cls) (hlocks : meth.locks = false) (hA : ∀ q, s.heap.size ≤ q → A q) (hG : KG z s) (hZ : FZ z A s) (hL : Lay E) (h : Ar_fillL_6b E M q0 x1 x4 x3 = some (t, w3, N)) (k0 : t = 0 → ∀ (H : Heap) (locs : List Loc) (ls : Array Slot), va_P z.1 classes (wv z ad E N) H → va_D A (wv z ad E N) → va_S A s.heap H locs → lv_has ls 5 [(0, .ref (ad q0)), (1, .long x1), (3, .int w3), (4, .int x4)] → W p l e (rmK 0 20 0 0) s m args below meth c H locs 0 0 Q (F0 m 6 ls [])) (k1 : t = 1 → ∀ (H : Heap) (locs : List Loc) (ls : Array Slot), va_P z.1 classes (wv z ad E N) H → va_D A (wv z ad E N) → va_S A s.heap H locs → lv_has ls 5 [] → W p l e (rmK 0 20 0 0) s m args below meth c H locs 0 0 Q (F0 m 22 ls [])) : ∀ (H : Heap) (locs : List Loc) (ls : Array Slot), va_P z.1 classes (wv z ad E M) H → va_D A (wv z ad E M) → va_S A s.heap H locs → lv_has ls 5 [(0, .ref (ad q0)), (1, .long x1), (3, .int x3), (4, .int x4)] → W p l e (rmK 0 20 0 0) s m args below meth c H locs 0 0 Q (F0 m 6 ls []) := by
  intro H locs ls hP hD hS hl
  unfold Ar_fillL_6b at h
  obtain ⟨h_q0, h⟩ := ck_e h
  refine lv_iload_n hx hb d_43_101_6 rfl (lv_at hl 2 rfl) ?_
  refine lv_iload hx hb d_43_101_7 (lv_at hl 3 rfl) ?_
  refine lv_icmp_ge (tgt := 22) hx hb d_43_101_9 (by decide) (fun c9 => ?_) (fun c9 => ?_)
  · have h := ite_t c9 h
    obtain ⟨rfl, rfl, rfl⟩ := in3 h
    exact k1 rfl H locs ls hP hD hS (lv_sub hl [] rfl)
  · have h := ite_f c9 h
    refine lv_aload_n hx hb d_43_101_12 rfl (lv_at hl 0 rfl) ?_
    refine lv_iload_n hx hb d_43_101_13 rfl (lv_at hl 2 rfl) ?_
    refine lv_lload_n hx hb d_43_101_14 rfl (lv_at hl 1 rfl) ?_
    obtain ⟨ok0, h⟩ := ck_e h
    refine m_ls hx hb hG hP hD hS h_q0.1 (isLA_T h_q0) ok0 d_43_101_15 (fun H locs hP hD hS => ?_)
    have hP : va_P z.1 classes (wv z ad E (uL M q0 x3.toNatClampNeg x1)) H := hP
    have hD : va_D A (wv z ad E (uL M q0 x3.toNatClampNeg x1)) := hD
    refine lv_iinc (v := (x3 + 1)) (lv' := [(3, .int (x3 + 1)), (0, .ref (ad q0)), (1, .long x1), (4, .int x4)]) hx hb d_43_101_16 hl (k := 2) rfl (congrArg (fun q => x3 + q) (show Int32.ofInt 1 = 1 by decide +kernel)) (by decide) rfl (fun ls hl => ?_)
    refine lv_goto (tgt := 6) hx hb d_43_101_19 (by decide) ?_
    obtain ⟨rfl, rfl, rfl⟩ := in3 h
    exact k0 rfl H locs ls hP hD hS (lv_sub hl [1, 2, 0, 3] rfl)
set_option maxRecDepth 100000 in
set_option maxHeartbeats 4000000 in
theorem s_Ar_fillL_6 (l : Launch) (z : Zz) (ad : Nat → Nat) (E : Ev) (q0 : Nat) (x1 : Int64) (x4 : Int32) {Q : State → Prop} {p : Program} {e : Env} {s : State} {m : MethodId} {below : List Frame} {meth : Method} {c : Code} {A : Nat → Prop} {args : Array Value} (hx : p.tables.exec = Jvm.exec) (hb : c.code = prog_43_method_101_code) (hml : c.maxLocals = 5) (hts : ∀ w ∈ WG, w.before args s = true) (hown : s.vm.findClass "java/util/Arrays" = some m.cls) (hlocks : meth.locks = false) (hA : ∀ q, s.heap.size ≤ q → A q) (hG : KG z s) (hZ : FZ z A s) (hL : Lay E) : ∀ (fu : Nat) (M : Mm) (x3 : Int32) (t : Nat) (w3 : Int32) (N : Mm), l_Ar_fillL_6 E q0 x1 x4 fu M x3 = some (t, w3, N) → (t = 1 → ∀ (H : Heap) (locs : List Loc) (ls : Array Slot), va_P z.1 classes (wv z ad E N) H → va_D A (wv z ad E N) → va_S A s.heap H locs → lv_has ls 5 [] → W p l e (rmK 0 20 0 0) s m args below meth c H locs 0 0 Q (F0 m 22 ls [])) → ∀ (H : Heap) (locs : List Loc) (ls : Array Slot), va_P z.1 classes (wv z ad E M) H → va_D A (wv z ad E M) → va_S A s.heap H locs → lv_has ls 5 [(0, .ref (ad q0)), (1, .long x1), (3, .int x3), (4, .int x4)] → W p l e (rmK 0 20 0 0) s m args below meth c H locs 0 0 Q (F0 m 6 ls []) := by
  intro fu
  induction fu with
  | zero =>
    intro M x3 t w3 N h
    have h : (none : Option (Nat × Int32 × Mm)) = some _ := h
    cases h
  | succ fu ih =>
    intro M x3 t w3 N h k1 H locs ls hP hD hS hl
    obtain ⟨⟨t0, w30, N0⟩, g0, h⟩ := bd_e h
    refine b_Ar_fillL_6b l z ad E M q0 x1 x4 x3 t0 w30 N0 hx hb hml hts hown hlocks hA hG hZ hL g0 (fun e0 => ?_) (fun e0 => ?_) H locs ls hP hD hS hl
    · subst e0
      have h := ite_t rfl h
      exact ih N0 w30 t w3 N h k1
    · subst e0
      have h := ite_f (by decide) h
      obtain ⟨rfl, rfl, rfl⟩ := in3 h
      exact k1 rfl
set_option maxRecDepth 100000 in
set_option maxHeartbeats 4000000 in
theorem s_Ar_fillL (l : Launch) (z : Zz) (ad : Nat → Nat) (E : Ev) (M : Mm) (p0 : Nat) (x1 : Int64) (N : Mm) (hL : Lay E) (h : f_Ar_fillL E M p0 x1 = some N) : CT l z ⟨"java/util/Arrays", "fill", "([JJ)V"⟩ prog_43_method_101_code 5 none [.ref (ad p0), .long x1] (wv z ad E M) 0 20 0 0 (fun _ => none) (fun _ => wv z ad E N) := by
  refine CT.of (own := "java/util/Arrays") (by decide +kernel) (Nat.le_of_ble_eq_true rfl) rfl (fun p e s m below meth c A ls hx hb hml hr hts hown hlocks hin hA hG hZ hP hD hS hl => ?_)
  have hl : lv_has ls 5 [(0, .ref (ad p0)), (1, .long x1)] := hl
  have key : ∀ (H : Heap) (locs : List Loc) (args : Array Value), (∀ w ∈ WG, w.before args s = true) → va_P z.1 classes (wv z ad E M) H → va_S A s.heap H locs → W p l e (rmK 0 20 0 0) s m args below meth c H locs 0 0 (MQ below (QK z A (fun _ => none) (fun _ => wv z ad E N)) args s 0 0 A) (F0 m 0 ls []) := by
    intro H locs args hts hP hS
    unfold f_Ar_fillL at h
    obtain ⟨h_p0, h⟩ := ck_e h
    refine lv_iconst (v := 0) hx hb d_43_101_0 (by decide +kernel) ?_
    refine lv_istore_n (lv' := [(3, .int 0), (0, .ref (ad p0)), (1, .long x1)]) hx hb d_43_101_1 rfl hl (by decide) rfl (fun ls hl => ?_)
    refine lv_aload_n hx hb d_43_101_2 rfl (lv_at hl 1 rfl) ?_
    refine m_lenL (v := (nI (E.2.1 p0).2)) hx hb hG hP h_p0.1 (isLA_T h_p0) rfl d_43_101_3 ?_
    refine lv_istore (lv' := [(4, .int (nI (E.2.1 p0).2)), (3, .int 0), (0, .ref (ad p0)), (1, .long x1)]) hx hb d_43_101_4 hl (by decide) rfl (fun ls hl => ?_)
    obtain ⟨⟨t1, v1_3, M1⟩, g1, h⟩ := bd_e h
    obtain ⟨ok1, h⟩ := ck_e h
    refine s_Ar_fillL_6 l z ad E p0 x1 (nI (E.2.1 p0).2) hx hb hml hts hown hlocks hA hG hZ hL FU M 0 t1 v1_3 M1 g1 (fun e1 H locs ls hP hD hS hl => ?_) H locs ls hP hD hS (lv_sub hl [2, 3, 1, 0] rfl)
    obtain rfl := in1 h
    exact W.vret hx hb hr (fun t ht hW => qkA hP hD hS (fun k => k) rfl rfl ht) hS.2.2 d_43_101_22
  exact key _ _ _ hts hP hS
set_option maxRecDepth 100000 in
set_option maxHeartbeats 4000000 in
theorem b_Po_scoreTopsOf_j38 (l : Launch) (z : Zz) (ad : Nat → Nat) (E : Ev) (M : Mm) (x1 : Int32) (x2 : Int32) (y0 : Int32) (t : Nat) (w2 : Int32) (N : Mm) {Q : State → Prop} {p : Program} {e : Env} {s : State} {m : MethodId} {below : List Frame} {meth : Method} {c : Code} {A : Nat → Prop} {args : Array Value} (hx : p.tables.exec = Jvm.exec) (hb : c.code = prog_11_method_26_code) (hml : c.maxLocals = 4) (hts : ∀ w ∈ WG, w.before args s = true) (hown : s.vm.findClass "Ballothall$Poll" = some m.cls) (hlocks : meth.locks = false) (hA : ∀ q, s.heap.size ≤ q → A q) (hG : KG z s) (hZ : FZ z A s) (hL : Lay E) (h : Po_scoreTopsOf_j38 E M x1 x2 y0 = some (t, w2, N)) (k0 : t = 0 → ∀ (H : Heap) (locs : List Loc) (ls : Array Slot), va_P z.1 classes (wv z ad E N) H → va_D A (wv z ad E N) → va_S A s.heap H locs → lv_has ls 4 [(0, .ref (ad 41)), (1, .int x1), (2, .int w2)] → W p l e (rmK 2 67 0 0) s m args below meth c H locs 0 0 Q (F0 m 10 ls [])) (k1 : t = 1 → ∀ (H : Heap) (locs : List Loc) (ls : Array Slot), va_P z.1 classes (wv z ad E N) H → va_D A (wv z ad E N) → va_S A s.heap H locs → lv_has ls 4 [] → W p l e (rmK 2 67 0 0) s m args below meth c H locs 0 0 Q (F0 m 66 ls [])) : ∀ (H : Heap) (locs : List Loc) (ls : Array Slot), va_P z.1 classes (wv z ad E M) H → va_D A (wv z ad E M) → va_S A s.heap H locs → lv_has ls 4 [(0, .ref (ad 41)), (1, .int x1), (2, .int x2)] → W p l e (rmK 2 67 0 0) s m args below meth c H locs 0 0 Q (F0 m 38 ls [.int y0]) := by
  intro H locs ls hP hD hS hl
  unfold Po_scoreTopsOf_j38 at h
  refine lv_istore_n (lv' := [(3, .int y0), (0, .ref (ad 41)), (1, .int x1), (2, .int x2)]) hx hb d_11_26_38 rfl hl (by decide) rfl (fun ls hl => ?_)
  refine lv_iload_n hx hb d_11_26_39 rfl (lv_at hl 0 rfl) ?_
  refine lv_iconst (v := (-1)) hx hb d_11_26_40 (by decide +kernel) ?_
  refine lv_icmp_eq (tgt := 60) hx hb d_11_26_41 (by decide) (fun c9 => ?_) (fun c9 => ?_)
  · have h := ite_t c9 h
    refine lv_iinc (v := (x2 + 1)) (lv' := [(2, .int (x2 + 1)), (3, .int y0), (0, .ref (ad 41)), (1, .int x1)]) hx hb d_11_26_60 hl (k := 3) rfl (congrArg (fun q => x2 + q) (show Int32.ofInt 1 = 1 by decide +kernel)) (by decide) rfl (fun ls hl => ?_)
    refine lv_goto (tgt := 10) hx hb d_11_26_63 (by decide) ?_
    obtain ⟨rfl, rfl, rfl⟩ := in3 h
    exact k0 rfl H locs ls hP hD hS (lv_sub hl [2, 3, 0] rfl)
  · have h := ite_f c9 h
    refine lv_aload_n hx hb d_11_26_44 rfl (lv_at hl 1 rfl) ?_
    refine m_gr (j := 48) (C := "Ballothall$Poll") (T := TX9) (N := 12) (ci := 9) (k := 9) hx hb hts iX9 hown hG hP (yi_41 hL) (yt_41 hL) rfl (by decide) w_116 (fun _ h9 => h9) rfl rfl (yr_41_9 hL) d_11_26_45 ?_
    refine lv_iload_n hx hb d_11_26_48 rfl (lv_at hl 0 rfl) ?_
    refine lv_dup2_11 hx hb d_11_26_49 rfl rfl ?_
    obtain ⟨ok3, h⟩ := ck_e h
    refine m_la hx hb hG hP (yi_48 hL) (yt_48 hL) ok3 d_11_26_50 ?_
    refine lv_aload_n hx hb d_11_26_51 rfl (lv_at hl 1 rfl) ?_
    refine m_gr (j := 42) (C := "Ballothall$Poll") (T := TX9) (N := 12) (ci := 9) (k := 3) hx hb hts iX9 hown hG hP (yi_41 hL) (yt_41 hL) rfl (by decide) w_110 (fun _ h9 => h9) rfl rfl (yr_41_3 hL) d_11_26_52 ?_
    refine lv_iload_n hx hb d_11_26_55 rfl (lv_at hl 3 rfl) ?_
    obtain ⟨ok4, h⟩ := ck_e h
    refine m_ia hx hb hG hP (yi_42 hL) (yt_42 hL) ok4 d_11_26_56 ?_
    refine lv_i2l (v := (M.1 42 x2.toNatClampNeg).toInt64) hx hb d_11_26_57 rfl ?_
    refine lv_ladd hx hb d_11_26_58 ?_
    obtain ⟨v5, e5, h⟩ := nb_e h
    refine nrmL e5.symm ?_
    obtain ⟨ok6, h⟩ := ck_e h
    refine m_ls hx hb hG hP hD hS (yi_48 hL) (yt_48 hL) ok6 d_11_26_59 (fun H locs hP hD hS => ?_)
    have hP : va_P z.1 classes (wv z ad E (uL M 48 y0.toNatClampNeg v5)) H := hP
    have hD : va_D A (wv z ad E (uL M 48 y0.toNatClampNeg v5)) := hD
    refine lv_iinc (v := (x2 + 1)) (lv' := [(2, .int (x2 + 1)), (3, .int y0), (0, .ref (ad 41)), (1, .int x1)]) hx hb d_11_26_60 hl (k := 3) rfl (congrArg (fun q => x2 + q) (show Int32.ofInt 1 = 1 by decide +kernel)) (by decide) rfl (fun ls hl => ?_)
    refine lv_goto (tgt := 10) hx hb d_11_26_63 (by decide) ?_
    obtain ⟨rfl, rfl, rfl⟩ := in3 h
    exact k0 rfl H locs ls hP hD hS (lv_sub hl [2, 3, 0] rfl)
set_option maxRecDepth 100000 in
set_option maxHeartbeats 4000000 in
theorem b_Po_scoreTopsOf_10b (l : Launch) (z : Zz) (ad : Nat → Nat) (E : Ev) (M : Mm) (x1 : Int32) (x2 : Int32) (t : Nat) (w2 : Int32) (N : Mm) {Q : State → Prop} {p : Program} {e : Env} {s : State} {m : MethodId} {below : List Frame} {meth : Method} {c : Code} {A : Nat → Prop} {args : Array Value} (hx : p.tables.exec = Jvm.exec) (hb : c.code = prog_11_method_26_code) (hml : c.maxLocals = 4) (hts : ∀ w ∈ WG, w.before args s = true) (hown : s.vm.findClass "Ballothall$Poll" = some m.cls) (hlocks : meth.locks = false) (hA : ∀ q, s.heap.size ≤ q → A q) (hG : KG z s) (hZ : FZ z A s) (hL : Lay E) (h : Po_scoreTopsOf_10b E M x1 x2 = some (t, w2, N)) (k0 : t = 0 → ∀ (H : Heap) (locs : List Loc) (ls : Array Slot), va_P z.1 classes (wv z ad E N) H → va_D A (wv z ad E N) → va_S A s.heap H locs → lv_has ls 4 [(0, .ref (ad 41)), (1, .int x1), (2, .int w2)] → W p l e (rmK 2 67 0 0) s m args below meth c H locs 0 0 Q (F0 m 10 ls [])) (k1 : t = 1 → ∀ (H : Heap) (locs : List Loc) (ls : Array Slot), va_P z.1 classes (wv z ad E N) H → va_D A (wv z ad E N) → va_S A s.heap H locs → lv_has ls 4 [] → W p l e (rmK 2 67 0 0) s m args below meth c H locs 0 0 Q (F0 m 66 ls [])) : ∀ (H : Heap) (locs : List Loc) (ls : Array Slot), va_P z.1 classes (wv z ad E M) H → va_D A (wv z ad E M) → va_S A s.heap H locs → lv_has ls 4 [(0, .ref (ad 41)), (1, .int x1), (2, .int x2)] → W p l e (rmK 2 67 0 0) s m args below meth c H locs 0 0 Q (F0 m 10 ls []) := by
  intro H locs ls hP hD hS hl
  unfold Po_scoreTopsOf_10b at h
  refine lv_iload_n hx hb d_11_26_10 rfl (lv_at hl 2 rfl) ?_
  refine lv_bipush (v := 31) hx hb d_11_26_11 (by decide +kernel) ?_
  refine lv_icmp_ge (tgt := 66) hx hb d_11_26_13 (by decide) (fun c9 => ?_) (fun c9 => ?_)
  · have h := ite_t c9 h
    obtain ⟨rfl, rfl, rfl⟩ := in3 h
    exact k1 rfl H locs ls hP hD hS (lv_sub hl [] rfl)
  · have h := ite_f c9 h
    refine lv_aload_n hx hb d_11_26_16 rfl (lv_at hl 0 rfl) ?_
    refine m_gr (j := 42) (C := "Ballothall$Poll") (T := TX9) (N := 12) (ci := 9) (k := 3) hx hb hts iX9 hown hG hP (yi_41 hL) (yt_41 hL) rfl (by decide) w_110 (fun _ h9 => h9) rfl rfl (yr_41_3 hL) d_11_26_17 ?_
    refine lv_iload_n hx hb d_11_26_20 rfl (lv_at hl 2 rfl) ?_
    obtain ⟨ok1, h⟩ := ck_e h
    refine m_ia hx hb hG hP (yi_42 hL) (yt_42 hL) ok1 d_11_26_21 ?_
    refine lv_if_ne (tgt := 29) hx hb d_11_26_22 (by decide) (fun c9 => ?_) (fun c9 => ?_)
    · have h := ite_f c9 h
      refine lv_aload_n hx hb d_11_26_29 rfl (lv_at hl 0 rfl) ?_
      refine m_gr (j := 2) (C := "Ballothall$Poll") (T := TX9) (N := 12) (ci := 9) (k := 0) hx hb hts iX9 hown hG hP (yi_41 hL) (yt_41 hL) rfl (by decide) w_107 (fun _ h9 => h9) rfl rfl (yr_41_0 hL) d_11_26_30 ?_
      refine lv_iload_n hx hb d_11_26_33 rfl (lv_at hl 2 rfl) ?_
      refine lv_iload_n hx hb d_11_26_34 rfl (lv_at hl 1 rfl) ?_
      obtain ⟨⟨r2, M2⟩, g2, h⟩ := bd_e h
      refine kVN (As := [.int x2, .int x1]) (rest := []) (s_Bx_soleTopOf l z ad E M x2 x1 r2 M2 hL g2) hx hb hml hown hts w_681 n_678 w_680 w_s_fbd9d2 w_2 md_0f833a ⟨Nat.le_of_ble_eq_true rfl, Nat.le_of_ble_eq_true rfl⟩ hG hZ hP hD hS hA 2 (wv_o (ci := 0) (yi_2 hL) (yt_2 hL)) rfl rfl rfl hl.1 rfl (Nat.le_of_ble_eq_true rfl) d_11_26_35 ⟨Nat.le_of_ble_eq_true rfl, Nat.le_of_ble_eq_true rfl⟩ (fun _ H locs hP hD hS => ?_)
      have hP : va_P z.1 classes (wv z ad E M2) H := hP
      have hD : va_D A (wv z ad E M2) := hD
      refine W.eq (g2 := F0 m 38 ls [.int r2]) rfl ?_
      exact b_Po_scoreTopsOf_j38 l z ad E M2 x1 x2 r2 t w2 N hx hb hml hts hown hlocks hA hG hZ hL h k0 k1 H locs ls hP hD hS (lv_sub hl [0, 1, 2] rfl)
    · have h := ite_t c9 h
      refine lv_iconst (v := (-1)) hx hb d_11_26_25 (by decide +kernel) ?_
      refine lv_goto (tgt := 38) hx hb d_11_26_26 (by decide) ?_
      exact b_Po_scoreTopsOf_j38 l z ad E M x1 x2 (-1) t w2 N hx hb hml hts hown hlocks hA hG hZ hL h k0 k1 H locs ls hP hD hS (lv_sub hl [0, 1, 2] rfl)
set_option maxRecDepth 100000 in
set_option maxHeartbeats 4000000 in
theorem s_Po_scoreTopsOf_10 (l : Launch) (z : Zz) (ad : Nat → Nat) (E : Ev) (x1 : Int32) {Q : State → Prop} {p : Program} {e : Env} {s : State} {m : MethodId} {below : List Frame} {meth : Method} {c : Code} {A : Nat → Prop} {args : Array Value} (hx : p.tables.exec = Jvm.exec) (hb : c.code = prog_11_method_26_code) (hml : c.maxLocals = 4) (hts : ∀ w ∈ WG, w.before args s = true) (hown : s.vm.findClass "Ballothall$Poll" = some m.cls) (hlocks : meth.locks = false) (hA : ∀ q, s.heap.size ≤ q → A q) (hG : KG z s) (hZ : FZ z A s) (hL : Lay E) : ∀ (fu : Nat) (M : Mm) (x2 : Int32) (t : Nat) (w2 : Int32) (N : Mm), l_Po_scoreTopsOf_10 E x1 fu M x2 = some (t, w2, N) → (t = 1 → ∀ (H : Heap) (locs : List Loc) (ls : Array Slot), va_P z.1 classes (wv z ad E N) H → va_D A (wv z ad E N) → va_S A s.heap H locs → lv_has ls 4 [] → W p l e (rmK 2 67 0 0) s m args below meth c H locs 0 0 Q (F0 m 66 ls [])) → ∀ (H : Heap) (locs : List Loc) (ls : Array Slot), va_P z.1 classes (wv z ad E M) H → va_D A (wv z ad E M) → va_S A s.heap H locs → lv_has ls 4 [(0, .ref (ad 41)), (1, .int x1), (2, .int x2)] → W p l e (rmK 2 67 0 0) s m args below meth c H locs 0 0 Q (F0 m 10 ls []) := by
  intro fu
  induction fu with
  | zero =>
    intro M x2 t w2 N h
    have h : (none : Option (Nat × Int32 × Mm)) = some _ := h
    cases h
  | succ fu ih =>
    intro M x2 t w2 N h k1 H locs ls hP hD hS hl
    obtain ⟨⟨t0, w20, N0⟩, g0, h⟩ := bd_e h
    refine b_Po_scoreTopsOf_10b l z ad E M x1 x2 t0 w20 N0 hx hb hml hts hown hlocks hA hG hZ hL g0 (fun e0 => ?_) (fun e0 => ?_) H locs ls hP hD hS hl
    · subst e0
      have h := ite_t rfl h
      exact ih N0 w20 t w2 N h k1
    · subst e0
      have h := ite_f (by decide) h
      obtain ⟨rfl, rfl, rfl⟩ := in3 h
      exact k1 rfl
set_option maxRecDepth 100000 in
set_option maxHeartbeats 4000000 in
theorem s_Po_scoreTopsOf (l : Launch) (z : Zz) (ad : Nat → Nat) (E : Ev) (M : Mm) (x1 : Int32) (N : Mm) (hL : Lay E) (h : f_Po_scoreTopsOf E M x1 = some N) : CT l z ⟨"Ballothall$Poll", "scoreTopsOf", "(I)V"⟩ prog_11_method_26_code 4 none [.ref (ad 41), .int x1] (wv z ad E M) 2 67 0 0 (fun _ => none) (fun _ => wv z ad E N) := by
  refine CT.of (own := "Ballothall$Poll") (by decide +kernel) (Nat.le_of_ble_eq_true rfl) rfl (fun p e s m below meth c A ls hx hb hml hr hts hown hlocks hin hA hG hZ hP hD hS hl => ?_)
  have hl : lv_has ls 4 [(0, .ref (ad 41)), (1, .int x1)] := hl
  have key : ∀ (H : Heap) (locs : List Loc) (args : Array Value), (∀ w ∈ WG, w.before args s = true) → va_P z.1 classes (wv z ad E M) H → va_S A s.heap H locs → W p l e (rmK 2 67 0 0) s m args below meth c H locs 0 0 (MQ below (QK z A (fun _ => none) (fun _ => wv z ad E N)) args s 0 0 A) (F0 m 0 ls []) := by
    intro H locs args hts hP hS
    unfold f_Po_scoreTopsOf at h
    refine lv_aload_n hx hb d_11_26_0 rfl (lv_at hl 0 rfl) ?_
    refine m_gr (j := 48) (C := "Ballothall$Poll") (T := TX9) (N := 12) (ci := 9) (k := 9) hx hb hts iX9 hown hG hP (yi_41 hL) (yt_41 hL) rfl (by decide) w_116 (fun _ h9 => h9) rfl rfl (yr_41_9 hL) d_11_26_1 ?_
    refine lv_lconst (v := 0) hx hb d_11_26_4 (by decide +kernel) ?_
    obtain ⟨M0, g0, h⟩ := bd_e h
    refine kS (As := [.ref (ad 48), .long 0]) (rest := []) (s_Ar_fillL l z ad E M 48 0 M0 hL g0) hx hb hml hown hts w_1385 w_1383 w_1384 w_23 md_357667 ⟨Nat.le_of_ble_eq_true rfl, Nat.le_of_ble_eq_true rfl⟩ hG hZ hP hD hS hA rfl hl.1 rfl (Nat.le_of_ble_eq_true rfl) d_11_26_5 ⟨Nat.le_of_ble_eq_true rfl, Nat.le_of_ble_eq_true rfl⟩ (fun _ H locs hP hD hS => ?_)
    have hP : va_P z.1 classes (wv z ad E M0) H := hP
    have hD : va_D A (wv z ad E M0) := hD
    refine W.eq (g2 := F0 m 8 ls []) rfl ?_
    refine lv_iconst (v := 0) hx hb d_11_26_8 (by decide +kernel) ?_
    refine lv_istore_n (lv' := [(2, .int 0), (0, .ref (ad 41)), (1, .int x1)]) hx hb d_11_26_9 rfl hl (by decide) rfl (fun ls hl => ?_)
    obtain ⟨⟨t7, v7_2, M7⟩, g7, h⟩ := bd_e h
    obtain ⟨ok7, h⟩ := ck_e h
    refine s_Po_scoreTopsOf_10 l z ad E x1 hx hb hml hts hown hlocks hA hG hZ hL FU M0 0 t7 v7_2 M7 g7 (fun e7 H locs ls hP hD hS hl => ?_) H locs ls hP hD hS (lv_sub hl [1, 2, 0] rfl)
    obtain rfl := in1 h
    exact W.vret hx hb hr (fun t ht hW => qkA hP hD hS (fun k => k) rfl rfl ht) hS.2.2 d_11_26_66
  exact key _ _ _ hts hP hS
set_option maxRecDepth 100000 in
set_option maxHeartbeats 4000000 in
theorem s_Bx_winsLot (l : Launch) (z : Zz) (ad : Nat → Nat) (E : Ev) (M : Mm) (x1 : Int32) (x2 : Int32) (r : Int32) (N : Mm) (hL : Lay E) (h : f_Bx_winsLot E M x1 x2 = some (r, N)) : CT l z ⟨"Ballothall$BallotBox", "winsLot", "(II)Z"⟩ prog_2_method_3_code 3 (some .boolean) [.ref (ad 2), .int x1, .int x2] (wv z ad E M) 0 20 0 0 (fun _ => some (.int r)) (fun _ => wv z ad E N) := by
  refine CT.of (own := "Ballothall$BallotBox") (by decide +kernel) (Nat.le_of_ble_eq_true rfl) rfl (fun p e s m below meth c A ls hx hb hml hr hts hown hlocks hin hA hG hZ hP hD hS hl => ?_)
  have hl : lv_has ls 3 [(0, .ref (ad 2)), (1, .int x1), (2, .int x2)] := hl
  have key : ∀ (H : Heap) (locs : List Loc) (args : Array Value), (∀ w ∈ WG, w.before args s = true) → va_P z.1 classes (wv z ad E M) H → va_S A s.heap H locs → W p l e (rmK 0 20 0 0) s m args below meth c H locs 0 0 (MQ below (QK z A (fun _ => some (.int r)) (fun _ => wv z ad E N)) args s 0 0 A) (F0 m 0 ls []) := by
    intro H locs args hts hP hS
    unfold f_Bx_winsLot at h
    refine lv_aload_n hx hb d_2_3_0 rfl (lv_at hl 0 rfl) ?_
    refine m_gr (j := 4) (C := "Ballothall$BallotBox") (T := TX0) (N := 10) (ci := 0) (k := 4) hx hb hts iX0 hown hG hP (yi_2 hL) (yt_2 hL) rfl (by decide) w_61 (fun _ h9 => h9) rfl rfl (yr_2_4 hL) d_2_3_1 ?_
    refine lv_iload_n hx hb d_2_3_4 rfl (lv_at hl 1 rfl) ?_
    obtain ⟨ok0, h⟩ := ck_e h
    refine m_ia hx hb hG hP (yi_4 hL) (yt_4 hL) ok0 d_2_3_5 ?_
    refine lv_aload_n hx hb d_2_3_6 rfl (lv_at hl 0 rfl) ?_
    refine m_gr (j := 4) (C := "Ballothall$BallotBox") (T := TX0) (N := 10) (ci := 0) (k := 4) hx hb hts iX0 hown hG hP (yi_2 hL) (yt_2 hL) rfl (by decide) w_61 (fun _ h9 => h9) rfl rfl (yr_2_4 hL) d_2_3_7 ?_
    refine lv_iload_n hx hb d_2_3_10 rfl (lv_at hl 2 rfl) ?_
    obtain ⟨ok1, h⟩ := ck_e h
    refine m_ia hx hb hG hP (yi_4 hL) (yt_4 hL) ok1 d_2_3_11 ?_
    refine lv_icmp_lt (tgt := 35) hx hb d_2_3_12 (by decide) (fun c9 => ?_) (fun c9 => ?_)
    · have h := ite_t c9 h
      refine lv_iconst (v := 1) hx hb d_2_3_35 (by decide +kernel) ?_
      refine lv_goto (tgt := 40) hx hb d_2_3_36 (by decide) ?_
      obtain ⟨rfl, rfl⟩ := in2 h
      exact W.zret hx hb hr rfl (fun t ht hW => qkA hP hD hS (fun k => k) rfl rfl ht) hS.2.2 d_2_3_40
    · have h := ite_f c9 h
      refine lv_aload_n hx hb d_2_3_15 rfl (lv_at hl 0 rfl) ?_
      refine m_gr (j := 4) (C := "Ballothall$BallotBox") (T := TX0) (N := 10) (ci := 0) (k := 4) hx hb hts iX0 hown hG hP (yi_2 hL) (yt_2 hL) rfl (by decide) w_61 (fun _ h9 => h9) rfl rfl (yr_2_4 hL) d_2_3_16 ?_
      refine lv_iload_n hx hb d_2_3_19 rfl (lv_at hl 1 rfl) ?_
      obtain ⟨ok2, h⟩ := ck_e h
      refine m_ia hx hb hG hP (yi_4 hL) (yt_4 hL) ok2 d_2_3_20 ?_
      refine lv_aload_n hx hb d_2_3_21 rfl (lv_at hl 0 rfl) ?_
      refine m_gr (j := 4) (C := "Ballothall$BallotBox") (T := TX0) (N := 10) (ci := 0) (k := 4) hx hb hts iX0 hown hG hP (yi_2 hL) (yt_2 hL) rfl (by decide) w_61 (fun _ h9 => h9) rfl rfl (yr_2_4 hL) d_2_3_22 ?_
      refine lv_iload_n hx hb d_2_3_25 rfl (lv_at hl 2 rfl) ?_
      obtain ⟨ok3, h⟩ := ck_e h
      refine m_ia hx hb hG hP (yi_4 hL) (yt_4 hL) ok3 d_2_3_26 ?_
      refine lv_icmp_ne (tgt := 39) hx hb d_2_3_27 (by decide) (fun c9 => ?_) (fun c9 => ?_)
      · have h := ite_f c9 h
        refine lv_iconst (v := 0) hx hb d_2_3_39 (by decide +kernel) ?_
        obtain ⟨rfl, rfl⟩ := in2 h
        exact W.zret hx hb hr rfl (fun t ht hW => qkA hP hD hS (fun k => k) rfl rfl ht) hS.2.2 d_2_3_40
      · have h := ite_t c9 h
        refine lv_iload_n hx hb d_2_3_30 rfl (lv_at hl 1 rfl) ?_
        refine lv_iload_n hx hb d_2_3_31 rfl (lv_at hl 2 rfl) ?_
        refine lv_icmp_ge (tgt := 39) hx hb d_2_3_32 (by decide) (fun c9 => ?_) (fun c9 => ?_)
        · have h := ite_t c9 h
          refine lv_iconst (v := 0) hx hb d_2_3_39 (by decide +kernel) ?_
          obtain ⟨rfl, rfl⟩ := in2 h
          exact W.zret hx hb hr rfl (fun t ht hW => qkA hP hD hS (fun k => k) rfl rfl ht) hS.2.2 d_2_3_40
        · have h := ite_f c9 h
          refine lv_iconst (v := 1) hx hb d_2_3_35 (by decide +kernel) ?_
          refine lv_goto (tgt := 40) hx hb d_2_3_36 (by decide) ?_
          obtain ⟨rfl, rfl⟩ := in2 h
          exact W.zret hx hb hr rfl (fun t ht hW => qkA hP hD hS (fun k => k) rfl rfl ht) hS.2.2 d_2_3_40
  exact key _ _ _ hts hP hS
set_option maxRecDepth 100000 in
set_option maxHeartbeats 4000000 in
theorem b_Po_smallestOf_4b (l : Launch) (z : Zz) (ad : Nat → Nat) (E : Ev) (M : Mm) (x1 : Int32) (x2 : Int32) (x3 : Int32) (t : Nat) (w2 : Int32) (w3 : Int32) (N : Mm) {Q : State → Prop} {p : Program} {e : Env} {s : State} {m : MethodId} {below : List Frame} {meth : Method} {c : Code} {A : Nat → Prop} {args : Array Value} (hx : p.tables.exec = Jvm.exec) (hb : c.code = prog_11_method_24_code) (hml : c.maxLocals = 4) (hts : ∀ w ∈ WG, w.before args s = true) (hown : s.vm.findClass "Ballothall$Poll" = some m.cls) (hlocks : meth.locks = false) (hA : ∀ q, s.heap.size ≤ q → A q) (hG : KG z s) (hZ : FZ z A s) (hL : Lay E) (h : Po_smallestOf_4b E M x1 x2 x3 = some (t, w2, w3, N)) (k0 : t = 0 → ∀ (H : Heap) (locs : List Loc) (ls : Array Slot), va_P z.1 classes (wv z ad E N) H → va_D A (wv z ad E N) → va_S A s.heap H locs → lv_has ls 4 [(0, .ref (ad 41)), (1, .int x1), (2, .int w2), (3, .int w3)] → W p l e (rmK 1 42 0 0) s m args below meth c H locs 0 0 Q (F0 m 4 ls [])) (k1 : t = 1 → ∀ (H : Heap) (locs : List Loc) (ls : Array Slot), va_P z.1 classes (wv z ad E N) H → va_D A (wv z ad E N) → va_S A s.heap H locs → lv_has ls 4 [(2, .int w2)] → W p l e (rmK 1 42 0 0) s m args below meth c H locs 0 0 Q (F0 m 80 ls [])) : ∀ (H : Heap) (locs : List Loc) (ls : Array Slot), va_P z.1 classes (wv z ad E M) H → va_D A (wv z ad E M) → va_S A s.heap H locs → lv_has ls 4 [(0, .ref (ad 41)), (1, .int x1), (2, .int x2), (3, .int x3)] → W p l e (rmK 1 42 0 0) s m args below meth c H locs 0 0 Q (F0 m 4 ls []) := by
  intro H locs ls hP hD hS hl
  unfold Po_smallestOf_4b at h
  refine lv_iload_n hx hb d_11_24_4 rfl (lv_at hl 3 rfl) ?_
  refine lv_aload_n hx hb d_11_24_5 rfl (lv_at hl 0 rfl) ?_
  refine m_gr (j := 2) (C := "Ballothall$Poll") (T := TX9) (N := 12) (ci := 9) (k := 0) hx hb hts iX9 hown hG hP (yi_41 hL) (yt_41 hL) rfl (by decide) w_107 (fun _ h9 => h9) rfl rfl (yr_41_0 hL) d_11_24_6 ?_
  refine m_giN (C := "Ballothall$BallotBox") (T := TX0) (N := 10) (ci := 0) (k := 2) hx hb hts iX0 hown hG hP (yi_2 hL) (yt_2 hL) rfl (by decide) n_53 rfl (fun _ h9 => h9) rfl rfl d_11_24_9 ?_
  refine lv_icmp_ge (tgt := 80) hx hb d_11_24_12 (by decide) (fun c9 => ?_) (fun c9 => ?_)
  · have h := ite_t c9 h
    obtain ⟨rfl, rfl, rfl, rfl⟩ := in4 h
    exact k1 rfl H locs ls hP hD hS (lv_sub hl [2] rfl)
  · have h := ite_f c9 h
    refine lv_iload_n hx hb d_11_24_15 rfl (lv_at hl 1 rfl) ?_
    refine lv_iload_n hx hb d_11_24_16 rfl (lv_at hl 3 rfl) ?_
    obtain ⟨⟨r0, M0⟩, g0, h⟩ := bd_e h
    refine kSN (As := [.int x1, .int x3]) (rest := []) (s_B_has l z ad E M x1 x3 r0 M0 hL g0) hx hb hml hown hts w_693 n_691 w_692 w_1 md_26545c ⟨Nat.le_of_ble_eq_true rfl, Nat.le_of_ble_eq_true rfl⟩ hG hZ hP hD hS hA rfl hl.1 rfl (Nat.le_of_ble_eq_true rfl) d_11_24_17 ⟨Nat.le_of_ble_eq_true rfl, Nat.le_of_ble_eq_true rfl⟩ (fun _ H locs hP hD hS => ?_)
    have hP : va_P z.1 classes (wv z ad E M0) H := hP
    have hD : va_D A (wv z ad E M0) := hD
    refine W.eq (g2 := F0 m 20 ls [.int r0]) rfl ?_
    refine lv_if_eq (tgt := 74) hx hb d_11_24_20 (by decide) (fun c9 => ?_) (fun c9 => ?_)
    · have h := ite_t c9 h
      refine lv_iinc (v := (x3 + 1)) (lv' := [(3, .int (x3 + 1)), (0, .ref (ad 41)), (1, .int x1), (2, .int x2)]) hx hb d_11_24_74 hl (k := 3) rfl (congrArg (fun q => x3 + q) (show Int32.ofInt 1 = 1 by decide +kernel)) (by decide) rfl (fun ls hl => ?_)
      refine lv_goto (tgt := 4) hx hb d_11_24_77 (by decide) ?_
      obtain ⟨rfl, rfl, rfl, rfl⟩ := in4 h
      exact k0 rfl H locs ls hP hD hS (lv_sub hl [1, 2, 3, 0] rfl)
    · have h := ite_f c9 h
      refine lv_iload_n hx hb d_11_24_23 rfl (lv_at hl 2 rfl) ?_
      refine lv_iconst (v := (-1)) hx hb d_11_24_24 (by decide +kernel) ?_
      refine lv_icmp_eq (tgt := 72) hx hb d_11_24_25 (by decide) (fun c9 => ?_) (fun c9 => ?_)
      · have h := ite_t c9 h
        refine lv_iload_n hx hb d_11_24_72 rfl (lv_at hl 3 rfl) ?_
        refine lv_istore_n (lv' := [(2, .int x3), (0, .ref (ad 41)), (1, .int x1), (3, .int x3)]) hx hb d_11_24_73 rfl hl (by decide) rfl (fun ls hl => ?_)
        refine lv_iinc (v := (x3 + 1)) (lv' := [(3, .int (x3 + 1)), (2, .int x3), (0, .ref (ad 41)), (1, .int x1)]) hx hb d_11_24_74 hl (k := 3) rfl (congrArg (fun q => x3 + q) (show Int32.ofInt 1 = 1 by decide +kernel)) (by decide) rfl (fun ls hl => ?_)
        refine lv_goto (tgt := 4) hx hb d_11_24_77 (by decide) ?_
        obtain ⟨rfl, rfl, rfl, rfl⟩ := in4 h
        exact k0 rfl H locs ls hP hD hS (lv_sub hl [2, 3, 1, 0] rfl)
      · have h := ite_f c9 h
        refine lv_aload_n hx hb d_11_24_28 rfl (lv_at hl 0 rfl) ?_
        refine m_gr (j := 48) (C := "Ballothall$Poll") (T := TX9) (N := 12) (ci := 9) (k := 9) hx hb hts iX9 hown hG hP (yi_41 hL) (yt_41 hL) rfl (by decide) w_116 (fun _ h9 => h9) rfl rfl (yr_41_9 hL) d_11_24_29 ?_
        refine lv_iload_n hx hb d_11_24_32 rfl (lv_at hl 3 rfl) ?_
        obtain ⟨ok1, h⟩ := ck_e h
        refine m_la hx hb hG hP (yi_48 hL) (yt_48 hL) ok1 d_11_24_33 ?_
        refine lv_aload_n hx hb d_11_24_34 rfl (lv_at hl 0 rfl) ?_
        refine m_gr (j := 48) (C := "Ballothall$Poll") (T := TX9) (N := 12) (ci := 9) (k := 9) hx hb hts iX9 hown hG hP (yi_41 hL) (yt_41 hL) rfl (by decide) w_116 (fun _ h9 => h9) rfl rfl (yr_41_9 hL) d_11_24_35 ?_
        refine lv_iload_n hx hb d_11_24_38 rfl (lv_at hl 2 rfl) ?_
        obtain ⟨ok2, h⟩ := ck_e h
        refine m_la hx hb hG hP (yi_48 hL) (yt_48 hL) ok2 d_11_24_39 ?_
        refine W.lcmp hx hb d_11_24_40 ?_
        refine lv_if_lt (tgt := 72) hx hb d_11_24_41 (by decide) (fun c9 => ?_) (fun c9 => ?_)
        · have h := ite_t c9 h
          refine lv_iload_n hx hb d_11_24_72 rfl (lv_at hl 3 rfl) ?_
          refine lv_istore_n (lv' := [(2, .int x3), (0, .ref (ad 41)), (1, .int x1), (3, .int x3)]) hx hb d_11_24_73 rfl hl (by decide) rfl (fun ls hl => ?_)
          refine lv_iinc (v := (x3 + 1)) (lv' := [(3, .int (x3 + 1)), (2, .int x3), (0, .ref (ad 41)), (1, .int x1)]) hx hb d_11_24_74 hl (k := 3) rfl (congrArg (fun q => x3 + q) (show Int32.ofInt 1 = 1 by decide +kernel)) (by decide) rfl (fun ls hl => ?_)
          refine lv_goto (tgt := 4) hx hb d_11_24_77 (by decide) ?_
          obtain ⟨rfl, rfl, rfl, rfl⟩ := in4 h
          exact k0 rfl H locs ls hP hD hS (lv_sub hl [2, 3, 1, 0] rfl)
        · have h := ite_f c9 h
          refine lv_aload_n hx hb d_11_24_44 rfl (lv_at hl 0 rfl) ?_
          refine m_gr (j := 48) (C := "Ballothall$Poll") (T := TX9) (N := 12) (ci := 9) (k := 9) hx hb hts iX9 hown hG hP (yi_41 hL) (yt_41 hL) rfl (by decide) w_116 (fun _ h9 => h9) rfl rfl (yr_41_9 hL) d_11_24_45 ?_
          refine lv_iload_n hx hb d_11_24_48 rfl (lv_at hl 3 rfl) ?_
          obtain ⟨ok3, h⟩ := ck_e h
          refine m_la hx hb hG hP (yi_48 hL) (yt_48 hL) ok3 d_11_24_49 ?_
          refine lv_aload_n hx hb d_11_24_50 rfl (lv_at hl 0 rfl) ?_
          refine m_gr (j := 48) (C := "Ballothall$Poll") (T := TX9) (N := 12) (ci := 9) (k := 9) hx hb hts iX9 hown hG hP (yi_41 hL) (yt_41 hL) rfl (by decide) w_116 (fun _ h9 => h9) rfl rfl (yr_41_9 hL) d_11_24_51 ?_
          refine lv_iload_n hx hb d_11_24_54 rfl (lv_at hl 2 rfl) ?_
          obtain ⟨ok4, h⟩ := ck_e h
          refine m_la hx hb hG hP (yi_48 hL) (yt_48 hL) ok4 d_11_24_55 ?_
          refine W.lcmp hx hb d_11_24_56 ?_
          refine lv_if_ne (tgt := 74) hx hb d_11_24_57 (by decide) (fun c9 => ?_) (fun c9 => ?_)
          · have h := ite_f c9 h
            refine lv_iinc (v := (x3 + 1)) (lv' := [(3, .int (x3 + 1)), (0, .ref (ad 41)), (1, .int x1), (2, .int x2)]) hx hb d_11_24_74 hl (k := 3) rfl (congrArg (fun q => x3 + q) (show Int32.ofInt 1 = 1 by decide +kernel)) (by decide) rfl (fun ls hl => ?_)
            refine lv_goto (tgt := 4) hx hb d_11_24_77 (by decide) ?_
            obtain ⟨rfl, rfl, rfl, rfl⟩ := in4 h
            exact k0 rfl H locs ls hP hD hS (lv_sub hl [1, 2, 3, 0] rfl)
          · have h := ite_t c9 h
            refine lv_aload_n hx hb d_11_24_60 rfl (lv_at hl 0 rfl) ?_
            refine m_gr (j := 2) (C := "Ballothall$Poll") (T := TX9) (N := 12) (ci := 9) (k := 0) hx hb hts iX9 hown hG hP (yi_41 hL) (yt_41 hL) rfl (by decide) w_107 (fun _ h9 => h9) rfl rfl (yr_41_0 hL) d_11_24_61 ?_
            refine lv_iload_n hx hb d_11_24_64 rfl (lv_at hl 2 rfl) ?_
            refine lv_iload_n hx hb d_11_24_65 rfl (lv_at hl 3 rfl) ?_
            obtain ⟨⟨r5, M5⟩, g5, h⟩ := bd_e h
            refine kVN (As := [.int x2, .int x3]) (rest := []) (s_Bx_winsLot l z ad E M0 x2 x3 r5 M5 hL g5) hx hb hml hown hts w_1163 n_1390 w_1162 w_s_85fec9 w_2 md_aa27a3 ⟨Nat.le_of_ble_eq_true rfl, Nat.le_of_ble_eq_true rfl⟩ hG hZ hP hD hS hA 2 (wv_o (ci := 0) (yi_2 hL) (yt_2 hL)) rfl rfl rfl hl.1 rfl (Nat.le_of_ble_eq_true rfl) d_11_24_66 ⟨Nat.le_of_ble_eq_true rfl, Nat.le_of_ble_eq_true rfl⟩ (fun _ H locs hP hD hS => ?_)
            have hP : va_P z.1 classes (wv z ad E M5) H := hP
            have hD : va_D A (wv z ad E M5) := hD
            refine W.eq (g2 := F0 m 69 ls [.int r5]) rfl ?_
            refine lv_if_eq (tgt := 74) hx hb d_11_24_69 (by decide) (fun c9 => ?_) (fun c9 => ?_)
            · have h := ite_t c9 h
              refine lv_iinc (v := (x3 + 1)) (lv' := [(3, .int (x3 + 1)), (0, .ref (ad 41)), (1, .int x1), (2, .int x2)]) hx hb d_11_24_74 hl (k := 3) rfl (congrArg (fun q => x3 + q) (show Int32.ofInt 1 = 1 by decide +kernel)) (by decide) rfl (fun ls hl => ?_)
              refine lv_goto (tgt := 4) hx hb d_11_24_77 (by decide) ?_
              obtain ⟨rfl, rfl, rfl, rfl⟩ := in4 h
              exact k0 rfl H locs ls hP hD hS (lv_sub hl [1, 2, 3, 0] rfl)
            · have h := ite_f c9 h
              refine lv_iload_n hx hb d_11_24_72 rfl (lv_at hl 3 rfl) ?_
              refine lv_istore_n (lv' := [(2, .int x3), (0, .ref (ad 41)), (1, .int x1), (3, .int x3)]) hx hb d_11_24_73 rfl hl (by decide) rfl (fun ls hl => ?_)
              refine lv_iinc (v := (x3 + 1)) (lv' := [(3, .int (x3 + 1)), (2, .int x3), (0, .ref (ad 41)), (1, .int x1)]) hx hb d_11_24_74 hl (k := 3) rfl (congrArg (fun q => x3 + q) (show Int32.ofInt 1 = 1 by decide +kernel)) (by decide) rfl (fun ls hl => ?_)
              refine lv_goto (tgt := 4) hx hb d_11_24_77 (by decide) ?_
              obtain ⟨rfl, rfl, rfl, rfl⟩ := in4 h
              exact k0 rfl H locs ls hP hD hS (lv_sub hl [2, 3, 1, 0] rfl)
set_option maxRecDepth 100000 in
set_option maxHeartbeats 4000000 in
theorem s_Po_smallestOf_4 (l : Launch) (z : Zz) (ad : Nat → Nat) (E : Ev) (x1 : Int32) {Q : State → Prop} {p : Program} {e : Env} {s : State} {m : MethodId} {below : List Frame} {meth : Method} {c : Code} {A : Nat → Prop} {args : Array Value} (hx : p.tables.exec = Jvm.exec) (hb : c.code = prog_11_method_24_code) (hml : c.maxLocals = 4) (hts : ∀ w ∈ WG, w.before args s = true) (hown : s.vm.findClass "Ballothall$Poll" = some m.cls) (hlocks : meth.locks = false) (hA : ∀ q, s.heap.size ≤ q → A q) (hG : KG z s) (hZ : FZ z A s) (hL : Lay E) : ∀ (fu : Nat) (M : Mm) (x2 : Int32) (x3 : Int32) (t : Nat) (w2 : Int32) (w3 : Int32) (N : Mm), l_Po_smallestOf_4 E x1 fu M x2 x3 = some (t, w2, w3, N) → (t = 1 → ∀ (H : Heap) (locs : List Loc) (ls : Array Slot), va_P z.1 classes (wv z ad E N) H → va_D A (wv z ad E N) → va_S A s.heap H locs → lv_has ls 4 [(2, .int w2)] → W p l e (rmK 1 42 0 0) s m args below meth c H locs 0 0 Q (F0 m 80 ls [])) → ∀ (H : Heap) (locs : List Loc) (ls : Array Slot), va_P z.1 classes (wv z ad E M) H → va_D A (wv z ad E M) → va_S A s.heap H locs → lv_has ls 4 [(0, .ref (ad 41)), (1, .int x1), (2, .int x2), (3, .int x3)] → W p l e (rmK 1 42 0 0) s m args below meth c H locs 0 0 Q (F0 m 4 ls []) := by
  intro fu
  induction fu with
  | zero =>
    intro M x2 x3 t w2 w3 N h
    have h : (none : Option (Nat × Int32 × Int32 × Mm)) = some _ := h
    cases h
  | succ fu ih =>
    intro M x2 x3 t w2 w3 N h k1 H locs ls hP hD hS hl
    obtain ⟨⟨t0, w20, w30, N0⟩, g0, h⟩ := bd_e h
    refine b_Po_smallestOf_4b l z ad E M x1 x2 x3 t0 w20 w30 N0 hx hb hml hts hown hlocks hA hG hZ hL g0 (fun e0 => ?_) (fun e0 => ?_) H locs ls hP hD hS hl
    · subst e0
      have h := ite_t rfl h
      exact ih N0 w20 w30 t w2 w3 N h k1
    · subst e0
      have h := ite_f (by decide) h
      obtain ⟨rfl, rfl, rfl, rfl⟩ := in4 h
      exact k1 rfl
set_option maxRecDepth 100000 in
set_option maxHeartbeats 4000000 in
theorem s_Po_smallestOf (l : Launch) (z : Zz) (ad : Nat → Nat) (E : Ev) (M : Mm) (x1 : Int32) (r : Int32) (N : Mm) (hL : Lay E) (h : f_Po_smallestOf E M x1 = some (r, N)) : CT l z ⟨"Ballothall$Poll", "smallestOf", "(I)I"⟩ prog_11_method_24_code 4 (some .int) [.ref (ad 41), .int x1] (wv z ad E M) 1 42 0 0 (fun _ => some (.int r)) (fun _ => wv z ad E N) := by
  refine CT.of (own := "Ballothall$Poll") (by decide +kernel) (Nat.le_of_ble_eq_true rfl) rfl (fun p e s m below meth c A ls hx hb hml hr hts hown hlocks hin hA hG hZ hP hD hS hl => ?_)
  have hl : lv_has ls 4 [(0, .ref (ad 41)), (1, .int x1)] := hl
  have key : ∀ (H : Heap) (locs : List Loc) (args : Array Value), (∀ w ∈ WG, w.before args s = true) → va_P z.1 classes (wv z ad E M) H → va_S A s.heap H locs → W p l e (rmK 1 42 0 0) s m args below meth c H locs 0 0 (MQ below (QK z A (fun _ => some (.int r)) (fun _ => wv z ad E N)) args s 0 0 A) (F0 m 0 ls []) := by
    intro H locs args hts hP hS
    unfold f_Po_smallestOf at h
    refine lv_iconst (v := (-1)) hx hb d_11_24_0 (by decide +kernel) ?_
    refine lv_istore_n (lv' := [(2, .int (-1)), (0, .ref (ad 41)), (1, .int x1)]) hx hb d_11_24_1 rfl hl (by decide) rfl (fun ls hl => ?_)
    refine lv_iconst (v := 0) hx hb d_11_24_2 (by decide +kernel) ?_
    refine lv_istore_n (lv' := [(3, .int 0), (2, .int (-1)), (0, .ref (ad 41)), (1, .int x1)]) hx hb d_11_24_3 rfl hl (by decide) rfl (fun ls hl => ?_)
    obtain ⟨⟨t6, v6_2, v6_3, M6⟩, g6, h⟩ := bd_e h
    obtain ⟨ok6, h⟩ := ck_e h
    refine s_Po_smallestOf_4 l z ad E x1 hx hb hml hts hown hlocks hA hG hZ hL FU M (-1) 0 t6 v6_2 v6_3 M6 g6 (fun e6 H locs ls hP hD hS hl => ?_) H locs ls hP hD hS (lv_sub hl [2, 3, 1, 0] rfl)
    refine lv_iload_n hx hb d_11_24_80 rfl (lv_at hl 0 rfl) ?_
    obtain ⟨rfl, rfl⟩ := in2 h
    exact W.iret hx hb hr (fun t ht hW => qkA hP hD hS (fun k => k) rfl rfl ht) hS.2.2 d_11_24_81
  exact key _ _ _ hts hP hS
