set_option maxRecDepth 100000 in
set_option maxHeartbeats 4000000 in
theorem s_Co_multiplyAll_49 (l : Launch) (z : Zz) (ad : Nat → Nat) (E : Ev) (q1 : Nat) (x2 : Int) {Q : State → Prop} {p : Program} {e : Env} {s : State} {m : MethodId} {below : List Frame} {meth : Method} {c : Code} {A : Nat → Prop} {args : Array Value} (hx : p.tables.exec = Jvm.exec) (hb : c.code = prog_5_method_16_code) (hml : c.maxLocals = 4) (hts : ∀ w ∈ WG, w.before args s = true) (hown : s.vm.findClass "Ballothall$Counting" = some m.cls) (hlocks : meth.locks = false) (hA : ∀ q, s.heap.size ≤ q → A q) (hG : KG z s) (hZ : FZ z A s) (hL : Lay E) : ∀ (fu : Nat) (M : Mm) (x3 : Int) (t : Nat) (w3 : Int) (N : Mm), l_Co_multiplyAll_49 E q1 x2 fu M x3 = some (t, w3, N) → (t = 1 → ∀ (H : Heap) (locs : List Loc) (ls : Array Slot), va_P z.1 classes (wv z ad E N) H → va_D A (wv z ad E N) → va_S A s.heap H locs → lv_has ls 4 [(0, .ref (ad 179)), (1, .ref (ad q1)), (2, .int (oI x2))] → W p l e (rmK 4 109 0 0) s m args below meth c H locs 0 0 Q (F0 m 88 ls [])) → ∀ (H : Heap) (locs : List Loc) (ls : Array Slot), va_P z.1 classes (wv z ad E M) H → va_D A (wv z ad E M) → va_S A s.heap H locs → lv_has ls 4 [(0, .ref (ad 179)), (1, .ref (ad q1)), (2, .int (oI x2)), (3, .int (oI x3))] → W p l e (rmK 4 109 0 0) s m args below meth c H locs 0 0 Q (F0 m 49 ls []) := by
  intro fu
  induction fu with
  | zero =>
    intro M x3 t w3 N h
    have h : (none : Option (Nat × Int × Mm)) = some _ := h
    cases h
  | succ fu ih =>
    intro M x3 t w3 N h k1 H locs ls hP hD hS hl
    obtain ⟨⟨t0, w30, N9⟩, g0, h⟩ := bd_e h
    refine b_Co_multiplyAll_49b l z ad E M q1 x2 x3 t0 w30 N9 hx hb hml hts hown hlocks hA hG hZ hL g0 (fun e0 => ?_) (fun e0 => ?_) H locs ls hP hD hS hl
    · subst e0
      have h := ite_t rfl h
      exact ih N9 w30 t w3 N h k1
    · subst e0
      have h := ite_f (by decide) h
      obtain ⟨rfl, rfl, rfl⟩ := in3 h
      exact k1 rfl
set_option maxRecDepth 100000 in
set_option maxHeartbeats 4000000 in
theorem b_Co_multiplyAll_36b (l : Launch) (z : Zz) (ad : Nat → Nat) (E : Ev) (M : Mm) (q1 : Nat) (x2 : Int) (t : Nat) (w2 : Int) (N : Mm) {Q : State → Prop} {p : Program} {e : Env} {s : State} {m : MethodId} {below : List Frame} {meth : Method} {c : Code} {A : Nat → Prop} {args : Array Value} (hx : p.tables.exec = Jvm.exec) (hb : c.code = prog_5_method_16_code) (hml : c.maxLocals = 4) (hts : ∀ w ∈ WG, w.before args s = true) (hown : s.vm.findClass "Ballothall$Counting" = some m.cls) (hlocks : meth.locks = false) (hA : ∀ q, s.heap.size ≤ q → A q) (hG : KG z s) (hZ : FZ z A s) (hL : Lay E) (h : Co_multiplyAll_36b E M q1 x2 = some (t, w2, N)) (k0 : t = 0 → ∀ (H : Heap) (locs : List Loc) (ls : Array Slot), va_P z.1 classes (wv z ad E N) H → va_D A (wv z ad E N) → va_S A s.heap H locs → lv_has ls 4 [(0, .ref (ad 179)), (1, .ref (ad q1)), (2, .int (oI w2))] → W p l e (rmK 4 109 0 0) s m args below meth c H locs 0 0 Q (F0 m 36 ls [])) (k1 : t = 1 → ∀ (H : Heap) (locs : List Loc) (ls : Array Slot), va_P z.1 classes (wv z ad E N) H → va_D A (wv z ad E N) → va_S A s.heap H locs → lv_has ls 4 [] → W p l e (rmK 4 109 0 0) s m args below meth c H locs 0 0 Q (F0 m 94 ls [])) : ∀ (H : Heap) (locs : List Loc) (ls : Array Slot), va_P z.1 classes (wv z ad E M) H → va_D A (wv z ad E M) → va_S A s.heap H locs → lv_has ls 4 [(0, .ref (ad 179)), (1, .ref (ad q1)), (2, .int (oI x2))] → W p l e (rmK 4 109 0 0) s m args below meth c H locs 0 0 Q (F0 m 36 ls []) := by
  intro H locs ls hP hD hS hl
  unfold Co_multiplyAll_36b at h
  obtain ⟨h_q1, h⟩ := ck_e h
  refine lv_iload_n hx hb d_5_16_36 rfl (lv_at hl 2 rfl) ?_
  refine lv_aload_n hx hb d_5_16_37 rfl (lv_at hl 0 rfl) ?_
  refine m_gr (j := 2) (C := "Ballothall$Counting") (T := TX3) (N := 15) (ci := 3) (k := 0) hx hb hts iX3 hown hG hP (yi_179 hL) (yt_179 hL) rfl (by decide) w_303 (fun _ h9 => h9) rfl rfl (yr_179_0 hL) d_5_16_38 ?_
  refine m_giN (C := "Ballothall$BallotBox") (T := TX0) (N := 10) (ci := 0) (k := 3) hx hb hts iX0 hown hG hP (yi_2 hL) (yt_2 hL) rfl (by decide) n_59 rfl (fun _ h9 => h9) rfl rfl d_5_16_41 ?_
  obtain ⟨ok5, h⟩ := ck_e h
  obtain ⟨ok6, h⟩ := ck_e h
  refine lv_icmp_ge (tgt := 94) hx hb d_5_16_44 (by decide) (fun c9 => ?_) (fun c9 => ?_)
  · have h := ite_t ((oI_le (a := (M 2 3)) (b := x2) ok6 ok5).mp c9) h
    obtain ⟨rfl, rfl, rfl⟩ := in3 h
    exact k1 rfl H locs ls hP hD hS (lv_sub hl [] rfl)
  · have h := ite_f (fun q => c9 ((oI_le (a := (M 2 3)) (b := x2) ok6 ok5).mpr q)) h
    refine lv_iconst (v := oI 0) hx hb d_5_16_47 (by decide +kernel) ?_
    refine lv_istore_n (lv' := [(3, .int (oI 0)), (0, .ref (ad 179)), (1, .ref (ad q1)), (2, .int (oI x2))]) hx hb d_5_16_48 rfl hl (by decide) rfl (fun ls hl => ?_)
    obtain ⟨⟨t13, v13_3, M13⟩, g13, h⟩ := bd_e h
    obtain ⟨ok13, h⟩ := ck_e h
    refine s_Co_multiplyAll_49 l z ad E q1 x2 hx hb hml hts hown hlocks hA hG hZ hL FU M 0 t13 v13_3 M13 g13 (fun e13 H locs ls hP hD hS hl => ?_) H locs ls hP hD hS (lv_sub hl [1, 2, 3, 0] rfl)
    refine lv_iinc (v := oI (x2 + 1)) (lv' := [(2, .int (oI (x2 + 1))), (0, .ref (ad 179)), (1, .ref (ad q1))]) hx hb d_5_16_88 hl (k := 2) rfl (oI_add x2 1) (by decide) rfl (fun ls hl => ?_)
    refine lv_goto (tgt := 36) hx hb d_5_16_91 (by decide) ?_
    obtain ⟨rfl, rfl, rfl⟩ := in3 h
    exact k0 rfl H locs ls hP hD hS (lv_sub hl [1, 2, 0] rfl)
set_option maxRecDepth 100000 in
set_option maxHeartbeats 4000000 in
theorem s_Co_multiplyAll_36 (l : Launch) (z : Zz) (ad : Nat → Nat) (E : Ev) (q1 : Nat) {Q : State → Prop} {p : Program} {e : Env} {s : State} {m : MethodId} {below : List Frame} {meth : Method} {c : Code} {A : Nat → Prop} {args : Array Value} (hx : p.tables.exec = Jvm.exec) (hb : c.code = prog_5_method_16_code) (hml : c.maxLocals = 4) (hts : ∀ w ∈ WG, w.before args s = true) (hown : s.vm.findClass "Ballothall$Counting" = some m.cls) (hlocks : meth.locks = false) (hA : ∀ q, s.heap.size ≤ q → A q) (hG : KG z s) (hZ : FZ z A s) (hL : Lay E) : ∀ (fu : Nat) (M : Mm) (x2 : Int) (t : Nat) (w2 : Int) (N : Mm), l_Co_multiplyAll_36 E q1 fu M x2 = some (t, w2, N) → (t = 1 → ∀ (H : Heap) (locs : List Loc) (ls : Array Slot), va_P z.1 classes (wv z ad E N) H → va_D A (wv z ad E N) → va_S A s.heap H locs → lv_has ls 4 [] → W p l e (rmK 4 109 0 0) s m args below meth c H locs 0 0 Q (F0 m 94 ls [])) → ∀ (H : Heap) (locs : List Loc) (ls : Array Slot), va_P z.1 classes (wv z ad E M) H → va_D A (wv z ad E M) → va_S A s.heap H locs → lv_has ls 4 [(0, .ref (ad 179)), (1, .ref (ad q1)), (2, .int (oI x2))] → W p l e (rmK 4 109 0 0) s m args below meth c H locs 0 0 Q (F0 m 36 ls []) := by
  intro fu
  induction fu with
  | zero =>
    intro M x2 t w2 N h
    have h : (none : Option (Nat × Int × Mm)) = some _ := h
    cases h
  | succ fu ih =>
    intro M x2 t w2 N h k1 H locs ls hP hD hS hl
    obtain ⟨⟨t0, w20, N9⟩, g0, h⟩ := bd_e h
    refine b_Co_multiplyAll_36b l z ad E M q1 x2 t0 w20 N9 hx hb hml hts hown hlocks hA hG hZ hL g0 (fun e0 => ?_) (fun e0 => ?_) H locs ls hP hD hS hl
    · subst e0
      have h := ite_t rfl h
      exact ih N9 w20 t w2 N h k1
    · subst e0
      have h := ite_f (by decide) h
      obtain ⟨rfl, rfl, rfl⟩ := in3 h
      exact k1 rfl
set_option maxRecDepth 100000 in
set_option maxHeartbeats 4000000 in
theorem s_Co_multiplyAll (l : Launch) (z : Zz) (ad : Nat → Nat) (E : Ev) (M : Mm) (p1 : Nat) (N : Mm) (hL : Lay E) (h : f_Co_multiplyAll E M p1 = some N) : CT l z ⟨"Ballothall$Counting", "multiplyAll", "(LBallothall$Natural;)V"⟩ prog_5_method_16_code 4 none [.ref (ad 179), .ref (ad p1)] (wv z ad E M) 4 109 0 0 (fun _ => none) (fun _ => (wv z ad E N)) := by
  refine CT.of (own := "Ballothall$Counting") (by decide +kernel) (Nat.le_of_ble_eq_true rfl) rfl (fun p e s m below meth c A ls hx hb hml hr hts hown hlocks hin hA hG hZ hP hD hS hl => ?_)
  have hl : lv_has ls 4 [(0, .ref (ad 179)), (1, .ref (ad p1))] := hl
  have key : ∀ (H : Heap) (locs : List Loc) (args : Array Value), (∀ w ∈ WG, w.before args s = true) → va_P z.1 classes (wv z ad E M) H → va_S A s.heap H locs → W p l e (rmK 4 109 0 0) s m args below meth c H locs 0 0 (MQ below (QK z A (fun _ => none) (fun _ => (wv z ad E N))) args s 0 0 A) (F0 m 0 ls []) := by
    intro H locs args hts hP hS
    unfold f_Co_multiplyAll at h
    obtain ⟨h_p1, h⟩ := ck_e h
    refine lv_aload_n hx hb d_5_16_0 rfl (lv_at hl 0 rfl) ?_
    refine lv_aload_n hx hb d_5_16_1 rfl (lv_at hl 0 rfl) ?_
    refine m_gr (j := 183) (C := "Ballothall$Counting") (T := TX3) (N := 15) (ci := 3) (k := 6) hx hb hts iX3 hown hG hP (yi_179 hL) (yt_179 hL) rfl (by decide) w_309 (fun _ h9 => h9) rfl rfl (yr_179_6 hL) d_5_16_2 ?_
    refine lv_aload_n hx hb d_5_16_5 rfl (lv_at hl 1 rfl) ?_
    obtain ⟨M0, g0, h⟩ := bd_e h
    refine kV (As := [.ref (ad 183), .ref (ad p1)]) (rest := []) (s_Co_multiply l z ad E M 183 p1 M0 hL g0) hx hb hml hown hts w_1226 w_1223 w_1225 w_s_a6a853 w_8 md_9c876f ⟨Nat.le_of_ble_eq_true rfl, Nat.le_of_ble_eq_true rfl⟩ hG hZ hP hD hS hA 179 (wv_o (ci := 3) (yi_179 hL) (yt_179 hL)) rfl rfl rfl hl.1 rfl (Nat.le_of_ble_eq_true rfl) d_5_16_6 ⟨Nat.le_of_ble_eq_true rfl, Nat.le_of_ble_eq_true rfl⟩ (fun _ H locs hP hD hS => ?_)
    have hP : va_P z.1 classes (wv z ad E M0) H := hP
    have hD : va_D A (wv z ad E M0) := hD
    refine W.eq (g2 := F0 m 9 ls []) rfl ?_
    refine lv_iconst (v := oI 0) hx hb d_5_16_9 (by decide +kernel) ?_
    refine lv_istore_n (lv' := [(2, .int (oI 0)), (0, .ref (ad 179)), (1, .ref (ad p1))]) hx hb d_5_16_10 rfl hl (by decide) rfl (fun ls hl => ?_)
    obtain ⟨⟨t4, v4_2, M4⟩, g4, h⟩ := bd_e h
    obtain ⟨ok4, h⟩ := ck_e h
    refine s_Co_multiplyAll_11 l z ad E p1 hx hb hml hts hown hlocks hA hG hZ hL FU M0 0 t4 v4_2 M4 g4 (fun e4 H locs ls hP hD hS hl => ?_) H locs ls hP hD hS (lv_sub hl [1, 2, 0] rfl)
    refine lv_iconst (v := oI 0) hx hb d_5_16_34 (by decide +kernel) ?_
    refine lv_istore_n (lv' := [(2, .int (oI 0)), (0, .ref (ad 179)), (1, .ref (ad p1))]) hx hb d_5_16_35 rfl hl (by decide) rfl (fun ls hl => ?_)
    obtain ⟨⟨t14, v14_2, M14⟩, g14, h⟩ := bd_e h
    obtain ⟨ok14, h⟩ := ck_e h
    refine s_Co_multiplyAll_36 l z ad E p1 hx hb hml hts hown hlocks hA hG hZ hL FU M4 0 t14 v14_2 M14 g14 (fun e14 H locs ls hP hD hS hl => ?_) H locs ls hP hD hS (lv_sub hl [1, 2, 0] rfl)
    obtain rfl := in1 h
    exact W.vret hx hb hr (fun t ht hW => qkA hP hD hS (fun k => k) rfl rfl ht) hS.2.2 d_5_16_94
  exact key _ _ _ hts hP hS
set_option maxRecDepth 100000 in
set_option maxHeartbeats 4000000 in
theorem b_Na_subtract_4b (l : Launch) (z : Zz) (ad : Nat → Nat) (E : Ev) (M : Mm) (q0 : Nat) (q1 : Nat) (x2 : Int) (x3 : Int) (t : Nat) (w2 : Int) (w3 : Int) (N : Mm) {Q : State → Prop} {p : Program} {e : Env} {s : State} {m : MethodId} {below : List Frame} {meth : Method} {c : Code} {A : Nat → Prop} {args : Array Value} (hx : p.tables.exec = Jvm.exec) (hb : c.code = prog_10_method_11_code) (hml : c.maxLocals = 5) (hts : ∀ w ∈ WG, w.before args s = true) (hown : s.vm.findClass "Ballothall$Natural" = some m.cls) (hlocks : meth.locks = false) (hA : ∀ q, s.heap.size ≤ q → A q) (hG : KG z s) (hZ : FZ z A s) (hL : Lay E) (h : Na_subtract_4b E M q0 q1 x2 x3 = some (t, w2, w3, N)) (k0 : t = 0 → ∀ (H : Heap) (locs : List Loc) (ls : Array Slot), va_P z.1 classes (wv z ad E N) H → va_D A (wv z ad E N) → va_S A s.heap H locs → lv_has ls 5 [(0, .ref (ad q0)), (1, .ref (ad q1)), (2, .int (oI w2)), (3, .int (oI w3))] → W p l e (rmK 2 61 0 0) s m args below meth c H locs 0 0 Q (F0 m 4 ls [])) (k1 : t = 1 → ∀ (H : Heap) (locs : List Loc) (ls : Array Slot), va_P z.1 classes (wv z ad E N) H → va_D A (wv z ad E N) → va_S A s.heap H locs → lv_has ls 5 [(0, .ref (ad q0))] → W p l e (rmK 2 61 0 0) s m args below meth c H locs 0 0 Q (F0 m 51 ls [])) : ∀ (H : Heap) (locs : List Loc) (ls : Array Slot), va_P z.1 classes (wv z ad E M) H → va_D A (wv z ad E M) → va_S A s.heap H locs → lv_has ls 5 [(0, .ref (ad q0)), (1, .ref (ad q1)), (2, .int (oI x2)), (3, .int (oI x3))] → W p l e (rmK 2 61 0 0) s m args below meth c H locs 0 0 Q (F0 m 4 ls []) := by
  intro H locs ls hP hD hS hl
  unfold Na_subtract_4b at h
  obtain ⟨h_q0, h⟩ := ck_e h
  obtain ⟨h_q1, h⟩ := ck_e h
  refine lv_iload_n hx hb d_10_11_4 rfl (lv_at hl 3 rfl) ?_
  refine lv_aload_n hx hb d_10_11_5 rfl (lv_at hl 0 rfl) ?_
  refine m_gi (C := "Ballothall$Natural") (T := TX8) (N := 2) (ci := 8) (k := 1) hx hb hts iX8 hown hG hP (isNa_i h_q0) (isNa_T h_q0) rfl (by decide) w_295 (fun _ h9 => h9) rfl rfl d_10_11_6 ?_
  obtain ⟨ok0, h⟩ := ck_e h
  obtain ⟨ok1, h⟩ := ck_e h
  refine lv_icmp_ge (tgt := 51) hx hb d_10_11_9 (by decide) (fun c9 => ?_) (fun c9 => ?_)
  · have h := ite_t ((oI_le (a := (M q0 1)) (b := x3) ok1 ok0).mp c9) h
    obtain ⟨rfl, rfl, rfl, rfl⟩ := in4 h
    exact k1 rfl H locs ls hP hD hS (lv_sub hl [0] rfl)
  · have h := ite_f (fun q => c9 ((oI_le (a := (M q0 1)) (b := x3) ok1 ok0).mpr q)) h
    refine lv_aload_n hx hb d_10_11_12 rfl (lv_at hl 0 rfl) ?_
    refine m_gr (j := (q0 + 1)) (C := "Ballothall$Natural") (T := TX8) (N := 2) (ci := 8) (k := 0) hx hb hts iX8 hown hG hP (isNa_i h_q0) (isNa_T h_q0) rfl (by decide) w_294 (fun _ h9 => h9) rfl rfl (isNa_r0 h_q0) d_10_11_13 ?_
    refine lv_iload_n hx hb d_10_11_16 rfl (lv_at hl 3 rfl) ?_
    obtain ⟨ok2, h⟩ := ck_e h
    refine m_ia hx hb hG hP (isNa_i1 h_q0) (isNa_t1 h_q0) ok2 d_10_11_17 ?_
    refine lv_aload_n hx hb d_10_11_18 rfl (lv_at hl 1 rfl) ?_
    refine lv_iload_n hx hb d_10_11_19 rfl (lv_at hl 3 rfl) ?_
    obtain ⟨r3, g3, h⟩ := bd_e h
    refine kV (As := [.int (oI x3)]) (rest := [.int (oI (M (q0 + 1) x3.toNat))]) (s_Na_limbAt l z ad E M q1 x3 r3 hL g3) hx hb hml hown hts w_637 w_634 w_636 w_s_21c489 w_9 md_149093 ⟨Nat.le_of_ble_eq_true rfl, Nat.le_of_ble_eq_true rfl⟩ hG hZ hP hD hS hA q1 (wv_o (ci := 8) (isNa_i h_q1) (isNa_T h_q1)) rfl rfl rfl hl.1 rfl (Nat.le_of_ble_eq_true rfl) d_10_11_20 ⟨Nat.le_of_ble_eq_true rfl, Nat.le_of_ble_eq_true rfl⟩ (fun _ H locs hP hD hS => ?_)
    have hP : va_P z.1 classes (wv z ad E M) H := hP
    have hD : va_D A (wv z ad E M) := hD
    refine W.eq (g2 := F0 m 23 ls [.int (oI r3), .int (oI (M (q0 + 1) x3.toNat))]) rfl ?_
    refine lv_isub hx hb d_10_11_23 ?_
    refine nrm (oI_sub _ _) ?_
    refine lv_iload_n hx hb d_10_11_24 rfl (lv_at hl 2 rfl) ?_
    refine lv_iadd hx hb d_10_11_25 ?_
    refine nrm (oI_add _ _) ?_
    obtain ⟨v4, e4, h⟩ := nb_e h
    refine nrm (congrArg oI e4.symm) ?_
    refine lv_istore (lv' := [(4, .int (oI v4)), (0, .ref (ad q0)), (1, .ref (ad q1)), (2, .int (oI x2)), (3, .int (oI x3))]) hx hb d_10_11_26 hl (by decide) rfl (fun ls hl => ?_)
    refine lv_aload_n hx hb d_10_11_28 rfl (lv_at hl 1 rfl) ?_
    refine m_gr (j := (q0 + 1)) (C := "Ballothall$Natural") (T := TX8) (N := 2) (ci := 8) (k := 0) hx hb hts iX8 hown hG hP (isNa_i h_q0) (isNa_T h_q0) rfl (by decide) w_294 (fun _ h9 => h9) rfl rfl (isNa_r0 h_q0) d_10_11_29 ?_
    refine lv_iload_n hx hb d_10_11_32 rfl (lv_at hl 4 rfl) ?_
    refine lv_iload hx hb d_10_11_33 (lv_at hl 0 rfl) ?_
    refine lv_ldc hx hb hown (hts _ w_638) d_10_11_35 ?_
    refine nrm (x1 := oI 1073741823) (by decide +kernel) ?_
    refine lv_iand hx hb d_10_11_37 ?_
    refine nrm (oI_m30 _) ?_
    refine m_is hx hb hG hP hD hS (isNa_i1 h_q0) (isNa_t1 h_q0) ok2 d_10_11_38 (fun H locs hP hD hS => ?_)
    have hP : va_P z.1 classes (wv z ad E (u2 M (q0 + 1) x3.toNat (v4 % 1073741824))) H := hP
    have hD : va_D A (wv z ad E (u2 M (q0 + 1) x3.toNat (v4 % 1073741824))) := hD
    refine lv_iload hx hb d_10_11_39 (lv_at hl 0 rfl) ?_
    refine lv_bipush (v := oI 30) hx hb d_10_11_41 (by decide +kernel) ?_
    obtain ⟨ok5, h⟩ := ck_e h
    refine lv_ishr hx hb d_10_11_43 ?_
    refine nrm (x1 := oI (v4 / 1073741824)) (oI_shr (b := 30) ok5 (by decide) (by decide)) ?_
    refine lv_istore_n (lv' := [(2, .int (oI (v4 / 1073741824))), (4, .int (oI v4)), (0, .ref (ad q0)), (1, .ref (ad q1)), (3, .int (oI x3))]) hx hb d_10_11_44 rfl hl (by decide) rfl (fun ls hl => ?_)
    refine lv_iinc (v := oI (x3 + 1)) (lv' := [(3, .int (oI (x3 + 1))), (2, .int (oI (v4 / 1073741824))), (4, .int (oI v4)), (0, .ref (ad q0)), (1, .ref (ad q1))]) hx hb d_10_11_45 hl (k := 4) rfl (oI_add x3 1) (by decide) rfl (fun ls hl => ?_)
    refine lv_goto (tgt := 4) hx hb d_10_11_48 (by decide) ?_
    obtain ⟨rfl, rfl, rfl, rfl⟩ := in4 h
    exact k0 rfl H locs ls hP hD hS (lv_sub hl [3, 4, 1, 0] rfl)
set_option maxRecDepth 100000 in
set_option maxHeartbeats 4000000 in
theorem s_Na_subtract_4 (l : Launch) (z : Zz) (ad : Nat → Nat) (E : Ev) (q0 : Nat) (q1 : Nat) {Q : State → Prop} {p : Program} {e : Env} {s : State} {m : MethodId} {below : List Frame} {meth : Method} {c : Code} {A : Nat → Prop} {args : Array Value} (hx : p.tables.exec = Jvm.exec) (hb : c.code = prog_10_method_11_code) (hml : c.maxLocals = 5) (hts : ∀ w ∈ WG, w.before args s = true) (hown : s.vm.findClass "Ballothall$Natural" = some m.cls) (hlocks : meth.locks = false) (hA : ∀ q, s.heap.size ≤ q → A q) (hG : KG z s) (hZ : FZ z A s) (hL : Lay E) : ∀ (fu : Nat) (M : Mm) (x2 : Int) (x3 : Int) (t : Nat) (w2 : Int) (w3 : Int) (N : Mm), l_Na_subtract_4 E q0 q1 fu M x2 x3 = some (t, w2, w3, N) → (t = 1 → ∀ (H : Heap) (locs : List Loc) (ls : Array Slot), va_P z.1 classes (wv z ad E N) H → va_D A (wv z ad E N) → va_S A s.heap H locs → lv_has ls 5 [(0, .ref (ad q0))] → W p l e (rmK 2 61 0 0) s m args below meth c H locs 0 0 Q (F0 m 51 ls [])) → ∀ (H : Heap) (locs : List Loc) (ls : Array Slot), va_P z.1 classes (wv z ad E M) H → va_D A (wv z ad E M) → va_S A s.heap H locs → lv_has ls 5 [(0, .ref (ad q0)), (1, .ref (ad q1)), (2, .int (oI x2)), (3, .int (oI x3))] → W p l e (rmK 2 61 0 0) s m args below meth c H locs 0 0 Q (F0 m 4 ls []) := by
  intro fu
  induction fu with
  | zero =>
    intro M x2 x3 t w2 w3 N h
    have h : (none : Option (Nat × Int × Int × Mm)) = some _ := h
    cases h
  | succ fu ih =>
    intro M x2 x3 t w2 w3 N h k1 H locs ls hP hD hS hl
    obtain ⟨⟨t0, w20, w30, N9⟩, g0, h⟩ := bd_e h
    refine b_Na_subtract_4b l z ad E M q0 q1 x2 x3 t0 w20 w30 N9 hx hb hml hts hown hlocks hA hG hZ hL g0 (fun e0 => ?_) (fun e0 => ?_) H locs ls hP hD hS hl
    · subst e0
      have h := ite_t rfl h
      exact ih N9 w20 w30 t w2 w3 N h k1
    · subst e0
      have h := ite_f (by decide) h
      obtain ⟨rfl, rfl, rfl, rfl⟩ := in4 h
      exact k1 rfl
set_option maxRecDepth 100000 in
set_option maxHeartbeats 4000000 in
theorem s_Na_subtract (l : Launch) (z : Zz) (ad : Nat → Nat) (E : Ev) (M : Mm) (p0 : Nat) (p1 : Nat) (N : Mm) (hL : Lay E) (h : f_Na_subtract E M p0 p1 = some N) : CT l z ⟨"Ballothall$Natural", "subtract", "(LBallothall$Natural;)V"⟩ prog_10_method_11_code 5 none [.ref (ad p0), .ref (ad p1)] (wv z ad E M) 2 61 0 0 (fun _ => none) (fun _ => (wv z ad E N)) := by
  refine CT.of (own := "Ballothall$Natural") (by decide +kernel) (Nat.le_of_ble_eq_true rfl) rfl (fun p e s m below meth c A ls hx hb hml hr hts hown hlocks hin hA hG hZ hP hD hS hl => ?_)
  have hl : lv_has ls 5 [(0, .ref (ad p0)), (1, .ref (ad p1))] := hl
  have key : ∀ (H : Heap) (locs : List Loc) (args : Array Value), (∀ w ∈ WG, w.before args s = true) → va_P z.1 classes (wv z ad E M) H → va_S A s.heap H locs → W p l e (rmK 2 61 0 0) s m args below meth c H locs 0 0 (MQ below (QK z A (fun _ => none) (fun _ => (wv z ad E N))) args s 0 0 A) (F0 m 0 ls []) := by
    intro H locs args hts hP hS
    unfold f_Na_subtract at h
    obtain ⟨h_p0, h⟩ := ck_e h
    obtain ⟨h_p1, h⟩ := ck_e h
    refine lv_iconst (v := oI 0) hx hb d_10_11_0 (by decide +kernel) ?_
    refine lv_istore_n (lv' := [(2, .int (oI 0)), (0, .ref (ad p0)), (1, .ref (ad p1))]) hx hb d_10_11_1 rfl hl (by decide) rfl (fun ls hl => ?_)
    refine lv_iconst (v := oI 0) hx hb d_10_11_2 (by decide +kernel) ?_
    refine lv_istore_n (lv' := [(3, .int (oI 0)), (2, .int (oI 0)), (0, .ref (ad p0)), (1, .ref (ad p1))]) hx hb d_10_11_3 rfl hl (by decide) rfl (fun ls hl => ?_)
    obtain ⟨⟨t6, v6_2, v6_3, M6⟩, g6, h⟩ := bd_e h
    obtain ⟨ok6, h⟩ := ck_e h
    refine s_Na_subtract_4 l z ad E p0 p1 hx hb hml hts hown hlocks hA hG hZ hL FU M 0 0 t6 v6_2 v6_3 M6 g6 (fun e6 H locs ls hP hD hS hl => ?_) H locs ls hP hD hS (lv_sub hl [2, 3, 1, 0] rfl)
    refine lv_aload_n hx hb d_10_11_51 rfl (lv_at hl 0 rfl) ?_
    refine lv_aload_n hx hb d_10_11_52 rfl (lv_at hl 0 rfl) ?_
    refine m_gi (C := "Ballothall$Natural") (T := TX8) (N := 2) (ci := 8) (k := 1) hx hb hts iX8 hown hG hP (isNa_i h_p0) (isNa_T h_p0) rfl (by decide) w_295 (fun _ h9 => h9) rfl rfl d_10_11_53 ?_
    obtain ⟨M7, g7, h⟩ := bd_e h
    refine kV (As := [.int (oI (M6 p0 1))]) (rest := []) (s_Na_trimTo l z ad E M6 p0 (M6 p0 1) M7 hL g7) hx hb hml hown hts w_625 w_622 w_624 w_s_8e7085 w_9 md_0a866a ⟨Nat.le_of_ble_eq_true rfl, Nat.le_of_ble_eq_true rfl⟩ hG hZ hP hD hS hA p0 (wv_o (ci := 8) (isNa_i h_p0) (isNa_T h_p0)) rfl rfl rfl hl.1 rfl (Nat.le_of_ble_eq_true rfl) d_10_11_56 ⟨Nat.le_of_ble_eq_true rfl, Nat.le_of_ble_eq_true rfl⟩ (fun _ H locs hP hD hS => ?_)
    have hP : va_P z.1 classes (wv z ad E M7) H := hP
    have hD : va_D A (wv z ad E M7) := hD
    refine W.eq (g2 := F0 m 59 ls []) rfl ?_
    obtain rfl := in1 h
    exact W.vret hx hb hr (fun t ht hW => qkA hP hD hS (fun k => k) rfl rfl ht) hS.2.2 d_10_11_59
  exact key _ _ _ hts hP hS
set_option maxRecDepth 100000 in
set_option maxHeartbeats 4000000 in
theorem b_Co_passSurplus_64b (l : Launch) (z : Zz) (ad : Nat → Nat) (E : Ev) (M : Mm) (x1 : Int) (x2 : Int) (t : Nat) (w2 : Int) (N : Mm) {Q : State → Prop} {p : Program} {e : Env} {s : State} {m : MethodId} {below : List Frame} {meth : Method} {c : Code} {A : Nat → Prop} {args : Array Value} (hx : p.tables.exec = Jvm.exec) (hb : c.code = prog_5_method_15_code) (hml : c.maxLocals = 3) (hts : ∀ w ∈ WG, w.before args s = true) (hown : s.vm.findClass "Ballothall$Counting" = some m.cls) (hlocks : meth.locks = false) (hA : ∀ q, s.heap.size ≤ q → A q) (hG : KG z s) (hZ : FZ z A s) (hL : Lay E) (h : Co_passSurplus_64b E M x1 x2 = some (t, w2, N)) (k0 : t = 0 → ∀ (H : Heap) (locs : List Loc) (ls : Array Slot), va_P z.1 classes (wv z ad E N) H → va_D A (wv z ad E N) → va_S A s.heap H locs → lv_has ls 3 [(0, .ref (ad 179)), (1, .int (oI x1)), (2, .int (oI w2))] → W p l e (rmK 5 136 0 0) s m args below meth c H locs 0 0 Q (F0 m 64 ls [])) (k1 : t = 1 → ∀ (H : Heap) (locs : List Loc) (ls : Array Slot), va_P z.1 classes (wv z ad E N) H → va_D A (wv z ad E N) → va_S A s.heap H locs → lv_has ls 3 [] → W p l e (rmK 5 136 0 0) s m args below meth c H locs 0 0 Q (F0 m 103 ls [])) : ∀ (H : Heap) (locs : List Loc) (ls : Array Slot), va_P z.1 classes (wv z ad E M) H → va_D A (wv z ad E M) → va_S A s.heap H locs → lv_has ls 3 [(0, .ref (ad 179)), (1, .int (oI x1)), (2, .int (oI x2))] → W p l e (rmK 5 136 0 0) s m args below meth c H locs 0 0 Q (F0 m 64 ls []) := by
  intro H locs ls hP hD hS hl
  unfold Co_passSurplus_64b at h
  refine lv_iload_n hx hb d_5_15_64 rfl (lv_at hl 2 rfl) ?_
  refine lv_aload_n hx hb d_5_15_65 rfl (lv_at hl 0 rfl) ?_
  refine m_gr (j := 2) (C := "Ballothall$Counting") (T := TX3) (N := 15) (ci := 3) (k := 0) hx hb hts iX3 hown hG hP (yi_179 hL) (yt_179 hL) rfl (by decide) w_303 (fun _ h9 => h9) rfl rfl (yr_179_0 hL) d_5_15_66 ?_
  refine m_giN (C := "Ballothall$BallotBox") (T := TX0) (N := 10) (ci := 0) (k := 3) hx hb hts iX0 hown hG hP (yi_2 hL) (yt_2 hL) rfl (by decide) n_59 rfl (fun _ h9 => h9) rfl rfl d_5_15_69 ?_
  obtain ⟨ok7, h⟩ := ck_e h
  obtain ⟨ok8, h⟩ := ck_e h
  refine lv_icmp_ge (tgt := 103) hx hb d_5_15_72 (by decide) (fun c9 => ?_) (fun c9 => ?_)
  · have h := ite_t ((oI_le (a := (M 2 3)) (b := x2) ok8 ok7).mp c9) h
    obtain ⟨rfl, rfl, rfl⟩ := in3 h
    exact k1 rfl H locs ls hP hD hS (lv_sub hl [] rfl)
  · have h := ite_f (fun q => c9 ((oI_le (a := (M 2 3)) (b := x2) ok8 ok7).mpr q)) h
    refine lv_aload_n hx hb d_5_15_75 rfl (lv_at hl 0 rfl) ?_
    refine m_gr (j := 185) (C := "Ballothall$Counting") (T := TX3) (N := 15) (ci := 3) (k := 7) hx hb hts iX3 hown hG hP (yi_179 hL) (yt_179 hL) rfl (by decide) w_310 (fun _ h9 => h9) rfl rfl (yr_179_7 hL) d_5_15_76 ?_
    refine lv_aload_n hx hb d_5_15_79 rfl (lv_at hl 0 rfl) ?_
    refine lv_iload_n hx hb d_5_15_80 rfl (lv_at hl 2 rfl) ?_
    refine lv_iload_n hx hb d_5_15_81 rfl (lv_at hl 1 rfl) ?_
    obtain ⟨r9, g9, h⟩ := bd_e h
    refine kV (As := [.int (oI x2), .int (oI x1)]) (rest := [.ref (ad 185)]) (s_Co_weightOf l z ad E M x2 x1 r9 hL g9) hx hb hml hown hts w_1132 w_1129 w_1131 w_s_b275fa w_8 md_759e51 ⟨Nat.le_of_ble_eq_true rfl, Nat.le_of_ble_eq_true rfl⟩ hG hZ hP hD hS hA 179 (wv_o (ci := 3) (yi_179 hL) (yt_179 hL)) rfl rfl rfl hl.1 rfl (Nat.le_of_ble_eq_true rfl) d_5_15_82 ⟨Nat.le_of_ble_eq_true rfl, Nat.le_of_ble_eq_true rfl⟩ (fun _ H locs hP hD hS => ?_)
    have hP : va_P z.1 classes (wv z ad E M) H := hP
    have hD : va_D A (wv z ad E M) := hD
    obtain ⟨h_r9, h⟩ := ck_e h
    refine W.eq (g2 := F0 m 85 ls [.ref (ad r9), .ref (ad 185)]) rfl ?_
    refine lv_aload_n hx hb d_5_15_85 rfl (lv_at hl 0 rfl) ?_
    refine m_gr (j := 189) (C := "Ballothall$Counting") (T := TX3) (N := 15) (ci := 3) (k := 9) hx hb hts iX3 hown hG hP (yi_179 hL) (yt_179 hL) rfl (by decide) w_312 (fun _ h9 => h9) rfl rfl (yr_179_9 hL) d_5_15_86 ?_
    obtain ⟨M10, g10, h⟩ := bd_e h
    refine kVN (As := [.ref (ad r9), .ref (ad 189)]) (rest := []) (s_Na_multiply l z ad E M 185 r9 189 M10 hL g10) hx hb hml hown hts w_1230 n_1227 w_1229 w_s_68a06f w_9 md_82c0f2 ⟨Nat.le_of_ble_eq_true rfl, Nat.le_of_ble_eq_true rfl⟩ hG hZ hP hD hS hA 185 (wv_o (ci := 8) (yi_185 hL) (yt_185 hL)) rfl rfl rfl hl.1 rfl (Nat.le_of_ble_eq_true rfl) d_5_15_89 ⟨Nat.le_of_ble_eq_true rfl, Nat.le_of_ble_eq_true rfl⟩ (fun _ H locs hP hD hS => ?_)
    have hP : va_P z.1 classes (wv z ad E M10) H := hP
    have hD : va_D A (wv z ad E M10) := hD
    refine W.eq (g2 := F0 m 92 ls []) rfl ?_
    refine lv_aload_n hx hb d_5_15_92 rfl (lv_at hl 0 rfl) ?_
    refine lv_iload_n hx hb d_5_15_93 rfl (lv_at hl 2 rfl) ?_
    obtain ⟨M11, g11, h⟩ := bd_e h
    refine kV (As := [.int (oI x2)]) (rest := []) (s_Co_passOn l z ad E M10 x2 M11 hL g11) hx hb hml hown hts w_1136 w_1133 w_1135 w_s_6bacc3 w_8 md_774b9e ⟨Nat.le_of_ble_eq_true rfl, Nat.le_of_ble_eq_true rfl⟩ hG hZ hP hD hS hA 179 (wv_o (ci := 3) (yi_179 hL) (yt_179 hL)) rfl rfl rfl hl.1 rfl (Nat.le_of_ble_eq_true rfl) d_5_15_94 ⟨Nat.le_of_ble_eq_true rfl, Nat.le_of_ble_eq_true rfl⟩ (fun _ H locs hP hD hS => ?_)
    have hP : va_P z.1 classes (wv z ad E M11) H := hP
    have hD : va_D A (wv z ad E M11) := hD
    refine W.eq (g2 := F0 m 97 ls []) rfl ?_
    refine lv_iinc (v := oI (x2 + 1)) (lv' := [(2, .int (oI (x2 + 1))), (0, .ref (ad 179)), (1, .int (oI x1))]) hx hb d_5_15_97 hl (k := 2) rfl (oI_add x2 1) (by decide) rfl (fun ls hl => ?_)
    refine lv_goto (tgt := 64) hx hb d_5_15_100 (by decide) ?_
    obtain ⟨rfl, rfl, rfl⟩ := in3 h
    exact k0 rfl H locs ls hP hD hS (lv_sub hl [1, 2, 0] rfl)
set_option maxRecDepth 100000 in
set_option maxHeartbeats 4000000 in
theorem s_Co_passSurplus_64 (l : Launch) (z : Zz) (ad : Nat → Nat) (E : Ev) (x1 : Int) {Q : State → Prop} {p : Program} {e : Env} {s : State} {m : MethodId} {below : List Frame} {meth : Method} {c : Code} {A : Nat → Prop} {args : Array Value} (hx : p.tables.exec = Jvm.exec) (hb : c.code = prog_5_method_15_code) (hml : c.maxLocals = 3) (hts : ∀ w ∈ WG, w.before args s = true) (hown : s.vm.findClass "Ballothall$Counting" = some m.cls) (hlocks : meth.locks = false) (hA : ∀ q, s.heap.size ≤ q → A q) (hG : KG z s) (hZ : FZ z A s) (hL : Lay E) : ∀ (fu : Nat) (M : Mm) (x2 : Int) (t : Nat) (w2 : Int) (N : Mm), l_Co_passSurplus_64 E x1 fu M x2 = some (t, w2, N) → (t = 1 → ∀ (H : Heap) (locs : List Loc) (ls : Array Slot), va_P z.1 classes (wv z ad E N) H → va_D A (wv z ad E N) → va_S A s.heap H locs → lv_has ls 3 [] → W p l e (rmK 5 136 0 0) s m args below meth c H locs 0 0 Q (F0 m 103 ls [])) → ∀ (H : Heap) (locs : List Loc) (ls : Array Slot), va_P z.1 classes (wv z ad E M) H → va_D A (wv z ad E M) → va_S A s.heap H locs → lv_has ls 3 [(0, .ref (ad 179)), (1, .int (oI x1)), (2, .int (oI x2))] → W p l e (rmK 5 136 0 0) s m args below meth c H locs 0 0 Q (F0 m 64 ls []) := by
  intro fu
  induction fu with
  | zero =>
    intro M x2 t w2 N h
    have h : (none : Option (Nat × Int × Mm)) = some _ := h
    cases h
  | succ fu ih =>
    intro M x2 t w2 N h k1 H locs ls hP hD hS hl
    obtain ⟨⟨t0, w20, N9⟩, g0, h⟩ := bd_e h
    refine b_Co_passSurplus_64b l z ad E M x1 x2 t0 w20 N9 hx hb hml hts hown hlocks hA hG hZ hL g0 (fun e0 => ?_) (fun e0 => ?_) H locs ls hP hD hS hl
    · subst e0
      have h := ite_t rfl h
      exact ih N9 w20 t w2 N h k1
    · subst e0
      have h := ite_f (by decide) h
      obtain ⟨rfl, rfl, rfl⟩ := in3 h
      exact k1 rfl
set_option maxRecDepth 100000 in
set_option maxHeartbeats 4000000 in
theorem s_Co_passSurplus (l : Launch) (z : Zz) (ad : Nat → Nat) (E : Ev) (M : Mm) (x1 : Int) (N : Mm) (hL : Lay E) (h : f_Co_passSurplus E M x1 = some N) : CT l z ⟨"Ballothall$Counting", "passSurplus", "(I)V"⟩ prog_5_method_15_code 3 none [.ref (ad 179), .int (oI x1)] (wv z ad E M) 5 136 0 0 (fun _ => none) (fun _ => (wv z ad E N)) := by
  refine CT.of (own := "Ballothall$Counting") (by decide +kernel) (Nat.le_of_ble_eq_true rfl) rfl (fun p e s m below meth c A ls hx hb hml hr hts hown hlocks hin hA hG hZ hP hD hS hl => ?_)
  have hl : lv_has ls 3 [(0, .ref (ad 179)), (1, .int (oI x1))] := hl
  have key : ∀ (H : Heap) (locs : List Loc) (args : Array Value), (∀ w ∈ WG, w.before args s = true) → va_P z.1 classes (wv z ad E M) H → va_S A s.heap H locs → W p l e (rmK 5 136 0 0) s m args below meth c H locs 0 0 (MQ below (QK z A (fun _ => none) (fun _ => (wv z ad E N))) args s 0 0 A) (F0 m 0 ls []) := by
    intro H locs args hts hP hS
    unfold f_Co_passSurplus at h
    refine lv_aload_n hx hb d_5_15_0 rfl (lv_at hl 0 rfl) ?_
    refine m_gr (j := 189) (C := "Ballothall$Counting") (T := TX3) (N := 15) (ci := 3) (k := 9) hx hb hts iX3 hown hG hP (yi_179 hL) (yt_179 hL) rfl (by decide) w_312 (fun _ h9 => h9) rfl rfl (yr_179_9 hL) d_5_15_1 ?_
    refine lv_aload_n hx hb d_5_15_4 rfl (lv_at hl 0 rfl) ?_
    refine m_gr (j := 182) (C := "Ballothall$Counting") (T := TX3) (N := 15) (ci := 3) (k := 5) hx hb hts iX3 hown hG hP (yi_179 hL) (yt_179 hL) rfl (by decide) w_308 (fun _ h9 => h9) rfl rfl (yr_179_5 hL) d_5_15_5 ?_
    refine lv_iload_n hx hb d_5_15_8 rfl (lv_at hl 1 rfl) ?_
    obtain ⟨ok0, h⟩ := ck_e h
    refine m_aa (k := (201 + 2 * x1.toNat)) (t := 5) (C := "Ballothall$Natural") hx hb hG hP (yi_182 hL) (yt_182 hL) rfl rfl ok0 (ya_182 hL (inb_lt ok0)) d_5_15_9 ?_
    obtain ⟨M1, g1, h⟩ := bd_e h
    refine kVN (As := [.ref (ad (201 + 2 * x1.toNat))]) (rest := []) (s_Na_copyFrom l z ad E M 189 (201 + 2 * x1.toNat) M1 hL g1) hx hb hml hown hts w_1175 n_1172 w_1174 w_s_8c9b61 w_9 md_68420c ⟨Nat.le_of_ble_eq_true rfl, Nat.le_of_ble_eq_true rfl⟩ hG hZ hP hD hS hA 189 (wv_o (ci := 8) (yi_189 hL) (yt_189 hL)) rfl rfl rfl hl.1 rfl (Nat.le_of_ble_eq_true rfl) d_5_15_10 ⟨Nat.le_of_ble_eq_true rfl, Nat.le_of_ble_eq_true rfl⟩ (fun _ H locs hP hD hS => ?_)
    have hP : va_P z.1 classes (wv z ad E M1) H := hP
    have hD : va_D A (wv z ad E M1) := hD
    refine W.eq (g2 := F0 m 13 ls []) rfl ?_
    refine lv_aload_n hx hb d_5_15_13 rfl (lv_at hl 0 rfl) ?_
    refine m_gr (j := 189) (C := "Ballothall$Counting") (T := TX3) (N := 15) (ci := 3) (k := 9) hx hb hts iX3 hown hG hP (yi_179 hL) (yt_179 hL) rfl (by decide) w_312 (fun _ h9 => h9) rfl rfl (yr_179_9 hL) d_5_15_14 ?_
    refine lv_aload_n hx hb d_5_15_17 rfl (lv_at hl 0 rfl) ?_
    refine m_gr (j := 187) (C := "Ballothall$Counting") (T := TX3) (N := 15) (ci := 3) (k := 8) hx hb hts iX3 hown hG hP (yi_179 hL) (yt_179 hL) rfl (by decide) w_311 (fun _ h9 => h9) rfl rfl (yr_179_8 hL) d_5_15_18 ?_
    obtain ⟨M2, g2, h⟩ := bd_e h
    refine kVN (As := [.ref (ad 187)]) (rest := []) (s_Na_subtract l z ad E M1 189 187 M2 hL g2) hx hb hml hown hts w_1191 n_1188 w_1190 w_s_eead96 w_9 md_1acac4 ⟨Nat.le_of_ble_eq_true rfl, Nat.le_of_ble_eq_true rfl⟩ hG hZ hP hD hS hA 189 (wv_o (ci := 8) (yi_189 hL) (yt_189 hL)) rfl rfl rfl hl.1 rfl (Nat.le_of_ble_eq_true rfl) d_5_15_21 ⟨Nat.le_of_ble_eq_true rfl, Nat.le_of_ble_eq_true rfl⟩ (fun _ H locs hP hD hS => ?_)
    have hP : va_P z.1 classes (wv z ad E M2) H := hP
    have hD : va_D A (wv z ad E M2) := hD
    refine W.eq (g2 := F0 m 24 ls []) rfl ?_
    refine lv_aload_n hx hb d_5_15_24 rfl (lv_at hl 0 rfl) ?_
    refine m_gr (j := 191) (C := "Ballothall$Counting") (T := TX3) (N := 15) (ci := 3) (k := 10) hx hb hts iX3 hown hG hP (yi_179 hL) (yt_179 hL) rfl (by decide) w_314 (fun _ h9 => h9) rfl rfl (yr_179_10 hL) d_5_15_25 ?_
    refine lv_aload_n hx hb d_5_15_28 rfl (lv_at hl 0 rfl) ?_
    refine m_gr (j := 182) (C := "Ballothall$Counting") (T := TX3) (N := 15) (ci := 3) (k := 5) hx hb hts iX3 hown hG hP (yi_179 hL) (yt_179 hL) rfl (by decide) w_308 (fun _ h9 => h9) rfl rfl (yr_179_5 hL) d_5_15_29 ?_
    refine lv_iload_n hx hb d_5_15_32 rfl (lv_at hl 1 rfl) ?_
    refine m_aa (k := (201 + 2 * x1.toNat)) (t := 5) (C := "Ballothall$Natural") hx hb hG hP (yi_182 hL) (yt_182 hL) rfl rfl ok0 (ya_182 hL (inb_lt ok0)) d_5_15_33 ?_
    obtain ⟨M3, g3, h⟩ := bd_e h
    refine kVN (As := [.ref (ad (201 + 2 * x1.toNat))]) (rest := []) (s_Na_copyFrom l z ad E M2 191 (201 + 2 * x1.toNat) M3 hL g3) hx hb hml hown hts w_1175 n_1172 w_1174 w_s_8c9b61 w_9 md_68420c ⟨Nat.le_of_ble_eq_true rfl, Nat.le_of_ble_eq_true rfl⟩ hG hZ hP hD hS hA 191 (wv_o (ci := 8) (yi_191 hL) (yt_191 hL)) rfl rfl rfl hl.1 rfl (Nat.le_of_ble_eq_true rfl) d_5_15_34 ⟨Nat.le_of_ble_eq_true rfl, Nat.le_of_ble_eq_true rfl⟩ (fun _ H locs hP hD hS => ?_)
    have hP : va_P z.1 classes (wv z ad E M3) H := hP
    have hD : va_D A (wv z ad E M3) := hD
    refine W.eq (g2 := F0 m 37 ls []) rfl ?_
    refine lv_aload_n hx hb d_5_15_37 rfl (lv_at hl 0 rfl) ?_
    obtain ⟨M4, g4, h⟩ := bd_e h
    refine kV (As := []) (rest := []) (s_Co_reduce l z ad E M3 M4 hL g4) hx hb hml hown hts w_1195 w_1192 w_1194 w_s_393b57 w_8 md_3faff7 ⟨Nat.le_of_ble_eq_true rfl, Nat.le_of_ble_eq_true rfl⟩ hG hZ hP hD hS hA 179 (wv_o (ci := 3) (yi_179 hL) (yt_179 hL)) rfl rfl rfl hl.1 rfl (Nat.le_of_ble_eq_true rfl) d_5_15_38 ⟨Nat.le_of_ble_eq_true rfl, Nat.le_of_ble_eq_true rfl⟩ (fun _ H locs hP hD hS => ?_)
    have hP : va_P z.1 classes (wv z ad E M4) H := hP
    have hD : va_D A (wv z ad E M4) := hD
    refine W.eq (g2 := F0 m 41 ls []) rfl ?_
    refine lv_aload_n hx hb d_5_15_41 rfl (lv_at hl 0 rfl) ?_
    refine m_gr (j := 182) (C := "Ballothall$Counting") (T := TX3) (N := 15) (ci := 3) (k := 5) hx hb hts iX3 hown hG hP (yi_179 hL) (yt_179 hL) rfl (by decide) w_308 (fun _ h9 => h9) rfl rfl (yr_179_5 hL) d_5_15_42 ?_
    refine lv_iload_n hx hb d_5_15_45 rfl (lv_at hl 1 rfl) ?_
    refine m_aa (k := (201 + 2 * x1.toNat)) (t := 5) (C := "Ballothall$Natural") hx hb hG hP (yi_182 hL) (yt_182 hL) rfl rfl ok0 (ya_182 hL (inb_lt ok0)) d_5_15_46 ?_
    refine lv_aload_n hx hb d_5_15_47 rfl (lv_at hl 0 rfl) ?_
    refine m_gr (j := 187) (C := "Ballothall$Counting") (T := TX3) (N := 15) (ci := 3) (k := 8) hx hb hts iX3 hown hG hP (yi_179 hL) (yt_179 hL) rfl (by decide) w_311 (fun _ h9 => h9) rfl rfl (yr_179_8 hL) d_5_15_48 ?_
    obtain ⟨M5, g5, h⟩ := bd_e h
    refine kVN (As := [.ref (ad 187)]) (rest := []) (s_Na_copyFrom l z ad E M4 (201 + 2 * x1.toNat) 187 M5 hL g5) hx hb hml hown hts w_1175 n_1172 w_1174 w_s_8c9b61 w_9 md_68420c ⟨Nat.le_of_ble_eq_true rfl, Nat.le_of_ble_eq_true rfl⟩ hG hZ hP hD hS hA (201 + 2 * x1.toNat) (wv_o (ci := 8) (isNa_i (yg_182 hL ok0)) (isNa_T (yg_182 hL ok0))) rfl rfl rfl hl.1 rfl (Nat.le_of_ble_eq_true rfl) d_5_15_51 ⟨Nat.le_of_ble_eq_true rfl, Nat.le_of_ble_eq_true rfl⟩ (fun _ H locs hP hD hS => ?_)
    have hP : va_P z.1 classes (wv z ad E M5) H := hP
    have hD : va_D A (wv z ad E M5) := hD
    refine W.eq (g2 := F0 m 54 ls []) rfl ?_
    refine lv_aload_n hx hb d_5_15_54 rfl (lv_at hl 0 rfl) ?_
    refine lv_aload_n hx hb d_5_15_55 rfl (lv_at hl 0 rfl) ?_
    refine m_gr (j := 191) (C := "Ballothall$Counting") (T := TX3) (N := 15) (ci := 3) (k := 10) hx hb hts iX3 hown hG hP (yi_179 hL) (yt_179 hL) rfl (by decide) w_314 (fun _ h9 => h9) rfl rfl (yr_179_10 hL) d_5_15_56 ?_
    obtain ⟨M6, g6, h⟩ := bd_e h
    refine kV (As := [.ref (ad 191)]) (rest := []) (s_Co_multiplyAll l z ad E M5 191 M6 hL g6) hx hb hml hown hts w_1222 w_1219 w_1221 w_s_69df24 w_8 md_65df08 ⟨Nat.le_of_ble_eq_true rfl, Nat.le_of_ble_eq_true rfl⟩ hG hZ hP hD hS hA 179 (wv_o (ci := 3) (yi_179 hL) (yt_179 hL)) rfl rfl rfl hl.1 rfl (Nat.le_of_ble_eq_true rfl) d_5_15_59 ⟨Nat.le_of_ble_eq_true rfl, Nat.le_of_ble_eq_true rfl⟩ (fun _ H locs hP hD hS => ?_)
    have hP : va_P z.1 classes (wv z ad E M6) H := hP
    have hD : va_D A (wv z ad E M6) := hD
    refine W.eq (g2 := F0 m 62 ls []) rfl ?_
    refine lv_iconst (v := oI 0) hx hb d_5_15_62 (by decide +kernel) ?_
    refine lv_istore_n (lv' := [(2, .int (oI 0)), (0, .ref (ad 179)), (1, .int (oI x1))]) hx hb d_5_15_63 rfl hl (by decide) rfl (fun ls hl => ?_)
    obtain ⟨⟨t12, v12_2, M12⟩, g12, h⟩ := bd_e h
    obtain ⟨ok12, h⟩ := ck_e h
    refine s_Co_passSurplus_64 l z ad E x1 hx hb hml hts hown hlocks hA hG hZ hL FU M6 0 t12 v12_2 M12 g12 (fun e12 H locs ls hP hD hS hl => ?_) H locs ls hP hD hS (lv_sub hl [1, 2, 0] rfl)
    obtain rfl := in1 h
    exact W.vret hx hb hr (fun t ht hW => qkA hP hD hS (fun k => k) rfl rfl ht) hS.2.2 d_5_15_103
  exact key _ _ _ hts hP hS
set_option maxRecDepth 100000 in
set_option maxHeartbeats 4000000 in
theorem b_Co_smallestPile_4b (l : Launch) (z : Zz) (ad : Nat → Nat) (E : Ev) (M : Mm) (x1 : Int) (x2 : Int) (t : Nat) (w1 : Int) (w2 : Int)  {Q : State → Prop} {p : Program} {e : Env} {s : State} {m : MethodId} {below : List Frame} {meth : Method} {c : Code} {A : Nat → Prop} {args : Array Value} (hx : p.tables.exec = Jvm.exec) (hb : c.code = prog_5_method_11_code) (hml : c.maxLocals = 3) (hts : ∀ w ∈ WG, w.before args s = true) (hown : s.vm.findClass "Ballothall$Counting" = some m.cls) (hlocks : meth.locks = false) (hA : ∀ q, s.heap.size ≤ q → A q) (hG : KG z s) (hZ : FZ z A s) (hL : Lay E) (h : Co_smallestPile_4b E M x1 x2 = some (t, w1, w2)) (k0 : t = 0 → ∀ (H : Heap) (locs : List Loc) (ls : Array Slot), va_P z.1 classes (wv z ad E M) H → va_D A (wv z ad E M) → va_S A s.heap H locs → lv_has ls 3 [(0, .ref (ad 179)), (1, .int (oI w1)), (2, .int (oI w2))] → W p l e (rmK 3 86 0 0) s m args below meth c H locs 0 0 Q (F0 m 4 ls [])) (k1 : t = 1 → ∀ (H : Heap) (locs : List Loc) (ls : Array Slot), va_P z.1 classes (wv z ad E M) H → va_D A (wv z ad E M) → va_S A s.heap H locs → lv_has ls 3 [(1, .int (oI w1))] → W p l e (rmK 3 86 0 0) s m args below meth c H locs 0 0 Q (F0 m 48 ls [])) : ∀ (H : Heap) (locs : List Loc) (ls : Array Slot), va_P z.1 classes (wv z ad E M) H → va_D A (wv z ad E M) → va_S A s.heap H locs → lv_has ls 3 [(0, .ref (ad 179)), (1, .int (oI x1)), (2, .int (oI x2))] → W p l e (rmK 3 86 0 0) s m args below meth c H locs 0 0 Q (F0 m 4 ls []) := by
  intro H locs ls hP hD hS hl
  unfold Co_smallestPile_4b at h
  refine lv_iload_n hx hb d_5_11_4 rfl (lv_at hl 2 rfl) ?_
  refine lv_aload_n hx hb d_5_11_5 rfl (lv_at hl 0 rfl) ?_
  refine m_gr (j := 2) (C := "Ballothall$Counting") (T := TX3) (N := 15) (ci := 3) (k := 0) hx hb hts iX3 hown hG hP (yi_179 hL) (yt_179 hL) rfl (by decide) w_303 (fun _ h9 => h9) rfl rfl (yr_179_0 hL) d_5_11_6 ?_
  refine m_giN (C := "Ballothall$BallotBox") (T := TX0) (N := 10) (ci := 0) (k := 2) hx hb hts iX0 hown hG hP (yi_2 hL) (yt_2 hL) rfl (by decide) n_55 rfl (fun _ h9 => h9) rfl rfl d_5_11_9 ?_
  obtain ⟨ok0, h⟩ := ck_e h
  obtain ⟨ok1, h⟩ := ck_e h
  refine lv_icmp_ge (tgt := 48) hx hb d_5_11_12 (by decide) (fun c9 => ?_) (fun c9 => ?_)
  · have h := ite_t ((oI_le (a := (M 2 2)) (b := x2) ok1 ok0).mp c9) h
    obtain ⟨rfl, rfl, rfl⟩ := in3 h
    exact k1 rfl H locs ls hP hD hS (lv_sub hl [1] rfl)
  · have h := ite_f (fun q => c9 ((oI_le (a := (M 2 2)) (b := x2) ok1 ok0).mpr q)) h
    refine lv_aload_n hx hb d_5_11_15 rfl (lv_at hl 0 rfl) ?_
    refine m_gi (C := "Ballothall$Counting") (T := TX3) (N := 15) (ci := 3) (k := 3) hx hb hts iX3 hown hG hP (yi_179 hL) (yt_179 hL) rfl (by decide) w_306 (fun _ h9 => h9) rfl rfl d_5_11_16 ?_
    refine lv_iload_n hx hb d_5_11_19 rfl (lv_at hl 2 rfl) ?_
    obtain ⟨r2, g2, h⟩ := bd_e h
    refine kSN (As := [.int (oI (M 179 3)), .int (oI x2)]) (rest := []) (s_B_has l z ad E M (M 179 3) x2 r2 hL g2) hx hb hml hown hts w_693 n_1143 w_692 w_1 md_26545c ⟨Nat.le_of_ble_eq_true rfl, Nat.le_of_ble_eq_true rfl⟩ hG hZ hP hD hS hA rfl hl.1 rfl (Nat.le_of_ble_eq_true rfl) d_5_11_20 ⟨Nat.le_of_ble_eq_true rfl, Nat.le_of_ble_eq_true rfl⟩ (fun _ H locs hP hD hS => ?_)
    have hP : va_P z.1 classes (wv z ad E M) H := hP
    have hD : va_D A (wv z ad E M) := hD
    refine W.eq (g2 := F0 m 23 ls [.int (oI r2)]) rfl ?_
    obtain ⟨ok3, h⟩ := ck_e h
    refine lv_if_eq (tgt := 42) hx hb d_5_11_23 (by decide) (fun c9 => ?_) (fun c9 => ?_)
    · have h := ite_t ((oI_eq0 ok3).mp c9) h
      refine lv_iinc (v := oI (x2 + 1)) (lv' := [(2, .int (oI (x2 + 1))), (0, .ref (ad 179)), (1, .int (oI x1))]) hx hb d_5_11_42 hl (k := 2) rfl (oI_add x2 1) (by decide) rfl (fun ls hl => ?_)
      refine lv_goto (tgt := 4) hx hb d_5_11_45 (by decide) ?_
      obtain ⟨rfl, rfl, rfl⟩ := in3 h
      exact k0 rfl H locs ls hP hD hS (lv_sub hl [1, 2, 0] rfl)
    · have h := ite_f (fun q => c9 ((oI_eq0 ok3).mpr q)) h
      refine lv_iload_n hx hb d_5_11_26 rfl (lv_at hl 1 rfl) ?_
      refine lv_iconst (v := oI (-1)) hx hb d_5_11_27 (by decide +kernel) ?_
      obtain ⟨ok4, h⟩ := ck_e h
      refine lv_icmp_eq (tgt := 40) hx hb d_5_11_28 (by decide) (fun c9 => ?_) (fun c9 => ?_)
      · have h := ite_t ((oI_eq (a := x1) (b := (-1 : Int)) ok4 (by decide)).mp c9) h
        refine lv_iload_n hx hb d_5_11_40 rfl (lv_at hl 2 rfl) ?_
        refine lv_istore_n (lv' := [(1, .int (oI x2)), (0, .ref (ad 179)), (2, .int (oI x2))]) hx hb d_5_11_41 rfl hl (by decide) rfl (fun ls hl => ?_)
        refine lv_iinc (v := oI (x2 + 1)) (lv' := [(2, .int (oI (x2 + 1))), (1, .int (oI x2)), (0, .ref (ad 179))]) hx hb d_5_11_42 hl (k := 2) rfl (oI_add x2 1) (by decide) rfl (fun ls hl => ?_)
        refine lv_goto (tgt := 4) hx hb d_5_11_45 (by decide) ?_
        obtain ⟨rfl, rfl, rfl⟩ := in3 h
        exact k0 rfl H locs ls hP hD hS (lv_sub hl [2, 1, 0] rfl)
      · have h := ite_f (fun q => c9 ((oI_eq (a := x1) (b := (-1 : Int)) ok4 (by decide)).mpr q)) h
        refine lv_aload_n hx hb d_5_11_31 rfl (lv_at hl 0 rfl) ?_
        refine lv_iload_n hx hb d_5_11_32 rfl (lv_at hl 1 rfl) ?_
        refine lv_iload_n hx hb d_5_11_33 rfl (lv_at hl 2 rfl) ?_
        obtain ⟨r5, g5, h⟩ := bd_e h
        refine kV (As := [.int (oI x1), .int (oI x2)]) (rest := []) (s_Co_isAhead l z ad E M x1 x2 r5 hL g5) hx hb hml hown hts w_1159 w_1156 w_1158 w_s_1c537b w_8 md_e91d6f ⟨Nat.le_of_ble_eq_true rfl, Nat.le_of_ble_eq_true rfl⟩ hG hZ hP hD hS hA 179 (wv_o (ci := 3) (yi_179 hL) (yt_179 hL)) rfl rfl rfl hl.1 rfl (Nat.le_of_ble_eq_true rfl) d_5_11_34 ⟨Nat.le_of_ble_eq_true rfl, Nat.le_of_ble_eq_true rfl⟩ (fun _ H locs hP hD hS => ?_)
        have hP : va_P z.1 classes (wv z ad E M) H := hP
        have hD : va_D A (wv z ad E M) := hD
        refine W.eq (g2 := F0 m 37 ls [.int (oI r5)]) rfl ?_
        obtain ⟨ok6, h⟩ := ck_e h
        refine lv_if_eq (tgt := 42) hx hb d_5_11_37 (by decide) (fun c9 => ?_) (fun c9 => ?_)
        · have h := ite_t ((oI_eq0 ok6).mp c9) h
          refine lv_iinc (v := oI (x2 + 1)) (lv' := [(2, .int (oI (x2 + 1))), (0, .ref (ad 179)), (1, .int (oI x1))]) hx hb d_5_11_42 hl (k := 2) rfl (oI_add x2 1) (by decide) rfl (fun ls hl => ?_)
          refine lv_goto (tgt := 4) hx hb d_5_11_45 (by decide) ?_
          obtain ⟨rfl, rfl, rfl⟩ := in3 h
          exact k0 rfl H locs ls hP hD hS (lv_sub hl [1, 2, 0] rfl)
        · have h := ite_f (fun q => c9 ((oI_eq0 ok6).mpr q)) h
          refine lv_iload_n hx hb d_5_11_40 rfl (lv_at hl 2 rfl) ?_
          refine lv_istore_n (lv' := [(1, .int (oI x2)), (0, .ref (ad 179)), (2, .int (oI x2))]) hx hb d_5_11_41 rfl hl (by decide) rfl (fun ls hl => ?_)
          refine lv_iinc (v := oI (x2 + 1)) (lv' := [(2, .int (oI (x2 + 1))), (1, .int (oI x2)), (0, .ref (ad 179))]) hx hb d_5_11_42 hl (k := 2) rfl (oI_add x2 1) (by decide) rfl (fun ls hl => ?_)
          refine lv_goto (tgt := 4) hx hb d_5_11_45 (by decide) ?_
          obtain ⟨rfl, rfl, rfl⟩ := in3 h
          exact k0 rfl H locs ls hP hD hS (lv_sub hl [2, 1, 0] rfl)
set_option maxRecDepth 100000 in
set_option maxHeartbeats 4000000 in
theorem s_Co_smallestPile_4 (l : Launch) (z : Zz) (ad : Nat → Nat) (E : Ev) {Q : State → Prop} {p : Program} {e : Env} {s : State} {m : MethodId} {below : List Frame} {meth : Method} {c : Code} {A : Nat → Prop} {args : Array Value} (hx : p.tables.exec = Jvm.exec) (hb : c.code = prog_5_method_11_code) (hml : c.maxLocals = 3) (hts : ∀ w ∈ WG, w.before args s = true) (hown : s.vm.findClass "Ballothall$Counting" = some m.cls) (hlocks : meth.locks = false) (hA : ∀ q, s.heap.size ≤ q → A q) (hG : KG z s) (hZ : FZ z A s) (hL : Lay E) : ∀ (fu : Nat) (M : Mm) (x1 : Int) (x2 : Int) (t : Nat) (w1 : Int) (w2 : Int), l_Co_smallestPile_4 E fu M x1 x2 = some (t, w1, w2) → (t = 1 → ∀ (H : Heap) (locs : List Loc) (ls : Array Slot), va_P z.1 classes (wv z ad E M) H → va_D A (wv z ad E M) → va_S A s.heap H locs → lv_has ls 3 [(1, .int (oI w1))] → W p l e (rmK 3 86 0 0) s m args below meth c H locs 0 0 Q (F0 m 48 ls [])) → ∀ (H : Heap) (locs : List Loc) (ls : Array Slot), va_P z.1 classes (wv z ad E M) H → va_D A (wv z ad E M) → va_S A s.heap H locs → lv_has ls 3 [(0, .ref (ad 179)), (1, .int (oI x1)), (2, .int (oI x2))] → W p l e (rmK 3 86 0 0) s m args below meth c H locs 0 0 Q (F0 m 4 ls []) := by
  intro fu
  induction fu with
  | zero =>
    intro M x1 x2 t w1 w2 h
    have h : (none : Option (Nat × Int × Int)) = some _ := h
    cases h
  | succ fu ih =>
    intro M x1 x2 t w1 w2 h k1 H locs ls hP hD hS hl
    obtain ⟨⟨t0, w10, w20⟩, g0, h⟩ := bd_e h
    refine b_Co_smallestPile_4b l z ad E M x1 x2 t0 w10 w20 hx hb hml hts hown hlocks hA hG hZ hL g0 (fun e0 => ?_) (fun e0 => ?_) H locs ls hP hD hS hl
    · subst e0
      have h := ite_t rfl h
      exact ih M w10 w20 t w1 w2 h k1
    · subst e0
      have h := ite_f (by decide) h
      obtain ⟨rfl, rfl, rfl⟩ := in3 h
      exact k1 rfl
set_option maxRecDepth 100000 in
set_option maxHeartbeats 4000000 in
theorem s_Co_smallestPile (l : Launch) (z : Zz) (ad : Nat → Nat) (E : Ev) (M : Mm) (r : Int)  (hL : Lay E) (h : f_Co_smallestPile E M = some r) : CT l z ⟨"Ballothall$Counting", "smallestPile", "()I"⟩ prog_5_method_11_code 3 (some .int) [.ref (ad 179)] (wv z ad E M) 3 86 0 0 (fun _ => some (.int (oI r))) (fun _ => (wv z ad E M)) := by
  refine CT.of (own := "Ballothall$Counting") (by decide +kernel) (Nat.le_of_ble_eq_true rfl) rfl (fun p e s m below meth c A ls hx hb hml hr hts hown hlocks hin hA hG hZ hP hD hS hl => ?_)
  have hl : lv_has ls 3 [(0, .ref (ad 179))] := hl
  have key : ∀ (H : Heap) (locs : List Loc) (args : Array Value), (∀ w ∈ WG, w.before args s = true) → va_P z.1 classes (wv z ad E M) H → va_S A s.heap H locs → W p l e (rmK 3 86 0 0) s m args below meth c H locs 0 0 (MQ below (QK z A (fun _ => some (.int (oI r))) (fun _ => (wv z ad E M))) args s 0 0 A) (F0 m 0 ls []) := by
    intro H locs args hts hP hS
    unfold f_Co_smallestPile at h
    refine lv_iconst (v := oI (-1)) hx hb d_5_11_0 (by decide +kernel) ?_
    refine lv_istore_n (lv' := [(1, .int (oI (-1))), (0, .ref (ad 179))]) hx hb d_5_11_1 rfl hl (by decide) rfl (fun ls hl => ?_)
    refine lv_iconst (v := oI 0) hx hb d_5_11_2 (by decide +kernel) ?_
    refine lv_istore_n (lv' := [(2, .int (oI 0)), (1, .int (oI (-1))), (0, .ref (ad 179))]) hx hb d_5_11_3 rfl hl (by decide) rfl (fun ls hl => ?_)
    obtain ⟨⟨t7, v7_1, v7_2⟩, g7, h⟩ := bd_e h
    obtain ⟨ok7, h⟩ := ck_e h
    refine s_Co_smallestPile_4 l z ad E hx hb hml hts hown hlocks hA hG hZ hL FU M (-1) 0 t7 v7_1 v7_2 g7 (fun e7 H locs ls hP hD hS hl => ?_) H locs ls hP hD hS (lv_sub hl [2, 1, 0] rfl)
    refine lv_iload_n hx hb d_5_11_48 rfl (lv_at hl 0 rfl) ?_
    obtain rfl := in1 h
    exact W.iret hx hb hr (fun t ht hW => qkA hP hD hS (fun k => k) rfl rfl ht) hS.2.2 d_5_11_49
  exact key _ _ _ hts hP hS
set_option maxRecDepth 100000 in
set_option maxHeartbeats 4000000 in
theorem b_Co_takeStep_j79 (l : Launch) (z : Zz) (ad : Nat → Nat) (E : Ev) (M : Mm) (x4 : Int) (r : Int) (N : Mm) {p : Program} {e : Env} {s : State} {m : MethodId} {below : List Frame} {meth : Method} {c : Code} {A : Nat → Prop} {args : Array Value} (hx : p.tables.exec = Jvm.exec) (hb : c.code = prog_5_method_9_code) (hml : c.maxLocals = 5) (hts : ∀ w ∈ WG, w.before args s = true) (hown : s.vm.findClass "Ballothall$Counting" = some m.cls) (hlocks : meth.locks = false) (hA : ∀ q, s.heap.size ≤ q → A q) (hG : KG z s) (hZ : FZ z A s) (hL : Lay E) (hr : meth.sig.returnType = (some .boolean)) (h : Co_takeStep_j79 E M x4 = some (r, N)) : ∀ (H : Heap) (locs : List Loc) (ls : Array Slot), va_P z.1 classes (wv z ad E M) H → va_D A (wv z ad E M) → va_S A s.heap H locs → lv_has ls 5 [(4, .int (oI x4))] → W p l e (rmK 5 133 0 0) s m args below meth c H locs 0 0 (MQ below (QK z A (fun _ => some (.int (oI r))) (fun _ => (wv z ad E N))) args s 0 0 A) (F0 m 79 ls []) := by
  intro H locs ls hP hD hS hl
  unfold Co_takeStep_j79 at h
  refine lv_iload hx hb d_5_9_79 (lv_at hl 0 rfl) ?_
  obtain ⟨ok10, h⟩ := ck_e h
  refine lv_if_le (tgt := 88) hx hb d_5_9_81 (by decide) (fun c9 => ?_) (fun c9 => ?_)
  · have h := ite_t ((oI_le0 ok10).mp c9) h
    refine lv_iconst (v := oI 0) hx hb d_5_9_88 (by decide +kernel) ?_
    obtain ⟨rfl, rfl⟩ := in2 h
    exact W.zret hx hb hr rfl (fun t ht hW => qkA hP hD hS (fun k => k) rfl rfl ht) hS.2.2 d_5_9_89
  · have h := ite_f (fun q => c9 ((oI_le0 ok10).mpr q)) h
    refine lv_iconst (v := oI 1) hx hb d_5_9_84 (by decide +kernel) ?_
    refine lv_goto (tgt := 89) hx hb d_5_9_85 (by decide) ?_
    obtain ⟨rfl, rfl⟩ := in2 h
    exact W.zret hx hb hr rfl (fun t ht hW => qkA hP hD hS (fun k => k) rfl rfl ht) hS.2.2 d_5_9_89
set_option maxRecDepth 100000 in
set_option maxHeartbeats 4000000 in
theorem s_Co_takeStep (l : Launch) (z : Zz) (ad : Nat → Nat) (E : Ev) (M : Mm) (p1 : Nat) (x2 : Int) (x3 : Int) (r : Int) (N : Mm) (hL : Lay E) (h : f_Co_takeStep E M p1 x2 x3 = some (r, N)) : CT l z ⟨"Ballothall$Counting", "takeStep", "(LBallothall$Count;II)Z"⟩ prog_5_method_9_code 5 (some .boolean) [.ref (ad 179), .ref (ad p1), .int (oI x2), .int (oI x3)] (wv z ad E M) 5 133 0 0 (fun _ => some (.int (oI r))) (fun _ => (wv z ad E N)) := by
  refine CT.of (own := "Ballothall$Counting") (by decide +kernel) (Nat.le_of_ble_eq_true rfl) rfl (fun p e s m below meth c A ls hx hb hml hr hts hown hlocks hin hA hG hZ hP hD hS hl => ?_)
  have hl : lv_has ls 5 [(0, .ref (ad 179)), (1, .ref (ad p1)), (2, .int (oI x2)), (3, .int (oI x3))] := hl
  have key : ∀ (H : Heap) (locs : List Loc) (args : Array Value), (∀ w ∈ WG, w.before args s = true) → va_P z.1 classes (wv z ad E M) H → va_S A s.heap H locs → W p l e (rmK 5 133 0 0) s m args below meth c H locs 0 0 (MQ below (QK z A (fun _ => some (.int (oI r))) (fun _ => (wv z ad E N))) args s 0 0 A) (F0 m 0 ls []) := by
    intro H locs args hts hP hS
    unfold f_Co_takeStep at h
    obtain ⟨h_p1, h⟩ := ck_e h
    refine lv_aload_n hx hb d_5_9_0 rfl (lv_at hl 0 rfl) ?_
    refine m_gi (C := "Ballothall$Counting") (T := TX3) (N := 15) (ci := 3) (k := 3) hx hb hts iX3 hown hG hP (yi_179 hL) (yt_179 hL) rfl (by decide) w_306 (fun _ h9 => h9) rfl rfl d_5_9_1 ?_
    obtain ⟨r0, g0, h⟩ := bd_e h
    refine kS (As := [.int (oI (M 179 3))]) (rest := []) (s_In_bitCount l z ad E M (M 179 3) r0 hL g0) hx hb hml hown hts w_657 w_1138 w_656 w_30 md_eafe8c ⟨Nat.le_of_ble_eq_true rfl, Nat.le_of_ble_eq_true rfl⟩ hG hZ hP hD hS hA rfl hl.1 rfl (Nat.le_of_ble_eq_true rfl) d_5_9_4 ⟨Nat.le_of_ble_eq_true rfl, Nat.le_of_ble_eq_true rfl⟩ (fun _ H locs hP hD hS => ?_)
    have hP : va_P z.1 classes (wv z ad E M) H := hP
    have hD : va_D A (wv z ad E M) := hD
    refine W.eq (g2 := F0 m 7 ls [.int (oI r0)]) rfl ?_
    refine lv_iload_n hx hb d_5_9_7 rfl (lv_at hl 3 rfl) ?_
    obtain ⟨ok1, h⟩ := ck_e h
    obtain ⟨ok2, h⟩ := ck_e h
    refine lv_icmp_gt (tgt := 19) hx hb d_5_9_8 (by decide) (fun c9 => ?_) (fun c9 => ?_)
    · have h := ite_t ((oI_lt (a := x3) (b := r0) ok2 ok1).mp c9) h
      refine lv_aload_n hx hb d_5_9_19 rfl (lv_at hl 0 rfl) ?_
      refine m_gr (j := 187) (C := "Ballothall$Counting") (T := TX3) (N := 15) (ci := 3) (k := 8) hx hb hts iX3 hown hG hP (yi_179 hL) (yt_179 hL) rfl (by decide) w_311 (fun _ h9 => h9) rfl rfl (yr_179_8 hL) d_5_9_20 ?_
      refine lv_aload_n hx hb d_5_9_23 rfl (lv_at hl 0 rfl) ?_
      refine m_gr (j := 183) (C := "Ballothall$Counting") (T := TX3) (N := 15) (ci := 3) (k := 6) hx hb hts iX3 hown hG hP (yi_179 hL) (yt_179 hL) rfl (by decide) w_309 (fun _ h9 => h9) rfl rfl (yr_179_6 hL) d_5_9_24 ?_
      obtain ⟨M3, g3, h⟩ := bd_e h
      refine kVN (As := [.ref (ad 183)]) (rest := []) (s_Na_copyFrom l z ad E M 187 183 M3 hL g3) hx hb hml hown hts w_1175 n_1172 w_1174 w_s_8c9b61 w_9 md_68420c ⟨Nat.le_of_ble_eq_true rfl, Nat.le_of_ble_eq_true rfl⟩ hG hZ hP hD hS hA 187 (wv_o (ci := 8) (yi_187 hL) (yt_187 hL)) rfl rfl rfl hl.1 rfl (Nat.le_of_ble_eq_true rfl) d_5_9_27 ⟨Nat.le_of_ble_eq_true rfl, Nat.le_of_ble_eq_true rfl⟩ (fun _ H locs hP hD hS => ?_)
      have hP : va_P z.1 classes (wv z ad E M3) H := hP
      have hD : va_D A (wv z ad E M3) := hD
      refine W.eq (g2 := F0 m 30 ls []) rfl ?_
      refine lv_aload_n hx hb d_5_9_30 rfl (lv_at hl 0 rfl) ?_
      refine m_gr (j := 187) (C := "Ballothall$Counting") (T := TX3) (N := 15) (ci := 3) (k := 8) hx hb hts iX3 hown hG hP (yi_179 hL) (yt_179 hL) rfl (by decide) w_311 (fun _ h9 => h9) rfl rfl (yr_179_8 hL) d_5_9_31 ?_
      refine lv_aload_n hx hb d_5_9_34 rfl (lv_at hl 1 rfl) ?_
      refine m_giN (C := "Ballothall$Count") (T := TX2) (N := 10) (ci := 2) (k := 0) hx hb hts iX2 hown hG hP (isCt_i h_p1) (isCt_T h_p1) rfl (by decide) n_1079 rfl (fun _ h9 => h9) rfl rfl d_5_9_35 ?_
      obtain ⟨M4, g4, h⟩ := bd_e h
      refine kVN (As := [.int (oI (M3 p1 0))]) (rest := []) (s_Na_multiplySmall l z ad E M3 187 (M3 p1 0) M4 hL g4) hx hb hml hown hts w_642 n_639 w_641 w_s_f32dd6 w_9 md_664187 ⟨Nat.le_of_ble_eq_true rfl, Nat.le_of_ble_eq_true rfl⟩ hG hZ hP hD hS hA 187 (wv_o (ci := 8) (yi_187 hL) (yt_187 hL)) rfl rfl rfl hl.1 rfl (Nat.le_of_ble_eq_true rfl) d_5_9_38 ⟨Nat.le_of_ble_eq_true rfl, Nat.le_of_ble_eq_true rfl⟩ (fun _ H locs hP hD hS => ?_)
      have hP : va_P z.1 classes (wv z ad E M4) H := hP
      have hD : va_D A (wv z ad E M4) := hD
      refine W.eq (g2 := F0 m 41 ls []) rfl ?_
      refine lv_aload_n hx hb d_5_9_41 rfl (lv_at hl 0 rfl) ?_
      refine m_gr (j := 182) (C := "Ballothall$Counting") (T := TX3) (N := 15) (ci := 3) (k := 5) hx hb hts iX3 hown hG hP (yi_179 hL) (yt_179 hL) rfl (by decide) w_308 (fun _ h9 => h9) rfl rfl (yr_179_5 hL) d_5_9_42 ?_
      refine lv_iload_n hx hb d_5_9_45 rfl (lv_at hl 2 rfl) ?_
      obtain ⟨ok5, h⟩ := ck_e h
      refine m_aa (k := (201 + 2 * x2.toNat)) (t := 5) (C := "Ballothall$Natural") hx hb hG hP (yi_182 hL) (yt_182 hL) rfl rfl ok5 (ya_182 hL (inb_lt ok5)) d_5_9_46 ?_
      refine lv_aload_n hx hb d_5_9_47 rfl (lv_at hl 0 rfl) ?_
      refine m_gr (j := 187) (C := "Ballothall$Counting") (T := TX3) (N := 15) (ci := 3) (k := 8) hx hb hts iX3 hown hG hP (yi_179 hL) (yt_179 hL) rfl (by decide) w_311 (fun _ h9 => h9) rfl rfl (yr_179_8 hL) d_5_9_48 ?_
      obtain ⟨r6, g6, h⟩ := bd_e h
      refine kVN (As := [.ref (ad 187)]) (rest := []) (s_Na_compareWith l z ad E M4 (201 + 2 * x2.toNat) 187 r6 hL g6) hx hb hml hown hts w_646 n_643 w_645 w_s_c7eea3 w_9 md_c6b535 ⟨Nat.le_of_ble_eq_true rfl, Nat.le_of_ble_eq_true rfl⟩ hG hZ hP hD hS hA (201 + 2 * x2.toNat) (wv_o (ci := 8) (isNa_i (yg_182 hL ok5)) (isNa_T (yg_182 hL ok5))) rfl rfl rfl hl.1 rfl (Nat.le_of_ble_eq_true rfl) d_5_9_51 ⟨Nat.le_of_ble_eq_true rfl, Nat.le_of_ble_eq_true rfl⟩ (fun _ H locs hP hD hS => ?_)
      have hP : va_P z.1 classes (wv z ad E M4) H := hP
      have hD : va_D A (wv z ad E M4) := hD
      refine W.eq (g2 := F0 m 54 ls [.int (oI r6)]) rfl ?_
      refine lv_istore (lv' := [(4, .int (oI r6)), (0, .ref (ad 179)), (1, .ref (ad p1)), (2, .int (oI x2)), (3, .int (oI x3))]) hx hb d_5_9_54 hl (by decide) rfl (fun ls hl => ?_)
      refine lv_iload hx hb d_5_9_56 (lv_at hl 0 rfl) ?_
      obtain ⟨ok7, h⟩ := ck_e h
      refine lv_if_lt (tgt := 70) hx hb d_5_9_58 (by decide) (fun c9 => ?_) (fun c9 => ?_)
      · have h := ite_t ((oI_lt0 ok7).mp c9) h
        refine lv_aload_n hx hb d_5_9_70 rfl (lv_at hl 1 rfl) ?_
        refine lv_aload_n hx hb d_5_9_71 rfl (lv_at hl 2 rfl) ?_
        refine lv_aload_n hx hb d_5_9_72 rfl (lv_at hl 1 rfl) ?_
        obtain ⟨r8, g8, h⟩ := bd_e h
        refine kV (As := []) (rest := [.ref (ad p1), .ref (ad 179)]) (s_Co_smallestPile l z ad E M4 r8 hL g8) hx hb hml hown hts w_1179 w_1176 w_1178 w_s_86d8f3 w_8 md_a7df80 ⟨Nat.le_of_ble_eq_true rfl, Nat.le_of_ble_eq_true rfl⟩ hG hZ hP hD hS hA 179 (wv_o (ci := 3) (yi_179 hL) (yt_179 hL)) rfl rfl rfl hl.1 rfl (Nat.le_of_ble_eq_true rfl) d_5_9_73 ⟨Nat.le_of_ble_eq_true rfl, Nat.le_of_ble_eq_true rfl⟩ (fun _ H locs hP hD hS => ?_)
        have hP : va_P z.1 classes (wv z ad E M4) H := hP
        have hD : va_D A (wv z ad E M4) := hD
        refine W.eq (g2 := F0 m 76 ls [.int (oI r8), .ref (ad p1), .ref (ad 179)]) rfl ?_
        obtain ⟨M9, g9, h⟩ := bd_e h
        refine kV (As := [.ref (ad p1), .int (oI r8)]) (rest := []) (s_Co_exclude l z ad E M4 p1 r8 M9 hL g9) hx hb hml hown hts w_1183 w_1180 w_1182 w_s_3c522a w_8 md_ca594d ⟨Nat.le_of_ble_eq_true rfl, Nat.le_of_ble_eq_true rfl⟩ hG hZ hP hD hS hA 179 (wv_o (ci := 3) (yi_179 hL) (yt_179 hL)) rfl rfl rfl hl.1 rfl (Nat.le_of_ble_eq_true rfl) d_5_9_76 ⟨Nat.le_of_ble_eq_true rfl, Nat.le_of_ble_eq_true rfl⟩ (fun _ H locs hP hD hS => ?_)
        have hP : va_P z.1 classes (wv z ad E M9) H := hP
        have hD : va_D A (wv z ad E M9) := hD
        refine W.eq (g2 := F0 m 79 ls []) rfl ?_
        exact b_Co_takeStep_j79 l z ad E M9 r6 r N hx hb hml hts hown hlocks hA hG hZ hL hr h H locs ls hP hD hS (lv_sub hl [0] rfl)
      · have h := ite_f (fun q => c9 ((oI_lt0 ok7).mpr q)) h
        refine lv_aload_n hx hb d_5_9_61 rfl (lv_at hl 1 rfl) ?_
        refine lv_aload_n hx hb d_5_9_62 rfl (lv_at hl 2 rfl) ?_
        refine lv_iload_n hx hb d_5_9_63 rfl (lv_at hl 3 rfl) ?_
        obtain ⟨M11, g11, h⟩ := bd_e h
        refine kV (As := [.ref (ad p1), .int (oI x2)]) (rest := []) (s_Co_elect l z ad E M4 p1 x2 M11 hL g11) hx hb hml hown hts w_1171 w_1168 w_1170 w_s_90e319 w_8 md_33d152 ⟨Nat.le_of_ble_eq_true rfl, Nat.le_of_ble_eq_true rfl⟩ hG hZ hP hD hS hA 179 (wv_o (ci := 3) (yi_179 hL) (yt_179 hL)) rfl rfl rfl hl.1 rfl (Nat.le_of_ble_eq_true rfl) d_5_9_64 ⟨Nat.le_of_ble_eq_true rfl, Nat.le_of_ble_eq_true rfl⟩ (fun _ H locs hP hD hS => ?_)
        have hP : va_P z.1 classes (wv z ad E M11) H := hP
        have hD : va_D A (wv z ad E M11) := hD
        refine W.eq (g2 := F0 m 67 ls []) rfl ?_
        refine lv_goto (tgt := 79) hx hb d_5_9_67 (by decide) ?_
        exact b_Co_takeStep_j79 l z ad E M11 r6 r N hx hb hml hts hown hlocks hA hG hZ hL hr h H locs ls hP hD hS (lv_sub hl [0] rfl)
    · have h := ite_f (fun q => c9 ((oI_lt (a := x3) (b := r0) ok2 ok1).mpr q)) h
      refine lv_aload_n hx hb d_5_9_11 rfl (lv_at hl 0 rfl) ?_
      refine lv_aload_n hx hb d_5_9_12 rfl (lv_at hl 1 rfl) ?_
      refine lv_iload_n hx hb d_5_9_13 rfl (lv_at hl 2 rfl) ?_
      obtain ⟨M12, g12, h⟩ := bd_e h
      refine kV (As := [.ref (ad p1), .int (oI x2)]) (rest := []) (s_Co_elect l z ad E M p1 x2 M12 hL g12) hx hb hml hown hts w_1171 w_1168 w_1170 w_s_90e319 w_8 md_33d152 ⟨Nat.le_of_ble_eq_true rfl, Nat.le_of_ble_eq_true rfl⟩ hG hZ hP hD hS hA 179 (wv_o (ci := 3) (yi_179 hL) (yt_179 hL)) rfl rfl rfl hl.1 rfl (Nat.le_of_ble_eq_true rfl) d_5_9_14 ⟨Nat.le_of_ble_eq_true rfl, Nat.le_of_ble_eq_true rfl⟩ (fun _ H locs hP hD hS => ?_)
      have hP : va_P z.1 classes (wv z ad E M12) H := hP
      have hD : va_D A (wv z ad E M12) := hD
      refine W.eq (g2 := F0 m 17 ls []) rfl ?_
      refine lv_iconst (v := oI 0) hx hb d_5_9_17 (by decide +kernel) ?_
      obtain ⟨rfl, rfl⟩ := in2 h
      exact W.zret hx hb hr rfl (fun t ht hW => qkA hP hD hS (fun k => k) rfl rfl ht) hS.2.2 d_5_9_18
  exact key _ _ _ hts hP hS
