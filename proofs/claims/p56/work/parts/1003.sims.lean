set_option maxRecDepth 100000 in
set_option maxHeartbeats 4000000 in
theorem s_B_type (l : Launch) (z : Zz) (ad : Nat → Nat) (E : Ev) (M : Mm) (x1 : Int) (r : Int) (N : Mm) (hL : Lay E) (h : f_B_type E M x1 = some (r, N)) : CT l z ⟨"Ballothall", "type", "(J)I"⟩ prog_1_method_4_code 5 (some .int) [.ref (ad 1), .long (oJ x1)] (wv z ad E M) 1 41 0 0 (fun _ => some (.int (oI r))) (fun _ => (wv z ad E N)) := by
  refine CT.of (own := "Ballothall") (by decide +kernel) (Nat.le_of_ble_eq_true rfl) rfl (fun p e s m below meth c A ls hx hb hml hr hts hown hlocks hin hA hG hZ hP hD hS hl => ?_)
  have hl : lv_has ls 5 [(0, .ref (ad 1)), (1, .long (oJ x1))] := hl
  have key : ∀ (H : Heap) (locs : List Loc) (args : Array Value), (∀ w ∈ WG, w.before args s = true) → va_P z.1 classes (wv z ad E M) H → va_S A s.heap H locs → W p l e (rmK 1 41 0 0) s m args below meth c H locs 0 0 (MQ below (QK z A (fun _ => some (.int (oI r))) (fun _ => (wv z ad E N))) args s 0 0 A) (F0 m 0 ls []) := by
    intro H locs args hts hP hS
    unfold f_B_type at h
    refine lv_iconst (v := oI 0) hx hb d_1_4_0 (by decide +kernel) ?_
    refine lv_istore_n (lv' := [(3, .int (oI 0)), (0, .ref (ad 1)), (1, .long (oJ x1))]) hx hb d_1_4_1 rfl hl (by decide) rfl (fun ls hl => ?_)
    refine lv_bipush (v := oI 56) hx hb d_1_4_2 (by decide +kernel) ?_
    refine lv_istore (lv' := [(4, .int (oI 56)), (3, .int (oI 0)), (0, .ref (ad 1)), (1, .long (oJ x1))]) hx hb d_1_4_4 hl (by decide) rfl (fun ls hl => ?_)
    obtain ⟨⟨t103, v103_3, v103_4, M103⟩, g103, h⟩ := bd_e h
    obtain ⟨ok103, h⟩ := ck_e h
    refine s_B_type_6 l z ad E x1 hx hb hml hts hown hlocks hA hG hZ hL FU M 0 56 t103 v103_3 v103_4 M103 g103 (fun e103 H locs ls hP hD hS hl => ?_) H locs ls hP hD hS (lv_sub hl [2, 3, 1, 0] rfl)
    refine lv_aload_n hx hb d_1_4_33 rfl (lv_at hl 0 rfl) ?_
    refine m_gr (j := 2) (C := "Ballothall") (T := TX11) (N := 14) (ci := 11) (k := 0) hx hb hts iX11 hown hG hP (yi_1 hL) (yt_1 hL) rfl (by decide) w_397 (fun _ h9 => h9) rfl rfl (yr_1_0 hL) d_1_4_34 ?_
    refine m_giN (C := "Ballothall$BallotBox") (T := TX0) (N := 10) (ci := 0) (k := 1) hx hb hts iX0 hown hG hP (yi_2 hL) (yt_2 hL) rfl (by decide) n_49 rfl (fun _ h9 => h9) rfl rfl d_1_4_37 ?_
    refine lv_iload_n hx hb d_1_4_40 rfl (lv_at hl 2 rfl) ?_
    refine lv_iadd hx hb d_1_4_41 ?_
    refine nrm (oI_add _ _) ?_
    refine lv_bipush (v := oI 30) hx hb d_1_4_42 (by decide +kernel) ?_
    obtain ⟨_, g104, h⟩ := bd_e h
    refine kS (As := [.int (oI ((M103 2 1) + v103_3)), .int (oI 30)]) (rest := []) (s_B_needRoom l z ad E M103 ((M103 2 1) + v103_3) 30 hL g104) hx hb hml hown hts w_446 w_444 w_445 w_1 md_ec9fa9 ⟨Nat.le_of_ble_eq_true rfl, Nat.le_of_ble_eq_true rfl⟩ hG hZ hP hD hS hA rfl hl.1 rfl (Nat.le_of_ble_eq_true rfl) d_1_4_44 ⟨Nat.le_of_ble_eq_true rfl, Nat.le_of_ble_eq_true rfl⟩ (fun _ H locs hP hD hS => ?_)
    have hP : va_P z.1 classes (wv z ad E M103) H := hP
    have hD : va_D A (wv z ad E M103) := hD
    refine W.eq (g2 := F0 m 47 ls []) rfl ?_
    refine lv_bipush (v := oI 56) hx hb d_1_4_47 (by decide +kernel) ?_
    refine lv_istore (lv' := [(4, .int (oI 56)), (0, .ref (ad 1)), (1, .long (oJ x1)), (3, .int (oI v103_3))]) hx hb d_1_4_49 hl (by decide) rfl (fun ls hl => ?_)
    obtain ⟨⟨t109, v109_4, M109⟩, g109, h⟩ := bd_e h
    obtain ⟨ok109, h⟩ := ck_e h
    refine s_B_type_51 l z ad E x1 hx hb hml hts hown hlocks hA hG hZ hL FU M103 56 t109 v109_4 M109 g109 (fun e109 H locs ls hP hD hS hl => ?_) H locs ls hP hD hS (lv_sub hl [1, 2, 0] rfl)
    refine lv_aload_n hx hb d_1_4_78 rfl (lv_at hl 0 rfl) ?_
    refine m_gr (j := 2) (C := "Ballothall") (T := TX11) (N := 14) (ci := 11) (k := 0) hx hb hts iX11 hown hG hP (yi_1 hL) (yt_1 hL) rfl (by decide) w_397 (fun _ h9 => h9) rfl rfl (yr_1_0 hL) d_1_4_79 ?_
    refine m_giN (C := "Ballothall$BallotBox") (T := TX0) (N := 10) (ci := 0) (k := 1) hx hb hts iX0 hown hG hP (yi_2 hL) (yt_2 hL) rfl (by decide) n_49 rfl (fun _ h9 => h9) rfl rfl d_1_4_82 ?_
    obtain ⟨rfl, rfl⟩ := in2 h
    exact W.iret hx hb hr (fun t ht hW => qkA hP hD hS (fun k => k) rfl rfl ht) hS.2.2 d_1_4_85
  exact key _ _ _ hts hP hS
set_option maxRecDepth 100000 in
set_option maxHeartbeats 4000000 in
theorem b_La_type_15b (l : Launch) (z : Zz) (ad : Nat → Nat) (E : Ev) (M : Mm) (q1 : Nat) (x2 : Int) (x3 : Int) (x5 : Int) (t : Nat) (w3 : Int) (w5 : Int) (N : Mm) {Q : State → Prop} {p : Program} {e : Env} {s : State} {m : MethodId} {below : List Frame} {meth : Method} {c : Code} {A : Nat → Prop} {args : Array Value} (hx : p.tables.exec = Jvm.exec) (hb : c.code = method_3_code) (hml : c.maxLocals = 6) (hts : ∀ w ∈ WG, w.before args s = true) (hown : s.vm.findClass "BallothallLaw" = some m.cls) (hlocks : meth.locks = false) (hA : ∀ q, s.heap.size ≤ q → A q) (hG : KG z s) (hZ : FZ z A s) (hL : Lay E) (h : La_type_15b E M q1 x2 x3 x5 = some (t, w3, w5, N)) (k0 : t = 0 → ∀ (H : Heap) (locs : List Loc) (ls : Array Slot), va_P z.1 classes (wv z ad E N) H → va_D A (wv z ad E N) → va_S A s.heap H locs → lv_has ls 6 [(0, .ref (ad 1)), (1, .ref (ad q1)), (2, .int (oI x2)), (3, .long (oJ w3)), (5, .int (oI w5))] → W p l e (rmK 4 105 0 0) s m args below meth c H locs 0 0 Q (F0 m 15 ls [])) (k1 : t = 1 → ∀ (H : Heap) (locs : List Loc) (ls : Array Slot), va_P z.1 classes (wv z ad E N) H → va_D A (wv z ad E N) → va_S A s.heap H locs → lv_has ls 6 [(0, .ref (ad 1)), (1, .ref (ad q1)), (2, .int (oI x2)), (3, .long (oJ w3))] → W p l e (rmK 4 105 0 0) s m args below meth c H locs 0 0 Q (F0 m 52 ls [])) : ∀ (H : Heap) (locs : List Loc) (ls : Array Slot), va_P z.1 classes (wv z ad E M) H → va_D A (wv z ad E M) → va_S A s.heap H locs → lv_has ls 6 [(0, .ref (ad 1)), (1, .ref (ad q1)), (2, .int (oI x2)), (3, .long (oJ x3)), (5, .int (oI x5))] → W p l e (rmK 4 105 0 0) s m args below meth c H locs 0 0 Q (F0 m 15 ls []) := by
  intro H locs ls hP hD hS hl
  unfold La_type_15b at h
  obtain ⟨h_q1, h⟩ := ck_e h
  refine lv_iload hx hb d_L3_15 (lv_at hl 4 rfl) ?_
  refine lv_iload_n hx hb d_L3_17 rfl (lv_at hl 2 rfl) ?_
  refine lv_bipush (v := oI 8) hx hb d_L3_18 (by decide +kernel) ?_
  refine lv_iadd hx hb d_L3_20 ?_
  refine nrm (oI_add _ _) ?_
  obtain ⟨ok103, h⟩ := ck_e h
  obtain ⟨ok104, h⟩ := ck_e h
  refine lv_icmp_ge (tgt := 52) hx hb d_L3_21 (by decide) (fun c9 => ?_) (fun c9 => ?_)
  · have h := ite_t ((oI_le (a := (x2 + 8)) (b := x5) ok104 ok103).mp c9) h
    obtain ⟨rfl, rfl, rfl, rfl⟩ := in4 h
    exact k1 rfl H locs ls hP hD hS (lv_sub hl [0, 1, 2, 3] rfl)
  · have h := ite_f (fun q => c9 ((oI_le (a := (x2 + 8)) (b := x5) ok104 ok103).mpr q)) h
    refine lv_iload hx hb d_L3_24 (lv_at hl 4 rfl) ?_
    refine lv_aload_n hx hb d_L3_26 rfl (lv_at hl 1 rfl) ?_
    obtain ⟨r105, g105, h⟩ := bd_e h
    refine kV (As := []) (rest := [.int (oI x5)]) (s_St_length l z ad E M q1 r105 hL g105) hx hb hml hown hts w_989 w_986 w_987 w_988 w_20 md_a3a12c ⟨Nat.le_of_ble_eq_true rfl, Nat.le_of_ble_eq_true rfl⟩ hG hZ hP hD hS hA q1 (wv_o (ci := 13) h_q1.1 h_q1.2) rfl rfl rfl hl.1 rfl (Nat.le_of_ble_eq_true rfl) d_L3_27 ⟨Nat.le_of_ble_eq_true rfl, Nat.le_of_ble_eq_true rfl⟩ (fun _ H locs hP hD hS => ?_)
    have hP : va_P z.1 classes (wv z ad E M) H := hP
    have hD : va_D A (wv z ad E M) := hD
    refine W.eq (g2 := F0 m 30 ls [.int (oI r105), .int (oI x5)]) rfl ?_
    obtain ⟨ok106, h⟩ := ck_e h
    refine lv_icmp_ge (tgt := 52) hx hb d_L3_30 (by decide) (fun c9 => ?_) (fun c9 => ?_)
    · have h := ite_t ((oI_le (a := r105) (b := x5) ok106 ok103).mp c9) h
      obtain ⟨rfl, rfl, rfl, rfl⟩ := in4 h
      exact k1 rfl H locs ls hP hD hS (lv_sub hl [0, 1, 2, 3] rfl)
    · have h := ite_f (fun q => c9 ((oI_le (a := r105) (b := x5) ok106 ok103).mpr q)) h
      refine lv_lload_n hx hb d_L3_33 rfl (lv_at hl 3 rfl) ?_
      refine lv_bipush (v := oI 8) hx hb d_L3_34 (by decide +kernel) ?_
      refine lv_lshl (v := oJ (x3 * 256)) hx hb d_L3_36 (oJ_shl (b := (8 : Int)) (by decide) (by decide)) ?_
      refine lv_aload_n hx hb d_L3_37 rfl (lv_at hl 1 rfl) ?_
      refine lv_iload hx hb d_L3_38 (lv_at hl 4 rfl) ?_
      obtain ⟨r107, g107, h⟩ := bd_e h
      refine kV (As := [.int (oI x5)]) (rest := [.long (oJ (x3 * 256))]) (s_St_charAt l z ad E M q1 x5 r107 hL g107) hx hb hml hown hts w_997 w_994 w_995 w_996 w_20 md_53dc2a ⟨Nat.le_of_ble_eq_true rfl, Nat.le_of_ble_eq_true rfl⟩ hG hZ hP hD hS hA q1 (wv_o (ci := 13) h_q1.1 h_q1.2) rfl rfl rfl hl.1 rfl (Nat.le_of_ble_eq_true rfl) d_L3_40 ⟨Nat.le_of_ble_eq_true rfl, Nat.le_of_ble_eq_true rfl⟩ (fun _ H locs hP hD hS => ?_)
      have hP : va_P z.1 classes (wv z ad E M) H := hP
      have hD : va_D A (wv z ad E M) := hD
      refine W.eq (g2 := F0 m 43 ls [.int (oI r107), .long (oJ (x3 * 256))]) rfl ?_
      obtain ⟨ok108, h⟩ := ck_e h
      refine lv_i2l (v := oJ r107) hx hb d_L3_43 (oI_l ok108) ?_
      obtain ⟨ok109, h⟩ := ck_e h
      obtain ⟨ok110, h⟩ := ck_e h
      refine lv_lor hx hb d_L3_44 ?_
      refine nrmL (oJ_or (a := (x3 * 256)) (b := r107) ok109.1 ok109.2 ok110.1 ok110.2) ?_
      refine lv_lstore_n (lv' := [(3, .long (oJ (orI (x3 * 256) r107))), (0, .ref (ad 1)), (1, .ref (ad q1)), (2, .int (oI x2)), (5, .int (oI x5))]) hx hb d_L3_45 rfl hl (by decide) rfl (fun ls hl => ?_)
      refine lv_iinc (v := oI (x5 + 1)) (lv' := [(5, .int (oI (x5 + 1))), (3, .long (oJ (orI (x3 * 256) r107))), (0, .ref (ad 1)), (1, .ref (ad q1)), (2, .int (oI x2))]) hx hb d_L3_46 hl (k := 4) rfl (oI_add x5 1) (by decide) rfl (fun ls hl => ?_)
      refine lv_goto (tgt := 15) hx hb d_L3_49 (by decide) ?_
      obtain ⟨rfl, rfl, rfl, rfl⟩ := in4 h
      exact k0 rfl H locs ls hP hD hS (lv_sub hl [2, 3, 4, 1, 0] rfl)
set_option maxRecDepth 100000 in
set_option maxHeartbeats 4000000 in
theorem s_La_type_15 (l : Launch) (z : Zz) (ad : Nat → Nat) (E : Ev) (q1 : Nat) (x2 : Int) {Q : State → Prop} {p : Program} {e : Env} {s : State} {m : MethodId} {below : List Frame} {meth : Method} {c : Code} {A : Nat → Prop} {args : Array Value} (hx : p.tables.exec = Jvm.exec) (hb : c.code = method_3_code) (hml : c.maxLocals = 6) (hts : ∀ w ∈ WG, w.before args s = true) (hown : s.vm.findClass "BallothallLaw" = some m.cls) (hlocks : meth.locks = false) (hA : ∀ q, s.heap.size ≤ q → A q) (hG : KG z s) (hZ : FZ z A s) (hL : Lay E) : ∀ (fu : Nat) (M : Mm) (x3 : Int) (x5 : Int) (t : Nat) (w3 : Int) (w5 : Int) (N : Mm), l_La_type_15 E q1 x2 fu M x3 x5 = some (t, w3, w5, N) → (t = 1 → ∀ (H : Heap) (locs : List Loc) (ls : Array Slot), va_P z.1 classes (wv z ad E N) H → va_D A (wv z ad E N) → va_S A s.heap H locs → lv_has ls 6 [(0, .ref (ad 1)), (1, .ref (ad q1)), (2, .int (oI x2)), (3, .long (oJ w3))] → W p l e (rmK 4 105 0 0) s m args below meth c H locs 0 0 Q (F0 m 52 ls [])) → ∀ (H : Heap) (locs : List Loc) (ls : Array Slot), va_P z.1 classes (wv z ad E M) H → va_D A (wv z ad E M) → va_S A s.heap H locs → lv_has ls 6 [(0, .ref (ad 1)), (1, .ref (ad q1)), (2, .int (oI x2)), (3, .long (oJ x3)), (5, .int (oI x5))] → W p l e (rmK 4 105 0 0) s m args below meth c H locs 0 0 Q (F0 m 15 ls []) := by
  intro fu
  induction fu with
  | zero =>
    intro M x3 x5 t w3 w5 N h
    have h : (none : Option (Nat × Int × Int × Mm)) = some _ := h
    cases h
  | succ fu ih =>
    intro M x3 x5 t w3 w5 N h k1 H locs ls hP hD hS hl
    obtain ⟨⟨t0, w30, w50, N9⟩, g0, h⟩ := bd_e h
    refine b_La_type_15b l z ad E M q1 x2 x3 x5 t0 w30 w50 N9 hx hb hml hts hown hlocks hA hG hZ hL g0 (fun e0 => ?_) (fun e0 => ?_) H locs ls hP hD hS hl
    · subst e0
      have h := ite_t rfl h
      exact ih N9 w30 w50 t w3 w5 N h k1
    · subst e0
      have h := ite_f (by decide) h
      obtain ⟨rfl, rfl, rfl, rfl⟩ := in4 h
      exact k1 rfl
set_option maxRecDepth 100000 in
set_option maxHeartbeats 4000000 in
theorem b_La_type_j52 (l : Launch) (z : Zz) (ad : Nat → Nat) (E : Ev) (M : Mm) (q1 : Nat) (x2 : Int) (x3 : Int) (t : Nat) (w2 : Int) (N : Mm) {Q : State → Prop} {p : Program} {e : Env} {s : State} {m : MethodId} {below : List Frame} {meth : Method} {c : Code} {A : Nat → Prop} {args : Array Value} (hx : p.tables.exec = Jvm.exec) (hb : c.code = method_3_code) (hml : c.maxLocals = 6) (hts : ∀ w ∈ WG, w.before args s = true) (hown : s.vm.findClass "BallothallLaw" = some m.cls) (hlocks : meth.locks = false) (hA : ∀ q, s.heap.size ≤ q → A q) (hG : KG z s) (hZ : FZ z A s) (hL : Lay E) (h : La_type_j52 E M q1 x2 x3 = some (t, w2, N)) (k0 : t = 0 → ∀ (H : Heap) (locs : List Loc) (ls : Array Slot), va_P z.1 classes (wv z ad E N) H → va_D A (wv z ad E N) → va_S A s.heap H locs → lv_has ls 6 [(0, .ref (ad 1)), (1, .ref (ad q1)), (2, .int (oI w2))] → W p l e (rmK 4 105 0 0) s m args below meth c H locs 0 0 Q (F0 m 2 ls [])) (k1 : t = 1 → ∀ (H : Heap) (locs : List Loc) (ls : Array Slot), va_P z.1 classes (wv z ad E N) H → va_D A (wv z ad E N) → va_S A s.heap H locs → lv_has ls 6 [] → W p l e (rmK 4 105 0 0) s m args below meth c H locs 0 0 Q (F0 m 65 ls [])) : ∀ (H : Heap) (locs : List Loc) (ls : Array Slot), va_P z.1 classes (wv z ad E M) H → va_D A (wv z ad E M) → va_S A s.heap H locs → lv_has ls 6 [(0, .ref (ad 1)), (1, .ref (ad q1)), (2, .int (oI x2)), (3, .long (oJ x3))] → W p l e (rmK 4 105 0 0) s m args below meth c H locs 0 0 Q (F0 m 52 ls []) := by
  intro H locs ls hP hD hS hl
  unfold La_type_j52 at h
  obtain ⟨h_q1, h⟩ := ck_e h
  refine lv_aload_n hx hb d_L3_52 rfl (lv_at hl 0 rfl) ?_
  refine lv_lload_n hx hb d_L3_53 rfl (lv_at hl 3 rfl) ?_
  obtain ⟨⟨r112, M112⟩, g112, h⟩ := bd_e h
  refine kV (As := [.long (oJ x3)]) (rest := []) (s_B_type l z ad E M x3 r112 M112 hL g112) hx hb hml hown hts w_1012 w_1009 w_1010 w_1011 w_1 md_de1341 ⟨Nat.le_of_ble_eq_true rfl, Nat.le_of_ble_eq_true rfl⟩ hG hZ hP hD hS hA 1 (wv_o (ci := 11) (yi_1 hL) (yt_1 hL)) rfl rfl rfl hl.1 rfl (Nat.le_of_ble_eq_true rfl) d_L3_54 ⟨Nat.le_of_ble_eq_true rfl, Nat.le_of_ble_eq_true rfl⟩ (fun _ H locs hP hD hS => ?_)
  have hP : va_P z.1 classes (wv z ad E M112) H := hP
  have hD : va_D A (wv z ad E M112) := hD
  refine W.eq (g2 := F0 m 57 ls [.int (oI r112)]) rfl ?_
  refine lv_istore (lv' := [(5, .int (oI r112)), (0, .ref (ad 1)), (1, .ref (ad q1)), (2, .int (oI x2)), (3, .long (oJ x3))]) hx hb d_L3_57 hl (by decide) rfl (fun ls hl => ?_)
  refine lv_iinc (v := oI (x2 + 8)) (lv' := [(2, .int (oI (x2 + 8))), (5, .int (oI r112)), (0, .ref (ad 1)), (1, .ref (ad q1)), (3, .long (oJ x3))]) hx hb d_L3_59 hl (k := 3) rfl (oI_add x2 8) (by decide) rfl (fun ls hl => ?_)
  refine lv_goto (tgt := 2) hx hb d_L3_62 (by decide) ?_
  obtain ⟨rfl, rfl, rfl⟩ := in3 h
  exact k0 rfl H locs ls hP hD hS (lv_sub hl [2, 3, 0] rfl)
set_option maxRecDepth 100000 in
set_option maxHeartbeats 4000000 in
theorem b_La_type_2b (l : Launch) (z : Zz) (ad : Nat → Nat) (E : Ev) (M : Mm) (q1 : Nat) (x2 : Int) (t : Nat) (w2 : Int) (N : Mm) {Q : State → Prop} {p : Program} {e : Env} {s : State} {m : MethodId} {below : List Frame} {meth : Method} {c : Code} {A : Nat → Prop} {args : Array Value} (hx : p.tables.exec = Jvm.exec) (hb : c.code = method_3_code) (hml : c.maxLocals = 6) (hts : ∀ w ∈ WG, w.before args s = true) (hown : s.vm.findClass "BallothallLaw" = some m.cls) (hlocks : meth.locks = false) (hA : ∀ q, s.heap.size ≤ q → A q) (hG : KG z s) (hZ : FZ z A s) (hL : Lay E) (h : La_type_2b E M q1 x2 = some (t, w2, N)) (k0 : t = 0 → ∀ (H : Heap) (locs : List Loc) (ls : Array Slot), va_P z.1 classes (wv z ad E N) H → va_D A (wv z ad E N) → va_S A s.heap H locs → lv_has ls 6 [(0, .ref (ad 1)), (1, .ref (ad q1)), (2, .int (oI w2))] → W p l e (rmK 4 105 0 0) s m args below meth c H locs 0 0 Q (F0 m 2 ls [])) (k1 : t = 1 → ∀ (H : Heap) (locs : List Loc) (ls : Array Slot), va_P z.1 classes (wv z ad E N) H → va_D A (wv z ad E N) → va_S A s.heap H locs → lv_has ls 6 [] → W p l e (rmK 4 105 0 0) s m args below meth c H locs 0 0 Q (F0 m 65 ls [])) : ∀ (H : Heap) (locs : List Loc) (ls : Array Slot), va_P z.1 classes (wv z ad E M) H → va_D A (wv z ad E M) → va_S A s.heap H locs → lv_has ls 6 [(0, .ref (ad 1)), (1, .ref (ad q1)), (2, .int (oI x2))] → W p l e (rmK 4 105 0 0) s m args below meth c H locs 0 0 Q (F0 m 2 ls []) := by
  intro H locs ls hP hD hS hl
  unfold La_type_2b at h
  obtain ⟨h_q1, h⟩ := ck_e h
  refine lv_iload_n hx hb d_L3_2 rfl (lv_at hl 2 rfl) ?_
  refine lv_aload_n hx hb d_L3_3 rfl (lv_at hl 1 rfl) ?_
  obtain ⟨r100, g100, h⟩ := bd_e h
  refine kV (As := []) (rest := [.int (oI x2)]) (s_St_length l z ad E M q1 r100 hL g100) hx hb hml hown hts w_989 w_986 w_987 w_988 w_20 md_a3a12c ⟨Nat.le_of_ble_eq_true rfl, Nat.le_of_ble_eq_true rfl⟩ hG hZ hP hD hS hA q1 (wv_o (ci := 13) h_q1.1 h_q1.2) rfl rfl rfl hl.1 rfl (Nat.le_of_ble_eq_true rfl) d_L3_4 ⟨Nat.le_of_ble_eq_true rfl, Nat.le_of_ble_eq_true rfl⟩ (fun _ H locs hP hD hS => ?_)
  have hP : va_P z.1 classes (wv z ad E M) H := hP
  have hD : va_D A (wv z ad E M) := hD
  refine W.eq (g2 := F0 m 7 ls [.int (oI r100), .int (oI x2)]) rfl ?_
  obtain ⟨ok101, h⟩ := ck_e h
  obtain ⟨ok102, h⟩ := ck_e h
  refine lv_icmp_ge (tgt := 65) hx hb d_L3_7 (by decide) (fun c9 => ?_) (fun c9 => ?_)
  · have h := ite_t ((oI_le (a := r100) (b := x2) ok102 ok101).mp c9) h
    obtain ⟨rfl, rfl, rfl⟩ := in3 h
    exact k1 rfl H locs ls hP hD hS (lv_sub hl [] rfl)
  · have h := ite_f (fun q => c9 ((oI_le (a := r100) (b := x2) ok102 ok101).mpr q)) h
    refine lv_lconst (v := oJ 0) hx hb d_L3_10 (by decide +kernel) ?_
    refine lv_lstore_n (lv' := [(3, .long (oJ 0)), (0, .ref (ad 1)), (1, .ref (ad q1)), (2, .int (oI x2))]) hx hb d_L3_11 rfl hl (by decide) rfl (fun ls hl => ?_)
    refine lv_iload_n hx hb d_L3_12 rfl (lv_at hl 3 rfl) ?_
    refine lv_istore (lv' := [(5, .int (oI x2)), (3, .long (oJ 0)), (0, .ref (ad 1)), (1, .ref (ad q1)), (2, .int (oI x2))]) hx hb d_L3_13 hl (by decide) rfl (fun ls hl => ?_)
    obtain ⟨⟨t111, v111_3, v111_5, M111⟩, g111, h⟩ := bd_e h
    obtain ⟨ok111, h⟩ := ck_e h
    refine s_La_type_15 l z ad E q1 x2 hx hb hml hts hown hlocks hA hG hZ hL FU M 0 x2 t111 v111_3 v111_5 M111 g111 (fun e111 H locs ls hP hD hS hl => ?_) H locs ls hP hD hS (lv_sub hl [2, 3, 4, 1, 0] rfl)
    exact b_La_type_j52 l z ad E M111 q1 x2 v111_3 t w2 N hx hb hml hts hown hlocks hA hG hZ hL h k0 k1 H locs ls hP hD hS (lv_sub hl [0, 1, 2, 3] rfl)
set_option maxRecDepth 100000 in
set_option maxHeartbeats 4000000 in
theorem s_La_type_2 (l : Launch) (z : Zz) (ad : Nat → Nat) (E : Ev) (q1 : Nat) {Q : State → Prop} {p : Program} {e : Env} {s : State} {m : MethodId} {below : List Frame} {meth : Method} {c : Code} {A : Nat → Prop} {args : Array Value} (hx : p.tables.exec = Jvm.exec) (hb : c.code = method_3_code) (hml : c.maxLocals = 6) (hts : ∀ w ∈ WG, w.before args s = true) (hown : s.vm.findClass "BallothallLaw" = some m.cls) (hlocks : meth.locks = false) (hA : ∀ q, s.heap.size ≤ q → A q) (hG : KG z s) (hZ : FZ z A s) (hL : Lay E) : ∀ (fu : Nat) (M : Mm) (x2 : Int) (t : Nat) (w2 : Int) (N : Mm), l_La_type_2 E q1 fu M x2 = some (t, w2, N) → (t = 1 → ∀ (H : Heap) (locs : List Loc) (ls : Array Slot), va_P z.1 classes (wv z ad E N) H → va_D A (wv z ad E N) → va_S A s.heap H locs → lv_has ls 6 [] → W p l e (rmK 4 105 0 0) s m args below meth c H locs 0 0 Q (F0 m 65 ls [])) → ∀ (H : Heap) (locs : List Loc) (ls : Array Slot), va_P z.1 classes (wv z ad E M) H → va_D A (wv z ad E M) → va_S A s.heap H locs → lv_has ls 6 [(0, .ref (ad 1)), (1, .ref (ad q1)), (2, .int (oI x2))] → W p l e (rmK 4 105 0 0) s m args below meth c H locs 0 0 Q (F0 m 2 ls []) := by
  intro fu
  induction fu with
  | zero =>
    intro M x2 t w2 N h
    have h : (none : Option (Nat × Int × Mm)) = some _ := h
    cases h
  | succ fu ih =>
    intro M x2 t w2 N h k1 H locs ls hP hD hS hl
    obtain ⟨⟨t0, w20, N9⟩, g0, h⟩ := bd_e h
    refine b_La_type_2b l z ad E M q1 x2 t0 w20 N9 hx hb hml hts hown hlocks hA hG hZ hL g0 (fun e0 => ?_) (fun e0 => ?_) H locs ls hP hD hS hl
    · subst e0
      have h := ite_t rfl h
      exact ih N9 w20 t w2 N h k1
    · subst e0
      have h := ite_f (by decide) h
      obtain ⟨rfl, rfl, rfl⟩ := in3 h
      exact k1 rfl
set_option maxRecDepth 100000 in
set_option maxHeartbeats 4000000 in
theorem s_La_type (l : Launch) (z : Zz) (ad : Nat → Nat) (E : Ev) (M : Mm) (p1 : Nat) (N : Mm) (hL : Lay E) (h : f_La_type E M p1 = some N) : CT l z ⟨"BallothallLaw", "type", "(LBallothall;Ljava/lang/String;)V"⟩ method_3_code 6 none [.ref (ad 1), .ref (ad p1)] (wv z ad E M) 4 105 0 0 (fun _ => none) (fun _ => (wv z ad E N)) := by
  refine CT.of (own := "BallothallLaw") (by decide +kernel) (Nat.le_of_ble_eq_true rfl) rfl (fun p e s m below meth c A ls hx hb hml hr hts hown hlocks hin hA hG hZ hP hD hS hl => ?_)
  have hl : lv_has ls 6 [(0, .ref (ad 1)), (1, .ref (ad p1))] := hl
  have key : ∀ (H : Heap) (locs : List Loc) (args : Array Value), (∀ w ∈ WG, w.before args s = true) → va_P z.1 classes (wv z ad E M) H → va_S A s.heap H locs → W p l e (rmK 4 105 0 0) s m args below meth c H locs 0 0 (MQ below (QK z A (fun _ => none) (fun _ => (wv z ad E N))) args s 0 0 A) (F0 m 0 ls []) := by
    intro H locs args hts hP hS
    unfold f_La_type at h
    obtain ⟨h_p1, h⟩ := ck_e h
    refine lv_iconst (v := oI 0) hx hb d_L3_0 (by decide +kernel) ?_
    refine lv_istore_n (lv' := [(2, .int (oI 0)), (0, .ref (ad 1)), (1, .ref (ad p1))]) hx hb d_L3_1 rfl hl (by decide) rfl (fun ls hl => ?_)
    obtain ⟨⟨t113, v113_2, M113⟩, g113, h⟩ := bd_e h
    obtain ⟨ok113, h⟩ := ck_e h
    refine s_La_type_2 l z ad E p1 hx hb hml hts hown hlocks hA hG hZ hL FU M 0 t113 v113_2 M113 g113 (fun e113 H locs ls hP hD hS hl => ?_) H locs ls hP hD hS (lv_sub hl [1, 2, 0] rfl)
    obtain rfl := in1 h
    exact W.vret hx hb hr (fun t ht hW => qkA hP hD hS (fun k => k) rfl rfl ht) hS.2.2 d_L3_65
  exact key _ _ _ hts hP hS
set_option maxRecDepth 100000 in
set_option maxHeartbeats 4000000 in
theorem s_B_needRange (l : Launch) (z : Zz) (ad : Nat → Nat) (E : Ev) (M : Mm) (x0 : Int) (x1 : Int) (x2 : Int)  (hL : Lay E) (h : f_B_needRange E M x0 x1 x2 = some ()) : CT l z ⟨"Ballothall", "needRange", "(III)V"⟩ prog_1_method_57_code 3 none [.int (oI x0), .int (oI x1), .int (oI x2)] (wv z ad E M) 0 20 0 0 (fun _ => none) (fun _ => (wv z ad E M)) := by
  refine CT.of (own := "Ballothall") (by decide +kernel) (Nat.le_of_ble_eq_true rfl) rfl (fun p e s m below meth c A ls hx hb hml hr hts hown hlocks hin hA hG hZ hP hD hS hl => ?_)
  have hl : lv_has ls 3 [(0, .int (oI x0)), (1, .int (oI x1)), (2, .int (oI x2))] := hl
  have key : ∀ (H : Heap) (locs : List Loc) (args : Array Value), (∀ w ∈ WG, w.before args s = true) → va_P z.1 classes (wv z ad E M) H → va_S A s.heap H locs → W p l e (rmK 0 20 0 0) s m args below meth c H locs 0 0 (MQ below (QK z A (fun _ => none) (fun _ => (wv z ad E M))) args s 0 0 A) (F0 m 0 ls []) := by
    intro H locs args hts hP hS
    unfold f_B_needRange at h
    refine lv_iload_n hx hb d_1_57_0 rfl (lv_at hl 0 rfl) ?_
    refine lv_iload_n hx hb d_1_57_1 rfl (lv_at hl 1 rfl) ?_
    obtain ⟨ok100, h⟩ := ck_e h
    obtain ⟨ok101, h⟩ := ck_e h
    refine lv_icmp_lt (tgt := 10) hx hb d_1_57_2 (by decide) (fun c9 => ?_) (fun c9 => ?_)
    · have h := ite_t ((oI_lt (a := x0) (b := x1) ok100 ok101).mp c9) h
      cases h
    · have h := ite_f (fun q => c9 ((oI_lt (a := x0) (b := x1) ok100 ok101).mpr q)) h
      refine lv_iload_n hx hb d_1_57_5 rfl (lv_at hl 0 rfl) ?_
      refine lv_iload_n hx hb d_1_57_6 rfl (lv_at hl 2 rfl) ?_
      obtain ⟨ok102, h⟩ := ck_e h
      refine lv_icmp_le (tgt := 21) hx hb d_1_57_7 (by decide) (fun c9 => ?_) (fun c9 => ?_)
      · have h := ite_t ((oI_le (a := x0) (b := x2) ok100 ok102).mp c9) h
        clear h
        exact W.vret hx hb hr (fun t ht hW => qkA hP hD hS (fun k => k) rfl rfl ht) hS.2.2 d_1_57_21
      · have h := ite_f (fun q => c9 ((oI_le (a := x0) (b := x2) ok100 ok102).mpr q)) h
        cases h
  exact key _ _ _ hts hP hS
set_option maxRecDepth 100000 in
set_option maxHeartbeats 4000000 in
theorem b_Ar_fillI_5b (l : Launch) (z : Zz) (ad : Nat → Nat) (E : Ev) (M : Mm) (q0 : Nat) (x1 : Int) (x3 : Int) (x2 : Int) (t : Nat) (w2 : Int) (N : Mm) {Q : State → Prop} {p : Program} {e : Env} {s : State} {m : MethodId} {below : List Frame} {meth : Method} {c : Code} {A : Nat → Prop} {args : Array Value} (hx : p.tables.exec = Jvm.exec) (hb : c.code = prog_43_method_103_code) (hml : c.maxLocals = 4) (hts : ∀ w ∈ WG, w.before args s = true) (hown : s.vm.findClass "java/util/Arrays" = some m.cls) (hlocks : meth.locks = false) (hA : ∀ q, s.heap.size ≤ q → A q) (hG : KG z s) (hZ : FZ z A s) (hL : Lay E) (h : Ar_fillI_5b E M q0 x1 x3 x2 = some (t, w2, N)) (k0 : t = 0 → ∀ (H : Heap) (locs : List Loc) (ls : Array Slot), va_P z.1 classes (wv z ad E N) H → va_D A (wv z ad E N) → va_S A s.heap H locs → lv_has ls 4 [(0, .ref (ad q0)), (1, .int (oI x1)), (2, .int (oI w2)), (3, .int (oI x3))] → W p l e (rmK 0 20 0 0) s m args below meth c H locs 0 0 Q (F0 m 5 ls [])) (k1 : t = 1 → ∀ (H : Heap) (locs : List Loc) (ls : Array Slot), va_P z.1 classes (wv z ad E N) H → va_D A (wv z ad E N) → va_S A s.heap H locs → lv_has ls 4 [] → W p l e (rmK 0 20 0 0) s m args below meth c H locs 0 0 Q (F0 m 20 ls [])) : ∀ (H : Heap) (locs : List Loc) (ls : Array Slot), va_P z.1 classes (wv z ad E M) H → va_D A (wv z ad E M) → va_S A s.heap H locs → lv_has ls 4 [(0, .ref (ad q0)), (1, .int (oI x1)), (2, .int (oI x2)), (3, .int (oI x3))] → W p l e (rmK 0 20 0 0) s m args below meth c H locs 0 0 Q (F0 m 5 ls []) := by
  intro H locs ls hP hD hS hl
  unfold Ar_fillI_5b at h
  obtain ⟨h_q0, h⟩ := ck_e h
  refine lv_iload_n hx hb d_43_103_5 rfl (lv_at hl 2 rfl) ?_
  refine lv_iload_n hx hb d_43_103_6 rfl (lv_at hl 3 rfl) ?_
  obtain ⟨ok100, h⟩ := ck_e h
  obtain ⟨ok101, h⟩ := ck_e h
  refine lv_icmp_ge (tgt := 20) hx hb d_43_103_7 (by decide) (fun c9 => ?_) (fun c9 => ?_)
  · have h := ite_t ((oI_le (a := x3) (b := x2) ok101 ok100).mp c9) h
    obtain ⟨rfl, rfl, rfl⟩ := in3 h
    exact k1 rfl H locs ls hP hD hS (lv_sub hl [] rfl)
  · have h := ite_f (fun q => c9 ((oI_le (a := x3) (b := x2) ok101 ok100).mpr q)) h
    refine lv_aload_n hx hb d_43_103_10 rfl (lv_at hl 0 rfl) ?_
    refine lv_iload_n hx hb d_43_103_11 rfl (lv_at hl 2 rfl) ?_
    refine lv_iload_n hx hb d_43_103_12 rfl (lv_at hl 1 rfl) ?_
    obtain ⟨ok102, h⟩ := ck_e h
    refine m_is hx hb hG hP hD hS h_q0.1 (isIA_T h_q0) ok102 d_43_103_13 (fun H locs hP hD hS => ?_)
    have hP : va_P z.1 classes (wv z ad E (u2 M q0 x2.toNat x1)) H := hP
    have hD : va_D A (wv z ad E (u2 M q0 x2.toNat x1)) := hD
    refine lv_iinc (v := oI (x2 + 1)) (lv' := [(2, .int (oI (x2 + 1))), (0, .ref (ad q0)), (1, .int (oI x1)), (3, .int (oI x3))]) hx hb d_43_103_14 hl (k := 2) rfl (oI_add x2 1) (by decide) rfl (fun ls hl => ?_)
    refine lv_goto (tgt := 5) hx hb d_43_103_17 (by decide) ?_
    obtain ⟨rfl, rfl, rfl⟩ := in3 h
    exact k0 rfl H locs ls hP hD hS (lv_sub hl [1, 2, 0, 3] rfl)
set_option maxRecDepth 100000 in
set_option maxHeartbeats 4000000 in
theorem s_Ar_fillI_5 (l : Launch) (z : Zz) (ad : Nat → Nat) (E : Ev) (q0 : Nat) (x1 : Int) (x3 : Int) {Q : State → Prop} {p : Program} {e : Env} {s : State} {m : MethodId} {below : List Frame} {meth : Method} {c : Code} {A : Nat → Prop} {args : Array Value} (hx : p.tables.exec = Jvm.exec) (hb : c.code = prog_43_method_103_code) (hml : c.maxLocals = 4) (hts : ∀ w ∈ WG, w.before args s = true) (hown : s.vm.findClass "java/util/Arrays" = some m.cls) (hlocks : meth.locks = false) (hA : ∀ q, s.heap.size ≤ q → A q) (hG : KG z s) (hZ : FZ z A s) (hL : Lay E) : ∀ (fu : Nat) (M : Mm) (x2 : Int) (t : Nat) (w2 : Int) (N : Mm), l_Ar_fillI_5 E q0 x1 x3 fu M x2 = some (t, w2, N) → (t = 1 → ∀ (H : Heap) (locs : List Loc) (ls : Array Slot), va_P z.1 classes (wv z ad E N) H → va_D A (wv z ad E N) → va_S A s.heap H locs → lv_has ls 4 [] → W p l e (rmK 0 20 0 0) s m args below meth c H locs 0 0 Q (F0 m 20 ls [])) → ∀ (H : Heap) (locs : List Loc) (ls : Array Slot), va_P z.1 classes (wv z ad E M) H → va_D A (wv z ad E M) → va_S A s.heap H locs → lv_has ls 4 [(0, .ref (ad q0)), (1, .int (oI x1)), (2, .int (oI x2)), (3, .int (oI x3))] → W p l e (rmK 0 20 0 0) s m args below meth c H locs 0 0 Q (F0 m 5 ls []) := by
  intro fu
  induction fu with
  | zero =>
    intro M x2 t w2 N h
    have h : (none : Option (Nat × Int × Mm)) = some _ := h
    cases h
  | succ fu ih =>
    intro M x2 t w2 N h k1 H locs ls hP hD hS hl
    obtain ⟨⟨t0, w20, N9⟩, g0, h⟩ := bd_e h
    refine b_Ar_fillI_5b l z ad E M q0 x1 x3 x2 t0 w20 N9 hx hb hml hts hown hlocks hA hG hZ hL g0 (fun e0 => ?_) (fun e0 => ?_) H locs ls hP hD hS hl
    · subst e0
      have h := ite_t rfl h
      exact ih N9 w20 t w2 N h k1
    · subst e0
      have h := ite_f (by decide) h
      obtain ⟨rfl, rfl, rfl⟩ := in3 h
      exact k1 rfl
set_option maxRecDepth 100000 in
set_option maxHeartbeats 4000000 in
theorem s_Ar_fillI (l : Launch) (z : Zz) (ad : Nat → Nat) (E : Ev) (M : Mm) (p0 : Nat) (x1 : Int) (N : Mm) (hL : Lay E) (h : f_Ar_fillI E M p0 x1 = some N) : CT l z ⟨"java/util/Arrays", "fill", "([II)V"⟩ prog_43_method_103_code 4 none [.ref (ad p0), .int (oI x1)] (wv z ad E M) 0 20 0 0 (fun _ => none) (fun _ => (wv z ad E N)) := by
  refine CT.of (own := "java/util/Arrays") (by decide +kernel) (Nat.le_of_ble_eq_true rfl) rfl (fun p e s m below meth c A ls hx hb hml hr hts hown hlocks hin hA hG hZ hP hD hS hl => ?_)
  have hl : lv_has ls 4 [(0, .ref (ad p0)), (1, .int (oI x1))] := hl
  have key : ∀ (H : Heap) (locs : List Loc) (args : Array Value), (∀ w ∈ WG, w.before args s = true) → va_P z.1 classes (wv z ad E M) H → va_S A s.heap H locs → W p l e (rmK 0 20 0 0) s m args below meth c H locs 0 0 (MQ below (QK z A (fun _ => none) (fun _ => (wv z ad E N))) args s 0 0 A) (F0 m 0 ls []) := by
    intro H locs args hts hP hS
    unfold f_Ar_fillI at h
    obtain ⟨h_p0, h⟩ := ck_e h
    refine lv_iconst (v := oI 0) hx hb d_43_103_0 (by decide +kernel) ?_
    refine lv_istore_n (lv' := [(2, .int (oI 0)), (0, .ref (ad p0)), (1, .int (oI x1))]) hx hb d_43_103_1 rfl hl (by decide) rfl (fun ls hl => ?_)
    refine lv_aload_n hx hb d_43_103_2 rfl (lv_at hl 1 rfl) ?_
    refine m_len (v := ((tE E p0).2 : Int)) hx hb hG hP h_p0.1 (isIA_T h_p0) (len_oI _) d_43_103_3 ?_
    refine lv_istore_n (lv' := [(3, .int (oI ((tE E p0).2 : Int))), (2, .int (oI 0)), (0, .ref (ad p0)), (1, .int (oI x1))]) hx hb d_43_103_4 rfl hl (by decide) rfl (fun ls hl => ?_)
    obtain ⟨⟨t103, v103_2, M103⟩, g103, h⟩ := bd_e h
    obtain ⟨ok103, h⟩ := ck_e h
    refine s_Ar_fillI_5 l z ad E p0 x1 ((tE E p0).2 : Int) hx hb hml hts hown hlocks hA hG hZ hL FU M 0 t103 v103_2 M103 g103 (fun e103 H locs ls hP hD hS hl => ?_) H locs ls hP hD hS (lv_sub hl [2, 3, 1, 0] rfl)
    obtain rfl := in1 h
    exact W.vret hx hb hr (fun t ht hW => qkA hP hD hS (fun k => k) rfl rfl ht) hS.2.2 d_43_103_20
  exact key _ _ _ hts hP hS
set_option maxRecDepth 100000 in
set_option maxHeartbeats 4000000 in
theorem s_Bx_clearTrial (l : Launch) (z : Zz) (ad : Nat → Nat) (E : Ev) (M : Mm) (N : Mm) (hL : Lay E) (h : f_Bx_clearTrial E M = some N) : CT l z ⟨"Ballothall$BallotBox", "clearTrial", "()V"⟩ prog_2_method_7_code 1 none [.ref (ad 2)] (wv z ad E M) 1 43 0 0 (fun _ => none) (fun _ => (wv z ad E N)) := by
  refine CT.of (own := "Ballothall$BallotBox") (by decide +kernel) (Nat.le_of_ble_eq_true rfl) rfl (fun p e s m below meth c A ls hx hb hml hr hts hown hlocks hin hA hG hZ hP hD hS hl => ?_)
  have hl : lv_has ls 1 [(0, .ref (ad 2))] := hl
  have key : ∀ (H : Heap) (locs : List Loc) (args : Array Value), (∀ w ∈ WG, w.before args s = true) → va_P z.1 classes (wv z ad E M) H → va_S A s.heap H locs → W p l e (rmK 1 43 0 0) s m args below meth c H locs 0 0 (MQ below (QK z A (fun _ => none) (fun _ => (wv z ad E N))) args s 0 0 A) (F0 m 0 ls []) := by
    intro H locs args hts hP hS
    unfold f_Bx_clearTrial at h
    refine lv_aload_n hx hb d_2_7_0 rfl (lv_at hl 0 rfl) ?_
    refine m_gr (j := 7) (C := "Ballothall$BallotBox") (T := TX0) (N := 10) (ci := 0) (k := 7) hx hb hts iX0 hown hG hP (yi_2 hL) (yt_2 hL) rfl (by decide) w_72 (fun _ h9 => h9) rfl rfl (yr_2_7 hL) d_2_7_1 ?_
    refine lv_bipush (v := oI 30) hx hb d_2_7_4 (by decide +kernel) ?_
    refine lv_iconst (v := oI 0) hx hb d_2_7_6 (by decide +kernel) ?_
    refine m_is hx hb hG hP hD hS (yi_7 hL) (yt_7 hL) (by decide +kernel) d_2_7_7 (fun H locs hP hD hS => ?_)
    have hP : va_P z.1 classes (wv z ad E (u2 M 7 30 0)) H := hP
    have hD : va_D A (wv z ad E (u2 M 7 30 0)) := hD
    refine lv_aload_n hx hb d_2_7_8 rfl (lv_at hl 0 rfl) ?_
    refine m_gr (j := 6) (C := "Ballothall$BallotBox") (T := TX0) (N := 10) (ci := 0) (k := 6) hx hb hts iX0 hown hG hP (yi_2 hL) (yt_2 hL) rfl (by decide) w_68 (fun _ h9 => h9) rfl rfl (yr_2_6 hL) d_2_7_9 ?_
    refine lv_bipush (v := oI 30) hx hb d_2_7_12 (by decide +kernel) ?_
    refine lv_iconst (v := oI 0) hx hb d_2_7_14 (by decide +kernel) ?_
    refine m_is hx hb hG hP hD hS (yi_6 hL) (yt_6 hL) (by decide +kernel) d_2_7_15 (fun H locs hP hD hS => ?_)
    have hP : va_P z.1 classes (wv z ad E (u2 (u2 M 7 30 0) 6 30 0)) H := hP
    have hD : va_D A (wv z ad E (u2 (u2 M 7 30 0) 6 30 0)) := hD
    refine lv_aload_n hx hb d_2_7_16 rfl (lv_at hl 0 rfl) ?_
    refine m_gr (j := 8) (C := "Ballothall$BallotBox") (T := TX0) (N := 10) (ci := 0) (k := 8) hx hb hts iX0 hown hG hP (yi_2 hL) (yt_2 hL) rfl (by decide) w_74 (fun _ h9 => h9) rfl rfl (yr_2_8 hL) d_2_7_17 ?_
    refine lv_bipush (v := oI 30) hx hb d_2_7_20 (by decide +kernel) ?_
    refine m_ar (k := 39) hx hb hG hP (yi_8 hL) (yt_8 hL) (by decide +kernel) ((ya_8 hL (by decide +kernel)).trans (by decide +kernel)) d_2_7_22 ?_
    refine lv_iconst (v := oI 0) hx hb d_2_7_23 (by decide +kernel) ?_
    obtain ⟨M100, g100, h⟩ := bd_e h
    refine kS (As := [.ref (ad 39), .int (oI 0)]) (rest := []) (s_Ar_fillI l z ad E (u2 (u2 M 7 30 0) 6 30 0) 39 0 M100 hL g100) hx hb hml hown hts w_653 w_651 w_652 w_23 md_e8f65d ⟨Nat.le_of_ble_eq_true rfl, Nat.le_of_ble_eq_true rfl⟩ hG hZ hP hD hS hA rfl hl.1 rfl (Nat.le_of_ble_eq_true rfl) d_2_7_24 ⟨Nat.le_of_ble_eq_true rfl, Nat.le_of_ble_eq_true rfl⟩ (fun _ H locs hP hD hS => ?_)
    have hP : va_P z.1 classes (wv z ad E M100) H := hP
    have hD : va_D A (wv z ad E M100) := hD
    refine W.eq (g2 := F0 m 27 ls []) rfl ?_
    obtain rfl := in1 h
    exact W.vret hx hb hr (fun t ht hW => qkA hP hD hS (fun k => k) rfl rfl ht) hS.2.2 d_2_7_27
  exact key _ _ _ hts hP hS
set_option maxRecDepth 100000 in
set_option maxHeartbeats 4000000 in
theorem s_B_has (l : Launch) (z : Zz) (ad : Nat → Nat) (E : Ev) (M : Mm) (x0 : Int) (x1 : Int) (r : Int)  (hL : Lay E) (h : f_B_has E M x0 x1 = some r) : CT l z ⟨"Ballothall", "has", "(II)Z"⟩ prog_1_method_55_code 2 (some .boolean) [.int (oI x0), .int (oI x1)] (wv z ad E M) 0 20 0 0 (fun _ => some (.int (oI r))) (fun _ => (wv z ad E M)) := by
  refine CT.of (own := "Ballothall") (by decide +kernel) (Nat.le_of_ble_eq_true rfl) rfl (fun p e s m below meth c A ls hx hb hml hr hts hown hlocks hin hA hG hZ hP hD hS hl => ?_)
  have hl : lv_has ls 2 [(0, .int (oI x0)), (1, .int (oI x1))] := hl
  have key : ∀ (H : Heap) (locs : List Loc) (args : Array Value), (∀ w ∈ WG, w.before args s = true) → va_P z.1 classes (wv z ad E M) H → va_S A s.heap H locs → W p l e (rmK 0 20 0 0) s m args below meth c H locs 0 0 (MQ below (QK z A (fun _ => some (.int (oI r))) (fun _ => (wv z ad E M))) args s 0 0 A) (F0 m 0 ls []) := by
    intro H locs args hts hP hS
    unfold f_B_has at h
    refine lv_iload_n hx hb d_1_55_0 rfl (lv_at hl 0 rfl) ?_
    refine lv_iload_n hx hb d_1_55_1 rfl (lv_at hl 1 rfl) ?_
    obtain ⟨ok100, h⟩ := ck_e h
    obtain ⟨ok101, h⟩ := ck_e h
    refine lv_ishr hx hb d_1_55_2 ?_
    refine nrm (oI_shr (a := x0) ok100 ok101.1 ok101.2) ?_
    refine lv_iconst (v := oI 1) hx hb d_1_55_3 (by decide +kernel) ?_
    refine lv_iand hx hb d_1_55_4 ?_
    refine nrm (oI_m1 _) ?_
    refine lv_if_eq (tgt := 12) hx hb d_1_55_5 (by decide) (fun c9 => ?_) (fun c9 => ?_)
    · have h := ite_t ((oI_eq0 ⟨by omega, by omega⟩).mp c9) h
      refine lv_iconst (v := oI 0) hx hb d_1_55_12 (by decide +kernel) ?_
      obtain rfl := in1 h
      exact W.zret hx hb hr rfl (fun t ht hW => qkA hP hD hS (fun k => k) rfl rfl ht) hS.2.2 d_1_55_13
    · have h := ite_f (fun q => c9 ((oI_eq0 ⟨by omega, by omega⟩).mpr q)) h
      refine lv_iconst (v := oI 1) hx hb d_1_55_8 (by decide +kernel) ?_
      refine lv_goto (tgt := 13) hx hb d_1_55_9 (by decide) ?_
      obtain rfl := in1 h
      exact W.zret hx hb hr rfl (fun t ht hW => qkA hP hD hS (fun k => k) rfl rfl ht) hS.2.2 d_1_55_13
  exact key _ _ _ hts hP hS
set_option maxRecDepth 100000 in
set_option maxHeartbeats 4000000 in
theorem b_Bx_rankOnTrial_j27 (l : Launch) (z : Zz) (ad : Nat → Nat) (E : Ev) (M : Mm) (x1 : Int) (N : Mm) {p : Program} {e : Env} {s : State} {m : MethodId} {below : List Frame} {meth : Method} {c : Code} {A : Nat → Prop} {args : Array Value} (hx : p.tables.exec = Jvm.exec) (hb : c.code = prog_2_method_8_code) (hml : c.maxLocals = 4) (hts : ∀ w ∈ WG, w.before args s = true) (hown : s.vm.findClass "Ballothall$BallotBox" = some m.cls) (hlocks : meth.locks = false) (hA : ∀ q, s.heap.size ≤ q → A q) (hG : KG z s) (hZ : FZ z A s) (hL : Lay E) (hr : meth.sig.returnType = none) (h : Bx_rankOnTrial_j27 E M x1 = some N) : ∀ (H : Heap) (locs : List Loc) (ls : Array Slot), va_P z.1 classes (wv z ad E M) H → va_D A (wv z ad E M) → va_S A s.heap H locs → lv_has ls 4 [(0, .ref (ad 2)), (1, .int (oI x1))] → W p l e (rmK 1 40 0 0) s m args below meth c H locs 0 0 (MQ below (QK z A (fun _ => none) (fun _ => (wv z ad E N))) args s 0 0 A) (F0 m 27 ls []) := by
  intro H locs ls hP hD hS hl
  unfold Bx_rankOnTrial_j27 at h
  refine lv_aload_n hx hb d_2_8_27 rfl (lv_at hl 0 rfl) ?_
  refine m_gr (j := 7) (C := "Ballothall$BallotBox") (T := TX0) (N := 10) (ci := 0) (k := 7) hx hb hts iX0 hown hG hP (yi_2 hL) (yt_2 hL) rfl (by decide) w_72 (fun _ h9 => h9) rfl rfl (yr_2_7 hL) d_2_8_28 ?_
  refine lv_bipush (v := oI 30) hx hb d_2_8_31 (by decide +kernel) ?_
  refine m_ia hx hb hG hP (yi_7 hL) (yt_7 hL) (by decide +kernel) d_2_8_33 ?_
  refine nrm (x1 := oI (M 7 30)) rfl ?_
  refine lv_iconst (v := oI 1) hx hb d_2_8_34 (by decide +kernel) ?_
  refine lv_isub hx hb d_2_8_35 ?_
  refine nrm (oI_sub _ _) ?_
  refine lv_iconst (v := oI 0) hx hb d_2_8_36 (by decide +kernel) ?_
  obtain ⟨ok101, h⟩ := ck_e h
  refine va_mmax hx hb (by rw [hml]; exact hl.1.symm) hown (hts _ w_1036) (hts _ w_632) (hts _ w_17) (hts _ w_max) (Nat.le_of_ble_eq_true rfl) (Nat.le_of_ble_eq_true rfl) (Nat.le_of_ble_eq_true rfl) (Nat.le_of_ble_eq_true rfl) d_2_8_37 ?_
  refine nrm (mx_oI (a := ((M 7 30) - 1)) (b := (0 : Int)) ok101 (by decide)) ?_
  refine lv_istore_n (lv' := [(3, .int (oI (max ((M 7 30) - 1) 0))), (0, .ref (ad 2)), (1, .int (oI x1))]) hx hb d_2_8_40 rfl hl (by decide) rfl (fun ls hl => ?_)
  refine lv_aload_n hx hb d_2_8_41 rfl (lv_at hl 1 rfl) ?_
  refine m_gr (j := 8) (C := "Ballothall$BallotBox") (T := TX0) (N := 10) (ci := 0) (k := 8) hx hb hts iX0 hown hG hP (yi_2 hL) (yt_2 hL) rfl (by decide) w_74 (fun _ h9 => h9) rfl rfl (yr_2_8 hL) d_2_8_42 ?_
  refine lv_bipush (v := oI 30) hx hb d_2_8_45 (by decide +kernel) ?_
  refine m_ar (k := 39) hx hb hG hP (yi_8 hL) (yt_8 hL) (by decide +kernel) ((ya_8 hL (by decide +kernel)).trans (by decide +kernel)) d_2_8_47 ?_
  refine lv_iload_n hx hb d_2_8_48 rfl (lv_at hl 0 rfl) ?_
  refine lv_dup2_11 hx hb d_2_8_49 rfl rfl ?_
  obtain ⟨ok102, h⟩ := ck_e h
  refine m_ia hx hb hG hP (yi_39 hL) (yt_39 hL) ok102 d_2_8_50 ?_
  refine lv_iconst (v := oI 1) hx hb d_2_8_51 (by decide +kernel) ?_
  refine lv_iload_n hx hb d_2_8_52 rfl (lv_at hl 2 rfl) ?_
  obtain ⟨ok103, h⟩ := ck_e h
  refine lv_ishl hx hb d_2_8_53 ?_
  refine nrm (oI_one_shl ok103) ?_
  obtain ⟨ok104, h⟩ := ck_e h
  obtain ⟨ok105, h⟩ := ck_e h
  refine lv_ior hx hb d_2_8_54 ?_
  refine nrm (oI_or (a := (M 39 (max ((M 7 30) - 1) 0).toNat)) (b := (2 ^ x1.toNat)) ok104.1 ok104.2 ok105.1 ok105.2) ?_
  obtain ⟨v106, e106, h⟩ := nb_e h
  refine nrm (congrArg oI e106.symm) ?_
  refine m_is hx hb hG hP hD hS (yi_39 hL) (yt_39 hL) ok102 d_2_8_55 (fun H locs hP hD hS => ?_)
  have hP : va_P z.1 classes (wv z ad E (u2 M 39 (max ((M 7 30) - 1) 0).toNat v106)) H := hP
  have hD : va_D A (wv z ad E (u2 M 39 (max ((M 7 30) - 1) 0).toNat v106)) := hD
  obtain rfl := in1 h
  exact W.vret hx hb hr (fun t ht hW => qkA hP hD hS (fun k => k) rfl rfl ht) hS.2.2 d_2_8_56
set_option maxRecDepth 100000 in
set_option maxHeartbeats 4000000 in
theorem s_Bx_rankOnTrial (l : Launch) (z : Zz) (ad : Nat → Nat) (E : Ev) (M : Mm) (x1 : Int) (x2 : Int) (N : Mm) (hL : Lay E) (h : f_Bx_rankOnTrial E M x1 x2 = some N) : CT l z ⟨"Ballothall$BallotBox", "rankOnTrial", "(IZ)V"⟩ prog_2_method_8_code 4 none [.ref (ad 2), .int (oI x1), .int (oI x2)] (wv z ad E M) 1 40 0 0 (fun _ => none) (fun _ => (wv z ad E N)) := by
  refine CT.of (own := "Ballothall$BallotBox") (by decide +kernel) (Nat.le_of_ble_eq_true rfl) rfl (fun p e s m below meth c A ls hx hb hml hr hts hown hlocks hin hA hG hZ hP hD hS hl => ?_)
  have hl : lv_has ls 4 [(0, .ref (ad 2)), (1, .int (oI x1)), (2, .int (oI x2))] := hl
  have key : ∀ (H : Heap) (locs : List Loc) (args : Array Value), (∀ w ∈ WG, w.before args s = true) → va_P z.1 classes (wv z ad E M) H → va_S A s.heap H locs → W p l e (rmK 1 40 0 0) s m args below meth c H locs 0 0 (MQ below (QK z A (fun _ => none) (fun _ => (wv z ad E N))) args s 0 0 A) (F0 m 0 ls []) := by
    intro H locs args hts hP hS
    unfold f_Bx_rankOnTrial at h
    refine lv_iload_n hx hb d_2_8_0 rfl (lv_at hl 2 rfl) ?_
    obtain ⟨ok100, h⟩ := ck_e h
    refine lv_if_eq (tgt := 27) hx hb d_2_8_1 (by decide) (fun c9 => ?_) (fun c9 => ?_)
    · have h := ite_t ((oI_eq0 ok100).mp c9) h
      exact b_Bx_rankOnTrial_j27 l z ad E M x1 N hx hb hml hts hown hlocks hA hG hZ hL hr h H locs ls hP hD hS (lv_sub hl [0, 1] rfl)
    · have h := ite_f (fun q => c9 ((oI_eq0 ok100).mpr q)) h
      refine lv_aload_n hx hb d_2_8_4 rfl (lv_at hl 0 rfl) ?_
      refine m_gr (j := 7) (C := "Ballothall$BallotBox") (T := TX0) (N := 10) (ci := 0) (k := 7) hx hb hts iX0 hown hG hP (yi_2 hL) (yt_2 hL) rfl (by decide) w_72 (fun _ h9 => h9) rfl rfl (yr_2_7 hL) d_2_8_5 ?_
      refine lv_bipush (v := oI 30) hx hb d_2_8_8 (by decide +kernel) ?_
      refine m_ia hx hb hG hP (yi_7 hL) (yt_7 hL) (by decide +kernel) d_2_8_10 ?_
      refine nrm (x1 := oI (M 7 30)) rfl ?_
      refine lv_bipush (v := oI 8) hx hb d_2_8_11 (by decide +kernel) ?_
      obtain ⟨ok107, h⟩ := ck_e h
      refine lv_icmp_ge (tgt := 27) hx hb d_2_8_13 (by decide) (fun c9 => ?_) (fun c9 => ?_)
      · have h := ite_t ((oI_le (a := (8 : Int)) (b := (M 7 30)) (by decide) ok107).mp c9) h
        exact b_Bx_rankOnTrial_j27 l z ad E M x1 N hx hb hml hts hown hlocks hA hG hZ hL hr h H locs ls hP hD hS (lv_sub hl [0, 1] rfl)
      · have h := ite_f (fun q => c9 ((oI_le (a := (8 : Int)) (b := (M 7 30)) (by decide) ok107).mpr q)) h
        refine lv_aload_n hx hb d_2_8_16 rfl (lv_at hl 0 rfl) ?_
        refine m_gr (j := 7) (C := "Ballothall$BallotBox") (T := TX0) (N := 10) (ci := 0) (k := 7) hx hb hts iX0 hown hG hP (yi_2 hL) (yt_2 hL) rfl (by decide) w_72 (fun _ h9 => h9) rfl rfl (yr_2_7 hL) d_2_8_17 ?_
        refine lv_bipush (v := oI 30) hx hb d_2_8_20 (by decide +kernel) ?_
        refine lv_dup2_11 hx hb d_2_8_22 rfl rfl ?_
        refine m_ia hx hb hG hP (yi_7 hL) (yt_7 hL) (by decide +kernel) d_2_8_23 ?_
        refine nrm (x1 := oI (M 7 30)) rfl ?_
        refine lv_iconst (v := oI 1) hx hb d_2_8_24 (by decide +kernel) ?_
        refine lv_iadd hx hb d_2_8_25 ?_
        refine nrm (oI_add _ _) ?_
        refine m_is hx hb hG hP hD hS (yi_7 hL) (yt_7 hL) (by decide +kernel) d_2_8_26 (fun H locs hP hD hS => ?_)
        have hP : va_P z.1 classes (wv z ad E (u2 M 7 30 ((M 7 30) + 1))) H := hP
        have hD : va_D A (wv z ad E (u2 M 7 30 ((M 7 30) + 1))) := hD
        exact b_Bx_rankOnTrial_j27 l z ad E (u2 M 7 30 ((M 7 30) + 1)) x1 N hx hb hml hts hown hlocks hA hG hZ hL hr h H locs ls hP hD hS (lv_sub hl [0, 1] rfl)
  exact key _ _ _ hts hP hS
set_option maxRecDepth 100000 in
set_option maxHeartbeats 4000000 in
theorem b_Bx_readTrial_j146 (l : Launch) (z : Zz) (ad : Nat → Nat) (E : Ev) (M : Mm) (x1 : Int) (x2 : Int) (x4 : Int) (x5 : Int) (y0 : Int) (t : Nat) (w1 : Int) (w2 : Int) (w3 : Int) (w4 : Int) (w5 : Int) (N : Mm) {Q : State → Prop} {p : Program} {e : Env} {s : State} {m : MethodId} {below : List Frame} {meth : Method} {c : Code} {A : Nat → Prop} {args : Array Value} (hx : p.tables.exec = Jvm.exec) (hb : c.code = prog_2_method_6_code) (hml : c.maxLocals = 8) (hts : ∀ w ∈ WG, w.before args s = true) (hown : s.vm.findClass "Ballothall$BallotBox" = some m.cls) (hlocks : meth.locks = false) (hA : ∀ q, s.heap.size ≤ q → A q) (hG : KG z s) (hZ : FZ z A s) (hL : Lay E) (h : Bx_readTrial_j146 E M x1 x2 x4 x5 y0 = some (t, w1, w2, w3, w4, w5, N)) (k0 : t = 0 → ∀ (H : Heap) (locs : List Loc) (ls : Array Slot), va_P z.1 classes (wv z ad E N) H → va_D A (wv z ad E N) → va_S A s.heap H locs → lv_has ls 8 [(0, .ref (ad 2)), (1, .int (oI w1)), (2, .int (oI w2)), (3, .int (oI w3)), (4, .int (oI w4)), (5, .int (oI w5))] → W p l e (rmK 2 63 0 0) s m args below meth c H locs 0 0 Q (F0 m 27 ls [])) (k1 : t = 1 → ∀ (H : Heap) (locs : List Loc) (ls : Array Slot), va_P z.1 classes (wv z ad E N) H → va_D A (wv z ad E N) → va_S A s.heap H locs → lv_has ls 8 [(5, .int (oI w5))] → W p l e (rmK 2 63 0 0) s m args below meth c H locs 0 0 Q (F0 m 80 ls [])) (k2 : t = 2 → ∀ (H : Heap) (locs : List Loc) (ls : Array Slot), va_P z.1 classes (wv z ad E N) H → va_D A (wv z ad E N) → va_S A s.heap H locs → lv_has ls 8 [(5, .int (oI w5))] → W p l e (rmK 2 63 0 0) s m args below meth c H locs 0 0 Q (F0 m 131 ls [])) (k3 : t = 3 → ∀ (H : Heap) (locs : List Loc) (ls : Array Slot), va_P z.1 classes (wv z ad E N) H → va_D A (wv z ad E N) → va_S A s.heap H locs → lv_has ls 8 [(0, .ref (ad 2)), (2, .int (oI w2)), (4, .int (oI w4))] → W p l e (rmK 2 63 0 0) s m args below meth c H locs 0 0 Q (F0 m 165 ls [])) : ∀ (H : Heap) (locs : List Loc) (ls : Array Slot), va_P z.1 classes (wv z ad E M) H → va_D A (wv z ad E M) → va_S A s.heap H locs → lv_has ls 8 [(0, .ref (ad 2)), (1, .int (oI x1)), (2, .int (oI x2)), (4, .int (oI x4)), (5, .int (oI x5))] → W p l e (rmK 2 63 0 0) s m args below meth c H locs 0 0 Q (F0 m 146 ls [.int (oI y0)]) := by
  intro H locs ls hP hD hS hl
  unfold Bx_readTrial_j146 at h
  refine lv_istore_n (lv' := [(3, .int (oI y0)), (0, .ref (ad 2)), (1, .int (oI x1)), (2, .int (oI x2)), (4, .int (oI x4)), (5, .int (oI x5))]) hx hb d_2_6_146 rfl hl (by decide) rfl (fun ls hl => ?_)
  refine lv_iload hx hb d_2_6_147 (lv_at hl 4 rfl) ?_
  obtain ⟨ok109, h⟩ := ck_e h
  refine lv_if_ne (tgt := 156) hx hb d_2_6_149 (by decide) (fun c9 => ?_) (fun c9 => ?_)
  · have h := ite_f (fun q => c9 ((oI_eq0 ok109).mpr q)) h
    refine lv_iconst (v := oI 0) hx hb d_2_6_156 (by decide +kernel) ?_
    refine lv_istore (lv' := [(4, .int (oI 0)), (3, .int (oI y0)), (0, .ref (ad 2)), (1, .int (oI x1)), (2, .int (oI x2)), (5, .int (oI x5))]) hx hb d_2_6_157 hl (by decide) rfl (fun ls hl => ?_)
    refine lv_iinc (v := oI (x5 + 1)) (lv' := [(5, .int (oI (x5 + 1))), (4, .int (oI 0)), (3, .int (oI y0)), (0, .ref (ad 2)), (1, .int (oI x1)), (2, .int (oI x2))]) hx hb d_2_6_159 hl (k := 5) rfl (oI_add x5 1) (by decide) rfl (fun ls hl => ?_)
    refine lv_goto (tgt := 27) hx hb d_2_6_162 (by decide) ?_
    obtain ⟨rfl, rfl, rfl, rfl, rfl, rfl, rfl⟩ := in7 h
    exact k0 rfl H locs ls hP hD hS (lv_sub hl [3, 4, 5, 2, 1, 0] rfl)
  · have h := ite_t ((oI_eq0 ok109).mp c9) h
    refine lv_iconst (v := oI 1) hx hb d_2_6_152 (by decide +kernel) ?_
    refine lv_goto (tgt := 157) hx hb d_2_6_153 (by decide) ?_
    refine lv_istore (lv' := [(4, .int (oI 1)), (3, .int (oI y0)), (0, .ref (ad 2)), (1, .int (oI x1)), (2, .int (oI x2)), (5, .int (oI x5))]) hx hb d_2_6_157 hl (by decide) rfl (fun ls hl => ?_)
    refine lv_iinc (v := oI (x5 + 1)) (lv' := [(5, .int (oI (x5 + 1))), (4, .int (oI 1)), (3, .int (oI y0)), (0, .ref (ad 2)), (1, .int (oI x1)), (2, .int (oI x2))]) hx hb d_2_6_159 hl (k := 5) rfl (oI_add x5 1) (by decide) rfl (fun ls hl => ?_)
    refine lv_goto (tgt := 27) hx hb d_2_6_162 (by decide) ?_
    obtain ⟨rfl, rfl, rfl, rfl, rfl, rfl, rfl⟩ := in7 h
    exact k0 rfl H locs ls hP hD hS (lv_sub hl [3, 4, 5, 2, 1, 0] rfl)
set_option maxRecDepth 100000 in
set_option maxHeartbeats 4000000 in
theorem b_Bx_readTrial_j134 (l : Launch) (z : Zz) (ad : Nat → Nat) (E : Ev) (M : Mm) (x1 : Int) (x2 : Int) (x4 : Int) (x5 : Int) (x6 : Int) (t : Nat) (w1 : Int) (w2 : Int) (w3 : Int) (w4 : Int) (w5 : Int) (N : Mm) {Q : State → Prop} {p : Program} {e : Env} {s : State} {m : MethodId} {below : List Frame} {meth : Method} {c : Code} {A : Nat → Prop} {args : Array Value} (hx : p.tables.exec = Jvm.exec) (hb : c.code = prog_2_method_6_code) (hml : c.maxLocals = 8) (hts : ∀ w ∈ WG, w.before args s = true) (hown : s.vm.findClass "Ballothall$BallotBox" = some m.cls) (hlocks : meth.locks = false) (hA : ∀ q, s.heap.size ≤ q → A q) (hG : KG z s) (hZ : FZ z A s) (hL : Lay E) (h : Bx_readTrial_j134 E M x1 x2 x4 x5 x6 = some (t, w1, w2, w3, w4, w5, N)) (k0 : t = 0 → ∀ (H : Heap) (locs : List Loc) (ls : Array Slot), va_P z.1 classes (wv z ad E N) H → va_D A (wv z ad E N) → va_S A s.heap H locs → lv_has ls 8 [(0, .ref (ad 2)), (1, .int (oI w1)), (2, .int (oI w2)), (3, .int (oI w3)), (4, .int (oI w4)), (5, .int (oI w5))] → W p l e (rmK 2 63 0 0) s m args below meth c H locs 0 0 Q (F0 m 27 ls [])) (k1 : t = 1 → ∀ (H : Heap) (locs : List Loc) (ls : Array Slot), va_P z.1 classes (wv z ad E N) H → va_D A (wv z ad E N) → va_S A s.heap H locs → lv_has ls 8 [(5, .int (oI w5))] → W p l e (rmK 2 63 0 0) s m args below meth c H locs 0 0 Q (F0 m 80 ls [])) (k2 : t = 2 → ∀ (H : Heap) (locs : List Loc) (ls : Array Slot), va_P z.1 classes (wv z ad E N) H → va_D A (wv z ad E N) → va_S A s.heap H locs → lv_has ls 8 [(5, .int (oI w5))] → W p l e (rmK 2 63 0 0) s m args below meth c H locs 0 0 Q (F0 m 131 ls [])) (k3 : t = 3 → ∀ (H : Heap) (locs : List Loc) (ls : Array Slot), va_P z.1 classes (wv z ad E N) H → va_D A (wv z ad E N) → va_S A s.heap H locs → lv_has ls 8 [(0, .ref (ad 2)), (2, .int (oI w2)), (4, .int (oI w4))] → W p l e (rmK 2 63 0 0) s m args below meth c H locs 0 0 Q (F0 m 165 ls [])) : ∀ (H : Heap) (locs : List Loc) (ls : Array Slot), va_P z.1 classes (wv z ad E M) H → va_D A (wv z ad E M) → va_S A s.heap H locs → lv_has ls 8 [(0, .ref (ad 2)), (1, .int (oI x1)), (2, .int (oI x2)), (4, .int (oI x4)), (5, .int (oI x5)), (6, .int (oI x6))] → W p l e (rmK 2 63 0 0) s m args below meth c H locs 0 0 Q (F0 m 134 ls []) := by
  intro H locs ls hP hD hS hl
  unfold Bx_readTrial_j134 at h
  refine lv_iload hx hb d_2_6_134 (lv_at hl 5 rfl) ?_
  refine lv_bipush (v := oI 61) hx hb d_2_6_136 (by decide +kernel) ?_
  obtain ⟨ok108, h⟩ := ck_e h
  refine lv_icmp_eq (tgt := 145) hx hb d_2_6_138 (by decide) (fun c9 => ?_) (fun c9 => ?_)
  · have h := ite_t ((oI_eq (a := x6) (b := (61 : Int)) ok108 (by decide)).mp c9) h
    refine lv_iconst (v := oI 0) hx hb d_2_6_145 (by decide +kernel) ?_
    exact b_Bx_readTrial_j146 l z ad E M x1 x2 x4 x5 0 t w1 w2 w3 w4 w5 N hx hb hml hts hown hlocks hA hG hZ hL h k0 k1 k2 k3 H locs ls hP hD hS (lv_sub hl [0, 1, 2, 3, 4] rfl)
  · have h := ite_f (fun q => c9 ((oI_eq (a := x6) (b := (61 : Int)) ok108 (by decide)).mpr q)) h
    refine lv_iconst (v := oI 1) hx hb d_2_6_141 (by decide +kernel) ?_
    refine lv_goto (tgt := 146) hx hb d_2_6_142 (by decide) ?_
    exact b_Bx_readTrial_j146 l z ad E M x1 x2 x4 x5 1 t w1 w2 w3 w4 w5 N hx hb hml hts hown hlocks hA hG hZ hL h k0 k1 k2 k3 H locs ls hP hD hS (lv_sub hl [0, 1, 2, 3, 4] rfl)
set_option maxRecDepth 100000 in
set_option maxHeartbeats 4000000 in
theorem b_Bx_readTrial_j117 (l : Launch) (z : Zz) (ad : Nat → Nat) (E : Ev) (M : Mm) (x1 : Int) (x2 : Int) (x4 : Int) (x5 : Int) (x6 : Int) (t : Nat) (w1 : Int) (w2 : Int) (w3 : Int) (w4 : Int) (w5 : Int) (N : Mm) {Q : State → Prop} {p : Program} {e : Env} {s : State} {m : MethodId} {below : List Frame} {meth : Method} {c : Code} {A : Nat → Prop} {args : Array Value} (hx : p.tables.exec = Jvm.exec) (hb : c.code = prog_2_method_6_code) (hml : c.maxLocals = 8) (hts : ∀ w ∈ WG, w.before args s = true) (hown : s.vm.findClass "Ballothall$BallotBox" = some m.cls) (hlocks : meth.locks = false) (hA : ∀ q, s.heap.size ≤ q → A q) (hG : KG z s) (hZ : FZ z A s) (hL : Lay E) (h : Bx_readTrial_j117 E M x1 x2 x4 x5 x6 = some (t, w1, w2, w3, w4, w5, N)) (k0 : t = 0 → ∀ (H : Heap) (locs : List Loc) (ls : Array Slot), va_P z.1 classes (wv z ad E N) H → va_D A (wv z ad E N) → va_S A s.heap H locs → lv_has ls 8 [(0, .ref (ad 2)), (1, .int (oI w1)), (2, .int (oI w2)), (3, .int (oI w3)), (4, .int (oI w4)), (5, .int (oI w5))] → W p l e (rmK 2 63 0 0) s m args below meth c H locs 0 0 Q (F0 m 27 ls [])) (k1 : t = 1 → ∀ (H : Heap) (locs : List Loc) (ls : Array Slot), va_P z.1 classes (wv z ad E N) H → va_D A (wv z ad E N) → va_S A s.heap H locs → lv_has ls 8 [(5, .int (oI w5))] → W p l e (rmK 2 63 0 0) s m args below meth c H locs 0 0 Q (F0 m 80 ls [])) (k2 : t = 2 → ∀ (H : Heap) (locs : List Loc) (ls : Array Slot), va_P z.1 classes (wv z ad E N) H → va_D A (wv z ad E N) → va_S A s.heap H locs → lv_has ls 8 [(5, .int (oI w5))] → W p l e (rmK 2 63 0 0) s m args below meth c H locs 0 0 Q (F0 m 131 ls [])) (k3 : t = 3 → ∀ (H : Heap) (locs : List Loc) (ls : Array Slot), va_P z.1 classes (wv z ad E N) H → va_D A (wv z ad E N) → va_S A s.heap H locs → lv_has ls 8 [(0, .ref (ad 2)), (2, .int (oI w2)), (4, .int (oI w4))] → W p l e (rmK 2 63 0 0) s m args below meth c H locs 0 0 Q (F0 m 165 ls [])) : ∀ (H : Heap) (locs : List Loc) (ls : Array Slot), va_P z.1 classes (wv z ad E M) H → va_D A (wv z ad E M) → va_S A s.heap H locs → lv_has ls 8 [(0, .ref (ad 2)), (1, .int (oI x1)), (2, .int (oI x2)), (4, .int (oI x4)), (5, .int (oI x5)), (6, .int (oI x6))] → W p l e (rmK 2 63 0 0) s m args below meth c H locs 0 0 Q (F0 m 117 ls []) := by
  intro H locs ls hP hD hS hl
  unfold Bx_readTrial_j117 at h
  refine lv_iload hx hb d_2_6_117 (lv_at hl 5 rfl) ?_
  refine lv_bipush (v := oI 62) hx hb d_2_6_119 (by decide +kernel) ?_
  obtain ⟨ok107, h⟩ := ck_e h
  refine lv_icmp_eq (tgt := 134) hx hb d_2_6_121 (by decide) (fun c9 => ?_) (fun c9 => ?_)
  · have h := ite_t ((oI_eq (a := x6) (b := (62 : Int)) ok107 (by decide)).mp c9) h
    exact b_Bx_readTrial_j134 l z ad E M x1 x2 x4 x5 x6 t w1 w2 w3 w4 w5 N hx hb hml hts hown hlocks hA hG hZ hL h k0 k1 k2 k3 H locs ls hP hD hS (lv_sub hl [0, 1, 2, 3, 4, 5] rfl)
  · have h := ite_f (fun q => c9 ((oI_eq (a := x6) (b := (62 : Int)) ok107 (by decide)).mpr q)) h
    refine lv_iload hx hb d_2_6_124 (lv_at hl 5 rfl) ?_
    refine lv_bipush (v := oI 61) hx hb d_2_6_126 (by decide +kernel) ?_
    refine lv_icmp_eq (tgt := 134) hx hb d_2_6_128 (by decide) (fun c9 => ?_) (fun c9 => ?_)
    · have h := ite_t ((oI_eq (a := x6) (b := (61 : Int)) ok107 (by decide)).mp c9) h
      exact b_Bx_readTrial_j134 l z ad E M x1 x2 x4 x5 x6 t w1 w2 w3 w4 w5 N hx hb hml hts hown hlocks hA hG hZ hL h k0 k1 k2 k3 H locs ls hP hD hS (lv_sub hl [0, 1, 2, 3, 4, 5] rfl)
    · have h := ite_f (fun q => c9 ((oI_eq (a := x6) (b := (61 : Int)) ok107 (by decide)).mpr q)) h
      obtain ⟨rfl, rfl, rfl, rfl, rfl, rfl, rfl⟩ := in7 h
      exact k2 rfl H locs ls hP hD hS (lv_sub hl [4] rfl)
set_option maxRecDepth 100000 in
set_option maxHeartbeats 4000000 in
theorem b_Bx_readTrial_27b (l : Launch) (z : Zz) (ad : Nat → Nat) (E : Ev) (M : Mm) (x1 : Int) (x2 : Int) (x3 : Int) (x4 : Int) (x5 : Int) (t : Nat) (w1 : Int) (w2 : Int) (w3 : Int) (w4 : Int) (w5 : Int) (N : Mm) {Q : State → Prop} {p : Program} {e : Env} {s : State} {m : MethodId} {below : List Frame} {meth : Method} {c : Code} {A : Nat → Prop} {args : Array Value} (hx : p.tables.exec = Jvm.exec) (hb : c.code = prog_2_method_6_code) (hml : c.maxLocals = 8) (hts : ∀ w ∈ WG, w.before args s = true) (hown : s.vm.findClass "Ballothall$BallotBox" = some m.cls) (hlocks : meth.locks = false) (hA : ∀ q, s.heap.size ≤ q → A q) (hG : KG z s) (hZ : FZ z A s) (hL : Lay E) (h : Bx_readTrial_27b E M x1 x2 x3 x4 x5 = some (t, w1, w2, w3, w4, w5, N)) (k0 : t = 0 → ∀ (H : Heap) (locs : List Loc) (ls : Array Slot), va_P z.1 classes (wv z ad E N) H → va_D A (wv z ad E N) → va_S A s.heap H locs → lv_has ls 8 [(0, .ref (ad 2)), (1, .int (oI w1)), (2, .int (oI w2)), (3, .int (oI w3)), (4, .int (oI w4)), (5, .int (oI w5))] → W p l e (rmK 2 63 0 0) s m args below meth c H locs 0 0 Q (F0 m 27 ls [])) (k1 : t = 1 → ∀ (H : Heap) (locs : List Loc) (ls : Array Slot), va_P z.1 classes (wv z ad E N) H → va_D A (wv z ad E N) → va_S A s.heap H locs → lv_has ls 8 [(5, .int (oI w5))] → W p l e (rmK 2 63 0 0) s m args below meth c H locs 0 0 Q (F0 m 80 ls [])) (k2 : t = 2 → ∀ (H : Heap) (locs : List Loc) (ls : Array Slot), va_P z.1 classes (wv z ad E N) H → va_D A (wv z ad E N) → va_S A s.heap H locs → lv_has ls 8 [(5, .int (oI w5))] → W p l e (rmK 2 63 0 0) s m args below meth c H locs 0 0 Q (F0 m 131 ls [])) (k3 : t = 3 → ∀ (H : Heap) (locs : List Loc) (ls : Array Slot), va_P z.1 classes (wv z ad E N) H → va_D A (wv z ad E N) → va_S A s.heap H locs → lv_has ls 8 [(0, .ref (ad 2)), (2, .int (oI w2)), (4, .int (oI w4))] → W p l e (rmK 2 63 0 0) s m args below meth c H locs 0 0 Q (F0 m 165 ls [])) : ∀ (H : Heap) (locs : List Loc) (ls : Array Slot), va_P z.1 classes (wv z ad E M) H → va_D A (wv z ad E M) → va_S A s.heap H locs → lv_has ls 8 [(0, .ref (ad 2)), (1, .int (oI x1)), (2, .int (oI x2)), (3, .int (oI x3)), (4, .int (oI x4)), (5, .int (oI x5))] → W p l e (rmK 2 63 0 0) s m args below meth c H locs 0 0 Q (F0 m 27 ls []) := by
  intro H locs ls hP hD hS hl
  unfold Bx_readTrial_27b at h
  refine lv_iload hx hb d_2_6_27 (lv_at hl 5 rfl) ?_
  refine lv_aload_n hx hb d_2_6_29 rfl (lv_at hl 0 rfl) ?_
  refine m_gi (C := "Ballothall$BallotBox") (T := TX0) (N := 10) (ci := 0) (k := 1) hx hb hts iX0 hown hG hP (yi_2 hL) (yt_2 hL) rfl (by decide) w_50 (fun _ h9 => h9) rfl rfl d_2_6_30 ?_
  obtain ⟨ok102, h⟩ := ck_e h
  obtain ⟨ok103, h⟩ := ck_e h
  refine lv_icmp_ge (tgt := 165) hx hb d_2_6_33 (by decide) (fun c9 => ?_) (fun c9 => ?_)
  · have h := ite_t ((oI_le (a := (M 2 1)) (b := x5) ok103 ok102).mp c9) h
    obtain ⟨rfl, rfl, rfl, rfl, rfl, rfl, rfl⟩ := in7 h
    exact k3 rfl H locs ls hP hD hS (lv_sub hl [0, 2, 4] rfl)
  · have h := ite_f (fun q => c9 ((oI_le (a := (M 2 1)) (b := x5) ok103 ok102).mpr q)) h
    refine lv_aload_n hx hb d_2_6_36 rfl (lv_at hl 0 rfl) ?_
    refine m_gr (j := 3) (C := "Ballothall$BallotBox") (T := TX0) (N := 10) (ci := 0) (k := 0) hx hb hts iX0 hown hG hP (yi_2 hL) (yt_2 hL) rfl (by decide) w_48 (fun _ h9 => h9) rfl rfl (yr_2_0 hL) d_2_6_37 ?_
    refine lv_iload hx hb d_2_6_40 (lv_at hl 5 rfl) ?_
    obtain ⟨ok104, h⟩ := ck_e h
    refine m_ia hx hb hG hP (yi_3 hL) (yt_3 hL) ok104 d_2_6_42 ?_
    refine lv_istore (lv' := [(6, .int (oI (M 3 x5.toNat))), (0, .ref (ad 2)), (1, .int (oI x1)), (2, .int (oI x2)), (3, .int (oI x3)), (4, .int (oI x4)), (5, .int (oI x5))]) hx hb d_2_6_43 hl (by decide) rfl (fun ls hl => ?_)
    refine lv_iload hx hb d_2_6_45 (lv_at hl 5 rfl) ?_
    obtain ⟨ok105, h⟩ := ck_e h
    refine lv_if_eq (tgt := 100) hx hb d_2_6_47 (by decide) (fun c9 => ?_) (fun c9 => ?_)
    · have h := ite_t ((oI_eq0 ok105).mp c9) h
      refine lv_iload hx hb d_2_6_100 (lv_at hl 0 rfl) ?_
      refine lv_bipush (v := oI 124) hx hb d_2_6_102 (by decide +kernel) ?_
      obtain ⟨ok106, h⟩ := ck_e h
      refine lv_icmp_ne (tgt := 117) hx hb d_2_6_104 (by decide) (fun c9 => ?_) (fun c9 => ?_)
      · have h := ite_f (fun q => c9 ((oI_eq (a := (M 3 x5.toNat)) (b := (124 : Int)) ok106 (by decide)).mpr q)) h
        exact b_Bx_readTrial_j117 l z ad E M x1 x2 x4 x5 (M 3 x5.toNat) t w1 w2 w3 w4 w5 N hx hb hml hts hown hlocks hA hG hZ hL h k0 k1 k2 k3 H locs ls hP hD hS (lv_sub hl [1, 2, 3, 5, 6, 0] rfl)
      · have h := ite_t ((oI_eq (a := (M 3 x5.toNat)) (b := (124 : Int)) ok106 (by decide)).mp c9) h
        refine lv_iload_n hx hb d_2_6_107 rfl (lv_at hl 3 rfl) ?_
        refine lv_iconst (v := oI (-1)) hx hb d_2_6_108 (by decide +kernel) ?_
        obtain ⟨ok110, h⟩ := ck_e h
        refine lv_icmp_ne (tgt := 117) hx hb d_2_6_109 (by decide) (fun c9 => ?_) (fun c9 => ?_)
        · have h := ite_f (fun q => c9 ((oI_eq (a := x2) (b := (-1 : Int)) ok110 (by decide)).mpr q)) h
          exact b_Bx_readTrial_j117 l z ad E M x1 x2 x4 x5 (M 3 x5.toNat) t w1 w2 w3 w4 w5 N hx hb hml hts hown hlocks hA hG hZ hL h k0 k1 k2 k3 H locs ls hP hD hS (lv_sub hl [1, 2, 3, 5, 6, 0] rfl)
        · have h := ite_t ((oI_eq (a := x2) (b := (-1 : Int)) ok110 (by decide)).mp c9) h
          refine lv_iload_n hx hb d_2_6_112 rfl (lv_at hl 2 rfl) ?_
          refine lv_istore_n (lv' := [(2, .int (oI x1)), (6, .int (oI (M 3 x5.toNat))), (0, .ref (ad 2)), (1, .int (oI x1)), (3, .int (oI x3)), (4, .int (oI x4)), (5, .int (oI x5))]) hx hb d_2_6_113 rfl hl (by decide) rfl (fun ls hl => ?_)
          refine lv_goto (tgt := 134) hx hb d_2_6_114 (by decide) ?_
          exact b_Bx_readTrial_j134 l z ad E M x1 x1 x4 x5 (M 3 x5.toNat) t w1 w2 w3 w4 w5 N hx hb hml hts hown hlocks hA hG hZ hL h k0 k1 k2 k3 H locs ls hP hD hS (lv_sub hl [2, 3, 0, 5, 6, 1] rfl)
    · have h := ite_f (fun q => c9 ((oI_eq0 ok105).mpr q)) h
      refine lv_iload hx hb d_2_6_50 (lv_at hl 0 rfl) ?_
      refine lv_bipush (v := oI 65) hx hb d_2_6_52 (by decide +kernel) ?_
      refine lv_isub hx hb d_2_6_54 ?_
      refine nrm (oI_sub _ _) ?_
      refine lv_istore (lv' := [(7, .int (oI ((M 3 x5.toNat) - 65))), (6, .int (oI (M 3 x5.toNat))), (0, .ref (ad 2)), (1, .int (oI x1)), (2, .int (oI x2)), (3, .int (oI x3)), (4, .int (oI x4)), (5, .int (oI x5))]) hx hb d_2_6_55 hl (by decide) rfl (fun ls hl => ?_)
      refine lv_iload hx hb d_2_6_57 (lv_at hl 0 rfl) ?_
      obtain ⟨ok111, h⟩ := ck_e h
      refine lv_if_lt (tgt := 80) hx hb d_2_6_59 (by decide) (fun c9 => ?_) (fun c9 => ?_)
      · have h := ite_t ((oI_lt0 ok111).mp c9) h
        obtain ⟨rfl, rfl, rfl, rfl, rfl, rfl, rfl⟩ := in7 h
        exact k1 rfl H locs ls hP hD hS (lv_sub hl [7] rfl)
      · have h := ite_f (fun q => c9 ((oI_lt0 ok111).mpr q)) h
        refine lv_iload hx hb d_2_6_62 (lv_at hl 0 rfl) ?_
        refine lv_aload_n hx hb d_2_6_64 rfl (lv_at hl 2 rfl) ?_
        refine m_gi (C := "Ballothall$BallotBox") (T := TX0) (N := 10) (ci := 0) (k := 2) hx hb hts iX0 hown hG hP (yi_2 hL) (yt_2 hL) rfl (by decide) w_51 (fun _ h9 => h9) rfl rfl d_2_6_65 ?_
        obtain ⟨ok112, h⟩ := ck_e h
        refine lv_icmp_ge (tgt := 80) hx hb d_2_6_68 (by decide) (fun c9 => ?_) (fun c9 => ?_)
        · have h := ite_t ((oI_le (a := (M 2 2)) (b := ((M 3 x5.toNat) - 65)) ok112 ok111).mp c9) h
          obtain ⟨rfl, rfl, rfl, rfl, rfl, rfl, rfl⟩ := in7 h
          exact k1 rfl H locs ls hP hD hS (lv_sub hl [7] rfl)
        · have h := ite_f (fun q => c9 ((oI_le (a := (M 2 2)) (b := ((M 3 x5.toNat) - 65)) ok112 ok111).mpr q)) h
          refine lv_iload_n hx hb d_2_6_71 rfl (lv_at hl 3 rfl) ?_
          refine lv_iload hx hb d_2_6_72 (lv_at hl 0 rfl) ?_
          obtain ⟨r113, g113, h⟩ := bd_e h
          refine kSN (As := [.int (oI x1), .int (oI ((M 3 x5.toNat) - 65))]) (rest := []) (s_B_has l z ad E M x1 ((M 3 x5.toNat) - 65) r113 hL g113) hx hb hml hown hts w_693 n_1031 w_692 w_1 md_26545c ⟨Nat.le_of_ble_eq_true rfl, Nat.le_of_ble_eq_true rfl⟩ hG hZ hP hD hS hA rfl hl.1 rfl (Nat.le_of_ble_eq_true rfl) d_2_6_74 ⟨Nat.le_of_ble_eq_true rfl, Nat.le_of_ble_eq_true rfl⟩ (fun _ H locs hP hD hS => ?_)
          have hP : va_P z.1 classes (wv z ad E M) H := hP
          have hD : va_D A (wv z ad E M) := hD
          refine W.eq (g2 := F0 m 77 ls [.int (oI r113)]) rfl ?_
          obtain ⟨ok114, h⟩ := ck_e h
          refine lv_if_eq (tgt := 83) hx hb d_2_6_77 (by decide) (fun c9 => ?_) (fun c9 => ?_)
          · have h := ite_t ((oI_eq0 ok114).mp c9) h
            refine lv_iload_n hx hb d_2_6_83 rfl (lv_at hl 3 rfl) ?_
            refine lv_iconst (v := oI 1) hx hb d_2_6_84 (by decide +kernel) ?_
            refine lv_iload hx hb d_2_6_85 (lv_at hl 0 rfl) ?_
            obtain ⟨ok115, h⟩ := ck_e h
            refine lv_ishl hx hb d_2_6_87 ?_
            refine nrm (oI_one_shl ok115) ?_
            obtain ⟨ok116, h⟩ := ck_e h
            obtain ⟨ok117, h⟩ := ck_e h
            refine lv_ior hx hb d_2_6_88 ?_
            refine nrm (oI_or (a := x1) (b := (2 ^ ((M 3 x5.toNat) - 65).toNat)) ok116.1 ok116.2 ok117.1 ok117.2) ?_
            obtain ⟨v118, e118, h⟩ := nb_e h
            refine nrm (congrArg oI e118.symm) ?_
            refine lv_istore_n (lv' := [(1, .int (oI v118)), (7, .int (oI ((M 3 x5.toNat) - 65))), (6, .int (oI (M 3 x5.toNat))), (0, .ref (ad 2)), (2, .int (oI x2)), (3, .int (oI x3)), (4, .int (oI x4)), (5, .int (oI x5))]) hx hb d_2_6_89 rfl hl (by decide) rfl (fun ls hl => ?_)
            refine lv_aload_n hx hb d_2_6_90 rfl (lv_at hl 3 rfl) ?_
            refine lv_iload hx hb d_2_6_91 (lv_at hl 1 rfl) ?_
            refine lv_iload_n hx hb d_2_6_93 rfl (lv_at hl 5 rfl) ?_
            obtain ⟨M119, g119, h⟩ := bd_e h
            refine kV (As := [.int (oI ((M 3 x5.toNat) - 65)), .int (oI x3)]) (rest := []) (s_Bx_rankOnTrial l z ad E M ((M 3 x5.toNat) - 65) x3 M119 hL g119) hx hb hml hown hts w_1035 w_1032 w_1034 w_s_4aec52 w_2 md_7079fc ⟨Nat.le_of_ble_eq_true rfl, Nat.le_of_ble_eq_true rfl⟩ hG hZ hP hD hS hA 2 (wv_o (ci := 0) (yi_2 hL) (yt_2 hL)) rfl rfl rfl hl.1 rfl (Nat.le_of_ble_eq_true rfl) d_2_6_94 ⟨Nat.le_of_ble_eq_true rfl, Nat.le_of_ble_eq_true rfl⟩ (fun _ H locs hP hD hS => ?_)
            have hP : va_P z.1 classes (wv z ad E M119) H := hP
            have hD : va_D A (wv z ad E M119) := hD
            refine W.eq (g2 := F0 m 97 ls []) rfl ?_
            refine lv_goto (tgt := 134) hx hb d_2_6_97 (by decide) ?_
            exact b_Bx_readTrial_j134 l z ad E M119 v118 x2 x4 x5 (M 3 x5.toNat) t w1 w2 w3 w4 w5 N hx hb hml hts hown hlocks hA hG hZ hL h k0 k1 k2 k3 H locs ls hP hD hS (lv_sub hl [3, 0, 4, 6, 7, 2] rfl)
          · have h := ite_f (fun q => c9 ((oI_eq0 ok114).mpr q)) h
            obtain ⟨rfl, rfl, rfl, rfl, rfl, rfl, rfl⟩ := in7 h
            exact k1 rfl H locs ls hP hD hS (lv_sub hl [7] rfl)
set_option maxRecDepth 100000 in
set_option maxHeartbeats 4000000 in
theorem s_Bx_readTrial_27 (l : Launch) (z : Zz) (ad : Nat → Nat) (E : Ev) {Q : State → Prop} {p : Program} {e : Env} {s : State} {m : MethodId} {below : List Frame} {meth : Method} {c : Code} {A : Nat → Prop} {args : Array Value} (hx : p.tables.exec = Jvm.exec) (hb : c.code = prog_2_method_6_code) (hml : c.maxLocals = 8) (hts : ∀ w ∈ WG, w.before args s = true) (hown : s.vm.findClass "Ballothall$BallotBox" = some m.cls) (hlocks : meth.locks = false) (hA : ∀ q, s.heap.size ≤ q → A q) (hG : KG z s) (hZ : FZ z A s) (hL : Lay E) : ∀ (fu : Nat) (M : Mm) (x1 : Int) (x2 : Int) (x3 : Int) (x4 : Int) (x5 : Int) (t : Nat) (w1 : Int) (w2 : Int) (w3 : Int) (w4 : Int) (w5 : Int) (N : Mm), l_Bx_readTrial_27 E fu M x1 x2 x3 x4 x5 = some (t, w1, w2, w3, w4, w5, N) → (t = 1 → ∀ (H : Heap) (locs : List Loc) (ls : Array Slot), va_P z.1 classes (wv z ad E N) H → va_D A (wv z ad E N) → va_S A s.heap H locs → lv_has ls 8 [(5, .int (oI w5))] → W p l e (rmK 2 63 0 0) s m args below meth c H locs 0 0 Q (F0 m 80 ls [])) → (t = 2 → ∀ (H : Heap) (locs : List Loc) (ls : Array Slot), va_P z.1 classes (wv z ad E N) H → va_D A (wv z ad E N) → va_S A s.heap H locs → lv_has ls 8 [(5, .int (oI w5))] → W p l e (rmK 2 63 0 0) s m args below meth c H locs 0 0 Q (F0 m 131 ls [])) → (t = 3 → ∀ (H : Heap) (locs : List Loc) (ls : Array Slot), va_P z.1 classes (wv z ad E N) H → va_D A (wv z ad E N) → va_S A s.heap H locs → lv_has ls 8 [(0, .ref (ad 2)), (2, .int (oI w2)), (4, .int (oI w4))] → W p l e (rmK 2 63 0 0) s m args below meth c H locs 0 0 Q (F0 m 165 ls [])) → ∀ (H : Heap) (locs : List Loc) (ls : Array Slot), va_P z.1 classes (wv z ad E M) H → va_D A (wv z ad E M) → va_S A s.heap H locs → lv_has ls 8 [(0, .ref (ad 2)), (1, .int (oI x1)), (2, .int (oI x2)), (3, .int (oI x3)), (4, .int (oI x4)), (5, .int (oI x5))] → W p l e (rmK 2 63 0 0) s m args below meth c H locs 0 0 Q (F0 m 27 ls []) := by
  intro fu
  induction fu with
  | zero =>
    intro M x1 x2 x3 x4 x5 t w1 w2 w3 w4 w5 N h
    have h : (none : Option (Nat × Int × Int × Int × Int × Int × Mm)) = some _ := h
    cases h
  | succ fu ih =>
    intro M x1 x2 x3 x4 x5 t w1 w2 w3 w4 w5 N h k1 k2 k3 H locs ls hP hD hS hl
    obtain ⟨⟨t0, w10, w20, w30, w40, w50, N9⟩, g0, h⟩ := bd_e h
    refine b_Bx_readTrial_27b l z ad E M x1 x2 x3 x4 x5 t0 w10 w20 w30 w40 w50 N9 hx hb hml hts hown hlocks hA hG hZ hL g0 (fun e0 => ?_) (fun e0 => ?_) (fun e0 => ?_) (fun e0 => ?_) H locs ls hP hD hS hl
    · subst e0
      have h := ite_t rfl h
      exact ih N9 w10 w20 w30 w40 w50 t w1 w2 w3 w4 w5 N h k1 k2 k3
    · subst e0
      have h := ite_f (by decide) h
      obtain ⟨rfl, rfl, rfl, rfl, rfl, rfl, rfl⟩ := in7 h
      exact k1 rfl
    · subst e0
      have h := ite_f (by decide) h
      obtain ⟨rfl, rfl, rfl, rfl, rfl, rfl, rfl⟩ := in7 h
      exact k2 rfl
    · subst e0
      have h := ite_f (by decide) h
      obtain ⟨rfl, rfl, rfl, rfl, rfl, rfl, rfl⟩ := in7 h
      exact k3 rfl
set_option maxRecDepth 100000 in
set_option maxHeartbeats 4000000 in
theorem b_Bx_readTrial_j199 (l : Launch) (z : Zz) (ad : Nat → Nat) (E : Ev) (M : Mm) (y0 : Int) (y1 : Int) (y2 : Nat) (r : Int) (N : Mm) {p : Program} {e : Env} {s : State} {m : MethodId} {below : List Frame} {meth : Method} {c : Code} {A : Nat → Prop} {args : Array Value} (hx : p.tables.exec = Jvm.exec) (hb : c.code = prog_2_method_6_code) (hml : c.maxLocals = 8) (hts : ∀ w ∈ WG, w.before args s = true) (hown : s.vm.findClass "Ballothall$BallotBox" = some m.cls) (hlocks : meth.locks = false) (hA : ∀ q, s.heap.size ≤ q → A q) (hG : KG z s) (hZ : FZ z A s) (hL : Lay E) (hr : meth.sig.returnType = (some .int)) (h : Bx_readTrial_j199 E M y0 y1 y2 = some (r, N)) : ∀ (H : Heap) (locs : List Loc) (ls : Array Slot), va_P z.1 classes (wv z ad E M) H → va_D A (wv z ad E M) → va_S A s.heap H locs → lv_has ls 8 [] → W p l e (rmK 2 63 0 0) s m args below meth c H locs 0 0 (MQ below (QK z A (fun _ => some (.int (oI r))) (fun _ => (wv z ad E N))) args s 0 0 A) (F0 m 199 ls [.int (oI y0), .int (oI y1), .ref (ad y2)]) := by
  intro H locs ls hP hD hS hl
  unfold Bx_readTrial_j199 at h
  obtain ⟨h_y2, h⟩ := ck_e h
  obtain ⟨ok123, h⟩ := ck_e h
  refine m_is hx hb hG hP hD hS h_y2.1 (isIA_T h_y2) ok123 d_2_6_199 (fun H locs hP hD hS => ?_)
  have hP : va_P z.1 classes (wv z ad E (u2 M y2 y1.toNat y0)) H := hP
  have hD : va_D A (wv z ad E (u2 M y2 y1.toNat y0)) := hD
  refine lv_iconst (v := oI (-1)) hx hb d_2_6_200 (by decide +kernel) ?_
  obtain ⟨rfl, rfl⟩ := in2 h
  exact W.iret hx hb hr (fun t ht hW => qkA hP hD hS (fun k => k) rfl rfl ht) hS.2.2 d_2_6_201
set_option maxRecDepth 100000 in
set_option maxHeartbeats 4000000 in
theorem s_Bx_readTrial (l : Launch) (z : Zz) (ad : Nat → Nat) (E : Ev) (M : Mm) (r : Int) (N : Mm) (hL : Lay E) (h : f_Bx_readTrial E M = some (r, N)) : CT l z ⟨"Ballothall$BallotBox", "readTrial", "()I"⟩ prog_2_method_6_code 8 (some .int) [.ref (ad 2)] (wv z ad E M) 2 63 0 0 (fun _ => some (.int (oI r))) (fun _ => (wv z ad E N)) := by
  refine CT.of (own := "Ballothall$BallotBox") (by decide +kernel) (Nat.le_of_ble_eq_true rfl) rfl (fun p e s m below meth c A ls hx hb hml hr hts hown hlocks hin hA hG hZ hP hD hS hl => ?_)
  have hl : lv_has ls 8 [(0, .ref (ad 2))] := hl
  have key : ∀ (H : Heap) (locs : List Loc) (args : Array Value), (∀ w ∈ WG, w.before args s = true) → va_P z.1 classes (wv z ad E M) H → va_S A s.heap H locs → W p l e (rmK 2 63 0 0) s m args below meth c H locs 0 0 (MQ below (QK z A (fun _ => some (.int (oI r))) (fun _ => (wv z ad E N))) args s 0 0 A) (F0 m 0 ls []) := by
    intro H locs args hts hP hS
    unfold f_Bx_readTrial at h
    refine lv_aload_n hx hb d_2_6_0 rfl (lv_at hl 0 rfl) ?_
    obtain ⟨M100, g100, h⟩ := bd_e h
    refine kV (As := []) (rest := []) (s_Bx_clearTrial l z ad E M M100 hL g100) hx hb hml hown hts w_1030 w_1027 w_1029 w_s_7c1b22 w_2 md_12822f ⟨Nat.le_of_ble_eq_true rfl, Nat.le_of_ble_eq_true rfl⟩ hG hZ hP hD hS hA 2 (wv_o (ci := 0) (yi_2 hL) (yt_2 hL)) rfl rfl rfl hl.1 rfl (Nat.le_of_ble_eq_true rfl) d_2_6_1 ⟨Nat.le_of_ble_eq_true rfl, Nat.le_of_ble_eq_true rfl⟩ (fun _ H locs hP hD hS => ?_)
    have hP : va_P z.1 classes (wv z ad E M100) H := hP
    have hD : va_D A (wv z ad E M100) := hD
    refine W.eq (g2 := F0 m 4 ls []) rfl ?_
    refine lv_iconst (v := oI 0) hx hb d_2_6_4 (by decide +kernel) ?_
    refine lv_istore_n (lv' := [(1, .int (oI 0)), (0, .ref (ad 2))]) hx hb d_2_6_5 rfl hl (by decide) rfl (fun ls hl => ?_)
    refine lv_iconst (v := oI (-1)) hx hb d_2_6_6 (by decide +kernel) ?_
    refine lv_istore_n (lv' := [(2, .int (oI (-1))), (1, .int (oI 0)), (0, .ref (ad 2))]) hx hb d_2_6_7 rfl hl (by decide) rfl (fun ls hl => ?_)
    refine lv_iconst (v := oI 1) hx hb d_2_6_8 (by decide +kernel) ?_
    refine lv_istore_n (lv' := [(3, .int (oI 1)), (2, .int (oI (-1))), (1, .int (oI 0)), (0, .ref (ad 2))]) hx hb d_2_6_9 rfl hl (by decide) rfl (fun ls hl => ?_)
    refine lv_aload_n hx hb d_2_6_10 rfl (lv_at hl 3 rfl) ?_
    refine m_gi (C := "Ballothall$BallotBox") (T := TX0) (N := 10) (ci := 0) (k := 1) hx hb hts iX0 hown hG hP (yi_2 hL) (yt_2 hL) rfl (by decide) w_50 (fun _ h9 => h9) rfl rfl d_2_6_11 ?_
    obtain ⟨ok101, h⟩ := ck_e h
    refine lv_if_le (tgt := 21) hx hb d_2_6_14 (by decide) (fun c9 => ?_) (fun c9 => ?_)
    · have h := ite_t ((oI_le0 ok101).mp c9) h
      refine lv_iconst (v := oI 0) hx hb d_2_6_21 (by decide +kernel) ?_
      refine lv_istore (lv' := [(4, .int (oI 0)), (3, .int (oI 1)), (2, .int (oI (-1))), (1, .int (oI 0)), (0, .ref (ad 2))]) hx hb d_2_6_22 hl (by decide) rfl (fun ls hl => ?_)
      refine lv_iconst (v := oI 0) hx hb d_2_6_24 (by decide +kernel) ?_
      refine lv_istore (lv' := [(5, .int (oI 0)), (4, .int (oI 0)), (3, .int (oI 1)), (2, .int (oI (-1))), (1, .int (oI 0)), (0, .ref (ad 2))]) hx hb d_2_6_25 hl (by decide) rfl (fun ls hl => ?_)
      obtain ⟨⟨t120, v120_1, v120_2, v120_3, v120_4, v120_5, M120⟩, g120, h⟩ := bd_e h
      refine s_Bx_readTrial_27 l z ad E hx hb hml hts hown hlocks hA hG hZ hL FU M100 0 (-1) 1 0 0 t120 v120_1 v120_2 v120_3 v120_4 v120_5 M120 g120 (fun e120 H locs ls hP hD hS hl => ?_) (fun e120 H locs ls hP hD hS hl => ?_) (fun e120 H locs ls hP hD hS hl => ?_) H locs ls hP hD hS (lv_sub hl [5, 4, 3, 2, 1, 0] rfl)
      · subst e120
        have h := ite_t rfl h
        refine lv_iload hx hb d_2_6_80 (lv_at hl 0 rfl) ?_
        obtain ⟨rfl, rfl⟩ := in2 h
        exact W.iret hx hb hr (fun t ht hW => qkA hP hD hS (fun k => k) rfl rfl ht) hS.2.2 d_2_6_82
      · subst e120
        have h := ite_f (by decide) h
        have h := ite_t rfl h
        refine lv_iload hx hb d_2_6_131 (lv_at hl 0 rfl) ?_
        obtain ⟨rfl, rfl⟩ := in2 h
        exact W.iret hx hb hr (fun t ht hW => qkA hP hD hS (fun k => k) rfl rfl ht) hS.2.2 d_2_6_133
      · subst e120
        have h := ite_f (by decide) h
        have h := ite_f (by decide) h
        have h := ite_t rfl h
        refine lv_iload hx hb d_2_6_165 (lv_at hl 2 rfl) ?_
        obtain ⟨ok121, h⟩ := ck_e h
        refine lv_if_eq (tgt := 175) hx hb d_2_6_167 (by decide) (fun c9 => ?_) (fun c9 => ?_)
        · have h := ite_t ((oI_eq0 ok121).mp c9) h
          refine lv_aload_n hx hb d_2_6_175 rfl (lv_at hl 0 rfl) ?_
          refine m_gr (j := 6) (C := "Ballothall$BallotBox") (T := TX0) (N := 10) (ci := 0) (k := 6) hx hb hts iX0 hown hG hP (yi_2 hL) (yt_2 hL) rfl (by decide) w_68 (fun _ h9 => h9) rfl rfl (yr_2_6 hL) d_2_6_176 ?_
          refine lv_bipush (v := oI 30) hx hb d_2_6_179 (by decide +kernel) ?_
          refine lv_iload_n hx hb d_2_6_181 rfl (lv_at hl 1 rfl) ?_
          refine lv_iconst (v := oI (-1)) hx hb d_2_6_182 (by decide +kernel) ?_
          obtain ⟨ok122, h⟩ := ck_e h
          refine lv_icmp_ne (tgt := 198) hx hb d_2_6_183 (by decide) (fun c9 => ?_) (fun c9 => ?_)
          · have h := ite_f (fun q => c9 ((oI_eq (a := v120_2) (b := (-1 : Int)) ok122 (by decide)).mpr q)) h
            refine lv_iload_n hx hb d_2_6_198 rfl (lv_at hl 1 rfl) ?_
            exact b_Bx_readTrial_j199 l z ad E M120 v120_2 30 6 r N hx hb hml hts hown hlocks hA hG hZ hL hr h H locs ls hP hD hS (lv_sub hl [] rfl)
          · have h := ite_t ((oI_eq (a := v120_2) (b := (-1 : Int)) ok122 (by decide)).mp c9) h
            refine lv_aload_n hx hb d_2_6_186 rfl (lv_at hl 0 rfl) ?_
            refine m_gr (j := 8) (C := "Ballothall$BallotBox") (T := TX0) (N := 10) (ci := 0) (k := 8) hx hb hts iX0 hown hG hP (yi_2 hL) (yt_2 hL) rfl (by decide) w_74 (fun _ h9 => h9) rfl rfl (yr_2_8 hL) d_2_6_187 ?_
            refine lv_bipush (v := oI 30) hx hb d_2_6_190 (by decide +kernel) ?_
            refine m_ar (k := 39) hx hb hG hP (yi_8 hL) (yt_8 hL) (by decide +kernel) ((ya_8 hL (by decide +kernel)).trans (by decide +kernel)) d_2_6_192 ?_
            refine lv_iconst (v := oI 0) hx hb d_2_6_193 (by decide +kernel) ?_
            refine m_ia hx hb hG hP (yi_39 hL) (yt_39 hL) (by decide +kernel) d_2_6_194 ?_
            refine nrm (x1 := oI (M120 39 0)) rfl ?_
            refine lv_goto (tgt := 199) hx hb d_2_6_195 (by decide) ?_
            exact b_Bx_readTrial_j199 l z ad E M120 (M120 39 0) 30 6 r N hx hb hml hts hown hlocks hA hG hZ hL hr h H locs ls hP hD hS (lv_sub hl [] rfl)
        · have h := ite_f (fun q => c9 ((oI_eq0 ok121).mpr q)) h
          refine lv_aload_n hx hb d_2_6_170 rfl (lv_at hl 0 rfl) ?_
          refine m_gi (C := "Ballothall$BallotBox") (T := TX0) (N := 10) (ci := 0) (k := 1) hx hb hts iX0 hown hG hP (yi_2 hL) (yt_2 hL) rfl (by decide) w_50 (fun _ h9 => h9) rfl rfl d_2_6_171 ?_
          obtain ⟨rfl, rfl⟩ := in2 h
          exact W.iret hx hb hr (fun t ht hW => qkA hP hD hS (fun k => k) rfl rfl ht) hS.2.2 d_2_6_174
    · have h := ite_f (fun q => c9 ((oI_le0 ok101).mpr q)) h
      refine lv_iconst (v := oI 1) hx hb d_2_6_17 (by decide +kernel) ?_
      refine lv_goto (tgt := 22) hx hb d_2_6_18 (by decide) ?_
      refine lv_istore (lv' := [(4, .int (oI 1)), (3, .int (oI 1)), (2, .int (oI (-1))), (1, .int (oI 0)), (0, .ref (ad 2))]) hx hb d_2_6_22 hl (by decide) rfl (fun ls hl => ?_)
      refine lv_iconst (v := oI 0) hx hb d_2_6_24 (by decide +kernel) ?_
      refine lv_istore (lv' := [(5, .int (oI 0)), (4, .int (oI 1)), (3, .int (oI 1)), (2, .int (oI (-1))), (1, .int (oI 0)), (0, .ref (ad 2))]) hx hb d_2_6_25 hl (by decide) rfl (fun ls hl => ?_)
      obtain ⟨⟨t124, v124_1, v124_2, v124_3, v124_4, v124_5, M124⟩, g124, h⟩ := bd_e h
      refine s_Bx_readTrial_27 l z ad E hx hb hml hts hown hlocks hA hG hZ hL FU M100 0 (-1) 1 1 0 t124 v124_1 v124_2 v124_3 v124_4 v124_5 M124 g124 (fun e124 H locs ls hP hD hS hl => ?_) (fun e124 H locs ls hP hD hS hl => ?_) (fun e124 H locs ls hP hD hS hl => ?_) H locs ls hP hD hS (lv_sub hl [5, 4, 3, 2, 1, 0] rfl)
      · subst e124
        have h := ite_t rfl h
        refine lv_iload hx hb d_2_6_80 (lv_at hl 0 rfl) ?_
        obtain ⟨rfl, rfl⟩ := in2 h
        exact W.iret hx hb hr (fun t ht hW => qkA hP hD hS (fun k => k) rfl rfl ht) hS.2.2 d_2_6_82
      · subst e124
        have h := ite_f (by decide) h
        have h := ite_t rfl h
        refine lv_iload hx hb d_2_6_131 (lv_at hl 0 rfl) ?_
        obtain ⟨rfl, rfl⟩ := in2 h
        exact W.iret hx hb hr (fun t ht hW => qkA hP hD hS (fun k => k) rfl rfl ht) hS.2.2 d_2_6_133
      · subst e124
        have h := ite_f (by decide) h
        have h := ite_f (by decide) h
        have h := ite_t rfl h
        refine lv_iload hx hb d_2_6_165 (lv_at hl 2 rfl) ?_
        obtain ⟨ok125, h⟩ := ck_e h
        refine lv_if_eq (tgt := 175) hx hb d_2_6_167 (by decide) (fun c9 => ?_) (fun c9 => ?_)
        · have h := ite_t ((oI_eq0 ok125).mp c9) h
          refine lv_aload_n hx hb d_2_6_175 rfl (lv_at hl 0 rfl) ?_
          refine m_gr (j := 6) (C := "Ballothall$BallotBox") (T := TX0) (N := 10) (ci := 0) (k := 6) hx hb hts iX0 hown hG hP (yi_2 hL) (yt_2 hL) rfl (by decide) w_68 (fun _ h9 => h9) rfl rfl (yr_2_6 hL) d_2_6_176 ?_
          refine lv_bipush (v := oI 30) hx hb d_2_6_179 (by decide +kernel) ?_
          refine lv_iload_n hx hb d_2_6_181 rfl (lv_at hl 1 rfl) ?_
          refine lv_iconst (v := oI (-1)) hx hb d_2_6_182 (by decide +kernel) ?_
          obtain ⟨ok126, h⟩ := ck_e h
          refine lv_icmp_ne (tgt := 198) hx hb d_2_6_183 (by decide) (fun c9 => ?_) (fun c9 => ?_)
          · have h := ite_f (fun q => c9 ((oI_eq (a := v124_2) (b := (-1 : Int)) ok126 (by decide)).mpr q)) h
            refine lv_iload_n hx hb d_2_6_198 rfl (lv_at hl 1 rfl) ?_
            exact b_Bx_readTrial_j199 l z ad E M124 v124_2 30 6 r N hx hb hml hts hown hlocks hA hG hZ hL hr h H locs ls hP hD hS (lv_sub hl [] rfl)
          · have h := ite_t ((oI_eq (a := v124_2) (b := (-1 : Int)) ok126 (by decide)).mp c9) h
            refine lv_aload_n hx hb d_2_6_186 rfl (lv_at hl 0 rfl) ?_
            refine m_gr (j := 8) (C := "Ballothall$BallotBox") (T := TX0) (N := 10) (ci := 0) (k := 8) hx hb hts iX0 hown hG hP (yi_2 hL) (yt_2 hL) rfl (by decide) w_74 (fun _ h9 => h9) rfl rfl (yr_2_8 hL) d_2_6_187 ?_
            refine lv_bipush (v := oI 30) hx hb d_2_6_190 (by decide +kernel) ?_
            refine m_ar (k := 39) hx hb hG hP (yi_8 hL) (yt_8 hL) (by decide +kernel) ((ya_8 hL (by decide +kernel)).trans (by decide +kernel)) d_2_6_192 ?_
            refine lv_iconst (v := oI 0) hx hb d_2_6_193 (by decide +kernel) ?_
            refine m_ia hx hb hG hP (yi_39 hL) (yt_39 hL) (by decide +kernel) d_2_6_194 ?_
            refine nrm (x1 := oI (M124 39 0)) rfl ?_
            refine lv_goto (tgt := 199) hx hb d_2_6_195 (by decide) ?_
            exact b_Bx_readTrial_j199 l z ad E M124 (M124 39 0) 30 6 r N hx hb hml hts hown hlocks hA hG hZ hL hr h H locs ls hP hD hS (lv_sub hl [] rfl)
        · have h := ite_f (fun q => c9 ((oI_eq0 ok125).mpr q)) h
          refine lv_aload_n hx hb d_2_6_170 rfl (lv_at hl 0 rfl) ?_
          refine m_gi (C := "Ballothall$BallotBox") (T := TX0) (N := 10) (ci := 0) (k := 1) hx hb hts iX0 hown hG hP (yi_2 hL) (yt_2 hL) rfl (by decide) w_50 (fun _ h9 => h9) rfl rfl d_2_6_171 ?_
          obtain ⟨rfl, rfl⟩ := in2 h
          exact W.iret hx hb hr (fun t ht hW => qkA hP hD hS (fun k => k) rfl rfl ht) hS.2.2 d_2_6_174
  exact key _ _ _ hts hP hS
set_option maxRecDepth 100000 in
set_option maxHeartbeats 4000000 in
theorem b_Bx_isLikeTrial_36b (l : Launch) (z : Zz) (ad : Nat → Nat) (E : Ev) (M : Mm) (x1 : Int) (x2 : Int) (t : Nat) (w2 : Int)  {Q : State → Prop} {p : Program} {e : Env} {s : State} {m : MethodId} {below : List Frame} {meth : Method} {c : Code} {A : Nat → Prop} {args : Array Value} (hx : p.tables.exec = Jvm.exec) (hb : c.code = prog_2_method_10_code) (hml : c.maxLocals = 3) (hts : ∀ w ∈ WG, w.before args s = true) (hown : s.vm.findClass "Ballothall$BallotBox" = some m.cls) (hlocks : meth.locks = false) (hA : ∀ q, s.heap.size ≤ q → A q) (hG : KG z s) (hZ : FZ z A s) (hL : Lay E) (h : Bx_isLikeTrial_36b E M x1 x2 = some (t, w2)) (k0 : t = 0 → ∀ (H : Heap) (locs : List Loc) (ls : Array Slot), va_P z.1 classes (wv z ad E M) H → va_D A (wv z ad E M) → va_S A s.heap H locs → lv_has ls 3 [(0, .ref (ad 2)), (1, .int (oI x1)), (2, .int (oI w2))] → W p l e (rmK 0 20 0 0) s m args below meth c H locs 0 0 Q (F0 m 36 ls [])) (k1 : t = 1 → ∀ (H : Heap) (locs : List Loc) (ls : Array Slot), va_P z.1 classes (wv z ad E M) H → va_D A (wv z ad E M) → va_S A s.heap H locs → lv_has ls 3 [] → W p l e (rmK 0 20 0 0) s m args below meth c H locs 0 0 Q (F0 m 66 ls [])) (k2 : t = 2 → ∀ (H : Heap) (locs : List Loc) (ls : Array Slot), va_P z.1 classes (wv z ad E M) H → va_D A (wv z ad E M) → va_S A s.heap H locs → lv_has ls 3 [] → W p l e (rmK 0 20 0 0) s m args below meth c H locs 0 0 Q (F0 m 74 ls [])) : ∀ (H : Heap) (locs : List Loc) (ls : Array Slot), va_P z.1 classes (wv z ad E M) H → va_D A (wv z ad E M) → va_S A s.heap H locs → lv_has ls 3 [(0, .ref (ad 2)), (1, .int (oI x1)), (2, .int (oI x2))] → W p l e (rmK 0 20 0 0) s m args below meth c H locs 0 0 Q (F0 m 36 ls []) := by
  intro H locs ls hP hD hS hl
  unfold Bx_isLikeTrial_36b at h
  refine lv_iload_n hx hb d_2_10_36 rfl (lv_at hl 2 rfl) ?_
  refine lv_aload_n hx hb d_2_10_37 rfl (lv_at hl 0 rfl) ?_
  refine m_gr (j := 7) (C := "Ballothall$BallotBox") (T := TX0) (N := 10) (ci := 0) (k := 7) hx hb hts iX0 hown hG hP (yi_2 hL) (yt_2 hL) rfl (by decide) w_72 (fun _ h9 => h9) rfl rfl (yr_2_7 hL) d_2_10_38 ?_
  refine lv_iload_n hx hb d_2_10_41 rfl (lv_at hl 1 rfl) ?_
  obtain ⟨ok105, h⟩ := ck_e h
  refine m_ia hx hb hG hP (yi_7 hL) (yt_7 hL) ok105 d_2_10_42 ?_
  obtain ⟨ok106, h⟩ := ck_e h
  obtain ⟨ok107, h⟩ := ck_e h
  refine lv_icmp_ge (tgt := 74) hx hb d_2_10_43 (by decide) (fun c9 => ?_) (fun c9 => ?_)
  · have h := ite_t ((oI_le (a := (M 7 x1.toNat)) (b := x2) ok107 ok106).mp c9) h
    obtain ⟨rfl, rfl⟩ := in2 h
    exact k2 rfl H locs ls hP hD hS (lv_sub hl [] rfl)
  · have h := ite_f (fun q => c9 ((oI_le (a := (M 7 x1.toNat)) (b := x2) ok107 ok106).mpr q)) h
    refine lv_aload_n hx hb d_2_10_46 rfl (lv_at hl 0 rfl) ?_
    refine m_gr (j := 8) (C := "Ballothall$BallotBox") (T := TX0) (N := 10) (ci := 0) (k := 8) hx hb hts iX0 hown hG hP (yi_2 hL) (yt_2 hL) rfl (by decide) w_74 (fun _ h9 => h9) rfl rfl (yr_2_8 hL) d_2_10_47 ?_
    refine lv_iload_n hx hb d_2_10_50 rfl (lv_at hl 1 rfl) ?_
    refine m_ar (k := (9 + x1.toNat)) hx hb hG hP (yi_8 hL) (yt_8 hL) ok105 (ya_8 hL (inb_lt ok105)) d_2_10_51 ?_
    refine lv_iload_n hx hb d_2_10_52 rfl (lv_at hl 2 rfl) ?_
    obtain ⟨ok108, h⟩ := ck_e h
    refine m_ia hx hb hG hP (yg_8 hL ok105).1 (yg_8 hL ok105).2 ok108 d_2_10_53 ?_
    refine lv_aload_n hx hb d_2_10_54 rfl (lv_at hl 0 rfl) ?_
    refine m_gr (j := 8) (C := "Ballothall$BallotBox") (T := TX0) (N := 10) (ci := 0) (k := 8) hx hb hts iX0 hown hG hP (yi_2 hL) (yt_2 hL) rfl (by decide) w_74 (fun _ h9 => h9) rfl rfl (yr_2_8 hL) d_2_10_55 ?_
    refine lv_bipush (v := oI 30) hx hb d_2_10_58 (by decide +kernel) ?_
    refine m_ar (k := 39) hx hb hG hP (yi_8 hL) (yt_8 hL) (by decide +kernel) ((ya_8 hL (by decide +kernel)).trans (by decide +kernel)) d_2_10_60 ?_
    refine lv_iload_n hx hb d_2_10_61 rfl (lv_at hl 2 rfl) ?_
    refine m_ia hx hb hG hP (yi_39 hL) (yt_39 hL) ok108 d_2_10_62 ?_
    obtain ⟨ok109, h⟩ := ck_e h
    obtain ⟨ok110, h⟩ := ck_e h
    refine lv_icmp_eq (tgt := 68) hx hb d_2_10_63 (by decide) (fun c9 => ?_) (fun c9 => ?_)
    · have h := ite_t ((oI_eq (a := (M (9 + x1.toNat) x2.toNat)) (b := (M 39 x2.toNat)) ok109 ok110).mp c9) h
      refine lv_iinc (v := oI (x2 + 1)) (lv' := [(2, .int (oI (x2 + 1))), (0, .ref (ad 2)), (1, .int (oI x1))]) hx hb d_2_10_68 hl (k := 2) rfl (oI_add x2 1) (by decide) rfl (fun ls hl => ?_)
      refine lv_goto (tgt := 36) hx hb d_2_10_71 (by decide) ?_
      obtain ⟨rfl, rfl⟩ := in2 h
      exact k0 rfl H locs ls hP hD hS (lv_sub hl [1, 2, 0] rfl)
    · have h := ite_f (fun q => c9 ((oI_eq (a := (M (9 + x1.toNat) x2.toNat)) (b := (M 39 x2.toNat)) ok109 ok110).mpr q)) h
      obtain ⟨rfl, rfl⟩ := in2 h
      exact k1 rfl H locs ls hP hD hS (lv_sub hl [] rfl)
set_option maxRecDepth 100000 in
set_option maxHeartbeats 4000000 in
theorem s_Bx_isLikeTrial_36 (l : Launch) (z : Zz) (ad : Nat → Nat) (E : Ev) (x1 : Int) {Q : State → Prop} {p : Program} {e : Env} {s : State} {m : MethodId} {below : List Frame} {meth : Method} {c : Code} {A : Nat → Prop} {args : Array Value} (hx : p.tables.exec = Jvm.exec) (hb : c.code = prog_2_method_10_code) (hml : c.maxLocals = 3) (hts : ∀ w ∈ WG, w.before args s = true) (hown : s.vm.findClass "Ballothall$BallotBox" = some m.cls) (hlocks : meth.locks = false) (hA : ∀ q, s.heap.size ≤ q → A q) (hG : KG z s) (hZ : FZ z A s) (hL : Lay E) : ∀ (fu : Nat) (M : Mm) (x2 : Int) (t : Nat) (w2 : Int), l_Bx_isLikeTrial_36 E x1 fu M x2 = some (t, w2) → (t = 1 → ∀ (H : Heap) (locs : List Loc) (ls : Array Slot), va_P z.1 classes (wv z ad E M) H → va_D A (wv z ad E M) → va_S A s.heap H locs → lv_has ls 3 [] → W p l e (rmK 0 20 0 0) s m args below meth c H locs 0 0 Q (F0 m 66 ls [])) → (t = 2 → ∀ (H : Heap) (locs : List Loc) (ls : Array Slot), va_P z.1 classes (wv z ad E M) H → va_D A (wv z ad E M) → va_S A s.heap H locs → lv_has ls 3 [] → W p l e (rmK 0 20 0 0) s m args below meth c H locs 0 0 Q (F0 m 74 ls [])) → ∀ (H : Heap) (locs : List Loc) (ls : Array Slot), va_P z.1 classes (wv z ad E M) H → va_D A (wv z ad E M) → va_S A s.heap H locs → lv_has ls 3 [(0, .ref (ad 2)), (1, .int (oI x1)), (2, .int (oI x2))] → W p l e (rmK 0 20 0 0) s m args below meth c H locs 0 0 Q (F0 m 36 ls []) := by
  intro fu
  induction fu with
  | zero =>
    intro M x2 t w2 h
    have h : (none : Option (Nat × Int)) = some _ := h
    cases h
  | succ fu ih =>
    intro M x2 t w2 h k1 k2 H locs ls hP hD hS hl
    obtain ⟨⟨t0, w20⟩, g0, h⟩ := bd_e h
    refine b_Bx_isLikeTrial_36b l z ad E M x1 x2 t0 w20 hx hb hml hts hown hlocks hA hG hZ hL g0 (fun e0 => ?_) (fun e0 => ?_) (fun e0 => ?_) H locs ls hP hD hS hl
    · subst e0
      have h := ite_t rfl h
      exact ih M w20 t w2 h k1 k2
    · subst e0
      have h := ite_f (by decide) h
      obtain ⟨rfl, rfl⟩ := in2 h
      exact k1 rfl
    · subst e0
      have h := ite_f (by decide) h
      obtain ⟨rfl, rfl⟩ := in2 h
      exact k2 rfl
set_option maxRecDepth 100000 in
set_option maxHeartbeats 4000000 in
theorem s_Bx_isLikeTrial (l : Launch) (z : Zz) (ad : Nat → Nat) (E : Ev) (M : Mm) (x1 : Int) (r : Int)  (hL : Lay E) (h : f_Bx_isLikeTrial E M x1 = some r) : CT l z ⟨"Ballothall$BallotBox", "isLikeTrial", "(I)Z"⟩ prog_2_method_10_code 3 (some .boolean) [.ref (ad 2), .int (oI x1)] (wv z ad E M) 0 20 0 0 (fun _ => some (.int (oI r))) (fun _ => (wv z ad E M)) := by
  refine CT.of (own := "Ballothall$BallotBox") (by decide +kernel) (Nat.le_of_ble_eq_true rfl) rfl (fun p e s m below meth c A ls hx hb hml hr hts hown hlocks hin hA hG hZ hP hD hS hl => ?_)
  have hl : lv_has ls 3 [(0, .ref (ad 2)), (1, .int (oI x1))] := hl
  have key : ∀ (H : Heap) (locs : List Loc) (args : Array Value), (∀ w ∈ WG, w.before args s = true) → va_P z.1 classes (wv z ad E M) H → va_S A s.heap H locs → W p l e (rmK 0 20 0 0) s m args below meth c H locs 0 0 (MQ below (QK z A (fun _ => some (.int (oI r))) (fun _ => (wv z ad E M))) args s 0 0 A) (F0 m 0 ls []) := by
    intro H locs args hts hP hS
    unfold f_Bx_isLikeTrial at h
    refine lv_aload_n hx hb d_2_10_0 rfl (lv_at hl 0 rfl) ?_
    refine m_gr (j := 7) (C := "Ballothall$BallotBox") (T := TX0) (N := 10) (ci := 0) (k := 7) hx hb hts iX0 hown hG hP (yi_2 hL) (yt_2 hL) rfl (by decide) w_72 (fun _ h9 => h9) rfl rfl (yr_2_7 hL) d_2_10_1 ?_
    refine lv_iload_n hx hb d_2_10_4 rfl (lv_at hl 1 rfl) ?_
    obtain ⟨ok100, h⟩ := ck_e h
    refine m_ia hx hb hG hP (yi_7 hL) (yt_7 hL) ok100 d_2_10_5 ?_
    refine lv_aload_n hx hb d_2_10_6 rfl (lv_at hl 0 rfl) ?_
    refine m_gr (j := 7) (C := "Ballothall$BallotBox") (T := TX0) (N := 10) (ci := 0) (k := 7) hx hb hts iX0 hown hG hP (yi_2 hL) (yt_2 hL) rfl (by decide) w_72 (fun _ h9 => h9) rfl rfl (yr_2_7 hL) d_2_10_7 ?_
    refine lv_bipush (v := oI 30) hx hb d_2_10_10 (by decide +kernel) ?_
    refine m_ia hx hb hG hP (yi_7 hL) (yt_7 hL) (by decide +kernel) d_2_10_12 ?_
    refine nrm (x1 := oI (M 7 30)) rfl ?_
    obtain ⟨ok101, h⟩ := ck_e h
    obtain ⟨ok102, h⟩ := ck_e h
    refine lv_icmp_ne (tgt := 32) hx hb d_2_10_13 (by decide) (fun c9 => ?_) (fun c9 => ?_)
    · have h := ite_f (fun q => c9 ((oI_eq (a := (M 7 x1.toNat)) (b := (M 7 30)) ok101 ok102).mpr q)) h
      refine lv_iconst (v := oI 0) hx hb d_2_10_32 (by decide +kernel) ?_
      obtain rfl := in1 h
      exact W.zret hx hb hr rfl (fun t ht hW => qkA hP hD hS (fun k => k) rfl rfl ht) hS.2.2 d_2_10_33
    · have h := ite_t ((oI_eq (a := (M 7 x1.toNat)) (b := (M 7 30)) ok101 ok102).mp c9) h
      refine lv_aload_n hx hb d_2_10_16 rfl (lv_at hl 0 rfl) ?_
      refine m_gr (j := 6) (C := "Ballothall$BallotBox") (T := TX0) (N := 10) (ci := 0) (k := 6) hx hb hts iX0 hown hG hP (yi_2 hL) (yt_2 hL) rfl (by decide) w_68 (fun _ h9 => h9) rfl rfl (yr_2_6 hL) d_2_10_17 ?_
      refine lv_iload_n hx hb d_2_10_20 rfl (lv_at hl 1 rfl) ?_
      refine m_ia hx hb hG hP (yi_6 hL) (yt_6 hL) ok100 d_2_10_21 ?_
      refine lv_aload_n hx hb d_2_10_22 rfl (lv_at hl 0 rfl) ?_
      refine m_gr (j := 6) (C := "Ballothall$BallotBox") (T := TX0) (N := 10) (ci := 0) (k := 6) hx hb hts iX0 hown hG hP (yi_2 hL) (yt_2 hL) rfl (by decide) w_68 (fun _ h9 => h9) rfl rfl (yr_2_6 hL) d_2_10_23 ?_
      refine lv_bipush (v := oI 30) hx hb d_2_10_26 (by decide +kernel) ?_
      refine m_ia hx hb hG hP (yi_6 hL) (yt_6 hL) (by decide +kernel) d_2_10_28 ?_
      refine nrm (x1 := oI (M 6 30)) rfl ?_
      obtain ⟨ok103, h⟩ := ck_e h
      obtain ⟨ok104, h⟩ := ck_e h
      refine lv_icmp_eq (tgt := 34) hx hb d_2_10_29 (by decide) (fun c9 => ?_) (fun c9 => ?_)
      · have h := ite_t ((oI_eq (a := (M 6 x1.toNat)) (b := (M 6 30)) ok103 ok104).mp c9) h
        refine lv_iconst (v := oI 0) hx hb d_2_10_34 (by decide +kernel) ?_
        refine lv_istore_n (lv' := [(2, .int (oI 0)), (0, .ref (ad 2)), (1, .int (oI x1))]) hx hb d_2_10_35 rfl hl (by decide) rfl (fun ls hl => ?_)
        obtain ⟨⟨t111, v111_2⟩, g111, h⟩ := bd_e h
        refine s_Bx_isLikeTrial_36 l z ad E x1 hx hb hml hts hown hlocks hA hG hZ hL FU M 0 t111 v111_2 g111 (fun e111 H locs ls hP hD hS hl => ?_) (fun e111 H locs ls hP hD hS hl => ?_) H locs ls hP hD hS (lv_sub hl [1, 2, 0] rfl)
        · subst e111
          have h := ite_t rfl h
          refine lv_iconst (v := oI 0) hx hb d_2_10_66 (by decide +kernel) ?_
          obtain rfl := in1 h
          exact W.zret hx hb hr rfl (fun t ht hW => qkA hP hD hS (fun k => k) rfl rfl ht) hS.2.2 d_2_10_67
        · subst e111
          have h := ite_f (by decide) h
          have h := ite_t rfl h
          refine lv_iconst (v := oI 1) hx hb d_2_10_74 (by decide +kernel) ?_
          obtain rfl := in1 h
          exact W.zret hx hb hr rfl (fun t ht hW => qkA hP hD hS (fun k => k) rfl rfl ht) hS.2.2 d_2_10_75
      · have h := ite_f (fun q => c9 ((oI_eq (a := (M 6 x1.toNat)) (b := (M 6 30)) ok103 ok104).mpr q)) h
        refine lv_iconst (v := oI 0) hx hb d_2_10_32 (by decide +kernel) ?_
        obtain rfl := in1 h
        exact W.zret hx hb hr rfl (fun t ht hW => qkA hP hD hS (fun k => k) rfl rfl ht) hS.2.2 d_2_10_33
  exact key _ _ _ hts hP hS
set_option maxRecDepth 100000 in
set_option maxHeartbeats 4000000 in
theorem b_Bx_kindOfTrial_2b (l : Launch) (z : Zz) (ad : Nat → Nat) (E : Ev) (M : Mm) (x1 : Int) (t : Nat) (w1 : Int)  {Q : State → Prop} {p : Program} {e : Env} {s : State} {m : MethodId} {below : List Frame} {meth : Method} {c : Code} {A : Nat → Prop} {args : Array Value} (hx : p.tables.exec = Jvm.exec) (hb : c.code = prog_2_method_9_code) (hml : c.maxLocals = 2) (hts : ∀ w ∈ WG, w.before args s = true) (hown : s.vm.findClass "Ballothall$BallotBox" = some m.cls) (hlocks : meth.locks = false) (hA : ∀ q, s.heap.size ≤ q → A q) (hG : KG z s) (hZ : FZ z A s) (hL : Lay E) (h : Bx_kindOfTrial_2b E M x1 = some (t, w1)) (k0 : t = 0 → ∀ (H : Heap) (locs : List Loc) (ls : Array Slot), va_P z.1 classes (wv z ad E M) H → va_D A (wv z ad E M) → va_S A s.heap H locs → lv_has ls 2 [(0, .ref (ad 2)), (1, .int (oI w1))] → W p l e (rmK 1 42 0 0) s m args below meth c H locs 0 0 Q (F0 m 2 ls [])) (k1 : t = 1 → ∀ (H : Heap) (locs : List Loc) (ls : Array Slot), va_P z.1 classes (wv z ad E M) H → va_D A (wv z ad E M) → va_S A s.heap H locs → lv_has ls 2 [(1, .int (oI w1))] → W p l e (rmK 1 42 0 0) s m args below meth c H locs 0 0 Q (F0 m 18 ls [])) (k2 : t = 2 → ∀ (H : Heap) (locs : List Loc) (ls : Array Slot), va_P z.1 classes (wv z ad E M) H → va_D A (wv z ad E M) → va_S A s.heap H locs → lv_has ls 2 [] → W p l e (rmK 1 42 0 0) s m args below meth c H locs 0 0 Q (F0 m 26 ls [])) : ∀ (H : Heap) (locs : List Loc) (ls : Array Slot), va_P z.1 classes (wv z ad E M) H → va_D A (wv z ad E M) → va_S A s.heap H locs → lv_has ls 2 [(0, .ref (ad 2)), (1, .int (oI x1))] → W p l e (rmK 1 42 0 0) s m args below meth c H locs 0 0 Q (F0 m 2 ls []) := by
  intro H locs ls hP hD hS hl
  unfold Bx_kindOfTrial_2b at h
  refine lv_iload_n hx hb d_2_9_2 rfl (lv_at hl 1 rfl) ?_
  refine lv_aload_n hx hb d_2_9_3 rfl (lv_at hl 0 rfl) ?_
  refine m_gi (C := "Ballothall$BallotBox") (T := TX0) (N := 10) (ci := 0) (k := 3) hx hb hts iX0 hown hG hP (yi_2 hL) (yt_2 hL) rfl (by decide) w_60 (fun _ h9 => h9) rfl rfl d_2_9_4 ?_
  obtain ⟨ok100, h⟩ := ck_e h
  obtain ⟨ok101, h⟩ := ck_e h
  refine lv_icmp_ge (tgt := 26) hx hb d_2_9_7 (by decide) (fun c9 => ?_) (fun c9 => ?_)
  · have h := ite_t ((oI_le (a := (M 2 3)) (b := x1) ok101 ok100).mp c9) h
    obtain ⟨rfl, rfl⟩ := in2 h
    exact k2 rfl H locs ls hP hD hS (lv_sub hl [] rfl)
  · have h := ite_f (fun q => c9 ((oI_le (a := (M 2 3)) (b := x1) ok101 ok100).mpr q)) h
    refine lv_aload_n hx hb d_2_9_10 rfl (lv_at hl 0 rfl) ?_
    refine lv_iload_n hx hb d_2_9_11 rfl (lv_at hl 1 rfl) ?_
    obtain ⟨r102, g102, h⟩ := bd_e h
    refine kV (As := [.int (oI x1)]) (rest := []) (s_Bx_isLikeTrial l z ad E M x1 r102 hL g102) hx hb hml hown hts w_1044 w_1041 w_1043 w_s_51b801 w_2 md_ed76b8 ⟨Nat.le_of_ble_eq_true rfl, Nat.le_of_ble_eq_true rfl⟩ hG hZ hP hD hS hA 2 (wv_o (ci := 0) (yi_2 hL) (yt_2 hL)) rfl rfl rfl hl.1 rfl (Nat.le_of_ble_eq_true rfl) d_2_9_12 ⟨Nat.le_of_ble_eq_true rfl, Nat.le_of_ble_eq_true rfl⟩ (fun _ H locs hP hD hS => ?_)
    have hP : va_P z.1 classes (wv z ad E M) H := hP
    have hD : va_D A (wv z ad E M) := hD
    refine W.eq (g2 := F0 m 15 ls [.int (oI r102)]) rfl ?_
    obtain ⟨ok103, h⟩ := ck_e h
    refine lv_if_eq (tgt := 20) hx hb d_2_9_15 (by decide) (fun c9 => ?_) (fun c9 => ?_)
    · have h := ite_t ((oI_eq0 ok103).mp c9) h
      refine lv_iinc (v := oI (x1 + 1)) (lv' := [(1, .int (oI (x1 + 1))), (0, .ref (ad 2))]) hx hb d_2_9_20 hl (k := 1) rfl (oI_add x1 1) (by decide) rfl (fun ls hl => ?_)
      refine lv_goto (tgt := 2) hx hb d_2_9_23 (by decide) ?_
      obtain ⟨rfl, rfl⟩ := in2 h
      exact k0 rfl H locs ls hP hD hS (lv_sub hl [1, 0] rfl)
    · have h := ite_f (fun q => c9 ((oI_eq0 ok103).mpr q)) h
      obtain ⟨rfl, rfl⟩ := in2 h
      exact k1 rfl H locs ls hP hD hS (lv_sub hl [1] rfl)
set_option maxRecDepth 100000 in
set_option maxHeartbeats 4000000 in
theorem s_Bx_kindOfTrial_2 (l : Launch) (z : Zz) (ad : Nat → Nat) (E : Ev) {Q : State → Prop} {p : Program} {e : Env} {s : State} {m : MethodId} {below : List Frame} {meth : Method} {c : Code} {A : Nat → Prop} {args : Array Value} (hx : p.tables.exec = Jvm.exec) (hb : c.code = prog_2_method_9_code) (hml : c.maxLocals = 2) (hts : ∀ w ∈ WG, w.before args s = true) (hown : s.vm.findClass "Ballothall$BallotBox" = some m.cls) (hlocks : meth.locks = false) (hA : ∀ q, s.heap.size ≤ q → A q) (hG : KG z s) (hZ : FZ z A s) (hL : Lay E) : ∀ (fu : Nat) (M : Mm) (x1 : Int) (t : Nat) (w1 : Int), l_Bx_kindOfTrial_2 E fu M x1 = some (t, w1) → (t = 1 → ∀ (H : Heap) (locs : List Loc) (ls : Array Slot), va_P z.1 classes (wv z ad E M) H → va_D A (wv z ad E M) → va_S A s.heap H locs → lv_has ls 2 [(1, .int (oI w1))] → W p l e (rmK 1 42 0 0) s m args below meth c H locs 0 0 Q (F0 m 18 ls [])) → (t = 2 → ∀ (H : Heap) (locs : List Loc) (ls : Array Slot), va_P z.1 classes (wv z ad E M) H → va_D A (wv z ad E M) → va_S A s.heap H locs → lv_has ls 2 [] → W p l e (rmK 1 42 0 0) s m args below meth c H locs 0 0 Q (F0 m 26 ls [])) → ∀ (H : Heap) (locs : List Loc) (ls : Array Slot), va_P z.1 classes (wv z ad E M) H → va_D A (wv z ad E M) → va_S A s.heap H locs → lv_has ls 2 [(0, .ref (ad 2)), (1, .int (oI x1))] → W p l e (rmK 1 42 0 0) s m args below meth c H locs 0 0 Q (F0 m 2 ls []) := by
  intro fu
  induction fu with
  | zero =>
    intro M x1 t w1 h
    have h : (none : Option (Nat × Int)) = some _ := h
    cases h
  | succ fu ih =>
    intro M x1 t w1 h k1 k2 H locs ls hP hD hS hl
    obtain ⟨⟨t0, w10⟩, g0, h⟩ := bd_e h
    refine b_Bx_kindOfTrial_2b l z ad E M x1 t0 w10 hx hb hml hts hown hlocks hA hG hZ hL g0 (fun e0 => ?_) (fun e0 => ?_) (fun e0 => ?_) H locs ls hP hD hS hl
    · subst e0
      have h := ite_t rfl h
      exact ih M w10 t w1 h k1 k2
    · subst e0
      have h := ite_f (by decide) h
      obtain ⟨rfl, rfl⟩ := in2 h
      exact k1 rfl
    · subst e0
      have h := ite_f (by decide) h
      obtain ⟨rfl, rfl⟩ := in2 h
      exact k2 rfl
set_option maxRecDepth 100000 in
set_option maxHeartbeats 4000000 in
theorem s_Bx_kindOfTrial (l : Launch) (z : Zz) (ad : Nat → Nat) (E : Ev) (M : Mm) (r : Int)  (hL : Lay E) (h : f_Bx_kindOfTrial E M = some r) : CT l z ⟨"Ballothall$BallotBox", "kindOfTrial", "()I"⟩ prog_2_method_9_code 2 (some .int) [.ref (ad 2)] (wv z ad E M) 1 42 0 0 (fun _ => some (.int (oI r))) (fun _ => (wv z ad E M)) := by
  refine CT.of (own := "Ballothall$BallotBox") (by decide +kernel) (Nat.le_of_ble_eq_true rfl) rfl (fun p e s m below meth c A ls hx hb hml hr hts hown hlocks hin hA hG hZ hP hD hS hl => ?_)
  have hl : lv_has ls 2 [(0, .ref (ad 2))] := hl
  have key : ∀ (H : Heap) (locs : List Loc) (args : Array Value), (∀ w ∈ WG, w.before args s = true) → va_P z.1 classes (wv z ad E M) H → va_S A s.heap H locs → W p l e (rmK 1 42 0 0) s m args below meth c H locs 0 0 (MQ below (QK z A (fun _ => some (.int (oI r))) (fun _ => (wv z ad E M))) args s 0 0 A) (F0 m 0 ls []) := by
    intro H locs args hts hP hS
    unfold f_Bx_kindOfTrial at h
    refine lv_iconst (v := oI 0) hx hb d_2_9_0 (by decide +kernel) ?_
    refine lv_istore_n (lv' := [(1, .int (oI 0)), (0, .ref (ad 2))]) hx hb d_2_9_1 rfl hl (by decide) rfl (fun ls hl => ?_)
    obtain ⟨⟨t104, v104_1⟩, g104, h⟩ := bd_e h
    refine s_Bx_kindOfTrial_2 l z ad E hx hb hml hts hown hlocks hA hG hZ hL FU M 0 t104 v104_1 g104 (fun e104 H locs ls hP hD hS hl => ?_) (fun e104 H locs ls hP hD hS hl => ?_) H locs ls hP hD hS (lv_sub hl [1, 0] rfl)
    · subst e104
      have h := ite_t rfl h
      refine lv_iload_n hx hb d_2_9_18 rfl (lv_at hl 0 rfl) ?_
      obtain rfl := in1 h
      exact W.iret hx hb hr (fun t ht hW => qkA hP hD hS (fun k => k) rfl rfl ht) hS.2.2 d_2_9_19
    · subst e104
      have h := ite_f (by decide) h
      have h := ite_t rfl h
      refine lv_iconst (v := oI (-1)) hx hb d_2_9_26 (by decide +kernel) ?_
      obtain rfl := in1 h
      exact W.iret hx hb hr (fun t ht hW => qkA hP hD hS (fun k => k) rfl rfl ht) hS.2.2 d_2_9_27
  exact key _ _ _ hts hP hS
set_option maxRecDepth 100000 in
set_option maxHeartbeats 4000000 in
theorem s_Bx_keepTrial (l : Launch) (z : Zz) (ad : Nat → Nat) (E : Ev) (M : Mm) (r : Int) (N : Mm) (hL : Lay E) (h : f_Bx_keepTrial E M = some (r, N)) : CT l z ⟨"Ballothall$BallotBox", "keepTrial", "()I"⟩ prog_2_method_11_code 2 (some .int) [.ref (ad 2)] (wv z ad E M) 1 60 0 0 (fun _ => some (.int (oI r))) (fun _ => (wv z ad E N)) := by
  refine CT.of (own := "Ballothall$BallotBox") (by decide +kernel) (Nat.le_of_ble_eq_true rfl) rfl (fun p e s m below meth c A ls hx hb hml hr hts hown hlocks hin hA hG hZ hP hD hS hl => ?_)
  have hl : lv_has ls 2 [(0, .ref (ad 2))] := hl
  have key : ∀ (H : Heap) (locs : List Loc) (args : Array Value), (∀ w ∈ WG, w.before args s = true) → va_P z.1 classes (wv z ad E M) H → va_S A s.heap H locs → W p l e (rmK 1 60 0 0) s m args below meth c H locs 0 0 (MQ below (QK z A (fun _ => some (.int (oI r))) (fun _ => (wv z ad E N))) args s 0 0 A) (F0 m 0 ls []) := by
    intro H locs args hts hP hS
    unfold f_Bx_keepTrial at h
    refine lv_aload_n hx hb d_2_11_0 rfl (lv_at hl 0 rfl) ?_
    refine m_gi (C := "Ballothall$BallotBox") (T := TX0) (N := 10) (ci := 0) (k := 3) hx hb hts iX0 hown hG hP (yi_2 hL) (yt_2 hL) rfl (by decide) w_60 (fun _ h9 => h9) rfl rfl d_2_11_1 ?_
    refine lv_istore_n (lv' := [(1, .int (oI (M 2 3))), (0, .ref (ad 2))]) hx hb d_2_11_4 rfl hl (by decide) rfl (fun ls hl => ?_)
    refine lv_aload_n hx hb d_2_11_5 rfl (lv_at hl 1 rfl) ?_
    refine m_gr (j := 5) (C := "Ballothall$BallotBox") (T := TX0) (N := 10) (ci := 0) (k := 5) hx hb hts iX0 hown hG hP (yi_2 hL) (yt_2 hL) rfl (by decide) w_63 (fun _ h9 => h9) rfl rfl (yr_2_5 hL) d_2_11_6 ?_
    refine lv_iload_n hx hb d_2_11_9 rfl (lv_at hl 0 rfl) ?_
    refine lv_iconst (v := oI 0) hx hb d_2_11_10 (by decide +kernel) ?_
    obtain ⟨ok100, h⟩ := ck_e h
    refine m_is hx hb hG hP hD hS (yi_5 hL) (yt_5 hL) ok100 d_2_11_11 (fun H locs hP hD hS => ?_)
    have hP : va_P z.1 classes (wv z ad E (u2 M 5 (M 2 3).toNat 0)) H := hP
    have hD : va_D A (wv z ad E (u2 M 5 (M 2 3).toNat 0)) := hD
    refine lv_aload_n hx hb d_2_11_12 rfl (lv_at hl 1 rfl) ?_
    refine m_gr (j := 6) (C := "Ballothall$BallotBox") (T := TX0) (N := 10) (ci := 0) (k := 6) hx hb hts iX0 hown hG hP (yi_2 hL) (yt_2 hL) rfl (by decide) w_68 (fun _ h9 => h9) rfl rfl (yr_2_6 hL) d_2_11_13 ?_
    refine lv_iload_n hx hb d_2_11_16 rfl (lv_at hl 0 rfl) ?_
    refine lv_aload_n hx hb d_2_11_17 rfl (lv_at hl 1 rfl) ?_
    refine m_gr (j := 6) (C := "Ballothall$BallotBox") (T := TX0) (N := 10) (ci := 0) (k := 6) hx hb hts iX0 hown hG hP (yi_2 hL) (yt_2 hL) rfl (by decide) w_68 (fun _ h9 => h9) rfl rfl (yr_2_6 hL) d_2_11_18 ?_
    refine lv_bipush (v := oI 30) hx hb d_2_11_21 (by decide +kernel) ?_
    refine m_ia hx hb hG hP (yi_6 hL) (yt_6 hL) (by decide +kernel) d_2_11_23 ?_
    refine nrm (x1 := oI ((u2 M 5 (M 2 3).toNat 0) 6 30)) rfl ?_
    obtain ⟨v101, e101, h⟩ := nb_e h
    refine nrm (congrArg oI e101.symm) ?_
    refine m_is hx hb hG hP hD hS (yi_6 hL) (yt_6 hL) ok100 d_2_11_24 (fun H locs hP hD hS => ?_)
    have hP : va_P z.1 classes (wv z ad E (u2 (u2 M 5 (M 2 3).toNat 0) 6 (M 2 3).toNat v101)) H := hP
    have hD : va_D A (wv z ad E (u2 (u2 M 5 (M 2 3).toNat 0) 6 (M 2 3).toNat v101)) := hD
    refine lv_aload_n hx hb d_2_11_25 rfl (lv_at hl 1 rfl) ?_
    refine m_gr (j := 7) (C := "Ballothall$BallotBox") (T := TX0) (N := 10) (ci := 0) (k := 7) hx hb hts iX0 hown hG hP (yi_2 hL) (yt_2 hL) rfl (by decide) w_72 (fun _ h9 => h9) rfl rfl (yr_2_7 hL) d_2_11_26 ?_
    refine lv_iload_n hx hb d_2_11_29 rfl (lv_at hl 0 rfl) ?_
    refine lv_aload_n hx hb d_2_11_30 rfl (lv_at hl 1 rfl) ?_
    refine m_gr (j := 7) (C := "Ballothall$BallotBox") (T := TX0) (N := 10) (ci := 0) (k := 7) hx hb hts iX0 hown hG hP (yi_2 hL) (yt_2 hL) rfl (by decide) w_72 (fun _ h9 => h9) rfl rfl (yr_2_7 hL) d_2_11_31 ?_
    refine lv_bipush (v := oI 30) hx hb d_2_11_34 (by decide +kernel) ?_
    refine m_ia hx hb hG hP (yi_7 hL) (yt_7 hL) (by decide +kernel) d_2_11_36 ?_
    refine nrm (x1 := oI ((u2 (u2 M 5 (M 2 3).toNat 0) 6 (M 2 3).toNat v101) 7 30)) rfl ?_
    obtain ⟨v102, e102, h⟩ := nb_e h
    refine nrm (congrArg oI e102.symm) ?_
    refine m_is hx hb hG hP hD hS (yi_7 hL) (yt_7 hL) ok100 d_2_11_37 (fun H locs hP hD hS => ?_)
    have hP : va_P z.1 classes (wv z ad E (u2 (u2 (u2 M 5 (M 2 3).toNat 0) 6 (M 2 3).toNat v101) 7 (M 2 3).toNat v102)) H := hP
    have hD : va_D A (wv z ad E (u2 (u2 (u2 M 5 (M 2 3).toNat 0) 6 (M 2 3).toNat v101) 7 (M 2 3).toNat v102)) := hD
    refine lv_aload_n hx hb d_2_11_38 rfl (lv_at hl 1 rfl) ?_
    refine m_gr (j := 8) (C := "Ballothall$BallotBox") (T := TX0) (N := 10) (ci := 0) (k := 8) hx hb hts iX0 hown hG hP (yi_2 hL) (yt_2 hL) rfl (by decide) w_74 (fun _ h9 => h9) rfl rfl (yr_2_8 hL) d_2_11_39 ?_
    refine lv_bipush (v := oI 30) hx hb d_2_11_42 (by decide +kernel) ?_
    refine m_ar (k := 39) hx hb hG hP (yi_8 hL) (yt_8 hL) (by decide +kernel) ((ya_8 hL (by decide +kernel)).trans (by decide +kernel)) d_2_11_44 ?_
    refine lv_iconst (v := oI 0) hx hb d_2_11_45 (by decide +kernel) ?_
    refine lv_aload_n hx hb d_2_11_46 rfl (lv_at hl 1 rfl) ?_
    refine m_gr (j := 8) (C := "Ballothall$BallotBox") (T := TX0) (N := 10) (ci := 0) (k := 8) hx hb hts iX0 hown hG hP (yi_2 hL) (yt_2 hL) rfl (by decide) w_74 (fun _ h9 => h9) rfl rfl (yr_2_8 hL) d_2_11_47 ?_
    refine lv_iload_n hx hb d_2_11_50 rfl (lv_at hl 0 rfl) ?_
    refine m_ar (k := (9 + (M 2 3).toNat)) hx hb hG hP (yi_8 hL) (yt_8 hL) ok100 (ya_8 hL (inb_lt ok100)) d_2_11_51 ?_
    refine lv_iconst (v := oI 0) hx hb d_2_11_52 (by decide +kernel) ?_
    refine lv_bipush (v := oI 8) hx hb d_2_11_53 (by decide +kernel) ?_
    obtain ⟨ok103, h⟩ := ck_e h
    refine m_cpy hx hb (by rw [hml]; exact hl.1.symm) hown (hts _ w_1049) (hts _ w_621) (hts _ w_620) (hts _ w_24) hG hP hD hS (yi_39 hL) (yt_39 hL) (yg_8 hL ok100).1 (yg_8 hL ok100).2 ok103 (Nat.le_of_ble_eq_true rfl) (Nat.le_of_ble_eq_true rfl) d_2_11_55 (fun H locs hP hD hS => ?_)
    have hP : va_P z.1 classes (wv z ad E (uA (u2 (u2 (u2 M 5 (M 2 3).toNat 0) 6 (M 2 3).toNat v101) 7 (M 2 3).toNat v102) (9 + (M 2 3).toNat) (va_cpy ((u2 (u2 (u2 M 5 (M 2 3).toNat 0) 6 (M 2 3).toNat v101) 7 (M 2 3).toNat v102) 39) ((u2 (u2 (u2 M 5 (M 2 3).toNat 0) 6 (M 2 3).toNat v101) 7 (M 2 3).toNat v102) (9 + (M 2 3).toNat)) 0 0 8))) H := hP
    have hD : va_D A (wv z ad E (uA (u2 (u2 (u2 M 5 (M 2 3).toNat 0) 6 (M 2 3).toNat v101) 7 (M 2 3).toNat v102) (9 + (M 2 3).toNat) (va_cpy ((u2 (u2 (u2 M 5 (M 2 3).toNat 0) 6 (M 2 3).toNat v101) 7 (M 2 3).toNat v102) 39) ((u2 (u2 (u2 M 5 (M 2 3).toNat 0) 6 (M 2 3).toNat v101) 7 (M 2 3).toNat v102) (9 + (M 2 3).toNat)) 0 0 8))) := hD
    obtain ⟨M104, e104, h⟩ := nb_e h
    rw [← e104] at hP hD
    refine lv_aload_n hx hb d_2_11_58 rfl (lv_at hl 1 rfl) ?_
    refine lv_dup hx hb d_2_11_59 rfl ?_
    refine m_gi (C := "Ballothall$BallotBox") (T := TX0) (N := 10) (ci := 0) (k := 3) hx hb hts iX0 hown hG hP (yi_2 hL) (yt_2 hL) rfl (by decide) w_60 (fun _ h9 => h9) rfl rfl d_2_11_60 ?_
    refine lv_iconst (v := oI 1) hx hb d_2_11_63 (by decide +kernel) ?_
    refine lv_iadd hx hb d_2_11_64 ?_
    refine nrm (oI_add _ _) ?_
    refine m_pi (C := "Ballothall$BallotBox") (T := TX0) (N := 10) (ci := 0) (k := 3) (ty := .int) hx hb hts iX0 hown hG hP hD hS (yi_2 hL) (yt_2 hL) rfl (by decide) w_60 (fun _ h9 => h9) rfl rfl tyX0_ok nmX0 rfl (by decide +kernel) rfl rfl d_2_11_65 (fun H locs hP hD hS => ?_)
    have hP : va_P z.1 classes (wv z ad E (u2 M104 2 3 ((M104 2 3) + 1))) H := hP
    have hD : va_D A (wv z ad E (u2 M104 2 3 ((M104 2 3) + 1))) := hD
    refine lv_iload_n hx hb d_2_11_68 rfl (lv_at hl 0 rfl) ?_
    obtain ⟨rfl, rfl⟩ := in2 h
    exact W.iret hx hb hr (fun t ht hW => qkA hP hD hS (fun k => k) rfl rfl ht) hS.2.2 d_2_11_69
  exact key _ _ _ hts hP hS
set_option maxRecDepth 100000 in
set_option maxHeartbeats 4000000 in
theorem b_B_ballots_j109 (l : Launch) (z : Zz) (ad : Nat → Nat) (E : Ev) (M : Mm) (x1 : Int) (x3 : Int) (r : Int) (N : Mm) {p : Program} {e : Env} {s : State} {m : MethodId} {below : List Frame} {meth : Method} {c : Code} {A : Nat → Prop} {args : Array Value} (hx : p.tables.exec = Jvm.exec) (hb : c.code = prog_1_method_5_code) (hml : c.maxLocals = 4) (hts : ∀ w ∈ WG, w.before args s = true) (hown : s.vm.findClass "Ballothall" = some m.cls) (hlocks : meth.locks = false) (hA : ∀ q, s.heap.size ≤ q → A q) (hG : KG z s) (hZ : FZ z A s) (hL : Lay E) (hr : meth.sig.returnType = (some .int)) (h : B_ballots_j109 E M x1 x3 = some (r, N)) : ∀ (H : Heap) (locs : List Loc) (ls : Array Slot), va_P z.1 classes (wv z ad E M) H → va_D A (wv z ad E M) → va_S A s.heap H locs → lv_has ls 4 [(0, .ref (ad 1)), (1, .int (oI x1)), (3, .int (oI x3))] → W p l e (rmK 3 90 0 0) s m args below meth c H locs 0 0 (MQ below (QK z A (fun _ => some (.int (oI r))) (fun _ => (wv z ad E N))) args s 0 0 A) (F0 m 109 ls []) := by
  intro H locs ls hP hD hS hl
  unfold B_ballots_j109 at h
  refine lv_aload_n hx hb d_1_5_109 rfl (lv_at hl 0 rfl) ?_
  refine m_gr (j := 2) (C := "Ballothall") (T := TX11) (N := 14) (ci := 11) (k := 0) hx hb hts iX11 hown hG hP (yi_1 hL) (yt_1 hL) rfl (by decide) w_397 (fun _ h9 => h9) rfl rfl (yr_1_0 hL) d_1_5_110 ?_
  refine lv_iconst (v := oI 0) hx hb d_1_5_113 (by decide +kernel) ?_
  refine m_piN (C := "Ballothall$BallotBox") (T := TX0) (N := 10) (ci := 0) (k := 1) (ty := .int) hx hb hts iX0 hown hG hP hD hS (yi_2 hL) (yt_2 hL) rfl (by decide) n_49 rfl (fun _ h9 => h9) rfl rfl tyX0_ok nmX0 rfl (by decide +kernel) rfl rfl d_1_5_114 (fun H locs hP hD hS => ?_)
  have hP : va_P z.1 classes (wv z ad E (u2 M 2 1 0)) H := hP
  have hD : va_D A (wv z ad E (u2 M 2 1 0)) := hD
  refine lv_aload_n hx hb d_1_5_117 rfl (lv_at hl 0 rfl) ?_
  refine m_gr (j := 2) (C := "Ballothall") (T := TX11) (N := 14) (ci := 11) (k := 0) hx hb hts iX11 hown hG hP (yi_1 hL) (yt_1 hL) rfl (by decide) w_397 (fun _ h9 => h9) rfl rfl (yr_1_0 hL) d_1_5_118 ?_
  refine m_grN (j := 5) (C := "Ballothall$BallotBox") (T := TX0) (N := 10) (ci := 0) (k := 5) hx hb hts iX0 hown hG hP (yi_2 hL) (yt_2 hL) rfl (by decide) n_66 rfl (fun _ h9 => h9) rfl rfl (yr_2_5 hL) d_1_5_121 ?_
  refine lv_iload_n hx hb d_1_5_124 rfl (lv_at hl 2 rfl) ?_
  refine lv_dup2_11 hx hb d_1_5_125 rfl rfl ?_
  obtain ⟨ok108, h⟩ := ck_e h
  refine m_ia hx hb hG hP (yi_5 hL) (yt_5 hL) ok108 d_1_5_126 ?_
  refine lv_iload_n hx hb d_1_5_127 rfl (lv_at hl 1 rfl) ?_
  refine lv_iadd hx hb d_1_5_128 ?_
  refine nrm (oI_add _ _) ?_
  obtain ⟨v109, e109, h⟩ := nb_e h
  refine nrm (congrArg oI e109.symm) ?_
  refine m_is hx hb hG hP hD hS (yi_5 hL) (yt_5 hL) ok108 d_1_5_129 (fun H locs hP hD hS => ?_)
  have hP : va_P z.1 classes (wv z ad E (u2 (u2 M 2 1 0) 5 x3.toNat v109)) H := hP
  have hD : va_D A (wv z ad E (u2 (u2 M 2 1 0) 5 x3.toNat v109)) := hD
  refine lv_iload_n hx hb d_1_5_130 rfl (lv_at hl 2 rfl) ?_
  obtain ⟨rfl, rfl⟩ := in2 h
  exact W.iret hx hb hr (fun t ht hW => qkA hP hD hS (fun k => k) rfl rfl ht) hS.2.2 d_1_5_131
set_option maxRecDepth 100000 in
set_option maxHeartbeats 4000000 in
theorem s_B_ballots (l : Launch) (z : Zz) (ad : Nat → Nat) (E : Ev) (M : Mm) (x1 : Int) (r : Int) (N : Mm) (hL : Lay E) (h : f_B_ballots E M x1 = some (r, N)) : CT l z ⟨"Ballothall", "ballots", "(I)I"⟩ prog_1_method_5_code 4 (some .int) [.ref (ad 1), .int (oI x1)] (wv z ad E M) 3 90 0 0 (fun _ => some (.int (oI r))) (fun _ => (wv z ad E N)) := by
  refine CT.of (own := "Ballothall") (by decide +kernel) (Nat.le_of_ble_eq_true rfl) rfl (fun p e s m below meth c A ls hx hb hml hr hts hown hlocks hin hA hG hZ hP hD hS hl => ?_)
  have hl : lv_has ls 4 [(0, .ref (ad 1)), (1, .int (oI x1))] := hl
  have key : ∀ (H : Heap) (locs : List Loc) (args : Array Value), (∀ w ∈ WG, w.before args s = true) → va_P z.1 classes (wv z ad E M) H → va_S A s.heap H locs → W p l e (rmK 3 90 0 0) s m args below meth c H locs 0 0 (MQ below (QK z A (fun _ => some (.int (oI r))) (fun _ => (wv z ad E N))) args s 0 0 A) (F0 m 0 ls []) := by
    intro H locs args hts hP hS
    unfold f_B_ballots at h
    refine lv_iload_n hx hb d_1_5_0 rfl (lv_at hl 1 rfl) ?_
    refine lv_iconst (v := oI 1) hx hb d_1_5_1 (by decide +kernel) ?_
    refine lv_ldc hx hb hown (hts _ w_1022) d_1_5_2 ?_
    refine nrm (x1 := oI 100000) (by decide +kernel) ?_
    obtain ⟨_, g100, h⟩ := bd_e h
    refine kS (As := [.int (oI x1), .int (oI 1), .int (oI 100000)]) (rest := []) (s_B_needRange l z ad E M x1 1 100000 hL g100) hx hb hml hown hts w_548 w_546 w_547 w_1 md_519134 ⟨Nat.le_of_ble_eq_true rfl, Nat.le_of_ble_eq_true rfl⟩ hG hZ hP hD hS hA rfl hl.1 rfl (Nat.le_of_ble_eq_true rfl) d_1_5_4 ⟨Nat.le_of_ble_eq_true rfl, Nat.le_of_ble_eq_true rfl⟩ (fun _ H locs hP hD hS => ?_)
    have hP : va_P z.1 classes (wv z ad E M) H := hP
    have hD : va_D A (wv z ad E M) := hD
    refine W.eq (g2 := F0 m 7 ls []) rfl ?_
    refine lv_aload_n hx hb d_1_5_7 rfl (lv_at hl 0 rfl) ?_
    refine m_gr (j := 2) (C := "Ballothall") (T := TX11) (N := 14) (ci := 11) (k := 0) hx hb hts iX11 hown hG hP (yi_1 hL) (yt_1 hL) rfl (by decide) w_397 (fun _ h9 => h9) rfl rfl (yr_1_0 hL) d_1_5_8 ?_
    obtain ⟨⟨r101, M101⟩, g101, h⟩ := bd_e h
    refine kVN (As := []) (rest := []) (s_Bx_readTrial l z ad E M r101 M101 hL g101) hx hb hml hown hts w_1026 n_1023 w_1025 w_s_f90180 w_2 md_45ab82 ⟨Nat.le_of_ble_eq_true rfl, Nat.le_of_ble_eq_true rfl⟩ hG hZ hP hD hS hA 2 (wv_o (ci := 0) (yi_2 hL) (yt_2 hL)) rfl rfl rfl hl.1 rfl (Nat.le_of_ble_eq_true rfl) d_1_5_11 ⟨Nat.le_of_ble_eq_true rfl, Nat.le_of_ble_eq_true rfl⟩ (fun _ H locs hP hD hS => ?_)
    have hP : va_P z.1 classes (wv z ad E M101) H := hP
    have hD : va_D A (wv z ad E M101) := hD
    refine W.eq (g2 := F0 m 14 ls [.int (oI r101)]) rfl ?_
    refine lv_istore_n (lv' := [(2, .int (oI r101)), (0, .ref (ad 1)), (1, .int (oI x1))]) hx hb d_1_5_14 rfl hl (by decide) rfl (fun ls hl => ?_)
    refine lv_iload_n hx hb d_1_5_15 rfl (lv_at hl 0 rfl) ?_
    refine lv_iconst (v := oI (-1)) hx hb d_1_5_16 (by decide +kernel) ?_
    obtain ⟨ok102, h⟩ := ck_e h
    refine lv_icmp_eq (tgt := 33) hx hb d_1_5_17 (by decide) (fun c9 => ?_) (fun c9 => ?_)
    · have h := ite_t ((oI_eq (a := r101) (b := (-1 : Int)) ok102 (by decide)).mp c9) h
      refine lv_aload_n hx hb d_1_5_33 rfl (lv_at hl 1 rfl) ?_
      refine m_gr (j := 2) (C := "Ballothall") (T := TX11) (N := 14) (ci := 11) (k := 0) hx hb hts iX11 hown hG hP (yi_1 hL) (yt_1 hL) rfl (by decide) w_397 (fun _ h9 => h9) rfl rfl (yr_1_0 hL) d_1_5_34 ?_
      obtain ⟨r103, g103, h⟩ := bd_e h
      refine kVN (As := []) (rest := []) (s_Bx_kindOfTrial l z ad E M101 r103 hL g103) hx hb hml hown hts w_1040 n_1037 w_1039 w_s_49da49 w_2 md_9be7b3 ⟨Nat.le_of_ble_eq_true rfl, Nat.le_of_ble_eq_true rfl⟩ hG hZ hP hD hS hA 2 (wv_o (ci := 0) (yi_2 hL) (yt_2 hL)) rfl rfl rfl hl.1 rfl (Nat.le_of_ble_eq_true rfl) d_1_5_37 ⟨Nat.le_of_ble_eq_true rfl, Nat.le_of_ble_eq_true rfl⟩ (fun _ H locs hP hD hS => ?_)
      have hP : va_P z.1 classes (wv z ad E M101) H := hP
      have hD : va_D A (wv z ad E M101) := hD
      refine W.eq (g2 := F0 m 40 ls [.int (oI r103)]) rfl ?_
      refine lv_istore_n (lv' := [(3, .int (oI r103)), (2, .int (oI r101)), (0, .ref (ad 1)), (1, .int (oI x1))]) hx hb d_1_5_40 rfl hl (by decide) rfl (fun ls hl => ?_)
      refine lv_iload_n hx hb d_1_5_41 rfl (lv_at hl 0 rfl) ?_
      refine lv_iconst (v := oI (-1)) hx hb d_1_5_42 (by decide +kernel) ?_
      obtain ⟨ok104, h⟩ := ck_e h
      refine lv_icmp_ne (tgt := 78) hx hb d_1_5_43 (by decide) (fun c9 => ?_) (fun c9 => ?_)
      · have h := ite_f (fun q => c9 ((oI_eq (a := r103) (b := (-1 : Int)) ok104 (by decide)).mpr q)) h
        refine lv_aload_n hx hb d_1_5_78 rfl (lv_at hl 2 rfl) ?_
        refine m_gr (j := 2) (C := "Ballothall") (T := TX11) (N := 14) (ci := 11) (k := 0) hx hb hts iX11 hown hG hP (yi_1 hL) (yt_1 hL) rfl (by decide) w_397 (fun _ h9 => h9) rfl rfl (yr_1_0 hL) d_1_5_79 ?_
        refine m_grN (j := 5) (C := "Ballothall$BallotBox") (T := TX0) (N := 10) (ci := 0) (k := 5) hx hb hts iX0 hown hG hP (yi_2 hL) (yt_2 hL) rfl (by decide) n_66 rfl (fun _ h9 => h9) rfl rfl (yr_2_5 hL) d_1_5_82 ?_
        refine lv_iload_n hx hb d_1_5_85 rfl (lv_at hl 0 rfl) ?_
        obtain ⟨ok105, h⟩ := ck_e h
        refine m_ia hx hb hG hP (yi_5 hL) (yt_5 hL) ok105 d_1_5_86 ?_
        refine lv_iload_n hx hb d_1_5_87 rfl (lv_at hl 3 rfl) ?_
        refine lv_iadd hx hb d_1_5_88 ?_
        refine nrm (oI_add _ _) ?_
        refine lv_ldc hx hb hown (hts _ w_1050) d_1_5_89 ?_
        refine nrm (x1 := oI 1000000) (by decide +kernel) ?_
        obtain ⟨_, g106, h⟩ := bd_e h
        refine kS (As := [.int (oI ((M101 5 r103.toNat) + x1)), .int (oI 1000000)]) (rest := []) (s_B_needRoom l z ad E M101 ((M101 5 r103.toNat) + x1) 1000000 hL g106) hx hb hml hown hts w_446 w_444 w_445 w_1 md_ec9fa9 ⟨Nat.le_of_ble_eq_true rfl, Nat.le_of_ble_eq_true rfl⟩ hG hZ hP hD hS hA rfl hl.1 rfl (Nat.le_of_ble_eq_true rfl) d_1_5_91 ⟨Nat.le_of_ble_eq_true rfl, Nat.le_of_ble_eq_true rfl⟩ (fun _ H locs hP hD hS => ?_)
        have hP : va_P z.1 classes (wv z ad E M101) H := hP
        have hD : va_D A (wv z ad E M101) := hD
        refine W.eq (g2 := F0 m 94 ls []) rfl ?_
        refine lv_aload_n hx hb d_1_5_94 rfl (lv_at hl 2 rfl) ?_
        refine lv_iconst (v := oI 4) hx hb d_1_5_95 (by decide +kernel) ?_
        refine lv_iload_n hx hb d_1_5_96 rfl (lv_at hl 0 rfl) ?_
        refine lv_aload_n hx hb d_1_5_97 rfl (lv_at hl 2 rfl) ?_
        refine m_gr (j := 2) (C := "Ballothall") (T := TX11) (N := 14) (ci := 11) (k := 0) hx hb hts iX11 hown hG hP (yi_1 hL) (yt_1 hL) rfl (by decide) w_397 (fun _ h9 => h9) rfl rfl (yr_1_0 hL) d_1_5_98 ?_
        refine m_grN (j := 5) (C := "Ballothall$BallotBox") (T := TX0) (N := 10) (ci := 0) (k := 5) hx hb hts iX0 hown hG hP (yi_2 hL) (yt_2 hL) rfl (by decide) n_66 rfl (fun _ h9 => h9) rfl rfl (yr_2_5 hL) d_1_5_101 ?_
        refine lv_iload_n hx hb d_1_5_104 rfl (lv_at hl 0 rfl) ?_
        refine m_ia hx hb hG hP (yi_5 hL) (yt_5 hL) ok105 d_1_5_105 ?_
        obtain ⟨M107, g107, h⟩ := bd_e h
        refine kV (As := [.int (oI 4), .int (oI r103), .int (oI (M101 5 r103.toNat))]) (rest := []) (s_B_remember l z ad E M101 4 r103 (M101 5 r103.toNat) M107 hL g107) hx hb hml hown hts w_519 w_516 w_518 w_s_b872b3 w_1 md_7af0bb ⟨Nat.le_of_ble_eq_true rfl, Nat.le_of_ble_eq_true rfl⟩ hG hZ hP hD hS hA 1 (wv_o (ci := 11) (yi_1 hL) (yt_1 hL)) rfl rfl rfl hl.1 rfl (Nat.le_of_ble_eq_true rfl) d_1_5_106 ⟨Nat.le_of_ble_eq_true rfl, Nat.le_of_ble_eq_true rfl⟩ (fun _ H locs hP hD hS => ?_)
        have hP : va_P z.1 classes (wv z ad E M107) H := hP
        have hD : va_D A (wv z ad E M107) := hD
        refine W.eq (g2 := F0 m 109 ls []) rfl ?_
        exact b_B_ballots_j109 l z ad E M107 x1 r103 r N hx hb hml hts hown hlocks hA hG hZ hL hr h H locs ls hP hD hS (lv_sub hl [2, 3, 0] rfl)
      · have h := ite_t ((oI_eq (a := r103) (b := (-1 : Int)) ok104 (by decide)).mp c9) h
        refine lv_aload_n hx hb d_1_5_46 rfl (lv_at hl 2 rfl) ?_
        refine m_gr (j := 2) (C := "Ballothall") (T := TX11) (N := 14) (ci := 11) (k := 0) hx hb hts iX11 hown hG hP (yi_1 hL) (yt_1 hL) rfl (by decide) w_397 (fun _ h9 => h9) rfl rfl (yr_1_0 hL) d_1_5_47 ?_
        refine m_giN (C := "Ballothall$BallotBox") (T := TX0) (N := 10) (ci := 0) (k := 3) hx hb hts iX0 hown hG hP (yi_2 hL) (yt_2 hL) rfl (by decide) n_58 rfl (fun _ h9 => h9) rfl rfl d_1_5_50 ?_
        refine lv_iconst (v := oI 1) hx hb d_1_5_53 (by decide +kernel) ?_
        refine lv_iadd hx hb d_1_5_54 ?_
        refine nrm (oI_add _ _) ?_
        refine lv_bipush (v := oI 30) hx hb d_1_5_55 (by decide +kernel) ?_
        obtain ⟨_, g110, h⟩ := bd_e h
        refine kS (As := [.int (oI ((M101 2 3) + 1)), .int (oI 30)]) (rest := []) (s_B_needRoom l z ad E M101 ((M101 2 3) + 1) 30 hL g110) hx hb hml hown hts w_446 w_444 w_445 w_1 md_ec9fa9 ⟨Nat.le_of_ble_eq_true rfl, Nat.le_of_ble_eq_true rfl⟩ hG hZ hP hD hS hA rfl hl.1 rfl (Nat.le_of_ble_eq_true rfl) d_1_5_57 ⟨Nat.le_of_ble_eq_true rfl, Nat.le_of_ble_eq_true rfl⟩ (fun _ H locs hP hD hS => ?_)
        have hP : va_P z.1 classes (wv z ad E M101) H := hP
        have hD : va_D A (wv z ad E M101) := hD
        refine W.eq (g2 := F0 m 60 ls []) rfl ?_
        refine lv_aload_n hx hb d_1_5_60 rfl (lv_at hl 2 rfl) ?_
        refine m_gr (j := 2) (C := "Ballothall") (T := TX11) (N := 14) (ci := 11) (k := 0) hx hb hts iX11 hown hG hP (yi_1 hL) (yt_1 hL) rfl (by decide) w_397 (fun _ h9 => h9) rfl rfl (yr_1_0 hL) d_1_5_61 ?_
        obtain ⟨⟨r111, M111⟩, g111, h⟩ := bd_e h
        refine kVN (As := []) (rest := []) (s_Bx_keepTrial l z ad E M101 r111 M111 hL g111) hx hb hml hown hts w_1048 n_1045 w_1047 w_s_2f4554 w_2 md_b91f95 ⟨Nat.le_of_ble_eq_true rfl, Nat.le_of_ble_eq_true rfl⟩ hG hZ hP hD hS hA 2 (wv_o (ci := 0) (yi_2 hL) (yt_2 hL)) rfl rfl rfl hl.1 rfl (Nat.le_of_ble_eq_true rfl) d_1_5_64 ⟨Nat.le_of_ble_eq_true rfl, Nat.le_of_ble_eq_true rfl⟩ (fun _ H locs hP hD hS => ?_)
        have hP : va_P z.1 classes (wv z ad E M111) H := hP
        have hD : va_D A (wv z ad E M111) := hD
        refine W.eq (g2 := F0 m 67 ls [.int (oI r111)]) rfl ?_
        refine lv_istore_n (lv' := [(3, .int (oI r111)), (2, .int (oI r101)), (0, .ref (ad 1)), (1, .int (oI x1))]) hx hb d_1_5_67 rfl hl (by decide) rfl (fun ls hl => ?_)
        refine lv_aload_n hx hb d_1_5_68 rfl (lv_at hl 2 rfl) ?_
        refine lv_iconst (v := oI 3) hx hb d_1_5_69 (by decide +kernel) ?_
        refine lv_iload_n hx hb d_1_5_70 rfl (lv_at hl 0 rfl) ?_
        refine lv_iconst (v := oI 0) hx hb d_1_5_71 (by decide +kernel) ?_
        obtain ⟨M112, g112, h⟩ := bd_e h
        refine kV (As := [.int (oI 3), .int (oI r111), .int (oI 0)]) (rest := []) (s_B_remember l z ad E M111 3 r111 0 M112 hL g112) hx hb hml hown hts w_519 w_516 w_518 w_s_b872b3 w_1 md_7af0bb ⟨Nat.le_of_ble_eq_true rfl, Nat.le_of_ble_eq_true rfl⟩ hG hZ hP hD hS hA 1 (wv_o (ci := 11) (yi_1 hL) (yt_1 hL)) rfl rfl rfl hl.1 rfl (Nat.le_of_ble_eq_true rfl) d_1_5_72 ⟨Nat.le_of_ble_eq_true rfl, Nat.le_of_ble_eq_true rfl⟩ (fun _ H locs hP hD hS => ?_)
        have hP : va_P z.1 classes (wv z ad E M112) H := hP
        have hD : va_D A (wv z ad E M112) := hD
        refine W.eq (g2 := F0 m 75 ls []) rfl ?_
        refine lv_goto (tgt := 109) hx hb d_1_5_75 (by decide) ?_
        exact b_B_ballots_j109 l z ad E M112 x1 r111 r N hx hb hml hts hown hlocks hA hG hZ hL hr h H locs ls hP hD hS (lv_sub hl [2, 3, 0] rfl)
    · have h := ite_f (fun q => c9 ((oI_eq (a := r101) (b := (-1 : Int)) ok102 (by decide)).mpr q)) h
      refine lv_aload_n hx hb d_1_5_20 rfl (lv_at hl 1 rfl) ?_
      refine m_gr (j := 2) (C := "Ballothall") (T := TX11) (N := 14) (ci := 11) (k := 0) hx hb hts iX11 hown hG hP (yi_1 hL) (yt_1 hL) rfl (by decide) w_397 (fun _ h9 => h9) rfl rfl (yr_1_0 hL) d_1_5_21 ?_
      refine lv_iconst (v := oI 0) hx hb d_1_5_24 (by decide +kernel) ?_
      refine m_piN (C := "Ballothall$BallotBox") (T := TX0) (N := 10) (ci := 0) (k := 1) (ty := .int) hx hb hts iX0 hown hG hP hD hS (yi_2 hL) (yt_2 hL) rfl (by decide) n_49 rfl (fun _ h9 => h9) rfl rfl tyX0_ok nmX0 rfl (by decide +kernel) rfl rfl d_1_5_25 (fun H locs hP hD hS => ?_)
      have hP : va_P z.1 classes (wv z ad E (u2 M101 2 1 0)) H := hP
      have hD : va_D A (wv z ad E (u2 M101 2 1 0)) := hD
      refine lv_bipush (v := oI (-3)) hx hb d_1_5_28 (by decide +kernel) ?_
      refine lv_iload_n hx hb d_1_5_30 rfl (lv_at hl 0 rfl) ?_
      refine lv_isub hx hb d_1_5_31 ?_
      refine nrm (oI_sub _ _) ?_
      obtain ⟨rfl, rfl⟩ := in2 h
      exact W.iret hx hb hr (fun t ht hW => qkA hP hD hS (fun k => k) rfl rfl ht) hS.2.2 d_1_5_32
  exact key _ _ _ hts hP hS
