set_option maxRecDepth 100000 in
set_option maxHeartbeats 4000000 in
theorem s_Co_smallestPile_4 (l : Launch) (z : Zz) (ad : Nat → Nat) (E : Ev) {Q : State → Prop} {p : Program} {e : Env} {s : State} {m : MethodId} {below : List Frame} {meth : Method} {c : Code} {A : Nat → Prop} {args : Array Value} (hx : p.tables.exec = Jvm.exec) (hb : c.code = prog_5_method_11_code) (hml : c.maxLocals = 3) (hts : ∀ w ∈ WG, w.before args s = true) (hown : s.vm.findClass "Ballothall$Counting" = some m.cls) (hlocks : meth.locks = false) (hA : ∀ q, s.heap.size ≤ q → A q) (hG : KG z s) (hZ : FZ z A s) (hL : Lay E) : ∀ (fu : Nat) (M : Mm) (x1 : Int) (x2 : Int) (t : Nat) (w1 : Int) (w2 : Int), l_Co_smallestPile_4 E fu M x1 x2 = some (t, w1, w2) → (t = 1 → ∀ (H : Heap) (locs : List Loc) (ls : Array Slot), va_P z.1 classes (wv z ad E M) H → va_D A (wv z ad E M) → va_S A s.heap H locs → lv_has ls 3 [(1, .int (oI w1))] → W p l e (rmK 3 86 0 0) s m args below meth c H locs 0 0 Q (F0 m 48 ls [])) → ∀ (H : Heap) (locs : List Loc) (ls : Array Slot), va_P z.1 classes (wv z ad E M) H → va_D A (wv z ad E M) → va_S A s.heap H locs → lv_has ls 3 [(0, .ref (ad 179)), (1, .int (oI x1)), (2, .int (oI x2))] → W p l e (rmK 3 86 0 0) s m args below meth c H locs 0 0 Q (F0 m 4 ls []) := by
  intro fu
  induction fu with
  | zero =>
    intro M x1 x2 t w1 w2 h
    have h : (none : Option (Nat × Int × Int)) = some _ := h
    cases h
  | succ fu ih =>
    intro M x1 x2 t w1 w2 h k1 H locs ls hP hD hS hl
    obtain ⟨⟨t0, w10, w20⟩, g0, h⟩ := bd_e h
    refine b_Co_smallestPile_4b l z ad E M x1 x2 t0 w10 w20 hx hb hml hts hown hlocks hA hG hZ hL g0 (fun e0 => ?_) (fun e0 => ?_) H locs ls hP hD hS hl
    · subst e0
      have h := ite_t rfl h
      exact ih M w10 w20 t w1 w2 h k1
    · subst e0
      have h := ite_f (by decide) h
      obtain ⟨rfl, rfl, rfl⟩ := in3 h
      exact k1 rfl
set_option maxRecDepth 100000 in
set_option maxHeartbeats 4000000 in
theorem s_Co_smallestPile (l : Launch) (z : Zz) (ad : Nat → Nat) (E : Ev) (M : Mm) (r : Int)  (hL : Lay E) (h : f_Co_smallestPile E M = some r) : CT l z ⟨"Ballothall$Counting", "smallestPile", "()I"⟩ prog_5_method_11_code 3 (some .int) [.ref (ad 179)] (wv z ad E M) 3 86 0 0 (fun _ => some (.int (oI r))) (fun _ => (wv z ad E M)) := by
  refine CT.of (own := "Ballothall$Counting") (by decide +kernel) (Nat.le_of_ble_eq_true rfl) rfl (fun p e s m below meth c A ls hx hb hml hr hts hown hlocks hin hA hG hZ hP hD hS hl => ?_)
  have hl : lv_has ls 3 [(0, .ref (ad 179))] := hl
  have key : ∀ (H : Heap) (locs : List Loc) (args : Array Value), (∀ w ∈ WG, w.before args s = true) → va_P z.1 classes (wv z ad E M) H → va_S A s.heap H locs → W p l e (rmK 3 86 0 0) s m args below meth c H locs 0 0 (MQ below (QK z A (fun _ => some (.int (oI r))) (fun _ => (wv z ad E M))) args s 0 0 A) (F0 m 0 ls []) := by
    intro H locs args hts hP hS
    unfold f_Co_smallestPile at h
    refine lv_iconst (v := oI (-1)) hx hb d_5_11_0 (by decide +kernel) ?_
    refine lv_istore_n (lv' := [(1, .int (oI (-1))), (0, .ref (ad 179))]) hx hb d_5_11_1 rfl hl (by decide) rfl (fun ls hl => ?_)
    refine lv_iconst (v := oI 0) hx hb d_5_11_2 (by decide +kernel) ?_
    refine lv_istore_n (lv' := [(2, .int (oI 0)), (1, .int (oI (-1))), (0, .ref (ad 179))]) hx hb d_5_11_3 rfl hl (by decide) rfl (fun ls hl => ?_)
    obtain ⟨⟨t107, v107_1, v107_2⟩, g107, h⟩ := bd_e h
    obtain ⟨ok107, h⟩ := ck_e h
    refine s_Co_smallestPile_4 l z ad E hx hb hml hts hown hlocks hA hG hZ hL FU M (-1) 0 t107 v107_1 v107_2 g107 (fun e107 H locs ls hP hD hS hl => ?_) H locs ls hP hD hS (lv_sub hl [2, 1, 0] rfl)
    refine lv_iload_n hx hb d_5_11_48 rfl (lv_at hl 0 rfl) ?_
    obtain rfl := in1 h
    exact W.iret hx hb hr (fun t ht hW => qkA hP hD hS (fun k => k) rfl rfl ht) hS.2.2 d_5_11_49
  exact key _ _ _ hts hP hS
set_option maxRecDepth 100000 in
set_option maxHeartbeats 4000000 in
theorem b_Co_exclude_55b (l : Launch) (z : Zz) (ad : Nat → Nat) (E : Ev) (M : Mm) (q1 : Nat) (x2 : Int) (x3 : Int) (t : Nat) (w3 : Int) (N : Mm) {Q : State → Prop} {p : Program} {e : Env} {s : State} {m : MethodId} {below : List Frame} {meth : Method} {c : Code} {A : Nat → Prop} {args : Array Value} (hx : p.tables.exec = Jvm.exec) (hb : c.code = prog_5_method_14_code) (hml : c.maxLocals = 4) (hts : ∀ w ∈ WG, w.before args s = true) (hown : s.vm.findClass "Ballothall$Counting" = some m.cls) (hlocks : meth.locks = false) (hA : ∀ q, s.heap.size ≤ q → A q) (hG : KG z s) (hZ : FZ z A s) (hL : Lay E) (h : Co_exclude_55b E M q1 x2 x3 = some (t, w3, N)) (k0 : t = 0 → ∀ (H : Heap) (locs : List Loc) (ls : Array Slot), va_P z.1 classes (wv z ad E N) H → va_D A (wv z ad E N) → va_S A s.heap H locs → lv_has ls 4 [(0, .ref (ad 179)), (1, .ref (ad q1)), (2, .int (oI x2)), (3, .int (oI w3))] → W p l e (rmK 4 110 0 0) s m args below meth c H locs 0 0 Q (F0 m 55 ls [])) (k1 : t = 1 → ∀ (H : Heap) (locs : List Loc) (ls : Array Slot), va_P z.1 classes (wv z ad E N) H → va_D A (wv z ad E N) → va_S A s.heap H locs → lv_has ls 4 [] → W p l e (rmK 4 110 0 0) s m args below meth c H locs 0 0 Q (F0 m 87 ls [])) : ∀ (H : Heap) (locs : List Loc) (ls : Array Slot), va_P z.1 classes (wv z ad E M) H → va_D A (wv z ad E M) → va_S A s.heap H locs → lv_has ls 4 [(0, .ref (ad 179)), (1, .ref (ad q1)), (2, .int (oI x2)), (3, .int (oI x3))] → W p l e (rmK 4 110 0 0) s m args below meth c H locs 0 0 Q (F0 m 55 ls []) := by
  intro H locs ls hP hD hS hl
  unfold Co_exclude_55b at h
  obtain ⟨h_q1, h⟩ := ck_e h
  refine lv_iload_n hx hb d_5_14_55 rfl (lv_at hl 3 rfl) ?_
  refine lv_aload_n hx hb d_5_14_56 rfl (lv_at hl 1 rfl) ?_
  refine m_giN (C := "Ballothall$Count") (T := TX2) (N := 10) (ci := 2) (k := 2) hx hb hts iX2 hown hG hP (isCt_i h_q1) (isCt_T h_q1) rfl (by decide) n_1083 rfl (fun _ h9 => h9) rfl rfl d_5_14_57 ?_
  obtain ⟨ok106, h⟩ := ck_e h
  obtain ⟨ok107, h⟩ := ck_e h
  refine lv_icmp_ge (tgt := 87) hx hb d_5_14_60 (by decide) (fun c9 => ?_) (fun c9 => ?_)
  · have h := ite_t ((oI_le (a := (M q1 2)) (b := x3) ok107 ok106).mp c9) h
    obtain ⟨rfl, rfl, rfl⟩ := in3 h
    exact k1 rfl H locs ls hP hD hS (lv_sub hl [] rfl)
  · have h := ite_f (fun q => c9 ((oI_le (a := (M q1 2)) (b := x3) ok107 ok106).mpr q)) h
    refine lv_aload_n hx hb d_5_14_63 rfl (lv_at hl 0 rfl) ?_
    refine m_gr (j := 185) (C := "Ballothall$Counting") (T := TX3) (N := 15) (ci := 3) (k := 7) hx hb hts iX3 hown hG hP (yi_179 hL) (yt_179 hL) rfl (by decide) w_310 (fun _ h9 => h9) rfl rfl (yr_179_7 hL) d_5_14_64 ?_
    refine lv_aload_n hx hb d_5_14_67 rfl (lv_at hl 0 rfl) ?_
    refine lv_iload_n hx hb d_5_14_68 rfl (lv_at hl 3 rfl) ?_
    refine lv_iload_n hx hb d_5_14_69 rfl (lv_at hl 2 rfl) ?_
    obtain ⟨r108, g108, h⟩ := bd_e h
    refine kV (As := [.int (oI x3), .int (oI x2)]) (rest := [.ref (ad 185)]) (s_Co_weightOf l z ad E M x3 x2 r108 hL g108) hx hb hml hown hts w_1132 w_1129 w_1131 w_s_b275fa w_8 md_759e51 ⟨Nat.le_of_ble_eq_true rfl, Nat.le_of_ble_eq_true rfl⟩ hG hZ hP hD hS hA 179 (wv_o (ci := 3) (yi_179 hL) (yt_179 hL)) rfl rfl rfl hl.1 rfl (Nat.le_of_ble_eq_true rfl) d_5_14_70 ⟨Nat.le_of_ble_eq_true rfl, Nat.le_of_ble_eq_true rfl⟩ (fun _ H locs hP hD hS => ?_)
    have hP : va_P z.1 classes (wv z ad E M) H := hP
    have hD : va_D A (wv z ad E M) := hD
    obtain ⟨h_r108, h⟩ := ck_e h
    refine W.eq (g2 := F0 m 73 ls [.ref (ad r108), .ref (ad 185)]) rfl ?_
    obtain ⟨M109, g109, h⟩ := bd_e h
    refine kVN (As := [.ref (ad r108)]) (rest := []) (s_Na_copyFrom l z ad E M 185 r108 M109 hL g109) hx hb hml hown hts w_1175 n_1172 w_1174 w_s_8c9b61 w_9 md_68420c ⟨Nat.le_of_ble_eq_true rfl, Nat.le_of_ble_eq_true rfl⟩ hG hZ hP hD hS hA 185 (wv_o (ci := 8) (yi_185 hL) (yt_185 hL)) rfl rfl rfl hl.1 rfl (Nat.le_of_ble_eq_true rfl) d_5_14_73 ⟨Nat.le_of_ble_eq_true rfl, Nat.le_of_ble_eq_true rfl⟩ (fun _ H locs hP hD hS => ?_)
    have hP : va_P z.1 classes (wv z ad E M109) H := hP
    have hD : va_D A (wv z ad E M109) := hD
    refine W.eq (g2 := F0 m 76 ls []) rfl ?_
    refine lv_aload_n hx hb d_5_14_76 rfl (lv_at hl 0 rfl) ?_
    refine lv_iload_n hx hb d_5_14_77 rfl (lv_at hl 3 rfl) ?_
    obtain ⟨M110, g110, h⟩ := bd_e h
    refine kV (As := [.int (oI x3)]) (rest := []) (s_Co_passOn l z ad E M109 x3 M110 hL g110) hx hb hml hown hts w_1136 w_1133 w_1135 w_s_6bacc3 w_8 md_774b9e ⟨Nat.le_of_ble_eq_true rfl, Nat.le_of_ble_eq_true rfl⟩ hG hZ hP hD hS hA 179 (wv_o (ci := 3) (yi_179 hL) (yt_179 hL)) rfl rfl rfl hl.1 rfl (Nat.le_of_ble_eq_true rfl) d_5_14_78 ⟨Nat.le_of_ble_eq_true rfl, Nat.le_of_ble_eq_true rfl⟩ (fun _ H locs hP hD hS => ?_)
    have hP : va_P z.1 classes (wv z ad E M110) H := hP
    have hD : va_D A (wv z ad E M110) := hD
    refine W.eq (g2 := F0 m 81 ls []) rfl ?_
    refine lv_iinc (v := oI (x3 + 1)) (lv' := [(3, .int (oI (x3 + 1))), (0, .ref (ad 179)), (1, .ref (ad q1)), (2, .int (oI x2))]) hx hb d_5_14_81 hl (k := 3) rfl (oI_add x3 1) (by decide) rfl (fun ls hl => ?_)
    refine lv_goto (tgt := 55) hx hb d_5_14_84 (by decide) ?_
    obtain ⟨rfl, rfl, rfl⟩ := in3 h
    exact k0 rfl H locs ls hP hD hS (lv_sub hl [1, 2, 3, 0] rfl)
set_option maxRecDepth 100000 in
set_option maxHeartbeats 4000000 in
theorem s_Co_exclude_55 (l : Launch) (z : Zz) (ad : Nat → Nat) (E : Ev) (q1 : Nat) (x2 : Int) {Q : State → Prop} {p : Program} {e : Env} {s : State} {m : MethodId} {below : List Frame} {meth : Method} {c : Code} {A : Nat → Prop} {args : Array Value} (hx : p.tables.exec = Jvm.exec) (hb : c.code = prog_5_method_14_code) (hml : c.maxLocals = 4) (hts : ∀ w ∈ WG, w.before args s = true) (hown : s.vm.findClass "Ballothall$Counting" = some m.cls) (hlocks : meth.locks = false) (hA : ∀ q, s.heap.size ≤ q → A q) (hG : KG z s) (hZ : FZ z A s) (hL : Lay E) : ∀ (fu : Nat) (M : Mm) (x3 : Int) (t : Nat) (w3 : Int) (N : Mm), l_Co_exclude_55 E q1 x2 fu M x3 = some (t, w3, N) → (t = 1 → ∀ (H : Heap) (locs : List Loc) (ls : Array Slot), va_P z.1 classes (wv z ad E N) H → va_D A (wv z ad E N) → va_S A s.heap H locs → lv_has ls 4 [] → W p l e (rmK 4 110 0 0) s m args below meth c H locs 0 0 Q (F0 m 87 ls [])) → ∀ (H : Heap) (locs : List Loc) (ls : Array Slot), va_P z.1 classes (wv z ad E M) H → va_D A (wv z ad E M) → va_S A s.heap H locs → lv_has ls 4 [(0, .ref (ad 179)), (1, .ref (ad q1)), (2, .int (oI x2)), (3, .int (oI x3))] → W p l e (rmK 4 110 0 0) s m args below meth c H locs 0 0 Q (F0 m 55 ls []) := by
  intro fu
  induction fu with
  | zero =>
    intro M x3 t w3 N h
    have h : (none : Option (Nat × Int × Mm)) = some _ := h
    cases h
  | succ fu ih =>
    intro M x3 t w3 N h k1 H locs ls hP hD hS hl
    obtain ⟨⟨t0, w30, N9⟩, g0, h⟩ := bd_e h
    refine b_Co_exclude_55b l z ad E M q1 x2 x3 t0 w30 N9 hx hb hml hts hown hlocks hA hG hZ hL g0 (fun e0 => ?_) (fun e0 => ?_) H locs ls hP hD hS hl
    · subst e0
      have h := ite_t rfl h
      exact ih N9 w30 t w3 N h k1
    · subst e0
      have h := ite_f (by decide) h
      obtain ⟨rfl, rfl, rfl⟩ := in3 h
      exact k1 rfl
set_option maxRecDepth 100000 in
set_option maxHeartbeats 4000000 in
theorem b_Co_exclude_j43 (l : Launch) (z : Zz) (ad : Nat → Nat) (E : Ev) (M : Mm) (q1 : Nat) (x2 : Int) (N : Mm) {p : Program} {e : Env} {s : State} {m : MethodId} {below : List Frame} {meth : Method} {c : Code} {A : Nat → Prop} {args : Array Value} (hx : p.tables.exec = Jvm.exec) (hb : c.code = prog_5_method_14_code) (hml : c.maxLocals = 4) (hts : ∀ w ∈ WG, w.before args s = true) (hown : s.vm.findClass "Ballothall$Counting" = some m.cls) (hlocks : meth.locks = false) (hA : ∀ q, s.heap.size ≤ q → A q) (hG : KG z s) (hZ : FZ z A s) (hL : Lay E) (hr : meth.sig.returnType = none) (h : Co_exclude_j43 E M q1 x2 = some N) : ∀ (H : Heap) (locs : List Loc) (ls : Array Slot), va_P z.1 classes (wv z ad E M) H → va_D A (wv z ad E M) → va_S A s.heap H locs → lv_has ls 4 [(0, .ref (ad 179)), (1, .ref (ad q1)), (2, .int (oI x2))] → W p l e (rmK 4 110 0 0) s m args below meth c H locs 0 0 (MQ below (QK z A (fun _ => none) (fun _ => (wv z ad E N))) args s 0 0 A) (F0 m 43 ls []) := by
  intro H locs ls hP hD hS hl
  unfold Co_exclude_j43 at h
  obtain ⟨h_q1, h⟩ := ck_e h
  refine lv_aload_n hx hb d_5_14_43 rfl (lv_at hl 0 rfl) ?_
  refine m_gr (j := 182) (C := "Ballothall$Counting") (T := TX3) (N := 15) (ci := 3) (k := 5) hx hb hts iX3 hown hG hP (yi_179 hL) (yt_179 hL) rfl (by decide) w_308 (fun _ h9 => h9) rfl rfl (yr_179_5 hL) d_5_14_44 ?_
  refine lv_iload_n hx hb d_5_14_47 rfl (lv_at hl 2 rfl) ?_
  obtain ⟨ok104, h⟩ := ck_e h
  refine m_aa (k := (201 + 2 * x2.toNat)) (t := 5) (C := "Ballothall$Natural") hx hb hG hP (yi_182 hL) (yt_182 hL) rfl rfl ok104 (ya_182 hL (inb_lt ok104)) d_5_14_48 ?_
  refine lv_lconst (v := oJ 0) hx hb d_5_14_49 (by decide +kernel) ?_
  obtain ⟨M105, g105, h⟩ := bd_e h
  refine kVN (As := [.long (oJ 0)]) (rest := []) (s_Na_become l z ad E M (201 + 2 * x2.toNat) 0 M105 hL g105) hx hb hml hown hts w_604 n_601 w_603 w_s_5a2a50 w_9 md_34308f ⟨Nat.le_of_ble_eq_true rfl, Nat.le_of_ble_eq_true rfl⟩ hG hZ hP hD hS hA (201 + 2 * x2.toNat) (wv_o (ci := 8) (isNa_i (yg_182 hL ok104)) (isNa_T (yg_182 hL ok104))) rfl rfl rfl hl.1 rfl (Nat.le_of_ble_eq_true rfl) d_5_14_50 ⟨Nat.le_of_ble_eq_true rfl, Nat.le_of_ble_eq_true rfl⟩ (fun _ H locs hP hD hS => ?_)
  have hP : va_P z.1 classes (wv z ad E M105) H := hP
  have hD : va_D A (wv z ad E M105) := hD
  refine W.eq (g2 := F0 m 53 ls []) rfl ?_
  refine lv_iconst (v := oI 0) hx hb d_5_14_53 (by decide +kernel) ?_
  refine lv_istore_n (lv' := [(3, .int (oI 0)), (0, .ref (ad 179)), (1, .ref (ad q1)), (2, .int (oI x2))]) hx hb d_5_14_54 rfl hl (by decide) rfl (fun ls hl => ?_)
  obtain ⟨⟨t111, v111_3, M111⟩, g111, h⟩ := bd_e h
  obtain ⟨ok111, h⟩ := ck_e h
  refine s_Co_exclude_55 l z ad E q1 x2 hx hb hml hts hown hlocks hA hG hZ hL FU M105 0 t111 v111_3 M111 g111 (fun e111 H locs ls hP hD hS hl => ?_) H locs ls hP hD hS (lv_sub hl [1, 2, 3, 0] rfl)
  obtain rfl := in1 h
  exact W.vret hx hb hr (fun t ht hW => qkA hP hD hS (fun k => k) rfl rfl ht) hS.2.2 d_5_14_87
set_option maxRecDepth 100000 in
set_option maxHeartbeats 4000000 in
theorem s_Co_exclude (l : Launch) (z : Zz) (ad : Nat → Nat) (E : Ev) (M : Mm) (p1 : Nat) (x2 : Int) (N : Mm) (hL : Lay E) (h : f_Co_exclude E M p1 x2 = some N) : CT l z ⟨"Ballothall$Counting", "exclude", "(LBallothall$Count;I)V"⟩ prog_5_method_14_code 4 none [.ref (ad 179), .ref (ad p1), .int (oI x2)] (wv z ad E M) 4 110 0 0 (fun _ => none) (fun _ => (wv z ad E N)) := by
  refine CT.of (own := "Ballothall$Counting") (by decide +kernel) (Nat.le_of_ble_eq_true rfl) rfl (fun p e s m below meth c A ls hx hb hml hr hts hown hlocks hin hA hG hZ hP hD hS hl => ?_)
  have hl : lv_has ls 4 [(0, .ref (ad 179)), (1, .ref (ad p1)), (2, .int (oI x2))] := hl
  have key : ∀ (H : Heap) (locs : List Loc) (args : Array Value), (∀ w ∈ WG, w.before args s = true) → va_P z.1 classes (wv z ad E M) H → va_S A s.heap H locs → W p l e (rmK 4 110 0 0) s m args below meth c H locs 0 0 (MQ below (QK z A (fun _ => none) (fun _ => (wv z ad E N))) args s 0 0 A) (F0 m 0 ls []) := by
    intro H locs args hts hP hS
    unfold f_Co_exclude at h
    obtain ⟨h_p1, h⟩ := ck_e h
    refine lv_aload_n hx hb d_5_14_0 rfl (lv_at hl 0 rfl) ?_
    refine lv_dup hx hb d_5_14_1 rfl ?_
    refine m_gi (C := "Ballothall$Counting") (T := TX3) (N := 15) (ci := 3) (k := 3) hx hb hts iX3 hown hG hP (yi_179 hL) (yt_179 hL) rfl (by decide) w_306 (fun _ h9 => h9) rfl rfl d_5_14_2 ?_
    refine lv_iconst (v := oI 1) hx hb d_5_14_5 (by decide +kernel) ?_
    refine lv_iload_n hx hb d_5_14_6 rfl (lv_at hl 2 rfl) ?_
    obtain ⟨ok100, h⟩ := ck_e h
    refine lv_ishl hx hb d_5_14_7 ?_
    refine nrm (oI_one_shl ok100) ?_
    refine lv_iconst (v := oI (-1)) hx hb d_5_14_8 (by decide +kernel) ?_
    refine lv_ixor hx hb d_5_14_9 ?_
    refine nrm (oI_not _) ?_
    obtain ⟨ok101, h⟩ := ck_e h
    obtain ⟨ok102, h⟩ := ck_e h
    refine lv_iand hx hb d_5_14_10 ?_
    refine nrm (oI_dif ok101.1 ok101.2 ok102.1 ok102.2) ?_
    refine m_pi (C := "Ballothall$Counting") (T := TX3) (N := 15) (ci := 3) (k := 3) (ty := .int) hx hb hts iX3 hown hG hP hD hS (yi_179 hL) (yt_179 hL) rfl (by decide) w_306 (fun _ h9 => h9) rfl rfl tyX3_ok nmX3 rfl (by decide +kernel) rfl rfl d_5_14_11 (fun H locs hP hD hS => ?_)
    have hP : va_P z.1 classes (wv z ad E (u2 M 179 3 (dfI (M 179 3) (2 ^ x2.toNat)))) H := hP
    have hD : va_D A (wv z ad E (u2 M 179 3 (dfI (M 179 3) (2 ^ x2.toNat)))) := hD
    refine lv_aload_n hx hb d_5_14_14 rfl (lv_at hl 1 rfl) ?_
    refine m_giN (C := "Ballothall$Count") (T := TX2) (N := 10) (ci := 2) (k := 5) hx hb hts iX2 hown hG hP (isCt_i h_p1) (isCt_T h_p1) rfl (by decide) n_1088 rfl (fun _ h9 => h9) rfl rfl d_5_14_15 ?_
    refine lv_bipush (v := oI 8) hx hb d_5_14_18 (by decide +kernel) ?_
    obtain ⟨ok103, h⟩ := ck_e h
    refine lv_icmp_ge (tgt := 43) hx hb d_5_14_20 (by decide) (fun c9 => ?_) (fun c9 => ?_)
    · have h := ite_t ((oI_le (a := (8 : Int)) (b := ((u2 M 179 3 (dfI (M 179 3) (2 ^ x2.toNat))) p1 5)) (by decide) ok103).mp c9) h
      exact b_Co_exclude_j43 l z ad E (u2 M 179 3 (dfI (M 179 3) (2 ^ x2.toNat))) p1 x2 N hx hb hml hts hown hlocks hA hG hZ hL hr h H locs ls hP hD hS (lv_sub hl [0, 1, 2] rfl)
    · have h := ite_f (fun q => c9 ((oI_le (a := (8 : Int)) (b := ((u2 M 179 3 (dfI (M 179 3) (2 ^ x2.toNat))) p1 5)) (by decide) ok103).mpr q)) h
      refine lv_aload_n hx hb d_5_14_23 rfl (lv_at hl 1 rfl) ?_
      refine m_grN (j := (p1 + 3)) (C := "Ballothall$Count") (T := TX2) (N := 10) (ci := 2) (k := 8) hx hb hts iX2 hown hG hP (isCt_i h_p1) (isCt_T h_p1) rfl (by decide) n_1097 rfl (fun _ h9 => h9) rfl rfl (isCt_r8 h_p1) d_5_14_24 ?_
      refine lv_aload_n hx hb d_5_14_27 rfl (lv_at hl 1 rfl) ?_
      refine m_giN (C := "Ballothall$Count") (T := TX2) (N := 10) (ci := 2) (k := 5) hx hb hts iX2 hown hG hP (isCt_i h_p1) (isCt_T h_p1) rfl (by decide) n_1088 rfl (fun _ h9 => h9) rfl rfl d_5_14_28 ?_
      refine lv_iload_n hx hb d_5_14_31 rfl (lv_at hl 2 rfl) ?_
      obtain ⟨ok112, h⟩ := ck_e h
      refine m_is hx hb hG hP hD hS (isCt_i3 h_p1) (isCt_t3 h_p1) ok112 d_5_14_32 (fun H locs hP hD hS => ?_)
      have hP : va_P z.1 classes (wv z ad E (u2 (u2 M 179 3 (dfI (M 179 3) (2 ^ x2.toNat))) (p1 + 3) ((u2 M 179 3 (dfI (M 179 3) (2 ^ x2.toNat))) p1 5).toNat x2)) H := hP
      have hD : va_D A (wv z ad E (u2 (u2 M 179 3 (dfI (M 179 3) (2 ^ x2.toNat))) (p1 + 3) ((u2 M 179 3 (dfI (M 179 3) (2 ^ x2.toNat))) p1 5).toNat x2)) := hD
      obtain ⟨M113, e113, h⟩ := nb_e h
      rw [← e113] at hP hD
      refine lv_aload_n hx hb d_5_14_33 rfl (lv_at hl 1 rfl) ?_
      refine lv_dup hx hb d_5_14_34 rfl ?_
      refine m_giN (C := "Ballothall$Count") (T := TX2) (N := 10) (ci := 2) (k := 5) hx hb hts iX2 hown hG hP (isCt_i h_p1) (isCt_T h_p1) rfl (by decide) n_1088 rfl (fun _ h9 => h9) rfl rfl d_5_14_35 ?_
      refine lv_iconst (v := oI 1) hx hb d_5_14_38 (by decide +kernel) ?_
      refine lv_iadd hx hb d_5_14_39 ?_
      refine nrm (oI_add _ _) ?_
      refine m_piN (C := "Ballothall$Count") (T := TX2) (N := 10) (ci := 2) (k := 5) (ty := .int) hx hb hts iX2 hown hG hP hD hS (isCt_i h_p1) (isCt_T h_p1) rfl (by decide) n_1088 rfl (fun _ h9 => h9) rfl rfl tyX2_ok nmX2 rfl (by decide +kernel) rfl rfl d_5_14_40 (fun H locs hP hD hS => ?_)
      have hP : va_P z.1 classes (wv z ad E (u2 M113 p1 5 ((M113 p1 5) + 1))) H := hP
      have hD : va_D A (wv z ad E (u2 M113 p1 5 ((M113 p1 5) + 1))) := hD
      exact b_Co_exclude_j43 l z ad E (u2 M113 p1 5 ((M113 p1 5) + 1)) p1 x2 N hx hb hml hts hown hlocks hA hG hZ hL hr h H locs ls hP hD hS (lv_sub hl [0, 1, 2] rfl)
  exact key _ _ _ hts hP hS
set_option maxRecDepth 100000 in
set_option maxHeartbeats 4000000 in
theorem b_Co_takeStep_j79 (l : Launch) (z : Zz) (ad : Nat → Nat) (E : Ev) (M : Mm) (x4 : Int) (r : Int) (N : Mm) {p : Program} {e : Env} {s : State} {m : MethodId} {below : List Frame} {meth : Method} {c : Code} {A : Nat → Prop} {args : Array Value} (hx : p.tables.exec = Jvm.exec) (hb : c.code = prog_5_method_9_code) (hml : c.maxLocals = 5) (hts : ∀ w ∈ WG, w.before args s = true) (hown : s.vm.findClass "Ballothall$Counting" = some m.cls) (hlocks : meth.locks = false) (hA : ∀ q, s.heap.size ≤ q → A q) (hG : KG z s) (hZ : FZ z A s) (hL : Lay E) (hr : meth.sig.returnType = (some .boolean)) (h : Co_takeStep_j79 E M x4 = some (r, N)) : ∀ (H : Heap) (locs : List Loc) (ls : Array Slot), va_P z.1 classes (wv z ad E M) H → va_D A (wv z ad E M) → va_S A s.heap H locs → lv_has ls 5 [(4, .int (oI x4))] → W p l e (rmK 5 133 0 0) s m args below meth c H locs 0 0 (MQ below (QK z A (fun _ => some (.int (oI r))) (fun _ => (wv z ad E N))) args s 0 0 A) (F0 m 79 ls []) := by
  intro H locs ls hP hD hS hl
  unfold Co_takeStep_j79 at h
  refine lv_iload hx hb d_5_9_79 (lv_at hl 0 rfl) ?_
  obtain ⟨ok110, h⟩ := ck_e h
  refine lv_if_le (tgt := 88) hx hb d_5_9_81 (by decide) (fun c9 => ?_) (fun c9 => ?_)
  · have h := ite_t ((oI_le0 ok110).mp c9) h
    refine lv_iconst (v := oI 0) hx hb d_5_9_88 (by decide +kernel) ?_
    obtain ⟨rfl, rfl⟩ := in2 h
    exact W.zret hx hb hr rfl (fun t ht hW => qkA hP hD hS (fun k => k) rfl rfl ht) hS.2.2 d_5_9_89
  · have h := ite_f (fun q => c9 ((oI_le0 ok110).mpr q)) h
    refine lv_iconst (v := oI 1) hx hb d_5_9_84 (by decide +kernel) ?_
    refine lv_goto (tgt := 89) hx hb d_5_9_85 (by decide) ?_
    obtain ⟨rfl, rfl⟩ := in2 h
    exact W.zret hx hb hr rfl (fun t ht hW => qkA hP hD hS (fun k => k) rfl rfl ht) hS.2.2 d_5_9_89
set_option maxRecDepth 100000 in
set_option maxHeartbeats 4000000 in
theorem s_Co_takeStep (l : Launch) (z : Zz) (ad : Nat → Nat) (E : Ev) (M : Mm) (p1 : Nat) (x2 : Int) (x3 : Int) (r : Int) (N : Mm) (hL : Lay E) (h : f_Co_takeStep E M p1 x2 x3 = some (r, N)) : CT l z ⟨"Ballothall$Counting", "takeStep", "(LBallothall$Count;II)Z"⟩ prog_5_method_9_code 5 (some .boolean) [.ref (ad 179), .ref (ad p1), .int (oI x2), .int (oI x3)] (wv z ad E M) 5 133 0 0 (fun _ => some (.int (oI r))) (fun _ => (wv z ad E N)) := by
  refine CT.of (own := "Ballothall$Counting") (by decide +kernel) (Nat.le_of_ble_eq_true rfl) rfl (fun p e s m below meth c A ls hx hb hml hr hts hown hlocks hin hA hG hZ hP hD hS hl => ?_)
  have hl : lv_has ls 5 [(0, .ref (ad 179)), (1, .ref (ad p1)), (2, .int (oI x2)), (3, .int (oI x3))] := hl
  have key : ∀ (H : Heap) (locs : List Loc) (args : Array Value), (∀ w ∈ WG, w.before args s = true) → va_P z.1 classes (wv z ad E M) H → va_S A s.heap H locs → W p l e (rmK 5 133 0 0) s m args below meth c H locs 0 0 (MQ below (QK z A (fun _ => some (.int (oI r))) (fun _ => (wv z ad E N))) args s 0 0 A) (F0 m 0 ls []) := by
    intro H locs args hts hP hS
    unfold f_Co_takeStep at h
    obtain ⟨h_p1, h⟩ := ck_e h
    refine lv_aload_n hx hb d_5_9_0 rfl (lv_at hl 0 rfl) ?_
    refine m_gi (C := "Ballothall$Counting") (T := TX3) (N := 15) (ci := 3) (k := 3) hx hb hts iX3 hown hG hP (yi_179 hL) (yt_179 hL) rfl (by decide) w_306 (fun _ h9 => h9) rfl rfl d_5_9_1 ?_
    obtain ⟨r100, g100, h⟩ := bd_e h
    refine kS (As := [.int (oI (M 179 3))]) (rest := []) (s_In_bitCount l z ad E M (M 179 3) r100 hL g100) hx hb hml hown hts w_657 w_1138 w_656 w_30 md_eafe8c ⟨Nat.le_of_ble_eq_true rfl, Nat.le_of_ble_eq_true rfl⟩ hG hZ hP hD hS hA rfl hl.1 rfl (Nat.le_of_ble_eq_true rfl) d_5_9_4 ⟨Nat.le_of_ble_eq_true rfl, Nat.le_of_ble_eq_true rfl⟩ (fun _ H locs hP hD hS => ?_)
    have hP : va_P z.1 classes (wv z ad E M) H := hP
    have hD : va_D A (wv z ad E M) := hD
    refine W.eq (g2 := F0 m 7 ls [.int (oI r100)]) rfl ?_
    refine lv_iload_n hx hb d_5_9_7 rfl (lv_at hl 3 rfl) ?_
    obtain ⟨ok101, h⟩ := ck_e h
    obtain ⟨ok102, h⟩ := ck_e h
    refine lv_icmp_gt (tgt := 19) hx hb d_5_9_8 (by decide) (fun c9 => ?_) (fun c9 => ?_)
    · have h := ite_t ((oI_lt (a := x3) (b := r100) ok102 ok101).mp c9) h
      refine lv_aload_n hx hb d_5_9_19 rfl (lv_at hl 0 rfl) ?_
      refine m_gr (j := 187) (C := "Ballothall$Counting") (T := TX3) (N := 15) (ci := 3) (k := 8) hx hb hts iX3 hown hG hP (yi_179 hL) (yt_179 hL) rfl (by decide) w_311 (fun _ h9 => h9) rfl rfl (yr_179_8 hL) d_5_9_20 ?_
      refine lv_aload_n hx hb d_5_9_23 rfl (lv_at hl 0 rfl) ?_
      refine m_gr (j := 183) (C := "Ballothall$Counting") (T := TX3) (N := 15) (ci := 3) (k := 6) hx hb hts iX3 hown hG hP (yi_179 hL) (yt_179 hL) rfl (by decide) w_309 (fun _ h9 => h9) rfl rfl (yr_179_6 hL) d_5_9_24 ?_
      obtain ⟨M103, g103, h⟩ := bd_e h
      refine kVN (As := [.ref (ad 183)]) (rest := []) (s_Na_copyFrom l z ad E M 187 183 M103 hL g103) hx hb hml hown hts w_1175 n_1172 w_1174 w_s_8c9b61 w_9 md_68420c ⟨Nat.le_of_ble_eq_true rfl, Nat.le_of_ble_eq_true rfl⟩ hG hZ hP hD hS hA 187 (wv_o (ci := 8) (yi_187 hL) (yt_187 hL)) rfl rfl rfl hl.1 rfl (Nat.le_of_ble_eq_true rfl) d_5_9_27 ⟨Nat.le_of_ble_eq_true rfl, Nat.le_of_ble_eq_true rfl⟩ (fun _ H locs hP hD hS => ?_)
      have hP : va_P z.1 classes (wv z ad E M103) H := hP
      have hD : va_D A (wv z ad E M103) := hD
      refine W.eq (g2 := F0 m 30 ls []) rfl ?_
      refine lv_aload_n hx hb d_5_9_30 rfl (lv_at hl 0 rfl) ?_
      refine m_gr (j := 187) (C := "Ballothall$Counting") (T := TX3) (N := 15) (ci := 3) (k := 8) hx hb hts iX3 hown hG hP (yi_179 hL) (yt_179 hL) rfl (by decide) w_311 (fun _ h9 => h9) rfl rfl (yr_179_8 hL) d_5_9_31 ?_
      refine lv_aload_n hx hb d_5_9_34 rfl (lv_at hl 1 rfl) ?_
      refine m_giN (C := "Ballothall$Count") (T := TX2) (N := 10) (ci := 2) (k := 0) hx hb hts iX2 hown hG hP (isCt_i h_p1) (isCt_T h_p1) rfl (by decide) n_1079 rfl (fun _ h9 => h9) rfl rfl d_5_9_35 ?_
      obtain ⟨M104, g104, h⟩ := bd_e h
      refine kVN (As := [.int (oI (M103 p1 0))]) (rest := []) (s_Na_multiplySmall l z ad E M103 187 (M103 p1 0) M104 hL g104) hx hb hml hown hts w_642 n_639 w_641 w_s_f32dd6 w_9 md_664187 ⟨Nat.le_of_ble_eq_true rfl, Nat.le_of_ble_eq_true rfl⟩ hG hZ hP hD hS hA 187 (wv_o (ci := 8) (yi_187 hL) (yt_187 hL)) rfl rfl rfl hl.1 rfl (Nat.le_of_ble_eq_true rfl) d_5_9_38 ⟨Nat.le_of_ble_eq_true rfl, Nat.le_of_ble_eq_true rfl⟩ (fun _ H locs hP hD hS => ?_)
      have hP : va_P z.1 classes (wv z ad E M104) H := hP
      have hD : va_D A (wv z ad E M104) := hD
      refine W.eq (g2 := F0 m 41 ls []) rfl ?_
      refine lv_aload_n hx hb d_5_9_41 rfl (lv_at hl 0 rfl) ?_
      refine m_gr (j := 182) (C := "Ballothall$Counting") (T := TX3) (N := 15) (ci := 3) (k := 5) hx hb hts iX3 hown hG hP (yi_179 hL) (yt_179 hL) rfl (by decide) w_308 (fun _ h9 => h9) rfl rfl (yr_179_5 hL) d_5_9_42 ?_
      refine lv_iload_n hx hb d_5_9_45 rfl (lv_at hl 2 rfl) ?_
      obtain ⟨ok105, h⟩ := ck_e h
      refine m_aa (k := (201 + 2 * x2.toNat)) (t := 5) (C := "Ballothall$Natural") hx hb hG hP (yi_182 hL) (yt_182 hL) rfl rfl ok105 (ya_182 hL (inb_lt ok105)) d_5_9_46 ?_
      refine lv_aload_n hx hb d_5_9_47 rfl (lv_at hl 0 rfl) ?_
      refine m_gr (j := 187) (C := "Ballothall$Counting") (T := TX3) (N := 15) (ci := 3) (k := 8) hx hb hts iX3 hown hG hP (yi_179 hL) (yt_179 hL) rfl (by decide) w_311 (fun _ h9 => h9) rfl rfl (yr_179_8 hL) d_5_9_48 ?_
      obtain ⟨r106, g106, h⟩ := bd_e h
      refine kVN (As := [.ref (ad 187)]) (rest := []) (s_Na_compareWith l z ad E M104 (201 + 2 * x2.toNat) 187 r106 hL g106) hx hb hml hown hts w_646 n_643 w_645 w_s_c7eea3 w_9 md_c6b535 ⟨Nat.le_of_ble_eq_true rfl, Nat.le_of_ble_eq_true rfl⟩ hG hZ hP hD hS hA (201 + 2 * x2.toNat) (wv_o (ci := 8) (isNa_i (yg_182 hL ok105)) (isNa_T (yg_182 hL ok105))) rfl rfl rfl hl.1 rfl (Nat.le_of_ble_eq_true rfl) d_5_9_51 ⟨Nat.le_of_ble_eq_true rfl, Nat.le_of_ble_eq_true rfl⟩ (fun _ H locs hP hD hS => ?_)
      have hP : va_P z.1 classes (wv z ad E M104) H := hP
      have hD : va_D A (wv z ad E M104) := hD
      refine W.eq (g2 := F0 m 54 ls [.int (oI r106)]) rfl ?_
      refine lv_istore (lv' := [(4, .int (oI r106)), (0, .ref (ad 179)), (1, .ref (ad p1)), (2, .int (oI x2)), (3, .int (oI x3))]) hx hb d_5_9_54 hl (by decide) rfl (fun ls hl => ?_)
      refine lv_iload hx hb d_5_9_56 (lv_at hl 0 rfl) ?_
      obtain ⟨ok107, h⟩ := ck_e h
      refine lv_if_lt (tgt := 70) hx hb d_5_9_58 (by decide) (fun c9 => ?_) (fun c9 => ?_)
      · have h := ite_t ((oI_lt0 ok107).mp c9) h
        refine lv_aload_n hx hb d_5_9_70 rfl (lv_at hl 1 rfl) ?_
        refine lv_aload_n hx hb d_5_9_71 rfl (lv_at hl 2 rfl) ?_
        refine lv_aload_n hx hb d_5_9_72 rfl (lv_at hl 1 rfl) ?_
        obtain ⟨r108, g108, h⟩ := bd_e h
        refine kV (As := []) (rest := [.ref (ad p1), .ref (ad 179)]) (s_Co_smallestPile l z ad E M104 r108 hL g108) hx hb hml hown hts w_1179 w_1176 w_1178 w_s_86d8f3 w_8 md_a7df80 ⟨Nat.le_of_ble_eq_true rfl, Nat.le_of_ble_eq_true rfl⟩ hG hZ hP hD hS hA 179 (wv_o (ci := 3) (yi_179 hL) (yt_179 hL)) rfl rfl rfl hl.1 rfl (Nat.le_of_ble_eq_true rfl) d_5_9_73 ⟨Nat.le_of_ble_eq_true rfl, Nat.le_of_ble_eq_true rfl⟩ (fun _ H locs hP hD hS => ?_)
        have hP : va_P z.1 classes (wv z ad E M104) H := hP
        have hD : va_D A (wv z ad E M104) := hD
        refine W.eq (g2 := F0 m 76 ls [.int (oI r108), .ref (ad p1), .ref (ad 179)]) rfl ?_
        obtain ⟨M109, g109, h⟩ := bd_e h
        refine kV (As := [.ref (ad p1), .int (oI r108)]) (rest := []) (s_Co_exclude l z ad E M104 p1 r108 M109 hL g109) hx hb hml hown hts w_1183 w_1180 w_1182 w_s_3c522a w_8 md_ca594d ⟨Nat.le_of_ble_eq_true rfl, Nat.le_of_ble_eq_true rfl⟩ hG hZ hP hD hS hA 179 (wv_o (ci := 3) (yi_179 hL) (yt_179 hL)) rfl rfl rfl hl.1 rfl (Nat.le_of_ble_eq_true rfl) d_5_9_76 ⟨Nat.le_of_ble_eq_true rfl, Nat.le_of_ble_eq_true rfl⟩ (fun _ H locs hP hD hS => ?_)
        have hP : va_P z.1 classes (wv z ad E M109) H := hP
        have hD : va_D A (wv z ad E M109) := hD
        refine W.eq (g2 := F0 m 79 ls []) rfl ?_
        exact b_Co_takeStep_j79 l z ad E M109 r106 r N hx hb hml hts hown hlocks hA hG hZ hL hr h H locs ls hP hD hS (lv_sub hl [0] rfl)
      · have h := ite_f (fun q => c9 ((oI_lt0 ok107).mpr q)) h
        refine lv_aload_n hx hb d_5_9_61 rfl (lv_at hl 1 rfl) ?_
        refine lv_aload_n hx hb d_5_9_62 rfl (lv_at hl 2 rfl) ?_
        refine lv_iload_n hx hb d_5_9_63 rfl (lv_at hl 3 rfl) ?_
        obtain ⟨M111, g111, h⟩ := bd_e h
        refine kV (As := [.ref (ad p1), .int (oI x2)]) (rest := []) (s_Co_elect l z ad E M104 p1 x2 M111 hL g111) hx hb hml hown hts w_1171 w_1168 w_1170 w_s_90e319 w_8 md_33d152 ⟨Nat.le_of_ble_eq_true rfl, Nat.le_of_ble_eq_true rfl⟩ hG hZ hP hD hS hA 179 (wv_o (ci := 3) (yi_179 hL) (yt_179 hL)) rfl rfl rfl hl.1 rfl (Nat.le_of_ble_eq_true rfl) d_5_9_64 ⟨Nat.le_of_ble_eq_true rfl, Nat.le_of_ble_eq_true rfl⟩ (fun _ H locs hP hD hS => ?_)
        have hP : va_P z.1 classes (wv z ad E M111) H := hP
        have hD : va_D A (wv z ad E M111) := hD
        refine W.eq (g2 := F0 m 67 ls []) rfl ?_
        refine lv_goto (tgt := 79) hx hb d_5_9_67 (by decide) ?_
        exact b_Co_takeStep_j79 l z ad E M111 r106 r N hx hb hml hts hown hlocks hA hG hZ hL hr h H locs ls hP hD hS (lv_sub hl [0] rfl)
    · have h := ite_f (fun q => c9 ((oI_lt (a := x3) (b := r100) ok102 ok101).mpr q)) h
      refine lv_aload_n hx hb d_5_9_11 rfl (lv_at hl 0 rfl) ?_
      refine lv_aload_n hx hb d_5_9_12 rfl (lv_at hl 1 rfl) ?_
      refine lv_iload_n hx hb d_5_9_13 rfl (lv_at hl 2 rfl) ?_
      obtain ⟨M112, g112, h⟩ := bd_e h
      refine kV (As := [.ref (ad p1), .int (oI x2)]) (rest := []) (s_Co_elect l z ad E M p1 x2 M112 hL g112) hx hb hml hown hts w_1171 w_1168 w_1170 w_s_90e319 w_8 md_33d152 ⟨Nat.le_of_ble_eq_true rfl, Nat.le_of_ble_eq_true rfl⟩ hG hZ hP hD hS hA 179 (wv_o (ci := 3) (yi_179 hL) (yt_179 hL)) rfl rfl rfl hl.1 rfl (Nat.le_of_ble_eq_true rfl) d_5_9_14 ⟨Nat.le_of_ble_eq_true rfl, Nat.le_of_ble_eq_true rfl⟩ (fun _ H locs hP hD hS => ?_)
      have hP : va_P z.1 classes (wv z ad E M112) H := hP
      have hD : va_D A (wv z ad E M112) := hD
      refine W.eq (g2 := F0 m 17 ls []) rfl ?_
      refine lv_iconst (v := oI 0) hx hb d_5_9_17 (by decide +kernel) ?_
      obtain ⟨rfl, rfl⟩ := in2 h
      exact W.zret hx hb hr rfl (fun t ht hW => qkA hP hD hS (fun k => k) rfl rfl ht) hS.2.2 d_5_9_18
  exact key _ _ _ hts hP hS
set_option maxRecDepth 100000 in
set_option maxHeartbeats 4000000 in
theorem b_Na_subtract_4b (l : Launch) (z : Zz) (ad : Nat → Nat) (E : Ev) (M : Mm) (q0 : Nat) (q1 : Nat) (x2 : Int) (x3 : Int) (t : Nat) (w2 : Int) (w3 : Int) (N : Mm) {Q : State → Prop} {p : Program} {e : Env} {s : State} {m : MethodId} {below : List Frame} {meth : Method} {c : Code} {A : Nat → Prop} {args : Array Value} (hx : p.tables.exec = Jvm.exec) (hb : c.code = prog_10_method_11_code) (hml : c.maxLocals = 5) (hts : ∀ w ∈ WG, w.before args s = true) (hown : s.vm.findClass "Ballothall$Natural" = some m.cls) (hlocks : meth.locks = false) (hA : ∀ q, s.heap.size ≤ q → A q) (hG : KG z s) (hZ : FZ z A s) (hL : Lay E) (h : Na_subtract_4b E M q0 q1 x2 x3 = some (t, w2, w3, N)) (k0 : t = 0 → ∀ (H : Heap) (locs : List Loc) (ls : Array Slot), va_P z.1 classes (wv z ad E N) H → va_D A (wv z ad E N) → va_S A s.heap H locs → lv_has ls 5 [(0, .ref (ad q0)), (1, .ref (ad q1)), (2, .int (oI w2)), (3, .int (oI w3))] → W p l e (rmK 2 61 0 0) s m args below meth c H locs 0 0 Q (F0 m 4 ls [])) (k1 : t = 1 → ∀ (H : Heap) (locs : List Loc) (ls : Array Slot), va_P z.1 classes (wv z ad E N) H → va_D A (wv z ad E N) → va_S A s.heap H locs → lv_has ls 5 [(0, .ref (ad q0))] → W p l e (rmK 2 61 0 0) s m args below meth c H locs 0 0 Q (F0 m 51 ls [])) : ∀ (H : Heap) (locs : List Loc) (ls : Array Slot), va_P z.1 classes (wv z ad E M) H → va_D A (wv z ad E M) → va_S A s.heap H locs → lv_has ls 5 [(0, .ref (ad q0)), (1, .ref (ad q1)), (2, .int (oI x2)), (3, .int (oI x3))] → W p l e (rmK 2 61 0 0) s m args below meth c H locs 0 0 Q (F0 m 4 ls []) := by
  intro H locs ls hP hD hS hl
  unfold Na_subtract_4b at h
  obtain ⟨h_q0, h⟩ := ck_e h
  obtain ⟨h_q1, h⟩ := ck_e h
  refine lv_iload_n hx hb d_10_11_4 rfl (lv_at hl 3 rfl) ?_
  refine lv_aload_n hx hb d_10_11_5 rfl (lv_at hl 0 rfl) ?_
  refine m_gi (C := "Ballothall$Natural") (T := TX8) (N := 2) (ci := 8) (k := 1) hx hb hts iX8 hown hG hP (isNa_i h_q0) (isNa_T h_q0) rfl (by decide) w_295 (fun _ h9 => h9) rfl rfl d_10_11_6 ?_
  obtain ⟨ok100, h⟩ := ck_e h
  obtain ⟨ok101, h⟩ := ck_e h
  refine lv_icmp_ge (tgt := 51) hx hb d_10_11_9 (by decide) (fun c9 => ?_) (fun c9 => ?_)
  · have h := ite_t ((oI_le (a := (M q0 1)) (b := x3) ok101 ok100).mp c9) h
    obtain ⟨rfl, rfl, rfl, rfl⟩ := in4 h
    exact k1 rfl H locs ls hP hD hS (lv_sub hl [0] rfl)
  · have h := ite_f (fun q => c9 ((oI_le (a := (M q0 1)) (b := x3) ok101 ok100).mpr q)) h
    refine lv_aload_n hx hb d_10_11_12 rfl (lv_at hl 0 rfl) ?_
    refine m_gr (j := (q0 + 1)) (C := "Ballothall$Natural") (T := TX8) (N := 2) (ci := 8) (k := 0) hx hb hts iX8 hown hG hP (isNa_i h_q0) (isNa_T h_q0) rfl (by decide) w_294 (fun _ h9 => h9) rfl rfl (isNa_r0 h_q0) d_10_11_13 ?_
    refine lv_iload_n hx hb d_10_11_16 rfl (lv_at hl 3 rfl) ?_
    obtain ⟨ok102, h⟩ := ck_e h
    refine m_ia hx hb hG hP (isNa_i1 h_q0) (isNa_t1 h_q0) ok102 d_10_11_17 ?_
    refine lv_aload_n hx hb d_10_11_18 rfl (lv_at hl 1 rfl) ?_
    refine lv_iload_n hx hb d_10_11_19 rfl (lv_at hl 3 rfl) ?_
    obtain ⟨r103, g103, h⟩ := bd_e h
    refine kV (As := [.int (oI x3)]) (rest := [.int (oI (M (q0 + 1) x3.toNat))]) (s_Na_limbAt l z ad E M q1 x3 r103 hL g103) hx hb hml hown hts w_637 w_634 w_636 w_s_21c489 w_9 md_149093 ⟨Nat.le_of_ble_eq_true rfl, Nat.le_of_ble_eq_true rfl⟩ hG hZ hP hD hS hA q1 (wv_o (ci := 8) (isNa_i h_q1) (isNa_T h_q1)) rfl rfl rfl hl.1 rfl (Nat.le_of_ble_eq_true rfl) d_10_11_20 ⟨Nat.le_of_ble_eq_true rfl, Nat.le_of_ble_eq_true rfl⟩ (fun _ H locs hP hD hS => ?_)
    have hP : va_P z.1 classes (wv z ad E M) H := hP
    have hD : va_D A (wv z ad E M) := hD
    refine W.eq (g2 := F0 m 23 ls [.int (oI r103), .int (oI (M (q0 + 1) x3.toNat))]) rfl ?_
    refine lv_isub hx hb d_10_11_23 ?_
    refine nrm (oI_sub _ _) ?_
    refine lv_iload_n hx hb d_10_11_24 rfl (lv_at hl 2 rfl) ?_
    refine lv_iadd hx hb d_10_11_25 ?_
    refine nrm (oI_add _ _) ?_
    obtain ⟨v104, e104, h⟩ := nb_e h
    refine nrm (congrArg oI e104.symm) ?_
    refine lv_istore (lv' := [(4, .int (oI v104)), (0, .ref (ad q0)), (1, .ref (ad q1)), (2, .int (oI x2)), (3, .int (oI x3))]) hx hb d_10_11_26 hl (by decide) rfl (fun ls hl => ?_)
    refine lv_aload_n hx hb d_10_11_28 rfl (lv_at hl 1 rfl) ?_
    refine m_gr (j := (q0 + 1)) (C := "Ballothall$Natural") (T := TX8) (N := 2) (ci := 8) (k := 0) hx hb hts iX8 hown hG hP (isNa_i h_q0) (isNa_T h_q0) rfl (by decide) w_294 (fun _ h9 => h9) rfl rfl (isNa_r0 h_q0) d_10_11_29 ?_
    refine lv_iload_n hx hb d_10_11_32 rfl (lv_at hl 4 rfl) ?_
    refine lv_iload hx hb d_10_11_33 (lv_at hl 0 rfl) ?_
    refine lv_ldc hx hb hown (hts _ w_638) d_10_11_35 ?_
    refine nrm (x1 := oI 1073741823) (by decide +kernel) ?_
    refine lv_iand hx hb d_10_11_37 ?_
    refine nrm (oI_m30 _) ?_
    refine m_is hx hb hG hP hD hS (isNa_i1 h_q0) (isNa_t1 h_q0) ok102 d_10_11_38 (fun H locs hP hD hS => ?_)
    have hP : va_P z.1 classes (wv z ad E (u2 M (q0 + 1) x3.toNat (v104 % 1073741824))) H := hP
    have hD : va_D A (wv z ad E (u2 M (q0 + 1) x3.toNat (v104 % 1073741824))) := hD
    refine lv_iload hx hb d_10_11_39 (lv_at hl 0 rfl) ?_
    refine lv_bipush (v := oI 30) hx hb d_10_11_41 (by decide +kernel) ?_
    obtain ⟨ok105, h⟩ := ck_e h
    refine lv_ishr hx hb d_10_11_43 ?_
    refine nrm (x1 := oI (v104 / 1073741824)) (oI_shr (b := 30) ok105 (by decide) (by decide)) ?_
    refine lv_istore_n (lv' := [(2, .int (oI (v104 / 1073741824))), (4, .int (oI v104)), (0, .ref (ad q0)), (1, .ref (ad q1)), (3, .int (oI x3))]) hx hb d_10_11_44 rfl hl (by decide) rfl (fun ls hl => ?_)
    refine lv_iinc (v := oI (x3 + 1)) (lv' := [(3, .int (oI (x3 + 1))), (2, .int (oI (v104 / 1073741824))), (4, .int (oI v104)), (0, .ref (ad q0)), (1, .ref (ad q1))]) hx hb d_10_11_45 hl (k := 4) rfl (oI_add x3 1) (by decide) rfl (fun ls hl => ?_)
    refine lv_goto (tgt := 4) hx hb d_10_11_48 (by decide) ?_
    obtain ⟨rfl, rfl, rfl, rfl⟩ := in4 h
    exact k0 rfl H locs ls hP hD hS (lv_sub hl [3, 4, 1, 0] rfl)
set_option maxRecDepth 100000 in
set_option maxHeartbeats 4000000 in
theorem s_Na_subtract_4 (l : Launch) (z : Zz) (ad : Nat → Nat) (E : Ev) (q0 : Nat) (q1 : Nat) {Q : State → Prop} {p : Program} {e : Env} {s : State} {m : MethodId} {below : List Frame} {meth : Method} {c : Code} {A : Nat → Prop} {args : Array Value} (hx : p.tables.exec = Jvm.exec) (hb : c.code = prog_10_method_11_code) (hml : c.maxLocals = 5) (hts : ∀ w ∈ WG, w.before args s = true) (hown : s.vm.findClass "Ballothall$Natural" = some m.cls) (hlocks : meth.locks = false) (hA : ∀ q, s.heap.size ≤ q → A q) (hG : KG z s) (hZ : FZ z A s) (hL : Lay E) : ∀ (fu : Nat) (M : Mm) (x2 : Int) (x3 : Int) (t : Nat) (w2 : Int) (w3 : Int) (N : Mm), l_Na_subtract_4 E q0 q1 fu M x2 x3 = some (t, w2, w3, N) → (t = 1 → ∀ (H : Heap) (locs : List Loc) (ls : Array Slot), va_P z.1 classes (wv z ad E N) H → va_D A (wv z ad E N) → va_S A s.heap H locs → lv_has ls 5 [(0, .ref (ad q0))] → W p l e (rmK 2 61 0 0) s m args below meth c H locs 0 0 Q (F0 m 51 ls [])) → ∀ (H : Heap) (locs : List Loc) (ls : Array Slot), va_P z.1 classes (wv z ad E M) H → va_D A (wv z ad E M) → va_S A s.heap H locs → lv_has ls 5 [(0, .ref (ad q0)), (1, .ref (ad q1)), (2, .int (oI x2)), (3, .int (oI x3))] → W p l e (rmK 2 61 0 0) s m args below meth c H locs 0 0 Q (F0 m 4 ls []) := by
  intro fu
  induction fu with
  | zero =>
    intro M x2 x3 t w2 w3 N h
    have h : (none : Option (Nat × Int × Int × Mm)) = some _ := h
    cases h
  | succ fu ih =>
    intro M x2 x3 t w2 w3 N h k1 H locs ls hP hD hS hl
    obtain ⟨⟨t0, w20, w30, N9⟩, g0, h⟩ := bd_e h
    refine b_Na_subtract_4b l z ad E M q0 q1 x2 x3 t0 w20 w30 N9 hx hb hml hts hown hlocks hA hG hZ hL g0 (fun e0 => ?_) (fun e0 => ?_) H locs ls hP hD hS hl
    · subst e0
      have h := ite_t rfl h
      exact ih N9 w20 w30 t w2 w3 N h k1
    · subst e0
      have h := ite_f (by decide) h
      obtain ⟨rfl, rfl, rfl, rfl⟩ := in4 h
      exact k1 rfl
set_option maxRecDepth 100000 in
set_option maxHeartbeats 4000000 in
theorem s_Na_subtract (l : Launch) (z : Zz) (ad : Nat → Nat) (E : Ev) (M : Mm) (p0 : Nat) (p1 : Nat) (N : Mm) (hL : Lay E) (h : f_Na_subtract E M p0 p1 = some N) : CT l z ⟨"Ballothall$Natural", "subtract", "(LBallothall$Natural;)V"⟩ prog_10_method_11_code 5 none [.ref (ad p0), .ref (ad p1)] (wv z ad E M) 2 61 0 0 (fun _ => none) (fun _ => (wv z ad E N)) := by
  refine CT.of (own := "Ballothall$Natural") (by decide +kernel) (Nat.le_of_ble_eq_true rfl) rfl (fun p e s m below meth c A ls hx hb hml hr hts hown hlocks hin hA hG hZ hP hD hS hl => ?_)
  have hl : lv_has ls 5 [(0, .ref (ad p0)), (1, .ref (ad p1))] := hl
  have key : ∀ (H : Heap) (locs : List Loc) (args : Array Value), (∀ w ∈ WG, w.before args s = true) → va_P z.1 classes (wv z ad E M) H → va_S A s.heap H locs → W p l e (rmK 2 61 0 0) s m args below meth c H locs 0 0 (MQ below (QK z A (fun _ => none) (fun _ => (wv z ad E N))) args s 0 0 A) (F0 m 0 ls []) := by
    intro H locs args hts hP hS
    unfold f_Na_subtract at h
    obtain ⟨h_p0, h⟩ := ck_e h
    obtain ⟨h_p1, h⟩ := ck_e h
    refine lv_iconst (v := oI 0) hx hb d_10_11_0 (by decide +kernel) ?_
    refine lv_istore_n (lv' := [(2, .int (oI 0)), (0, .ref (ad p0)), (1, .ref (ad p1))]) hx hb d_10_11_1 rfl hl (by decide) rfl (fun ls hl => ?_)
    refine lv_iconst (v := oI 0) hx hb d_10_11_2 (by decide +kernel) ?_
    refine lv_istore_n (lv' := [(3, .int (oI 0)), (2, .int (oI 0)), (0, .ref (ad p0)), (1, .ref (ad p1))]) hx hb d_10_11_3 rfl hl (by decide) rfl (fun ls hl => ?_)
    obtain ⟨⟨t106, v106_2, v106_3, M106⟩, g106, h⟩ := bd_e h
    obtain ⟨ok106, h⟩ := ck_e h
    refine s_Na_subtract_4 l z ad E p0 p1 hx hb hml hts hown hlocks hA hG hZ hL FU M 0 0 t106 v106_2 v106_3 M106 g106 (fun e106 H locs ls hP hD hS hl => ?_) H locs ls hP hD hS (lv_sub hl [2, 3, 1, 0] rfl)
    refine lv_aload_n hx hb d_10_11_51 rfl (lv_at hl 0 rfl) ?_
    refine lv_aload_n hx hb d_10_11_52 rfl (lv_at hl 0 rfl) ?_
    refine m_gi (C := "Ballothall$Natural") (T := TX8) (N := 2) (ci := 8) (k := 1) hx hb hts iX8 hown hG hP (isNa_i h_p0) (isNa_T h_p0) rfl (by decide) w_295 (fun _ h9 => h9) rfl rfl d_10_11_53 ?_
    obtain ⟨M107, g107, h⟩ := bd_e h
    refine kV (As := [.int (oI (M106 p0 1))]) (rest := []) (s_Na_trimTo l z ad E M106 p0 (M106 p0 1) M107 hL g107) hx hb hml hown hts w_625 w_622 w_624 w_s_8e7085 w_9 md_0a866a ⟨Nat.le_of_ble_eq_true rfl, Nat.le_of_ble_eq_true rfl⟩ hG hZ hP hD hS hA p0 (wv_o (ci := 8) (isNa_i h_p0) (isNa_T h_p0)) rfl rfl rfl hl.1 rfl (Nat.le_of_ble_eq_true rfl) d_10_11_56 ⟨Nat.le_of_ble_eq_true rfl, Nat.le_of_ble_eq_true rfl⟩ (fun _ H locs hP hD hS => ?_)
    have hP : va_P z.1 classes (wv z ad E M107) H := hP
    have hD : va_D A (wv z ad E M107) := hD
    refine W.eq (g2 := F0 m 59 ls []) rfl ?_
    obtain rfl := in1 h
    exact W.vret hx hb hr (fun t ht hW => qkA hP hD hS (fun k => k) rfl rfl ht) hS.2.2 d_10_11_59
  exact key _ _ _ hts hP hS
set_option maxRecDepth 100000 in
set_option maxHeartbeats 4000000 in
theorem b_Na_subtractMultiple_j50 (l : Launch) (z : Zz) (ad : Nat → Nat) (E : Ev) (M : Mm) (q0 : Nat) (q1 : Nat) (x2 : Int) (x3 : Int) (x7 : Int) (y0 : Int) (y1 : Int) (y2 : Int) (t : Nat) (w5 : Int) (w7 : Int) (N : Mm) {Q : State → Prop} {p : Program} {e : Env} {s : State} {m : MethodId} {below : List Frame} {meth : Method} {c : Code} {A : Nat → Prop} {args : Array Value} (hx : p.tables.exec = Jvm.exec) (hb : c.code = prog_10_method_17_code) (hml : c.maxLocals = 8) (hts : ∀ w ∈ WG, w.before args s = true) (hown : s.vm.findClass "Ballothall$Natural" = some m.cls) (hlocks : meth.locks = false) (hA : ∀ q, s.heap.size ≤ q → A q) (hG : KG z s) (hZ : FZ z A s) (hL : Lay E) (h : Na_subtractMultiple_j50 E M q0 q1 x2 x3 x7 y0 y1 y2 = some (t, w5, w7, N)) (k0 : t = 0 → ∀ (H : Heap) (locs : List Loc) (ls : Array Slot), va_P z.1 classes (wv z ad E N) H → va_D A (wv z ad E N) → va_S A s.heap H locs → lv_has ls 8 [(0, .ref (ad q0)), (1, .ref (ad q1)), (2, .int (oI x2)), (3, .long (oJ x3)), (5, .long (oJ w5)), (7, .int (oI w7))] → W p l e (rmK 0 20 0 0) s m args below meth c H locs 0 0 Q (F0 m 6 ls [])) (k1 : t = 1 → ∀ (H : Heap) (locs : List Loc) (ls : Array Slot), va_P z.1 classes (wv z ad E N) H → va_D A (wv z ad E N) → va_S A s.heap H locs → lv_has ls 8 [(5, .long (oJ w5))] → W p l e (rmK 0 20 0 0) s m args below meth c H locs 0 0 Q (F0 m 83 ls [])) : ∀ (H : Heap) (locs : List Loc) (ls : Array Slot), va_P z.1 classes (wv z ad E M) H → va_D A (wv z ad E M) → va_S A s.heap H locs → lv_has ls 8 [(0, .ref (ad q0)), (1, .ref (ad q1)), (2, .int (oI x2)), (3, .long (oJ x3)), (7, .int (oI x7))] → W p l e (rmK 0 20 0 0) s m args below meth c H locs 0 0 Q (F0 m 50 ls [.long (oJ y0), .long (oJ y1), .long (oJ y2)]) := by
  intro H locs ls hP hD hS hl
  unfold Na_subtractMultiple_j50 at h
  obtain ⟨h_q0, h⟩ := ck_e h
  obtain ⟨h_q1, h⟩ := ck_e h
  refine lv_lsub hx hb d_10_17_50 ?_
  refine nrmL (oJ_sub _ _) ?_
  refine lv_ladd hx hb d_10_17_51 ?_
  refine nrmL (oJ_add _ _) ?_
  refine lv_lstore (lv' := [(5, .long (oJ (y2 + (y1 - y0)))), (0, .ref (ad q0)), (1, .ref (ad q1)), (2, .int (oI x2)), (3, .long (oJ x3)), (7, .int (oI x7))]) hx hb d_10_17_52 hl (by decide) rfl (fun ls hl => ?_)
  refine lv_aload_n hx hb d_10_17_54 rfl (lv_at hl 1 rfl) ?_
  refine m_gr (j := (q0 + 1)) (C := "Ballothall$Natural") (T := TX8) (N := 2) (ci := 8) (k := 0) hx hb hts iX8 hown hG hP (isNa_i h_q0) (isNa_T h_q0) rfl (by decide) w_294 (fun _ h9 => h9) rfl rfl (isNa_r0 h_q0) d_10_17_55 ?_
  refine lv_iload_n hx hb d_10_17_58 rfl (lv_at hl 3 rfl) ?_
  refine lv_iload hx hb d_10_17_59 (lv_at hl 5 rfl) ?_
  refine lv_iadd hx hb d_10_17_61 ?_
  refine nrm (oI_add _ _) ?_
  refine lv_lload hx hb d_10_17_62 (lv_at hl 0 rfl) ?_
  refine lv_ldc2 hx hb hown (hts _ w_605) d_10_17_64 ?_
  refine nrmL (x1 := oJ 1073741823) (by decide +kernel) ?_
  refine lv_land hx hb d_10_17_67 ?_
  refine nrmL (oJ_m30 _) ?_
  refine lv_l2i (v := oI ((y2 + (y1 - y0)) % 1073741824)) hx hb d_10_17_68 (oJ_i _) ?_
  obtain ⟨v104, e104, h⟩ := nb_e h
  refine nrm (congrArg oI e104.symm) ?_
  obtain ⟨ok105, h⟩ := ck_e h
  refine m_is hx hb hG hP hD hS (isNa_i1 h_q0) (isNa_t1 h_q0) ok105 d_10_17_69 (fun H locs hP hD hS => ?_)
  have hP : va_P z.1 classes (wv z ad E (u2 M (q0 + 1) (x2 + x7).toNat v104)) H := hP
  have hD : va_D A (wv z ad E (u2 M (q0 + 1) (x2 + x7).toNat v104)) := hD
  refine lv_lload hx hb d_10_17_70 (lv_at hl 0 rfl) ?_
  refine lv_bipush (v := oI 30) hx hb d_10_17_72 (by decide +kernel) ?_
  obtain ⟨ok106, h⟩ := ck_e h
  refine lv_lshr (v := oJ ((y2 + (y1 - y0)) / 1073741824)) hx hb d_10_17_74 (oJ_shr (b := (30 : Int)) ok106 (by decide) (by decide)) ?_
  obtain ⟨v107, e107, h⟩ := nb_e h
  refine nrmL (congrArg oJ e107.symm) ?_
  refine lv_lstore (lv' := [(5, .long (oJ v107)), (0, .ref (ad q0)), (1, .ref (ad q1)), (2, .int (oI x2)), (3, .long (oJ x3)), (7, .int (oI x7))]) hx hb d_10_17_75 hl (by decide) rfl (fun ls hl => ?_)
  refine lv_iinc (v := oI (x7 + 1)) (lv' := [(7, .int (oI (x7 + 1))), (5, .long (oJ v107)), (0, .ref (ad q0)), (1, .ref (ad q1)), (2, .int (oI x2)), (3, .long (oJ x3))]) hx hb d_10_17_77 hl (k := 5) rfl (oI_add x7 1) (by decide) rfl (fun ls hl => ?_)
  refine lv_goto (tgt := 6) hx hb d_10_17_80 (by decide) ?_
  obtain ⟨rfl, rfl, rfl, rfl⟩ := in4 h
  exact k0 rfl H locs ls hP hD hS (lv_sub hl [2, 3, 4, 5, 1, 0] rfl)
set_option maxRecDepth 100000 in
set_option maxHeartbeats 4000000 in
theorem b_Na_subtractMultiple_6b (l : Launch) (z : Zz) (ad : Nat → Nat) (E : Ev) (M : Mm) (q0 : Nat) (q1 : Nat) (x2 : Int) (x3 : Int) (x5 : Int) (x7 : Int) (t : Nat) (w5 : Int) (w7 : Int) (N : Mm) {Q : State → Prop} {p : Program} {e : Env} {s : State} {m : MethodId} {below : List Frame} {meth : Method} {c : Code} {A : Nat → Prop} {args : Array Value} (hx : p.tables.exec = Jvm.exec) (hb : c.code = prog_10_method_17_code) (hml : c.maxLocals = 8) (hts : ∀ w ∈ WG, w.before args s = true) (hown : s.vm.findClass "Ballothall$Natural" = some m.cls) (hlocks : meth.locks = false) (hA : ∀ q, s.heap.size ≤ q → A q) (hG : KG z s) (hZ : FZ z A s) (hL : Lay E) (h : Na_subtractMultiple_6b E M q0 q1 x2 x3 x5 x7 = some (t, w5, w7, N)) (k0 : t = 0 → ∀ (H : Heap) (locs : List Loc) (ls : Array Slot), va_P z.1 classes (wv z ad E N) H → va_D A (wv z ad E N) → va_S A s.heap H locs → lv_has ls 8 [(0, .ref (ad q0)), (1, .ref (ad q1)), (2, .int (oI x2)), (3, .long (oJ x3)), (5, .long (oJ w5)), (7, .int (oI w7))] → W p l e (rmK 0 20 0 0) s m args below meth c H locs 0 0 Q (F0 m 6 ls [])) (k1 : t = 1 → ∀ (H : Heap) (locs : List Loc) (ls : Array Slot), va_P z.1 classes (wv z ad E N) H → va_D A (wv z ad E N) → va_S A s.heap H locs → lv_has ls 8 [(5, .long (oJ w5))] → W p l e (rmK 0 20 0 0) s m args below meth c H locs 0 0 Q (F0 m 83 ls [])) : ∀ (H : Heap) (locs : List Loc) (ls : Array Slot), va_P z.1 classes (wv z ad E M) H → va_D A (wv z ad E M) → va_S A s.heap H locs → lv_has ls 8 [(0, .ref (ad q0)), (1, .ref (ad q1)), (2, .int (oI x2)), (3, .long (oJ x3)), (5, .long (oJ x5)), (7, .int (oI x7))] → W p l e (rmK 0 20 0 0) s m args below meth c H locs 0 0 Q (F0 m 6 ls []) := by
  intro H locs ls hP hD hS hl
  unfold Na_subtractMultiple_6b at h
  obtain ⟨h_q0, h⟩ := ck_e h
  obtain ⟨h_q1, h⟩ := ck_e h
  refine lv_iload hx hb d_10_17_6 (lv_at hl 5 rfl) ?_
  refine lv_aload_n hx hb d_10_17_8 rfl (lv_at hl 1 rfl) ?_
  refine m_gi (C := "Ballothall$Natural") (T := TX8) (N := 2) (ci := 8) (k := 1) hx hb hts iX8 hown hG hP (isNa_i h_q1) (isNa_T h_q1) rfl (by decide) w_295 (fun _ h9 => h9) rfl rfl d_10_17_9 ?_
  obtain ⟨ok100, h⟩ := ck_e h
  obtain ⟨ok101, h⟩ := ck_e h
  refine lv_icmp_gt (tgt := 83) hx hb d_10_17_12 (by decide) (fun c9 => ?_) (fun c9 => ?_)
  · have h := ite_t ((oI_lt (a := (M q1 1)) (b := x7) ok101 ok100).mp c9) h
    obtain ⟨rfl, rfl, rfl, rfl⟩ := in4 h
    exact k1 rfl H locs ls hP hD hS (lv_sub hl [4] rfl)
  · have h := ite_f (fun q => c9 ((oI_lt (a := (M q1 1)) (b := x7) ok101 ok100).mpr q)) h
    refine lv_lload hx hb d_10_17_15 (lv_at hl 4 rfl) ?_
    refine lv_aload_n hx hb d_10_17_17 rfl (lv_at hl 0 rfl) ?_
    refine m_gr (j := (q0 + 1)) (C := "Ballothall$Natural") (T := TX8) (N := 2) (ci := 8) (k := 0) hx hb hts iX8 hown hG hP (isNa_i h_q0) (isNa_T h_q0) rfl (by decide) w_294 (fun _ h9 => h9) rfl rfl (isNa_r0 h_q0) d_10_17_18 ?_
    refine lv_iload_n hx hb d_10_17_21 rfl (lv_at hl 2 rfl) ?_
    refine lv_iload hx hb d_10_17_22 (lv_at hl 5 rfl) ?_
    refine lv_iadd hx hb d_10_17_24 ?_
    refine nrm (oI_add _ _) ?_
    obtain ⟨ok102, h⟩ := ck_e h
    refine m_ia hx hb hG hP (isNa_i1 h_q0) (isNa_t1 h_q0) ok102 d_10_17_25 ?_
    obtain ⟨ok103, h⟩ := ck_e h
    refine lv_i2l (v := oJ (M (q0 + 1) (x2 + x7).toNat)) hx hb d_10_17_26 (oI_l ok103) ?_
    refine lv_iload hx hb d_10_17_27 (lv_at hl 5 rfl) ?_
    refine lv_aload_n hx hb d_10_17_29 rfl (lv_at hl 1 rfl) ?_
    refine m_gi (C := "Ballothall$Natural") (T := TX8) (N := 2) (ci := 8) (k := 1) hx hb hts iX8 hown hG hP (isNa_i h_q1) (isNa_T h_q1) rfl (by decide) w_295 (fun _ h9 => h9) rfl rfl d_10_17_30 ?_
    refine lv_icmp_ge (tgt := 49) hx hb d_10_17_33 (by decide) (fun c9 => ?_) (fun c9 => ?_)
    · have h := ite_t ((oI_le (a := (M q1 1)) (b := x7) ok101 ok100).mp c9) h
      refine lv_lconst (v := oJ 0) hx hb d_10_17_49 (by decide +kernel) ?_
      exact b_Na_subtractMultiple_j50 l z ad E M q0 q1 x2 x3 x7 0 (M (q0 + 1) (x2 + x7).toNat) x5 t w5 w7 N hx hb hml hts hown hlocks hA hG hZ hL h k0 k1 H locs ls hP hD hS (lv_sub hl [0, 1, 2, 3, 5] rfl)
    · have h := ite_f (fun q => c9 ((oI_le (a := (M q1 1)) (b := x7) ok101 ok100).mpr q)) h
      refine lv_lload_n hx hb d_10_17_36 rfl (lv_at hl 3 rfl) ?_
      refine lv_aload_n hx hb d_10_17_37 rfl (lv_at hl 1 rfl) ?_
      refine m_gr (j := (q1 + 1)) (C := "Ballothall$Natural") (T := TX8) (N := 2) (ci := 8) (k := 0) hx hb hts iX8 hown hG hP (isNa_i h_q1) (isNa_T h_q1) rfl (by decide) w_294 (fun _ h9 => h9) rfl rfl (isNa_r0 h_q1) d_10_17_38 ?_
      refine lv_iload hx hb d_10_17_41 (lv_at hl 5 rfl) ?_
      obtain ⟨ok108, h⟩ := ck_e h
      refine m_ia hx hb hG hP (isNa_i1 h_q1) (isNa_t1 h_q1) ok108 d_10_17_43 ?_
      obtain ⟨ok109, h⟩ := ck_e h
      refine lv_i2l (v := oJ (M (q1 + 1) x7.toNat)) hx hb d_10_17_44 (oI_l ok109) ?_
      refine lv_lmul hx hb d_10_17_45 ?_
      refine nrmL (oJ_mul _ _) ?_
      refine lv_goto (tgt := 50) hx hb d_10_17_46 (by decide) ?_
      exact b_Na_subtractMultiple_j50 l z ad E M q0 q1 x2 x3 x7 (x3 * (M (q1 + 1) x7.toNat)) (M (q0 + 1) (x2 + x7).toNat) x5 t w5 w7 N hx hb hml hts hown hlocks hA hG hZ hL h k0 k1 H locs ls hP hD hS (lv_sub hl [0, 1, 2, 3, 5] rfl)
set_option maxRecDepth 100000 in
set_option maxHeartbeats 4000000 in
theorem s_Na_subtractMultiple_6 (l : Launch) (z : Zz) (ad : Nat → Nat) (E : Ev) (q0 : Nat) (q1 : Nat) (x2 : Int) (x3 : Int) {Q : State → Prop} {p : Program} {e : Env} {s : State} {m : MethodId} {below : List Frame} {meth : Method} {c : Code} {A : Nat → Prop} {args : Array Value} (hx : p.tables.exec = Jvm.exec) (hb : c.code = prog_10_method_17_code) (hml : c.maxLocals = 8) (hts : ∀ w ∈ WG, w.before args s = true) (hown : s.vm.findClass "Ballothall$Natural" = some m.cls) (hlocks : meth.locks = false) (hA : ∀ q, s.heap.size ≤ q → A q) (hG : KG z s) (hZ : FZ z A s) (hL : Lay E) : ∀ (fu : Nat) (M : Mm) (x5 : Int) (x7 : Int) (t : Nat) (w5 : Int) (w7 : Int) (N : Mm), l_Na_subtractMultiple_6 E q0 q1 x2 x3 fu M x5 x7 = some (t, w5, w7, N) → (t = 1 → ∀ (H : Heap) (locs : List Loc) (ls : Array Slot), va_P z.1 classes (wv z ad E N) H → va_D A (wv z ad E N) → va_S A s.heap H locs → lv_has ls 8 [(5, .long (oJ w5))] → W p l e (rmK 0 20 0 0) s m args below meth c H locs 0 0 Q (F0 m 83 ls [])) → ∀ (H : Heap) (locs : List Loc) (ls : Array Slot), va_P z.1 classes (wv z ad E M) H → va_D A (wv z ad E M) → va_S A s.heap H locs → lv_has ls 8 [(0, .ref (ad q0)), (1, .ref (ad q1)), (2, .int (oI x2)), (3, .long (oJ x3)), (5, .long (oJ x5)), (7, .int (oI x7))] → W p l e (rmK 0 20 0 0) s m args below meth c H locs 0 0 Q (F0 m 6 ls []) := by
  intro fu
  induction fu with
  | zero =>
    intro M x5 x7 t w5 w7 N h
    have h : (none : Option (Nat × Int × Int × Mm)) = some _ := h
    cases h
  | succ fu ih =>
    intro M x5 x7 t w5 w7 N h k1 H locs ls hP hD hS hl
    obtain ⟨⟨t0, w50, w70, N9⟩, g0, h⟩ := bd_e h
    refine b_Na_subtractMultiple_6b l z ad E M q0 q1 x2 x3 x5 x7 t0 w50 w70 N9 hx hb hml hts hown hlocks hA hG hZ hL g0 (fun e0 => ?_) (fun e0 => ?_) H locs ls hP hD hS hl
    · subst e0
      have h := ite_t rfl h
      exact ih N9 w50 w70 t w5 w7 N h k1
    · subst e0
      have h := ite_f (by decide) h
      obtain ⟨rfl, rfl, rfl, rfl⟩ := in4 h
      exact k1 rfl
set_option maxRecDepth 100000 in
set_option maxHeartbeats 4000000 in
theorem s_Na_subtractMultiple (l : Launch) (z : Zz) (ad : Nat → Nat) (E : Ev) (M : Mm) (p0 : Nat) (p1 : Nat) (x2 : Int) (x3 : Int) (r : Int) (N : Mm) (hL : Lay E) (h : f_Na_subtractMultiple E M p0 p1 x2 x3 = some (r, N)) : CT l z ⟨"Ballothall$Natural", "subtractMultiple", "(LBallothall$Natural;IJ)J"⟩ prog_10_method_17_code 8 (some .long) [.ref (ad p0), .ref (ad p1), .int (oI x2), .long (oJ x3)] (wv z ad E M) 0 20 0 0 (fun _ => some (.long (oJ r))) (fun _ => (wv z ad E N)) := by
  refine CT.of (own := "Ballothall$Natural") (by decide +kernel) (Nat.le_of_ble_eq_true rfl) rfl (fun p e s m below meth c A ls hx hb hml hr hts hown hlocks hin hA hG hZ hP hD hS hl => ?_)
  have hl : lv_has ls 8 [(0, .ref (ad p0)), (1, .ref (ad p1)), (2, .int (oI x2)), (3, .long (oJ x3))] := hl
  have key : ∀ (H : Heap) (locs : List Loc) (args : Array Value), (∀ w ∈ WG, w.before args s = true) → va_P z.1 classes (wv z ad E M) H → va_S A s.heap H locs → W p l e (rmK 0 20 0 0) s m args below meth c H locs 0 0 (MQ below (QK z A (fun _ => some (.long (oJ r))) (fun _ => (wv z ad E N))) args s 0 0 A) (F0 m 0 ls []) := by
    intro H locs args hts hP hS
    unfold f_Na_subtractMultiple at h
    obtain ⟨h_p0, h⟩ := ck_e h
    obtain ⟨h_p1, h⟩ := ck_e h
    refine lv_lconst (v := oJ 0) hx hb d_10_17_0 (by decide +kernel) ?_
    refine lv_lstore (lv' := [(5, .long (oJ 0)), (0, .ref (ad p0)), (1, .ref (ad p1)), (2, .int (oI x2)), (3, .long (oJ x3))]) hx hb d_10_17_1 hl (by decide) rfl (fun ls hl => ?_)
    refine lv_iconst (v := oI 0) hx hb d_10_17_3 (by decide +kernel) ?_
    refine lv_istore (lv' := [(7, .int (oI 0)), (5, .long (oJ 0)), (0, .ref (ad p0)), (1, .ref (ad p1)), (2, .int (oI x2)), (3, .long (oJ x3))]) hx hb d_10_17_4 hl (by decide) rfl (fun ls hl => ?_)
    obtain ⟨⟨t110, v110_5, v110_7, M110⟩, g110, h⟩ := bd_e h
    obtain ⟨ok110, h⟩ := ck_e h
    refine s_Na_subtractMultiple_6 l z ad E p0 p1 x2 x3 hx hb hml hts hown hlocks hA hG hZ hL FU M 0 0 t110 v110_5 v110_7 M110 g110 (fun e110 H locs ls hP hD hS hl => ?_) H locs ls hP hD hS (lv_sub hl [2, 3, 4, 5, 1, 0] rfl)
    refine lv_lload hx hb d_10_17_83 (lv_at hl 0 rfl) ?_
    obtain ⟨rfl, rfl⟩ := in2 h
    exact W.lret hx hb hr (fun t ht hW => qkA hP hD hS (fun k => k) rfl rfl ht) hS.2.2 d_10_17_85
  exact key _ _ _ hts hP hS
set_option maxRecDepth 100000 in
set_option maxHeartbeats 4000000 in
theorem b_Na_takeMultiple_78b (l : Launch) (z : Zz) (ad : Nat → Nat) (E : Ev) (M : Mm) (q0 : Nat) (q1 : Nat) (x2 : Int) (x3 : Int) (x4 : Int) (x8 : Int) (x10 : Int) (x12 : Int) (t : Nat) (w8 : Int) (w10 : Int) (w12 : Int) (N : Mm) {Q : State → Prop} {p : Program} {e : Env} {s : State} {m : MethodId} {below : List Frame} {meth : Method} {c : Code} {A : Nat → Prop} {args : Array Value} (hx : p.tables.exec = Jvm.exec) (hb : c.code = prog_10_method_16_code) (hml : c.maxLocals = 13) (hts : ∀ w ∈ WG, w.before args s = true) (hown : s.vm.findClass "Ballothall$Natural" = some m.cls) (hlocks : meth.locks = false) (hA : ∀ q, s.heap.size ≤ q → A q) (hG : KG z s) (hZ : FZ z A s) (hL : Lay E) (h : Na_takeMultiple_78b E M q0 q1 x2 x3 x4 x8 x10 x12 = some (t, w8, w10, w12, N)) (k0 : t = 0 → ∀ (H : Heap) (locs : List Loc) (ls : Array Slot), va_P z.1 classes (wv z ad E N) H → va_D A (wv z ad E N) → va_S A s.heap H locs → lv_has ls 13 [(0, .ref (ad q0)), (1, .ref (ad q1)), (2, .int (oI x2)), (3, .int (oI x3)), (4, .long (oJ x4)), (8, .long (oJ w8)), (10, .long (oJ w10)), (12, .int (oI w12))] → W p l e (rmK 1 47 0 0) s m args below meth c H locs 0 0 Q (F0 m 78 ls [])) (k1 : t = 1 → ∀ (H : Heap) (locs : List Loc) (ls : Array Slot), va_P z.1 classes (wv z ad E N) H → va_D A (wv z ad E N) → va_S A s.heap H locs → lv_has ls 13 [(0, .ref (ad q0)), (1, .ref (ad q1)), (2, .int (oI x2)), (8, .long (oJ w8))] → W p l e (rmK 1 47 0 0) s m args below meth c H locs 0 0 Q (F0 m 146 ls [])) : ∀ (H : Heap) (locs : List Loc) (ls : Array Slot), va_P z.1 classes (wv z ad E M) H → va_D A (wv z ad E M) → va_S A s.heap H locs → lv_has ls 13 [(0, .ref (ad q0)), (1, .ref (ad q1)), (2, .int (oI x2)), (3, .int (oI x3)), (4, .long (oJ x4)), (8, .long (oJ x8)), (10, .long (oJ x10)), (12, .int (oI x12))] → W p l e (rmK 1 47 0 0) s m args below meth c H locs 0 0 Q (F0 m 78 ls []) := by
  intro H locs ls hP hD hS hl
  unfold Na_takeMultiple_78b at h
  obtain ⟨h_q0, h⟩ := ck_e h
  obtain ⟨h_q1, h⟩ := ck_e h
  refine lv_iload hx hb d_10_16_78 (lv_at hl 7 rfl) ?_
  refine lv_iconst (v := oI 2) hx hb d_10_16_80 (by decide +kernel) ?_
  obtain ⟨ok112, h⟩ := ck_e h
  refine lv_icmp_ge (tgt := 146) hx hb d_10_16_81 (by decide) (fun c9 => ?_) (fun c9 => ?_)
  · have h := ite_t ((oI_le (a := (2 : Int)) (b := x12) (by decide) ok112).mp c9) h
    obtain ⟨rfl, rfl, rfl, rfl, rfl⟩ := in5 h
    exact k1 rfl H locs ls hP hD hS (lv_sub hl [0, 1, 2, 5] rfl)
  · have h := ite_f (fun q => c9 ((oI_le (a := (2 : Int)) (b := x12) (by decide) ok112).mpr q)) h
    refine lv_lload hx hb d_10_16_84 (lv_at hl 6 rfl) ?_
    refine lv_ldc2 hx hb hown (hts _ w_605) d_10_16_86 ?_
    refine nrmL (x1 := oJ 1073741823) (by decide +kernel) ?_
    obtain ⟨ok113, h⟩ := ck_e h
    refine W.lcmp hx hb d_10_16_89 ?_
    refine nrm (cmp_val (a := x10) (b := (1073741823 : Int)) ok113 (by decide)) ?_
    refine lv_if_gt (tgt := 146) hx hb d_10_16_90 (by decide) (fun c9 => ?_) (fun c9 => ?_)
    · have h := ite_t ((cmp_gt x10 (1073741823 : Int)).mp c9) h
      obtain ⟨rfl, rfl, rfl, rfl, rfl⟩ := in5 h
      exact k1 rfl H locs ls hP hD hS (lv_sub hl [0, 1, 2, 5] rfl)
    · have h := ite_f (fun q => c9 ((cmp_gt x10 (1073741823 : Int)).mpr q)) h
      refine lv_lload hx hb d_10_16_93 (lv_at hl 5 rfl) ?_
      refine lv_aload_n hx hb d_10_16_95 rfl (lv_at hl 1 rfl) ?_
      refine m_gr (j := (q1 + 1)) (C := "Ballothall$Natural") (T := TX8) (N := 2) (ci := 8) (k := 0) hx hb hts iX8 hown hG hP (isNa_i h_q1) (isNa_T h_q1) rfl (by decide) w_294 (fun _ h9 => h9) rfl rfl (isNa_r0 h_q1) d_10_16_96 ?_
      refine lv_aload_n hx hb d_10_16_99 rfl (lv_at hl 1 rfl) ?_
      refine m_gi (C := "Ballothall$Natural") (T := TX8) (N := 2) (ci := 8) (k := 1) hx hb hts iX8 hown hG hP (isNa_i h_q1) (isNa_T h_q1) rfl (by decide) w_295 (fun _ h9 => h9) rfl rfl d_10_16_100 ?_
      refine lv_iconst (v := oI 2) hx hb d_10_16_103 (by decide +kernel) ?_
      refine lv_isub hx hb d_10_16_104 ?_
      refine nrm (oI_sub _ _) ?_
      obtain ⟨ok114, h⟩ := ck_e h
      refine m_ia hx hb hG hP (isNa_i1 h_q1) (isNa_t1 h_q1) ok114 d_10_16_105 ?_
      obtain ⟨ok115, h⟩ := ck_e h
      refine lv_i2l (v := oJ (M (q1 + 1) ((M q1 1) - 2).toNat)) hx hb d_10_16_106 (oI_l ok115) ?_
      refine lv_lmul hx hb d_10_16_107 ?_
      refine nrmL (oJ_mul _ _) ?_
      refine lv_lload hx hb d_10_16_108 (lv_at hl 6 rfl) ?_
      refine lv_bipush (v := oI 30) hx hb d_10_16_110 (by decide +kernel) ?_
      refine lv_lshl (v := oJ (x10 * 1073741824)) hx hb d_10_16_112 (oJ_shl (b := (30 : Int)) (by decide) (by decide)) ?_
      refine lv_aload_n hx hb d_10_16_113 rfl (lv_at hl 0 rfl) ?_
      refine m_gr (j := (q0 + 1)) (C := "Ballothall$Natural") (T := TX8) (N := 2) (ci := 8) (k := 0) hx hb hts iX8 hown hG hP (isNa_i h_q0) (isNa_T h_q0) rfl (by decide) w_294 (fun _ h9 => h9) rfl rfl (isNa_r0 h_q0) d_10_16_114 ?_
      refine lv_iload_n hx hb d_10_16_117 rfl (lv_at hl 3 rfl) ?_
      refine lv_iconst (v := oI 2) hx hb d_10_16_118 (by decide +kernel) ?_
      refine lv_isub hx hb d_10_16_119 ?_
      refine nrm (oI_sub _ _) ?_
      obtain ⟨ok116, h⟩ := ck_e h
      refine m_ia hx hb hG hP (isNa_i1 h_q0) (isNa_t1 h_q0) ok116 d_10_16_120 ?_
      obtain ⟨ok117, h⟩ := ck_e h
      refine lv_i2l (v := oJ (M (q0 + 1) (x3 - 2).toNat)) hx hb d_10_16_121 (oI_l ok117) ?_
      refine lv_ladd hx hb d_10_16_122 ?_
      refine nrmL (oJ_add _ _) ?_
      obtain ⟨ok118, h⟩ := ck_e h
      obtain ⟨ok119, h⟩ := ck_e h
      refine W.lcmp hx hb d_10_16_123 ?_
      refine nrm (cmp_val (a := (x8 * (M (q1 + 1) ((M q1 1) - 2).toNat))) (b := ((x10 * 1073741824) + (M (q0 + 1) (x3 - 2).toNat))) ok118 ok119) ?_
      refine lv_if_le (tgt := 140) hx hb d_10_16_124 (by decide) (fun c9 => ?_) (fun c9 => ?_)
      · have h := ite_t ((cmp_le (x8 * (M (q1 + 1) ((M q1 1) - 2).toNat)) ((x10 * 1073741824) + (M (q0 + 1) (x3 - 2).toNat))).mp c9) h
        refine lv_iinc (v := oI (x12 + 1)) (lv' := [(12, .int (oI (x12 + 1))), (0, .ref (ad q0)), (1, .ref (ad q1)), (2, .int (oI x2)), (3, .int (oI x3)), (4, .long (oJ x4)), (8, .long (oJ x8)), (10, .long (oJ x10))]) hx hb d_10_16_140 hl (k := 7) rfl (oI_add x12 1) (by decide) rfl (fun ls hl => ?_)
        refine lv_goto (tgt := 78) hx hb d_10_16_143 (by decide) ?_
        obtain ⟨rfl, rfl, rfl, rfl, rfl⟩ := in5 h
        exact k0 rfl H locs ls hP hD hS (lv_sub hl [1, 2, 3, 4, 5, 6, 7, 0] rfl)
      · have h := ite_f (fun q => c9 ((cmp_le (x8 * (M (q1 + 1) ((M q1 1) - 2).toNat)) ((x10 * 1073741824) + (M (q0 + 1) (x3 - 2).toNat))).mpr q)) h
        refine lv_lload hx hb d_10_16_127 (lv_at hl 5 rfl) ?_
        refine lv_lconst (v := oJ 1) hx hb d_10_16_129 (by decide +kernel) ?_
        refine lv_lsub hx hb d_10_16_130 ?_
        refine nrmL (oJ_sub _ _) ?_
        refine lv_lstore (lv' := [(8, .long (oJ (x8 - 1))), (0, .ref (ad q0)), (1, .ref (ad q1)), (2, .int (oI x2)), (3, .int (oI x3)), (4, .long (oJ x4)), (10, .long (oJ x10)), (12, .int (oI x12))]) hx hb d_10_16_131 hl (by decide) rfl (fun ls hl => ?_)
        refine lv_lload hx hb d_10_16_133 (lv_at hl 6 rfl) ?_
        refine lv_lload hx hb d_10_16_135 (lv_at hl 5 rfl) ?_
        refine lv_ladd hx hb d_10_16_137 ?_
        refine nrmL (oJ_add _ _) ?_
        refine lv_lstore (lv' := [(10, .long (oJ (x10 + x4))), (8, .long (oJ (x8 - 1))), (0, .ref (ad q0)), (1, .ref (ad q1)), (2, .int (oI x2)), (3, .int (oI x3)), (4, .long (oJ x4)), (12, .int (oI x12))]) hx hb d_10_16_138 hl (by decide) rfl (fun ls hl => ?_)
        refine lv_iinc (v := oI (x12 + 1)) (lv' := [(12, .int (oI (x12 + 1))), (10, .long (oJ (x10 + x4))), (8, .long (oJ (x8 - 1))), (0, .ref (ad q0)), (1, .ref (ad q1)), (2, .int (oI x2)), (3, .int (oI x3)), (4, .long (oJ x4))]) hx hb d_10_16_140 hl (k := 7) rfl (oI_add x12 1) (by decide) rfl (fun ls hl => ?_)
        refine lv_goto (tgt := 78) hx hb d_10_16_143 (by decide) ?_
        obtain ⟨rfl, rfl, rfl, rfl, rfl⟩ := in5 h
        exact k0 rfl H locs ls hP hD hS (lv_sub hl [3, 4, 5, 6, 7, 2, 1, 0] rfl)
set_option maxRecDepth 100000 in
set_option maxHeartbeats 4000000 in
theorem s_Na_takeMultiple_78 (l : Launch) (z : Zz) (ad : Nat → Nat) (E : Ev) (q0 : Nat) (q1 : Nat) (x2 : Int) (x3 : Int) (x4 : Int) {Q : State → Prop} {p : Program} {e : Env} {s : State} {m : MethodId} {below : List Frame} {meth : Method} {c : Code} {A : Nat → Prop} {args : Array Value} (hx : p.tables.exec = Jvm.exec) (hb : c.code = prog_10_method_16_code) (hml : c.maxLocals = 13) (hts : ∀ w ∈ WG, w.before args s = true) (hown : s.vm.findClass "Ballothall$Natural" = some m.cls) (hlocks : meth.locks = false) (hA : ∀ q, s.heap.size ≤ q → A q) (hG : KG z s) (hZ : FZ z A s) (hL : Lay E) : ∀ (fu : Nat) (M : Mm) (x8 : Int) (x10 : Int) (x12 : Int) (t : Nat) (w8 : Int) (w10 : Int) (w12 : Int) (N : Mm), l_Na_takeMultiple_78 E q0 q1 x2 x3 x4 fu M x8 x10 x12 = some (t, w8, w10, w12, N) → (t = 1 → ∀ (H : Heap) (locs : List Loc) (ls : Array Slot), va_P z.1 classes (wv z ad E N) H → va_D A (wv z ad E N) → va_S A s.heap H locs → lv_has ls 13 [(0, .ref (ad q0)), (1, .ref (ad q1)), (2, .int (oI x2)), (8, .long (oJ w8))] → W p l e (rmK 1 47 0 0) s m args below meth c H locs 0 0 Q (F0 m 146 ls [])) → ∀ (H : Heap) (locs : List Loc) (ls : Array Slot), va_P z.1 classes (wv z ad E M) H → va_D A (wv z ad E M) → va_S A s.heap H locs → lv_has ls 13 [(0, .ref (ad q0)), (1, .ref (ad q1)), (2, .int (oI x2)), (3, .int (oI x3)), (4, .long (oJ x4)), (8, .long (oJ x8)), (10, .long (oJ x10)), (12, .int (oI x12))] → W p l e (rmK 1 47 0 0) s m args below meth c H locs 0 0 Q (F0 m 78 ls []) := by
  intro fu
  induction fu with
  | zero =>
    intro M x8 x10 x12 t w8 w10 w12 N h
    have h : (none : Option (Nat × Int × Int × Int × Mm)) = some _ := h
    cases h
  | succ fu ih =>
    intro M x8 x10 x12 t w8 w10 w12 N h k1 H locs ls hP hD hS hl
    obtain ⟨⟨t0, w80, w100, w120, N9⟩, g0, h⟩ := bd_e h
    refine b_Na_takeMultiple_78b l z ad E M q0 q1 x2 x3 x4 x8 x10 x12 t0 w80 w100 w120 N9 hx hb hml hts hown hlocks hA hG hZ hL g0 (fun e0 => ?_) (fun e0 => ?_) H locs ls hP hD hS hl
    · subst e0
      have h := ite_t rfl h
      exact ih N9 w80 w100 w120 t w8 w10 w12 N h k1
    · subst e0
      have h := ite_f (by decide) h
      obtain ⟨rfl, rfl, rfl, rfl, rfl⟩ := in5 h
      exact k1 rfl
set_option maxRecDepth 100000 in
set_option maxHeartbeats 4000000 in
theorem b_Na_takeMultiple_j146 (l : Launch) (z : Zz) (ad : Nat → Nat) (E : Ev) (M : Mm) (q0 : Nat) (q1 : Nat) (x2 : Int) (x8 : Int) (r : Int) (N : Mm) {p : Program} {e : Env} {s : State} {m : MethodId} {below : List Frame} {meth : Method} {c : Code} {A : Nat → Prop} {args : Array Value} (hx : p.tables.exec = Jvm.exec) (hb : c.code = prog_10_method_16_code) (hml : c.maxLocals = 13) (hts : ∀ w ∈ WG, w.before args s = true) (hown : s.vm.findClass "Ballothall$Natural" = some m.cls) (hlocks : meth.locks = false) (hA : ∀ q, s.heap.size ≤ q → A q) (hG : KG z s) (hZ : FZ z A s) (hL : Lay E) (hr : meth.sig.returnType = (some .int)) (h : Na_takeMultiple_j146 E M q0 q1 x2 x8 = some (r, N)) : ∀ (H : Heap) (locs : List Loc) (ls : Array Slot), va_P z.1 classes (wv z ad E M) H → va_D A (wv z ad E M) → va_S A s.heap H locs → lv_has ls 13 [(0, .ref (ad q0)), (1, .ref (ad q1)), (2, .int (oI x2)), (8, .long (oJ x8))] → W p l e (rmK 1 47 0 0) s m args below meth c H locs 0 0 (MQ below (QK z A (fun _ => some (.int (oI r))) (fun _ => (wv z ad E N))) args s 0 0 A) (F0 m 146 ls []) := by
  intro H locs ls hP hD hS hl
  unfold Na_takeMultiple_j146 at h
  obtain ⟨h_q0, h⟩ := ck_e h
  obtain ⟨h_q1, h⟩ := ck_e h
  refine lv_aload_n hx hb d_10_16_146 rfl (lv_at hl 0 rfl) ?_
  refine lv_aload_n hx hb d_10_16_147 rfl (lv_at hl 1 rfl) ?_
  refine lv_iload_n hx hb d_10_16_148 rfl (lv_at hl 2 rfl) ?_
  refine lv_lload hx hb d_10_16_149 (lv_at hl 3 rfl) ?_
  obtain ⟨⟨r121, M121⟩, g121, h⟩ := bd_e h
  refine kV (As := [.ref (ad q1), .int (oI x2), .long (oJ x8)]) (rest := []) (s_Na_subtractMultiple l z ad E M q0 q1 x2 x8 r121 M121 hL g121) hx hb hml hown hts w_1213 w_1210 w_1212 w_s_2dcc45 w_9 md_0f6454 ⟨Nat.le_of_ble_eq_true rfl, Nat.le_of_ble_eq_true rfl⟩ hG hZ hP hD hS hA q0 (wv_o (ci := 8) (isNa_i h_q0) (isNa_T h_q0)) rfl rfl rfl hl.1 rfl (Nat.le_of_ble_eq_true rfl) d_10_16_151 ⟨Nat.le_of_ble_eq_true rfl, Nat.le_of_ble_eq_true rfl⟩ (fun _ H locs hP hD hS => ?_)
  have hP : va_P z.1 classes (wv z ad E M121) H := hP
  have hD : va_D A (wv z ad E M121) := hD
  refine W.eq (g2 := F0 m 154 ls [.long (oJ r121)]) rfl ?_
  refine lv_lconst (v := oJ 0) hx hb d_10_16_154 (by decide +kernel) ?_
  obtain ⟨ok122, h⟩ := ck_e h
  refine W.lcmp hx hb d_10_16_155 ?_
  refine nrm (cmp_val (a := r121) (b := (0 : Int)) ok122 (by decide)) ?_
  refine lv_if_ge (tgt := 175) hx hb d_10_16_156 (by decide) (fun c9 => ?_) (fun c9 => ?_)
  · have h := ite_t ((cmp_ge r121 (0 : Int)).mp c9) h
    refine lv_lload hx hb d_10_16_175 (lv_at hl 3 rfl) ?_
    refine lv_l2i (v := oI x8) hx hb d_10_16_177 (oJ_i _) ?_
    obtain ⟨rfl, rfl⟩ := in2 h
    exact W.iret hx hb hr (fun t ht hW => qkA hP hD hS (fun k => k) rfl rfl ht) hS.2.2 d_10_16_178
  · have h := ite_f (fun q => c9 ((cmp_ge r121 (0 : Int)).mpr q)) h
    refine lv_lload hx hb d_10_16_159 (lv_at hl 3 rfl) ?_
    refine lv_lconst (v := oJ 1) hx hb d_10_16_161 (by decide +kernel) ?_
    refine lv_lsub hx hb d_10_16_162 ?_
    refine nrmL (oJ_sub _ _) ?_
    refine lv_lstore (lv' := [(8, .long (oJ (x8 - 1))), (0, .ref (ad q0)), (1, .ref (ad q1)), (2, .int (oI x2))]) hx hb d_10_16_163 hl (by decide) rfl (fun ls hl => ?_)
    refine lv_aload_n hx hb d_10_16_165 rfl (lv_at hl 1 rfl) ?_
    refine lv_aload_n hx hb d_10_16_166 rfl (lv_at hl 2 rfl) ?_
    refine lv_iload_n hx hb d_10_16_167 rfl (lv_at hl 3 rfl) ?_
    refine lv_ldc2 hx hb hown (hts _ w_1214) d_10_16_168 ?_
    refine nrmL (x1 := oJ (-1)) (by decide +kernel) ?_
    obtain ⟨⟨r123, M123⟩, g123, h⟩ := bd_e h
    refine kV (As := [.ref (ad q1), .int (oI x2), .long (oJ (-1))]) (rest := []) (s_Na_subtractMultiple l z ad E M121 q0 q1 x2 (-1) r123 M123 hL g123) hx hb hml hown hts w_1213 w_1210 w_1212 w_s_2dcc45 w_9 md_0f6454 ⟨Nat.le_of_ble_eq_true rfl, Nat.le_of_ble_eq_true rfl⟩ hG hZ hP hD hS hA q0 (wv_o (ci := 8) (isNa_i h_q0) (isNa_T h_q0)) rfl rfl rfl hl.1 rfl (Nat.le_of_ble_eq_true rfl) d_10_16_171 ⟨Nat.le_of_ble_eq_true rfl, Nat.le_of_ble_eq_true rfl⟩ (fun _ H locs hP hD hS => ?_)
    have hP : va_P z.1 classes (wv z ad E M123) H := hP
    have hD : va_D A (wv z ad E M123) := hD
    refine W.eq (g2 := F0 m 174 ls [.long (oJ r123)]) rfl ?_
    refine lv_pop2_2 hx hb d_10_16_174 rfl ?_
    refine lv_lload hx hb d_10_16_175 (lv_at hl 0 rfl) ?_
    refine lv_l2i (v := oI (x8 - 1)) hx hb d_10_16_177 (oJ_i _) ?_
    obtain ⟨rfl, rfl⟩ := in2 h
    exact W.iret hx hb hr (fun t ht hW => qkA hP hD hS (fun k => k) rfl rfl ht) hS.2.2 d_10_16_178
set_option maxRecDepth 100000 in
set_option maxHeartbeats 4000000 in
theorem s_Na_takeMultiple (l : Launch) (z : Zz) (ad : Nat → Nat) (E : Ev) (M : Mm) (p0 : Nat) (p1 : Nat) (x2 : Int) (r : Int) (N : Mm) (hL : Lay E) (h : f_Na_takeMultiple E M p0 p1 x2 = some (r, N)) : CT l z ⟨"Ballothall$Natural", "takeMultiple", "(LBallothall$Natural;I)I"⟩ prog_10_method_16_code 13 (some .int) [.ref (ad p0), .ref (ad p1), .int (oI x2)] (wv z ad E M) 1 47 0 0 (fun _ => some (.int (oI r))) (fun _ => (wv z ad E N)) := by
  refine CT.of (own := "Ballothall$Natural") (by decide +kernel) (Nat.le_of_ble_eq_true rfl) rfl (fun p e s m below meth c A ls hx hb hml hr hts hown hlocks hin hA hG hZ hP hD hS hl => ?_)
  have hl : lv_has ls 13 [(0, .ref (ad p0)), (1, .ref (ad p1)), (2, .int (oI x2))] := hl
  have key : ∀ (H : Heap) (locs : List Loc) (args : Array Value), (∀ w ∈ WG, w.before args s = true) → va_P z.1 classes (wv z ad E M) H → va_S A s.heap H locs → W p l e (rmK 1 47 0 0) s m args below meth c H locs 0 0 (MQ below (QK z A (fun _ => some (.int (oI r))) (fun _ => (wv z ad E N))) args s 0 0 A) (F0 m 0 ls []) := by
    intro H locs args hts hP hS
    unfold f_Na_takeMultiple at h
    obtain ⟨h_p0, h⟩ := ck_e h
    obtain ⟨h_p1, h⟩ := ck_e h
    refine lv_iload_n hx hb d_10_16_0 rfl (lv_at hl 2 rfl) ?_
    refine lv_aload_n hx hb d_10_16_1 rfl (lv_at hl 1 rfl) ?_
    refine m_gi (C := "Ballothall$Natural") (T := TX8) (N := 2) (ci := 8) (k := 1) hx hb hts iX8 hown hG hP (isNa_i h_p1) (isNa_T h_p1) rfl (by decide) w_295 (fun _ h9 => h9) rfl rfl d_10_16_2 ?_
    refine lv_iadd hx hb d_10_16_5 ?_
    refine nrm (oI_add _ _) ?_
    refine lv_istore_n (lv' := [(3, .int (oI (x2 + (M p1 1)))), (0, .ref (ad p0)), (1, .ref (ad p1)), (2, .int (oI x2))]) hx hb d_10_16_6 rfl hl (by decide) rfl (fun ls hl => ?_)
    refine lv_aload_n hx hb d_10_16_7 rfl (lv_at hl 2 rfl) ?_
    refine m_gr (j := (p1 + 1)) (C := "Ballothall$Natural") (T := TX8) (N := 2) (ci := 8) (k := 0) hx hb hts iX8 hown hG hP (isNa_i h_p1) (isNa_T h_p1) rfl (by decide) w_294 (fun _ h9 => h9) rfl rfl (isNa_r0 h_p1) d_10_16_8 ?_
    refine lv_aload_n hx hb d_10_16_11 rfl (lv_at hl 2 rfl) ?_
    refine m_gi (C := "Ballothall$Natural") (T := TX8) (N := 2) (ci := 8) (k := 1) hx hb hts iX8 hown hG hP (isNa_i h_p1) (isNa_T h_p1) rfl (by decide) w_295 (fun _ h9 => h9) rfl rfl d_10_16_12 ?_
    refine lv_iconst (v := oI 1) hx hb d_10_16_15 (by decide +kernel) ?_
    refine lv_isub hx hb d_10_16_16 ?_
    refine nrm (oI_sub _ _) ?_
    obtain ⟨ok100, h⟩ := ck_e h
    refine m_ia hx hb hG hP (isNa_i1 h_p1) (isNa_t1 h_p1) ok100 d_10_16_17 ?_
    obtain ⟨ok101, h⟩ := ck_e h
    refine lv_i2l (v := oJ (M (p1 + 1) ((M p1 1) - 1).toNat)) hx hb d_10_16_18 (oI_l ok101) ?_
    obtain ⟨v102, e102, h⟩ := nb_e h
    refine nrmL (congrArg oJ e102.symm) ?_
    refine lv_lstore (lv' := [(4, .long (oJ v102)), (3, .int (oI (x2 + (M p1 1)))), (0, .ref (ad p0)), (1, .ref (ad p1)), (2, .int (oI x2))]) hx hb d_10_16_19 hl (by decide) rfl (fun ls hl => ?_)
    refine lv_lload hx hb d_10_16_21 (lv_at hl 0 rfl) ?_
    refine lv_lconst (v := oJ 0) hx hb d_10_16_23 (by decide +kernel) ?_
    refine W.lcmp hx hb d_10_16_24 ?_
    refine nrm (cmp_val (a := v102) (b := (0 : Int)) (e102 ▸ (rg_ij ok101)) (by decide)) ?_
    refine lv_if_ne (tgt := 30) hx hb d_10_16_25 (by decide) (fun c9 => ?_) (fun c9 => ?_)
    · have h := ite_f (fun q => c9 ((cmp_eq v102 (0 : Int)).mpr q)) h
      refine lv_aload_n hx hb d_10_16_30 rfl (lv_at hl 2 rfl) ?_
      refine m_gr (j := (p0 + 1)) (C := "Ballothall$Natural") (T := TX8) (N := 2) (ci := 8) (k := 0) hx hb hts iX8 hown hG hP (isNa_i h_p0) (isNa_T h_p0) rfl (by decide) w_294 (fun _ h9 => h9) rfl rfl (isNa_r0 h_p0) d_10_16_31 ?_
      refine lv_iload_n hx hb d_10_16_34 rfl (lv_at hl 1 rfl) ?_
      obtain ⟨ok103, h⟩ := ck_e h
      refine m_ia hx hb hG hP (isNa_i1 h_p0) (isNa_t1 h_p0) ok103 d_10_16_35 ?_
      obtain ⟨ok104, h⟩ := ck_e h
      refine lv_i2l (v := oJ (M (p0 + 1) (x2 + (M p1 1)).toNat)) hx hb d_10_16_36 (oI_l ok104) ?_
      refine lv_bipush (v := oI 30) hx hb d_10_16_37 (by decide +kernel) ?_
      refine lv_lshl (v := oJ ((M (p0 + 1) (x2 + (M p1 1)).toNat) * 1073741824)) hx hb d_10_16_39 (oJ_shl (b := (30 : Int)) (by decide) (by decide)) ?_
      refine lv_aload_n hx hb d_10_16_40 rfl (lv_at hl 2 rfl) ?_
      refine m_gr (j := (p0 + 1)) (C := "Ballothall$Natural") (T := TX8) (N := 2) (ci := 8) (k := 0) hx hb hts iX8 hown hG hP (isNa_i h_p0) (isNa_T h_p0) rfl (by decide) w_294 (fun _ h9 => h9) rfl rfl (isNa_r0 h_p0) d_10_16_41 ?_
      refine lv_iload_n hx hb d_10_16_44 rfl (lv_at hl 1 rfl) ?_
      refine lv_iconst (v := oI 1) hx hb d_10_16_45 (by decide +kernel) ?_
      refine lv_isub hx hb d_10_16_46 ?_
      refine nrm (oI_sub _ _) ?_
      obtain ⟨ok105, h⟩ := ck_e h
      refine m_ia hx hb hG hP (isNa_i1 h_p0) (isNa_t1 h_p0) ok105 d_10_16_47 ?_
      obtain ⟨ok106, h⟩ := ck_e h
      refine lv_i2l (v := oJ (M (p0 + 1) ((x2 + (M p1 1)) - 1).toNat)) hx hb d_10_16_48 (oI_l ok106) ?_
      refine lv_ladd hx hb d_10_16_49 ?_
      refine nrmL (oJ_add _ _) ?_
      obtain ⟨v107, e107, h⟩ := nb_e h
      refine nrmL (congrArg oJ e107.symm) ?_
      refine lv_lstore (lv' := [(6, .long (oJ v107)), (4, .long (oJ v102)), (3, .int (oI (x2 + (M p1 1)))), (0, .ref (ad p0)), (1, .ref (ad p1)), (2, .int (oI x2))]) hx hb d_10_16_50 hl (by decide) rfl (fun ls hl => ?_)
      refine lv_lload hx hb d_10_16_52 (lv_at hl 0 rfl) ?_
      refine lv_lload hx hb d_10_16_54 (lv_at hl 1 rfl) ?_
      obtain ⟨ok108, h⟩ := ck_e h
      obtain ⟨ok109, h⟩ := ck_e h
      refine lv_ldiv hx hb d_10_16_56 (oJ_nz ok109.1 ok109.2) ?_
      refine nrmL (oJ_div (a := v107) (b := v102) ok108.1 ok108.2 ok109.1 ok109.2) ?_
      refine lv_ldc2 hx hb hown (hts _ w_605) d_10_16_57 ?_
      refine nrmL (x1 := oJ 1073741823) (by decide +kernel) ?_
      obtain ⟨ok110, h⟩ := ck_e h
      refine va_mmin_long hx hb (by rw [hml]; exact hl.1.symm) hown (hts _ w_1209) (hts _ w_720) (hts _ w_17) (hts _ w_minL) (Nat.le_of_ble_eq_true rfl) (Nat.le_of_ble_eq_true rfl) (Nat.le_of_ble_eq_true rfl) (Nat.le_of_ble_eq_true rfl) d_10_16_60 ?_
      refine nrmL (mn_oJ (a := (v107 / v102)) (b := (1073741823 : Int)) ok110 (by decide)) ?_
      obtain ⟨v111, e111, h⟩ := nb_e h
      refine nrmL (congrArg oJ e111.symm) ?_
      refine lv_lstore (lv' := [(8, .long (oJ v111)), (6, .long (oJ v107)), (4, .long (oJ v102)), (3, .int (oI (x2 + (M p1 1)))), (0, .ref (ad p0)), (1, .ref (ad p1)), (2, .int (oI x2))]) hx hb d_10_16_63 hl (by decide) rfl (fun ls hl => ?_)
      refine lv_lload hx hb d_10_16_65 (lv_at hl 1 rfl) ?_
      refine lv_lload hx hb d_10_16_67 (lv_at hl 0 rfl) ?_
      refine lv_lload hx hb d_10_16_69 (lv_at hl 2 rfl) ?_
      refine lv_lmul hx hb d_10_16_71 ?_
      refine nrmL (oJ_mul _ _) ?_
      refine lv_lsub hx hb d_10_16_72 ?_
      refine nrmL (oJ_sub _ _) ?_
      refine lv_lstore (lv' := [(10, .long (oJ (v107 - (v111 * v102)))), (8, .long (oJ v111)), (6, .long (oJ v107)), (4, .long (oJ v102)), (3, .int (oI (x2 + (M p1 1)))), (0, .ref (ad p0)), (1, .ref (ad p1)), (2, .int (oI x2))]) hx hb d_10_16_73 hl (by decide) rfl (fun ls hl => ?_)
      refine lv_iconst (v := oI 0) hx hb d_10_16_75 (by decide +kernel) ?_
      refine lv_istore (lv' := [(12, .int (oI 0)), (10, .long (oJ (v107 - (v111 * v102)))), (8, .long (oJ v111)), (6, .long (oJ v107)), (4, .long (oJ v102)), (3, .int (oI (x2 + (M p1 1)))), (0, .ref (ad p0)), (1, .ref (ad p1)), (2, .int (oI x2))]) hx hb d_10_16_76 hl (by decide) rfl (fun ls hl => ?_)
      obtain ⟨⟨t120, v120_8, v120_10, v120_12, M120⟩, g120, h⟩ := bd_e h
      obtain ⟨ok120, h⟩ := ck_e h
      refine s_Na_takeMultiple_78 l z ad E p0 p1 x2 (x2 + (M p1 1)) v102 hx hb hml hts hown hlocks hA hG hZ hL FU M v111 (v107 - (v111 * v102)) 0 t120 v120_8 v120_10 v120_12 M120 g120 (fun e120 H locs ls hP hD hS hl => ?_) H locs ls hP hD hS (lv_sub hl [6, 7, 8, 5, 4, 2, 1, 0] rfl)
      exact b_Na_takeMultiple_j146 l z ad E M120 p0 p1 x2 v120_8 r N hx hb hml hts hown hlocks hA hG hZ hL hr h H locs ls hP hD hS (lv_sub hl [0, 1, 2, 3] rfl)
    · have h := ite_t ((cmp_eq v102 (0 : Int)).mp c9) h
      refine lv_iconst (v := oI 0) hx hb d_10_16_28 (by decide +kernel) ?_
      obtain ⟨rfl, rfl⟩ := in2 h
      exact W.iret hx hb hr (fun t ht hW => qkA hP hD hS (fun k => k) rfl rfl ht) hS.2.2 d_10_16_29
  exact key _ _ _ hts hP hS
set_option maxRecDepth 100000 in
set_option maxHeartbeats 4000000 in
theorem b_Na_divide_43b (l : Launch) (z : Zz) (ad : Nat → Nat) (E : Ev) (M : Mm) (q0 : Nat) (q1 : Nat) (q2 : Nat) (q3 : Nat) (x4 : Int) (t : Nat) (w4 : Int) (N : Mm) {Q : State → Prop} {p : Program} {e : Env} {s : State} {m : MethodId} {below : List Frame} {meth : Method} {c : Code} {A : Nat → Prop} {args : Array Value} (hx : p.tables.exec = Jvm.exec) (hb : c.code = prog_10_method_15_code) (hml : c.maxLocals = 6) (hts : ∀ w ∈ WG, w.before args s = true) (hown : s.vm.findClass "Ballothall$Natural" = some m.cls) (hlocks : meth.locks = false) (hA : ∀ q, s.heap.size ≤ q → A q) (hG : KG z s) (hZ : FZ z A s) (hL : Lay E) (h : Na_divide_43b E M q0 q1 q2 q3 x4 = some (t, w4, N)) (k0 : t = 0 → ∀ (H : Heap) (locs : List Loc) (ls : Array Slot), va_P z.1 classes (wv z ad E N) H → va_D A (wv z ad E N) → va_S A s.heap H locs → lv_has ls 6 [(0, .ref (ad q0)), (1, .ref (ad q1)), (2, .ref (ad q2)), (3, .ref (ad q3)), (4, .int (oI w4))] → W p l e (rmK 3 87 0 0) s m args below meth c H locs 0 0 Q (F0 m 43 ls [])) (k1 : t = 1 → ∀ (H : Heap) (locs : List Loc) (ls : Array Slot), va_P z.1 classes (wv z ad E N) H → va_D A (wv z ad E N) → va_S A s.heap H locs → lv_has ls 6 [(0, .ref (ad q0)), (1, .ref (ad q1)), (2, .ref (ad q2)), (3, .ref (ad q3)), (4, .int (oI w4))] → W p l e (rmK 3 87 0 0) s m args below meth c H locs 0 0 Q (F0 m 76 ls [])) : ∀ (H : Heap) (locs : List Loc) (ls : Array Slot), va_P z.1 classes (wv z ad E M) H → va_D A (wv z ad E M) → va_S A s.heap H locs → lv_has ls 6 [(0, .ref (ad q0)), (1, .ref (ad q1)), (2, .ref (ad q2)), (3, .ref (ad q3)), (4, .int (oI x4))] → W p l e (rmK 3 87 0 0) s m args below meth c H locs 0 0 Q (F0 m 43 ls []) := by
  intro H locs ls hP hD hS hl
  unfold Na_divide_43b at h
  obtain ⟨h_q0, h⟩ := ck_e h
  obtain ⟨h_q1, h⟩ := ck_e h
  obtain ⟨h_q2, h⟩ := ck_e h
  obtain ⟨h_q3, h⟩ := ck_e h
  refine lv_iload hx hb d_10_15_43 (lv_at hl 4 rfl) ?_
  refine lv_bipush (v := oI 30) hx hb d_10_15_45 (by decide +kernel) ?_
  obtain ⟨ok101, h⟩ := ck_e h
  refine lv_icmp_ge (tgt := 76) hx hb d_10_15_47 (by decide) (fun c9 => ?_) (fun c9 => ?_)
  · have h := ite_t ((oI_le (a := (30 : Int)) (b := x4) (by decide) ok101).mp c9) h
    obtain ⟨rfl, rfl, rfl⟩ := in3 h
    exact k1 rfl H locs ls hP hD hS (lv_sub hl [0, 1, 2, 3, 4] rfl)
  · have h := ite_f (fun q => c9 ((oI_le (a := (30 : Int)) (b := x4) (by decide) ok101).mpr q)) h
    refine lv_aload_n hx hb d_10_15_50 rfl (lv_at hl 1 rfl) ?_
    refine m_gr (j := (q1 + 1)) (C := "Ballothall$Natural") (T := TX8) (N := 2) (ci := 8) (k := 0) hx hb hts iX8 hown hG hP (isNa_i h_q1) (isNa_T h_q1) rfl (by decide) w_294 (fun _ h9 => h9) rfl rfl (isNa_r0 h_q1) d_10_15_51 ?_
    refine lv_aload_n hx hb d_10_15_54 rfl (lv_at hl 1 rfl) ?_
    refine m_gi (C := "Ballothall$Natural") (T := TX8) (N := 2) (ci := 8) (k := 1) hx hb hts iX8 hown hG hP (isNa_i h_q1) (isNa_T h_q1) rfl (by decide) w_295 (fun _ h9 => h9) rfl rfl d_10_15_55 ?_
    refine lv_iconst (v := oI 1) hx hb d_10_15_58 (by decide +kernel) ?_
    refine lv_isub hx hb d_10_15_59 ?_
    refine nrm (oI_sub _ _) ?_
    obtain ⟨ok102, h⟩ := ck_e h
    refine m_ia hx hb hG hP (isNa_i1 h_q1) (isNa_t1 h_q1) ok102 d_10_15_60 ?_
    refine lv_iload hx hb d_10_15_61 (lv_at hl 4 rfl) ?_
    obtain ⟨ok103, h⟩ := ck_e h
    refine lv_ishl hx hb d_10_15_63 ?_
    refine nrm (oI_shl ok103.1 ok103.2) ?_
    refine lv_bipush (v := oI 29) hx hb d_10_15_64 (by decide +kernel) ?_
    obtain ⟨ok104, h⟩ := ck_e h
    refine lv_ishr hx hb d_10_15_66 ?_
    refine nrm (x1 := oI (((M (q1 + 1) ((M q1 1) - 1).toNat) * 2 ^ x4.toNat) / 536870912)) (oI_shr (b := 29) ok104 (by decide) (by decide)) ?_
    obtain ⟨ok105, h⟩ := ck_e h
    refine lv_if_ne (tgt := 76) hx hb d_10_15_67 (by decide) (fun c9 => ?_) (fun c9 => ?_)
    · have h := ite_f (fun q => c9 ((oI_eq0 ok105).mpr q)) h
      obtain ⟨rfl, rfl, rfl⟩ := in3 h
      exact k1 rfl H locs ls hP hD hS (lv_sub hl [0, 1, 2, 3, 4] rfl)
    · have h := ite_t ((oI_eq0 ok105).mp c9) h
      refine lv_iinc (v := oI (x4 + 1)) (lv' := [(4, .int (oI (x4 + 1))), (0, .ref (ad q0)), (1, .ref (ad q1)), (2, .ref (ad q2)), (3, .ref (ad q3))]) hx hb d_10_15_70 hl (k := 4) rfl (oI_add x4 1) (by decide) rfl (fun ls hl => ?_)
      refine lv_goto (tgt := 43) hx hb d_10_15_73 (by decide) ?_
      obtain ⟨rfl, rfl, rfl⟩ := in3 h
      exact k0 rfl H locs ls hP hD hS (lv_sub hl [1, 2, 3, 4, 0] rfl)
set_option maxRecDepth 100000 in
set_option maxHeartbeats 4000000 in
theorem s_Na_divide_43 (l : Launch) (z : Zz) (ad : Nat → Nat) (E : Ev) (q0 : Nat) (q1 : Nat) (q2 : Nat) (q3 : Nat) {Q : State → Prop} {p : Program} {e : Env} {s : State} {m : MethodId} {below : List Frame} {meth : Method} {c : Code} {A : Nat → Prop} {args : Array Value} (hx : p.tables.exec = Jvm.exec) (hb : c.code = prog_10_method_15_code) (hml : c.maxLocals = 6) (hts : ∀ w ∈ WG, w.before args s = true) (hown : s.vm.findClass "Ballothall$Natural" = some m.cls) (hlocks : meth.locks = false) (hA : ∀ q, s.heap.size ≤ q → A q) (hG : KG z s) (hZ : FZ z A s) (hL : Lay E) : ∀ (fu : Nat) (M : Mm) (x4 : Int) (t : Nat) (w4 : Int) (N : Mm), l_Na_divide_43 E q0 q1 q2 q3 fu M x4 = some (t, w4, N) → (t = 1 → ∀ (H : Heap) (locs : List Loc) (ls : Array Slot), va_P z.1 classes (wv z ad E N) H → va_D A (wv z ad E N) → va_S A s.heap H locs → lv_has ls 6 [(0, .ref (ad q0)), (1, .ref (ad q1)), (2, .ref (ad q2)), (3, .ref (ad q3)), (4, .int (oI w4))] → W p l e (rmK 3 87 0 0) s m args below meth c H locs 0 0 Q (F0 m 76 ls [])) → ∀ (H : Heap) (locs : List Loc) (ls : Array Slot), va_P z.1 classes (wv z ad E M) H → va_D A (wv z ad E M) → va_S A s.heap H locs → lv_has ls 6 [(0, .ref (ad q0)), (1, .ref (ad q1)), (2, .ref (ad q2)), (3, .ref (ad q3)), (4, .int (oI x4))] → W p l e (rmK 3 87 0 0) s m args below meth c H locs 0 0 Q (F0 m 43 ls []) := by
  intro fu
  induction fu with
  | zero =>
    intro M x4 t w4 N h
    have h : (none : Option (Nat × Int × Mm)) = some _ := h
    cases h
  | succ fu ih =>
    intro M x4 t w4 N h k1 H locs ls hP hD hS hl
    obtain ⟨⟨t0, w40, N9⟩, g0, h⟩ := bd_e h
    refine b_Na_divide_43b l z ad E M q0 q1 q2 q3 x4 t0 w40 N9 hx hb hml hts hown hlocks hA hG hZ hL g0 (fun e0 => ?_) (fun e0 => ?_) H locs ls hP hD hS hl
    · subst e0
      have h := ite_t rfl h
      exact ih N9 w40 t w4 N h k1
    · subst e0
      have h := ite_f (by decide) h
      obtain ⟨rfl, rfl, rfl⟩ := in3 h
      exact k1 rfl
set_option maxRecDepth 100000 in
set_option maxHeartbeats 4000000 in
theorem b_Na_divide_103b (l : Launch) (z : Zz) (ad : Nat → Nat) (E : Ev) (M : Mm) (q0 : Nat) (q2 : Nat) (q3 : Nat) (x4 : Int) (x5 : Int) (t : Nat) (w5 : Int) (N : Mm) {Q : State → Prop} {p : Program} {e : Env} {s : State} {m : MethodId} {below : List Frame} {meth : Method} {c : Code} {A : Nat → Prop} {args : Array Value} (hx : p.tables.exec = Jvm.exec) (hb : c.code = prog_10_method_15_code) (hml : c.maxLocals = 6) (hts : ∀ w ∈ WG, w.before args s = true) (hown : s.vm.findClass "Ballothall$Natural" = some m.cls) (hlocks : meth.locks = false) (hA : ∀ q, s.heap.size ≤ q → A q) (hG : KG z s) (hZ : FZ z A s) (hL : Lay E) (h : Na_divide_103b E M q0 q2 q3 x4 x5 = some (t, w5, N)) (k0 : t = 0 → ∀ (H : Heap) (locs : List Loc) (ls : Array Slot), va_P z.1 classes (wv z ad E N) H → va_D A (wv z ad E N) → va_S A s.heap H locs → lv_has ls 6 [(0, .ref (ad q0)), (2, .ref (ad q2)), (3, .ref (ad q3)), (4, .int (oI x4)), (5, .int (oI w5))] → W p l e (rmK 3 87 0 0) s m args below meth c H locs 0 0 Q (F0 m 103 ls [])) (k1 : t = 1 → ∀ (H : Heap) (locs : List Loc) (ls : Array Slot), va_P z.1 classes (wv z ad E N) H → va_D A (wv z ad E N) → va_S A s.heap H locs → lv_has ls 6 [(0, .ref (ad q0)), (2, .ref (ad q2)), (3, .ref (ad q3)), (4, .int (oI x4))] → W p l e (rmK 3 87 0 0) s m args below meth c H locs 0 0 Q (F0 m 124 ls [])) : ∀ (H : Heap) (locs : List Loc) (ls : Array Slot), va_P z.1 classes (wv z ad E M) H → va_D A (wv z ad E M) → va_S A s.heap H locs → lv_has ls 6 [(0, .ref (ad q0)), (2, .ref (ad q2)), (3, .ref (ad q3)), (4, .int (oI x4)), (5, .int (oI x5))] → W p l e (rmK 3 87 0 0) s m args below meth c H locs 0 0 Q (F0 m 103 ls []) := by
  intro H locs ls hP hD hS hl
  unfold Na_divide_103b at h
  obtain ⟨h_q0, h⟩ := ck_e h
  obtain ⟨h_q2, h⟩ := ck_e h
  obtain ⟨h_q3, h⟩ := ck_e h
  refine lv_iload hx hb d_10_15_103 (lv_at hl 4 rfl) ?_
  refine lv_bipush (v := oI 13) hx hb d_10_15_105 (by decide +kernel) ?_
  obtain ⟨ok112, h⟩ := ck_e h
  refine lv_icmp_ge (tgt := 124) hx hb d_10_15_107 (by decide) (fun c9 => ?_) (fun c9 => ?_)
  · have h := ite_t ((oI_le (a := (13 : Int)) (b := x5) (by decide) ok112).mp c9) h
    obtain ⟨rfl, rfl, rfl⟩ := in3 h
    exact k1 rfl H locs ls hP hD hS (lv_sub hl [0, 1, 2, 3] rfl)
  · have h := ite_f (fun q => c9 ((oI_le (a := (13 : Int)) (b := x5) (by decide) ok112).mpr q)) h
    refine lv_aload_n hx hb d_10_15_110 rfl (lv_at hl 0 rfl) ?_
    refine m_gr (j := (q0 + 1)) (C := "Ballothall$Natural") (T := TX8) (N := 2) (ci := 8) (k := 0) hx hb hts iX8 hown hG hP (isNa_i h_q0) (isNa_T h_q0) rfl (by decide) w_294 (fun _ h9 => h9) rfl rfl (isNa_r0 h_q0) d_10_15_111 ?_
    refine lv_iload hx hb d_10_15_114 (lv_at hl 4 rfl) ?_
    refine lv_iconst (v := oI 0) hx hb d_10_15_116 (by decide +kernel) ?_
    obtain ⟨ok113, h⟩ := ck_e h
    refine m_is hx hb hG hP hD hS (isNa_i1 h_q0) (isNa_t1 h_q0) ok113 d_10_15_117 (fun H locs hP hD hS => ?_)
    have hP : va_P z.1 classes (wv z ad E (u2 M (q0 + 1) x5.toNat 0)) H := hP
    have hD : va_D A (wv z ad E (u2 M (q0 + 1) x5.toNat 0)) := hD
    refine lv_iinc (v := oI (x5 + 1)) (lv' := [(5, .int (oI (x5 + 1))), (0, .ref (ad q0)), (2, .ref (ad q2)), (3, .ref (ad q3)), (4, .int (oI x4))]) hx hb d_10_15_118 hl (k := 4) rfl (oI_add x5 1) (by decide) rfl (fun ls hl => ?_)
    refine lv_goto (tgt := 103) hx hb d_10_15_121 (by decide) ?_
    obtain ⟨rfl, rfl, rfl⟩ := in3 h
    exact k0 rfl H locs ls hP hD hS (lv_sub hl [1, 2, 3, 4, 0] rfl)
set_option maxRecDepth 100000 in
set_option maxHeartbeats 4000000 in
theorem s_Na_divide_103 (l : Launch) (z : Zz) (ad : Nat → Nat) (E : Ev) (q0 : Nat) (q2 : Nat) (q3 : Nat) (x4 : Int) {Q : State → Prop} {p : Program} {e : Env} {s : State} {m : MethodId} {below : List Frame} {meth : Method} {c : Code} {A : Nat → Prop} {args : Array Value} (hx : p.tables.exec = Jvm.exec) (hb : c.code = prog_10_method_15_code) (hml : c.maxLocals = 6) (hts : ∀ w ∈ WG, w.before args s = true) (hown : s.vm.findClass "Ballothall$Natural" = some m.cls) (hlocks : meth.locks = false) (hA : ∀ q, s.heap.size ≤ q → A q) (hG : KG z s) (hZ : FZ z A s) (hL : Lay E) : ∀ (fu : Nat) (M : Mm) (x5 : Int) (t : Nat) (w5 : Int) (N : Mm), l_Na_divide_103 E q0 q2 q3 x4 fu M x5 = some (t, w5, N) → (t = 1 → ∀ (H : Heap) (locs : List Loc) (ls : Array Slot), va_P z.1 classes (wv z ad E N) H → va_D A (wv z ad E N) → va_S A s.heap H locs → lv_has ls 6 [(0, .ref (ad q0)), (2, .ref (ad q2)), (3, .ref (ad q3)), (4, .int (oI x4))] → W p l e (rmK 3 87 0 0) s m args below meth c H locs 0 0 Q (F0 m 124 ls [])) → ∀ (H : Heap) (locs : List Loc) (ls : Array Slot), va_P z.1 classes (wv z ad E M) H → va_D A (wv z ad E M) → va_S A s.heap H locs → lv_has ls 6 [(0, .ref (ad q0)), (2, .ref (ad q2)), (3, .ref (ad q3)), (4, .int (oI x4)), (5, .int (oI x5))] → W p l e (rmK 3 87 0 0) s m args below meth c H locs 0 0 Q (F0 m 103 ls []) := by
  intro fu
  induction fu with
  | zero =>
    intro M x5 t w5 N h
    have h : (none : Option (Nat × Int × Mm)) = some _ := h
    cases h
  | succ fu ih =>
    intro M x5 t w5 N h k1 H locs ls hP hD hS hl
    obtain ⟨⟨t0, w50, N9⟩, g0, h⟩ := bd_e h
    refine b_Na_divide_103b l z ad E M q0 q2 q3 x4 x5 t0 w50 N9 hx hb hml hts hown hlocks hA hG hZ hL g0 (fun e0 => ?_) (fun e0 => ?_) H locs ls hP hD hS hl
    · subst e0
      have h := ite_t rfl h
      exact ih N9 w50 t w5 N h k1
    · subst e0
      have h := ite_f (by decide) h
      obtain ⟨rfl, rfl, rfl⟩ := in3 h
      exact k1 rfl
set_option maxRecDepth 100000 in
set_option maxHeartbeats 4000000 in
theorem b_Na_divide_148b (l : Launch) (z : Zz) (ad : Nat → Nat) (E : Ev) (M : Mm) (q0 : Nat) (q2 : Nat) (q3 : Nat) (x4 : Int) (x5 : Int) (t : Nat) (w5 : Int) (N : Mm) {Q : State → Prop} {p : Program} {e : Env} {s : State} {m : MethodId} {below : List Frame} {meth : Method} {c : Code} {A : Nat → Prop} {args : Array Value} (hx : p.tables.exec = Jvm.exec) (hb : c.code = prog_10_method_15_code) (hml : c.maxLocals = 6) (hts : ∀ w ∈ WG, w.before args s = true) (hown : s.vm.findClass "Ballothall$Natural" = some m.cls) (hlocks : meth.locks = false) (hA : ∀ q, s.heap.size ≤ q → A q) (hG : KG z s) (hZ : FZ z A s) (hL : Lay E) (h : Na_divide_148b E M q0 q2 q3 x4 x5 = some (t, w5, N)) (k0 : t = 0 → ∀ (H : Heap) (locs : List Loc) (ls : Array Slot), va_P z.1 classes (wv z ad E N) H → va_D A (wv z ad E N) → va_S A s.heap H locs → lv_has ls 6 [(0, .ref (ad q0)), (2, .ref (ad q2)), (3, .ref (ad q3)), (4, .int (oI x4)), (5, .int (oI w5))] → W p l e (rmK 3 87 0 0) s m args below meth c H locs 0 0 Q (F0 m 148 ls [])) (k1 : t = 1 → ∀ (H : Heap) (locs : List Loc) (ls : Array Slot), va_P z.1 classes (wv z ad E N) H → va_D A (wv z ad E N) → va_S A s.heap H locs → lv_has ls 6 [(0, .ref (ad q0)), (2, .ref (ad q2)), (4, .int (oI x4))] → W p l e (rmK 3 87 0 0) s m args below meth c H locs 0 0 Q (F0 m 173 ls [])) : ∀ (H : Heap) (locs : List Loc) (ls : Array Slot), va_P z.1 classes (wv z ad E M) H → va_D A (wv z ad E M) → va_S A s.heap H locs → lv_has ls 6 [(0, .ref (ad q0)), (2, .ref (ad q2)), (3, .ref (ad q3)), (4, .int (oI x4)), (5, .int (oI x5))] → W p l e (rmK 3 87 0 0) s m args below meth c H locs 0 0 Q (F0 m 148 ls []) := by
  intro H locs ls hP hD hS hl
  unfold Na_divide_148b at h
  obtain ⟨h_q0, h⟩ := ck_e h
  obtain ⟨h_q2, h⟩ := ck_e h
  obtain ⟨h_q3, h⟩ := ck_e h
  refine lv_iload hx hb d_10_15_148 (lv_at hl 4 rfl) ?_
  obtain ⟨ok118, h⟩ := ck_e h
  refine lv_if_lt (tgt := 173) hx hb d_10_15_150 (by decide) (fun c9 => ?_) (fun c9 => ?_)
  · have h := ite_t ((oI_lt0 ok118).mp c9) h
    obtain ⟨rfl, rfl, rfl⟩ := in3 h
    exact k1 rfl H locs ls hP hD hS (lv_sub hl [0, 1, 3] rfl)
  · have h := ite_f (fun q => c9 ((oI_lt0 ok118).mpr q)) h
    refine lv_aload_n hx hb d_10_15_153 rfl (lv_at hl 1 rfl) ?_
    refine m_gr (j := (q2 + 1)) (C := "Ballothall$Natural") (T := TX8) (N := 2) (ci := 8) (k := 0) hx hb hts iX8 hown hG hP (isNa_i h_q2) (isNa_T h_q2) rfl (by decide) w_294 (fun _ h9 => h9) rfl rfl (isNa_r0 h_q2) d_10_15_154 ?_
    refine lv_iload hx hb d_10_15_157 (lv_at hl 4 rfl) ?_
    refine lv_aload_n hx hb d_10_15_159 rfl (lv_at hl 0 rfl) ?_
    refine lv_aload_n hx hb d_10_15_160 rfl (lv_at hl 2 rfl) ?_
    refine lv_iload hx hb d_10_15_161 (lv_at hl 4 rfl) ?_
    obtain ⟨⟨r119, M119⟩, g119, h⟩ := bd_e h
    refine kV (As := [.ref (ad q3), .int (oI x5)]) (rest := [.int (oI x5), .ref (ad (q2 + 1))]) (s_Na_takeMultiple l z ad E M q0 q3 x5 r119 M119 hL g119) hx hb hml hown hts w_1208 w_1205 w_1207 w_s_55265e w_9 md_88ef4b ⟨Nat.le_of_ble_eq_true rfl, Nat.le_of_ble_eq_true rfl⟩ hG hZ hP hD hS hA q0 (wv_o (ci := 8) (isNa_i h_q0) (isNa_T h_q0)) rfl rfl rfl hl.1 rfl (Nat.le_of_ble_eq_true rfl) d_10_15_163 ⟨Nat.le_of_ble_eq_true rfl, Nat.le_of_ble_eq_true rfl⟩ (fun _ H locs hP hD hS => ?_)
    have hP : va_P z.1 classes (wv z ad E M119) H := hP
    have hD : va_D A (wv z ad E M119) := hD
    refine W.eq (g2 := F0 m 166 ls [.int (oI r119), .int (oI x5), .ref (ad (q2 + 1))]) rfl ?_
    obtain ⟨ok120, h⟩ := ck_e h
    refine m_is hx hb hG hP hD hS (isNa_i1 h_q2) (isNa_t1 h_q2) ok120 d_10_15_166 (fun H locs hP hD hS => ?_)
    have hP : va_P z.1 classes (wv z ad E (u2 M119 (q2 + 1) x5.toNat r119)) H := hP
    have hD : va_D A (wv z ad E (u2 M119 (q2 + 1) x5.toNat r119)) := hD
    refine lv_iinc (v := oI (x5 + (-1))) (lv' := [(5, .int (oI (x5 + (-1)))), (0, .ref (ad q0)), (2, .ref (ad q2)), (3, .ref (ad q3)), (4, .int (oI x4))]) hx hb d_10_15_167 hl (k := 4) rfl (oI_add x5 (-1)) (by decide) rfl (fun ls hl => ?_)
    refine lv_goto (tgt := 148) hx hb d_10_15_170 (by decide) ?_
    obtain ⟨rfl, rfl, rfl⟩ := in3 h
    exact k0 rfl H locs ls hP hD hS (lv_sub hl [1, 2, 3, 4, 0] rfl)
set_option maxRecDepth 100000 in
set_option maxHeartbeats 4000000 in
theorem s_Na_divide_148 (l : Launch) (z : Zz) (ad : Nat → Nat) (E : Ev) (q0 : Nat) (q2 : Nat) (q3 : Nat) (x4 : Int) {Q : State → Prop} {p : Program} {e : Env} {s : State} {m : MethodId} {below : List Frame} {meth : Method} {c : Code} {A : Nat → Prop} {args : Array Value} (hx : p.tables.exec = Jvm.exec) (hb : c.code = prog_10_method_15_code) (hml : c.maxLocals = 6) (hts : ∀ w ∈ WG, w.before args s = true) (hown : s.vm.findClass "Ballothall$Natural" = some m.cls) (hlocks : meth.locks = false) (hA : ∀ q, s.heap.size ≤ q → A q) (hG : KG z s) (hZ : FZ z A s) (hL : Lay E) : ∀ (fu : Nat) (M : Mm) (x5 : Int) (t : Nat) (w5 : Int) (N : Mm), l_Na_divide_148 E q0 q2 q3 x4 fu M x5 = some (t, w5, N) → (t = 1 → ∀ (H : Heap) (locs : List Loc) (ls : Array Slot), va_P z.1 classes (wv z ad E N) H → va_D A (wv z ad E N) → va_S A s.heap H locs → lv_has ls 6 [(0, .ref (ad q0)), (2, .ref (ad q2)), (4, .int (oI x4))] → W p l e (rmK 3 87 0 0) s m args below meth c H locs 0 0 Q (F0 m 173 ls [])) → ∀ (H : Heap) (locs : List Loc) (ls : Array Slot), va_P z.1 classes (wv z ad E M) H → va_D A (wv z ad E M) → va_S A s.heap H locs → lv_has ls 6 [(0, .ref (ad q0)), (2, .ref (ad q2)), (3, .ref (ad q3)), (4, .int (oI x4)), (5, .int (oI x5))] → W p l e (rmK 3 87 0 0) s m args below meth c H locs 0 0 Q (F0 m 148 ls []) := by
  intro fu
  induction fu with
  | zero =>
    intro M x5 t w5 N h
    have h : (none : Option (Nat × Int × Mm)) = some _ := h
    cases h
  | succ fu ih =>
    intro M x5 t w5 N h k1 H locs ls hP hD hS hl
    obtain ⟨⟨t0, w50, N9⟩, g0, h⟩ := bd_e h
    refine b_Na_divide_148b l z ad E M q0 q2 q3 x4 x5 t0 w50 N9 hx hb hml hts hown hlocks hA hG hZ hL g0 (fun e0 => ?_) (fun e0 => ?_) H locs ls hP hD hS hl
    · subst e0
      have h := ite_t rfl h
      exact ih N9 w50 t w5 N h k1
    · subst e0
      have h := ite_f (by decide) h
      obtain ⟨rfl, rfl, rfl⟩ := in3 h
      exact k1 rfl
set_option maxRecDepth 100000 in
set_option maxHeartbeats 4000000 in
theorem b_Na_divide_j76 (l : Launch) (z : Zz) (ad : Nat → Nat) (E : Ev) (M : Mm) (q0 : Nat) (q1 : Nat) (q2 : Nat) (q3 : Nat) (x4 : Int) (N : Mm) {p : Program} {e : Env} {s : State} {m : MethodId} {below : List Frame} {meth : Method} {c : Code} {A : Nat → Prop} {args : Array Value} (hx : p.tables.exec = Jvm.exec) (hb : c.code = prog_10_method_15_code) (hml : c.maxLocals = 6) (hts : ∀ w ∈ WG, w.before args s = true) (hown : s.vm.findClass "Ballothall$Natural" = some m.cls) (hlocks : meth.locks = false) (hA : ∀ q, s.heap.size ≤ q → A q) (hG : KG z s) (hZ : FZ z A s) (hL : Lay E) (hr : meth.sig.returnType = none) (h : Na_divide_j76 E M q0 q1 q2 q3 x4 = some N) : ∀ (H : Heap) (locs : List Loc) (ls : Array Slot), va_P z.1 classes (wv z ad E M) H → va_D A (wv z ad E M) → va_S A s.heap H locs → lv_has ls 6 [(0, .ref (ad q0)), (1, .ref (ad q1)), (2, .ref (ad q2)), (3, .ref (ad q3)), (4, .int (oI x4))] → W p l e (rmK 3 87 0 0) s m args below meth c H locs 0 0 (MQ below (QK z A (fun _ => none) (fun _ => (wv z ad E N))) args s 0 0 A) (F0 m 76 ls []) := by
  intro H locs ls hP hD hS hl
  unfold Na_divide_j76 at h
  obtain ⟨h_q0, h⟩ := ck_e h
  obtain ⟨h_q1, h⟩ := ck_e h
  obtain ⟨h_q2, h⟩ := ck_e h
  obtain ⟨h_q3, h⟩ := ck_e h
  refine lv_aload_n hx hb d_10_15_76 rfl (lv_at hl 3 rfl) ?_
  refine lv_aload_n hx hb d_10_15_77 rfl (lv_at hl 1 rfl) ?_
  obtain ⟨M107, g107, h⟩ := bd_e h
  refine kV (As := [.ref (ad q1)]) (rest := []) (s_Na_copyFrom l z ad E M q3 q1 M107 hL g107) hx hb hml hown hts w_1175 w_1200 w_1174 w_s_8c9b61 w_9 md_68420c ⟨Nat.le_of_ble_eq_true rfl, Nat.le_of_ble_eq_true rfl⟩ hG hZ hP hD hS hA q3 (wv_o (ci := 8) (isNa_i h_q3) (isNa_T h_q3)) rfl rfl rfl hl.1 rfl (Nat.le_of_ble_eq_true rfl) d_10_15_78 ⟨Nat.le_of_ble_eq_true rfl, Nat.le_of_ble_eq_true rfl⟩ (fun _ H locs hP hD hS => ?_)
  have hP : va_P z.1 classes (wv z ad E M107) H := hP
  have hD : va_D A (wv z ad E M107) := hD
  refine W.eq (g2 := F0 m 81 ls []) rfl ?_
  refine lv_aload_n hx hb d_10_15_81 rfl (lv_at hl 3 rfl) ?_
  refine lv_iconst (v := oI 1) hx hb d_10_15_82 (by decide +kernel) ?_
  refine lv_iload hx hb d_10_15_83 (lv_at hl 4 rfl) ?_
  obtain ⟨ok108, h⟩ := ck_e h
  refine lv_ishl hx hb d_10_15_85 ?_
  refine nrm (oI_one_shl ok108) ?_
  obtain ⟨M109, g109, h⟩ := bd_e h
  refine kV (As := [.int (oI (2 ^ x4.toNat))]) (rest := []) (s_Na_multiplySmall l z ad E M107 q3 (2 ^ x4.toNat) M109 hL g109) hx hb hml hown hts w_642 w_1203 w_641 w_s_f32dd6 w_9 md_664187 ⟨Nat.le_of_ble_eq_true rfl, Nat.le_of_ble_eq_true rfl⟩ hG hZ hP hD hS hA q3 (wv_o (ci := 8) (isNa_i h_q3) (isNa_T h_q3)) rfl rfl rfl hl.1 rfl (Nat.le_of_ble_eq_true rfl) d_10_15_86 ⟨Nat.le_of_ble_eq_true rfl, Nat.le_of_ble_eq_true rfl⟩ (fun _ H locs hP hD hS => ?_)
  have hP : va_P z.1 classes (wv z ad E M109) H := hP
  have hD : va_D A (wv z ad E M109) := hD
  refine W.eq (g2 := F0 m 89 ls []) rfl ?_
  refine lv_aload_n hx hb d_10_15_89 rfl (lv_at hl 0 rfl) ?_
  refine lv_iconst (v := oI 1) hx hb d_10_15_90 (by decide +kernel) ?_
  refine lv_iload hx hb d_10_15_91 (lv_at hl 4 rfl) ?_
  obtain ⟨ok110, h⟩ := ck_e h
  refine lv_ishl hx hb d_10_15_93 ?_
  refine nrm (oI_one_shl ok110) ?_
  obtain ⟨M111, g111, h⟩ := bd_e h
  refine kV (As := [.int (oI (2 ^ x4.toNat))]) (rest := []) (s_Na_multiplySmall l z ad E M109 q0 (2 ^ x4.toNat) M111 hL g111) hx hb hml hown hts w_642 w_1203 w_641 w_s_f32dd6 w_9 md_664187 ⟨Nat.le_of_ble_eq_true rfl, Nat.le_of_ble_eq_true rfl⟩ hG hZ hP hD hS hA q0 (wv_o (ci := 8) (isNa_i h_q0) (isNa_T h_q0)) rfl rfl rfl hl.1 rfl (Nat.le_of_ble_eq_true rfl) d_10_15_94 ⟨Nat.le_of_ble_eq_true rfl, Nat.le_of_ble_eq_true rfl⟩ (fun _ H locs hP hD hS => ?_)
  have hP : va_P z.1 classes (wv z ad E M111) H := hP
  have hD : va_D A (wv z ad E M111) := hD
  refine W.eq (g2 := F0 m 97 ls []) rfl ?_
  refine lv_aload_n hx hb d_10_15_97 rfl (lv_at hl 0 rfl) ?_
  refine m_gi (C := "Ballothall$Natural") (T := TX8) (N := 2) (ci := 8) (k := 1) hx hb hts iX8 hown hG hP (isNa_i h_q0) (isNa_T h_q0) rfl (by decide) w_295 (fun _ h9 => h9) rfl rfl d_10_15_98 ?_
  refine lv_istore (lv' := [(5, .int (oI (M111 q0 1))), (0, .ref (ad q0)), (1, .ref (ad q1)), (2, .ref (ad q2)), (3, .ref (ad q3)), (4, .int (oI x4))]) hx hb d_10_15_101 hl (by decide) rfl (fun ls hl => ?_)
  obtain ⟨⟨t114, v114_5, M114⟩, g114, h⟩ := bd_e h
  obtain ⟨ok114, h⟩ := ck_e h
  refine s_Na_divide_103 l z ad E q0 q2 q3 x4 hx hb hml hts hown hlocks hA hG hZ hL FU M111 (M111 q0 1) t114 v114_5 M114 g114 (fun e114 H locs ls hP hD hS hl => ?_) H locs ls hP hD hS (lv_sub hl [1, 3, 4, 5, 0] rfl)
  refine lv_aload_n hx hb d_10_15_124 rfl (lv_at hl 1 rfl) ?_
  refine m_gr (j := (q2 + 1)) (C := "Ballothall$Natural") (T := TX8) (N := 2) (ci := 8) (k := 0) hx hb hts iX8 hown hG hP (isNa_i h_q2) (isNa_T h_q2) rfl (by decide) w_294 (fun _ h9 => h9) rfl rfl (isNa_r0 h_q2) d_10_15_125 ?_
  refine lv_iconst (v := oI 0) hx hb d_10_15_128 (by decide +kernel) ?_
  obtain ⟨M115, g115, h⟩ := bd_e h
  refine kS (As := [.ref (ad (q2 + 1)), .int (oI 0)]) (rest := []) (s_Ar_fillI l z ad E M114 (q2 + 1) 0 M115 hL g115) hx hb hml hown hts w_653 w_1204 w_652 w_23 md_e8f65d ⟨Nat.le_of_ble_eq_true rfl, Nat.le_of_ble_eq_true rfl⟩ hG hZ hP hD hS hA rfl hl.1 rfl (Nat.le_of_ble_eq_true rfl) d_10_15_129 ⟨Nat.le_of_ble_eq_true rfl, Nat.le_of_ble_eq_true rfl⟩ (fun _ H locs hP hD hS => ?_)
  have hP : va_P z.1 classes (wv z ad E M115) H := hP
  have hD : va_D A (wv z ad E M115) := hD
  refine W.eq (g2 := F0 m 132 ls []) rfl ?_
  refine lv_aload_n hx hb d_10_15_132 rfl (lv_at hl 0 rfl) ?_
  refine m_gi (C := "Ballothall$Natural") (T := TX8) (N := 2) (ci := 8) (k := 1) hx hb hts iX8 hown hG hP (isNa_i h_q0) (isNa_T h_q0) rfl (by decide) w_295 (fun _ h9 => h9) rfl rfl d_10_15_133 ?_
  refine lv_bipush (v := oI 12) hx hb d_10_15_136 (by decide +kernel) ?_
  obtain ⟨ok116, h⟩ := ck_e h
  refine va_mmin hx hb (by rw [hml]; exact hl.1.symm) hown (hts _ w_626) (hts _ w_521) (hts _ w_17) (hts _ w_min) (Nat.le_of_ble_eq_true rfl) (Nat.le_of_ble_eq_true rfl) (Nat.le_of_ble_eq_true rfl) (Nat.le_of_ble_eq_true rfl) d_10_15_138 ?_
  refine nrm (mn_oI (a := (M115 q0 1)) (b := (12 : Int)) ok116 (by decide)) ?_
  refine lv_aload_n hx hb d_10_15_141 rfl (lv_at hl 2 rfl) ?_
  refine m_gi (C := "Ballothall$Natural") (T := TX8) (N := 2) (ci := 8) (k := 1) hx hb hts iX8 hown hG hP (isNa_i h_q3) (isNa_T h_q3) rfl (by decide) w_295 (fun _ h9 => h9) rfl rfl d_10_15_142 ?_
  refine lv_isub hx hb d_10_15_145 ?_
  refine nrm (oI_sub _ _) ?_
  obtain ⟨v117, e117, h⟩ := nb_e h
  refine nrm (congrArg oI e117.symm) ?_
  refine lv_istore (lv' := [(5, .int (oI v117)), (0, .ref (ad q0)), (2, .ref (ad q2)), (3, .ref (ad q3)), (4, .int (oI x4))]) hx hb d_10_15_146 hl (by decide) rfl (fun ls hl => ?_)
  obtain ⟨⟨t121, v121_5, M121⟩, g121, h⟩ := bd_e h
  obtain ⟨ok121, h⟩ := ck_e h
  refine s_Na_divide_148 l z ad E q0 q2 q3 x4 hx hb hml hts hown hlocks hA hG hZ hL FU M115 v117 t121 v121_5 M121 g121 (fun e121 H locs ls hP hD hS hl => ?_) H locs ls hP hD hS (lv_sub hl [1, 2, 3, 4, 0] rfl)
  refine lv_aload_n hx hb d_10_15_173 rfl (lv_at hl 1 rfl) ?_
  refine lv_bipush (v := oI 13) hx hb d_10_15_174 (by decide +kernel) ?_
  obtain ⟨M122, g122, h⟩ := bd_e h
  refine kV (As := [.int (oI 13)]) (rest := []) (s_Na_trimTo l z ad E M121 q2 13 M122 hL g122) hx hb hml hown hts w_625 w_622 w_624 w_s_8e7085 w_9 md_0a866a ⟨Nat.le_of_ble_eq_true rfl, Nat.le_of_ble_eq_true rfl⟩ hG hZ hP hD hS hA q2 (wv_o (ci := 8) (isNa_i h_q2) (isNa_T h_q2)) rfl rfl rfl hl.1 rfl (Nat.le_of_ble_eq_true rfl) d_10_15_176 ⟨Nat.le_of_ble_eq_true rfl, Nat.le_of_ble_eq_true rfl⟩ (fun _ H locs hP hD hS => ?_)
  have hP : va_P z.1 classes (wv z ad E M122) H := hP
  have hD : va_D A (wv z ad E M122) := hD
  refine W.eq (g2 := F0 m 179 ls []) rfl ?_
  refine lv_aload_n hx hb d_10_15_179 rfl (lv_at hl 0 rfl) ?_
  refine lv_bipush (v := oI 13) hx hb d_10_15_180 (by decide +kernel) ?_
  obtain ⟨M123, g123, h⟩ := bd_e h
  refine kV (As := [.int (oI 13)]) (rest := []) (s_Na_trimTo l z ad E M122 q0 13 M123 hL g123) hx hb hml hown hts w_625 w_622 w_624 w_s_8e7085 w_9 md_0a866a ⟨Nat.le_of_ble_eq_true rfl, Nat.le_of_ble_eq_true rfl⟩ hG hZ hP hD hS hA q0 (wv_o (ci := 8) (isNa_i h_q0) (isNa_T h_q0)) rfl rfl rfl hl.1 rfl (Nat.le_of_ble_eq_true rfl) d_10_15_182 ⟨Nat.le_of_ble_eq_true rfl, Nat.le_of_ble_eq_true rfl⟩ (fun _ H locs hP hD hS => ?_)
  have hP : va_P z.1 classes (wv z ad E M123) H := hP
  have hD : va_D A (wv z ad E M123) := hD
  refine W.eq (g2 := F0 m 185 ls []) rfl ?_
  refine lv_aload_n hx hb d_10_15_185 rfl (lv_at hl 0 rfl) ?_
  refine lv_iconst (v := oI 1) hx hb d_10_15_186 (by decide +kernel) ?_
  refine lv_iload hx hb d_10_15_187 (lv_at hl 2 rfl) ?_
  obtain ⟨ok124, h⟩ := ck_e h
  refine lv_ishl hx hb d_10_15_189 ?_
  refine nrm (oI_one_shl ok124) ?_
  obtain ⟨⟨r125, M125⟩, g125, h⟩ := bd_e h
  refine kV (As := [.int (oI (2 ^ x4.toNat))]) (rest := []) (s_Na_divideSmall l z ad E M123 q0 (2 ^ x4.toNat) r125 M125 hL g125) hx hb hml hown hts w_1142 w_1201 w_1141 w_s_b783c0 w_9 md_e931a9 ⟨Nat.le_of_ble_eq_true rfl, Nat.le_of_ble_eq_true rfl⟩ hG hZ hP hD hS hA q0 (wv_o (ci := 8) (isNa_i h_q0) (isNa_T h_q0)) rfl rfl rfl hl.1 rfl (Nat.le_of_ble_eq_true rfl) d_10_15_190 ⟨Nat.le_of_ble_eq_true rfl, Nat.le_of_ble_eq_true rfl⟩ (fun _ H locs hP hD hS => ?_)
  have hP : va_P z.1 classes (wv z ad E M125) H := hP
  have hD : va_D A (wv z ad E M125) := hD
  refine W.eq (g2 := F0 m 193 ls [.int (oI r125)]) rfl ?_
  refine lv_pop hx hb d_10_15_193 rfl ?_
  obtain rfl := in1 h
  exact W.vret hx hb hr (fun t ht hW => qkA hP hD hS (fun k => k) rfl rfl ht) hS.2.2 d_10_15_194
set_option maxRecDepth 100000 in
set_option maxHeartbeats 4000000 in
theorem b_Na_divide_j36 (l : Launch) (z : Zz) (ad : Nat → Nat) (E : Ev) (M : Mm) (y0 : Int) (y1 : Nat) (N : Mm) {p : Program} {e : Env} {s : State} {m : MethodId} {below : List Frame} {meth : Method} {c : Code} {A : Nat → Prop} {args : Array Value} (hx : p.tables.exec = Jvm.exec) (hb : c.code = prog_10_method_15_code) (hml : c.maxLocals = 6) (hts : ∀ w ∈ WG, w.before args s = true) (hown : s.vm.findClass "Ballothall$Natural" = some m.cls) (hlocks : meth.locks = false) (hA : ∀ q, s.heap.size ≤ q → A q) (hG : KG z s) (hZ : FZ z A s) (hL : Lay E) (hr : meth.sig.returnType = none) (h : Na_divide_j36 E M y0 y1 = some N) : ∀ (H : Heap) (locs : List Loc) (ls : Array Slot), va_P z.1 classes (wv z ad E M) H → va_D A (wv z ad E M) → va_S A s.heap H locs → lv_has ls 6 [] → W p l e (rmK 3 87 0 0) s m args below meth c H locs 0 0 (MQ below (QK z A (fun _ => none) (fun _ => (wv z ad E N))) args s 0 0 A) (F0 m 36 ls [.long (oJ y0), .ref (ad y1)]) := by
  intro H locs ls hP hD hS hl
  unfold Na_divide_j36 at h
  obtain ⟨h_y1, h⟩ := ck_e h
  obtain ⟨M130, g130, h⟩ := bd_e h
  refine kV (As := [.long (oJ y0)]) (rest := []) (s_Na_become l z ad E M y1 y0 M130 hL g130) hx hb hml hown hts w_604 w_1202 w_603 w_s_5a2a50 w_9 md_34308f ⟨Nat.le_of_ble_eq_true rfl, Nat.le_of_ble_eq_true rfl⟩ hG hZ hP hD hS hA y1 (wv_o (ci := 8) (isNa_i h_y1) (isNa_T h_y1)) rfl rfl rfl hl.1 rfl (Nat.le_of_ble_eq_true rfl) d_10_15_36 ⟨Nat.le_of_ble_eq_true rfl, Nat.le_of_ble_eq_true rfl⟩ (fun _ H locs hP hD hS => ?_)
  have hP : va_P z.1 classes (wv z ad E M130) H := hP
  have hD : va_D A (wv z ad E M130) := hD
  refine W.eq (g2 := F0 m 39 ls []) rfl ?_
  obtain rfl := in1 h
  exact W.vret hx hb hr (fun t ht hW => qkA hP hD hS (fun k => k) rfl rfl ht) hS.2.2 d_10_15_39
set_option maxRecDepth 100000 in
set_option maxHeartbeats 4000000 in
theorem s_Na_divide (l : Launch) (z : Zz) (ad : Nat → Nat) (E : Ev) (M : Mm) (p0 : Nat) (p1 : Nat) (p2 : Nat) (p3 : Nat) (N : Mm) (hL : Lay E) (h : f_Na_divide E M p0 p1 p2 p3 = some N) : CT l z ⟨"Ballothall$Natural", "divide", "(LBallothall$Natural;LBallothall$Natural;LBallothall$Natural;)V"⟩ prog_10_method_15_code 6 none [.ref (ad p0), .ref (ad p1), .ref (ad p2), .ref (ad p3)] (wv z ad E M) 3 87 0 0 (fun _ => none) (fun _ => (wv z ad E N)) := by
  refine CT.of (own := "Ballothall$Natural") (by decide +kernel) (Nat.le_of_ble_eq_true rfl) rfl (fun p e s m below meth c A ls hx hb hml hr hts hown hlocks hin hA hG hZ hP hD hS hl => ?_)
  have hl : lv_has ls 6 [(0, .ref (ad p0)), (1, .ref (ad p1)), (2, .ref (ad p2)), (3, .ref (ad p3))] := hl
  have key : ∀ (H : Heap) (locs : List Loc) (args : Array Value), (∀ w ∈ WG, w.before args s = true) → va_P z.1 classes (wv z ad E M) H → va_S A s.heap H locs → W p l e (rmK 3 87 0 0) s m args below meth c H locs 0 0 (MQ below (QK z A (fun _ => none) (fun _ => (wv z ad E N))) args s 0 0 A) (F0 m 0 ls []) := by
    intro H locs args hts hP hS
    unfold f_Na_divide at h
    obtain ⟨h_p0, h⟩ := ck_e h
    obtain ⟨h_p1, h⟩ := ck_e h
    obtain ⟨h_p2, h⟩ := ck_e h
    obtain ⟨h_p3, h⟩ := ck_e h
    refine lv_aload_n hx hb d_10_15_0 rfl (lv_at hl 1 rfl) ?_
    refine m_gi (C := "Ballothall$Natural") (T := TX8) (N := 2) (ci := 8) (k := 1) hx hb hts iX8 hown hG hP (isNa_i h_p1) (isNa_T h_p1) rfl (by decide) w_295 (fun _ h9 => h9) rfl rfl d_10_15_1 ?_
    refine lv_iconst (v := oI 1) hx hb d_10_15_4 (by decide +kernel) ?_
    obtain ⟨ok100, h⟩ := ck_e h
    refine lv_icmp_gt (tgt := 40) hx hb d_10_15_5 (by decide) (fun c9 => ?_) (fun c9 => ?_)
    · have h := ite_t ((oI_lt (a := (1 : Int)) (b := (M p1 1)) (by decide) ok100).mp c9) h
      refine lv_iconst (v := oI 0) hx hb d_10_15_40 (by decide +kernel) ?_
      refine lv_istore (lv' := [(4, .int (oI 0)), (0, .ref (ad p0)), (1, .ref (ad p1)), (2, .ref (ad p2)), (3, .ref (ad p3))]) hx hb d_10_15_41 hl (by decide) rfl (fun ls hl => ?_)
      obtain ⟨⟨t106, v106_4, M106⟩, g106, h⟩ := bd_e h
      obtain ⟨ok106, h⟩ := ck_e h
      refine s_Na_divide_43 l z ad E p0 p1 p2 p3 hx hb hml hts hown hlocks hA hG hZ hL FU M 0 t106 v106_4 M106 g106 (fun e106 H locs ls hP hD hS hl => ?_) H locs ls hP hD hS (lv_sub hl [1, 2, 3, 4, 0] rfl)
      exact b_Na_divide_j76 l z ad E M106 p0 p1 p2 p3 v106_4 N hx hb hml hts hown hlocks hA hG hZ hL hr h H locs ls hP hD hS (lv_sub hl [0, 1, 2, 3, 4] rfl)
    · have h := ite_f (fun q => c9 ((oI_lt (a := (1 : Int)) (b := (M p1 1)) (by decide) ok100).mpr q)) h
      refine lv_aload_n hx hb d_10_15_8 rfl (lv_at hl 2 rfl) ?_
      refine lv_aload_n hx hb d_10_15_9 rfl (lv_at hl 0 rfl) ?_
      obtain ⟨M126, g126, h⟩ := bd_e h
      refine kV (As := [.ref (ad p0)]) (rest := []) (s_Na_copyFrom l z ad E M p2 p0 M126 hL g126) hx hb hml hown hts w_1175 w_1200 w_1174 w_s_8c9b61 w_9 md_68420c ⟨Nat.le_of_ble_eq_true rfl, Nat.le_of_ble_eq_true rfl⟩ hG hZ hP hD hS hA p2 (wv_o (ci := 8) (isNa_i h_p2) (isNa_T h_p2)) rfl rfl rfl hl.1 rfl (Nat.le_of_ble_eq_true rfl) d_10_15_10 ⟨Nat.le_of_ble_eq_true rfl, Nat.le_of_ble_eq_true rfl⟩ (fun _ H locs hP hD hS => ?_)
      have hP : va_P z.1 classes (wv z ad E M126) H := hP
      have hD : va_D A (wv z ad E M126) := hD
      refine W.eq (g2 := F0 m 13 ls []) rfl ?_
      refine lv_aload_n hx hb d_10_15_13 rfl (lv_at hl 0 rfl) ?_
      refine lv_aload_n hx hb d_10_15_14 rfl (lv_at hl 1 rfl) ?_
      refine m_gi (C := "Ballothall$Natural") (T := TX8) (N := 2) (ci := 8) (k := 1) hx hb hts iX8 hown hG hP (isNa_i h_p1) (isNa_T h_p1) rfl (by decide) w_295 (fun _ h9 => h9) rfl rfl d_10_15_15 ?_
      obtain ⟨ok127, h⟩ := ck_e h
      refine lv_if_ne (tgt := 25) hx hb d_10_15_18 (by decide) (fun c9 => ?_) (fun c9 => ?_)
      · have h := ite_f (fun q => c9 ((oI_eq0 ok127).mpr q)) h
        refine lv_aload_n hx hb d_10_15_25 rfl (lv_at hl 2 rfl) ?_
        refine lv_aload_n hx hb d_10_15_26 rfl (lv_at hl 1 rfl) ?_
        refine m_gr (j := (p1 + 1)) (C := "Ballothall$Natural") (T := TX8) (N := 2) (ci := 8) (k := 0) hx hb hts iX8 hown hG hP (isNa_i h_p1) (isNa_T h_p1) rfl (by decide) w_294 (fun _ h9 => h9) rfl rfl (isNa_r0 h_p1) d_10_15_27 ?_
        refine lv_iconst (v := oI 0) hx hb d_10_15_30 (by decide +kernel) ?_
        refine m_ia hx hb hG hP (isNa_i1 h_p1) (isNa_t1 h_p1) (by decide +kernel) d_10_15_31 ?_
        refine nrm (x1 := oI (M126 (p1 + 1) 0)) rfl ?_
        obtain ⟨⟨r128, M128⟩, g128, h⟩ := bd_e h
        refine kV (As := [.int (oI (M126 (p1 + 1) 0))]) (rest := [.ref (ad p0)]) (s_Na_divideSmall l z ad E M126 p2 (M126 (p1 + 1) 0) r128 M128 hL g128) hx hb hml hown hts w_1142 w_1201 w_1141 w_s_b783c0 w_9 md_e931a9 ⟨Nat.le_of_ble_eq_true rfl, Nat.le_of_ble_eq_true rfl⟩ hG hZ hP hD hS hA p2 (wv_o (ci := 8) (isNa_i h_p2) (isNa_T h_p2)) rfl rfl rfl hl.1 rfl (Nat.le_of_ble_eq_true rfl) d_10_15_32 ⟨Nat.le_of_ble_eq_true rfl, Nat.le_of_ble_eq_true rfl⟩ (fun _ H locs hP hD hS => ?_)
        have hP : va_P z.1 classes (wv z ad E M128) H := hP
        have hD : va_D A (wv z ad E M128) := hD
        refine W.eq (g2 := F0 m 35 ls [.int (oI r128), .ref (ad p0)]) rfl ?_
        obtain ⟨ok129, h⟩ := ck_e h
        refine lv_i2l (v := oJ r128) hx hb d_10_15_35 (oI_l ok129) ?_
        exact b_Na_divide_j36 l z ad E M128 r128 p0 N hx hb hml hts hown hlocks hA hG hZ hL hr h H locs ls hP hD hS (lv_sub hl [] rfl)
      · have h := ite_t ((oI_eq0 ok127).mp c9) h
        refine lv_lconst (v := oJ 0) hx hb d_10_15_21 (by decide +kernel) ?_
        refine lv_goto (tgt := 36) hx hb d_10_15_22 (by decide) ?_
        exact b_Na_divide_j36 l z ad E M126 0 p0 N hx hb hml hts hown hlocks hA hG hZ hL hr h H locs ls hP hD hS (lv_sub hl [] rfl)
  exact key _ _ _ hts hP hS
set_option maxRecDepth 100000 in
set_option maxHeartbeats 4000000 in
theorem s_Na_isOne (l : Launch) (z : Zz) (ad : Nat → Nat) (E : Ev) (M : Mm) (p0 : Nat) (r : Int)  (hL : Lay E) (h : f_Na_isOne E M p0 = some r) : CT l z ⟨"Ballothall$Natural", "isOne", "()Z"⟩ prog_10_method_8_code 1 (some .boolean) [.ref (ad p0)] (wv z ad E M) 0 20 0 0 (fun _ => some (.int (oI r))) (fun _ => (wv z ad E M)) := by
  refine CT.of (own := "Ballothall$Natural") (by decide +kernel) (Nat.le_of_ble_eq_true rfl) rfl (fun p e s m below meth c A ls hx hb hml hr hts hown hlocks hin hA hG hZ hP hD hS hl => ?_)
  have hl : lv_has ls 1 [(0, .ref (ad p0))] := hl
  have key : ∀ (H : Heap) (locs : List Loc) (args : Array Value), (∀ w ∈ WG, w.before args s = true) → va_P z.1 classes (wv z ad E M) H → va_S A s.heap H locs → W p l e (rmK 0 20 0 0) s m args below meth c H locs 0 0 (MQ below (QK z A (fun _ => some (.int (oI r))) (fun _ => (wv z ad E M))) args s 0 0 A) (F0 m 0 ls []) := by
    intro H locs args hts hP hS
    unfold f_Na_isOne at h
    obtain ⟨h_p0, h⟩ := ck_e h
    refine lv_aload_n hx hb d_10_8_0 rfl (lv_at hl 0 rfl) ?_
    refine m_gi (C := "Ballothall$Natural") (T := TX8) (N := 2) (ci := 8) (k := 1) hx hb hts iX8 hown hG hP (isNa_i h_p0) (isNa_T h_p0) rfl (by decide) w_295 (fun _ h9 => h9) rfl rfl d_10_8_1 ?_
    refine lv_iconst (v := oI 1) hx hb d_10_8_4 (by decide +kernel) ?_
    obtain ⟨ok100, h⟩ := ck_e h
    refine lv_icmp_ne (tgt := 22) hx hb d_10_8_5 (by decide) (fun c9 => ?_) (fun c9 => ?_)
    · have h := ite_f (fun q => c9 ((oI_eq (a := (M p0 1)) (b := (1 : Int)) ok100 (by decide)).mpr q)) h
      refine lv_iconst (v := oI 0) hx hb d_10_8_22 (by decide +kernel) ?_
      obtain rfl := in1 h
      exact W.zret hx hb hr rfl (fun t ht hW => qkA hP hD hS (fun k => k) rfl rfl ht) hS.2.2 d_10_8_23
    · have h := ite_t ((oI_eq (a := (M p0 1)) (b := (1 : Int)) ok100 (by decide)).mp c9) h
      refine lv_aload_n hx hb d_10_8_8 rfl (lv_at hl 0 rfl) ?_
      refine m_gr (j := (p0 + 1)) (C := "Ballothall$Natural") (T := TX8) (N := 2) (ci := 8) (k := 0) hx hb hts iX8 hown hG hP (isNa_i h_p0) (isNa_T h_p0) rfl (by decide) w_294 (fun _ h9 => h9) rfl rfl (isNa_r0 h_p0) d_10_8_9 ?_
      refine lv_iconst (v := oI 0) hx hb d_10_8_12 (by decide +kernel) ?_
      refine m_ia hx hb hG hP (isNa_i1 h_p0) (isNa_t1 h_p0) (by decide +kernel) d_10_8_13 ?_
      refine nrm (x1 := oI (M (p0 + 1) 0)) rfl ?_
      refine lv_iconst (v := oI 1) hx hb d_10_8_14 (by decide +kernel) ?_
      obtain ⟨ok101, h⟩ := ck_e h
      refine lv_icmp_ne (tgt := 22) hx hb d_10_8_15 (by decide) (fun c9 => ?_) (fun c9 => ?_)
      · have h := ite_f (fun q => c9 ((oI_eq (a := (M (p0 + 1) 0)) (b := (1 : Int)) ok101 (by decide)).mpr q)) h
        refine lv_iconst (v := oI 0) hx hb d_10_8_22 (by decide +kernel) ?_
        obtain rfl := in1 h
        exact W.zret hx hb hr rfl (fun t ht hW => qkA hP hD hS (fun k => k) rfl rfl ht) hS.2.2 d_10_8_23
      · have h := ite_t ((oI_eq (a := (M (p0 + 1) 0)) (b := (1 : Int)) ok101 (by decide)).mp c9) h
        refine lv_iconst (v := oI 1) hx hb d_10_8_18 (by decide +kernel) ?_
        refine lv_goto (tgt := 23) hx hb d_10_8_19 (by decide) ?_
        obtain rfl := in1 h
        exact W.zret hx hb hr rfl (fun t ht hW => qkA hP hD hS (fun k => k) rfl rfl ht) hS.2.2 d_10_8_23
  exact key _ _ _ hts hP hS
