set_option maxRecDepth 100000 in
set_option maxHeartbeats 4000000 in
theorem b_Co_reduce_28b (l : Launch) (z : Zz) (ad : Nat → Nat) (E : Ev) (M : Mm) (q1 : Nat) (q2 : Nat) (x3 : Int) (t : Nat) (w1 : Nat) (w2 : Nat) (w3 : Int) (N : Mm) {Q : State → Prop} {p : Program} {e : Env} {s : State} {m : MethodId} {below : List Frame} {meth : Method} {c : Code} {A : Nat → Prop} {args : Array Value} (hx : p.tables.exec = Jvm.exec) (hb : c.code = prog_5_method_19_code) (hml : c.maxLocals = 5) (hts : ∀ w ∈ WG, w.before args s = true) (hown : s.vm.findClass "Ballothall$Counting" = some m.cls) (hlocks : meth.locks = false) (hA : ∀ q, s.heap.size ≤ q → A q) (hG : KG z s) (hZ : FZ z A s) (hL : Lay E) (h : Co_reduce_28b E M q1 q2 x3 = some (t, w1, w2, w3, N)) (k0 : t = 0 → ∀ (H : Heap) (locs : List Loc) (ls : Array Slot), va_P z.1 classes (wv z ad E N) H → va_D A (wv z ad E N) → va_S A s.heap H locs → lv_has ls 5 [(0, .ref (ad 179)), (1, .ref (ad w1)), (2, .ref (ad w2)), (3, .int (oI w3))] → W p l e (rmK 4 112 0 0) s m args below meth c H locs 0 0 Q (F0 m 28 ls [])) (k1 : t = 1 → ∀ (H : Heap) (locs : List Loc) (ls : Array Slot), va_P z.1 classes (wv z ad E N) H → va_D A (wv z ad E N) → va_S A s.heap H locs → lv_has ls 5 [(0, .ref (ad 179)), (1, .ref (ad w1))] → W p l e (rmK 4 112 0 0) s m args below meth c H locs 0 0 Q (F0 m 69 ls [])) : ∀ (H : Heap) (locs : List Loc) (ls : Array Slot), va_P z.1 classes (wv z ad E M) H → va_D A (wv z ad E M) → va_S A s.heap H locs → lv_has ls 5 [(0, .ref (ad 179)), (1, .ref (ad q1)), (2, .ref (ad q2)), (3, .int (oI x3))] → W p l e (rmK 4 112 0 0) s m args below meth c H locs 0 0 Q (F0 m 28 ls []) := by
  intro H locs ls hP hD hS hl
  unfold Co_reduce_28b at h
  obtain ⟨h_q1, h⟩ := ck_e h
  obtain ⟨h_q2, h⟩ := ck_e h
  refine lv_iload_n hx hb d_5_19_28 rfl (lv_at hl 3 rfl) ?_
  refine lv_sipush (v := oI 1000) hx hb d_5_19_29 (by decide +kernel) ?_
  obtain ⟨ok102, h⟩ := ck_e h
  refine lv_icmp_ge (tgt := 69) hx hb d_5_19_32 (by decide) (fun c9 => ?_) (fun c9 => ?_)
  · have h := ite_t ((oI_le (a := (1000 : Int)) (b := x3) (by decide) ok102).mp c9) h
    obtain ⟨rfl, rfl, rfl, rfl, rfl⟩ := in5 h
    exact k1 rfl H locs ls hP hD hS (lv_sub hl [0, 1] rfl)
  · have h := ite_f (fun q => c9 ((oI_le (a := (1000 : Int)) (b := x3) (by decide) ok102).mpr q)) h
    refine lv_aload_n hx hb d_5_19_35 rfl (lv_at hl 2 rfl) ?_
    refine m_giN (C := "Ballothall$Natural") (T := TX8) (N := 2) (ci := 8) (k := 1) hx hb hts iX8 hown hG hP (isNa_i h_q2) (isNa_T h_q2) rfl (by decide) n_296 rfl (fun _ h9 => h9) rfl rfl d_5_19_36 ?_
    obtain ⟨ok103, h⟩ := ck_e h
    refine lv_if_le (tgt := 69) hx hb d_5_19_39 (by decide) (fun c9 => ?_) (fun c9 => ?_)
    · have h := ite_t ((oI_le0 ok103).mp c9) h
      obtain ⟨rfl, rfl, rfl, rfl, rfl⟩ := in5 h
      exact k1 rfl H locs ls hP hD hS (lv_sub hl [0, 1] rfl)
    · have h := ite_f (fun q => c9 ((oI_le0 ok103).mpr q)) h
      refine lv_aload_n hx hb d_5_19_42 rfl (lv_at hl 1 rfl) ?_
      refine lv_aload_n hx hb d_5_19_43 rfl (lv_at hl 2 rfl) ?_
      refine lv_aload_n hx hb d_5_19_44 rfl (lv_at hl 0 rfl) ?_
      refine m_gr (j := 197) (C := "Ballothall$Counting") (T := TX3) (N := 15) (ci := 3) (k := 13) hx hb hts iX3 hown hG hP (yi_179 hL) (yt_179 hL) rfl (by decide) w_318 (fun _ h9 => h9) rfl rfl (yr_179_13 hL) d_5_19_45 ?_
      refine lv_aload_n hx hb d_5_19_48 rfl (lv_at hl 0 rfl) ?_
      refine m_gr (j := 199) (C := "Ballothall$Counting") (T := TX3) (N := 15) (ci := 3) (k := 14) hx hb hts iX3 hown hG hP (yi_179 hL) (yt_179 hL) rfl (by decide) w_319 (fun _ h9 => h9) rfl rfl (yr_179_14 hL) d_5_19_49 ?_
      obtain ⟨M104, g104, h⟩ := bd_e h
      refine kVN (As := [.ref (ad q2), .ref (ad 197), .ref (ad 199)]) (rest := []) (s_Na_divide l z ad E M q1 q2 197 199 M104 hL g104) hx hb hml hown hts w_1199 n_1196 w_1198 w_s_1f7b0f w_9 md_c271c2 ⟨Nat.le_of_ble_eq_true rfl, Nat.le_of_ble_eq_true rfl⟩ hG hZ hP hD hS hA q1 (wv_o (ci := 8) (isNa_i h_q1) (isNa_T h_q1)) rfl rfl rfl hl.1 rfl (Nat.le_of_ble_eq_true rfl) d_5_19_52 ⟨Nat.le_of_ble_eq_true rfl, Nat.le_of_ble_eq_true rfl⟩ (fun _ H locs hP hD hS => ?_)
      have hP : va_P z.1 classes (wv z ad E M104) H := hP
      have hD : va_D A (wv z ad E M104) := hD
      refine W.eq (g2 := F0 m 55 ls []) rfl ?_
      refine lv_aload_n hx hb d_5_19_55 rfl (lv_at hl 1 rfl) ?_
      refine lv_astore (lv' := [(4, .ref (ad q1)), (0, .ref (ad 179)), (1, .ref (ad q1)), (2, .ref (ad q2)), (3, .int (oI x3))]) hx hb d_5_19_56 hl (by decide) rfl (fun ls hl => ?_)
      refine lv_aload_n hx hb d_5_19_58 rfl (lv_at hl 3 rfl) ?_
      refine lv_astore_n (lv' := [(1, .ref (ad q2)), (4, .ref (ad q1)), (0, .ref (ad 179)), (2, .ref (ad q2)), (3, .int (oI x3))]) hx hb d_5_19_59 rfl hl (by decide) rfl (fun ls hl => ?_)
      refine lv_aload hx hb d_5_19_60 (lv_at hl 1 rfl) ?_
      refine lv_astore_n (lv' := [(2, .ref (ad q1)), (1, .ref (ad q2)), (4, .ref (ad q1)), (0, .ref (ad 179)), (3, .int (oI x3))]) hx hb d_5_19_62 rfl hl (by decide) rfl (fun ls hl => ?_)
      refine lv_iinc (v := oI (x3 + 1)) (lv' := [(3, .int (oI (x3 + 1))), (2, .ref (ad q1)), (1, .ref (ad q2)), (4, .ref (ad q1)), (0, .ref (ad 179))]) hx hb d_5_19_63 hl (k := 4) rfl (oI_add x3 1) (by decide) rfl (fun ls hl => ?_)
      refine lv_goto (tgt := 28) hx hb d_5_19_66 (by decide) ?_
      obtain ⟨rfl, rfl, rfl, rfl, rfl⟩ := in5 h
      exact k0 rfl H locs ls hP hD hS (lv_sub hl [4, 2, 1, 0] rfl)
set_option maxRecDepth 100000 in
set_option maxHeartbeats 4000000 in
theorem s_Co_reduce_28 (l : Launch) (z : Zz) (ad : Nat → Nat) (E : Ev) {Q : State → Prop} {p : Program} {e : Env} {s : State} {m : MethodId} {below : List Frame} {meth : Method} {c : Code} {A : Nat → Prop} {args : Array Value} (hx : p.tables.exec = Jvm.exec) (hb : c.code = prog_5_method_19_code) (hml : c.maxLocals = 5) (hts : ∀ w ∈ WG, w.before args s = true) (hown : s.vm.findClass "Ballothall$Counting" = some m.cls) (hlocks : meth.locks = false) (hA : ∀ q, s.heap.size ≤ q → A q) (hG : KG z s) (hZ : FZ z A s) (hL : Lay E) : ∀ (fu : Nat) (M : Mm) (q1 : Nat) (q2 : Nat) (x3 : Int) (t : Nat) (w1 : Nat) (w2 : Nat) (w3 : Int) (N : Mm), l_Co_reduce_28 E fu M q1 q2 x3 = some (t, w1, w2, w3, N) → (t = 1 → ∀ (H : Heap) (locs : List Loc) (ls : Array Slot), va_P z.1 classes (wv z ad E N) H → va_D A (wv z ad E N) → va_S A s.heap H locs → lv_has ls 5 [(0, .ref (ad 179)), (1, .ref (ad w1))] → W p l e (rmK 4 112 0 0) s m args below meth c H locs 0 0 Q (F0 m 69 ls [])) → ∀ (H : Heap) (locs : List Loc) (ls : Array Slot), va_P z.1 classes (wv z ad E M) H → va_D A (wv z ad E M) → va_S A s.heap H locs → lv_has ls 5 [(0, .ref (ad 179)), (1, .ref (ad q1)), (2, .ref (ad q2)), (3, .int (oI x3))] → W p l e (rmK 4 112 0 0) s m args below meth c H locs 0 0 Q (F0 m 28 ls []) := by
  intro fu
  induction fu with
  | zero =>
    intro M q1 q2 x3 t w1 w2 w3 N h
    have h : (none : Option (Nat × Nat × Nat × Int × Mm)) = some _ := h
    cases h
  | succ fu ih =>
    intro M q1 q2 x3 t w1 w2 w3 N h k1 H locs ls hP hD hS hl
    obtain ⟨⟨t0, w10, w20, w30, N9⟩, g0, h⟩ := bd_e h
    refine b_Co_reduce_28b l z ad E M q1 q2 x3 t0 w10 w20 w30 N9 hx hb hml hts hown hlocks hA hG hZ hL g0 (fun e0 => ?_) (fun e0 => ?_) H locs ls hP hD hS hl
    · subst e0
      have h := ite_t rfl h
      exact ih N9 w10 w20 w30 t w1 w2 w3 N h k1
    · subst e0
      have h := ite_f (by decide) h
      obtain ⟨rfl, rfl, rfl, rfl, rfl⟩ := in5 h
      exact k1 rfl
set_option maxRecDepth 100000 in
set_option maxHeartbeats 4000000 in
theorem b_Co_reduce_j69 (l : Launch) (z : Zz) (ad : Nat → Nat) (E : Ev) (M : Mm) (q1 : Nat) (N : Mm) {p : Program} {e : Env} {s : State} {m : MethodId} {below : List Frame} {meth : Method} {c : Code} {A : Nat → Prop} {args : Array Value} (hx : p.tables.exec = Jvm.exec) (hb : c.code = prog_5_method_19_code) (hml : c.maxLocals = 5) (hts : ∀ w ∈ WG, w.before args s = true) (hown : s.vm.findClass "Ballothall$Counting" = some m.cls) (hlocks : meth.locks = false) (hA : ∀ q, s.heap.size ≤ q → A q) (hG : KG z s) (hZ : FZ z A s) (hL : Lay E) (hr : meth.sig.returnType = none) (h : Co_reduce_j69 E M q1 = some N) : ∀ (H : Heap) (locs : List Loc) (ls : Array Slot), va_P z.1 classes (wv z ad E M) H → va_D A (wv z ad E M) → va_S A s.heap H locs → lv_has ls 5 [(0, .ref (ad 179)), (1, .ref (ad q1))] → W p l e (rmK 4 112 0 0) s m args below meth c H locs 0 0 (MQ below (QK z A (fun _ => none) (fun _ => (wv z ad E N))) args s 0 0 A) (F0 m 69 ls []) := by
  intro H locs ls hP hD hS hl
  unfold Co_reduce_j69 at h
  obtain ⟨h_q1, h⟩ := ck_e h
  refine lv_aload_n hx hb d_5_19_69 rfl (lv_at hl 1 rfl) ?_
  obtain ⟨r106, g106, h⟩ := bd_e h
  refine kVN (As := []) (rest := []) (s_Na_isOne l z ad E M q1 r106 hL g106) hx hb hml hown hts w_1218 n_1215 w_1217 w_s_3d0b7a w_9 md_e57826 ⟨Nat.le_of_ble_eq_true rfl, Nat.le_of_ble_eq_true rfl⟩ hG hZ hP hD hS hA q1 (wv_o (ci := 8) (isNa_i h_q1) (isNa_T h_q1)) rfl rfl rfl hl.1 rfl (Nat.le_of_ble_eq_true rfl) d_5_19_70 ⟨Nat.le_of_ble_eq_true rfl, Nat.le_of_ble_eq_true rfl⟩ (fun _ H locs hP hD hS => ?_)
  have hP : va_P z.1 classes (wv z ad E M) H := hP
  have hD : va_D A (wv z ad E M) := hD
  refine W.eq (g2 := F0 m 73 ls [.int (oI r106)]) rfl ?_
  obtain ⟨ok107, h⟩ := ck_e h
  refine lv_if_ne (tgt := 130) hx hb d_5_19_73 (by decide) (fun c9 => ?_) (fun c9 => ?_)
  · have h := ite_f (fun q => c9 ((oI_eq0 ok107).mpr q)) h
    obtain rfl := in1 h
    exact W.vret hx hb hr (fun t ht hW => qkA hP hD hS (fun k => k) rfl rfl ht) hS.2.2 d_5_19_130
  · have h := ite_t ((oI_eq0 ok107).mp c9) h
    refine lv_aload_n hx hb d_5_19_76 rfl (lv_at hl 0 rfl) ?_
    refine m_gr (j := 189) (C := "Ballothall$Counting") (T := TX3) (N := 15) (ci := 3) (k := 9) hx hb hts iX3 hown hG hP (yi_179 hL) (yt_179 hL) rfl (by decide) w_312 (fun _ h9 => h9) rfl rfl (yr_179_9 hL) d_5_19_77 ?_
    refine lv_aload_n hx hb d_5_19_80 rfl (lv_at hl 1 rfl) ?_
    refine lv_aload_n hx hb d_5_19_81 rfl (lv_at hl 0 rfl) ?_
    refine m_gr (j := 197) (C := "Ballothall$Counting") (T := TX3) (N := 15) (ci := 3) (k := 13) hx hb hts iX3 hown hG hP (yi_179 hL) (yt_179 hL) rfl (by decide) w_318 (fun _ h9 => h9) rfl rfl (yr_179_13 hL) d_5_19_82 ?_
    refine lv_aload_n hx hb d_5_19_85 rfl (lv_at hl 0 rfl) ?_
    refine m_gr (j := 199) (C := "Ballothall$Counting") (T := TX3) (N := 15) (ci := 3) (k := 14) hx hb hts iX3 hown hG hP (yi_179 hL) (yt_179 hL) rfl (by decide) w_319 (fun _ h9 => h9) rfl rfl (yr_179_14 hL) d_5_19_86 ?_
    obtain ⟨M108, g108, h⟩ := bd_e h
    refine kVN (As := [.ref (ad q1), .ref (ad 197), .ref (ad 199)]) (rest := []) (s_Na_divide l z ad E M 189 q1 197 199 M108 hL g108) hx hb hml hown hts w_1199 n_1196 w_1198 w_s_1f7b0f w_9 md_c271c2 ⟨Nat.le_of_ble_eq_true rfl, Nat.le_of_ble_eq_true rfl⟩ hG hZ hP hD hS hA 189 (wv_o (ci := 8) (yi_189 hL) (yt_189 hL)) rfl rfl rfl hl.1 rfl (Nat.le_of_ble_eq_true rfl) d_5_19_89 ⟨Nat.le_of_ble_eq_true rfl, Nat.le_of_ble_eq_true rfl⟩ (fun _ H locs hP hD hS => ?_)
    have hP : va_P z.1 classes (wv z ad E M108) H := hP
    have hD : va_D A (wv z ad E M108) := hD
    refine W.eq (g2 := F0 m 92 ls []) rfl ?_
    refine lv_aload_n hx hb d_5_19_92 rfl (lv_at hl 0 rfl) ?_
    refine m_gr (j := 189) (C := "Ballothall$Counting") (T := TX3) (N := 15) (ci := 3) (k := 9) hx hb hts iX3 hown hG hP (yi_179 hL) (yt_179 hL) rfl (by decide) w_312 (fun _ h9 => h9) rfl rfl (yr_179_9 hL) d_5_19_93 ?_
    refine lv_aload_n hx hb d_5_19_96 rfl (lv_at hl 0 rfl) ?_
    refine m_gr (j := 197) (C := "Ballothall$Counting") (T := TX3) (N := 15) (ci := 3) (k := 13) hx hb hts iX3 hown hG hP (yi_179 hL) (yt_179 hL) rfl (by decide) w_318 (fun _ h9 => h9) rfl rfl (yr_179_13 hL) d_5_19_97 ?_
    obtain ⟨M109, g109, h⟩ := bd_e h
    refine kVN (As := [.ref (ad 197)]) (rest := []) (s_Na_copyFrom l z ad E M108 189 197 M109 hL g109) hx hb hml hown hts w_1175 n_1172 w_1174 w_s_8c9b61 w_9 md_68420c ⟨Nat.le_of_ble_eq_true rfl, Nat.le_of_ble_eq_true rfl⟩ hG hZ hP hD hS hA 189 (wv_o (ci := 8) (yi_189 hL) (yt_189 hL)) rfl rfl rfl hl.1 rfl (Nat.le_of_ble_eq_true rfl) d_5_19_100 ⟨Nat.le_of_ble_eq_true rfl, Nat.le_of_ble_eq_true rfl⟩ (fun _ H locs hP hD hS => ?_)
    have hP : va_P z.1 classes (wv z ad E M109) H := hP
    have hD : va_D A (wv z ad E M109) := hD
    refine W.eq (g2 := F0 m 103 ls []) rfl ?_
    refine lv_aload_n hx hb d_5_19_103 rfl (lv_at hl 0 rfl) ?_
    refine m_gr (j := 191) (C := "Ballothall$Counting") (T := TX3) (N := 15) (ci := 3) (k := 10) hx hb hts iX3 hown hG hP (yi_179 hL) (yt_179 hL) rfl (by decide) w_314 (fun _ h9 => h9) rfl rfl (yr_179_10 hL) d_5_19_104 ?_
    refine lv_aload_n hx hb d_5_19_107 rfl (lv_at hl 1 rfl) ?_
    refine lv_aload_n hx hb d_5_19_108 rfl (lv_at hl 0 rfl) ?_
    refine m_gr (j := 197) (C := "Ballothall$Counting") (T := TX3) (N := 15) (ci := 3) (k := 13) hx hb hts iX3 hown hG hP (yi_179 hL) (yt_179 hL) rfl (by decide) w_318 (fun _ h9 => h9) rfl rfl (yr_179_13 hL) d_5_19_109 ?_
    refine lv_aload_n hx hb d_5_19_112 rfl (lv_at hl 0 rfl) ?_
    refine m_gr (j := 199) (C := "Ballothall$Counting") (T := TX3) (N := 15) (ci := 3) (k := 14) hx hb hts iX3 hown hG hP (yi_179 hL) (yt_179 hL) rfl (by decide) w_319 (fun _ h9 => h9) rfl rfl (yr_179_14 hL) d_5_19_113 ?_
    obtain ⟨M110, g110, h⟩ := bd_e h
    refine kVN (As := [.ref (ad q1), .ref (ad 197), .ref (ad 199)]) (rest := []) (s_Na_divide l z ad E M109 191 q1 197 199 M110 hL g110) hx hb hml hown hts w_1199 n_1196 w_1198 w_s_1f7b0f w_9 md_c271c2 ⟨Nat.le_of_ble_eq_true rfl, Nat.le_of_ble_eq_true rfl⟩ hG hZ hP hD hS hA 191 (wv_o (ci := 8) (yi_191 hL) (yt_191 hL)) rfl rfl rfl hl.1 rfl (Nat.le_of_ble_eq_true rfl) d_5_19_116 ⟨Nat.le_of_ble_eq_true rfl, Nat.le_of_ble_eq_true rfl⟩ (fun _ H locs hP hD hS => ?_)
    have hP : va_P z.1 classes (wv z ad E M110) H := hP
    have hD : va_D A (wv z ad E M110) := hD
    refine W.eq (g2 := F0 m 119 ls []) rfl ?_
    refine lv_aload_n hx hb d_5_19_119 rfl (lv_at hl 0 rfl) ?_
    refine m_gr (j := 191) (C := "Ballothall$Counting") (T := TX3) (N := 15) (ci := 3) (k := 10) hx hb hts iX3 hown hG hP (yi_179 hL) (yt_179 hL) rfl (by decide) w_314 (fun _ h9 => h9) rfl rfl (yr_179_10 hL) d_5_19_120 ?_
    refine lv_aload_n hx hb d_5_19_123 rfl (lv_at hl 0 rfl) ?_
    refine m_gr (j := 197) (C := "Ballothall$Counting") (T := TX3) (N := 15) (ci := 3) (k := 13) hx hb hts iX3 hown hG hP (yi_179 hL) (yt_179 hL) rfl (by decide) w_318 (fun _ h9 => h9) rfl rfl (yr_179_13 hL) d_5_19_124 ?_
    obtain ⟨M111, g111, h⟩ := bd_e h
    refine kVN (As := [.ref (ad 197)]) (rest := []) (s_Na_copyFrom l z ad E M110 191 197 M111 hL g111) hx hb hml hown hts w_1175 n_1172 w_1174 w_s_8c9b61 w_9 md_68420c ⟨Nat.le_of_ble_eq_true rfl, Nat.le_of_ble_eq_true rfl⟩ hG hZ hP hD hS hA 191 (wv_o (ci := 8) (yi_191 hL) (yt_191 hL)) rfl rfl rfl hl.1 rfl (Nat.le_of_ble_eq_true rfl) d_5_19_127 ⟨Nat.le_of_ble_eq_true rfl, Nat.le_of_ble_eq_true rfl⟩ (fun _ H locs hP hD hS => ?_)
    have hP : va_P z.1 classes (wv z ad E M111) H := hP
    have hD : va_D A (wv z ad E M111) := hD
    refine W.eq (g2 := F0 m 130 ls []) rfl ?_
    obtain rfl := in1 h
    exact W.vret hx hb hr (fun t ht hW => qkA hP hD hS (fun k => k) rfl rfl ht) hS.2.2 d_5_19_130
set_option maxRecDepth 100000 in
set_option maxHeartbeats 4000000 in
theorem s_Co_reduce (l : Launch) (z : Zz) (ad : Nat → Nat) (E : Ev) (M : Mm) (N : Mm) (hL : Lay E) (h : f_Co_reduce E M = some N) : CT l z ⟨"Ballothall$Counting", "reduce", "()V"⟩ prog_5_method_19_code 5 none [.ref (ad 179)] (wv z ad E M) 4 112 0 0 (fun _ => none) (fun _ => (wv z ad E N)) := by
  refine CT.of (own := "Ballothall$Counting") (by decide +kernel) (Nat.le_of_ble_eq_true rfl) rfl (fun p e s m below meth c A ls hx hb hml hr hts hown hlocks hin hA hG hZ hP hD hS hl => ?_)
  have hl : lv_has ls 5 [(0, .ref (ad 179))] := hl
  have key : ∀ (H : Heap) (locs : List Loc) (args : Array Value), (∀ w ∈ WG, w.before args s = true) → va_P z.1 classes (wv z ad E M) H → va_S A s.heap H locs → W p l e (rmK 4 112 0 0) s m args below meth c H locs 0 0 (MQ below (QK z A (fun _ => none) (fun _ => (wv z ad E N))) args s 0 0 A) (F0 m 0 ls []) := by
    intro H locs args hts hP hS
    unfold f_Co_reduce at h
    refine lv_aload_n hx hb d_5_19_0 rfl (lv_at hl 0 rfl) ?_
    refine m_gr (j := 193) (C := "Ballothall$Counting") (T := TX3) (N := 15) (ci := 3) (k := 11) hx hb hts iX3 hown hG hP (yi_179 hL) (yt_179 hL) rfl (by decide) w_316 (fun _ h9 => h9) rfl rfl (yr_179_11 hL) d_5_19_1 ?_
    refine lv_astore_n (lv' := [(1, .ref (ad 193)), (0, .ref (ad 179))]) hx hb d_5_19_4 rfl hl (by decide) rfl (fun ls hl => ?_)
    refine lv_aload_n hx hb d_5_19_5 rfl (lv_at hl 1 rfl) ?_
    refine m_gr (j := 195) (C := "Ballothall$Counting") (T := TX3) (N := 15) (ci := 3) (k := 12) hx hb hts iX3 hown hG hP (yi_179 hL) (yt_179 hL) rfl (by decide) w_317 (fun _ h9 => h9) rfl rfl (yr_179_12 hL) d_5_19_6 ?_
    refine lv_astore_n (lv' := [(2, .ref (ad 195)), (1, .ref (ad 193)), (0, .ref (ad 179))]) hx hb d_5_19_9 rfl hl (by decide) rfl (fun ls hl => ?_)
    refine lv_aload_n hx hb d_5_19_10 rfl (lv_at hl 1 rfl) ?_
    refine lv_aload_n hx hb d_5_19_11 rfl (lv_at hl 2 rfl) ?_
    refine m_gr (j := 191) (C := "Ballothall$Counting") (T := TX3) (N := 15) (ci := 3) (k := 10) hx hb hts iX3 hown hG hP (yi_179 hL) (yt_179 hL) rfl (by decide) w_314 (fun _ h9 => h9) rfl rfl (yr_179_10 hL) d_5_19_12 ?_
    obtain ⟨M100, g100, h⟩ := bd_e h
    refine kVN (As := [.ref (ad 191)]) (rest := []) (s_Na_copyFrom l z ad E M 193 191 M100 hL g100) hx hb hml hown hts w_1175 n_1172 w_1174 w_s_8c9b61 w_9 md_68420c ⟨Nat.le_of_ble_eq_true rfl, Nat.le_of_ble_eq_true rfl⟩ hG hZ hP hD hS hA 193 (wv_o (ci := 8) (yi_193 hL) (yt_193 hL)) rfl rfl rfl hl.1 rfl (Nat.le_of_ble_eq_true rfl) d_5_19_15 ⟨Nat.le_of_ble_eq_true rfl, Nat.le_of_ble_eq_true rfl⟩ (fun _ H locs hP hD hS => ?_)
    have hP : va_P z.1 classes (wv z ad E M100) H := hP
    have hD : va_D A (wv z ad E M100) := hD
    refine W.eq (g2 := F0 m 18 ls []) rfl ?_
    refine lv_aload_n hx hb d_5_19_18 rfl (lv_at hl 0 rfl) ?_
    refine lv_aload_n hx hb d_5_19_19 rfl (lv_at hl 2 rfl) ?_
    refine m_gr (j := 189) (C := "Ballothall$Counting") (T := TX3) (N := 15) (ci := 3) (k := 9) hx hb hts iX3 hown hG hP (yi_179 hL) (yt_179 hL) rfl (by decide) w_312 (fun _ h9 => h9) rfl rfl (yr_179_9 hL) d_5_19_20 ?_
    obtain ⟨M101, g101, h⟩ := bd_e h
    refine kVN (As := [.ref (ad 189)]) (rest := []) (s_Na_copyFrom l z ad E M100 195 189 M101 hL g101) hx hb hml hown hts w_1175 n_1172 w_1174 w_s_8c9b61 w_9 md_68420c ⟨Nat.le_of_ble_eq_true rfl, Nat.le_of_ble_eq_true rfl⟩ hG hZ hP hD hS hA 195 (wv_o (ci := 8) (yi_195 hL) (yt_195 hL)) rfl rfl rfl hl.1 rfl (Nat.le_of_ble_eq_true rfl) d_5_19_23 ⟨Nat.le_of_ble_eq_true rfl, Nat.le_of_ble_eq_true rfl⟩ (fun _ H locs hP hD hS => ?_)
    have hP : va_P z.1 classes (wv z ad E M101) H := hP
    have hD : va_D A (wv z ad E M101) := hD
    refine W.eq (g2 := F0 m 26 ls []) rfl ?_
    refine lv_iconst (v := oI 0) hx hb d_5_19_26 (by decide +kernel) ?_
    refine lv_istore_n (lv' := [(3, .int (oI 0)), (2, .ref (ad 195)), (1, .ref (ad 193)), (0, .ref (ad 179))]) hx hb d_5_19_27 rfl hl (by decide) rfl (fun ls hl => ?_)
    obtain ⟨⟨t105, v105_1, v105_2, v105_3, M105⟩, g105, h⟩ := bd_e h
    obtain ⟨ok105, h⟩ := ck_e h
    refine s_Co_reduce_28 l z ad E hx hb hml hts hown hlocks hA hG hZ hL FU M101 193 195 0 t105 v105_1 v105_2 v105_3 M105 g105 (fun e105 H locs ls hP hD hS hl => ?_) H locs ls hP hD hS (lv_sub hl [3, 2, 1, 0] rfl)
    obtain ⟨h_v105_1, h⟩ := ck_e h
    exact b_Co_reduce_j69 l z ad E M105 v105_1 N hx hb hml hts hown hlocks hA hG hZ hL hr h H locs ls hP hD hS (lv_sub hl [0, 1] rfl)
  exact key _ _ _ hts hP hS
set_option maxRecDepth 100000 in
set_option maxHeartbeats 4000000 in
theorem b_Na_multiply_24b (l : Launch) (z : Zz) (ad : Nat → Nat) (E : Ev) (M : Mm) (q0 : Nat) (q1 : Nat) (q2 : Nat) (x3 : Int) (x4 : Int) (x6 : Int) (t : Nat) (w4 : Int) (w6 : Int) (N : Mm) {Q : State → Prop} {p : Program} {e : Env} {s : State} {m : MethodId} {below : List Frame} {meth : Method} {c : Code} {A : Nat → Prop} {args : Array Value} (hx : p.tables.exec = Jvm.exec) (hb : c.code = prog_10_method_14_code) (hml : c.maxLocals = 7) (hts : ∀ w ∈ WG, w.before args s = true) (hown : s.vm.findClass "Ballothall$Natural" = some m.cls) (hlocks : meth.locks = false) (hA : ∀ q, s.heap.size ≤ q → A q) (hG : KG z s) (hZ : FZ z A s) (hL : Lay E) (h : Na_multiply_24b E M q0 q1 q2 x3 x4 x6 = some (t, w4, w6, N)) (k0 : t = 0 → ∀ (H : Heap) (locs : List Loc) (ls : Array Slot), va_P z.1 classes (wv z ad E N) H → va_D A (wv z ad E N) → va_S A s.heap H locs → lv_has ls 7 [(0, .ref (ad q0)), (1, .ref (ad q1)), (2, .ref (ad q2)), (3, .int (oI x3)), (4, .long (oJ w4)), (6, .int (oI w6))] → W p l e (rmK 2 61 0 0) s m args below meth c H locs 0 0 Q (F0 m 24 ls [])) (k1 : t = 1 → ∀ (H : Heap) (locs : List Loc) (ls : Array Slot), va_P z.1 classes (wv z ad E N) H → va_D A (wv z ad E N) → va_S A s.heap H locs → lv_has ls 7 [(0, .ref (ad q0)), (1, .ref (ad q1)), (2, .ref (ad q2)), (3, .int (oI x3))] → W p l e (rmK 2 61 0 0) s m args below meth c H locs 0 0 Q (F0 m 102 ls [])) : ∀ (H : Heap) (locs : List Loc) (ls : Array Slot), va_P z.1 classes (wv z ad E M) H → va_D A (wv z ad E M) → va_S A s.heap H locs → lv_has ls 7 [(0, .ref (ad q0)), (1, .ref (ad q1)), (2, .ref (ad q2)), (3, .int (oI x3)), (4, .long (oJ x4)), (6, .int (oI x6))] → W p l e (rmK 2 61 0 0) s m args below meth c H locs 0 0 Q (F0 m 24 ls []) := by
  intro H locs ls hP hD hS hl
  unfold Na_multiply_24b at h
  obtain ⟨h_q0, h⟩ := ck_e h
  obtain ⟨h_q1, h⟩ := ck_e h
  obtain ⟨h_q2, h⟩ := ck_e h
  refine lv_iload hx hb d_10_14_24 (lv_at hl 5 rfl) ?_
  refine lv_aload_n hx hb d_10_14_26 rfl (lv_at hl 2 rfl) ?_
  refine m_gi (C := "Ballothall$Natural") (T := TX8) (N := 2) (ci := 8) (k := 1) hx hb hts iX8 hown hG hP (isNa_i h_q2) (isNa_T h_q2) rfl (by decide) w_295 (fun _ h9 => h9) rfl rfl d_10_14_27 ?_
  obtain ⟨ok103, h⟩ := ck_e h
  obtain ⟨ok104, h⟩ := ck_e h
  refine lv_icmp_gt (tgt := 102) hx hb d_10_14_30 (by decide) (fun c9 => ?_) (fun c9 => ?_)
  · have h := ite_t ((oI_lt (a := (M q2 1)) (b := x6) ok104 ok103).mp c9) h
    obtain ⟨rfl, rfl, rfl, rfl⟩ := in4 h
    exact k1 rfl H locs ls hP hD hS (lv_sub hl [0, 1, 2, 3] rfl)
  · have h := ite_f (fun q => c9 ((oI_lt (a := (M q2 1)) (b := x6) ok104 ok103).mpr q)) h
    refine lv_iload_n hx hb d_10_14_33 rfl (lv_at hl 3 rfl) ?_
    refine lv_iload hx hb d_10_14_34 (lv_at hl 5 rfl) ?_
    refine lv_iadd hx hb d_10_14_36 ?_
    refine nrm (oI_add _ _) ?_
    refine lv_bipush (v := oI 13) hx hb d_10_14_37 (by decide +kernel) ?_
    obtain ⟨ok105, h⟩ := ck_e h
    refine lv_icmp_ge (tgt := 102) hx hb d_10_14_39 (by decide) (fun c9 => ?_) (fun c9 => ?_)
    · have h := ite_t ((oI_le (a := (13 : Int)) (b := (x3 + x6)) (by decide) ok105).mp c9) h
      obtain ⟨rfl, rfl, rfl, rfl⟩ := in4 h
      exact k1 rfl H locs ls hP hD hS (lv_sub hl [0, 1, 2, 3] rfl)
    · have h := ite_f (fun q => c9 ((oI_le (a := (13 : Int)) (b := (x3 + x6)) (by decide) ok105).mpr q)) h
      refine lv_lload hx hb d_10_14_42 (lv_at hl 4 rfl) ?_
      refine lv_aload_n hx hb d_10_14_44 rfl (lv_at hl 1 rfl) ?_
      refine m_gr (j := (q1 + 1)) (C := "Ballothall$Natural") (T := TX8) (N := 2) (ci := 8) (k := 0) hx hb hts iX8 hown hG hP (isNa_i h_q1) (isNa_T h_q1) rfl (by decide) w_294 (fun _ h9 => h9) rfl rfl (isNa_r0 h_q1) d_10_14_45 ?_
      refine lv_iload_n hx hb d_10_14_48 rfl (lv_at hl 3 rfl) ?_
      obtain ⟨ok106, h⟩ := ck_e h
      refine m_ia hx hb hG hP (isNa_i1 h_q1) (isNa_t1 h_q1) ok106 d_10_14_49 ?_
      obtain ⟨ok107, h⟩ := ck_e h
      refine lv_i2l (v := oJ (M (q1 + 1) x3.toNat)) hx hb d_10_14_50 (oI_l ok107) ?_
      refine lv_aload_n hx hb d_10_14_51 rfl (lv_at hl 2 rfl) ?_
      refine lv_iload hx hb d_10_14_52 (lv_at hl 5 rfl) ?_
      obtain ⟨r108, g108, h⟩ := bd_e h
      refine kV (As := [.int (oI x6)]) (rest := [.long (oJ (M (q1 + 1) x3.toNat)), .long (oJ x4)]) (s_Na_limbAt l z ad E M q2 x6 r108 hL g108) hx hb hml hown hts w_637 w_634 w_636 w_s_21c489 w_9 md_149093 ⟨Nat.le_of_ble_eq_true rfl, Nat.le_of_ble_eq_true rfl⟩ hG hZ hP hD hS hA q2 (wv_o (ci := 8) (isNa_i h_q2) (isNa_T h_q2)) rfl rfl rfl hl.1 rfl (Nat.le_of_ble_eq_true rfl) d_10_14_54 ⟨Nat.le_of_ble_eq_true rfl, Nat.le_of_ble_eq_true rfl⟩ (fun _ H locs hP hD hS => ?_)
      have hP : va_P z.1 classes (wv z ad E M) H := hP
      have hD : va_D A (wv z ad E M) := hD
      refine W.eq (g2 := F0 m 57 ls [.int (oI r108), .long (oJ (M (q1 + 1) x3.toNat)), .long (oJ x4)]) rfl ?_
      obtain ⟨ok109, h⟩ := ck_e h
      refine lv_i2l (v := oJ r108) hx hb d_10_14_57 (oI_l ok109) ?_
      refine lv_lmul hx hb d_10_14_58 ?_
      refine nrmL (oJ_mul _ _) ?_
      refine lv_aload_n hx hb d_10_14_59 rfl (lv_at hl 0 rfl) ?_
      refine m_gr (j := (q0 + 1)) (C := "Ballothall$Natural") (T := TX8) (N := 2) (ci := 8) (k := 0) hx hb hts iX8 hown hG hP (isNa_i h_q0) (isNa_T h_q0) rfl (by decide) w_294 (fun _ h9 => h9) rfl rfl (isNa_r0 h_q0) d_10_14_60 ?_
      refine lv_iload_n hx hb d_10_14_63 rfl (lv_at hl 3 rfl) ?_
      refine lv_iload hx hb d_10_14_64 (lv_at hl 5 rfl) ?_
      refine lv_iadd hx hb d_10_14_66 ?_
      refine nrm (oI_add _ _) ?_
      obtain ⟨ok110, h⟩ := ck_e h
      refine m_ia hx hb hG hP (isNa_i1 h_q0) (isNa_t1 h_q0) ok110 d_10_14_67 ?_
      obtain ⟨ok111, h⟩ := ck_e h
      refine lv_i2l (v := oJ (M (q0 + 1) (x3 + x6).toNat)) hx hb d_10_14_68 (oI_l ok111) ?_
      refine lv_ladd hx hb d_10_14_69 ?_
      refine nrmL (oJ_add _ _) ?_
      refine lv_ladd hx hb d_10_14_70 ?_
      refine nrmL (oJ_add _ _) ?_
      obtain ⟨v112, e112, h⟩ := nb_e h
      refine nrmL (congrArg oJ e112.symm) ?_
      refine lv_lstore (lv' := [(4, .long (oJ v112)), (0, .ref (ad q0)), (1, .ref (ad q1)), (2, .ref (ad q2)), (3, .int (oI x3)), (6, .int (oI x6))]) hx hb d_10_14_71 hl (by decide) rfl (fun ls hl => ?_)
      refine lv_aload_n hx hb d_10_14_73 rfl (lv_at hl 1 rfl) ?_
      refine m_gr (j := (q0 + 1)) (C := "Ballothall$Natural") (T := TX8) (N := 2) (ci := 8) (k := 0) hx hb hts iX8 hown hG hP (isNa_i h_q0) (isNa_T h_q0) rfl (by decide) w_294 (fun _ h9 => h9) rfl rfl (isNa_r0 h_q0) d_10_14_74 ?_
      refine lv_iload_n hx hb d_10_14_77 rfl (lv_at hl 4 rfl) ?_
      refine lv_iload hx hb d_10_14_78 (lv_at hl 5 rfl) ?_
      refine lv_iadd hx hb d_10_14_80 ?_
      refine nrm (oI_add _ _) ?_
      refine lv_lload hx hb d_10_14_81 (lv_at hl 0 rfl) ?_
      refine lv_ldc2 hx hb hown (hts _ w_605) d_10_14_83 ?_
      refine nrmL (x1 := oJ 1073741823) (by decide +kernel) ?_
      refine lv_land hx hb d_10_14_86 ?_
      refine nrmL (oJ_m30 _) ?_
      refine lv_l2i (v := oI (v112 % 1073741824)) hx hb d_10_14_87 (oJ_i _) ?_
      refine m_is hx hb hG hP hD hS (isNa_i1 h_q0) (isNa_t1 h_q0) ok110 d_10_14_88 (fun H locs hP hD hS => ?_)
      have hP : va_P z.1 classes (wv z ad E (u2 M (q0 + 1) (x3 + x6).toNat (v112 % 1073741824))) H := hP
      have hD : va_D A (wv z ad E (u2 M (q0 + 1) (x3 + x6).toNat (v112 % 1073741824))) := hD
      refine lv_lload hx hb d_10_14_89 (lv_at hl 0 rfl) ?_
      refine lv_bipush (v := oI 30) hx hb d_10_14_91 (by decide +kernel) ?_
      obtain ⟨ok113, h⟩ := ck_e h
      refine lv_lshr (v := oJ (v112 / 1073741824)) hx hb d_10_14_93 (oJ_shr (b := (30 : Int)) ok113 (by decide) (by decide)) ?_
      refine lv_lstore (lv' := [(4, .long (oJ (v112 / 1073741824))), (0, .ref (ad q0)), (1, .ref (ad q1)), (2, .ref (ad q2)), (3, .int (oI x3)), (6, .int (oI x6))]) hx hb d_10_14_94 hl (by decide) rfl (fun ls hl => ?_)
      refine lv_iinc (v := oI (x6 + 1)) (lv' := [(6, .int (oI (x6 + 1))), (4, .long (oJ (v112 / 1073741824))), (0, .ref (ad q0)), (1, .ref (ad q1)), (2, .ref (ad q2)), (3, .int (oI x3))]) hx hb d_10_14_96 hl (k := 5) rfl (oI_add x6 1) (by decide) rfl (fun ls hl => ?_)
      refine lv_goto (tgt := 24) hx hb d_10_14_99 (by decide) ?_
      obtain ⟨rfl, rfl, rfl, rfl⟩ := in4 h
      exact k0 rfl H locs ls hP hD hS (lv_sub hl [2, 3, 4, 5, 1, 0] rfl)
set_option maxRecDepth 100000 in
set_option maxHeartbeats 4000000 in
theorem s_Na_multiply_24 (l : Launch) (z : Zz) (ad : Nat → Nat) (E : Ev) (q0 : Nat) (q1 : Nat) (q2 : Nat) (x3 : Int) {Q : State → Prop} {p : Program} {e : Env} {s : State} {m : MethodId} {below : List Frame} {meth : Method} {c : Code} {A : Nat → Prop} {args : Array Value} (hx : p.tables.exec = Jvm.exec) (hb : c.code = prog_10_method_14_code) (hml : c.maxLocals = 7) (hts : ∀ w ∈ WG, w.before args s = true) (hown : s.vm.findClass "Ballothall$Natural" = some m.cls) (hlocks : meth.locks = false) (hA : ∀ q, s.heap.size ≤ q → A q) (hG : KG z s) (hZ : FZ z A s) (hL : Lay E) : ∀ (fu : Nat) (M : Mm) (x4 : Int) (x6 : Int) (t : Nat) (w4 : Int) (w6 : Int) (N : Mm), l_Na_multiply_24 E q0 q1 q2 x3 fu M x4 x6 = some (t, w4, w6, N) → (t = 1 → ∀ (H : Heap) (locs : List Loc) (ls : Array Slot), va_P z.1 classes (wv z ad E N) H → va_D A (wv z ad E N) → va_S A s.heap H locs → lv_has ls 7 [(0, .ref (ad q0)), (1, .ref (ad q1)), (2, .ref (ad q2)), (3, .int (oI x3))] → W p l e (rmK 2 61 0 0) s m args below meth c H locs 0 0 Q (F0 m 102 ls [])) → ∀ (H : Heap) (locs : List Loc) (ls : Array Slot), va_P z.1 classes (wv z ad E M) H → va_D A (wv z ad E M) → va_S A s.heap H locs → lv_has ls 7 [(0, .ref (ad q0)), (1, .ref (ad q1)), (2, .ref (ad q2)), (3, .int (oI x3)), (4, .long (oJ x4)), (6, .int (oI x6))] → W p l e (rmK 2 61 0 0) s m args below meth c H locs 0 0 Q (F0 m 24 ls []) := by
  intro fu
  induction fu with
  | zero =>
    intro M x4 x6 t w4 w6 N h
    have h : (none : Option (Nat × Int × Int × Mm)) = some _ := h
    cases h
  | succ fu ih =>
    intro M x4 x6 t w4 w6 N h k1 H locs ls hP hD hS hl
    obtain ⟨⟨t0, w40, w60, N9⟩, g0, h⟩ := bd_e h
    refine b_Na_multiply_24b l z ad E M q0 q1 q2 x3 x4 x6 t0 w40 w60 N9 hx hb hml hts hown hlocks hA hG hZ hL g0 (fun e0 => ?_) (fun e0 => ?_) H locs ls hP hD hS hl
    · subst e0
      have h := ite_t rfl h
      exact ih N9 w40 w60 t w4 w6 N h k1
    · subst e0
      have h := ite_f (by decide) h
      obtain ⟨rfl, rfl, rfl, rfl⟩ := in4 h
      exact k1 rfl
set_option maxRecDepth 100000 in
set_option maxHeartbeats 4000000 in
theorem b_Na_multiply_10b (l : Launch) (z : Zz) (ad : Nat → Nat) (E : Ev) (M : Mm) (q0 : Nat) (q1 : Nat) (q2 : Nat) (x3 : Int) (t : Nat) (w3 : Int) (N : Mm) {Q : State → Prop} {p : Program} {e : Env} {s : State} {m : MethodId} {below : List Frame} {meth : Method} {c : Code} {A : Nat → Prop} {args : Array Value} (hx : p.tables.exec = Jvm.exec) (hb : c.code = prog_10_method_14_code) (hml : c.maxLocals = 7) (hts : ∀ w ∈ WG, w.before args s = true) (hown : s.vm.findClass "Ballothall$Natural" = some m.cls) (hlocks : meth.locks = false) (hA : ∀ q, s.heap.size ≤ q → A q) (hG : KG z s) (hZ : FZ z A s) (hL : Lay E) (h : Na_multiply_10b E M q0 q1 q2 x3 = some (t, w3, N)) (k0 : t = 0 → ∀ (H : Heap) (locs : List Loc) (ls : Array Slot), va_P z.1 classes (wv z ad E N) H → va_D A (wv z ad E N) → va_S A s.heap H locs → lv_has ls 7 [(0, .ref (ad q0)), (1, .ref (ad q1)), (2, .ref (ad q2)), (3, .int (oI w3))] → W p l e (rmK 2 61 0 0) s m args below meth c H locs 0 0 Q (F0 m 10 ls [])) (k1 : t = 1 → ∀ (H : Heap) (locs : List Loc) (ls : Array Slot), va_P z.1 classes (wv z ad E N) H → va_D A (wv z ad E N) → va_S A s.heap H locs → lv_has ls 7 [(0, .ref (ad q0))] → W p l e (rmK 2 61 0 0) s m args below meth c H locs 0 0 Q (F0 m 108 ls [])) : ∀ (H : Heap) (locs : List Loc) (ls : Array Slot), va_P z.1 classes (wv z ad E M) H → va_D A (wv z ad E M) → va_S A s.heap H locs → lv_has ls 7 [(0, .ref (ad q0)), (1, .ref (ad q1)), (2, .ref (ad q2)), (3, .int (oI x3))] → W p l e (rmK 2 61 0 0) s m args below meth c H locs 0 0 Q (F0 m 10 ls []) := by
  intro H locs ls hP hD hS hl
  unfold Na_multiply_10b at h
  obtain ⟨h_q0, h⟩ := ck_e h
  obtain ⟨h_q1, h⟩ := ck_e h
  obtain ⟨h_q2, h⟩ := ck_e h
  refine lv_iload_n hx hb d_10_14_10 rfl (lv_at hl 3 rfl) ?_
  refine lv_aload_n hx hb d_10_14_11 rfl (lv_at hl 1 rfl) ?_
  refine m_gi (C := "Ballothall$Natural") (T := TX8) (N := 2) (ci := 8) (k := 1) hx hb hts iX8 hown hG hP (isNa_i h_q1) (isNa_T h_q1) rfl (by decide) w_295 (fun _ h9 => h9) rfl rfl d_10_14_12 ?_
  obtain ⟨ok101, h⟩ := ck_e h
  obtain ⟨ok102, h⟩ := ck_e h
  refine lv_icmp_ge (tgt := 108) hx hb d_10_14_15 (by decide) (fun c9 => ?_) (fun c9 => ?_)
  · have h := ite_t ((oI_le (a := (M q1 1)) (b := x3) ok102 ok101).mp c9) h
    obtain ⟨rfl, rfl, rfl⟩ := in3 h
    exact k1 rfl H locs ls hP hD hS (lv_sub hl [0] rfl)
  · have h := ite_f (fun q => c9 ((oI_le (a := (M q1 1)) (b := x3) ok102 ok101).mpr q)) h
    refine lv_lconst (v := oJ 0) hx hb d_10_14_18 (by decide +kernel) ?_
    refine lv_lstore (lv' := [(4, .long (oJ 0)), (0, .ref (ad q0)), (1, .ref (ad q1)), (2, .ref (ad q2)), (3, .int (oI x3))]) hx hb d_10_14_19 hl (by decide) rfl (fun ls hl => ?_)
    refine lv_iconst (v := oI 0) hx hb d_10_14_21 (by decide +kernel) ?_
    refine lv_istore (lv' := [(6, .int (oI 0)), (4, .long (oJ 0)), (0, .ref (ad q0)), (1, .ref (ad q1)), (2, .ref (ad q2)), (3, .int (oI x3))]) hx hb d_10_14_22 hl (by decide) rfl (fun ls hl => ?_)
    obtain ⟨⟨t114, v114_4, v114_6, M114⟩, g114, h⟩ := bd_e h
    obtain ⟨ok114, h⟩ := ck_e h
    refine s_Na_multiply_24 l z ad E q0 q1 q2 x3 hx hb hml hts hown hlocks hA hG hZ hL FU M 0 0 t114 v114_4 v114_6 M114 g114 (fun e114 H locs ls hP hD hS hl => ?_) H locs ls hP hD hS (lv_sub hl [2, 3, 4, 5, 1, 0] rfl)
    refine lv_iinc (v := oI (x3 + 1)) (lv' := [(3, .int (oI (x3 + 1))), (0, .ref (ad q0)), (1, .ref (ad q1)), (2, .ref (ad q2))]) hx hb d_10_14_102 hl (k := 3) rfl (oI_add x3 1) (by decide) rfl (fun ls hl => ?_)
    refine lv_goto (tgt := 10) hx hb d_10_14_105 (by decide) ?_
    obtain ⟨rfl, rfl, rfl⟩ := in3 h
    exact k0 rfl H locs ls hP hD hS (lv_sub hl [1, 2, 3, 0] rfl)
set_option maxRecDepth 100000 in
set_option maxHeartbeats 4000000 in
theorem s_Na_multiply_10 (l : Launch) (z : Zz) (ad : Nat → Nat) (E : Ev) (q0 : Nat) (q1 : Nat) (q2 : Nat) {Q : State → Prop} {p : Program} {e : Env} {s : State} {m : MethodId} {below : List Frame} {meth : Method} {c : Code} {A : Nat → Prop} {args : Array Value} (hx : p.tables.exec = Jvm.exec) (hb : c.code = prog_10_method_14_code) (hml : c.maxLocals = 7) (hts : ∀ w ∈ WG, w.before args s = true) (hown : s.vm.findClass "Ballothall$Natural" = some m.cls) (hlocks : meth.locks = false) (hA : ∀ q, s.heap.size ≤ q → A q) (hG : KG z s) (hZ : FZ z A s) (hL : Lay E) : ∀ (fu : Nat) (M : Mm) (x3 : Int) (t : Nat) (w3 : Int) (N : Mm), l_Na_multiply_10 E q0 q1 q2 fu M x3 = some (t, w3, N) → (t = 1 → ∀ (H : Heap) (locs : List Loc) (ls : Array Slot), va_P z.1 classes (wv z ad E N) H → va_D A (wv z ad E N) → va_S A s.heap H locs → lv_has ls 7 [(0, .ref (ad q0))] → W p l e (rmK 2 61 0 0) s m args below meth c H locs 0 0 Q (F0 m 108 ls [])) → ∀ (H : Heap) (locs : List Loc) (ls : Array Slot), va_P z.1 classes (wv z ad E M) H → va_D A (wv z ad E M) → va_S A s.heap H locs → lv_has ls 7 [(0, .ref (ad q0)), (1, .ref (ad q1)), (2, .ref (ad q2)), (3, .int (oI x3))] → W p l e (rmK 2 61 0 0) s m args below meth c H locs 0 0 Q (F0 m 10 ls []) := by
  intro fu
  induction fu with
  | zero =>
    intro M x3 t w3 N h
    have h : (none : Option (Nat × Int × Mm)) = some _ := h
    cases h
  | succ fu ih =>
    intro M x3 t w3 N h k1 H locs ls hP hD hS hl
    obtain ⟨⟨t0, w30, N9⟩, g0, h⟩ := bd_e h
    refine b_Na_multiply_10b l z ad E M q0 q1 q2 x3 t0 w30 N9 hx hb hml hts hown hlocks hA hG hZ hL g0 (fun e0 => ?_) (fun e0 => ?_) H locs ls hP hD hS hl
    · subst e0
      have h := ite_t rfl h
      exact ih N9 w30 t w3 N h k1
    · subst e0
      have h := ite_f (by decide) h
      obtain ⟨rfl, rfl, rfl⟩ := in3 h
      exact k1 rfl
set_option maxRecDepth 100000 in
set_option maxHeartbeats 4000000 in
theorem s_Na_multiply (l : Launch) (z : Zz) (ad : Nat → Nat) (E : Ev) (M : Mm) (p0 : Nat) (p1 : Nat) (p2 : Nat) (N : Mm) (hL : Lay E) (h : f_Na_multiply E M p0 p1 p2 = some N) : CT l z ⟨"Ballothall$Natural", "multiply", "(LBallothall$Natural;LBallothall$Natural;)V"⟩ prog_10_method_14_code 7 none [.ref (ad p0), .ref (ad p1), .ref (ad p2)] (wv z ad E M) 2 61 0 0 (fun _ => none) (fun _ => (wv z ad E N)) := by
  refine CT.of (own := "Ballothall$Natural") (by decide +kernel) (Nat.le_of_ble_eq_true rfl) rfl (fun p e s m below meth c A ls hx hb hml hr hts hown hlocks hin hA hG hZ hP hD hS hl => ?_)
  have hl : lv_has ls 7 [(0, .ref (ad p0)), (1, .ref (ad p1)), (2, .ref (ad p2))] := hl
  have key : ∀ (H : Heap) (locs : List Loc) (args : Array Value), (∀ w ∈ WG, w.before args s = true) → va_P z.1 classes (wv z ad E M) H → va_S A s.heap H locs → W p l e (rmK 2 61 0 0) s m args below meth c H locs 0 0 (MQ below (QK z A (fun _ => none) (fun _ => (wv z ad E N))) args s 0 0 A) (F0 m 0 ls []) := by
    intro H locs args hts hP hS
    unfold f_Na_multiply at h
    obtain ⟨h_p0, h⟩ := ck_e h
    obtain ⟨h_p1, h⟩ := ck_e h
    obtain ⟨h_p2, h⟩ := ck_e h
    refine lv_aload_n hx hb d_10_14_0 rfl (lv_at hl 0 rfl) ?_
    refine m_gr (j := (p0 + 1)) (C := "Ballothall$Natural") (T := TX8) (N := 2) (ci := 8) (k := 0) hx hb hts iX8 hown hG hP (isNa_i h_p0) (isNa_T h_p0) rfl (by decide) w_294 (fun _ h9 => h9) rfl rfl (isNa_r0 h_p0) d_10_14_1 ?_
    refine lv_iconst (v := oI 0) hx hb d_10_14_4 (by decide +kernel) ?_
    obtain ⟨M100, g100, h⟩ := bd_e h
    refine kS (As := [.ref (ad (p0 + 1)), .int (oI 0)]) (rest := []) (s_Ar_fillI l z ad E M (p0 + 1) 0 M100 hL g100) hx hb hml hown hts w_653 w_1204 w_652 w_23 md_e8f65d ⟨Nat.le_of_ble_eq_true rfl, Nat.le_of_ble_eq_true rfl⟩ hG hZ hP hD hS hA rfl hl.1 rfl (Nat.le_of_ble_eq_true rfl) d_10_14_5 ⟨Nat.le_of_ble_eq_true rfl, Nat.le_of_ble_eq_true rfl⟩ (fun _ H locs hP hD hS => ?_)
    have hP : va_P z.1 classes (wv z ad E M100) H := hP
    have hD : va_D A (wv z ad E M100) := hD
    refine W.eq (g2 := F0 m 8 ls []) rfl ?_
    refine lv_iconst (v := oI 0) hx hb d_10_14_8 (by decide +kernel) ?_
    refine lv_istore_n (lv' := [(3, .int (oI 0)), (0, .ref (ad p0)), (1, .ref (ad p1)), (2, .ref (ad p2))]) hx hb d_10_14_9 rfl hl (by decide) rfl (fun ls hl => ?_)
    obtain ⟨⟨t115, v115_3, M115⟩, g115, h⟩ := bd_e h
    obtain ⟨ok115, h⟩ := ck_e h
    refine s_Na_multiply_10 l z ad E p0 p1 p2 hx hb hml hts hown hlocks hA hG hZ hL FU M100 0 t115 v115_3 M115 g115 (fun e115 H locs ls hP hD hS hl => ?_) H locs ls hP hD hS (lv_sub hl [1, 2, 3, 0] rfl)
    refine lv_aload_n hx hb d_10_14_108 rfl (lv_at hl 0 rfl) ?_
    refine lv_bipush (v := oI 13) hx hb d_10_14_109 (by decide +kernel) ?_
    obtain ⟨M116, g116, h⟩ := bd_e h
    refine kV (As := [.int (oI 13)]) (rest := []) (s_Na_trimTo l z ad E M115 p0 13 M116 hL g116) hx hb hml hown hts w_625 w_622 w_624 w_s_8e7085 w_9 md_0a866a ⟨Nat.le_of_ble_eq_true rfl, Nat.le_of_ble_eq_true rfl⟩ hG hZ hP hD hS hA p0 (wv_o (ci := 8) (isNa_i h_p0) (isNa_T h_p0)) rfl rfl rfl hl.1 rfl (Nat.le_of_ble_eq_true rfl) d_10_14_111 ⟨Nat.le_of_ble_eq_true rfl, Nat.le_of_ble_eq_true rfl⟩ (fun _ H locs hP hD hS => ?_)
    have hP : va_P z.1 classes (wv z ad E M116) H := hP
    have hD : va_D A (wv z ad E M116) := hD
    refine W.eq (g2 := F0 m 114 ls []) rfl ?_
    obtain rfl := in1 h
    exact W.vret hx hb hr (fun t ht hW => qkA hP hD hS (fun k => k) rfl rfl ht) hS.2.2 d_10_14_114
  exact key _ _ _ hts hP hS
set_option maxRecDepth 100000 in
set_option maxHeartbeats 4000000 in
theorem s_Co_multiply (l : Launch) (z : Zz) (ad : Nat → Nat) (E : Ev) (M : Mm) (p1 : Nat) (p2 : Nat) (N : Mm) (hL : Lay E) (h : f_Co_multiply E M p1 p2 = some N) : CT l z ⟨"Ballothall$Counting", "multiply", "(LBallothall$Natural;LBallothall$Natural;)V"⟩ prog_5_method_17_code 3 none [.ref (ad 179), .ref (ad p1), .ref (ad p2)] (wv z ad E M) 3 87 0 0 (fun _ => none) (fun _ => (wv z ad E N)) := by
  refine CT.of (own := "Ballothall$Counting") (by decide +kernel) (Nat.le_of_ble_eq_true rfl) rfl (fun p e s m below meth c A ls hx hb hml hr hts hown hlocks hin hA hG hZ hP hD hS hl => ?_)
  have hl : lv_has ls 3 [(0, .ref (ad 179)), (1, .ref (ad p1)), (2, .ref (ad p2))] := hl
  have key : ∀ (H : Heap) (locs : List Loc) (args : Array Value), (∀ w ∈ WG, w.before args s = true) → va_P z.1 classes (wv z ad E M) H → va_S A s.heap H locs → W p l e (rmK 3 87 0 0) s m args below meth c H locs 0 0 (MQ below (QK z A (fun _ => none) (fun _ => (wv z ad E N))) args s 0 0 A) (F0 m 0 ls []) := by
    intro H locs args hts hP hS
    unfold f_Co_multiply at h
    obtain ⟨h_p1, h⟩ := ck_e h
    obtain ⟨h_p2, h⟩ := ck_e h
    refine lv_aload_n hx hb d_5_17_0 rfl (lv_at hl 1 rfl) ?_
    refine m_giN (C := "Ballothall$Natural") (T := TX8) (N := 2) (ci := 8) (k := 1) hx hb hts iX8 hown hG hP (isNa_i h_p1) (isNa_T h_p1) rfl (by decide) n_296 rfl (fun _ h9 => h9) rfl rfl d_5_17_1 ?_
    obtain ⟨ok100, h⟩ := ck_e h
    refine lv_if_le (tgt := 24) hx hb d_5_17_4 (by decide) (fun c9 => ?_) (fun c9 => ?_)
    · have h := ite_t ((oI_le0 ok100).mp c9) h
      obtain rfl := in1 h
      exact W.vret hx hb hr (fun t ht hW => qkA hP hD hS (fun k => k) rfl rfl ht) hS.2.2 d_5_17_24
    · have h := ite_f (fun q => c9 ((oI_le0 ok100).mpr q)) h
      refine lv_aload_n hx hb d_5_17_7 rfl (lv_at hl 0 rfl) ?_
      refine m_gr (j := 199) (C := "Ballothall$Counting") (T := TX3) (N := 15) (ci := 3) (k := 14) hx hb hts iX3 hown hG hP (yi_179 hL) (yt_179 hL) rfl (by decide) w_319 (fun _ h9 => h9) rfl rfl (yr_179_14 hL) d_5_17_8 ?_
      refine lv_aload_n hx hb d_5_17_11 rfl (lv_at hl 1 rfl) ?_
      refine lv_aload_n hx hb d_5_17_12 rfl (lv_at hl 2 rfl) ?_
      obtain ⟨M101, g101, h⟩ := bd_e h
      refine kVN (As := [.ref (ad p1), .ref (ad p2)]) (rest := []) (s_Na_multiply l z ad E M 199 p1 p2 M101 hL g101) hx hb hml hown hts w_1230 n_1227 w_1229 w_s_68a06f w_9 md_82c0f2 ⟨Nat.le_of_ble_eq_true rfl, Nat.le_of_ble_eq_true rfl⟩ hG hZ hP hD hS hA 199 (wv_o (ci := 8) (yi_199 hL) (yt_199 hL)) rfl rfl rfl hl.1 rfl (Nat.le_of_ble_eq_true rfl) d_5_17_13 ⟨Nat.le_of_ble_eq_true rfl, Nat.le_of_ble_eq_true rfl⟩ (fun _ H locs hP hD hS => ?_)
      have hP : va_P z.1 classes (wv z ad E M101) H := hP
      have hD : va_D A (wv z ad E M101) := hD
      refine W.eq (g2 := F0 m 16 ls []) rfl ?_
      refine lv_aload_n hx hb d_5_17_16 rfl (lv_at hl 1 rfl) ?_
      refine lv_aload_n hx hb d_5_17_17 rfl (lv_at hl 0 rfl) ?_
      refine m_gr (j := 199) (C := "Ballothall$Counting") (T := TX3) (N := 15) (ci := 3) (k := 14) hx hb hts iX3 hown hG hP (yi_179 hL) (yt_179 hL) rfl (by decide) w_319 (fun _ h9 => h9) rfl rfl (yr_179_14 hL) d_5_17_18 ?_
      obtain ⟨M102, g102, h⟩ := bd_e h
      refine kVN (As := [.ref (ad 199)]) (rest := []) (s_Na_copyFrom l z ad E M101 p1 199 M102 hL g102) hx hb hml hown hts w_1175 n_1172 w_1174 w_s_8c9b61 w_9 md_68420c ⟨Nat.le_of_ble_eq_true rfl, Nat.le_of_ble_eq_true rfl⟩ hG hZ hP hD hS hA p1 (wv_o (ci := 8) (isNa_i h_p1) (isNa_T h_p1)) rfl rfl rfl hl.1 rfl (Nat.le_of_ble_eq_true rfl) d_5_17_21 ⟨Nat.le_of_ble_eq_true rfl, Nat.le_of_ble_eq_true rfl⟩ (fun _ H locs hP hD hS => ?_)
      have hP : va_P z.1 classes (wv z ad E M102) H := hP
      have hD : va_D A (wv z ad E M102) := hD
      refine W.eq (g2 := F0 m 24 ls []) rfl ?_
      obtain rfl := in1 h
      exact W.vret hx hb hr (fun t ht hW => qkA hP hD hS (fun k => k) rfl rfl ht) hS.2.2 d_5_17_24
  exact key _ _ _ hts hP hS
set_option maxRecDepth 100000 in
set_option maxHeartbeats 4000000 in
theorem b_Co_multiplyAll_11b (l : Launch) (z : Zz) (ad : Nat → Nat) (E : Ev) (M : Mm) (q1 : Nat) (x2 : Int) (t : Nat) (w2 : Int) (N : Mm) {Q : State → Prop} {p : Program} {e : Env} {s : State} {m : MethodId} {below : List Frame} {meth : Method} {c : Code} {A : Nat → Prop} {args : Array Value} (hx : p.tables.exec = Jvm.exec) (hb : c.code = prog_5_method_16_code) (hml : c.maxLocals = 4) (hts : ∀ w ∈ WG, w.before args s = true) (hown : s.vm.findClass "Ballothall$Counting" = some m.cls) (hlocks : meth.locks = false) (hA : ∀ q, s.heap.size ≤ q → A q) (hG : KG z s) (hZ : FZ z A s) (hL : Lay E) (h : Co_multiplyAll_11b E M q1 x2 = some (t, w2, N)) (k0 : t = 0 → ∀ (H : Heap) (locs : List Loc) (ls : Array Slot), va_P z.1 classes (wv z ad E N) H → va_D A (wv z ad E N) → va_S A s.heap H locs → lv_has ls 4 [(0, .ref (ad 179)), (1, .ref (ad q1)), (2, .int (oI w2))] → W p l e (rmK 4 109 0 0) s m args below meth c H locs 0 0 Q (F0 m 11 ls [])) (k1 : t = 1 → ∀ (H : Heap) (locs : List Loc) (ls : Array Slot), va_P z.1 classes (wv z ad E N) H → va_D A (wv z ad E N) → va_S A s.heap H locs → lv_has ls 4 [(0, .ref (ad 179)), (1, .ref (ad q1))] → W p l e (rmK 4 109 0 0) s m args below meth c H locs 0 0 Q (F0 m 34 ls [])) : ∀ (H : Heap) (locs : List Loc) (ls : Array Slot), va_P z.1 classes (wv z ad E M) H → va_D A (wv z ad E M) → va_S A s.heap H locs → lv_has ls 4 [(0, .ref (ad 179)), (1, .ref (ad q1)), (2, .int (oI x2))] → W p l e (rmK 4 109 0 0) s m args below meth c H locs 0 0 Q (F0 m 11 ls []) := by
  intro H locs ls hP hD hS hl
  unfold Co_multiplyAll_11b at h
  obtain ⟨h_q1, h⟩ := ck_e h
  refine lv_iload_n hx hb d_5_16_11 rfl (lv_at hl 2 rfl) ?_
  refine lv_bipush (v := oI 9) hx hb d_5_16_12 (by decide +kernel) ?_
  obtain ⟨ok101, h⟩ := ck_e h
  refine lv_icmp_ge (tgt := 34) hx hb d_5_16_14 (by decide) (fun c9 => ?_) (fun c9 => ?_)
  · have h := ite_t ((oI_le (a := (9 : Int)) (b := x2) (by decide) ok101).mp c9) h
    obtain ⟨rfl, rfl, rfl⟩ := in3 h
    exact k1 rfl H locs ls hP hD hS (lv_sub hl [0, 1] rfl)
  · have h := ite_f (fun q => c9 ((oI_le (a := (9 : Int)) (b := x2) (by decide) ok101).mpr q)) h
    refine lv_aload_n hx hb d_5_16_17 rfl (lv_at hl 0 rfl) ?_
    refine lv_aload_n hx hb d_5_16_18 rfl (lv_at hl 0 rfl) ?_
    refine m_gr (j := 182) (C := "Ballothall$Counting") (T := TX3) (N := 15) (ci := 3) (k := 5) hx hb hts iX3 hown hG hP (yi_179 hL) (yt_179 hL) rfl (by decide) w_308 (fun _ h9 => h9) rfl rfl (yr_179_5 hL) d_5_16_19 ?_
    refine lv_iload_n hx hb d_5_16_22 rfl (lv_at hl 2 rfl) ?_
    obtain ⟨ok102, h⟩ := ck_e h
    refine m_aa (k := (201 + 2 * x2.toNat)) (t := 5) (C := "Ballothall$Natural") hx hb hG hP (yi_182 hL) (yt_182 hL) rfl rfl ok102 (ya_182 hL (inb_lt ok102)) d_5_16_23 ?_
    refine lv_aload_n hx hb d_5_16_24 rfl (lv_at hl 1 rfl) ?_
    obtain ⟨M103, g103, h⟩ := bd_e h
    refine kV (As := [.ref (ad (201 + 2 * x2.toNat)), .ref (ad q1)]) (rest := []) (s_Co_multiply l z ad E M (201 + 2 * x2.toNat) q1 M103 hL g103) hx hb hml hown hts w_1226 w_1223 w_1225 w_s_a6a853 w_8 md_9c876f ⟨Nat.le_of_ble_eq_true rfl, Nat.le_of_ble_eq_true rfl⟩ hG hZ hP hD hS hA 179 (wv_o (ci := 3) (yi_179 hL) (yt_179 hL)) rfl rfl rfl hl.1 rfl (Nat.le_of_ble_eq_true rfl) d_5_16_25 ⟨Nat.le_of_ble_eq_true rfl, Nat.le_of_ble_eq_true rfl⟩ (fun _ H locs hP hD hS => ?_)
    have hP : va_P z.1 classes (wv z ad E M103) H := hP
    have hD : va_D A (wv z ad E M103) := hD
    refine W.eq (g2 := F0 m 28 ls []) rfl ?_
    refine lv_iinc (v := oI (x2 + 1)) (lv' := [(2, .int (oI (x2 + 1))), (0, .ref (ad 179)), (1, .ref (ad q1))]) hx hb d_5_16_28 hl (k := 2) rfl (oI_add x2 1) (by decide) rfl (fun ls hl => ?_)
    refine lv_goto (tgt := 11) hx hb d_5_16_31 (by decide) ?_
    obtain ⟨rfl, rfl, rfl⟩ := in3 h
    exact k0 rfl H locs ls hP hD hS (lv_sub hl [1, 2, 0] rfl)
set_option maxRecDepth 100000 in
set_option maxHeartbeats 4000000 in
theorem s_Co_multiplyAll_11 (l : Launch) (z : Zz) (ad : Nat → Nat) (E : Ev) (q1 : Nat) {Q : State → Prop} {p : Program} {e : Env} {s : State} {m : MethodId} {below : List Frame} {meth : Method} {c : Code} {A : Nat → Prop} {args : Array Value} (hx : p.tables.exec = Jvm.exec) (hb : c.code = prog_5_method_16_code) (hml : c.maxLocals = 4) (hts : ∀ w ∈ WG, w.before args s = true) (hown : s.vm.findClass "Ballothall$Counting" = some m.cls) (hlocks : meth.locks = false) (hA : ∀ q, s.heap.size ≤ q → A q) (hG : KG z s) (hZ : FZ z A s) (hL : Lay E) : ∀ (fu : Nat) (M : Mm) (x2 : Int) (t : Nat) (w2 : Int) (N : Mm), l_Co_multiplyAll_11 E q1 fu M x2 = some (t, w2, N) → (t = 1 → ∀ (H : Heap) (locs : List Loc) (ls : Array Slot), va_P z.1 classes (wv z ad E N) H → va_D A (wv z ad E N) → va_S A s.heap H locs → lv_has ls 4 [(0, .ref (ad 179)), (1, .ref (ad q1))] → W p l e (rmK 4 109 0 0) s m args below meth c H locs 0 0 Q (F0 m 34 ls [])) → ∀ (H : Heap) (locs : List Loc) (ls : Array Slot), va_P z.1 classes (wv z ad E M) H → va_D A (wv z ad E M) → va_S A s.heap H locs → lv_has ls 4 [(0, .ref (ad 179)), (1, .ref (ad q1)), (2, .int (oI x2))] → W p l e (rmK 4 109 0 0) s m args below meth c H locs 0 0 Q (F0 m 11 ls []) := by
  intro fu
  induction fu with
  | zero =>
    intro M x2 t w2 N h
    have h : (none : Option (Nat × Int × Mm)) = some _ := h
    cases h
  | succ fu ih =>
    intro M x2 t w2 N h k1 H locs ls hP hD hS hl
    obtain ⟨⟨t0, w20, N9⟩, g0, h⟩ := bd_e h
    refine b_Co_multiplyAll_11b l z ad E M q1 x2 t0 w20 N9 hx hb hml hts hown hlocks hA hG hZ hL g0 (fun e0 => ?_) (fun e0 => ?_) H locs ls hP hD hS hl
    · subst e0
      have h := ite_t rfl h
      exact ih N9 w20 t w2 N h k1
    · subst e0
      have h := ite_f (by decide) h
      obtain ⟨rfl, rfl, rfl⟩ := in3 h
      exact k1 rfl
set_option maxRecDepth 100000 in
set_option maxHeartbeats 4000000 in
theorem b_Co_multiplyAll_49b (l : Launch) (z : Zz) (ad : Nat → Nat) (E : Ev) (M : Mm) (q1 : Nat) (x2 : Int) (x3 : Int) (t : Nat) (w3 : Int) (N : Mm) {Q : State → Prop} {p : Program} {e : Env} {s : State} {m : MethodId} {below : List Frame} {meth : Method} {c : Code} {A : Nat → Prop} {args : Array Value} (hx : p.tables.exec = Jvm.exec) (hb : c.code = prog_5_method_16_code) (hml : c.maxLocals = 4) (hts : ∀ w ∈ WG, w.before args s = true) (hown : s.vm.findClass "Ballothall$Counting" = some m.cls) (hlocks : meth.locks = false) (hA : ∀ q, s.heap.size ≤ q → A q) (hG : KG z s) (hZ : FZ z A s) (hL : Lay E) (h : Co_multiplyAll_49b E M q1 x2 x3 = some (t, w3, N)) (k0 : t = 0 → ∀ (H : Heap) (locs : List Loc) (ls : Array Slot), va_P z.1 classes (wv z ad E N) H → va_D A (wv z ad E N) → va_S A s.heap H locs → lv_has ls 4 [(0, .ref (ad 179)), (1, .ref (ad q1)), (2, .int (oI x2)), (3, .int (oI w3))] → W p l e (rmK 4 109 0 0) s m args below meth c H locs 0 0 Q (F0 m 49 ls [])) (k1 : t = 1 → ∀ (H : Heap) (locs : List Loc) (ls : Array Slot), va_P z.1 classes (wv z ad E N) H → va_D A (wv z ad E N) → va_S A s.heap H locs → lv_has ls 4 [(0, .ref (ad 179)), (1, .ref (ad q1)), (2, .int (oI x2))] → W p l e (rmK 4 109 0 0) s m args below meth c H locs 0 0 Q (F0 m 88 ls [])) : ∀ (H : Heap) (locs : List Loc) (ls : Array Slot), va_P z.1 classes (wv z ad E M) H → va_D A (wv z ad E M) → va_S A s.heap H locs → lv_has ls 4 [(0, .ref (ad 179)), (1, .ref (ad q1)), (2, .int (oI x2)), (3, .int (oI x3))] → W p l e (rmK 4 109 0 0) s m args below meth c H locs 0 0 Q (F0 m 49 ls []) := by
  intro H locs ls hP hD hS hl
  unfold Co_multiplyAll_49b at h
  obtain ⟨h_q1, h⟩ := ck_e h
  refine lv_iload_n hx hb d_5_16_49 rfl (lv_at hl 3 rfl) ?_
  refine lv_aload_n hx hb d_5_16_50 rfl (lv_at hl 0 rfl) ?_
  refine m_gr (j := 2) (C := "Ballothall$Counting") (T := TX3) (N := 15) (ci := 3) (k := 0) hx hb hts iX3 hown hG hP (yi_179 hL) (yt_179 hL) rfl (by decide) w_303 (fun _ h9 => h9) rfl rfl (yr_179_0 hL) d_5_16_51 ?_
  refine m_giN (C := "Ballothall$BallotBox") (T := TX0) (N := 10) (ci := 0) (k := 2) hx hb hts iX0 hown hG hP (yi_2 hL) (yt_2 hL) rfl (by decide) n_55 rfl (fun _ h9 => h9) rfl rfl d_5_16_54 ?_
  obtain ⟨ok107, h⟩ := ck_e h
  obtain ⟨ok108, h⟩ := ck_e h
  refine lv_icmp_ge (tgt := 88) hx hb d_5_16_57 (by decide) (fun c9 => ?_) (fun c9 => ?_)
  · have h := ite_t ((oI_le (a := (M 2 2)) (b := x3) ok108 ok107).mp c9) h
    obtain ⟨rfl, rfl, rfl⟩ := in3 h
    exact k1 rfl H locs ls hP hD hS (lv_sub hl [0, 1, 2] rfl)
  · have h := ite_f (fun q => c9 ((oI_le (a := (M 2 2)) (b := x3) ok108 ok107).mpr q)) h
    refine lv_aload_n hx hb d_5_16_60 rfl (lv_at hl 0 rfl) ?_
    refine m_gi (C := "Ballothall$Counting") (T := TX3) (N := 15) (ci := 3) (k := 3) hx hb hts iX3 hown hG hP (yi_179 hL) (yt_179 hL) rfl (by decide) w_306 (fun _ h9 => h9) rfl rfl d_5_16_61 ?_
    refine lv_iload_n hx hb d_5_16_64 rfl (lv_at hl 3 rfl) ?_
    obtain ⟨r109, g109, h⟩ := bd_e h
    refine kSN (As := [.int (oI (M 179 3)), .int (oI x3)]) (rest := []) (s_B_has l z ad E M (M 179 3) x3 r109 hL g109) hx hb hml hown hts w_693 n_1143 w_692 w_1 md_26545c ⟨Nat.le_of_ble_eq_true rfl, Nat.le_of_ble_eq_true rfl⟩ hG hZ hP hD hS hA rfl hl.1 rfl (Nat.le_of_ble_eq_true rfl) d_5_16_65 ⟨Nat.le_of_ble_eq_true rfl, Nat.le_of_ble_eq_true rfl⟩ (fun _ H locs hP hD hS => ?_)
    have hP : va_P z.1 classes (wv z ad E M) H := hP
    have hD : va_D A (wv z ad E M) := hD
    refine W.eq (g2 := F0 m 68 ls [.int (oI r109)]) rfl ?_
    obtain ⟨ok110, h⟩ := ck_e h
    refine lv_if_eq (tgt := 82) hx hb d_5_16_68 (by decide) (fun c9 => ?_) (fun c9 => ?_)
    · have h := ite_t ((oI_eq0 ok110).mp c9) h
      refine lv_iinc (v := oI (x3 + 1)) (lv' := [(3, .int (oI (x3 + 1))), (0, .ref (ad 179)), (1, .ref (ad q1)), (2, .int (oI x2))]) hx hb d_5_16_82 hl (k := 3) rfl (oI_add x3 1) (by decide) rfl (fun ls hl => ?_)
      refine lv_goto (tgt := 49) hx hb d_5_16_85 (by decide) ?_
      obtain ⟨rfl, rfl, rfl⟩ := in3 h
      exact k0 rfl H locs ls hP hD hS (lv_sub hl [1, 2, 3, 0] rfl)
    · have h := ite_f (fun q => c9 ((oI_eq0 ok110).mpr q)) h
      refine lv_aload_n hx hb d_5_16_71 rfl (lv_at hl 0 rfl) ?_
      refine lv_aload_n hx hb d_5_16_72 rfl (lv_at hl 0 rfl) ?_
      refine lv_iload_n hx hb d_5_16_73 rfl (lv_at hl 2 rfl) ?_
      refine lv_iload_n hx hb d_5_16_74 rfl (lv_at hl 3 rfl) ?_
      obtain ⟨r111, g111, h⟩ := bd_e h
      refine kV (As := [.int (oI x2), .int (oI x3)]) (rest := [.ref (ad 179)]) (s_Co_weightOf l z ad E M x2 x3 r111 hL g111) hx hb hml hown hts w_1132 w_1129 w_1131 w_s_b275fa w_8 md_759e51 ⟨Nat.le_of_ble_eq_true rfl, Nat.le_of_ble_eq_true rfl⟩ hG hZ hP hD hS hA 179 (wv_o (ci := 3) (yi_179 hL) (yt_179 hL)) rfl rfl rfl hl.1 rfl (Nat.le_of_ble_eq_true rfl) d_5_16_75 ⟨Nat.le_of_ble_eq_true rfl, Nat.le_of_ble_eq_true rfl⟩ (fun _ H locs hP hD hS => ?_)
      have hP : va_P z.1 classes (wv z ad E M) H := hP
      have hD : va_D A (wv z ad E M) := hD
      obtain ⟨h_r111, h⟩ := ck_e h
      refine W.eq (g2 := F0 m 78 ls [.ref (ad r111), .ref (ad 179)]) rfl ?_
      refine lv_aload_n hx hb d_5_16_78 rfl (lv_at hl 1 rfl) ?_
      obtain ⟨M112, g112, h⟩ := bd_e h
      refine kV (As := [.ref (ad r111), .ref (ad q1)]) (rest := []) (s_Co_multiply l z ad E M r111 q1 M112 hL g112) hx hb hml hown hts w_1226 w_1223 w_1225 w_s_a6a853 w_8 md_9c876f ⟨Nat.le_of_ble_eq_true rfl, Nat.le_of_ble_eq_true rfl⟩ hG hZ hP hD hS hA 179 (wv_o (ci := 3) (yi_179 hL) (yt_179 hL)) rfl rfl rfl hl.1 rfl (Nat.le_of_ble_eq_true rfl) d_5_16_79 ⟨Nat.le_of_ble_eq_true rfl, Nat.le_of_ble_eq_true rfl⟩ (fun _ H locs hP hD hS => ?_)
      have hP : va_P z.1 classes (wv z ad E M112) H := hP
      have hD : va_D A (wv z ad E M112) := hD
      refine W.eq (g2 := F0 m 82 ls []) rfl ?_
      refine lv_iinc (v := oI (x3 + 1)) (lv' := [(3, .int (oI (x3 + 1))), (0, .ref (ad 179)), (1, .ref (ad q1)), (2, .int (oI x2))]) hx hb d_5_16_82 hl (k := 3) rfl (oI_add x3 1) (by decide) rfl (fun ls hl => ?_)
      refine lv_goto (tgt := 49) hx hb d_5_16_85 (by decide) ?_
      obtain ⟨rfl, rfl, rfl⟩ := in3 h
      exact k0 rfl H locs ls hP hD hS (lv_sub hl [1, 2, 3, 0] rfl)
set_option maxRecDepth 100000 in
set_option maxHeartbeats 4000000 in
theorem s_Co_multiplyAll_49 (l : Launch) (z : Zz) (ad : Nat → Nat) (E : Ev) (q1 : Nat) (x2 : Int) {Q : State → Prop} {p : Program} {e : Env} {s : State} {m : MethodId} {below : List Frame} {meth : Method} {c : Code} {A : Nat → Prop} {args : Array Value} (hx : p.tables.exec = Jvm.exec) (hb : c.code = prog_5_method_16_code) (hml : c.maxLocals = 4) (hts : ∀ w ∈ WG, w.before args s = true) (hown : s.vm.findClass "Ballothall$Counting" = some m.cls) (hlocks : meth.locks = false) (hA : ∀ q, s.heap.size ≤ q → A q) (hG : KG z s) (hZ : FZ z A s) (hL : Lay E) : ∀ (fu : Nat) (M : Mm) (x3 : Int) (t : Nat) (w3 : Int) (N : Mm), l_Co_multiplyAll_49 E q1 x2 fu M x3 = some (t, w3, N) → (t = 1 → ∀ (H : Heap) (locs : List Loc) (ls : Array Slot), va_P z.1 classes (wv z ad E N) H → va_D A (wv z ad E N) → va_S A s.heap H locs → lv_has ls 4 [(0, .ref (ad 179)), (1, .ref (ad q1)), (2, .int (oI x2))] → W p l e (rmK 4 109 0 0) s m args below meth c H locs 0 0 Q (F0 m 88 ls [])) → ∀ (H : Heap) (locs : List Loc) (ls : Array Slot), va_P z.1 classes (wv z ad E M) H → va_D A (wv z ad E M) → va_S A s.heap H locs → lv_has ls 4 [(0, .ref (ad 179)), (1, .ref (ad q1)), (2, .int (oI x2)), (3, .int (oI x3))] → W p l e (rmK 4 109 0 0) s m args below meth c H locs 0 0 Q (F0 m 49 ls []) := by
  intro fu
  induction fu with
  | zero =>
    intro M x3 t w3 N h
    have h : (none : Option (Nat × Int × Mm)) = some _ := h
    cases h
  | succ fu ih =>
    intro M x3 t w3 N h k1 H locs ls hP hD hS hl
    obtain ⟨⟨t0, w30, N9⟩, g0, h⟩ := bd_e h
    refine b_Co_multiplyAll_49b l z ad E M q1 x2 x3 t0 w30 N9 hx hb hml hts hown hlocks hA hG hZ hL g0 (fun e0 => ?_) (fun e0 => ?_) H locs ls hP hD hS hl
    · subst e0
      have h := ite_t rfl h
      exact ih N9 w30 t w3 N h k1
    · subst e0
      have h := ite_f (by decide) h
      obtain ⟨rfl, rfl, rfl⟩ := in3 h
      exact k1 rfl
set_option maxRecDepth 100000 in
set_option maxHeartbeats 4000000 in
theorem b_Co_multiplyAll_36b (l : Launch) (z : Zz) (ad : Nat → Nat) (E : Ev) (M : Mm) (q1 : Nat) (x2 : Int) (t : Nat) (w2 : Int) (N : Mm) {Q : State → Prop} {p : Program} {e : Env} {s : State} {m : MethodId} {below : List Frame} {meth : Method} {c : Code} {A : Nat → Prop} {args : Array Value} (hx : p.tables.exec = Jvm.exec) (hb : c.code = prog_5_method_16_code) (hml : c.maxLocals = 4) (hts : ∀ w ∈ WG, w.before args s = true) (hown : s.vm.findClass "Ballothall$Counting" = some m.cls) (hlocks : meth.locks = false) (hA : ∀ q, s.heap.size ≤ q → A q) (hG : KG z s) (hZ : FZ z A s) (hL : Lay E) (h : Co_multiplyAll_36b E M q1 x2 = some (t, w2, N)) (k0 : t = 0 → ∀ (H : Heap) (locs : List Loc) (ls : Array Slot), va_P z.1 classes (wv z ad E N) H → va_D A (wv z ad E N) → va_S A s.heap H locs → lv_has ls 4 [(0, .ref (ad 179)), (1, .ref (ad q1)), (2, .int (oI w2))] → W p l e (rmK 4 109 0 0) s m args below meth c H locs 0 0 Q (F0 m 36 ls [])) (k1 : t = 1 → ∀ (H : Heap) (locs : List Loc) (ls : Array Slot), va_P z.1 classes (wv z ad E N) H → va_D A (wv z ad E N) → va_S A s.heap H locs → lv_has ls 4 [] → W p l e (rmK 4 109 0 0) s m args below meth c H locs 0 0 Q (F0 m 94 ls [])) : ∀ (H : Heap) (locs : List Loc) (ls : Array Slot), va_P z.1 classes (wv z ad E M) H → va_D A (wv z ad E M) → va_S A s.heap H locs → lv_has ls 4 [(0, .ref (ad 179)), (1, .ref (ad q1)), (2, .int (oI x2))] → W p l e (rmK 4 109 0 0) s m args below meth c H locs 0 0 Q (F0 m 36 ls []) := by
  intro H locs ls hP hD hS hl
  unfold Co_multiplyAll_36b at h
  obtain ⟨h_q1, h⟩ := ck_e h
  refine lv_iload_n hx hb d_5_16_36 rfl (lv_at hl 2 rfl) ?_
  refine lv_aload_n hx hb d_5_16_37 rfl (lv_at hl 0 rfl) ?_
  refine m_gr (j := 2) (C := "Ballothall$Counting") (T := TX3) (N := 15) (ci := 3) (k := 0) hx hb hts iX3 hown hG hP (yi_179 hL) (yt_179 hL) rfl (by decide) w_303 (fun _ h9 => h9) rfl rfl (yr_179_0 hL) d_5_16_38 ?_
  refine m_giN (C := "Ballothall$BallotBox") (T := TX0) (N := 10) (ci := 0) (k := 3) hx hb hts iX0 hown hG hP (yi_2 hL) (yt_2 hL) rfl (by decide) n_59 rfl (fun _ h9 => h9) rfl rfl d_5_16_41 ?_
  obtain ⟨ok105, h⟩ := ck_e h
  obtain ⟨ok106, h⟩ := ck_e h
  refine lv_icmp_ge (tgt := 94) hx hb d_5_16_44 (by decide) (fun c9 => ?_) (fun c9 => ?_)
  · have h := ite_t ((oI_le (a := (M 2 3)) (b := x2) ok106 ok105).mp c9) h
    obtain ⟨rfl, rfl, rfl⟩ := in3 h
    exact k1 rfl H locs ls hP hD hS (lv_sub hl [] rfl)
  · have h := ite_f (fun q => c9 ((oI_le (a := (M 2 3)) (b := x2) ok106 ok105).mpr q)) h
    refine lv_iconst (v := oI 0) hx hb d_5_16_47 (by decide +kernel) ?_
    refine lv_istore_n (lv' := [(3, .int (oI 0)), (0, .ref (ad 179)), (1, .ref (ad q1)), (2, .int (oI x2))]) hx hb d_5_16_48 rfl hl (by decide) rfl (fun ls hl => ?_)
    obtain ⟨⟨t113, v113_3, M113⟩, g113, h⟩ := bd_e h
    obtain ⟨ok113, h⟩ := ck_e h
    refine s_Co_multiplyAll_49 l z ad E q1 x2 hx hb hml hts hown hlocks hA hG hZ hL FU M 0 t113 v113_3 M113 g113 (fun e113 H locs ls hP hD hS hl => ?_) H locs ls hP hD hS (lv_sub hl [1, 2, 3, 0] rfl)
    refine lv_iinc (v := oI (x2 + 1)) (lv' := [(2, .int (oI (x2 + 1))), (0, .ref (ad 179)), (1, .ref (ad q1))]) hx hb d_5_16_88 hl (k := 2) rfl (oI_add x2 1) (by decide) rfl (fun ls hl => ?_)
    refine lv_goto (tgt := 36) hx hb d_5_16_91 (by decide) ?_
    obtain ⟨rfl, rfl, rfl⟩ := in3 h
    exact k0 rfl H locs ls hP hD hS (lv_sub hl [1, 2, 0] rfl)
set_option maxRecDepth 100000 in
set_option maxHeartbeats 4000000 in
theorem s_Co_multiplyAll_36 (l : Launch) (z : Zz) (ad : Nat → Nat) (E : Ev) (q1 : Nat) {Q : State → Prop} {p : Program} {e : Env} {s : State} {m : MethodId} {below : List Frame} {meth : Method} {c : Code} {A : Nat → Prop} {args : Array Value} (hx : p.tables.exec = Jvm.exec) (hb : c.code = prog_5_method_16_code) (hml : c.maxLocals = 4) (hts : ∀ w ∈ WG, w.before args s = true) (hown : s.vm.findClass "Ballothall$Counting" = some m.cls) (hlocks : meth.locks = false) (hA : ∀ q, s.heap.size ≤ q → A q) (hG : KG z s) (hZ : FZ z A s) (hL : Lay E) : ∀ (fu : Nat) (M : Mm) (x2 : Int) (t : Nat) (w2 : Int) (N : Mm), l_Co_multiplyAll_36 E q1 fu M x2 = some (t, w2, N) → (t = 1 → ∀ (H : Heap) (locs : List Loc) (ls : Array Slot), va_P z.1 classes (wv z ad E N) H → va_D A (wv z ad E N) → va_S A s.heap H locs → lv_has ls 4 [] → W p l e (rmK 4 109 0 0) s m args below meth c H locs 0 0 Q (F0 m 94 ls [])) → ∀ (H : Heap) (locs : List Loc) (ls : Array Slot), va_P z.1 classes (wv z ad E M) H → va_D A (wv z ad E M) → va_S A s.heap H locs → lv_has ls 4 [(0, .ref (ad 179)), (1, .ref (ad q1)), (2, .int (oI x2))] → W p l e (rmK 4 109 0 0) s m args below meth c H locs 0 0 Q (F0 m 36 ls []) := by
  intro fu
  induction fu with
  | zero =>
    intro M x2 t w2 N h
    have h : (none : Option (Nat × Int × Mm)) = some _ := h
    cases h
  | succ fu ih =>
    intro M x2 t w2 N h k1 H locs ls hP hD hS hl
    obtain ⟨⟨t0, w20, N9⟩, g0, h⟩ := bd_e h
    refine b_Co_multiplyAll_36b l z ad E M q1 x2 t0 w20 N9 hx hb hml hts hown hlocks hA hG hZ hL g0 (fun e0 => ?_) (fun e0 => ?_) H locs ls hP hD hS hl
    · subst e0
      have h := ite_t rfl h
      exact ih N9 w20 t w2 N h k1
    · subst e0
      have h := ite_f (by decide) h
      obtain ⟨rfl, rfl, rfl⟩ := in3 h
      exact k1 rfl
set_option maxRecDepth 100000 in
set_option maxHeartbeats 4000000 in
theorem s_Co_multiplyAll (l : Launch) (z : Zz) (ad : Nat → Nat) (E : Ev) (M : Mm) (p1 : Nat) (N : Mm) (hL : Lay E) (h : f_Co_multiplyAll E M p1 = some N) : CT l z ⟨"Ballothall$Counting", "multiplyAll", "(LBallothall$Natural;)V"⟩ prog_5_method_16_code 4 none [.ref (ad 179), .ref (ad p1)] (wv z ad E M) 4 109 0 0 (fun _ => none) (fun _ => (wv z ad E N)) := by
  refine CT.of (own := "Ballothall$Counting") (by decide +kernel) (Nat.le_of_ble_eq_true rfl) rfl (fun p e s m below meth c A ls hx hb hml hr hts hown hlocks hin hA hG hZ hP hD hS hl => ?_)
  have hl : lv_has ls 4 [(0, .ref (ad 179)), (1, .ref (ad p1))] := hl
  have key : ∀ (H : Heap) (locs : List Loc) (args : Array Value), (∀ w ∈ WG, w.before args s = true) → va_P z.1 classes (wv z ad E M) H → va_S A s.heap H locs → W p l e (rmK 4 109 0 0) s m args below meth c H locs 0 0 (MQ below (QK z A (fun _ => none) (fun _ => (wv z ad E N))) args s 0 0 A) (F0 m 0 ls []) := by
    intro H locs args hts hP hS
    unfold f_Co_multiplyAll at h
    obtain ⟨h_p1, h⟩ := ck_e h
    refine lv_aload_n hx hb d_5_16_0 rfl (lv_at hl 0 rfl) ?_
    refine lv_aload_n hx hb d_5_16_1 rfl (lv_at hl 0 rfl) ?_
    refine m_gr (j := 183) (C := "Ballothall$Counting") (T := TX3) (N := 15) (ci := 3) (k := 6) hx hb hts iX3 hown hG hP (yi_179 hL) (yt_179 hL) rfl (by decide) w_309 (fun _ h9 => h9) rfl rfl (yr_179_6 hL) d_5_16_2 ?_
    refine lv_aload_n hx hb d_5_16_5 rfl (lv_at hl 1 rfl) ?_
    obtain ⟨M100, g100, h⟩ := bd_e h
    refine kV (As := [.ref (ad 183), .ref (ad p1)]) (rest := []) (s_Co_multiply l z ad E M 183 p1 M100 hL g100) hx hb hml hown hts w_1226 w_1223 w_1225 w_s_a6a853 w_8 md_9c876f ⟨Nat.le_of_ble_eq_true rfl, Nat.le_of_ble_eq_true rfl⟩ hG hZ hP hD hS hA 179 (wv_o (ci := 3) (yi_179 hL) (yt_179 hL)) rfl rfl rfl hl.1 rfl (Nat.le_of_ble_eq_true rfl) d_5_16_6 ⟨Nat.le_of_ble_eq_true rfl, Nat.le_of_ble_eq_true rfl⟩ (fun _ H locs hP hD hS => ?_)
    have hP : va_P z.1 classes (wv z ad E M100) H := hP
    have hD : va_D A (wv z ad E M100) := hD
    refine W.eq (g2 := F0 m 9 ls []) rfl ?_
    refine lv_iconst (v := oI 0) hx hb d_5_16_9 (by decide +kernel) ?_
    refine lv_istore_n (lv' := [(2, .int (oI 0)), (0, .ref (ad 179)), (1, .ref (ad p1))]) hx hb d_5_16_10 rfl hl (by decide) rfl (fun ls hl => ?_)
    obtain ⟨⟨t104, v104_2, M104⟩, g104, h⟩ := bd_e h
    obtain ⟨ok104, h⟩ := ck_e h
    refine s_Co_multiplyAll_11 l z ad E p1 hx hb hml hts hown hlocks hA hG hZ hL FU M100 0 t104 v104_2 M104 g104 (fun e104 H locs ls hP hD hS hl => ?_) H locs ls hP hD hS (lv_sub hl [1, 2, 0] rfl)
    refine lv_iconst (v := oI 0) hx hb d_5_16_34 (by decide +kernel) ?_
    refine lv_istore_n (lv' := [(2, .int (oI 0)), (0, .ref (ad 179)), (1, .ref (ad p1))]) hx hb d_5_16_35 rfl hl (by decide) rfl (fun ls hl => ?_)
    obtain ⟨⟨t114, v114_2, M114⟩, g114, h⟩ := bd_e h
    obtain ⟨ok114, h⟩ := ck_e h
    refine s_Co_multiplyAll_36 l z ad E p1 hx hb hml hts hown hlocks hA hG hZ hL FU M104 0 t114 v114_2 M114 g114 (fun e114 H locs ls hP hD hS hl => ?_) H locs ls hP hD hS (lv_sub hl [1, 2, 0] rfl)
    obtain rfl := in1 h
    exact W.vret hx hb hr (fun t ht hW => qkA hP hD hS (fun k => k) rfl rfl ht) hS.2.2 d_5_16_94
  exact key _ _ _ hts hP hS
set_option maxRecDepth 100000 in
set_option maxHeartbeats 4000000 in
theorem b_Co_passSurplus_64b (l : Launch) (z : Zz) (ad : Nat → Nat) (E : Ev) (M : Mm) (x1 : Int) (x2 : Int) (t : Nat) (w2 : Int) (N : Mm) {Q : State → Prop} {p : Program} {e : Env} {s : State} {m : MethodId} {below : List Frame} {meth : Method} {c : Code} {A : Nat → Prop} {args : Array Value} (hx : p.tables.exec = Jvm.exec) (hb : c.code = prog_5_method_15_code) (hml : c.maxLocals = 3) (hts : ∀ w ∈ WG, w.before args s = true) (hown : s.vm.findClass "Ballothall$Counting" = some m.cls) (hlocks : meth.locks = false) (hA : ∀ q, s.heap.size ≤ q → A q) (hG : KG z s) (hZ : FZ z A s) (hL : Lay E) (h : Co_passSurplus_64b E M x1 x2 = some (t, w2, N)) (k0 : t = 0 → ∀ (H : Heap) (locs : List Loc) (ls : Array Slot), va_P z.1 classes (wv z ad E N) H → va_D A (wv z ad E N) → va_S A s.heap H locs → lv_has ls 3 [(0, .ref (ad 179)), (1, .int (oI x1)), (2, .int (oI w2))] → W p l e (rmK 5 136 0 0) s m args below meth c H locs 0 0 Q (F0 m 64 ls [])) (k1 : t = 1 → ∀ (H : Heap) (locs : List Loc) (ls : Array Slot), va_P z.1 classes (wv z ad E N) H → va_D A (wv z ad E N) → va_S A s.heap H locs → lv_has ls 3 [] → W p l e (rmK 5 136 0 0) s m args below meth c H locs 0 0 Q (F0 m 103 ls [])) : ∀ (H : Heap) (locs : List Loc) (ls : Array Slot), va_P z.1 classes (wv z ad E M) H → va_D A (wv z ad E M) → va_S A s.heap H locs → lv_has ls 3 [(0, .ref (ad 179)), (1, .int (oI x1)), (2, .int (oI x2))] → W p l e (rmK 5 136 0 0) s m args below meth c H locs 0 0 Q (F0 m 64 ls []) := by
  intro H locs ls hP hD hS hl
  unfold Co_passSurplus_64b at h
  refine lv_iload_n hx hb d_5_15_64 rfl (lv_at hl 2 rfl) ?_
  refine lv_aload_n hx hb d_5_15_65 rfl (lv_at hl 0 rfl) ?_
  refine m_gr (j := 2) (C := "Ballothall$Counting") (T := TX3) (N := 15) (ci := 3) (k := 0) hx hb hts iX3 hown hG hP (yi_179 hL) (yt_179 hL) rfl (by decide) w_303 (fun _ h9 => h9) rfl rfl (yr_179_0 hL) d_5_15_66 ?_
  refine m_giN (C := "Ballothall$BallotBox") (T := TX0) (N := 10) (ci := 0) (k := 3) hx hb hts iX0 hown hG hP (yi_2 hL) (yt_2 hL) rfl (by decide) n_59 rfl (fun _ h9 => h9) rfl rfl d_5_15_69 ?_
  obtain ⟨ok107, h⟩ := ck_e h
  obtain ⟨ok108, h⟩ := ck_e h
  refine lv_icmp_ge (tgt := 103) hx hb d_5_15_72 (by decide) (fun c9 => ?_) (fun c9 => ?_)
  · have h := ite_t ((oI_le (a := (M 2 3)) (b := x2) ok108 ok107).mp c9) h
    obtain ⟨rfl, rfl, rfl⟩ := in3 h
    exact k1 rfl H locs ls hP hD hS (lv_sub hl [] rfl)
  · have h := ite_f (fun q => c9 ((oI_le (a := (M 2 3)) (b := x2) ok108 ok107).mpr q)) h
    refine lv_aload_n hx hb d_5_15_75 rfl (lv_at hl 0 rfl) ?_
    refine m_gr (j := 185) (C := "Ballothall$Counting") (T := TX3) (N := 15) (ci := 3) (k := 7) hx hb hts iX3 hown hG hP (yi_179 hL) (yt_179 hL) rfl (by decide) w_310 (fun _ h9 => h9) rfl rfl (yr_179_7 hL) d_5_15_76 ?_
    refine lv_aload_n hx hb d_5_15_79 rfl (lv_at hl 0 rfl) ?_
    refine lv_iload_n hx hb d_5_15_80 rfl (lv_at hl 2 rfl) ?_
    refine lv_iload_n hx hb d_5_15_81 rfl (lv_at hl 1 rfl) ?_
    obtain ⟨r109, g109, h⟩ := bd_e h
    refine kV (As := [.int (oI x2), .int (oI x1)]) (rest := [.ref (ad 185)]) (s_Co_weightOf l z ad E M x2 x1 r109 hL g109) hx hb hml hown hts w_1132 w_1129 w_1131 w_s_b275fa w_8 md_759e51 ⟨Nat.le_of_ble_eq_true rfl, Nat.le_of_ble_eq_true rfl⟩ hG hZ hP hD hS hA 179 (wv_o (ci := 3) (yi_179 hL) (yt_179 hL)) rfl rfl rfl hl.1 rfl (Nat.le_of_ble_eq_true rfl) d_5_15_82 ⟨Nat.le_of_ble_eq_true rfl, Nat.le_of_ble_eq_true rfl⟩ (fun _ H locs hP hD hS => ?_)
    have hP : va_P z.1 classes (wv z ad E M) H := hP
    have hD : va_D A (wv z ad E M) := hD
    obtain ⟨h_r109, h⟩ := ck_e h
    refine W.eq (g2 := F0 m 85 ls [.ref (ad r109), .ref (ad 185)]) rfl ?_
    refine lv_aload_n hx hb d_5_15_85 rfl (lv_at hl 0 rfl) ?_
    refine m_gr (j := 189) (C := "Ballothall$Counting") (T := TX3) (N := 15) (ci := 3) (k := 9) hx hb hts iX3 hown hG hP (yi_179 hL) (yt_179 hL) rfl (by decide) w_312 (fun _ h9 => h9) rfl rfl (yr_179_9 hL) d_5_15_86 ?_
    obtain ⟨M110, g110, h⟩ := bd_e h
    refine kVN (As := [.ref (ad r109), .ref (ad 189)]) (rest := []) (s_Na_multiply l z ad E M 185 r109 189 M110 hL g110) hx hb hml hown hts w_1230 n_1227 w_1229 w_s_68a06f w_9 md_82c0f2 ⟨Nat.le_of_ble_eq_true rfl, Nat.le_of_ble_eq_true rfl⟩ hG hZ hP hD hS hA 185 (wv_o (ci := 8) (yi_185 hL) (yt_185 hL)) rfl rfl rfl hl.1 rfl (Nat.le_of_ble_eq_true rfl) d_5_15_89 ⟨Nat.le_of_ble_eq_true rfl, Nat.le_of_ble_eq_true rfl⟩ (fun _ H locs hP hD hS => ?_)
    have hP : va_P z.1 classes (wv z ad E M110) H := hP
    have hD : va_D A (wv z ad E M110) := hD
    refine W.eq (g2 := F0 m 92 ls []) rfl ?_
    refine lv_aload_n hx hb d_5_15_92 rfl (lv_at hl 0 rfl) ?_
    refine lv_iload_n hx hb d_5_15_93 rfl (lv_at hl 2 rfl) ?_
    obtain ⟨M111, g111, h⟩ := bd_e h
    refine kV (As := [.int (oI x2)]) (rest := []) (s_Co_passOn l z ad E M110 x2 M111 hL g111) hx hb hml hown hts w_1136 w_1133 w_1135 w_s_6bacc3 w_8 md_774b9e ⟨Nat.le_of_ble_eq_true rfl, Nat.le_of_ble_eq_true rfl⟩ hG hZ hP hD hS hA 179 (wv_o (ci := 3) (yi_179 hL) (yt_179 hL)) rfl rfl rfl hl.1 rfl (Nat.le_of_ble_eq_true rfl) d_5_15_94 ⟨Nat.le_of_ble_eq_true rfl, Nat.le_of_ble_eq_true rfl⟩ (fun _ H locs hP hD hS => ?_)
    have hP : va_P z.1 classes (wv z ad E M111) H := hP
    have hD : va_D A (wv z ad E M111) := hD
    refine W.eq (g2 := F0 m 97 ls []) rfl ?_
    refine lv_iinc (v := oI (x2 + 1)) (lv' := [(2, .int (oI (x2 + 1))), (0, .ref (ad 179)), (1, .int (oI x1))]) hx hb d_5_15_97 hl (k := 2) rfl (oI_add x2 1) (by decide) rfl (fun ls hl => ?_)
    refine lv_goto (tgt := 64) hx hb d_5_15_100 (by decide) ?_
    obtain ⟨rfl, rfl, rfl⟩ := in3 h
    exact k0 rfl H locs ls hP hD hS (lv_sub hl [1, 2, 0] rfl)
set_option maxRecDepth 100000 in
set_option maxHeartbeats 4000000 in
theorem s_Co_passSurplus_64 (l : Launch) (z : Zz) (ad : Nat → Nat) (E : Ev) (x1 : Int) {Q : State → Prop} {p : Program} {e : Env} {s : State} {m : MethodId} {below : List Frame} {meth : Method} {c : Code} {A : Nat → Prop} {args : Array Value} (hx : p.tables.exec = Jvm.exec) (hb : c.code = prog_5_method_15_code) (hml : c.maxLocals = 3) (hts : ∀ w ∈ WG, w.before args s = true) (hown : s.vm.findClass "Ballothall$Counting" = some m.cls) (hlocks : meth.locks = false) (hA : ∀ q, s.heap.size ≤ q → A q) (hG : KG z s) (hZ : FZ z A s) (hL : Lay E) : ∀ (fu : Nat) (M : Mm) (x2 : Int) (t : Nat) (w2 : Int) (N : Mm), l_Co_passSurplus_64 E x1 fu M x2 = some (t, w2, N) → (t = 1 → ∀ (H : Heap) (locs : List Loc) (ls : Array Slot), va_P z.1 classes (wv z ad E N) H → va_D A (wv z ad E N) → va_S A s.heap H locs → lv_has ls 3 [] → W p l e (rmK 5 136 0 0) s m args below meth c H locs 0 0 Q (F0 m 103 ls [])) → ∀ (H : Heap) (locs : List Loc) (ls : Array Slot), va_P z.1 classes (wv z ad E M) H → va_D A (wv z ad E M) → va_S A s.heap H locs → lv_has ls 3 [(0, .ref (ad 179)), (1, .int (oI x1)), (2, .int (oI x2))] → W p l e (rmK 5 136 0 0) s m args below meth c H locs 0 0 Q (F0 m 64 ls []) := by
  intro fu
  induction fu with
  | zero =>
    intro M x2 t w2 N h
    have h : (none : Option (Nat × Int × Mm)) = some _ := h
    cases h
  | succ fu ih =>
    intro M x2 t w2 N h k1 H locs ls hP hD hS hl
    obtain ⟨⟨t0, w20, N9⟩, g0, h⟩ := bd_e h
    refine b_Co_passSurplus_64b l z ad E M x1 x2 t0 w20 N9 hx hb hml hts hown hlocks hA hG hZ hL g0 (fun e0 => ?_) (fun e0 => ?_) H locs ls hP hD hS hl
    · subst e0
      have h := ite_t rfl h
      exact ih N9 w20 t w2 N h k1
    · subst e0
      have h := ite_f (by decide) h
      obtain ⟨rfl, rfl, rfl⟩ := in3 h
      exact k1 rfl
set_option maxRecDepth 100000 in
set_option maxHeartbeats 4000000 in
theorem s_Co_passSurplus (l : Launch) (z : Zz) (ad : Nat → Nat) (E : Ev) (M : Mm) (x1 : Int) (N : Mm) (hL : Lay E) (h : f_Co_passSurplus E M x1 = some N) : CT l z ⟨"Ballothall$Counting", "passSurplus", "(I)V"⟩ prog_5_method_15_code 3 none [.ref (ad 179), .int (oI x1)] (wv z ad E M) 5 136 0 0 (fun _ => none) (fun _ => (wv z ad E N)) := by
  refine CT.of (own := "Ballothall$Counting") (by decide +kernel) (Nat.le_of_ble_eq_true rfl) rfl (fun p e s m below meth c A ls hx hb hml hr hts hown hlocks hin hA hG hZ hP hD hS hl => ?_)
  have hl : lv_has ls 3 [(0, .ref (ad 179)), (1, .int (oI x1))] := hl
  have key : ∀ (H : Heap) (locs : List Loc) (args : Array Value), (∀ w ∈ WG, w.before args s = true) → va_P z.1 classes (wv z ad E M) H → va_S A s.heap H locs → W p l e (rmK 5 136 0 0) s m args below meth c H locs 0 0 (MQ below (QK z A (fun _ => none) (fun _ => (wv z ad E N))) args s 0 0 A) (F0 m 0 ls []) := by
    intro H locs args hts hP hS
    unfold f_Co_passSurplus at h
    refine lv_aload_n hx hb d_5_15_0 rfl (lv_at hl 0 rfl) ?_
    refine m_gr (j := 189) (C := "Ballothall$Counting") (T := TX3) (N := 15) (ci := 3) (k := 9) hx hb hts iX3 hown hG hP (yi_179 hL) (yt_179 hL) rfl (by decide) w_312 (fun _ h9 => h9) rfl rfl (yr_179_9 hL) d_5_15_1 ?_
    refine lv_aload_n hx hb d_5_15_4 rfl (lv_at hl 0 rfl) ?_
    refine m_gr (j := 182) (C := "Ballothall$Counting") (T := TX3) (N := 15) (ci := 3) (k := 5) hx hb hts iX3 hown hG hP (yi_179 hL) (yt_179 hL) rfl (by decide) w_308 (fun _ h9 => h9) rfl rfl (yr_179_5 hL) d_5_15_5 ?_
    refine lv_iload_n hx hb d_5_15_8 rfl (lv_at hl 1 rfl) ?_
    obtain ⟨ok100, h⟩ := ck_e h
    refine m_aa (k := (201 + 2 * x1.toNat)) (t := 5) (C := "Ballothall$Natural") hx hb hG hP (yi_182 hL) (yt_182 hL) rfl rfl ok100 (ya_182 hL (inb_lt ok100)) d_5_15_9 ?_
    obtain ⟨M101, g101, h⟩ := bd_e h
    refine kVN (As := [.ref (ad (201 + 2 * x1.toNat))]) (rest := []) (s_Na_copyFrom l z ad E M 189 (201 + 2 * x1.toNat) M101 hL g101) hx hb hml hown hts w_1175 n_1172 w_1174 w_s_8c9b61 w_9 md_68420c ⟨Nat.le_of_ble_eq_true rfl, Nat.le_of_ble_eq_true rfl⟩ hG hZ hP hD hS hA 189 (wv_o (ci := 8) (yi_189 hL) (yt_189 hL)) rfl rfl rfl hl.1 rfl (Nat.le_of_ble_eq_true rfl) d_5_15_10 ⟨Nat.le_of_ble_eq_true rfl, Nat.le_of_ble_eq_true rfl⟩ (fun _ H locs hP hD hS => ?_)
    have hP : va_P z.1 classes (wv z ad E M101) H := hP
    have hD : va_D A (wv z ad E M101) := hD
    refine W.eq (g2 := F0 m 13 ls []) rfl ?_
    refine lv_aload_n hx hb d_5_15_13 rfl (lv_at hl 0 rfl) ?_
    refine m_gr (j := 189) (C := "Ballothall$Counting") (T := TX3) (N := 15) (ci := 3) (k := 9) hx hb hts iX3 hown hG hP (yi_179 hL) (yt_179 hL) rfl (by decide) w_312 (fun _ h9 => h9) rfl rfl (yr_179_9 hL) d_5_15_14 ?_
    refine lv_aload_n hx hb d_5_15_17 rfl (lv_at hl 0 rfl) ?_
    refine m_gr (j := 187) (C := "Ballothall$Counting") (T := TX3) (N := 15) (ci := 3) (k := 8) hx hb hts iX3 hown hG hP (yi_179 hL) (yt_179 hL) rfl (by decide) w_311 (fun _ h9 => h9) rfl rfl (yr_179_8 hL) d_5_15_18 ?_
    obtain ⟨M102, g102, h⟩ := bd_e h
    refine kVN (As := [.ref (ad 187)]) (rest := []) (s_Na_subtract l z ad E M101 189 187 M102 hL g102) hx hb hml hown hts w_1191 n_1188 w_1190 w_s_eead96 w_9 md_1acac4 ⟨Nat.le_of_ble_eq_true rfl, Nat.le_of_ble_eq_true rfl⟩ hG hZ hP hD hS hA 189 (wv_o (ci := 8) (yi_189 hL) (yt_189 hL)) rfl rfl rfl hl.1 rfl (Nat.le_of_ble_eq_true rfl) d_5_15_21 ⟨Nat.le_of_ble_eq_true rfl, Nat.le_of_ble_eq_true rfl⟩ (fun _ H locs hP hD hS => ?_)
    have hP : va_P z.1 classes (wv z ad E M102) H := hP
    have hD : va_D A (wv z ad E M102) := hD
    refine W.eq (g2 := F0 m 24 ls []) rfl ?_
    refine lv_aload_n hx hb d_5_15_24 rfl (lv_at hl 0 rfl) ?_
    refine m_gr (j := 191) (C := "Ballothall$Counting") (T := TX3) (N := 15) (ci := 3) (k := 10) hx hb hts iX3 hown hG hP (yi_179 hL) (yt_179 hL) rfl (by decide) w_314 (fun _ h9 => h9) rfl rfl (yr_179_10 hL) d_5_15_25 ?_
    refine lv_aload_n hx hb d_5_15_28 rfl (lv_at hl 0 rfl) ?_
    refine m_gr (j := 182) (C := "Ballothall$Counting") (T := TX3) (N := 15) (ci := 3) (k := 5) hx hb hts iX3 hown hG hP (yi_179 hL) (yt_179 hL) rfl (by decide) w_308 (fun _ h9 => h9) rfl rfl (yr_179_5 hL) d_5_15_29 ?_
    refine lv_iload_n hx hb d_5_15_32 rfl (lv_at hl 1 rfl) ?_
    refine m_aa (k := (201 + 2 * x1.toNat)) (t := 5) (C := "Ballothall$Natural") hx hb hG hP (yi_182 hL) (yt_182 hL) rfl rfl ok100 (ya_182 hL (inb_lt ok100)) d_5_15_33 ?_
    obtain ⟨M103, g103, h⟩ := bd_e h
    refine kVN (As := [.ref (ad (201 + 2 * x1.toNat))]) (rest := []) (s_Na_copyFrom l z ad E M102 191 (201 + 2 * x1.toNat) M103 hL g103) hx hb hml hown hts w_1175 n_1172 w_1174 w_s_8c9b61 w_9 md_68420c ⟨Nat.le_of_ble_eq_true rfl, Nat.le_of_ble_eq_true rfl⟩ hG hZ hP hD hS hA 191 (wv_o (ci := 8) (yi_191 hL) (yt_191 hL)) rfl rfl rfl hl.1 rfl (Nat.le_of_ble_eq_true rfl) d_5_15_34 ⟨Nat.le_of_ble_eq_true rfl, Nat.le_of_ble_eq_true rfl⟩ (fun _ H locs hP hD hS => ?_)
    have hP : va_P z.1 classes (wv z ad E M103) H := hP
    have hD : va_D A (wv z ad E M103) := hD
    refine W.eq (g2 := F0 m 37 ls []) rfl ?_
    refine lv_aload_n hx hb d_5_15_37 rfl (lv_at hl 0 rfl) ?_
    obtain ⟨M104, g104, h⟩ := bd_e h
    refine kV (As := []) (rest := []) (s_Co_reduce l z ad E M103 M104 hL g104) hx hb hml hown hts w_1195 w_1192 w_1194 w_s_393b57 w_8 md_3faff7 ⟨Nat.le_of_ble_eq_true rfl, Nat.le_of_ble_eq_true rfl⟩ hG hZ hP hD hS hA 179 (wv_o (ci := 3) (yi_179 hL) (yt_179 hL)) rfl rfl rfl hl.1 rfl (Nat.le_of_ble_eq_true rfl) d_5_15_38 ⟨Nat.le_of_ble_eq_true rfl, Nat.le_of_ble_eq_true rfl⟩ (fun _ H locs hP hD hS => ?_)
    have hP : va_P z.1 classes (wv z ad E M104) H := hP
    have hD : va_D A (wv z ad E M104) := hD
    refine W.eq (g2 := F0 m 41 ls []) rfl ?_
    refine lv_aload_n hx hb d_5_15_41 rfl (lv_at hl 0 rfl) ?_
    refine m_gr (j := 182) (C := "Ballothall$Counting") (T := TX3) (N := 15) (ci := 3) (k := 5) hx hb hts iX3 hown hG hP (yi_179 hL) (yt_179 hL) rfl (by decide) w_308 (fun _ h9 => h9) rfl rfl (yr_179_5 hL) d_5_15_42 ?_
    refine lv_iload_n hx hb d_5_15_45 rfl (lv_at hl 1 rfl) ?_
    refine m_aa (k := (201 + 2 * x1.toNat)) (t := 5) (C := "Ballothall$Natural") hx hb hG hP (yi_182 hL) (yt_182 hL) rfl rfl ok100 (ya_182 hL (inb_lt ok100)) d_5_15_46 ?_
    refine lv_aload_n hx hb d_5_15_47 rfl (lv_at hl 0 rfl) ?_
    refine m_gr (j := 187) (C := "Ballothall$Counting") (T := TX3) (N := 15) (ci := 3) (k := 8) hx hb hts iX3 hown hG hP (yi_179 hL) (yt_179 hL) rfl (by decide) w_311 (fun _ h9 => h9) rfl rfl (yr_179_8 hL) d_5_15_48 ?_
    obtain ⟨M105, g105, h⟩ := bd_e h
    refine kVN (As := [.ref (ad 187)]) (rest := []) (s_Na_copyFrom l z ad E M104 (201 + 2 * x1.toNat) 187 M105 hL g105) hx hb hml hown hts w_1175 n_1172 w_1174 w_s_8c9b61 w_9 md_68420c ⟨Nat.le_of_ble_eq_true rfl, Nat.le_of_ble_eq_true rfl⟩ hG hZ hP hD hS hA (201 + 2 * x1.toNat) (wv_o (ci := 8) (isNa_i (yg_182 hL ok100)) (isNa_T (yg_182 hL ok100))) rfl rfl rfl hl.1 rfl (Nat.le_of_ble_eq_true rfl) d_5_15_51 ⟨Nat.le_of_ble_eq_true rfl, Nat.le_of_ble_eq_true rfl⟩ (fun _ H locs hP hD hS => ?_)
    have hP : va_P z.1 classes (wv z ad E M105) H := hP
    have hD : va_D A (wv z ad E M105) := hD
    refine W.eq (g2 := F0 m 54 ls []) rfl ?_
    refine lv_aload_n hx hb d_5_15_54 rfl (lv_at hl 0 rfl) ?_
    refine lv_aload_n hx hb d_5_15_55 rfl (lv_at hl 0 rfl) ?_
    refine m_gr (j := 191) (C := "Ballothall$Counting") (T := TX3) (N := 15) (ci := 3) (k := 10) hx hb hts iX3 hown hG hP (yi_179 hL) (yt_179 hL) rfl (by decide) w_314 (fun _ h9 => h9) rfl rfl (yr_179_10 hL) d_5_15_56 ?_
    obtain ⟨M106, g106, h⟩ := bd_e h
    refine kV (As := [.ref (ad 191)]) (rest := []) (s_Co_multiplyAll l z ad E M105 191 M106 hL g106) hx hb hml hown hts w_1222 w_1219 w_1221 w_s_69df24 w_8 md_65df08 ⟨Nat.le_of_ble_eq_true rfl, Nat.le_of_ble_eq_true rfl⟩ hG hZ hP hD hS hA 179 (wv_o (ci := 3) (yi_179 hL) (yt_179 hL)) rfl rfl rfl hl.1 rfl (Nat.le_of_ble_eq_true rfl) d_5_15_59 ⟨Nat.le_of_ble_eq_true rfl, Nat.le_of_ble_eq_true rfl⟩ (fun _ H locs hP hD hS => ?_)
    have hP : va_P z.1 classes (wv z ad E M106) H := hP
    have hD : va_D A (wv z ad E M106) := hD
    refine W.eq (g2 := F0 m 62 ls []) rfl ?_
    refine lv_iconst (v := oI 0) hx hb d_5_15_62 (by decide +kernel) ?_
    refine lv_istore_n (lv' := [(2, .int (oI 0)), (0, .ref (ad 179)), (1, .int (oI x1))]) hx hb d_5_15_63 rfl hl (by decide) rfl (fun ls hl => ?_)
    obtain ⟨⟨t112, v112_2, M112⟩, g112, h⟩ := bd_e h
    obtain ⟨ok112, h⟩ := ck_e h
    refine s_Co_passSurplus_64 l z ad E x1 hx hb hml hts hown hlocks hA hG hZ hL FU M106 0 t112 v112_2 M112 g112 (fun e112 H locs ls hP hD hS hl => ?_) H locs ls hP hD hS (lv_sub hl [1, 2, 0] rfl)
    obtain rfl := in1 h
    exact W.vret hx hb hr (fun t ht hW => qkA hP hD hS (fun k => k) rfl rfl ht) hS.2.2 d_5_15_103
  exact key _ _ _ hts hP hS
set_option maxRecDepth 100000 in
set_option maxHeartbeats 4000000 in
theorem b_Co_holdCount_j119 (l : Launch) (z : Zz) (E0 : Ev) (ad0 : Nat → Nat) (ad : Nat → Nat) (E : Ev) (M : Mm) (x1 : Int) (q2 : Nat) (x3 : Int) (t : Nat) (w3 : Int) (F : Ev) (N : Mm) {Q : State → Prop} {p : Program} {e : Env} {s : State} {m : MethodId} {below : List Frame} {meth : Method} {c : Code} {A : Nat → Prop} {args : Array Value} (hx : p.tables.exec = Jvm.exec) (hb : c.code = prog_5_method_5_code) (hml : c.maxLocals = 6) (hts : ∀ w ∈ WG, w.before args s = true) (hown : s.vm.findClass "Ballothall$Counting" = some m.cls) (hlocks : meth.locks = false) (hA : ∀ q, s.heap.size ≤ q → A q) (hG : KG z s) (hZ : FZ z A s) (mc ms c0 s0 c1 s1 : Nat) (hc : c0 + 0 ≤ c1) (hs : s0 + 0 ≤ s1) (hm : c1 ≤ mc) (hm2 : s1 ≤ ms) (hag0 : ∀ i, i < nE E0 → ad i = ad0 i) (hE0 : nE E0 ≤ nE E) (h : Co_holdCount_j119 E M x1 q2 x3 = some (t, w3, F, N)) (k0 : ∀ (ad1 : Nat → Nat), (∀ i, i < nE E0 → ad1 i = ad0 i) → nE E0 ≤ nE F → t = 0 → ∀ (H : Heap) (locs : List Loc) (ls : Array Slot), va_P z.1 classes (wv z ad1 F N) H → va_D A (wv z ad1 F N) → va_S A s.heap H locs → lv_has ls 6 [(0, .ref (ad1 179)), (1, .int (oI x1)), (2, .ref (ad1 q2)), (3, .int (oI w3))] → W p l e (rmK 6 158 mc ms) s m args below meth c H locs c1 s1 Q (F0 m 64 ls [])) (k1 : ∀ (ad1 : Nat → Nat), (∀ i, i < nE E0 → ad1 i = ad0 i) → nE E0 ≤ nE F → t = 1 → ∀ (H : Heap) (locs : List Loc) (ls : Array Slot), va_P z.1 classes (wv z ad1 F N) H → va_D A (wv z ad1 F N) → va_S A s.heap H locs → lv_has ls 6 [(2, .ref (ad1 q2))] → W p l e (rmK 6 158 mc ms) s m args below meth c H locs c1 s1 Q (F0 m 130 ls [])) : ∀ (H : Heap) (locs : List Loc) (ls : Array Slot), va_P z.1 classes (wv z ad E M) H → va_D A (wv z ad E M) → va_S A s.heap H locs → lv_has ls 6 [(0, .ref (ad 179)), (1, .int (oI x1)), (2, .ref (ad q2)), (3, .int (oI x3))] → W p l e (rmK 6 158 mc ms) s m args below meth c H locs c0 s0 Q (F0 m 119 ls []) := by
  intro H locs ls hP hD hS hl
  unfold Co_holdCount_j119 at h
  obtain ⟨hL, h⟩ := ck_e h
  obtain ⟨h_q2, h⟩ := ck_e h
  refine lv_aload_n hx hb d_5_5_119 rfl (lv_at hl 0 rfl) ?_
  refine lv_aload_n hx hb d_5_5_120 rfl (lv_at hl 2 rfl) ?_
  obtain ⟨M117, g117, h⟩ := bd_e h
  refine kV (As := [.ref (ad q2)]) (rest := []) (s_Co_keepMoment l z ad E M q2 M117 hL g117) hx hb hml hown hts w_1147 w_1144 w_1146 w_s_568b18 w_8 md_2d1de3 ⟨Nat.le_of_ble_eq_true rfl, Nat.le_of_ble_eq_true rfl⟩ hG hZ hP hD hS hA 179 (wv_o (ci := 3) (yi_179 hL) (yt_179 hL)) rfl rfl rfl hl.1 rfl (Nat.le_of_ble_eq_true rfl) d_5_5_121 ⟨(show _ ≤ mc by omega), (show _ ≤ ms by omega)⟩ (fun _ H locs hP hD hS => ?_)
  have hP : va_P z.1 classes (wv z ad E M117) H := hP
  have hD : va_D A (wv z ad E M117) := hD
  refine W.eq (g2 := F0 m 124 ls []) rfl ?_
  refine lv_iinc (v := oI (x3 + 1)) (lv' := [(3, .int (oI (x3 + 1))), (0, .ref (ad 179)), (1, .int (oI x1)), (2, .ref (ad q2))]) hx hb d_5_5_124 hl (k := 3) rfl (oI_add x3 1) (by decide) rfl (fun ls hl => ?_)
  refine lv_goto (tgt := 64) hx hb d_5_5_127 (by decide) ?_
  obtain ⟨rfl, rfl, rfl, rfl⟩ := in4 h
  exact W.wide (by omega) (by omega) (k0 ad hag0 hE0 rfl H locs ls hP hD hS (lv_sub hl [1, 2, 3, 0] rfl))
set_option maxRecDepth 100000 in
set_option maxHeartbeats 4000000 in
theorem b_Co_holdCount_64b (l : Launch) (z : Zz) (E0 : Ev) (ad0 : Nat → Nat) (ad : Nat → Nat) (E : Ev) (M : Mm) (x1 : Int) (q2 : Nat) (x3 : Int) (t : Nat) (w3 : Int) (F : Ev) (N : Mm) {Q : State → Prop} {p : Program} {e : Env} {s : State} {m : MethodId} {below : List Frame} {meth : Method} {c : Code} {A : Nat → Prop} {args : Array Value} (hx : p.tables.exec = Jvm.exec) (hb : c.code = prog_5_method_5_code) (hml : c.maxLocals = 6) (hts : ∀ w ∈ WG, w.before args s = true) (hown : s.vm.findClass "Ballothall$Counting" = some m.cls) (hlocks : meth.locks = false) (hA : ∀ q, s.heap.size ≤ q → A q) (hG : KG z s) (hZ : FZ z A s) (mc ms c0 s0 c1 s1 : Nat) (hc : c0 + 0 ≤ c1) (hs : s0 + 0 ≤ s1) (hm : c1 ≤ mc) (hm2 : s1 ≤ ms) (hag0 : ∀ i, i < nE E0 → ad i = ad0 i) (hE0 : nE E0 ≤ nE E) (h : Co_holdCount_64b E M x1 q2 x3 = some (t, w3, F, N)) (k0 : ∀ (ad1 : Nat → Nat), (∀ i, i < nE E0 → ad1 i = ad0 i) → nE E0 ≤ nE F → t = 0 → ∀ (H : Heap) (locs : List Loc) (ls : Array Slot), va_P z.1 classes (wv z ad1 F N) H → va_D A (wv z ad1 F N) → va_S A s.heap H locs → lv_has ls 6 [(0, .ref (ad1 179)), (1, .int (oI x1)), (2, .ref (ad1 q2)), (3, .int (oI w3))] → W p l e (rmK 6 158 mc ms) s m args below meth c H locs c1 s1 Q (F0 m 64 ls [])) (k1 : ∀ (ad1 : Nat → Nat), (∀ i, i < nE E0 → ad1 i = ad0 i) → nE E0 ≤ nE F → t = 1 → ∀ (H : Heap) (locs : List Loc) (ls : Array Slot), va_P z.1 classes (wv z ad1 F N) H → va_D A (wv z ad1 F N) → va_S A s.heap H locs → lv_has ls 6 [(2, .ref (ad1 q2))] → W p l e (rmK 6 158 mc ms) s m args below meth c H locs c1 s1 Q (F0 m 130 ls [])) : ∀ (H : Heap) (locs : List Loc) (ls : Array Slot), va_P z.1 classes (wv z ad E M) H → va_D A (wv z ad E M) → va_S A s.heap H locs → lv_has ls 6 [(0, .ref (ad 179)), (1, .int (oI x1)), (2, .ref (ad q2)), (3, .int (oI x3))] → W p l e (rmK 6 158 mc ms) s m args below meth c H locs c0 s0 Q (F0 m 64 ls []) := by
  intro H locs ls hP hD hS hl
  unfold Co_holdCount_64b at h
  obtain ⟨hL, h⟩ := ck_e h
  obtain ⟨h_q2, h⟩ := ck_e h
  refine lv_iload_n hx hb d_5_5_64 rfl (lv_at hl 3 rfl) ?_
  refine lv_aload_n hx hb d_5_5_65 rfl (lv_at hl 0 rfl) ?_
  refine m_gr (j := 2) (C := "Ballothall$Counting") (T := TX3) (N := 15) (ci := 3) (k := 0) hx hb hts iX3 hown hG hP (yi_179 hL) (yt_179 hL) rfl (by decide) w_303 (fun _ h9 => h9) rfl rfl (yr_179_0 hL) d_5_5_66 ?_
  refine m_giN (C := "Ballothall$BallotBox") (T := TX0) (N := 10) (ci := 0) (k := 2) hx hb hts iX0 hown hG hP (yi_2 hL) (yt_2 hL) rfl (by decide) n_55 rfl (fun _ h9 => h9) rfl rfl d_5_5_69 ?_
  obtain ⟨ok110, h⟩ := ck_e h
  obtain ⟨ok111, h⟩ := ck_e h
  refine lv_icmp_ge (tgt := 130) hx hb d_5_5_72 (by decide) (fun c9 => ?_) (fun c9 => ?_)
  · have h := ite_t ((oI_le (a := (M 2 2)) (b := x3) ok111 ok110).mp c9) h
    obtain ⟨rfl, rfl, rfl, rfl⟩ := in4 h
    exact W.wide (by omega) (by omega) (k1 ad hag0 hE0 rfl H locs ls hP hD hS (lv_sub hl [2] rfl))
  · have h := ite_f (fun q => c9 ((oI_le (a := (M 2 2)) (b := x3) ok111 ok110).mpr q)) h
    refine lv_iload_n hx hb d_5_5_75 rfl (lv_at hl 1 rfl) ?_
    refine lv_aload_n hx hb d_5_5_76 rfl (lv_at hl 2 rfl) ?_
    refine m_giN (C := "Ballothall$Count") (T := TX2) (N := 10) (ci := 2) (k := 4) hx hb hts iX2 hown hG hP (isCt_i h_q2) (isCt_T h_q2) rfl (by decide) n_1086 rfl (fun _ h9 => h9) rfl rfl d_5_5_77 ?_
    refine lv_isub hx hb d_5_5_80 ?_
    refine nrm (oI_sub _ _) ?_
    refine lv_istore (lv' := [(4, .int (oI (x1 - (M q2 4)))), (0, .ref (ad 179)), (1, .int (oI x1)), (2, .ref (ad q2)), (3, .int (oI x3))]) hx hb d_5_5_81 hl (by decide) rfl (fun ls hl => ?_)
    refine lv_iload hx hb d_5_5_83 (lv_at hl 0 rfl) ?_
    obtain ⟨ok112, h⟩ := ck_e h
    refine lv_if_le (tgt := 124) hx hb d_5_5_85 (by decide) (fun c9 => ?_) (fun c9 => ?_)
    · have h := ite_t ((oI_le0 ok112).mp c9) h
      refine lv_iinc (v := oI (x3 + 1)) (lv' := [(3, .int (oI (x3 + 1))), (4, .int (oI (x1 - (M q2 4)))), (0, .ref (ad 179)), (1, .int (oI x1)), (2, .ref (ad q2))]) hx hb d_5_5_124 hl (k := 4) rfl (oI_add x3 1) (by decide) rfl (fun ls hl => ?_)
      refine lv_goto (tgt := 64) hx hb d_5_5_127 (by decide) ?_
      obtain ⟨rfl, rfl, rfl, rfl⟩ := in4 h
      exact W.wide (by omega) (by omega) (k0 ad hag0 hE0 rfl H locs ls hP hD hS (lv_sub hl [2, 3, 4, 0] rfl))
    · have h := ite_f (fun q => c9 ((oI_le0 ok112).mpr q)) h
      refine lv_aload_n hx hb d_5_5_88 rfl (lv_at hl 1 rfl) ?_
      refine m_gi (C := "Ballothall$Counting") (T := TX3) (N := 15) (ci := 3) (k := 3) hx hb hts iX3 hown hG hP (yi_179 hL) (yt_179 hL) rfl (by decide) w_306 (fun _ h9 => h9) rfl rfl d_5_5_89 ?_
      obtain ⟨ok113, h⟩ := ck_e h
      refine lv_if_eq (tgt := 124) hx hb d_5_5_92 (by decide) (fun c9 => ?_) (fun c9 => ?_)
      · have h := ite_t ((oI_eq0 ok113).mp c9) h
        refine lv_iinc (v := oI (x3 + 1)) (lv' := [(3, .int (oI (x3 + 1))), (4, .int (oI (x1 - (M q2 4)))), (0, .ref (ad 179)), (1, .int (oI x1)), (2, .ref (ad q2))]) hx hb d_5_5_124 hl (k := 4) rfl (oI_add x3 1) (by decide) rfl (fun ls hl => ?_)
        refine lv_goto (tgt := 64) hx hb d_5_5_127 (by decide) ?_
        obtain ⟨rfl, rfl, rfl, rfl⟩ := in4 h
        exact W.wide (by omega) (by omega) (k0 ad hag0 hE0 rfl H locs ls hP hD hS (lv_sub hl [2, 3, 4, 0] rfl))
      · have h := ite_f (fun q => c9 ((oI_eq0 ok113).mpr q)) h
        refine lv_aload_n hx hb d_5_5_95 rfl (lv_at hl 1 rfl) ?_
        obtain ⟨r114, g114, h⟩ := bd_e h
        refine kV (As := []) (rest := []) (s_Co_greatestPile l z ad E M r114 hL g114) hx hb hml hown hts w_1155 w_1152 w_1154 w_s_5622d0 w_8 md_cb7d56 ⟨Nat.le_of_ble_eq_true rfl, Nat.le_of_ble_eq_true rfl⟩ hG hZ hP hD hS hA 179 (wv_o (ci := 3) (yi_179 hL) (yt_179 hL)) rfl rfl rfl hl.1 rfl (Nat.le_of_ble_eq_true rfl) d_5_5_96 ⟨(show _ ≤ mc by omega), (show _ ≤ ms by omega)⟩ (fun _ H locs hP hD hS => ?_)
        have hP : va_P z.1 classes (wv z ad E M) H := hP
        have hD : va_D A (wv z ad E M) := hD
        refine W.eq (g2 := F0 m 99 ls [.int (oI r114)]) rfl ?_
        refine lv_istore (lv' := [(5, .int (oI r114)), (4, .int (oI (x1 - (M q2 4)))), (0, .ref (ad 179)), (1, .int (oI x1)), (2, .ref (ad q2)), (3, .int (oI x3))]) hx hb d_5_5_99 hl (by decide) rfl (fun ls hl => ?_)
        refine lv_aload_n hx hb d_5_5_101 rfl (lv_at hl 2 rfl) ?_
        refine lv_aload_n hx hb d_5_5_102 rfl (lv_at hl 4 rfl) ?_
        refine lv_iload hx hb d_5_5_103 (lv_at hl 0 rfl) ?_
        refine lv_iload hx hb d_5_5_105 (lv_at hl 1 rfl) ?_
        obtain ⟨⟨r115, M115⟩, g115, h⟩ := bd_e h
        refine kV (As := [.ref (ad q2), .int (oI r114), .int (oI (x1 - (M q2 4)))]) (rest := []) (s_Co_takeStep l z ad E M q2 r114 (x1 - (M q2 4)) r115 M115 hL g115) hx hb hml hown hts w_1167 w_1164 w_1166 w_s_391181 w_8 md_7a7bfb ⟨Nat.le_of_ble_eq_true rfl, Nat.le_of_ble_eq_true rfl⟩ hG hZ hP hD hS hA 179 (wv_o (ci := 3) (yi_179 hL) (yt_179 hL)) rfl rfl rfl hl.1 rfl (Nat.le_of_ble_eq_true rfl) d_5_5_107 ⟨(show _ ≤ mc by omega), (show _ ≤ ms by omega)⟩ (fun _ H locs hP hD hS => ?_)
        have hP : va_P z.1 classes (wv z ad E M115) H := hP
        have hD : va_D A (wv z ad E M115) := hD
        refine W.eq (g2 := F0 m 110 ls [.int (oI r115)]) rfl ?_
        obtain ⟨ok116, h⟩ := ck_e h
        refine lv_if_eq (tgt := 119) hx hb d_5_5_110 (by decide) (fun c9 => ?_) (fun c9 => ?_)
        · have h := ite_t ((oI_eq0 ok116).mp c9) h
          exact b_Co_holdCount_j119 l z E0 ad0 ad E M115 x1 q2 x3 t w3 F N hx hb hml hts hown hlocks hA hG hZ mc ms _ _ c1 s1 (by omega) (by omega) hm hm2 hag0 hE0 h k0 k1 H locs ls hP hD hS (lv_sub hl [2, 3, 4, 5] rfl)
        · have h := ite_f (fun q => c9 ((oI_eq0 ok116).mpr q)) h
          refine lv_aload_n hx hb d_5_5_113 rfl (lv_at hl 2 rfl) ?_
          refine lv_iload hx hb d_5_5_114 (lv_at hl 0 rfl) ?_
          obtain ⟨M118, g118, h⟩ := bd_e h
          refine kV (As := [.int (oI r114)]) (rest := []) (s_Co_passSurplus l z ad E M115 r114 M118 hL g118) hx hb hml hown hts w_1187 w_1184 w_1186 w_s_e3f01b w_8 md_e55fb8 ⟨Nat.le_of_ble_eq_true rfl, Nat.le_of_ble_eq_true rfl⟩ hG hZ hP hD hS hA 179 (wv_o (ci := 3) (yi_179 hL) (yt_179 hL)) rfl rfl rfl hl.1 rfl (Nat.le_of_ble_eq_true rfl) d_5_5_116 ⟨(show _ ≤ mc by omega), (show _ ≤ ms by omega)⟩ (fun _ H locs hP hD hS => ?_)
          have hP : va_P z.1 classes (wv z ad E M118) H := hP
          have hD : va_D A (wv z ad E M118) := hD
          refine W.eq (g2 := F0 m 119 ls []) rfl ?_
          exact b_Co_holdCount_j119 l z E0 ad0 ad E M118 x1 q2 x3 t w3 F N hx hb hml hts hown hlocks hA hG hZ mc ms _ _ c1 s1 (by omega) (by omega) hm hm2 hag0 hE0 h k0 k1 H locs ls hP hD hS (lv_sub hl [2, 3, 4, 5] rfl)
set_option maxRecDepth 100000 in
set_option maxHeartbeats 4000000 in
theorem s_Co_holdCount_64 (l : Launch) (z : Zz) (E0 : Ev) (ad0 : Nat → Nat) (x1 : Int) (q2 : Nat) {Q : State → Prop} {p : Program} {e : Env} {s : State} {m : MethodId} {below : List Frame} {meth : Method} {c : Code} {A : Nat → Prop} {args : Array Value} (hx : p.tables.exec = Jvm.exec) (hb : c.code = prog_5_method_5_code) (hml : c.maxLocals = 6) (hts : ∀ w ∈ WG, w.before args s = true) (hown : s.vm.findClass "Ballothall$Counting" = some m.cls) (hlocks : meth.locks = false) (hA : ∀ q, s.heap.size ≤ q → A q) (hG : KG z s) (hZ : FZ z A s) (mc ms c1 s1 : Nat) (hm : c1 ≤ mc) (hm2 : s1 ≤ ms) : ∀ (fu c0 s0 : Nat) (ad : Nat → Nat) (E : Ev) (M : Mm) (x3 : Int) (t : Nat) (w3 : Int) (F : Ev) (N : Mm), c0 + fu * 0 ≤ c1 → s0 + fu * 0 ≤ s1 → (∀ i, i < nE E0 → ad i = ad0 i) → nE E0 ≤ nE E → l_Co_holdCount_64 x1 q2 fu E M x3 = some (t, w3, F, N) → (∀ (ad1 : Nat → Nat), (∀ i, i < nE E0 → ad1 i = ad0 i) → nE E0 ≤ nE F → t = 1 → ∀ (H : Heap) (locs : List Loc) (ls : Array Slot), va_P z.1 classes (wv z ad1 F N) H → va_D A (wv z ad1 F N) → va_S A s.heap H locs → lv_has ls 6 [(2, .ref (ad1 q2))] → W p l e (rmK 6 158 mc ms) s m args below meth c H locs c1 s1 Q (F0 m 130 ls [])) → ∀ (H : Heap) (locs : List Loc) (ls : Array Slot), va_P z.1 classes (wv z ad E M) H → va_D A (wv z ad E M) → va_S A s.heap H locs → lv_has ls 6 [(0, .ref (ad 179)), (1, .int (oI x1)), (2, .ref (ad q2)), (3, .int (oI x3))] → W p l e (rmK 6 158 mc ms) s m args below meth c H locs c0 s0 Q (F0 m 64 ls []) := by
  intro fu
  induction fu with
  | zero =>
    intro c0 s0 ad E M x3 t w3 F N hc hs hag0 hE0 h
    have h : (none : Option (Nat × Int × Ev × Mm)) = some _ := h
    cases h
  | succ fu ih =>
    intro c0 s0 ad E M x3 t w3 F N hc hs hag0 hE0 h k1 H locs ls hP hD hS hl
    obtain ⟨⟨t0, w30, F9, N9⟩, g0, h⟩ := bd_e h
    refine W.wide (Nat.le_refl _) (Nat.le_refl _) (b_Co_holdCount_64b l z E0 ad0 ad E M x1 q2 x3 t0 w30 F9 N9 hx hb hml hts hown hlocks hA hG hZ mc ms c0 s0 (c0 + 0) (s0 + 0) (Nat.le_refl _) (Nat.le_refl _) (by omega) (by omega) hag0 hE0 g0 (fun ad1 ha he e0 => ?_) (fun ad1 ha he e0 => ?_) H locs ls hP hD hS hl)
    · subst e0
      have h := ite_t rfl h
      exact ih (c0 + 0) (s0 + 0) ad1 F9 N9 w30 t w3 F N (by omega) (by omega) ha he h k1
    · subst e0
      have h := ite_f (by decide) h
      obtain ⟨rfl, rfl, rfl, rfl⟩ := in4 h
      exact fun H locs ls hP hD hS hl => W.wide (by omega) (by omega) (k1 ad1 ha he rfl H locs ls hP hD hS hl)
set_option maxRecDepth 100000 in
set_option maxHeartbeats 4000000 in
theorem b_Co_holdCount_j41 (l : Launch) (z : Zz) (E0 : Ev) (ad0 : Nat → Nat) (ad : Nat → Nat) (E : Ev) (M : Mm) (x1 : Int) (r : Int) (F : Ev) (N : Mm) {p : Program} {e : Env} {s : State} {m : MethodId} {below : List Frame} {meth : Method} {c : Code} {A : Nat → Prop} {args : Array Value} (hx : p.tables.exec = Jvm.exec) (hb : c.code = prog_5_method_5_code) (hml : c.maxLocals = 6) (hts : ∀ w ∈ WG, w.before args s = true) (hown : s.vm.findClass "Ballothall$Counting" = some m.cls) (hlocks : meth.locks = false) (hA : ∀ q, s.heap.size ≤ q → A q) (hG : KG z s) (hZ : FZ z A s) (hr : meth.sig.returnType = (some .int)) (mc ms c0 s0 c1 s1 : Nat) (hc : c0 + 2048 ≤ c1) (hs : s0 + 15360 ≤ s1) (hm : c1 ≤ mc) (hm2 : s1 ≤ ms) (hag0 : ∀ i, i < nE E0 → ad i = ad0 i) (hE0 : nE E0 ≤ nE E) (h : Co_holdCount_j41 E M x1 = some (r, F, N)) : ∀ (H : Heap) (locs : List Loc) (ls : Array Slot), va_P z.1 classes (wv z ad E M) H → va_D A (wv z ad E M) → va_S A s.heap H locs → lv_has ls 6 [(0, .ref (ad 179)), (1, .int (oI x1))] → W p l e (rmK 6 158 mc ms) s m args below meth c H locs c0 s0 (MQ below (QK z A (fun u => some (.int (oI r))) (fun u => wv z (adj E0 ad0 u) F N)) args s c1 s1 A) (F0 m 41 ls []) := by
  intro H locs ls hP hD hS hl
  unfold Co_holdCount_j41 at h
  obtain ⟨hL, h⟩ := ck_e h
  refine lv_aload_n hx hb d_5_5_41 rfl (lv_at hl 0 rfl) ?_
  refine m_gr (j := 180) (C := "Ballothall$Counting") (T := TX3) (N := 15) (ci := 3) (k := 1) hx hb hts iX3 hown hG hP (yi_179 hL) (yt_179 hL) rfl (by decide) w_304 (fun _ h9 => h9) rfl rfl (yr_179_1 hL) d_5_5_42 ?_
  refine lv_aload_n hx hb d_5_5_45 rfl (lv_at hl 0 rfl) ?_
  refine m_gi (C := "Ballothall$Counting") (T := TX3) (N := 15) (ci := 3) (k := 2) hx hb hts iX3 hown hG hP (yi_179 hL) (yt_179 hL) rfl (by decide) w_305 (fun _ h9 => h9) rfl rfl d_5_5_46 ?_
  obtain ⟨ok106, h⟩ := ck_e h
  obtain ⟨p107, g107, h⟩ := bd_e h
  obtain ⟨h_p107, h⟩ := ck_e h
  refine m_aa (k := p107) (t := 4) (C := "Ballothall$Count") hx hb hG hP (yi_180 hL) (yt_180 hL) rfl rfl ok106 g107 d_5_5_49 ?_
  refine lv_astore_n (lv' := [(2, .ref (ad p107)), (0, .ref (ad 179)), (1, .int (oI x1))]) hx hb d_5_5_50 rfl hl (by decide) rfl (fun ls hl => ?_)
  refine lv_aload_n hx hb d_5_5_51 rfl (lv_at hl 1 rfl) ?_
  refine lv_aload_n hx hb d_5_5_52 rfl (lv_at hl 0 rfl) ?_
  refine lv_iload_n hx hb d_5_5_53 rfl (lv_at hl 2 rfl) ?_
  obtain ⟨⟨E108, M108⟩, g108, h⟩ := bd_e h
  obtain ⟨hgw108, h⟩ := ck_e h
  refine kV (As := [.ref (ad p107), .int (oI x1)]) (rest := []) (s_Co_start l z ad E M p107 x1 E108 M108 g108) hx hb hml hown hts w_1124 w_1121 w_1123 w_s_f62a93 w_8 md_e09a59 ⟨Nat.le_of_ble_eq_true rfl, Nat.le_of_ble_eq_true rfl⟩ hG hZ hP hD hS hA 179 (wv_o (ci := 3) (yi_179 hL) (yt_179 hL)) rfl rfl rfl hl.1 rfl (Nat.le_of_ble_eq_true rfl) d_5_5_54 ⟨(show _ ≤ mc by omega), (show _ ≤ ms by omega)⟩ (fun u108 H locs hP hD hS => ?_)
  obtain ⟨ad108, had108⟩ : ∃ q, q = adj E ad u108 := ⟨_, rfl⟩
  have hP : va_P z.1 classes (wv z ad108 E108 M108) H := by rw [had108]; exact hP
  have hD : va_D A (wv z ad108 E108 M108) := by rw [had108]; exact hD
  have hag108 : ∀ i, i < nE E → ad108 i = ad i := fun i hi => by rw [had108]; exact adj_lt hi
  have hl : lv_has ls 6 [(2, .ref (ad108 p107)), (0, .ref (ad108 179)), (1, .int (oI x1))] := by rw [hag108 p107 (isCt_i h_p107), hag108 179 (yi_179 hL)]; exact hl
  refine W.eq (g2 := F0 m 57 ls []) (by rfl) ?_
  have hag0 : ∀ i, i < nE E0 → ad108 i = ad0 i := fun i hi => (hag108 i (Nat.lt_of_lt_of_le hi hE0)).trans (hag0 i hi)
  have hE0 : nE E0 ≤ nE E108 := Nat.le_trans hE0 hgw108.1
  obtain ⟨hL, h⟩ := ck_e h
  obtain ⟨h_p107, h⟩ := ck_e h
  refine lv_aload_n hx hb d_5_5_57 rfl (lv_at hl 1 rfl) ?_
  refine lv_aload_n hx hb d_5_5_58 rfl (lv_at hl 0 rfl) ?_
  obtain ⟨M109, g109, h⟩ := bd_e h
  refine kV (As := [.ref (ad108 p107)]) (rest := []) (s_Co_keepMoment l z ad108 E108 M108 p107 M109 hL g109) hx hb hml hown hts w_1147 w_1144 w_1146 w_s_568b18 w_8 md_2d1de3 ⟨Nat.le_of_ble_eq_true rfl, Nat.le_of_ble_eq_true rfl⟩ hG hZ hP hD hS hA 179 (wv_o (ci := 3) (yi_179 hL) (yt_179 hL)) rfl rfl rfl hl.1 rfl (Nat.le_of_ble_eq_true rfl) d_5_5_59 ⟨(show _ ≤ mc by omega), (show _ ≤ ms by omega)⟩ (fun _ H locs hP hD hS => ?_)
  have hP : va_P z.1 classes (wv z ad108 E108 M109) H := hP
  have hD : va_D A (wv z ad108 E108 M109) := hD
  refine W.eq (g2 := F0 m 62 ls []) rfl ?_
  refine lv_iconst (v := oI 0) hx hb d_5_5_62 (by decide +kernel) ?_
  refine lv_istore_n (lv' := [(3, .int (oI 0)), (2, .ref (ad108 p107)), (0, .ref (ad108 179)), (1, .int (oI x1))]) hx hb d_5_5_63 rfl hl (by decide) rfl (fun ls hl => ?_)
  obtain ⟨⟨t119, v119_3, E119, M119⟩, g119, h⟩ := bd_e h
  obtain ⟨hgw119, h⟩ := ck_e h
  obtain ⟨hL119, h⟩ := ck_e h
  obtain ⟨ok119, h⟩ := ck_e h
  refine s_Co_holdCount_64 l z E108 ad108 x1 p107 hx hb hml hts hown hlocks hA hG hZ mc ms (c0 + 2048) (s0 + 15360) (by omega) (by omega) 5000 _ _ ad108 E108 M109 0 t119 v119_3 E119 M119 (by omega) (by omega) (fun _ _ => rfl) (Nat.le_refl _) g119 (fun ad119 hag119 hEE119 e119 H locs ls hP hD hS hl => ?_) H locs ls hP hD hS (lv_sub hl [2, 3, 1, 0] rfl)
  have hag0 : ∀ i, i < nE E0 → ad119 i = ad0 i := fun i hi => (hag119 i (Nat.lt_of_lt_of_le hi hE0)).trans (hag0 i hi)
  have hE0 : nE E0 ≤ nE E119 := Nat.le_trans hE0 hgw119.1
  have hL : Lay E119 := hL119
  obtain ⟨h_p107, h⟩ := ck_e h
  refine lv_aload_n hx hb d_5_5_130 rfl (lv_at hl 0 rfl) ?_
  refine m_giN (C := "Ballothall$Count") (T := TX2) (N := 10) (ci := 2) (k := 4) hx hb hts iX2 hown hG hP (isCt_i h_p107) (isCt_T h_p107) rfl (by decide) n_1086 rfl (fun _ h9 => h9) rfl rfl d_5_5_131 ?_
  refine W.wide (k := c1) (n := s1) (by omega) (by omega) ?_
  obtain ⟨rfl, rfl, rfl⟩ := in3 h
  exact W.iret hx hb hr (fun t ht hW => qkA hP hD hS ad119 (congrArg (fun q => wv z q E119 M119) (adj_self hag0).symm) rfl ht) hS.2.2 d_5_5_134
set_option maxRecDepth 100000 in
set_option maxHeartbeats 4000000 in
theorem s_Co_holdCount (l : Launch) (z : Zz) (ad : Nat → Nat) (E : Ev) (M : Mm) (x1 : Int) (r : Int) (F : Ev) (N : Mm) (h : f_Co_holdCount E M x1 = some (r, F, N)) : CT l z ⟨"Ballothall$Counting", "holdCount", "(I)I"⟩ prog_5_method_5_code 6 (some .int) [.ref (ad 179), .int (oI x1)] (wv z ad E M) 6 158 2053 16581 (fun u => some (.int (oI r))) (fun u => wv z (adj E ad u) F N) := by
  refine CT.of (own := "Ballothall$Counting") (by decide +kernel) (Nat.le_of_ble_eq_true rfl) rfl (fun p e s m below meth c A ls hx hb hml hr hts hown hlocks hin hA hG hZ hP hD hS hl => ?_)
  have hl : lv_has ls 6 [(0, .ref (ad 179)), (1, .int (oI x1))] := hl
  have key : ∀ (E0 : Ev) (ad0 : Nat → Nat) (mc ms c0 s0 c1 s1 : Nat) (H : Heap) (locs : List Loc) (args : Array Value), c0 + 2053 ≤ c1 → s0 + 16581 ≤ s1 → c1 ≤ mc → s1 ≤ ms → (∀ i, i < nE E0 → ad i = ad0 i) → nE E0 ≤ nE E → (∀ w ∈ WG, w.before args s = true) → va_P z.1 classes (wv z ad E M) H → va_S A s.heap H locs → W p l e (rmK 6 158 mc ms) s m args below meth c H locs c0 s0 (MQ below (QK z A (fun u => some (.int (oI r))) (fun u => wv z (adj E0 ad0 u) F N)) args s c1 s1 A) (F0 m 0 ls []) := by
    intro E0 ad0 mc ms c0 s0 c1 s1 H locs args hc hs hm hm2 hag0 hE0 hts hP hS
    unfold f_Co_holdCount at h
    obtain ⟨hL, h⟩ := ck_e h
    refine lv_aload_n hx hb d_5_5_0 rfl (lv_at hl 0 rfl) ?_
    refine lv_aload_n hx hb d_5_5_1 rfl (lv_at hl 0 rfl) ?_
    refine m_gi (C := "Ballothall$Counting") (T := TX3) (N := 15) (ci := 3) (k := 2) hx hb hts iX3 hown hG hP (yi_179 hL) (yt_179 hL) rfl (by decide) w_305 (fun _ h9 => h9) rfl rfl d_5_5_2 ?_
    refine lv_iconst (v := oI 1) hx hb d_5_5_5 (by decide +kernel) ?_
    refine lv_iadd hx hb d_5_5_6 ?_
    refine nrm (oI_add _ _) ?_
    refine lv_bipush (v := oI 21) hx hb d_5_5_7 (by decide +kernel) ?_
    obtain ⟨ok100, h⟩ := ck_e h
    refine lv_irem hx hb d_5_5_9 (oI_nz (show psI 21 by decide).1 (show psI 21 by decide).2) ?_
    refine nrm (oI_rem (a := ((M 179 2) + 1)) (b := (21 : Int)) ok100.1 ok100.2 (show psI 21 by decide).1 (show psI 21 by decide).2) ?_
    refine m_pi (C := "Ballothall$Counting") (T := TX3) (N := 15) (ci := 3) (k := 2) (ty := .int) hx hb hts iX3 hown hG hP hD hS (yi_179 hL) (yt_179 hL) rfl (by decide) w_305 (fun _ h9 => h9) rfl rfl tyX3_ok nmX3 rfl (by decide +kernel) rfl rfl d_5_5_10 (fun H locs hP hD hS => ?_)
    have hP : va_P z.1 classes (wv z ad E (u2 M 179 2 (((M 179 2) + 1) % 21))) H := hP
    have hD : va_D A (wv z ad E (u2 M 179 2 (((M 179 2) + 1) % 21))) := hD
    refine lv_aload_n hx hb d_5_5_13 rfl (lv_at hl 0 rfl) ?_
    refine m_gr (j := 180) (C := "Ballothall$Counting") (T := TX3) (N := 15) (ci := 3) (k := 1) hx hb hts iX3 hown hG hP (yi_179 hL) (yt_179 hL) rfl (by decide) w_304 (fun _ h9 => h9) rfl rfl (yr_179_1 hL) d_5_5_14 ?_
    refine lv_aload_n hx hb d_5_5_17 rfl (lv_at hl 0 rfl) ?_
    refine m_gi (C := "Ballothall$Counting") (T := TX3) (N := 15) (ci := 3) (k := 2) hx hb hts iX3 hown hG hP (yi_179 hL) (yt_179 hL) rfl (by decide) w_305 (fun _ h9 => h9) rfl rfl d_5_5_18 ?_
    obtain ⟨ok101, h⟩ := ck_e h
    refine m_aO (t := 4) (C := "Ballothall$Count") hx hb hG hP (yi_180 hL) (yt_180 hL) rfl rfl ok101 d_5_5_21 ?_
    cases hO102 : (rE E 180 ((u2 M 179 2 (((M 179 2) + 1) % 21)) 179 2).toNat) with
    | none =>
      have h := mO_n hO102 h
      refine W.eq (g2 := F0 m 22 ls [.null]) rfl ?_
      refine lv_ifnonnullN hx hb d_5_5_22 ?_
      refine lv_aload_n hx hb d_5_5_25 rfl (lv_at hl 0 rfl) ?_
      refine m_gr (j := 180) (C := "Ballothall$Counting") (T := TX3) (N := 15) (ci := 3) (k := 1) hx hb hts iX3 hown hG hP (yi_179 hL) (yt_179 hL) rfl (by decide) w_304 (fun _ h9 => h9) rfl rfl (yr_179_1 hL) d_5_5_26 ?_
      refine lv_aload_n hx hb d_5_5_29 rfl (lv_at hl 0 rfl) ?_
      refine m_gi (C := "Ballothall$Counting") (T := TX3) (N := 15) (ci := 3) (k := 2) hx hb hts iX3 hown hG hP (yi_179 hL) (yt_179 hL) rfl (by decide) w_305 (fun _ h9 => h9) rfl rfl d_5_5_30 ?_
      obtain ⟨p103, ep103, h⟩ := nb_e h
      obtain ⟨E103, eE103, h⟩ := nb_e h
      obtain ⟨M103, eM103, h⟩ := nb_e h
      refine m_newO (ci := 2) (C := "Ballothall$Count") (T := TX2) (n := 10) hx hb hts iX2 tyX2_ok hown w_285 w_613 w_29 rfl (fun _ => fsX2) hG hP hD hS hA (show _ ≤ mc by omega) (show _ ≤ ms by omega) d_5_5_33 (fun ad103 H hag103 hP hD hS => ?_)
      have hP : va_P z.1 classes (wv z ad103 E103 M103) H := by rw [eE103, eM103]; exact hP
      have hD : va_D A (wv z ad103 E103 M103) := by rw [eE103, eM103]; exact hD
      refine W.eq (g2 := F0 m 36 ls (.ref (ad103 p103) :: [.int (oI ((u2 M 179 2 (((M 179 2) + 1) % 21)) 179 2)), .ref (ad103 180)])) (by rw [ep103, hag103 180 (yi_180 hL)] <;> rfl) ?_
      have hl : lv_has ls 6 [(0, .ref (ad103 179)), (1, .int (oI x1))] := by rw [hag103 179 (yi_179 hL)]; exact hl
      have hgw103 : Gw E E103 := by rw [eE103]; exact gw_new _ _
      have hL103 : Lay E103 := by rw [eE103]; exact lay_new hL
      have hag0 : ∀ i, i < nE E0 → ad103 i = ad0 i := fun i hi => (hag103 i (Nat.lt_of_lt_of_le hi hE0)).trans (hag0 i hi)
      have hE0 : nE E0 ≤ nE E103 := Nat.le_trans hE0 hgw103.1
      have hL : Lay E103 := hL103
      have h_p103 : isO 2 E103 p103 := by rw [ep103, eE103]; exact ⟨new_i _ _, new_T _ _⟩
      refine lv_dup hx hb d_5_5_36 rfl ?_
      obtain ⟨⟨E104, M104⟩, g104, h⟩ := bd_e h
      obtain ⟨hgw104, h⟩ := ck_e h
      refine kIN (As := []) (rest := [.ref (ad103 p103), .int (oI ((u2 M 179 2 (((M 179 2) + 1) % 21)) 179 2)), .ref (ad103 180)]) (s_Ct_init l z ad103 E103 M103 p103 E104 M104 g104) hx hb hml hown hts w_1077 n_1075 w_1076 rfl w_29 md_e2c87f ⟨Nat.le_of_ble_eq_true rfl, Nat.le_of_ble_eq_true rfl⟩ hG hZ hP hD hS hA rfl hl.1 rfl (Nat.le_of_ble_eq_true rfl) d_5_5_37 ⟨(show _ ≤ mc by omega), (show _ ≤ ms by omega)⟩ (fun u104 H locs hP hD hS => ?_)
      obtain ⟨ad104, had104⟩ : ∃ q, q = adj E103 ad103 u104 := ⟨_, rfl⟩
      have hP : va_P z.1 classes (wv z ad104 E104 M104) H := by rw [had104]; exact hP
      have hD : va_D A (wv z ad104 E104 M104) := by rw [had104]; exact hD
      have hag104 : ∀ i, i < nE E103 → ad104 i = ad103 i := fun i hi => by rw [had104]; exact adj_lt hi
      have hl : lv_has ls 6 [(0, .ref (ad104 179)), (1, .int (oI x1))] := by rw [hag104 179 (yi_179 hL)]; exact hl
      refine W.eq (g2 := F0 m 40 ls [.ref (ad104 p103), .int (oI ((u2 M 179 2 (((M 179 2) + 1) % 21)) 179 2)), .ref (ad104 180)]) (by rw [hag104 p103 h_p103.1, hag104 180 (yi_180 hL)] <;> rfl) ?_
      have hag0 : ∀ i, i < nE E0 → ad104 i = ad0 i := fun i hi => (hag104 i (Nat.lt_of_lt_of_le hi hE0)).trans (hag0 i hi)
      have hE0 : nE E0 ≤ nE E104 := Nat.le_trans hE0 hgw104.1
      obtain ⟨hL, h⟩ := ck_e h
      have h_p103 : isO 2 E104 p103 := isO_up hgw104 h_p103
      obtain ⟨E105, eE105, h⟩ := nb_e h
      refine m_as (t := 4) (ci := 2) (r := ("Ballothall$Count", TX2, 10)) (x := ((u2 M 179 2 (((M 179 2) + 1) % 21)) 179 2)) hx hb hG hP hD hS (yi_180 hL) (yt_180 hL) rfl rfl h_p103.1 h_p103.2 rfl ok101 d_5_5_40 (fun H locs hP hD hS => ?_)
      have hP : va_P z.1 classes (wv z ad104 E105 M104) H := by rw [eE105]; exact hP
      have hD : va_D A (wv z ad104 E105 M104) := by rw [eE105]; exact hD
      have hgw105 : Gw E104 E105 := by rw [eE105]; exact gw_ref _ _ _ _
      have hL105 : Lay E105 := by rw [eE105]; exact lay_put180 hL
      have hE0 : nE E0 ≤ nE E105 := Nat.le_trans hE0 hgw105.1
      have hL : Lay E105 := hL105
      refine W.eq (g2 := F0 m 41 ls []) rfl ?_
      exact b_Co_holdCount_j41 l z E0 ad0 ad104 E105 M104 x1 r F N hx hb hml hts hown hlocks hA hG hZ hr mc ms _ _ c1 s1 (by omega) (by omega) hm hm2 hag0 hE0 h H locs ls hP hD hS (lv_sub hl [0, 1] rfl)
    | some p102 =>
      have h := mO_s hO102 h
      refine W.eq (g2 := F0 m 22 ls (.ref (ad p102) :: [])) rfl ?_
      refine lv_ifnonnull (tgt := 41) hx hb d_5_5_22 (by decide) ?_
      exact b_Co_holdCount_j41 l z E0 ad0 ad E (u2 M 179 2 (((M 179 2) + 1) % 21)) x1 r F N hx hb hml hts hown hlocks hA hG hZ hr mc ms _ _ c1 s1 (by omega) (by omega) hm hm2 hag0 hE0 h H locs ls hP hD hS (lv_sub hl [0, 1] rfl)
  exact key E ad 2053 16581 0 0 2053 16581 _ _ _ (by decide) (by decide) (by decide) (by decide) (fun _ _ => rfl) (Nat.le_refl _) hts hP hS
set_option maxRecDepth 100000 in
set_option maxHeartbeats 4000000 in
theorem s_B_transferable (l : Launch) (z : Zz) (ad : Nat → Nat) (E : Ev) (M : Mm) (x1 : Int) (r : Int) (F : Ev) (N : Mm) (h : f_B_transferable E M x1 = some (r, F, N)) : CT l z ⟨"Ballothall", "transferable", "(I)I"⟩ prog_1_method_17_code 3 (some .int) [.ref (ad 1), .int (oI x1)] (wv z ad E M) 7 183 2053 16581 (fun u => some (.int (oI r))) (fun u => wv z (adj E ad u) F N) := by
  refine CT.of (own := "Ballothall") (by decide +kernel) (Nat.le_of_ble_eq_true rfl) rfl (fun p e s m below meth c A ls hx hb hml hr hts hown hlocks hin hA hG hZ hP hD hS hl => ?_)
  have hl : lv_has ls 3 [(0, .ref (ad 1)), (1, .int (oI x1))] := hl
  have key : ∀ (E0 : Ev) (ad0 : Nat → Nat) (mc ms c0 s0 c1 s1 : Nat) (H : Heap) (locs : List Loc) (args : Array Value), c0 + 2053 ≤ c1 → s0 + 16581 ≤ s1 → c1 ≤ mc → s1 ≤ ms → (∀ i, i < nE E0 → ad i = ad0 i) → nE E0 ≤ nE E → (∀ w ∈ WG, w.before args s = true) → va_P z.1 classes (wv z ad E M) H → va_S A s.heap H locs → W p l e (rmK 7 183 mc ms) s m args below meth c H locs c0 s0 (MQ below (QK z A (fun u => some (.int (oI r))) (fun u => wv z (adj E0 ad0 u) F N)) args s c1 s1 A) (F0 m 0 ls []) := by
    intro E0 ad0 mc ms c0 s0 c1 s1 H locs args hc hs hm hm2 hag0 hE0 hts hP hS
    unfold f_B_transferable at h
    obtain ⟨hL, h⟩ := ck_e h
    refine lv_iload_n hx hb d_1_17_0 rfl (lv_at hl 1 rfl) ?_
    refine lv_iconst (v := oI 1) hx hb d_1_17_1 (by decide +kernel) ?_
    refine lv_iconst (v := oI 3) hx hb d_1_17_2 (by decide +kernel) ?_
    obtain ⟨_, g100, h⟩ := bd_e h
    refine kS (As := [.int (oI x1), .int (oI 1), .int (oI 3)]) (rest := []) (s_B_needRange l z ad E M x1 1 3 hL g100) hx hb hml hown hts w_548 w_546 w_547 w_1 md_519134 ⟨Nat.le_of_ble_eq_true rfl, Nat.le_of_ble_eq_true rfl⟩ hG hZ hP hD hS hA rfl hl.1 rfl (Nat.le_of_ble_eq_true rfl) d_1_17_3 ⟨(show _ ≤ mc by omega), (show _ ≤ ms by omega)⟩ (fun _ H locs hP hD hS => ?_)
    have hP : va_P z.1 classes (wv z ad E M) H := hP
    have hD : va_D A (wv z ad E M) := hD
    refine W.eq (g2 := F0 m 6 ls []) rfl ?_
    refine lv_aload_n hx hb d_1_17_6 rfl (lv_at hl 0 rfl) ?_
    refine m_gr (j := 2) (C := "Ballothall") (T := TX11) (N := 14) (ci := 11) (k := 0) hx hb hts iX11 hown hG hP (yi_1 hL) (yt_1 hL) rfl (by decide) w_397 (fun _ h9 => h9) rfl rfl (yr_1_0 hL) d_1_17_7 ?_
    refine m_giN (C := "Ballothall$BallotBox") (T := TX0) (N := 10) (ci := 0) (k := 2) hx hb hts iX0 hown hG hP (yi_2 hL) (yt_2 hL) rfl (by decide) n_52 rfl (fun _ h9 => h9) rfl rfl d_1_17_10 ?_
    obtain ⟨ok101, h⟩ := ck_e h
    refine lv_if_ne (tgt := 26) hx hb d_1_17_13 (by decide) (fun c9 => ?_) (fun c9 => ?_)
    · have h := ite_f (fun q => c9 ((oI_eq0 ok101).mpr q)) h
      refine lv_aload_n hx hb d_1_17_26 rfl (lv_at hl 0 rfl) ?_
      refine m_gr (j := 179) (C := "Ballothall") (T := TX11) (N := 14) (ci := 11) (k := 4) hx hb hts iX11 hown hG hP (yi_1 hL) (yt_1 hL) rfl (by decide) w_401 (fun _ h9 => h9) rfl rfl (yr_1_4 hL) d_1_17_27 ?_
      refine lv_iload_n hx hb d_1_17_30 rfl (lv_at hl 1 rfl) ?_
      obtain ⟨⟨r102, E102, M102⟩, g102, h⟩ := bd_e h
      obtain ⟨hgw102, h⟩ := ck_e h
      refine kVN (As := [.int (oI x1)]) (rest := []) (s_Co_holdCount l z ad E M x1 r102 E102 M102 g102) hx hb hml hown hts w_1074 n_1071 w_1073 w_s_633945 w_8 md_fa4516 ⟨Nat.le_of_ble_eq_true rfl, Nat.le_of_ble_eq_true rfl⟩ hG hZ hP hD hS hA 179 (wv_o (ci := 3) (yi_179 hL) (yt_179 hL)) rfl rfl rfl hl.1 rfl (Nat.le_of_ble_eq_true rfl) d_1_17_31 ⟨(show _ ≤ mc by omega), (show _ ≤ ms by omega)⟩ (fun u102 H locs hP hD hS => ?_)
      obtain ⟨ad102, had102⟩ : ∃ q, q = adj E ad u102 := ⟨_, rfl⟩
      have hP : va_P z.1 classes (wv z ad102 E102 M102) H := by rw [had102]; exact hP
      have hD : va_D A (wv z ad102 E102 M102) := by rw [had102]; exact hD
      have hag102 : ∀ i, i < nE E → ad102 i = ad i := fun i hi => by rw [had102]; exact adj_lt hi
      have hl : lv_has ls 3 [(0, .ref (ad102 1)), (1, .int (oI x1))] := by rw [hag102 1 (yi_1 hL)]; exact hl
      refine W.eq (g2 := F0 m 34 ls (.int (oI r102) :: [])) (by rfl) ?_
      have hag0 : ∀ i, i < nE E0 → ad102 i = ad0 i := fun i hi => (hag102 i (Nat.lt_of_lt_of_le hi hE0)).trans (hag0 i hi)
      have hE0 : nE E0 ≤ nE E102 := Nat.le_trans hE0 hgw102.1
      obtain ⟨hL, h⟩ := ck_e h
      refine lv_istore_n (lv' := [(2, .int (oI r102)), (0, .ref (ad102 1)), (1, .int (oI x1))]) hx hb d_1_17_34 rfl hl (by decide) rfl (fun ls hl => ?_)
      refine lv_aload_n hx hb d_1_17_35 rfl (lv_at hl 1 rfl) ?_
      refine lv_bipush (v := oI 9) hx hb d_1_17_36 (by decide +kernel) ?_
      refine lv_iconst (v := oI 0) hx hb d_1_17_38 (by decide +kernel) ?_
      refine lv_iconst (v := oI 0) hx hb d_1_17_39 (by decide +kernel) ?_
      obtain ⟨M103, g103, h⟩ := bd_e h
      refine kV (As := [.int (oI 9), .int (oI 0), .int (oI 0)]) (rest := []) (s_B_remember l z ad102 E102 M102 9 0 0 M103 hL g103) hx hb hml hown hts w_519 w_516 w_518 w_s_b872b3 w_1 md_7af0bb ⟨Nat.le_of_ble_eq_true rfl, Nat.le_of_ble_eq_true rfl⟩ hG hZ hP hD hS hA 1 (wv_o (ci := 11) (yi_1 hL) (yt_1 hL)) rfl rfl rfl hl.1 rfl (Nat.le_of_ble_eq_true rfl) d_1_17_40 ⟨(show _ ≤ mc by omega), (show _ ≤ ms by omega)⟩ (fun _ H locs hP hD hS => ?_)
      have hP : va_P z.1 classes (wv z ad102 E102 M103) H := hP
      have hD : va_D A (wv z ad102 E102 M103) := hD
      refine W.eq (g2 := F0 m 43 ls []) rfl ?_
      refine lv_iload_n hx hb d_1_17_43 rfl (lv_at hl 0 rfl) ?_
      refine W.wide (k := c1) (n := s1) (by omega) (by omega) ?_
      obtain ⟨rfl, rfl, rfl⟩ := in3 h
      exact W.iret hx hb hr (fun t ht hW => qkA hP hD hS ad102 (congrArg (fun q => wv z q E102 M103) (adj_self hag0).symm) rfl ht) hS.2.2 d_1_17_44
    · have h := ite_t ((oI_eq0 ok101).mp c9) h
      cases h
  exact key E ad 2053 16581 0 0 2053 16581 _ _ _ (by decide) (by decide) (by decide) (by decide) (fun _ _ => rfl) (Nat.le_refl _) hts hP hS
set_option maxRecDepth 100000 in
set_option maxHeartbeats 4000000 in
theorem s_Co_latest (l : Launch) (z : Zz) (ad : Nat → Nat) (E : Ev) (M : Mm) (r : Option Nat)  (hL : Lay E) (h : f_Co_latest E M = some r) : CT l z ⟨"Ballothall$Counting", "latest", "()LBallothall$Count;"⟩ prog_5_method_2_code 1 (some (.object "Ballothall$Count")) [.ref (ad 179)] (wv z ad E M) 0 20 0 0 (fun _ => some (orf ad r)) (fun _ => (wv z ad E M)) := by
  refine CT.of (own := "Ballothall$Counting") (by decide +kernel) (Nat.le_of_ble_eq_true rfl) rfl (fun p e s m below meth c A ls hx hb hml hr hts hown hlocks hin hA hG hZ hP hD hS hl => ?_)
  have hl : lv_has ls 1 [(0, .ref (ad 179))] := hl
  have key : ∀ (H : Heap) (locs : List Loc) (args : Array Value), (∀ w ∈ WG, w.before args s = true) → va_P z.1 classes (wv z ad E M) H → va_S A s.heap H locs → W p l e (rmK 0 20 0 0) s m args below meth c H locs 0 0 (MQ below (QK z A (fun _ => some (orf ad r)) (fun _ => (wv z ad E M))) args s 0 0 A) (F0 m 0 ls []) := by
    intro H locs args hts hP hS
    unfold f_Co_latest at h
    refine lv_aload_n hx hb d_5_2_0 rfl (lv_at hl 0 rfl) ?_
    refine m_gr (j := 180) (C := "Ballothall$Counting") (T := TX3) (N := 15) (ci := 3) (k := 1) hx hb hts iX3 hown hG hP (yi_179 hL) (yt_179 hL) rfl (by decide) w_304 (fun _ h9 => h9) rfl rfl (yr_179_1 hL) d_5_2_1 ?_
    refine lv_aload_n hx hb d_5_2_4 rfl (lv_at hl 0 rfl) ?_
    refine m_gi (C := "Ballothall$Counting") (T := TX3) (N := 15) (ci := 3) (k := 2) hx hb hts iX3 hown hG hP (yi_179 hL) (yt_179 hL) rfl (by decide) w_305 (fun _ h9 => h9) rfl rfl d_5_2_5 ?_
    obtain ⟨ok100, h⟩ := ck_e h
    refine m_aO (t := 4) (C := "Ballothall$Count") hx hb hG hP (yi_180 hL) (yt_180 hL) rfl rfl ok100 d_5_2_8 ?_
    obtain rfl := in1 h
    exact W.aret hx hb hr (Or.inl ⟨_, rfl⟩) orf_or (fun t ht hW => qkA hP hD hS (fun k => k) rfl rfl ht) hS.2.2 d_5_2_9
  exact key _ _ _ hts hP hS
set_option maxRecDepth 100000 in
set_option maxHeartbeats 4000000 in
theorem s_B_electedAt (l : Launch) (z : Zz) (ad : Nat → Nat) (E : Ev) (M : Mm) (x1 : Int) (r : Int)  (hL : Lay E) (h : f_B_electedAt E M x1 = some r) : CT l z ⟨"Ballothall", "electedAt", "(I)I"⟩ prog_1_method_19_code 3 (some .int) [.ref (ad 1), .int (oI x1)] (wv z ad E M) 1 40 0 0 (fun _ => some (.int (oI r))) (fun _ => (wv z ad E M)) := by
  refine CT.of (own := "Ballothall") (by decide +kernel) (Nat.le_of_ble_eq_true rfl) rfl (fun p e s m below meth c A ls hx hb hml hr hts hown hlocks hin hA hG hZ hP hD hS hl => ?_)
  have hl : lv_has ls 3 [(0, .ref (ad 1)), (1, .int (oI x1))] := hl
  have key : ∀ (H : Heap) (locs : List Loc) (args : Array Value), (∀ w ∈ WG, w.before args s = true) → va_P z.1 classes (wv z ad E M) H → va_S A s.heap H locs → W p l e (rmK 1 40 0 0) s m args below meth c H locs 0 0 (MQ below (QK z A (fun _ => some (.int (oI r))) (fun _ => (wv z ad E M))) args s 0 0 A) (F0 m 0 ls []) := by
    intro H locs args hts hP hS
    unfold f_B_electedAt at h
    refine lv_aload_n hx hb d_1_19_0 rfl (lv_at hl 0 rfl) ?_
    refine m_gr (j := 179) (C := "Ballothall") (T := TX11) (N := 14) (ci := 11) (k := 4) hx hb hts iX11 hown hG hP (yi_1 hL) (yt_1 hL) rfl (by decide) w_401 (fun _ h9 => h9) rfl rfl (yr_1_4 hL) d_1_19_1 ?_
    obtain ⟨r100, g100, h⟩ := bd_e h
    refine kVN (As := []) (rest := []) (s_Co_latest l z ad E M r100 hL g100) hx hb hml hown hts w_596 n_593 w_595 w_s_ad1675 w_8 md_6f7cc1 ⟨Nat.le_of_ble_eq_true rfl, Nat.le_of_ble_eq_true rfl⟩ hG hZ hP hD hS hA 179 (wv_o (ci := 3) (yi_179 hL) (yt_179 hL)) rfl rfl rfl hl.1 rfl (Nat.le_of_ble_eq_true rfl) d_1_19_4 ⟨Nat.le_of_ble_eq_true rfl, Nat.le_of_ble_eq_true rfl⟩ (fun _ H locs hP hD hS => ?_)
    have hP : va_P z.1 classes (wv z ad E M) H := hP
    have hD : va_D A (wv z ad E M) := hD
    cases r100 with
    | none =>
      refine W.eq (g2 := F0 m 7 ls [.null]) rfl ?_
      refine lv_astore_nN (lv' := [(2, .null), (0, .ref (ad 1)), (1, .int (oI x1))]) hx hb d_1_19_7 rfl hl (by decide) rfl (fun ls hl => ?_)
      refine lv_aload_nN hx hb d_1_19_8 rfl (lv_at hl 0 rfl) ?_
      refine lv_ifnullN (tgt := 24) hx hb d_1_19_9 (by decide) ?_
      cases h
    | some p100 =>
      obtain ⟨h_p100, h⟩ := ck_e h
      refine W.eq (g2 := F0 m 7 ls [.ref (ad p100)]) rfl ?_
      refine lv_astore_n (lv' := [(2, .ref (ad p100)), (0, .ref (ad 1)), (1, .int (oI x1))]) hx hb d_1_19_7 rfl hl (by decide) rfl (fun ls hl => ?_)
      refine lv_aload_n hx hb d_1_19_8 rfl (lv_at hl 0 rfl) ?_
      refine lv_ifnull hx hb d_1_19_9 ?_
      refine lv_iload_n hx hb d_1_19_12 rfl (lv_at hl 2 rfl) ?_
      obtain ⟨ok101, h⟩ := ck_e h
      refine lv_if_lt (tgt := 24) hx hb d_1_19_13 (by decide) (fun c9 => ?_) (fun c9 => ?_)
      · have h := ite_t ((oI_lt0 ok101).mp c9) h
        cases h
      · have h := ite_f (fun q => c9 ((oI_lt0 ok101).mpr q)) h
        refine lv_iload_n hx hb d_1_19_16 rfl (lv_at hl 2 rfl) ?_
        refine lv_aload_n hx hb d_1_19_17 rfl (lv_at hl 0 rfl) ?_
        refine m_giN (C := "Ballothall$Count") (T := TX2) (N := 10) (ci := 2) (k := 4) hx hb hts iX2 hown hG hP (isCt_i h_p100) (isCt_T h_p100) rfl (by decide) n_1087 rfl (fun _ h9 => h9) rfl rfl d_1_19_18 ?_
        obtain ⟨ok102, h⟩ := ck_e h
        refine lv_icmp_lt (tgt := 34) hx hb d_1_19_21 (by decide) (fun c9 => ?_) (fun c9 => ?_)
        · have h := ite_t ((oI_lt (a := x1) (b := (M p100 4)) ok101 ok102).mp c9) h
          refine lv_aload_n hx hb d_1_19_34 rfl (lv_at hl 0 rfl) ?_
          refine m_grN (j := (p100 + 2)) (C := "Ballothall$Count") (T := TX2) (N := 10) (ci := 2) (k := 7) hx hb hts iX2 hown hG hP (isCt_i h_p100) (isCt_T h_p100) rfl (by decide) n_1095 rfl (fun _ h9 => h9) rfl rfl (isCt_r7 h_p100) d_1_19_35 ?_
          refine lv_iload_n hx hb d_1_19_38 rfl (lv_at hl 2 rfl) ?_
          obtain ⟨ok103, h⟩ := ck_e h
          refine m_ia hx hb hG hP (isCt_i2 h_p100) (isCt_t2 h_p100) ok103 d_1_19_39 ?_
          obtain rfl := in1 h
          exact W.iret hx hb hr (fun t ht hW => qkA hP hD hS (fun k => k) rfl rfl ht) hS.2.2 d_1_19_40
        · have h := ite_f (fun q => c9 ((oI_lt (a := x1) (b := (M p100 4)) ok101 ok102).mpr q)) h
          cases h
  exact key _ _ _ hts hP hS
set_option maxRecDepth 100000 in
set_option maxHeartbeats 4000000 in
theorem s_B_quota (l : Launch) (z : Zz) (ad : Nat → Nat) (E : Ev) (M : Mm) (r : Int)  (hL : Lay E) (h : f_B_quota E M = some r) : CT l z ⟨"Ballothall", "quota", "()I"⟩ prog_1_method_18_code 2 (some .int) [.ref (ad 1)] (wv z ad E M) 1 40 0 0 (fun _ => some (.int (oI r))) (fun _ => (wv z ad E M)) := by
  refine CT.of (own := "Ballothall") (by decide +kernel) (Nat.le_of_ble_eq_true rfl) rfl (fun p e s m below meth c A ls hx hb hml hr hts hown hlocks hin hA hG hZ hP hD hS hl => ?_)
  have hl : lv_has ls 2 [(0, .ref (ad 1))] := hl
  have key : ∀ (H : Heap) (locs : List Loc) (args : Array Value), (∀ w ∈ WG, w.before args s = true) → va_P z.1 classes (wv z ad E M) H → va_S A s.heap H locs → W p l e (rmK 1 40 0 0) s m args below meth c H locs 0 0 (MQ below (QK z A (fun _ => some (.int (oI r))) (fun _ => (wv z ad E M))) args s 0 0 A) (F0 m 0 ls []) := by
    intro H locs args hts hP hS
    unfold f_B_quota at h
    refine lv_aload_n hx hb d_1_18_0 rfl (lv_at hl 0 rfl) ?_
    refine m_gr (j := 179) (C := "Ballothall") (T := TX11) (N := 14) (ci := 11) (k := 4) hx hb hts iX11 hown hG hP (yi_1 hL) (yt_1 hL) rfl (by decide) w_401 (fun _ h9 => h9) rfl rfl (yr_1_4 hL) d_1_18_1 ?_
    obtain ⟨r100, g100, h⟩ := bd_e h
    refine kVN (As := []) (rest := []) (s_Co_latest l z ad E M r100 hL g100) hx hb hml hown hts w_596 n_593 w_595 w_s_ad1675 w_8 md_6f7cc1 ⟨Nat.le_of_ble_eq_true rfl, Nat.le_of_ble_eq_true rfl⟩ hG hZ hP hD hS hA 179 (wv_o (ci := 3) (yi_179 hL) (yt_179 hL)) rfl rfl rfl hl.1 rfl (Nat.le_of_ble_eq_true rfl) d_1_18_4 ⟨Nat.le_of_ble_eq_true rfl, Nat.le_of_ble_eq_true rfl⟩ (fun _ H locs hP hD hS => ?_)
    have hP : va_P z.1 classes (wv z ad E M) H := hP
    have hD : va_D A (wv z ad E M) := hD
    cases r100 with
    | none =>
      refine W.eq (g2 := F0 m 7 ls [.null]) rfl ?_
      refine lv_astore_nN (lv' := [(1, .null), (0, .ref (ad 1))]) hx hb d_1_18_7 rfl hl (by decide) rfl (fun ls hl => ?_)
      refine lv_aload_nN hx hb d_1_18_8 rfl (lv_at hl 0 rfl) ?_
      refine lv_ifnonnullN hx hb d_1_18_9 ?_
      refine lv_iconst (v := oI (-1)) hx hb d_1_18_12 (by decide +kernel) ?_
      refine lv_goto (tgt := 20) hx hb d_1_18_13 (by decide) ?_
      obtain rfl := in1 h
      exact W.iret hx hb hr (fun t ht hW => qkA hP hD hS (fun k => k) rfl rfl ht) hS.2.2 d_1_18_20
    | some p100 =>
      obtain ⟨h_p100, h⟩ := ck_e h
      refine W.eq (g2 := F0 m 7 ls [.ref (ad p100)]) rfl ?_
      refine lv_astore_n (lv' := [(1, .ref (ad p100)), (0, .ref (ad 1))]) hx hb d_1_18_7 rfl hl (by decide) rfl (fun ls hl => ?_)
      refine lv_aload_n hx hb d_1_18_8 rfl (lv_at hl 0 rfl) ?_
      refine lv_ifnonnull (tgt := 16) hx hb d_1_18_9 (by decide) ?_
      refine lv_aload_n hx hb d_1_18_16 rfl (lv_at hl 0 rfl) ?_
      refine m_giN (C := "Ballothall$Count") (T := TX2) (N := 10) (ci := 2) (k := 0) hx hb hts iX2 hown hG hP (isCt_i h_p100) (isCt_T h_p100) rfl (by decide) n_1080 rfl (fun _ h9 => h9) rfl rfl d_1_18_17 ?_
      obtain rfl := in1 h
      exact W.iret hx hb hr (fun t ht hW => qkA hP hD hS (fun k => k) rfl rfl ht) hS.2.2 d_1_18_20
  exact key _ _ _ hts hP hS
