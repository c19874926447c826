set_option maxRecDepth 100000 in
set_option maxHeartbeats 4000000 in
theorem s_B_steps (l : Launch) (z : Zz) (ad : Nat → Nat) (E : Ev) (M : Mm) (r : Int)  (hL : Lay E) (h : f_B_steps E M = some r) : CT l z ⟨"Ballothall", "steps", "()I"⟩ prog_1_method_21_code 2 (some .int) [.ref (ad 1)] (wv z ad E M) 1 40 0 0 (fun _ => some (.int (oI r))) (fun _ => (wv z ad E M)) := by
  refine CT.of (own := "Ballothall") (by decide +kernel) (Nat.le_of_ble_eq_true rfl) rfl (fun p e s m below meth c A ls hx hb hml hr hts hown hlocks hin hA hG hZ hP hD hS hl => ?_)
  have hl : lv_has ls 2 [(0, .ref (ad 1))] := hl
  have key : ∀ (H : Heap) (locs : List Loc) (args : Array Value), (∀ w ∈ WG, w.before args s = true) → va_P z.1 classes (wv z ad E M) H → va_S A s.heap H locs → W p l e (rmK 1 40 0 0) s m args below meth c H locs 0 0 (MQ below (QK z A (fun _ => some (.int (oI r))) (fun _ => (wv z ad E M))) args s 0 0 A) (F0 m 0 ls []) := by
    intro H locs args hts hP hS
    unfold f_B_steps at h
    refine lv_aload_n hx hb d_1_21_0 rfl (lv_at hl 0 rfl) ?_
    refine m_gr (j := 179) (C := "Ballothall") (T := TX11) (N := 14) (ci := 11) (k := 4) hx hb hts iX11 hown hG hP (yi_1 hL) (yt_1 hL) rfl (by decide) w_401 (fun _ h9 => h9) rfl rfl (yr_1_4 hL) d_1_21_1 ?_
    obtain ⟨r0, g0, h⟩ := bd_e h
    refine kVN (As := []) (rest := []) (s_Co_latest l z ad E M r0 hL g0) hx hb hml hown hts w_596 n_593 w_595 w_s_ad1675 w_8 md_6f7cc1 ⟨Nat.le_of_ble_eq_true rfl, Nat.le_of_ble_eq_true rfl⟩ hG hZ hP hD hS hA 179 (wv_o (ci := 3) (yi_179 hL) (yt_179 hL)) rfl rfl rfl hl.1 rfl (Nat.le_of_ble_eq_true rfl) d_1_21_4 ⟨Nat.le_of_ble_eq_true rfl, Nat.le_of_ble_eq_true rfl⟩ (fun _ H locs hP hD hS => ?_)
    have hP : va_P z.1 classes (wv z ad E M) H := hP
    have hD : va_D A (wv z ad E M) := hD
    cases r0 with
    | none =>
      refine W.eq (g2 := F0 m 7 ls [.null]) rfl ?_
      refine lv_astore_nN (lv' := [(1, .null), (0, .ref (ad 1))]) hx hb d_1_21_7 rfl hl (by decide) rfl (fun ls hl => ?_)
      refine lv_aload_nN hx hb d_1_21_8 rfl (lv_at hl 0 rfl) ?_
      refine lv_ifnonnullN hx hb d_1_21_9 ?_
      refine lv_iconst (v := oI 0) hx hb d_1_21_12 (by decide +kernel) ?_
      refine lv_goto (tgt := 25) hx hb d_1_21_13 (by decide) ?_
      obtain rfl := in1 h
      exact W.iret hx hb hr (fun t ht hW => qkA hP hD hS (fun k => k) rfl rfl ht) hS.2.2 d_1_21_25
    | some p0 =>
      obtain ⟨h_p0, h⟩ := ck_e h
      refine W.eq (g2 := F0 m 7 ls [.ref (ad p0)]) rfl ?_
      refine lv_astore_n (lv' := [(1, .ref (ad p0)), (0, .ref (ad 1))]) hx hb d_1_21_7 rfl hl (by decide) rfl (fun ls hl => ?_)
      refine lv_aload_n hx hb d_1_21_8 rfl (lv_at hl 0 rfl) ?_
      refine lv_ifnonnull (tgt := 16) hx hb d_1_21_9 (by decide) ?_
      refine lv_aload_n hx hb d_1_21_16 rfl (lv_at hl 0 rfl) ?_
      refine m_giN (C := "Ballothall$Count") (T := TX2) (N := 10) (ci := 2) (k := 4) hx hb hts iX2 hown hG hP (isCt_i h_p0) (isCt_T h_p0) rfl (by decide) n_1087 rfl (fun _ h9 => h9) rfl rfl d_1_21_17 ?_
      refine lv_aload_n hx hb d_1_21_20 rfl (lv_at hl 0 rfl) ?_
      refine m_giN (C := "Ballothall$Count") (T := TX2) (N := 10) (ci := 2) (k := 5) hx hb hts iX2 hown hG hP (isCt_i h_p0) (isCt_T h_p0) rfl (by decide) n_1089 rfl (fun _ h9 => h9) rfl rfl d_1_21_21 ?_
      refine lv_iadd hx hb d_1_21_24 ?_
      refine nrm (oI_add _ _) ?_
      obtain rfl := in1 h
      exact W.iret hx hb hr (fun t ht hW => qkA hP hD hS (fun k => k) rfl rfl ht) hS.2.2 d_1_21_25
  exact key _ _ _ hts hP hS
set_option maxRecDepth 100000 in
set_option maxHeartbeats 4000000 in
theorem b_La_transferable_21b (l : Launch) (z : Zz) (E0 : Ev) (ad0 : Nat → Nat) (ad : Nat → Nat) (E : Ev) (M : Mm) (q1 : Nat) (x3 : Int) (x4 : Int) (x5 : Int) (x6 : Int) (t : Nat) (w5 : Int) (w6 : Int) (F : Ev) (N : Mm) {Q : State → Prop} {p : Program} {e : Env} {s : State} {m : MethodId} {below : List Frame} {meth : Method} {c : Code} {A : Nat → Prop} {args : Array Value} (hx : p.tables.exec = Jvm.exec) (hb : c.code = method_5_code) (hml : c.maxLocals = 14) (hts : ∀ w ∈ WG, w.before args s = true) (hown : s.vm.findClass "BallothallLaw" = some m.cls) (hlocks : meth.locks = false) (hA : ∀ q, s.heap.size ≤ q → A q) (hG : KG z s) (hZ : FZ z A s) (mc ms c0 s0 c1 s1 : Nat) (hc : c0 + 0 ≤ c1) (hs : s0 + 0 ≤ s1) (hm : c1 ≤ mc) (hm2 : s1 ≤ ms) (hag0 : ∀ i, i < nE E0 → ad i = ad0 i) (hE0 : nE E0 ≤ nE E) (h : La_transferable_21b E M q1 x3 x4 x5 x6 = some (t, w5, w6, F, N)) (k0 : ∀ (ad1 : Nat → Nat), (∀ i, i < nE E0 → ad1 i = ad0 i) → nE E0 ≤ nE F → t = 0 → ∀ (H : Heap) (locs : List Loc) (ls : Array Slot), va_P z.1 classes (wv z ad1 F N) H → va_D A (wv z ad1 F N) → va_S A s.heap H locs → lv_has ls 14 [(0, .ref (ad1 1)), (1, .ref (ad1 q1)), (3, .int (oI x3)), (4, .int (oI x4)), (5, .int (oI w5)), (6, .int (oI w6))] → W p l e (rmK 8 205 mc ms) s m args below meth c H locs c1 s1 Q (F0 m 21 ls [])) (k1 : ∀ (ad1 : Nat → Nat), (∀ i, i < nE E0 → ad1 i = ad0 i) → nE E0 ≤ nE F → t = 1 → ∀ (H : Heap) (locs : List Loc) (ls : Array Slot), va_P z.1 classes (wv z ad1 F N) H → va_D A (wv z ad1 F N) → va_S A s.heap H locs → lv_has ls 14 [(0, .ref (ad1 1)), (1, .ref (ad1 q1)), (3, .int (oI x3)), (4, .int (oI x4)), (5, .int (oI w5))] → W p l e (rmK 8 205 mc ms) s m args below meth c H locs c1 s1 Q (F0 m 47 ls [])) : ∀ (H : Heap) (locs : List Loc) (ls : Array Slot), va_P z.1 classes (wv z ad E M) H → va_D A (wv z ad E M) → va_S A s.heap H locs → lv_has ls 14 [(0, .ref (ad 1)), (1, .ref (ad q1)), (3, .int (oI x3)), (4, .int (oI x4)), (5, .int (oI x5)), (6, .int (oI x6))] → W p l e (rmK 8 205 mc ms) s m args below meth c H locs c0 s0 Q (F0 m 21 ls []) := by
  intro H locs ls hP hD hS hl
  unfold La_transferable_21b at h
  obtain ⟨hL, h⟩ := ck_e h
  obtain ⟨h_q1, h⟩ := ck_e h
  refine lv_iload hx hb d_L5_21 (lv_at hl 5 rfl) ?_
  refine lv_iload hx hb d_L5_23 (lv_at hl 3 rfl) ?_
  obtain ⟨ok2, h⟩ := ck_e h
  obtain ⟨ok3, h⟩ := ck_e h
  refine lv_icmp_ge (tgt := 47) hx hb d_L5_25 (by decide) (fun c9 => ?_) (fun c9 => ?_)
  · have h := ite_t ((oI_le (a := x4) (b := x6) ok3 ok2).mp c9) h
    obtain ⟨rfl, rfl, rfl, rfl, rfl⟩ := in5 h
    exact W.wide (by omega) (by omega) (k1 ad hag0 hE0 rfl H locs ls hP hD hS (lv_sub hl [0, 1, 2, 3, 4] rfl))
  · have h := ite_f (fun q => c9 ((oI_le (a := x4) (b := x6) ok3 ok2).mpr q)) h
    refine lv_iload hx hb d_L5_28 (lv_at hl 4 rfl) ?_
    refine lv_iconst (v := oI 1) hx hb d_L5_30 (by decide +kernel) ?_
    refine lv_aload_n hx hb d_L5_31 rfl (lv_at hl 0 rfl) ?_
    refine lv_iload hx hb d_L5_32 (lv_at hl 5 rfl) ?_
    obtain ⟨r4, g4, h⟩ := bd_e h
    refine kV (As := [.int (oI x6)]) (rest := [.int (oI 1), .int (oI x5)]) (s_B_electedAt l z ad E M x6 r4 hL g4) hx hb hml hown hts w_1234 w_1231 w_1232 w_1233 w_1 md_db4417 ⟨Nat.le_of_ble_eq_true rfl, Nat.le_of_ble_eq_true rfl⟩ hG hZ hP hD hS hA 1 (wv_o (ci := 11) (yi_1 hL) (yt_1 hL)) rfl rfl rfl hl.1 rfl (Nat.le_of_ble_eq_true rfl) d_L5_34 ⟨(show _ ≤ mc by omega), (show _ ≤ ms by omega)⟩ (fun _ H locs hP hD hS => ?_)
    have hP : va_P z.1 classes (wv z ad E M) H := hP
    have hD : va_D A (wv z ad E M) := hD
    refine W.eq (g2 := F0 m 37 ls [.int (oI r4), .int (oI 1), .int (oI x5)]) rfl ?_
    obtain ⟨ok5, h⟩ := ck_e h
    refine lv_ishl hx hb d_L5_37 ?_
    refine nrm (oI_one_shl ok5) ?_
    obtain ⟨ok6, h⟩ := ck_e h
    obtain ⟨ok7, h⟩ := ck_e h
    refine lv_ior hx hb d_L5_38 ?_
    refine nrm (oI_or (a := x5) (b := (2 ^ r4.toNat)) ok6.1 ok6.2 ok7.1 ok7.2) ?_
    refine lv_istore (lv' := [(5, .int (oI (orI x5 (2 ^ r4.toNat)))), (0, .ref (ad 1)), (1, .ref (ad q1)), (3, .int (oI x3)), (4, .int (oI x4)), (6, .int (oI x6))]) hx hb d_L5_39 hl (by decide) rfl (fun ls hl => ?_)
    refine lv_iinc (v := oI (x6 + 1)) (lv' := [(6, .int (oI (x6 + 1))), (5, .int (oI (orI x5 (2 ^ r4.toNat)))), (0, .ref (ad 1)), (1, .ref (ad q1)), (3, .int (oI x3)), (4, .int (oI x4))]) hx hb d_L5_41 hl (k := 5) rfl (oI_add x6 1) (by decide) rfl (fun ls hl => ?_)
    refine lv_goto (tgt := 21) hx hb d_L5_44 (by decide) ?_
    obtain ⟨rfl, rfl, rfl, rfl, rfl⟩ := in5 h
    exact W.wide (by omega) (by omega) (k0 ad hag0 hE0 rfl H locs ls hP hD hS (lv_sub hl [2, 3, 4, 5, 1, 0] rfl))
set_option maxRecDepth 100000 in
set_option maxHeartbeats 4000000 in
theorem s_La_transferable_21 (l : Launch) (z : Zz) (E0 : Ev) (ad0 : Nat → Nat) (q1 : Nat) (x3 : Int) (x4 : Int) {Q : State → Prop} {p : Program} {e : Env} {s : State} {m : MethodId} {below : List Frame} {meth : Method} {c : Code} {A : Nat → Prop} {args : Array Value} (hx : p.tables.exec = Jvm.exec) (hb : c.code = method_5_code) (hml : c.maxLocals = 14) (hts : ∀ w ∈ WG, w.before args s = true) (hown : s.vm.findClass "BallothallLaw" = some m.cls) (hlocks : meth.locks = false) (hA : ∀ q, s.heap.size ≤ q → A q) (hG : KG z s) (hZ : FZ z A s) (mc ms c1 s1 : Nat) (hm : c1 ≤ mc) (hm2 : s1 ≤ ms) : ∀ (fu c0 s0 : Nat) (ad : Nat → Nat) (E : Ev) (M : Mm) (x5 : Int) (x6 : Int) (t : Nat) (w5 : Int) (w6 : Int) (F : Ev) (N : Mm), c0 + fu * 0 ≤ c1 → s0 + fu * 0 ≤ s1 → (∀ i, i < nE E0 → ad i = ad0 i) → nE E0 ≤ nE E → l_La_transferable_21 q1 x3 x4 fu E M x5 x6 = some (t, w5, w6, F, N) → (∀ (ad1 : Nat → Nat), (∀ i, i < nE E0 → ad1 i = ad0 i) → nE E0 ≤ nE F → t = 1 → ∀ (H : Heap) (locs : List Loc) (ls : Array Slot), va_P z.1 classes (wv z ad1 F N) H → va_D A (wv z ad1 F N) → va_S A s.heap H locs → lv_has ls 14 [(0, .ref (ad1 1)), (1, .ref (ad1 q1)), (3, .int (oI x3)), (4, .int (oI x4)), (5, .int (oI w5))] → W p l e (rmK 8 205 mc ms) s m args below meth c H locs c1 s1 Q (F0 m 47 ls [])) → ∀ (H : Heap) (locs : List Loc) (ls : Array Slot), va_P z.1 classes (wv z ad E M) H → va_D A (wv z ad E M) → va_S A s.heap H locs → lv_has ls 14 [(0, .ref (ad 1)), (1, .ref (ad q1)), (3, .int (oI x3)), (4, .int (oI x4)), (5, .int (oI x5)), (6, .int (oI x6))] → W p l e (rmK 8 205 mc ms) s m args below meth c H locs c0 s0 Q (F0 m 21 ls []) := by
  intro fu
  induction fu with
  | zero =>
    intro c0 s0 ad E M x5 x6 t w5 w6 F N hc hs hag0 hE0 h
    have h : (none : Option (Nat × Int × Int × Ev × Mm)) = some _ := h
    cases h
  | succ fu ih =>
    intro c0 s0 ad E M x5 x6 t w5 w6 F N hc hs hag0 hE0 h k1 H locs ls hP hD hS hl
    obtain ⟨⟨t0, w50, w60, F9, N9⟩, g0, h⟩ := bd_e h
    refine W.wide (Nat.le_refl _) (Nat.le_refl _) (b_La_transferable_21b l z E0 ad0 ad E M q1 x3 x4 x5 x6 t0 w50 w60 F9 N9 hx hb hml hts hown hlocks hA hG hZ mc ms c0 s0 (c0 + 0) (s0 + 0) (Nat.le_refl _) (Nat.le_refl _) (by omega) (by omega) hag0 hE0 g0 (fun ad1 ha he e0 => ?_) (fun ad1 ha he e0 => ?_) H locs ls hP hD hS hl)
    · subst e0
      have h := ite_t rfl h
      exact ih (c0 + 0) (s0 + 0) ad1 F9 N9 w50 w60 t w5 w6 F N (by omega) (by omega) ha he h k1
    · subst e0
      have h := ite_f (by decide) h
      obtain ⟨rfl, rfl, rfl, rfl, rfl⟩ := in5 h
      exact fun H locs ls hP hD hS hl => W.wide (by omega) (by omega) (k1 ad1 ha he rfl H locs ls hP hD hS hl)
set_option maxRecDepth 100000 in
set_option maxHeartbeats 4000000 in
theorem b_La_transferable_j153 (l : Launch) (z : Zz) (E0 : Ev) (ad0 : Nat → Nat) (ad : Nat → Nat) (E : Ev) (M : Mm) (q1 : Nat) (x5 : Int) (x8 : Int) (x9 : Int) (t : Nat) (w7 : Int) (w8 : Int) (F : Ev) (N : Mm) {Q : State → Prop} {p : Program} {e : Env} {s : State} {m : MethodId} {below : List Frame} {meth : Method} {c : Code} {A : Nat → Prop} {args : Array Value} (hx : p.tables.exec = Jvm.exec) (hb : c.code = method_5_code) (hml : c.maxLocals = 14) (hts : ∀ w ∈ WG, w.before args s = true) (hown : s.vm.findClass "BallothallLaw" = some m.cls) (hlocks : meth.locks = false) (hA : ∀ q, s.heap.size ≤ q → A q) (hG : KG z s) (hZ : FZ z A s) (mc ms c0 s0 c1 s1 : Nat) (hc : c0 + 0 ≤ c1) (hs : s0 + 0 ≤ s1) (hm : c1 ≤ mc) (hm2 : s1 ≤ ms) (hag0 : ∀ i, i < nE E0 → ad i = ad0 i) (hE0 : nE E0 ≤ nE E) (h : La_transferable_j153 E M q1 x5 x8 x9 = some (t, w7, w8, F, N)) (k0 : ∀ (ad1 : Nat → Nat), (∀ i, i < nE E0 → ad1 i = ad0 i) → nE E0 ≤ nE F → t = 0 → ∀ (H : Heap) (locs : List Loc) (ls : Array Slot), va_P z.1 classes (wv z ad1 F N) H → va_D A (wv z ad1 F N) → va_S A s.heap H locs → lv_has ls 14 [(0, .ref (ad1 1)), (1, .ref (ad1 q1)), (5, .int (oI x5)), (7, .int (oI w7)), (8, .int (oI w8))] → W p l e (rmK 8 205 mc ms) s m args below meth c H locs c1 s1 Q (F0 m 101 ls [])) (k1 : ∀ (ad1 : Nat → Nat), (∀ i, i < nE E0 → ad1 i = ad0 i) → nE E0 ≤ nE F → t = 1 → ∀ (H : Heap) (locs : List Loc) (ls : Array Slot), va_P z.1 classes (wv z ad1 F N) H → va_D A (wv z ad1 F N) → va_S A s.heap H locs → lv_has ls 14 [(0, .ref (ad1 1)), (1, .ref (ad1 q1)), (7, .int (oI w7))] → W p l e (rmK 8 205 mc ms) s m args below meth c H locs c1 s1 Q (F0 m 185 ls [])) : ∀ (H : Heap) (locs : List Loc) (ls : Array Slot), va_P z.1 classes (wv z ad E M) H → va_D A (wv z ad E M) → va_S A s.heap H locs → lv_has ls 14 [(0, .ref (ad 1)), (1, .ref (ad q1)), (5, .int (oI x5)), (8, .int (oI x8)), (9, .int (oI x9))] → W p l e (rmK 8 205 mc ms) s m args below meth c H locs c0 s0 Q (F0 m 153 ls []) := by
  intro H locs ls hP hD hS hl
  unfold La_transferable_j153 at h
  obtain ⟨hL, h⟩ := ck_e h
  obtain ⟨h_q1, h⟩ := ck_e h
  refine lv_aload_n hx hb d_L5_153 rfl (lv_at hl 0 rfl) ?_
  refine lv_iload hx hb d_L5_154 (lv_at hl 3 rfl) ?_
  obtain ⟨⟨r28, M28⟩, g28, h⟩ := bd_e h
  refine kV (As := [.int (oI x8)]) (rest := []) (s_B_solidQuotas l z ad E M x8 r28 M28 hL g28) hx hb hml hown hts w_1264 w_1261 w_1262 w_1263 w_1 md_16e5ac ⟨Nat.le_of_ble_eq_true rfl, Nat.le_of_ble_eq_true rfl⟩ hG hZ hP hD hS hA 1 (wv_o (ci := 11) (yi_1 hL) (yt_1 hL)) rfl rfl rfl hl.1 rfl (Nat.le_of_ble_eq_true rfl) d_L5_156 ⟨(show _ ≤ mc by omega), (show _ ≤ ms by omega)⟩ (fun _ H locs hP hD hS => ?_)
  have hP : va_P z.1 classes (wv z ad E M28) H := hP
  have hD : va_D A (wv z ad E M28) := hD
  refine W.eq (g2 := F0 m 159 ls [.int (oI r28)]) rfl ?_
  refine lv_iload hx hb d_L5_159 (lv_at hl 4 rfl) ?_
  refine lv_iload hx hb d_L5_161 (lv_at hl 3 rfl) ?_
  obtain ⟨r29, g29, h⟩ := bd_e h
  refine kS (As := [.int (oI x8)]) (rest := [.int (oI x9), .int (oI r28)]) (s_In_bitCount l z ad E M28 x8 r29 hL g29) hx hb hml hown hts w_657 w_1256 w_656 w_30 md_eafe8c ⟨Nat.le_of_ble_eq_true rfl, Nat.le_of_ble_eq_true rfl⟩ hG hZ hP hD hS hA rfl hl.1 rfl (Nat.le_of_ble_eq_true rfl) d_L5_163 ⟨(show _ ≤ mc by omega), (show _ ≤ ms by omega)⟩ (fun _ H locs hP hD hS => ?_)
  have hP : va_P z.1 classes (wv z ad E M28) H := hP
  have hD : va_D A (wv z ad E M28) := hD
  refine W.eq (g2 := F0 m 166 ls [.int (oI r29), .int (oI x9), .int (oI r28)]) rfl ?_
  obtain ⟨ok30, h⟩ := ck_e h
  obtain ⟨ok31, h⟩ := ck_e h
  refine va_mmin hx hb (by rw [hml]; exact hl.1.symm) hown (hts _ w_1255) (hts _ w_521) (hts _ w_17) (hts _ w_min) (Nat.le_of_ble_eq_true rfl) (Nat.le_of_ble_eq_true rfl) (Nat.le_of_ble_eq_true rfl) (Nat.le_of_ble_eq_true rfl) d_L5_166 ?_
  refine nrm (mn_oI (a := x9) (b := r29) ok30 ok31) ?_
  obtain ⟨ok32, h⟩ := ck_e h
  refine lv_icmp_ne (tgt := 176) hx hb d_L5_169 (by decide) (fun c9 => ?_) (fun c9 => ?_)
  · have h := ite_f (fun q => c9 ((oI_eq (a := r28) (b := (min x9 r29)) ok32 (rg_min (x := x9) (y := r29) ok30 ok31)).mpr q)) h
    refine lv_iconst (v := oI 0) hx hb d_L5_176 (by decide +kernel) ?_
    refine lv_istore (lv' := [(7, .int (oI 0)), (0, .ref (ad 1)), (1, .ref (ad q1)), (5, .int (oI x5)), (8, .int (oI x8)), (9, .int (oI x9))]) hx hb d_L5_177 hl (by decide) rfl (fun ls hl => ?_)
    refine lv_iinc (v := oI (x8 + 1)) (lv' := [(8, .int (oI (x8 + 1))), (7, .int (oI 0)), (0, .ref (ad 1)), (1, .ref (ad q1)), (5, .int (oI x5)), (9, .int (oI x9))]) hx hb d_L5_179 hl (k := 4) rfl (oI_add x8 1) (by decide) rfl (fun ls hl => ?_)
    refine lv_goto (tgt := 101) hx hb d_L5_182 (by decide) ?_
    obtain ⟨rfl, rfl, rfl, rfl, rfl⟩ := in5 h
    exact W.wide (by omega) (by omega) (k0 ad hag0 hE0 rfl H locs ls hP hD hS (lv_sub hl [2, 3, 4, 1, 0] rfl))
  · have h := ite_t ((oI_eq (a := r28) (b := (min x9 r29)) ok32 (rg_min (x := x9) (y := r29) ok30 ok31)).mp c9) h
    refine lv_iconst (v := oI 1) hx hb d_L5_172 (by decide +kernel) ?_
    refine lv_goto (tgt := 177) hx hb d_L5_173 (by decide) ?_
    refine lv_istore (lv' := [(7, .int (oI 1)), (0, .ref (ad 1)), (1, .ref (ad q1)), (5, .int (oI x5)), (8, .int (oI x8)), (9, .int (oI x9))]) hx hb d_L5_177 hl (by decide) rfl (fun ls hl => ?_)
    refine lv_iinc (v := oI (x8 + 1)) (lv' := [(8, .int (oI (x8 + 1))), (7, .int (oI 1)), (0, .ref (ad 1)), (1, .ref (ad q1)), (5, .int (oI x5)), (9, .int (oI x9))]) hx hb d_L5_179 hl (k := 4) rfl (oI_add x8 1) (by decide) rfl (fun ls hl => ?_)
    refine lv_goto (tgt := 101) hx hb d_L5_182 (by decide) ?_
    obtain ⟨rfl, rfl, rfl, rfl, rfl⟩ := in5 h
    exact W.wide (by omega) (by omega) (k0 ad hag0 hE0 rfl H locs ls hP hD hS (lv_sub hl [2, 3, 4, 1, 0] rfl))
set_option maxRecDepth 100000 in
set_option maxHeartbeats 4000000 in
theorem b_La_transferable_101b (l : Launch) (z : Zz) (E0 : Ev) (ad0 : Nat → Nat) (ad : Nat → Nat) (E : Ev) (M : Mm) (q1 : Nat) (x5 : Int) (x7 : Int) (x8 : Int) (t : Nat) (w7 : Int) (w8 : Int) (F : Ev) (N : Mm) {Q : State → Prop} {p : Program} {e : Env} {s : State} {m : MethodId} {below : List Frame} {meth : Method} {c : Code} {A : Nat → Prop} {args : Array Value} (hx : p.tables.exec = Jvm.exec) (hb : c.code = method_5_code) (hml : c.maxLocals = 14) (hts : ∀ w ∈ WG, w.before args s = true) (hown : s.vm.findClass "BallothallLaw" = some m.cls) (hlocks : meth.locks = false) (hA : ∀ q, s.heap.size ≤ q → A q) (hG : KG z s) (hZ : FZ z A s) (mc ms c0 s0 c1 s1 : Nat) (hc : c0 + 0 ≤ c1) (hs : s0 + 0 ≤ s1) (hm : c1 ≤ mc) (hm2 : s1 ≤ ms) (hag0 : ∀ i, i < nE E0 → ad i = ad0 i) (hE0 : nE E0 ≤ nE E) (h : La_transferable_101b E M q1 x5 x7 x8 = some (t, w7, w8, F, N)) (k0 : ∀ (ad1 : Nat → Nat), (∀ i, i < nE E0 → ad1 i = ad0 i) → nE E0 ≤ nE F → t = 0 → ∀ (H : Heap) (locs : List Loc) (ls : Array Slot), va_P z.1 classes (wv z ad1 F N) H → va_D A (wv z ad1 F N) → va_S A s.heap H locs → lv_has ls 14 [(0, .ref (ad1 1)), (1, .ref (ad1 q1)), (5, .int (oI x5)), (7, .int (oI w7)), (8, .int (oI w8))] → W p l e (rmK 8 205 mc ms) s m args below meth c H locs c1 s1 Q (F0 m 101 ls [])) (k1 : ∀ (ad1 : Nat → Nat), (∀ i, i < nE E0 → ad1 i = ad0 i) → nE E0 ≤ nE F → t = 1 → ∀ (H : Heap) (locs : List Loc) (ls : Array Slot), va_P z.1 classes (wv z ad1 F N) H → va_D A (wv z ad1 F N) → va_S A s.heap H locs → lv_has ls 14 [(0, .ref (ad1 1)), (1, .ref (ad1 q1)), (7, .int (oI w7))] → W p l e (rmK 8 205 mc ms) s m args below meth c H locs c1 s1 Q (F0 m 185 ls [])) : ∀ (H : Heap) (locs : List Loc) (ls : Array Slot), va_P z.1 classes (wv z ad E M) H → va_D A (wv z ad E M) → va_S A s.heap H locs → lv_has ls 14 [(0, .ref (ad 1)), (1, .ref (ad q1)), (5, .int (oI x5)), (7, .int (oI x7)), (8, .int (oI x8))] → W p l e (rmK 8 205 mc ms) s m args below meth c H locs c0 s0 Q (F0 m 101 ls []) := by
  intro H locs ls hP hD hS hl
  unfold La_transferable_101b at h
  obtain ⟨hL, h⟩ := ck_e h
  obtain ⟨h_q1, h⟩ := ck_e h
  refine lv_iload hx hb d_L5_101 (lv_at hl 4 rfl) ?_
  refine lv_iconst (v := oI 1) hx hb d_L5_103 (by decide +kernel) ?_
  refine lv_aload_n hx hb d_L5_104 rfl (lv_at hl 1 rfl) ?_
  refine m_giN (C := "BallothallLaw$Box") (T := TX12) (N := 4) (ci := 12) (k := 0) hx hb hts iX12 hown hG hP h_q1.1 h_q1.2 rfl (by decide) n_775 rfl (fun _ h9 => h9) rfl rfl d_L5_105 ?_
  obtain ⟨ok15, h⟩ := ck_e h
  refine lv_ishl hx hb d_L5_108 ?_
  refine nrm (oI_one_shl ok15) ?_
  obtain ⟨ok16, h⟩ := ck_e h
  obtain ⟨ok17, h⟩ := ck_e h
  refine lv_icmp_ge (tgt := 185) hx hb d_L5_109 (by decide) (fun c9 => ?_) (fun c9 => ?_)
  · have h := ite_t ((oI_le (a := (2 ^ (M q1 0).toNat)) (b := x8) ok17 ok16).mp c9) h
    obtain ⟨rfl, rfl, rfl, rfl, rfl⟩ := in5 h
    exact W.wide (by omega) (by omega) (k1 ad hag0 hE0 rfl H locs ls hP hD hS (lv_sub hl [0, 1, 3] rfl))
  · have h := ite_f (fun q => c9 ((oI_le (a := (2 ^ (M q1 0).toNat)) (b := x8) ok17 ok16).mpr q)) h
    refine lv_aload_n hx hb d_L5_112 rfl (lv_at hl 1 rfl) ?_
    refine lv_iload hx hb d_L5_113 (lv_at hl 4 rfl) ?_
    obtain ⟨r18, g18, h⟩ := bd_e h
    refine kV (As := [.int (oI x8)]) (rest := []) (s_Lb_solid l z ad E M q1 x8 r18 hL g18) hx hb hml hown hts w_1260 w_1257 w_1258 w_1259 w_12 md_9f64f5 ⟨Nat.le_of_ble_eq_true rfl, Nat.le_of_ble_eq_true rfl⟩ hG hZ hP hD hS hA q1 (wv_o (ci := 12) h_q1.1 h_q1.2) rfl rfl rfl hl.1 rfl (Nat.le_of_ble_eq_true rfl) d_L5_115 ⟨(show _ ≤ mc by omega), (show _ ≤ ms by omega)⟩ (fun _ H locs hP hD hS => ?_)
    have hP : va_P z.1 classes (wv z ad E M) H := hP
    have hD : va_D A (wv z ad E M) := hD
    refine W.eq (g2 := F0 m 118 ls [.int (oI r18)]) rfl ?_
    refine lv_aload_n hx hb d_L5_118 rfl (lv_at hl 0 rfl) ?_
    obtain ⟨r19, g19, h⟩ := bd_e h
    refine kV (As := []) (rest := [.int (oI r18)]) (s_B_quota l z ad E M r19 hL g19) hx hb hml hown hts w_1254 w_1251 w_1252 w_1253 w_1 md_689494 ⟨Nat.le_of_ble_eq_true rfl, Nat.le_of_ble_eq_true rfl⟩ hG hZ hP hD hS hA 1 (wv_o (ci := 11) (yi_1 hL) (yt_1 hL)) rfl rfl rfl hl.1 rfl (Nat.le_of_ble_eq_true rfl) d_L5_119 ⟨(show _ ≤ mc by omega), (show _ ≤ ms by omega)⟩ (fun _ H locs hP hD hS => ?_)
    have hP : va_P z.1 classes (wv z ad E M) H := hP
    have hD : va_D A (wv z ad E M) := hD
    refine W.eq (g2 := F0 m 122 ls [.int (oI r19), .int (oI r18)]) rfl ?_
    obtain ⟨ok20, h⟩ := ck_e h
    obtain ⟨ok21, h⟩ := ck_e h
    refine lv_idiv hx hb d_L5_122 (oI_nz ok21.1 ok21.2) ?_
    refine nrm (oI_div (a := r18) (b := r19) ok20.1 ok20.2 ok21.1 ok21.2) ?_
    refine lv_istore (lv' := [(9, .int (oI (r18 / r19))), (0, .ref (ad 1)), (1, .ref (ad q1)), (5, .int (oI x5)), (7, .int (oI x7)), (8, .int (oI x8))]) hx hb d_L5_123 hl (by decide) rfl (fun ls hl => ?_)
    refine lv_iload hx hb d_L5_125 (lv_at hl 4 rfl) ?_
    obtain ⟨ok22, h⟩ := ck_e h
    refine lv_if_eq (tgt := 176) hx hb d_L5_127 (by decide) (fun c9 => ?_) (fun c9 => ?_)
    · have h := ite_t ((oI_eq0 ok22).mp c9) h
      refine lv_iconst (v := oI 0) hx hb d_L5_176 (by decide +kernel) ?_
      refine lv_istore (lv' := [(7, .int (oI 0)), (9, .int (oI (r18 / r19))), (0, .ref (ad 1)), (1, .ref (ad q1)), (5, .int (oI x5)), (8, .int (oI x8))]) hx hb d_L5_177 hl (by decide) rfl (fun ls hl => ?_)
      refine lv_iinc (v := oI (x8 + 1)) (lv' := [(8, .int (oI (x8 + 1))), (7, .int (oI 0)), (9, .int (oI (r18 / r19))), (0, .ref (ad 1)), (1, .ref (ad q1)), (5, .int (oI x5))]) hx hb d_L5_179 hl (k := 5) rfl (oI_add x8 1) (by decide) rfl (fun ls hl => ?_)
      refine lv_goto (tgt := 101) hx hb d_L5_182 (by decide) ?_
      obtain ⟨rfl, rfl, rfl, rfl, rfl⟩ := in5 h
      exact W.wide (by omega) (by omega) (k0 ad hag0 hE0 rfl H locs ls hP hD hS (lv_sub hl [3, 4, 5, 1, 0] rfl))
    · have h := ite_f (fun q => c9 ((oI_eq0 ok22).mpr q)) h
      refine lv_iload hx hb d_L5_130 (lv_at hl 5 rfl) ?_
      refine lv_iload hx hb d_L5_132 (lv_at hl 3 rfl) ?_
      obtain ⟨ok23, h⟩ := ck_e h
      obtain ⟨ok24, h⟩ := ck_e h
      refine lv_iand hx hb d_L5_134 ?_
      refine nrm (oI_and (a := x8) (b := x5) ok23.1 ok23.2 ok24.1 ok24.2) ?_
      obtain ⟨r25, g25, h⟩ := bd_e h
      refine kS (As := [.int (oI (andI x8 x5))]) (rest := []) (s_In_bitCount l z ad E M (andI x8 x5) r25 hL g25) hx hb hml hown hts w_657 w_1256 w_656 w_30 md_eafe8c ⟨Nat.le_of_ble_eq_true rfl, Nat.le_of_ble_eq_true rfl⟩ hG hZ hP hD hS hA rfl hl.1 rfl (Nat.le_of_ble_eq_true rfl) d_L5_135 ⟨(show _ ≤ mc by omega), (show _ ≤ ms by omega)⟩ (fun _ H locs hP hD hS => ?_)
      have hP : va_P z.1 classes (wv z ad E M) H := hP
      have hD : va_D A (wv z ad E M) := hD
      refine W.eq (g2 := F0 m 138 ls [.int (oI r25)]) rfl ?_
      refine lv_iload hx hb d_L5_138 (lv_at hl 0 rfl) ?_
      obtain ⟨ok26, h⟩ := ck_e h
      obtain ⟨ok27, h⟩ := ck_e h
      refine lv_icmp_ge (tgt := 153) hx hb d_L5_140 (by decide) (fun c9 => ?_) (fun c9 => ?_)
      · have h := ite_t ((oI_le (a := (r18 / r19)) (b := r25) ok27 ok26).mp c9) h
        exact b_La_transferable_j153 l z E0 ad0 ad E M q1 x5 x8 (r18 / r19) t w7 w8 F N hx hb hml hts hown hlocks hA hG hZ mc ms _ _ c1 s1 (by omega) (by omega) hm hm2 hag0 hE0 h k0 k1 H locs ls hP hD hS (lv_sub hl [1, 2, 3, 5, 0] rfl)
      · have h := ite_f (fun q => c9 ((oI_le (a := (r18 / r19)) (b := r25) ok27 ok26).mpr q)) h
        refine lv_iload hx hb d_L5_143 (lv_at hl 5 rfl) ?_
        refine lv_iload hx hb d_L5_145 (lv_at hl 3 rfl) ?_
        refine lv_iand hx hb d_L5_147 ?_
        refine nrm (oI_and (a := x8) (b := x5) ok23.1 ok23.2 ok24.1 ok24.2) ?_
        refine lv_iload hx hb d_L5_148 (lv_at hl 5 rfl) ?_
        refine lv_icmp_ne (tgt := 176) hx hb d_L5_150 (by decide) (fun c9 => ?_) (fun c9 => ?_)
        · have h := ite_f (fun q => c9 ((oI_eq (a := (andI x8 x5)) (b := x8) (rg_nn (and_nn ok23)) ok16).mpr q)) h
          refine lv_iconst (v := oI 0) hx hb d_L5_176 (by decide +kernel) ?_
          refine lv_istore (lv' := [(7, .int (oI 0)), (9, .int (oI (r18 / r19))), (0, .ref (ad 1)), (1, .ref (ad q1)), (5, .int (oI x5)), (8, .int (oI x8))]) hx hb d_L5_177 hl (by decide) rfl (fun ls hl => ?_)
          refine lv_iinc (v := oI (x8 + 1)) (lv' := [(8, .int (oI (x8 + 1))), (7, .int (oI 0)), (9, .int (oI (r18 / r19))), (0, .ref (ad 1)), (1, .ref (ad q1)), (5, .int (oI x5))]) hx hb d_L5_179 hl (k := 5) rfl (oI_add x8 1) (by decide) rfl (fun ls hl => ?_)
          refine lv_goto (tgt := 101) hx hb d_L5_182 (by decide) ?_
          obtain ⟨rfl, rfl, rfl, rfl, rfl⟩ := in5 h
          exact W.wide (by omega) (by omega) (k0 ad hag0 hE0 rfl H locs ls hP hD hS (lv_sub hl [3, 4, 5, 1, 0] rfl))
        · have h := ite_t ((oI_eq (a := (andI x8 x5)) (b := x8) (rg_nn (and_nn ok23)) ok16).mp c9) h
          exact b_La_transferable_j153 l z E0 ad0 ad E M q1 x5 x8 (r18 / r19) t w7 w8 F N hx hb hml hts hown hlocks hA hG hZ mc ms _ _ c1 s1 (by omega) (by omega) hm hm2 hag0 hE0 h k0 k1 H locs ls hP hD hS (lv_sub hl [1, 2, 3, 5, 0] rfl)
set_option maxRecDepth 100000 in
set_option maxHeartbeats 4000000 in
theorem s_La_transferable_101 (l : Launch) (z : Zz) (E0 : Ev) (ad0 : Nat → Nat) (q1 : Nat) (x5 : Int) {Q : State → Prop} {p : Program} {e : Env} {s : State} {m : MethodId} {below : List Frame} {meth : Method} {c : Code} {A : Nat → Prop} {args : Array Value} (hx : p.tables.exec = Jvm.exec) (hb : c.code = method_5_code) (hml : c.maxLocals = 14) (hts : ∀ w ∈ WG, w.before args s = true) (hown : s.vm.findClass "BallothallLaw" = some m.cls) (hlocks : meth.locks = false) (hA : ∀ q, s.heap.size ≤ q → A q) (hG : KG z s) (hZ : FZ z A s) (mc ms c1 s1 : Nat) (hm : c1 ≤ mc) (hm2 : s1 ≤ ms) : ∀ (fu c0 s0 : Nat) (ad : Nat → Nat) (E : Ev) (M : Mm) (x7 : Int) (x8 : Int) (t : Nat) (w7 : Int) (w8 : Int) (F : Ev) (N : Mm), c0 + fu * 0 ≤ c1 → s0 + fu * 0 ≤ s1 → (∀ i, i < nE E0 → ad i = ad0 i) → nE E0 ≤ nE E → l_La_transferable_101 q1 x5 fu E M x7 x8 = some (t, w7, w8, F, N) → (∀ (ad1 : Nat → Nat), (∀ i, i < nE E0 → ad1 i = ad0 i) → nE E0 ≤ nE F → t = 1 → ∀ (H : Heap) (locs : List Loc) (ls : Array Slot), va_P z.1 classes (wv z ad1 F N) H → va_D A (wv z ad1 F N) → va_S A s.heap H locs → lv_has ls 14 [(0, .ref (ad1 1)), (1, .ref (ad1 q1)), (7, .int (oI w7))] → W p l e (rmK 8 205 mc ms) s m args below meth c H locs c1 s1 Q (F0 m 185 ls [])) → ∀ (H : Heap) (locs : List Loc) (ls : Array Slot), va_P z.1 classes (wv z ad E M) H → va_D A (wv z ad E M) → va_S A s.heap H locs → lv_has ls 14 [(0, .ref (ad 1)), (1, .ref (ad q1)), (5, .int (oI x5)), (7, .int (oI x7)), (8, .int (oI x8))] → W p l e (rmK 8 205 mc ms) s m args below meth c H locs c0 s0 Q (F0 m 101 ls []) := by
  intro fu
  induction fu with
  | zero =>
    intro c0 s0 ad E M x7 x8 t w7 w8 F N hc hs hag0 hE0 h
    have h : (none : Option (Nat × Int × Int × Ev × Mm)) = some _ := h
    cases h
  | succ fu ih =>
    intro c0 s0 ad E M x7 x8 t w7 w8 F N hc hs hag0 hE0 h k1 H locs ls hP hD hS hl
    obtain ⟨⟨t0, w70, w80, F9, N9⟩, g0, h⟩ := bd_e h
    refine W.wide (Nat.le_refl _) (Nat.le_refl _) (b_La_transferable_101b l z E0 ad0 ad E M q1 x5 x7 x8 t0 w70 w80 F9 N9 hx hb hml hts hown hlocks hA hG hZ mc ms c0 s0 (c0 + 0) (s0 + 0) (Nat.le_refl _) (Nat.le_refl _) (by omega) (by omega) hag0 hE0 g0 (fun ad1 ha he e0 => ?_) (fun ad1 ha he e0 => ?_) H locs ls hP hD hS hl)
    · subst e0
      have h := ite_t rfl h
      exact ih (c0 + 0) (s0 + 0) ad1 F9 N9 w70 w80 t w7 w8 F N (by omega) (by omega) ha he h k1
    · subst e0
      have h := ite_f (by decide) h
      obtain ⟨rfl, rfl, rfl, rfl, rfl⟩ := in5 h
      exact fun H locs ls hP hD hS hl => W.wide (by omega) (by omega) (k1 ad1 ha he rfl H locs ls hP hD hS hl)
set_option maxRecDepth 100000 in
set_option maxHeartbeats 4000000 in
theorem b_La_transferable_223b (l : Launch) (z : Zz) (E0 : Ev) (ad0 : Nat → Nat) (ad : Nat → Nat) (E : Ev) (M : Mm) (q1 : Nat) (x8 : Int) (x9 : Int) (x11 : Int) (x12 : Int) (x13 : Int) (t : Nat) (w12 : Int) (w13 : Int) (F : Ev) (N : Mm) {Q : State → Prop} {p : Program} {e : Env} {s : State} {m : MethodId} {below : List Frame} {meth : Method} {c : Code} {A : Nat → Prop} {args : Array Value} (hx : p.tables.exec = Jvm.exec) (hb : c.code = method_5_code) (hml : c.maxLocals = 14) (hts : ∀ w ∈ WG, w.before args s = true) (hown : s.vm.findClass "BallothallLaw" = some m.cls) (hlocks : meth.locks = false) (hA : ∀ q, s.heap.size ≤ q → A q) (hG : KG z s) (hZ : FZ z A s) (mc ms c0 s0 c1 s1 : Nat) (hc : c0 + 0 ≤ c1) (hs : s0 + 0 ≤ s1) (hm : c1 ≤ mc) (hm2 : s1 ≤ ms) (hag0 : ∀ i, i < nE E0 → ad i = ad0 i) (hE0 : nE E0 ≤ nE E) (h : La_transferable_223b E M q1 x8 x9 x11 x12 x13 = some (t, w12, w13, F, N)) (k0 : ∀ (ad1 : Nat → Nat), (∀ i, i < nE E0 → ad1 i = ad0 i) → nE E0 ≤ nE F → t = 0 → ∀ (H : Heap) (locs : List Loc) (ls : Array Slot), va_P z.1 classes (wv z ad1 F N) H → va_D A (wv z ad1 F N) → va_S A s.heap H locs → lv_has ls 14 [(0, .ref (ad1 1)), (1, .ref (ad1 q1)), (8, .int (oI x8)), (9, .long (oJ x9)), (11, .int (oI x11)), (12, .int (oI w12)), (13, .int (oI w13))] → W p l e (rmK 8 205 mc ms) s m args below meth c H locs c1 s1 Q (F0 m 223 ls [])) (k1 : ∀ (ad1 : Nat → Nat), (∀ i, i < nE E0 → ad1 i = ad0 i) → nE E0 ≤ nE F → t = 1 → ∀ (H : Heap) (locs : List Loc) (ls : Array Slot), va_P z.1 classes (wv z ad1 F N) H → va_D A (wv z ad1 F N) → va_S A s.heap H locs → lv_has ls 14 [(0, .ref (ad1 1)), (1, .ref (ad1 q1)), (8, .int (oI x8)), (9, .long (oJ x9)), (11, .int (oI x11)), (12, .int (oI w12))] → W p l e (rmK 8 205 mc ms) s m args below meth c H locs c1 s1 Q (F0 m 261 ls [])) : ∀ (H : Heap) (locs : List Loc) (ls : Array Slot), va_P z.1 classes (wv z ad E M) H → va_D A (wv z ad E M) → va_S A s.heap H locs → lv_has ls 14 [(0, .ref (ad 1)), (1, .ref (ad q1)), (8, .int (oI x8)), (9, .long (oJ x9)), (11, .int (oI x11)), (12, .int (oI x12)), (13, .int (oI x13))] → W p l e (rmK 8 205 mc ms) s m args below meth c H locs c0 s0 Q (F0 m 223 ls []) := by
  intro H locs ls hP hD hS hl
  unfold La_transferable_223b at h
  obtain ⟨hL, h⟩ := ck_e h
  obtain ⟨h_q1, h⟩ := ck_e h
  refine lv_iload hx hb d_L5_223 (lv_at hl 6 rfl) ?_
  refine lv_aload_n hx hb d_L5_225 rfl (lv_at hl 1 rfl) ?_
  refine m_giN (C := "BallothallLaw$Box") (T := TX12) (N := 4) (ci := 12) (k := 0) hx hb hts iX12 hown hG hP h_q1.1 h_q1.2 rfl (by decide) n_775 rfl (fun _ h9 => h9) rfl rfl d_L5_226 ?_
  obtain ⟨ok39, h⟩ := ck_e h
  obtain ⟨ok40, h⟩ := ck_e h
  refine lv_icmp_ge (tgt := 261) hx hb d_L5_229 (by decide) (fun c9 => ?_) (fun c9 => ?_)
  · have h := ite_t ((oI_le (a := (M q1 0)) (b := x13) ok40 ok39).mp c9) h
    obtain ⟨rfl, rfl, rfl, rfl, rfl⟩ := in5 h
    exact W.wide (by omega) (by omega) (k1 ad hag0 hE0 rfl H locs ls hP hD hS (lv_sub hl [0, 1, 2, 3, 4, 5] rfl))
  · have h := ite_f (fun q => c9 ((oI_le (a := (M q1 0)) (b := x13) ok40 ok39).mpr q)) h
    refine lv_iload hx hb d_L5_232 (lv_at hl 5 rfl) ?_
    refine lv_aload_n hx hb d_L5_234 rfl (lv_at hl 1 rfl) ?_
    obtain ⟨p41, g41, h⟩ := bd_e h
    obtain ⟨h_p41, h⟩ := ck_e h
    refine m_grN (j := p41) (C := "BallothallLaw$Box") (T := TX12) (N := 4) (ci := 12) (k := 1) hx hb hts iX12 hown hG hP h_q1.1 h_q1.2 rfl (by decide) n_777 rfl (fun _ h9 => h9) rfl rfl g41 d_L5_235 ?_
    refine lv_iload hx hb d_L5_238 (lv_at hl 4 rfl) ?_
    obtain ⟨ok42, h⟩ := ck_e h
    obtain ⟨p43, g43, h⟩ := bd_e h
    obtain ⟨h_p43, h⟩ := ck_e h
    refine m_ar (k := p43) hx hb hG hP h_p41.1 (isQ_T h_p41) ok42 g43 d_L5_240 ?_
    refine lv_iload hx hb d_L5_241 (lv_at hl 6 rfl) ?_
    obtain ⟨ok44, h⟩ := ck_e h
    refine m_ia hx hb hG hP h_p43.1 (isIA_T h_p43) ok44 d_L5_243 ?_
    obtain ⟨ok45, h⟩ := ck_e h
    refine lv_if_ne (tgt := 251) hx hb d_L5_244 (by decide) (fun c9 => ?_) (fun c9 => ?_)
    · have h := ite_f (fun q => c9 ((oI_eq0 ok45).mpr q)) h
      refine lv_iconst (v := oI 0) hx hb d_L5_251 (by decide +kernel) ?_
      refine lv_iadd hx hb d_L5_252 ?_
      refine nrm (oI_add _ _) ?_
      refine lv_istore (lv' := [(12, .int (oI (x12 + 0))), (0, .ref (ad 1)), (1, .ref (ad q1)), (8, .int (oI x8)), (9, .long (oJ x9)), (11, .int (oI x11)), (13, .int (oI x13))]) hx hb d_L5_253 hl (by decide) rfl (fun ls hl => ?_)
      refine lv_iinc (v := oI (x13 + 1)) (lv' := [(13, .int (oI (x13 + 1))), (12, .int (oI (x12 + 0))), (0, .ref (ad 1)), (1, .ref (ad q1)), (8, .int (oI x8)), (9, .long (oJ x9)), (11, .int (oI x11))]) hx hb d_L5_255 hl (k := 6) rfl (oI_add x13 1) (by decide) rfl (fun ls hl => ?_)
      refine lv_goto (tgt := 223) hx hb d_L5_258 (by decide) ?_
      obtain ⟨rfl, rfl, rfl, rfl, rfl⟩ := in5 h
      exact W.wide (by omega) (by omega) (k0 ad hag0 hE0 rfl H locs ls hP hD hS (lv_sub hl [2, 3, 4, 5, 6, 1, 0] rfl))
    · have h := ite_t ((oI_eq0 ok45).mp c9) h
      refine lv_iconst (v := oI 1) hx hb d_L5_247 (by decide +kernel) ?_
      refine lv_goto (tgt := 252) hx hb d_L5_248 (by decide) ?_
      refine lv_iadd hx hb d_L5_252 ?_
      refine nrm (oI_add _ _) ?_
      refine lv_istore (lv' := [(12, .int (oI (x12 + 1))), (0, .ref (ad 1)), (1, .ref (ad q1)), (8, .int (oI x8)), (9, .long (oJ x9)), (11, .int (oI x11)), (13, .int (oI x13))]) hx hb d_L5_253 hl (by decide) rfl (fun ls hl => ?_)
      refine lv_iinc (v := oI (x13 + 1)) (lv' := [(13, .int (oI (x13 + 1))), (12, .int (oI (x12 + 1))), (0, .ref (ad 1)), (1, .ref (ad q1)), (8, .int (oI x8)), (9, .long (oJ x9)), (11, .int (oI x11))]) hx hb d_L5_255 hl (k := 6) rfl (oI_add x13 1) (by decide) rfl (fun ls hl => ?_)
      refine lv_goto (tgt := 223) hx hb d_L5_258 (by decide) ?_
      obtain ⟨rfl, rfl, rfl, rfl, rfl⟩ := in5 h
      exact W.wide (by omega) (by omega) (k0 ad hag0 hE0 rfl H locs ls hP hD hS (lv_sub hl [2, 3, 4, 5, 6, 1, 0] rfl))
set_option maxRecDepth 100000 in
set_option maxHeartbeats 4000000 in
theorem s_La_transferable_223 (l : Launch) (z : Zz) (E0 : Ev) (ad0 : Nat → Nat) (q1 : Nat) (x8 : Int) (x9 : Int) (x11 : Int) {Q : State → Prop} {p : Program} {e : Env} {s : State} {m : MethodId} {below : List Frame} {meth : Method} {c : Code} {A : Nat → Prop} {args : Array Value} (hx : p.tables.exec = Jvm.exec) (hb : c.code = method_5_code) (hml : c.maxLocals = 14) (hts : ∀ w ∈ WG, w.before args s = true) (hown : s.vm.findClass "BallothallLaw" = some m.cls) (hlocks : meth.locks = false) (hA : ∀ q, s.heap.size ≤ q → A q) (hG : KG z s) (hZ : FZ z A s) (mc ms c1 s1 : Nat) (hm : c1 ≤ mc) (hm2 : s1 ≤ ms) : ∀ (fu c0 s0 : Nat) (ad : Nat → Nat) (E : Ev) (M : Mm) (x12 : Int) (x13 : Int) (t : Nat) (w12 : Int) (w13 : Int) (F : Ev) (N : Mm), c0 + fu * 0 ≤ c1 → s0 + fu * 0 ≤ s1 → (∀ i, i < nE E0 → ad i = ad0 i) → nE E0 ≤ nE E → l_La_transferable_223 q1 x8 x9 x11 fu E M x12 x13 = some (t, w12, w13, F, N) → (∀ (ad1 : Nat → Nat), (∀ i, i < nE E0 → ad1 i = ad0 i) → nE E0 ≤ nE F → t = 1 → ∀ (H : Heap) (locs : List Loc) (ls : Array Slot), va_P z.1 classes (wv z ad1 F N) H → va_D A (wv z ad1 F N) → va_S A s.heap H locs → lv_has ls 14 [(0, .ref (ad1 1)), (1, .ref (ad1 q1)), (8, .int (oI x8)), (9, .long (oJ x9)), (11, .int (oI x11)), (12, .int (oI w12))] → W p l e (rmK 8 205 mc ms) s m args below meth c H locs c1 s1 Q (F0 m 261 ls [])) → ∀ (H : Heap) (locs : List Loc) (ls : Array Slot), va_P z.1 classes (wv z ad E M) H → va_D A (wv z ad E M) → va_S A s.heap H locs → lv_has ls 14 [(0, .ref (ad 1)), (1, .ref (ad q1)), (8, .int (oI x8)), (9, .long (oJ x9)), (11, .int (oI x11)), (12, .int (oI x12)), (13, .int (oI x13))] → W p l e (rmK 8 205 mc ms) s m args below meth c H locs c0 s0 Q (F0 m 223 ls []) := by
  intro fu
  induction fu with
  | zero =>
    intro c0 s0 ad E M x12 x13 t w12 w13 F N hc hs hag0 hE0 h
    have h : (none : Option (Nat × Int × Int × Ev × Mm)) = some _ := h
    cases h
  | succ fu ih =>
    intro c0 s0 ad E M x12 x13 t w12 w13 F N hc hs hag0 hE0 h k1 H locs ls hP hD hS hl
    obtain ⟨⟨t0, w120, w130, F9, N9⟩, g0, h⟩ := bd_e h
    refine W.wide (Nat.le_refl _) (Nat.le_refl _) (b_La_transferable_223b l z E0 ad0 ad E M q1 x8 x9 x11 x12 x13 t0 w120 w130 F9 N9 hx hb hml hts hown hlocks hA hG hZ mc ms c0 s0 (c0 + 0) (s0 + 0) (Nat.le_refl _) (Nat.le_refl _) (by omega) (by omega) hag0 hE0 g0 (fun ad1 ha he e0 => ?_) (fun ad1 ha he e0 => ?_) H locs ls hP hD hS hl)
    · subst e0
      have h := ite_t rfl h
      exact ih (c0 + 0) (s0 + 0) ad1 F9 N9 w120 w130 t w12 w13 F N (by omega) (by omega) ha he h k1
    · subst e0
      have h := ite_f (by decide) h
      obtain ⟨rfl, rfl, rfl, rfl, rfl⟩ := in5 h
      exact fun H locs ls hP hD hS hl => W.wide (by omega) (by omega) (k1 ad1 ha he rfl H locs ls hP hD hS hl)
set_option maxRecDepth 100000 in
set_option maxHeartbeats 4000000 in
theorem b_La_transferable_208b (l : Launch) (z : Zz) (E0 : Ev) (ad0 : Nat → Nat) (ad : Nat → Nat) (E : Ev) (M : Mm) (q1 : Nat) (x8 : Int) (x9 : Int) (x11 : Int) (t : Nat) (w9 : Int) (w11 : Int) (F : Ev) (N : Mm) {Q : State → Prop} {p : Program} {e : Env} {s : State} {m : MethodId} {below : List Frame} {meth : Method} {c : Code} {A : Nat → Prop} {args : Array Value} (hx : p.tables.exec = Jvm.exec) (hb : c.code = method_5_code) (hml : c.maxLocals = 14) (hts : ∀ w ∈ WG, w.before args s = true) (hown : s.vm.findClass "BallothallLaw" = some m.cls) (hlocks : meth.locks = false) (hA : ∀ q, s.heap.size ≤ q → A q) (hG : KG z s) (hZ : FZ z A s) (mc ms c0 s0 c1 s1 : Nat) (hc : c0 + 0 ≤ c1) (hs : s0 + 0 ≤ s1) (hm : c1 ≤ mc) (hm2 : s1 ≤ ms) (hag0 : ∀ i, i < nE E0 → ad i = ad0 i) (hE0 : nE E0 ≤ nE E) (h : La_transferable_208b E M q1 x8 x9 x11 = some (t, w9, w11, F, N)) (k0 : ∀ (ad1 : Nat → Nat), (∀ i, i < nE E0 → ad1 i = ad0 i) → nE E0 ≤ nE F → t = 0 → ∀ (H : Heap) (locs : List Loc) (ls : Array Slot), va_P z.1 classes (wv z ad1 F N) H → va_D A (wv z ad1 F N) → va_S A s.heap H locs → lv_has ls 14 [(0, .ref (ad1 1)), (1, .ref (ad1 q1)), (8, .int (oI x8)), (9, .long (oJ w9)), (11, .int (oI w11))] → W p l e (rmK 8 205 mc ms) s m args below meth c H locs c1 s1 Q (F0 m 208 ls [])) (k1 : ∀ (ad1 : Nat → Nat), (∀ i, i < nE E0 → ad1 i = ad0 i) → nE E0 ≤ nE F → t = 1 → ∀ (H : Heap) (locs : List Loc) (ls : Array Slot), va_P z.1 classes (wv z ad1 F N) H → va_D A (wv z ad1 F N) → va_S A s.heap H locs → lv_has ls 14 [(0, .ref (ad1 1)), (1, .ref (ad1 q1)), (8, .int (oI x8)), (9, .long (oJ w9))] → W p l e (rmK 8 205 mc ms) s m args below meth c H locs c1 s1 Q (F0 m 305 ls [])) : ∀ (H : Heap) (locs : List Loc) (ls : Array Slot), va_P z.1 classes (wv z ad E M) H → va_D A (wv z ad E M) → va_S A s.heap H locs → lv_has ls 14 [(0, .ref (ad 1)), (1, .ref (ad q1)), (8, .int (oI x8)), (9, .long (oJ x9)), (11, .int (oI x11))] → W p l e (rmK 8 205 mc ms) s m args below meth c H locs c0 s0 Q (F0 m 208 ls []) := by
  intro H locs ls hP hD hS hl
  unfold La_transferable_208b at h
  obtain ⟨hL, h⟩ := ck_e h
  obtain ⟨h_q1, h⟩ := ck_e h
  refine lv_iload hx hb d_L5_208 (lv_at hl 4 rfl) ?_
  refine lv_aload_n hx hb d_L5_210 rfl (lv_at hl 1 rfl) ?_
  refine m_giN (C := "BallothallLaw$Box") (T := TX12) (N := 4) (ci := 12) (k := 3) hx hb hts iX12 hown hG hP h_q1.1 h_q1.2 rfl (by decide) n_781 rfl (fun _ h9 => h9) rfl rfl d_L5_211 ?_
  obtain ⟨ok37, h⟩ := ck_e h
  obtain ⟨ok38, h⟩ := ck_e h
  refine lv_icmp_ge (tgt := 305) hx hb d_L5_214 (by decide) (fun c9 => ?_) (fun c9 => ?_)
  · have h := ite_t ((oI_le (a := (M q1 3)) (b := x11) ok38 ok37).mp c9) h
    obtain ⟨rfl, rfl, rfl, rfl, rfl⟩ := in5 h
    exact W.wide (by omega) (by omega) (k1 ad hag0 hE0 rfl H locs ls hP hD hS (lv_sub hl [0, 1, 2, 3] rfl))
  · have h := ite_f (fun q => c9 ((oI_le (a := (M q1 3)) (b := x11) ok38 ok37).mpr q)) h
    refine lv_iconst (v := oI 0) hx hb d_L5_217 (by decide +kernel) ?_
    refine lv_istore (lv' := [(12, .int (oI 0)), (0, .ref (ad 1)), (1, .ref (ad q1)), (8, .int (oI x8)), (9, .long (oJ x9)), (11, .int (oI x11))]) hx hb d_L5_218 hl (by decide) rfl (fun ls hl => ?_)
    refine lv_iconst (v := oI 0) hx hb d_L5_220 (by decide +kernel) ?_
    refine lv_istore (lv' := [(13, .int (oI 0)), (12, .int (oI 0)), (0, .ref (ad 1)), (1, .ref (ad q1)), (8, .int (oI x8)), (9, .long (oJ x9)), (11, .int (oI x11))]) hx hb d_L5_221 hl (by decide) rfl (fun ls hl => ?_)
    obtain ⟨⟨t46, v46_12, v46_13, E46, M46⟩, g46, h⟩ := bd_e h
    obtain ⟨hgw46, h⟩ := ck_e h
    obtain ⟨hL46, h⟩ := ck_e h
    obtain ⟨ok46, h⟩ := ck_e h
    refine s_La_transferable_223 l z E ad q1 x8 x9 x11 hx hb hml hts hown hlocks hA hG hZ mc ms (c0 + 0) (s0 + 0) (by omega) (by omega) 5000 _ _ ad E M 0 0 t46 v46_12 v46_13 E46 M46 (by omega) (by omega) (fun _ _ => rfl) (Nat.le_refl _) g46 (fun ad46 hag46 hEE46 e46 H locs ls hP hD hS hl => ?_) H locs ls hP hD hS (lv_sub hl [2, 3, 4, 5, 6, 1, 0] rfl)
    have hag0 : ∀ i, i < nE E0 → ad46 i = ad0 i := fun i hi => (hag46 i (Nat.lt_of_lt_of_le hi hE0)).trans (hag0 i hi)
    have hE0 : nE E0 ≤ nE E46 := Nat.le_trans hE0 hgw46.1
    have hL : Lay E46 := hL46
    have h_q1 : isO 12 E46 q1 := isO_up hgw46 h_q1
    refine lv_lload hx hb d_L5_261 (lv_at hl 3 rfl) ?_
    refine lv_aload_n hx hb d_L5_263 rfl (lv_at hl 1 rfl) ?_
    obtain ⟨p47, g47, h⟩ := bd_e h
    obtain ⟨h_p47, h⟩ := ck_e h
    refine m_grN (j := p47) (C := "BallothallLaw$Box") (T := TX12) (N := 4) (ci := 12) (k := 1) hx hb hts iX12 hown hG hP h_q1.1 h_q1.2 rfl (by decide) n_777 rfl (fun _ h9 => h9) rfl rfl g47 d_L5_264 ?_
    refine lv_iload hx hb d_L5_267 (lv_at hl 4 rfl) ?_
    obtain ⟨ok48, h⟩ := ck_e h
    obtain ⟨p49, g49, h⟩ := bd_e h
    obtain ⟨h_p49, h⟩ := ck_e h
    refine m_ar (k := p49) hx hb hG hP h_p47.1 (isQ_T h_p47) ok48 g49 d_L5_269 ?_
    refine lv_iload hx hb d_L5_270 (lv_at hl 2 rfl) ?_
    obtain ⟨ok50, h⟩ := ck_e h
    refine m_ia hx hb hG hP h_p49.1 (isIA_T h_p49) ok50 d_L5_272 ?_
    obtain ⟨ok51, h⟩ := ck_e h
    refine lv_if_ne (tgt := 295) hx hb d_L5_273 (by decide) (fun c9 => ?_) (fun c9 => ?_)
    · have h := ite_f (fun q => c9 ((oI_eq0 ok51).mpr q)) h
      refine lv_lconst (v := oJ 0) hx hb d_L5_295 (by decide +kernel) ?_
      refine lv_ladd hx hb d_L5_296 ?_
      refine nrmL (oJ_add _ _) ?_
      refine lv_lstore (lv' := [(9, .long (oJ (x9 + 0))), (0, .ref (ad46 1)), (1, .ref (ad46 q1)), (8, .int (oI x8)), (11, .int (oI x11)), (12, .int (oI v46_12))]) hx hb d_L5_297 hl (by decide) rfl (fun ls hl => ?_)
      refine lv_iinc (v := oI (x11 + 1)) (lv' := [(11, .int (oI (x11 + 1))), (9, .long (oJ (x9 + 0))), (0, .ref (ad46 1)), (1, .ref (ad46 q1)), (8, .int (oI x8)), (12, .int (oI v46_12))]) hx hb d_L5_299 hl (k := 4) rfl (oI_add x11 1) (by decide) rfl (fun ls hl => ?_)
      refine lv_goto (tgt := 208) hx hb d_L5_302 (by decide) ?_
      obtain ⟨rfl, rfl, rfl, rfl, rfl⟩ := in5 h
      exact W.wide (by omega) (by omega) (k0 ad46 hag0 hE0 rfl H locs ls hP hD hS (lv_sub hl [2, 3, 4, 1, 0] rfl))
    · have h := ite_t ((oI_eq0 ok51).mp c9) h
      refine lv_aload_n hx hb d_L5_276 rfl (lv_at hl 1 rfl) ?_
      obtain ⟨p52, g52, h⟩ := bd_e h
      obtain ⟨h_p52, h⟩ := ck_e h
      refine m_grN (j := p52) (C := "BallothallLaw$Box") (T := TX12) (N := 4) (ci := 12) (k := 2) hx hb hts iX12 hown hG hP h_q1.1 h_q1.2 rfl (by decide) n_779 rfl (fun _ h9 => h9) rfl rfl g52 d_L5_277 ?_
      refine lv_iload hx hb d_L5_280 (lv_at hl 4 rfl) ?_
      obtain ⟨ok53, h⟩ := ck_e h
      refine m_ia hx hb hG hP h_p52.1 (isIA_T h_p52) ok53 d_L5_282 ?_
      obtain ⟨ok54, h⟩ := ck_e h
      refine lv_i2l (v := oJ (M46 p52 x11.toNat)) hx hb d_L5_283 (oI_l ok54) ?_
      refine lv_sipush (v := oI 840) hx hb d_L5_284 (by decide +kernel) ?_
      refine lv_iload hx hb d_L5_287 (lv_at hl 5 rfl) ?_
      obtain ⟨ok55, h⟩ := ck_e h
      refine lv_idiv hx hb d_L5_289 (oI_nz ok55.1 ok55.2) ?_
      refine nrm (oI_div (a := (840 : Int)) (b := v46_12) (show nnI 840 by decide).1 (show nnI 840 by decide).2 ok55.1 ok55.2) ?_
      obtain ⟨ok56, h⟩ := ck_e h
      refine lv_i2l (v := oJ ((840 : Int) / v46_12)) hx hb d_L5_290 (oI_l ok56) ?_
      refine lv_lmul hx hb d_L5_291 ?_
      refine nrmL (oJ_mul _ _) ?_
      refine lv_goto (tgt := 296) hx hb d_L5_292 (by decide) ?_
      refine lv_ladd hx hb d_L5_296 ?_
      refine nrmL (oJ_add _ _) ?_
      obtain ⟨v57, e57, h⟩ := nb_e h
      refine nrmL (congrArg oJ e57.symm) ?_
      refine lv_lstore (lv' := [(9, .long (oJ v57)), (0, .ref (ad46 1)), (1, .ref (ad46 q1)), (8, .int (oI x8)), (11, .int (oI x11)), (12, .int (oI v46_12))]) hx hb d_L5_297 hl (by decide) rfl (fun ls hl => ?_)
      refine lv_iinc (v := oI (x11 + 1)) (lv' := [(11, .int (oI (x11 + 1))), (9, .long (oJ v57)), (0, .ref (ad46 1)), (1, .ref (ad46 q1)), (8, .int (oI x8)), (12, .int (oI v46_12))]) hx hb d_L5_299 hl (k := 4) rfl (oI_add x11 1) (by decide) rfl (fun ls hl => ?_)
      refine lv_goto (tgt := 208) hx hb d_L5_302 (by decide) ?_
      obtain ⟨rfl, rfl, rfl, rfl, rfl⟩ := in5 h
      exact W.wide (by omega) (by omega) (k0 ad46 hag0 hE0 rfl H locs ls hP hD hS (lv_sub hl [2, 3, 4, 1, 0] rfl))
set_option maxRecDepth 100000 in
set_option maxHeartbeats 4000000 in
theorem s_La_transferable_208 (l : Launch) (z : Zz) (E0 : Ev) (ad0 : Nat → Nat) (q1 : Nat) (x8 : Int) {Q : State → Prop} {p : Program} {e : Env} {s : State} {m : MethodId} {below : List Frame} {meth : Method} {c : Code} {A : Nat → Prop} {args : Array Value} (hx : p.tables.exec = Jvm.exec) (hb : c.code = method_5_code) (hml : c.maxLocals = 14) (hts : ∀ w ∈ WG, w.before args s = true) (hown : s.vm.findClass "BallothallLaw" = some m.cls) (hlocks : meth.locks = false) (hA : ∀ q, s.heap.size ≤ q → A q) (hG : KG z s) (hZ : FZ z A s) (mc ms c1 s1 : Nat) (hm : c1 ≤ mc) (hm2 : s1 ≤ ms) : ∀ (fu c0 s0 : Nat) (ad : Nat → Nat) (E : Ev) (M : Mm) (x9 : Int) (x11 : Int) (t : Nat) (w9 : Int) (w11 : Int) (F : Ev) (N : Mm), c0 + fu * 0 ≤ c1 → s0 + fu * 0 ≤ s1 → (∀ i, i < nE E0 → ad i = ad0 i) → nE E0 ≤ nE E → l_La_transferable_208 q1 x8 fu E M x9 x11 = some (t, w9, w11, F, N) → (∀ (ad1 : Nat → Nat), (∀ i, i < nE E0 → ad1 i = ad0 i) → nE E0 ≤ nE F → t = 1 → ∀ (H : Heap) (locs : List Loc) (ls : Array Slot), va_P z.1 classes (wv z ad1 F N) H → va_D A (wv z ad1 F N) → va_S A s.heap H locs → lv_has ls 14 [(0, .ref (ad1 1)), (1, .ref (ad1 q1)), (8, .int (oI x8)), (9, .long (oJ w9))] → W p l e (rmK 8 205 mc ms) s m args below meth c H locs c1 s1 Q (F0 m 305 ls [])) → ∀ (H : Heap) (locs : List Loc) (ls : Array Slot), va_P z.1 classes (wv z ad E M) H → va_D A (wv z ad E M) → va_S A s.heap H locs → lv_has ls 14 [(0, .ref (ad 1)), (1, .ref (ad q1)), (8, .int (oI x8)), (9, .long (oJ x9)), (11, .int (oI x11))] → W p l e (rmK 8 205 mc ms) s m args below meth c H locs c0 s0 Q (F0 m 208 ls []) := by
  intro fu
  induction fu with
  | zero =>
    intro c0 s0 ad E M x9 x11 t w9 w11 F N hc hs hag0 hE0 h
    have h : (none : Option (Nat × Int × Int × Ev × Mm)) = some _ := h
    cases h
  | succ fu ih =>
    intro c0 s0 ad E M x9 x11 t w9 w11 F N hc hs hag0 hE0 h k1 H locs ls hP hD hS hl
    obtain ⟨⟨t0, w90, w110, F9, N9⟩, g0, h⟩ := bd_e h
    refine W.wide (Nat.le_refl _) (Nat.le_refl _) (b_La_transferable_208b l z E0 ad0 ad E M q1 x8 x9 x11 t0 w90 w110 F9 N9 hx hb hml hts hown hlocks hA hG hZ mc ms c0 s0 (c0 + 0) (s0 + 0) (Nat.le_refl _) (Nat.le_refl _) (by omega) (by omega) hag0 hE0 g0 (fun ad1 ha he e0 => ?_) (fun ad1 ha he e0 => ?_) H locs ls hP hD hS hl)
    · subst e0
      have h := ite_t rfl h
      exact ih (c0 + 0) (s0 + 0) ad1 F9 N9 w90 w110 t w9 w11 F N (by omega) (by omega) ha he h k1
    · subst e0
      have h := ite_f (by decide) h
      obtain ⟨rfl, rfl, rfl, rfl, rfl⟩ := in5 h
      exact fun H locs ls hP hD hS hl => W.wide (by omega) (by omega) (k1 ad1 ha he rfl H locs ls hP hD hS hl)
set_option maxRecDepth 100000 in
set_option maxHeartbeats 4000000 in
theorem b_La_transferable_188b (l : Launch) (z : Zz) (E0 : Ev) (ad0 : Nat → Nat) (ad : Nat → Nat) (E : Ev) (M : Mm) (q1 : Nat) (x7 : Int) (x8 : Int) (t : Nat) (w7 : Int) (w8 : Int) (F : Ev) (N : Mm) {Q : State → Prop} {p : Program} {e : Env} {s : State} {m : MethodId} {below : List Frame} {meth : Method} {c : Code} {A : Nat → Prop} {args : Array Value} (hx : p.tables.exec = Jvm.exec) (hb : c.code = method_5_code) (hml : c.maxLocals = 14) (hts : ∀ w ∈ WG, w.before args s = true) (hown : s.vm.findClass "BallothallLaw" = some m.cls) (hlocks : meth.locks = false) (hA : ∀ q, s.heap.size ≤ q → A q) (hG : KG z s) (hZ : FZ z A s) (mc ms c0 s0 c1 s1 : Nat) (hc : c0 + 0 ≤ c1) (hs : s0 + 0 ≤ s1) (hm : c1 ≤ mc) (hm2 : s1 ≤ ms) (hag0 : ∀ i, i < nE E0 → ad i = ad0 i) (hE0 : nE E0 ≤ nE E) (h : La_transferable_188b E M q1 x7 x8 = some (t, w7, w8, F, N)) (k0 : ∀ (ad1 : Nat → Nat), (∀ i, i < nE E0 → ad1 i = ad0 i) → nE E0 ≤ nE F → t = 0 → ∀ (H : Heap) (locs : List Loc) (ls : Array Slot), va_P z.1 classes (wv z ad1 F N) H → va_D A (wv z ad1 F N) → va_S A s.heap H locs → lv_has ls 14 [(0, .ref (ad1 1)), (1, .ref (ad1 q1)), (7, .int (oI w7)), (8, .int (oI w8))] → W p l e (rmK 8 205 mc ms) s m args below meth c H locs c1 s1 Q (F0 m 188 ls [])) (k1 : ∀ (ad1 : Nat → Nat), (∀ i, i < nE E0 → ad1 i = ad0 i) → nE E0 ≤ nE F → t = 1 → ∀ (H : Heap) (locs : List Loc) (ls : Array Slot), va_P z.1 classes (wv z ad1 F N) H → va_D A (wv z ad1 F N) → va_S A s.heap H locs → lv_has ls 14 [(0, .ref (ad1 1)), (7, .int (oI w7))] → W p l e (rmK 8 205 mc ms) s m args below meth c H locs c1 s1 Q (F0 m 335 ls [])) : ∀ (H : Heap) (locs : List Loc) (ls : Array Slot), va_P z.1 classes (wv z ad E M) H → va_D A (wv z ad E M) → va_S A s.heap H locs → lv_has ls 14 [(0, .ref (ad 1)), (1, .ref (ad q1)), (7, .int (oI x7)), (8, .int (oI x8))] → W p l e (rmK 8 205 mc ms) s m args below meth c H locs c0 s0 Q (F0 m 188 ls []) := by
  intro H locs ls hP hD hS hl
  unfold La_transferable_188b at h
  obtain ⟨hL, h⟩ := ck_e h
  obtain ⟨h_q1, h⟩ := ck_e h
  refine lv_iload hx hb d_L5_188 (lv_at hl 3 rfl) ?_
  refine lv_aload_n hx hb d_L5_190 rfl (lv_at hl 1 rfl) ?_
  refine m_giN (C := "BallothallLaw$Box") (T := TX12) (N := 4) (ci := 12) (k := 0) hx hb hts iX12 hown hG hP h_q1.1 h_q1.2 rfl (by decide) n_775 rfl (fun _ h9 => h9) rfl rfl d_L5_191 ?_
  obtain ⟨ok34, h⟩ := ck_e h
  obtain ⟨ok35, h⟩ := ck_e h
  refine lv_icmp_ge (tgt := 335) hx hb d_L5_194 (by decide) (fun c9 => ?_) (fun c9 => ?_)
  · have h := ite_t ((oI_le (a := (M q1 0)) (b := x8) ok35 ok34).mp c9) h
    obtain ⟨rfl, rfl, rfl, rfl, rfl⟩ := in5 h
    exact W.wide (by omega) (by omega) (k1 ad hag0 hE0 rfl H locs ls hP hD hS (lv_sub hl [0, 2] rfl))
  · have h := ite_f (fun q => c9 ((oI_le (a := (M q1 0)) (b := x8) ok35 ok34).mpr q)) h
    refine lv_iload hx hb d_L5_197 (lv_at hl 2 rfl) ?_
    obtain ⟨ok36, h⟩ := ck_e h
    refine lv_if_eq (tgt := 335) hx hb d_L5_199 (by decide) (fun c9 => ?_) (fun c9 => ?_)
    · have h := ite_t ((oI_eq0 ok36).mp c9) h
      obtain ⟨rfl, rfl, rfl, rfl, rfl⟩ := in5 h
      exact W.wide (by omega) (by omega) (k1 ad hag0 hE0 rfl H locs ls hP hD hS (lv_sub hl [0, 2] rfl))
    · have h := ite_f (fun q => c9 ((oI_eq0 ok36).mpr q)) h
      refine lv_lconst (v := oJ 0) hx hb d_L5_202 (by decide +kernel) ?_
      refine lv_lstore (lv' := [(9, .long (oJ 0)), (0, .ref (ad 1)), (1, .ref (ad q1)), (7, .int (oI x7)), (8, .int (oI x8))]) hx hb d_L5_203 hl (by decide) rfl (fun ls hl => ?_)
      refine lv_iconst (v := oI 0) hx hb d_L5_205 (by decide +kernel) ?_
      refine lv_istore (lv' := [(11, .int (oI 0)), (9, .long (oJ 0)), (0, .ref (ad 1)), (1, .ref (ad q1)), (7, .int (oI x7)), (8, .int (oI x8))]) hx hb d_L5_206 hl (by decide) rfl (fun ls hl => ?_)
      obtain ⟨⟨t58, v58_9, v58_11, E58, M58⟩, g58, h⟩ := bd_e h
      obtain ⟨hgw58, h⟩ := ck_e h
      obtain ⟨hL58, h⟩ := ck_e h
      obtain ⟨ok58, h⟩ := ck_e h
      refine s_La_transferable_208 l z E ad q1 x8 hx hb hml hts hown hlocks hA hG hZ mc ms (c0 + 0) (s0 + 0) (by omega) (by omega) 5000 _ _ ad E M 0 0 t58 v58_9 v58_11 E58 M58 (by omega) (by omega) (fun _ _ => rfl) (Nat.le_refl _) g58 (fun ad58 hag58 hEE58 e58 H locs ls hP hD hS hl => ?_) H locs ls hP hD hS (lv_sub hl [2, 3, 5, 1, 0] rfl)
      have hag0 : ∀ i, i < nE E0 → ad58 i = ad0 i := fun i hi => (hag58 i (Nat.lt_of_lt_of_le hi hE0)).trans (hag0 i hi)
      have hE0 : nE E0 ≤ nE E58 := Nat.le_trans hE0 hgw58.1
      have hL : Lay E58 := hL58
      have h_q1 : isO 12 E58 q1 := isO_up hgw58 h_q1
      refine lv_aload_n hx hb d_L5_305 rfl (lv_at hl 0 rfl) ?_
      refine lv_aload_n hx hb d_L5_306 rfl (lv_at hl 0 rfl) ?_
      refine lv_iconst (v := oI 0) hx hb d_L5_307 (by decide +kernel) ?_
      refine lv_iload hx hb d_L5_308 (lv_at hl 2 rfl) ?_
      obtain ⟨⟨r59, M59⟩, g59, h⟩ := bd_e h
      refine kV (As := [.int (oI 0), .int (oI x8)]) (rest := [.ref (ad58 1)]) (s_B_writePile l z ad58 E58 M58 0 x8 r59 M59 hL g59) hx hb hml hown hts w_1269 w_1266 w_1267 w_1268 w_1 md_37bd88 ⟨Nat.le_of_ble_eq_true rfl, Nat.le_of_ble_eq_true rfl⟩ hG hZ hP hD hS hA 1 (wv_o (ci := 11) (yi_1 hL) (yt_1 hL)) rfl rfl rfl hl.1 rfl (Nat.le_of_ble_eq_true rfl) d_L5_310 ⟨(show _ ≤ mc by omega), (show _ ≤ ms by omega)⟩ (fun _ H locs hP hD hS => ?_)
      have hP : va_P z.1 classes (wv z ad58 E58 M59) H := hP
      have hD : va_D A (wv z ad58 E58 M59) := hD
      refine W.eq (g2 := F0 m 313 ls [.int (oI r59), .ref (ad58 1)]) rfl ?_
      obtain ⟨r60, g60, h⟩ := bd_e h
      refine kS (As := [.ref (ad58 1), .int (oI r59)]) (rest := []) (s_La_reads l z ad58 E58 M59 r59 r60 hL g60) hx hb hml hown hts w_1285 w_1283 w_1284 w_0 md_410014 ⟨Nat.le_of_ble_eq_true rfl, Nat.le_of_ble_eq_true rfl⟩ hG hZ hP hD hS hA rfl hl.1 rfl (Nat.le_of_ble_eq_true rfl) d_L5_313 ⟨(show _ ≤ mc by omega), (show _ ≤ ms by omega)⟩ (fun _ H locs hP hD hS => ?_)
      have hP : va_P z.1 classes (wv z ad58 E58 M59) H := hP
      have hD : va_D A (wv z ad58 E58 M59) := hD
      refine W.eq (g2 := F0 m 316 ls [.long (oJ r60)]) rfl ?_
      refine lv_lload hx hb d_L5_316 (lv_at hl 3 rfl) ?_
      obtain ⟨ok61, h⟩ := ck_e h
      obtain ⟨ok62, h⟩ := ck_e h
      refine W.lcmp hx hb d_L5_318 ?_
      refine nrm (cmp_val (a := r60) (b := v58_9) ok61 ok62) ?_
      refine lv_if_ne (tgt := 326) hx hb d_L5_319 (by decide) (fun c9 => ?_) (fun c9 => ?_)
      · have h := ite_f (fun q => c9 ((cmp_eq r60 v58_9).mpr q)) h
        refine lv_iconst (v := oI 0) hx hb d_L5_326 (by decide +kernel) ?_
        refine lv_istore (lv' := [(7, .int (oI 0)), (0, .ref (ad58 1)), (1, .ref (ad58 q1)), (8, .int (oI x8)), (9, .long (oJ v58_9))]) hx hb d_L5_327 hl (by decide) rfl (fun ls hl => ?_)
        refine lv_iinc (v := oI (x8 + 1)) (lv' := [(8, .int (oI (x8 + 1))), (7, .int (oI 0)), (0, .ref (ad58 1)), (1, .ref (ad58 q1)), (9, .long (oJ v58_9))]) hx hb d_L5_329 hl (k := 3) rfl (oI_add x8 1) (by decide) rfl (fun ls hl => ?_)
        refine lv_goto (tgt := 188) hx hb d_L5_332 (by decide) ?_
        obtain ⟨rfl, rfl, rfl, rfl, rfl⟩ := in5 h
        exact W.wide (by omega) (by omega) (k0 ad58 hag0 hE0 rfl H locs ls hP hD hS (lv_sub hl [2, 3, 1, 0] rfl))
      · have h := ite_t ((cmp_eq r60 v58_9).mp c9) h
        refine lv_iconst (v := oI 1) hx hb d_L5_322 (by decide +kernel) ?_
        refine lv_goto (tgt := 327) hx hb d_L5_323 (by decide) ?_
        refine lv_istore (lv' := [(7, .int (oI 1)), (0, .ref (ad58 1)), (1, .ref (ad58 q1)), (8, .int (oI x8)), (9, .long (oJ v58_9))]) hx hb d_L5_327 hl (by decide) rfl (fun ls hl => ?_)
        refine lv_iinc (v := oI (x8 + 1)) (lv' := [(8, .int (oI (x8 + 1))), (7, .int (oI 1)), (0, .ref (ad58 1)), (1, .ref (ad58 q1)), (9, .long (oJ v58_9))]) hx hb d_L5_329 hl (k := 3) rfl (oI_add x8 1) (by decide) rfl (fun ls hl => ?_)
        refine lv_goto (tgt := 188) hx hb d_L5_332 (by decide) ?_
        obtain ⟨rfl, rfl, rfl, rfl, rfl⟩ := in5 h
        exact W.wide (by omega) (by omega) (k0 ad58 hag0 hE0 rfl H locs ls hP hD hS (lv_sub hl [2, 3, 1, 0] rfl))
set_option maxRecDepth 100000 in
set_option maxHeartbeats 4000000 in
theorem s_La_transferable_188 (l : Launch) (z : Zz) (E0 : Ev) (ad0 : Nat → Nat) (q1 : Nat) {Q : State → Prop} {p : Program} {e : Env} {s : State} {m : MethodId} {below : List Frame} {meth : Method} {c : Code} {A : Nat → Prop} {args : Array Value} (hx : p.tables.exec = Jvm.exec) (hb : c.code = method_5_code) (hml : c.maxLocals = 14) (hts : ∀ w ∈ WG, w.before args s = true) (hown : s.vm.findClass "BallothallLaw" = some m.cls) (hlocks : meth.locks = false) (hA : ∀ q, s.heap.size ≤ q → A q) (hG : KG z s) (hZ : FZ z A s) (mc ms c1 s1 : Nat) (hm : c1 ≤ mc) (hm2 : s1 ≤ ms) : ∀ (fu c0 s0 : Nat) (ad : Nat → Nat) (E : Ev) (M : Mm) (x7 : Int) (x8 : Int) (t : Nat) (w7 : Int) (w8 : Int) (F : Ev) (N : Mm), c0 + fu * 0 ≤ c1 → s0 + fu * 0 ≤ s1 → (∀ i, i < nE E0 → ad i = ad0 i) → nE E0 ≤ nE E → l_La_transferable_188 q1 fu E M x7 x8 = some (t, w7, w8, F, N) → (∀ (ad1 : Nat → Nat), (∀ i, i < nE E0 → ad1 i = ad0 i) → nE E0 ≤ nE F → t = 1 → ∀ (H : Heap) (locs : List Loc) (ls : Array Slot), va_P z.1 classes (wv z ad1 F N) H → va_D A (wv z ad1 F N) → va_S A s.heap H locs → lv_has ls 14 [(0, .ref (ad1 1)), (7, .int (oI w7))] → W p l e (rmK 8 205 mc ms) s m args below meth c H locs c1 s1 Q (F0 m 335 ls [])) → ∀ (H : Heap) (locs : List Loc) (ls : Array Slot), va_P z.1 classes (wv z ad E M) H → va_D A (wv z ad E M) → va_S A s.heap H locs → lv_has ls 14 [(0, .ref (ad 1)), (1, .ref (ad q1)), (7, .int (oI x7)), (8, .int (oI x8))] → W p l e (rmK 8 205 mc ms) s m args below meth c H locs c0 s0 Q (F0 m 188 ls []) := by
  intro fu
  induction fu with
  | zero =>
    intro c0 s0 ad E M x7 x8 t w7 w8 F N hc hs hag0 hE0 h
    have h : (none : Option (Nat × Int × Int × Ev × Mm)) = some _ := h
    cases h
  | succ fu ih =>
    intro c0 s0 ad E M x7 x8 t w7 w8 F N hc hs hag0 hE0 h k1 H locs ls hP hD hS hl
    obtain ⟨⟨t0, w70, w80, F9, N9⟩, g0, h⟩ := bd_e h
    refine W.wide (Nat.le_refl _) (Nat.le_refl _) (b_La_transferable_188b l z E0 ad0 ad E M q1 x7 x8 t0 w70 w80 F9 N9 hx hb hml hts hown hlocks hA hG hZ mc ms c0 s0 (c0 + 0) (s0 + 0) (Nat.le_refl _) (Nat.le_refl _) (by omega) (by omega) hag0 hE0 g0 (fun ad1 ha he e0 => ?_) (fun ad1 ha he e0 => ?_) H locs ls hP hD hS hl)
    · subst e0
      have h := ite_t rfl h
      exact ih (c0 + 0) (s0 + 0) ad1 F9 N9 w70 w80 t w7 w8 F N (by omega) (by omega) ha he h k1
    · subst e0
      have h := ite_f (by decide) h
      obtain ⟨rfl, rfl, rfl, rfl, rfl⟩ := in5 h
      exact fun H locs ls hP hD hS hl => W.wide (by omega) (by omega) (k1 ad1 ha he rfl H locs ls hP hD hS hl)
set_option maxRecDepth 100000 in
set_option maxHeartbeats 4000000 in
theorem b_La_transferable_j335 (l : Launch) (z : Zz) (E0 : Ev) (ad0 : Nat → Nat) (ad : Nat → Nat) (E : Ev) (M : Mm) (x7 : Int) (r : Int) (F : Ev) (N : Mm) {p : Program} {e : Env} {s : State} {m : MethodId} {below : List Frame} {meth : Method} {c : Code} {A : Nat → Prop} {args : Array Value} (hx : p.tables.exec = Jvm.exec) (hb : c.code = method_5_code) (hml : c.maxLocals = 14) (hts : ∀ w ∈ WG, w.before args s = true) (hown : s.vm.findClass "BallothallLaw" = some m.cls) (hlocks : meth.locks = false) (hA : ∀ q, s.heap.size ≤ q → A q) (hG : KG z s) (hZ : FZ z A s) (hr : meth.sig.returnType = (some .boolean)) (mc ms c0 s0 c1 s1 : Nat) (hc : c0 + 0 ≤ c1) (hs : s0 + 0 ≤ s1) (hm : c1 ≤ mc) (hm2 : s1 ≤ ms) (hag0 : ∀ i, i < nE E0 → ad i = ad0 i) (hE0 : nE E0 ≤ nE E) (h : La_transferable_j335 E M x7 = some (r, F, N)) : ∀ (H : Heap) (locs : List Loc) (ls : Array Slot), va_P z.1 classes (wv z ad E M) H → va_D A (wv z ad E M) → va_S A s.heap H locs → lv_has ls 14 [(0, .ref (ad 1)), (7, .int (oI x7))] → W p l e (rmK 8 205 mc ms) s m args below meth c H locs c0 s0 (MQ below (QK z A (fun u => some (.int (oI r))) (fun u => wv z (adj E0 ad0 u) F N)) args s c1 s1 A) (F0 m 335 ls []) := by
  intro H locs ls hP hD hS hl
  unfold La_transferable_j335 at h
  obtain ⟨hL, h⟩ := ck_e h
  refine lv_iload hx hb d_L5_335 (lv_at hl 1 rfl) ?_
  obtain ⟨ok64, h⟩ := ck_e h
  refine lv_if_eq (tgt := 362) hx hb d_L5_337 (by decide) (fun c9 => ?_) (fun c9 => ?_)
  · have h := ite_t ((oI_eq0 ok64).mp c9) h
    refine lv_iconst (v := oI 0) hx hb d_L5_362 (by decide +kernel) ?_
    refine W.wide (k := c1) (n := s1) (by omega) (by omega) ?_
    obtain ⟨rfl, rfl, rfl⟩ := in3 h
    exact W.zret hx hb hr rfl (fun t ht hW => qkA hP hD hS ad (congrArg (fun q => wv z q E M) (adj_self hag0).symm) rfl ht) hS.2.2 d_L5_363
  · have h := ite_f (fun q => c9 ((oI_eq0 ok64).mpr q)) h
    refine lv_aload_n hx hb d_L5_340 rfl (lv_at hl 0 rfl) ?_
    refine lv_aload_n hx hb d_L5_341 rfl (lv_at hl 0 rfl) ?_
    refine lv_aload_n hx hb d_L5_342 rfl (lv_at hl 0 rfl) ?_
    obtain ⟨r65, g65, h⟩ := bd_e h
    refine kV (As := []) (rest := [.ref (ad 1), .ref (ad 1)]) (s_B_steps l z ad E M r65 hL g65) hx hb hml hown hts w_1296 w_1293 w_1294 w_1295 w_1 md_1e5622 ⟨Nat.le_of_ble_eq_true rfl, Nat.le_of_ble_eq_true rfl⟩ hG hZ hP hD hS hA 1 (wv_o (ci := 11) (yi_1 hL) (yt_1 hL)) rfl rfl rfl hl.1 rfl (Nat.le_of_ble_eq_true rfl) d_L5_343 ⟨(show _ ≤ mc by omega), (show _ ≤ ms by omega)⟩ (fun _ H locs hP hD hS => ?_)
    have hP : va_P z.1 classes (wv z ad E M) H := hP
    have hD : va_D A (wv z ad E M) := hD
    refine W.eq (g2 := F0 m 346 ls [.int (oI r65), .ref (ad 1), .ref (ad 1)]) rfl ?_
    refine lv_iconst (v := oI (-1)) hx hb d_L5_346 (by decide +kernel) ?_
    obtain ⟨⟨r66, M66⟩, g66, h⟩ := bd_e h
    refine kV (As := [.int (oI r65), .int (oI (-1))]) (rest := [.ref (ad 1)]) (s_B_writePile l z ad E M r65 (-1) r66 M66 hL g66) hx hb hml hown hts w_1269 w_1266 w_1267 w_1268 w_1 md_37bd88 ⟨Nat.le_of_ble_eq_true rfl, Nat.le_of_ble_eq_true rfl⟩ hG hZ hP hD hS hA 1 (wv_o (ci := 11) (yi_1 hL) (yt_1 hL)) rfl rfl rfl hl.1 rfl (Nat.le_of_ble_eq_true rfl) d_L5_347 ⟨(show _ ≤ mc by omega), (show _ ≤ ms by omega)⟩ (fun _ H locs hP hD hS => ?_)
    have hP : va_P z.1 classes (wv z ad E M66) H := hP
    have hD : va_D A (wv z ad E M66) := hD
    refine W.eq (g2 := F0 m 350 ls [.int (oI r66), .ref (ad 1)]) rfl ?_
    obtain ⟨r67, g67, h⟩ := bd_e h
    refine kS (As := [.ref (ad 1), .int (oI r66)]) (rest := []) (s_La_reads l z ad E M66 r66 r67 hL g67) hx hb hml hown hts w_1285 w_1283 w_1284 w_0 md_410014 ⟨Nat.le_of_ble_eq_true rfl, Nat.le_of_ble_eq_true rfl⟩ hG hZ hP hD hS hA rfl hl.1 rfl (Nat.le_of_ble_eq_true rfl) d_L5_350 ⟨(show _ ≤ mc by omega), (show _ ≤ ms by omega)⟩ (fun _ H locs hP hD hS => ?_)
    have hP : va_P z.1 classes (wv z ad E M66) H := hP
    have hD : va_D A (wv z ad E M66) := hD
    refine W.eq (g2 := F0 m 353 ls [.long (oJ r67)]) rfl ?_
    refine lv_lconst (v := oJ 0) hx hb d_L5_353 (by decide +kernel) ?_
    obtain ⟨ok68, h⟩ := ck_e h
    refine W.lcmp hx hb d_L5_354 ?_
    refine nrm (cmp_val (a := r67) (b := (0 : Int)) ok68 (by decide)) ?_
    refine lv_if_lt (tgt := 362) hx hb d_L5_355 (by decide) (fun c9 => ?_) (fun c9 => ?_)
    · have h := ite_t ((cmp_lt r67 (0 : Int)).mp c9) h
      refine lv_iconst (v := oI 0) hx hb d_L5_362 (by decide +kernel) ?_
      refine W.wide (k := c1) (n := s1) (by omega) (by omega) ?_
      obtain ⟨rfl, rfl, rfl⟩ := in3 h
      exact W.zret hx hb hr rfl (fun t ht hW => qkA hP hD hS ad (congrArg (fun q => wv z q E M66) (adj_self hag0).symm) rfl ht) hS.2.2 d_L5_363
    · have h := ite_f (fun q => c9 ((cmp_lt r67 (0 : Int)).mpr q)) h
      refine lv_iconst (v := oI 1) hx hb d_L5_358 (by decide +kernel) ?_
      refine lv_goto (tgt := 363) hx hb d_L5_359 (by decide) ?_
      refine W.wide (k := c1) (n := s1) (by omega) (by omega) ?_
      obtain ⟨rfl, rfl, rfl⟩ := in3 h
      exact W.zret hx hb hr rfl (fun t ht hW => qkA hP hD hS ad (congrArg (fun q => wv z q E M66) (adj_self hag0).symm) rfl ht) hS.2.2 d_L5_363
set_option maxRecDepth 100000 in
set_option maxHeartbeats 4000000 in
theorem s_La_transferable (l : Launch) (z : Zz) (ad : Nat → Nat) (E : Ev) (M : Mm) (p1 : Nat) (p2 : Nat) (r : Int) (F : Ev) (N : Mm) (h : f_La_transferable E M p1 p2 = some (r, F, N)) : CT l z ⟨"BallothallLaw", "transferable", "(LBallothall;LBallothallLaw$Box;[I)Z"⟩ method_5_code 14 (some .boolean) [.ref (ad 1), .ref (ad p1), .ref (ad p2)] (wv z ad E M) 8 205 2053 16581 (fun u => some (.int (oI r))) (fun u => wv z (adj E ad u) F N) := by
  refine CT.of (own := "BallothallLaw") (by decide +kernel) (Nat.le_of_ble_eq_true rfl) rfl (fun p e s m below meth c A ls hx hb hml hr hts hown hlocks hin hA hG hZ hP hD hS hl => ?_)
  have hl : lv_has ls 14 [(0, .ref (ad 1)), (1, .ref (ad p1)), (2, .ref (ad p2))] := hl
  have key : ∀ (E0 : Ev) (ad0 : Nat → Nat) (mc ms c0 s0 c1 s1 : Nat) (H : Heap) (locs : List Loc) (args : Array Value), c0 + 2053 ≤ c1 → s0 + 16581 ≤ s1 → c1 ≤ mc → s1 ≤ ms → (∀ i, i < nE E0 → ad i = ad0 i) → nE E0 ≤ nE E → (∀ w ∈ WG, w.before args s = true) → va_P z.1 classes (wv z ad E M) H → va_S A s.heap H locs → W p l e (rmK 8 205 mc ms) s m args below meth c H locs c0 s0 (MQ below (QK z A (fun u => some (.int (oI r))) (fun u => wv z (adj E0 ad0 u) F N)) args s c1 s1 A) (F0 m 0 ls []) := by
    intro E0 ad0 mc ms c0 s0 c1 s1 H locs args hc hs hm hm2 hag0 hE0 hts hP hS
    unfold f_La_transferable at h
    obtain ⟨hL, h⟩ := ck_e h
    obtain ⟨h_p1, h⟩ := ck_e h
    obtain ⟨h_p2, h⟩ := ck_e h
    refine lv_iconst (v := oI 1) hx hb d_L5_0 (by decide +kernel) ?_
    refine lv_aload_n hx hb d_L5_1 rfl (lv_at hl 2 rfl) ?_
    refine lv_iconst (v := oI 3) hx hb d_L5_2 (by decide +kernel) ?_
    obtain ⟨⟨r0, M0⟩, g0, h⟩ := bd_e h
    refine kS (As := [.ref (ad p2), .int (oI 3)]) (rest := [.int (oI 1)]) (s_La_next l z ad E M p2 3 r0 M0 hL g0) hx hb hml hown hts w_797 w_795 w_796 w_0 md_199d8f ⟨Nat.le_of_ble_eq_true rfl, Nat.le_of_ble_eq_true rfl⟩ hG hZ hP hD hS hA rfl hl.1 rfl (Nat.le_of_ble_eq_true rfl) d_L5_3 ⟨(show _ ≤ mc by omega), (show _ ≤ ms by omega)⟩ (fun _ H locs hP hD hS => ?_)
    have hP : va_P z.1 classes (wv z ad E M0) H := hP
    have hD : va_D A (wv z ad E M0) := hD
    refine W.eq (g2 := F0 m 6 ls [.int (oI r0), .int (oI 1)]) rfl ?_
    refine lv_iadd hx hb d_L5_6 ?_
    refine nrm (oI_add _ _) ?_
    refine lv_istore_n (lv' := [(3, .int (oI (1 + r0))), (0, .ref (ad 1)), (1, .ref (ad p1)), (2, .ref (ad p2))]) hx hb d_L5_7 rfl hl (by decide) rfl (fun ls hl => ?_)
    refine lv_aload_n hx hb d_L5_8 rfl (lv_at hl 1 rfl) ?_
    refine lv_iload_n hx hb d_L5_9 rfl (lv_at hl 0 rfl) ?_
    obtain ⟨⟨r1, E1, M1⟩, g1, h⟩ := bd_e h
    obtain ⟨hgw1, h⟩ := ck_e h
    refine kV (As := [.int (oI (1 + r0))]) (rest := []) (s_B_transferable l z ad E M0 (1 + r0) r1 E1 M1 g1) hx hb hml hown hts w_1069 w_1066 w_1067 w_1068 w_1 md_ed8a19 ⟨Nat.le_of_ble_eq_true rfl, Nat.le_of_ble_eq_true rfl⟩ hG hZ hP hD hS hA 1 (wv_o (ci := 11) (yi_1 hL) (yt_1 hL)) rfl rfl rfl hl.1 rfl (Nat.le_of_ble_eq_true rfl) d_L5_10 ⟨(show _ ≤ mc by omega), (show _ ≤ ms by omega)⟩ (fun u1 H locs hP hD hS => ?_)
    obtain ⟨ad1, had1⟩ : ∃ q, q = adj E ad u1 := ⟨_, rfl⟩
    have hP : va_P z.1 classes (wv z ad1 E1 M1) H := by rw [had1]; exact hP
    have hD : va_D A (wv z ad1 E1 M1) := by rw [had1]; exact hD
    have hag1 : ∀ i, i < nE E → ad1 i = ad i := fun i hi => by rw [had1]; exact adj_lt hi
    have hl : lv_has ls 14 [(3, .int (oI (1 + r0))), (0, .ref (ad1 1)), (1, .ref (ad1 p1)), (2, .ref (ad1 p2))] := by rw [hag1 1 (yi_1 hL), hag1 p1 h_p1.1, hag1 p2 h_p2.1]; exact hl
    refine W.eq (g2 := F0 m 13 ls (.int (oI r1) :: [])) (by rfl) ?_
    have hag0 : ∀ i, i < nE E0 → ad1 i = ad0 i := fun i hi => (hag1 i (Nat.lt_of_lt_of_le hi hE0)).trans (hag0 i hi)
    have hE0 : nE E0 ≤ nE E1 := Nat.le_trans hE0 hgw1.1
    obtain ⟨hL, h⟩ := ck_e h
    have h_p1 : isO 12 E1 p1 := isO_up hgw1 h_p1
    have h_p2 : isIA E1 p2 := isA_up hgw1 h_p2
    refine lv_istore (lv' := [(4, .int (oI r1)), (3, .int (oI (1 + r0))), (0, .ref (ad1 1)), (1, .ref (ad1 p1)), (2, .ref (ad1 p2))]) hx hb d_L5_13 hl (by decide) rfl (fun ls hl => ?_)
    refine lv_iconst (v := oI 0) hx hb d_L5_15 (by decide +kernel) ?_
    refine lv_istore (lv' := [(5, .int (oI 0)), (4, .int (oI r1)), (3, .int (oI (1 + r0))), (0, .ref (ad1 1)), (1, .ref (ad1 p1)), (2, .ref (ad1 p2))]) hx hb d_L5_16 hl (by decide) rfl (fun ls hl => ?_)
    refine lv_iconst (v := oI 0) hx hb d_L5_18 (by decide +kernel) ?_
    refine lv_istore (lv' := [(6, .int (oI 0)), (5, .int (oI 0)), (4, .int (oI r1)), (3, .int (oI (1 + r0))), (0, .ref (ad1 1)), (1, .ref (ad1 p1)), (2, .ref (ad1 p2))]) hx hb d_L5_19 hl (by decide) rfl (fun ls hl => ?_)
    obtain ⟨⟨t8, v8_5, v8_6, E8, M8⟩, g8, h⟩ := bd_e h
    obtain ⟨hgw8, h⟩ := ck_e h
    obtain ⟨hL8, h⟩ := ck_e h
    obtain ⟨ok8, h⟩ := ck_e h
    refine s_La_transferable_21 l z E1 ad1 p1 (1 + r0) r1 hx hb hml hts hown hlocks hA hG hZ mc ms (c0 + 2053) (s0 + 16581) (by omega) (by omega) 5000 _ _ ad1 E1 M1 0 0 t8 v8_5 v8_6 E8 M8 (by omega) (by omega) (fun _ _ => rfl) (Nat.le_refl _) g8 (fun ad8 hag8 hEE8 e8 H locs ls hP hD hS hl => ?_) H locs ls hP hD hS (lv_sub hl [4, 5, 3, 2, 1, 0] rfl)
    have hag0 : ∀ i, i < nE E0 → ad8 i = ad0 i := fun i hi => (hag8 i (Nat.lt_of_lt_of_le hi hE0)).trans (hag0 i hi)
    have hE0 : nE E0 ≤ nE E8 := Nat.le_trans hE0 hgw8.1
    have hL : Lay E8 := hL8
    have h_p1 : isO 12 E8 p1 := isO_up hgw8 h_p1
    refine lv_aload_n hx hb d_L5_47 rfl (lv_at hl 1 rfl) ?_
    obtain ⟨r9, g9, h⟩ := bd_e h
    refine kV (As := []) (rest := []) (s_Lb_all l z ad8 E8 M8 p1 r9 hL g9) hx hb hml hown hts w_794 w_791 w_792 w_793 w_12 md_dbe0d3 ⟨Nat.le_of_ble_eq_true rfl, Nat.le_of_ble_eq_true rfl⟩ hG hZ hP hD hS hA p1 (wv_o (ci := 12) h_p1.1 h_p1.2) rfl rfl rfl hl.1 rfl (Nat.le_of_ble_eq_true rfl) d_L5_48 ⟨(show _ ≤ mc by omega), (show _ ≤ ms by omega)⟩ (fun _ H locs hP hD hS => ?_)
    have hP : va_P z.1 classes (wv z ad8 E8 M8) H := hP
    have hD : va_D A (wv z ad8 E8 M8) := hD
    refine W.eq (g2 := F0 m 51 ls [.int (oI r9)]) rfl ?_
    refine lv_istore (lv' := [(6, .int (oI r9)), (0, .ref (ad8 1)), (1, .ref (ad8 p1)), (3, .int (oI (1 + r0))), (4, .int (oI r1)), (5, .int (oI v8_5))]) hx hb d_L5_51 hl (by decide) rfl (fun ls hl => ?_)
    refine lv_aload_n hx hb d_L5_53 rfl (lv_at hl 1 rfl) ?_
    obtain ⟨r10, g10, h⟩ := bd_e h
    refine kV (As := []) (rest := []) (s_B_quota l z ad8 E8 M8 r10 hL g10) hx hb hml hown hts w_1254 w_1251 w_1252 w_1253 w_1 md_689494 ⟨Nat.le_of_ble_eq_true rfl, Nat.le_of_ble_eq_true rfl⟩ hG hZ hP hD hS hA 1 (wv_o (ci := 11) (yi_1 hL) (yt_1 hL)) rfl rfl rfl hl.1 rfl (Nat.le_of_ble_eq_true rfl) d_L5_54 ⟨(show _ ≤ mc by omega), (show _ ≤ ms by omega)⟩ (fun _ H locs hP hD hS => ?_)
    have hP : va_P z.1 classes (wv z ad8 E8 M8) H := hP
    have hD : va_D A (wv z ad8 E8 M8) := hD
    refine W.eq (g2 := F0 m 57 ls [.int (oI r10)]) rfl ?_
    refine lv_iload hx hb d_L5_57 (lv_at hl 0 rfl) ?_
    refine lv_iload_n hx hb d_L5_59 rfl (lv_at hl 3 rfl) ?_
    refine lv_iconst (v := oI 1) hx hb d_L5_60 (by decide +kernel) ?_
    refine lv_iadd hx hb d_L5_61 ?_
    refine nrm (oI_add _ _) ?_
    obtain ⟨ok11, h⟩ := ck_e h
    obtain ⟨ok12, h⟩ := ck_e h
    refine lv_idiv hx hb d_L5_62 (oI_nz ok12.1 ok12.2) ?_
    refine nrm (oI_div (a := r9) (b := ((1 + r0) + 1)) ok11.1 ok11.2 ok12.1 ok12.2) ?_
    refine lv_iconst (v := oI 1) hx hb d_L5_63 (by decide +kernel) ?_
    refine lv_iadd hx hb d_L5_64 ?_
    refine nrm (oI_add _ _) ?_
    obtain ⟨ok13, h⟩ := ck_e h
    obtain ⟨ok14, h⟩ := ck_e h
    refine lv_icmp_ne (tgt := 95) hx hb d_L5_65 (by decide) (fun c9 => ?_) (fun c9 => ?_)
    · have h := ite_f (fun q => c9 ((oI_eq (a := r10) (b := ((r9 / ((1 + r0) + 1)) + 1)) ok13 ok14).mpr q)) h
      refine lv_iconst (v := oI 0) hx hb d_L5_95 (by decide +kernel) ?_
      refine lv_istore (lv' := [(7, .int (oI 0)), (6, .int (oI r9)), (0, .ref (ad8 1)), (1, .ref (ad8 p1)), (3, .int (oI (1 + r0))), (4, .int (oI r1)), (5, .int (oI v8_5))]) hx hb d_L5_96 hl (by decide) rfl (fun ls hl => ?_)
      refine lv_iconst (v := oI 1) hx hb d_L5_98 (by decide +kernel) ?_
      refine lv_istore (lv' := [(8, .int (oI 1)), (7, .int (oI 0)), (6, .int (oI r9)), (0, .ref (ad8 1)), (1, .ref (ad8 p1)), (3, .int (oI (1 + r0))), (4, .int (oI r1)), (5, .int (oI v8_5))]) hx hb d_L5_99 hl (by decide) rfl (fun ls hl => ?_)
      obtain ⟨⟨t33, v33_7, v33_8, E33, M33⟩, g33, h⟩ := bd_e h
      obtain ⟨hgw33, h⟩ := ck_e h
      obtain ⟨hL33, h⟩ := ck_e h
      obtain ⟨ok33, h⟩ := ck_e h
      refine s_La_transferable_101 l z E8 ad8 p1 v8_5 hx hb hml hts hown hlocks hA hG hZ mc ms (c0 + 2053) (s0 + 16581) (by omega) (by omega) 5000 _ _ ad8 E8 M8 0 1 t33 v33_7 v33_8 E33 M33 (by omega) (by omega) (fun _ _ => rfl) (Nat.le_refl _) g33 (fun ad33 hag33 hEE33 e33 H locs ls hP hD hS hl => ?_) H locs ls hP hD hS (lv_sub hl [3, 4, 7, 1, 0] rfl)
      have hag0 : ∀ i, i < nE E0 → ad33 i = ad0 i := fun i hi => (hag33 i (Nat.lt_of_lt_of_le hi hE0)).trans (hag0 i hi)
      have hE0 : nE E0 ≤ nE E33 := Nat.le_trans hE0 hgw33.1
      have hL : Lay E33 := hL33
      have h_p1 : isO 12 E33 p1 := isO_up hgw33 h_p1
      refine lv_iconst (v := oI 0) hx hb d_L5_185 (by decide +kernel) ?_
      refine lv_istore (lv' := [(8, .int (oI 0)), (0, .ref (ad33 1)), (1, .ref (ad33 p1)), (7, .int (oI v33_7))]) hx hb d_L5_186 hl (by decide) rfl (fun ls hl => ?_)
      obtain ⟨⟨t63, v63_7, v63_8, E63, M63⟩, g63, h⟩ := bd_e h
      obtain ⟨hgw63, h⟩ := ck_e h
      obtain ⟨hL63, h⟩ := ck_e h
      obtain ⟨ok63, h⟩ := ck_e h
      refine s_La_transferable_188 l z E33 ad33 p1 hx hb hml hts hown hlocks hA hG hZ mc ms (c0 + 2053) (s0 + 16581) (by omega) (by omega) 5000 _ _ ad33 E33 M33 v33_7 0 t63 v63_7 v63_8 E63 M63 (by omega) (by omega) (fun _ _ => rfl) (Nat.le_refl _) g63 (fun ad63 hag63 hEE63 e63 H locs ls hP hD hS hl => ?_) H locs ls hP hD hS (lv_sub hl [1, 2, 3, 0] rfl)
      have hag0 : ∀ i, i < nE E0 → ad63 i = ad0 i := fun i hi => (hag63 i (Nat.lt_of_lt_of_le hi hE0)).trans (hag0 i hi)
      have hE0 : nE E0 ≤ nE E63 := Nat.le_trans hE0 hgw63.1
      have hL : Lay E63 := hL63
      exact b_La_transferable_j335 l z E0 ad0 ad63 E63 M63 v63_7 r F N hx hb hml hts hown hlocks hA hG hZ hr mc ms _ _ c1 s1 (by omega) (by omega) hm hm2 hag0 hE0 h H locs ls hP hD hS (lv_sub hl [0, 1] rfl)
    · have h := ite_t ((oI_eq (a := r10) (b := ((r9 / ((1 + r0) + 1)) + 1)) ok13 ok14).mp c9) h
      refine lv_iload hx hb d_L5_68 (lv_at hl 4 rfl) ?_
      refine lv_iload_n hx hb d_L5_70 rfl (lv_at hl 3 rfl) ?_
      refine lv_aload_n hx hb d_L5_71 rfl (lv_at hl 2 rfl) ?_
      refine m_giN (C := "BallothallLaw$Box") (T := TX12) (N := 4) (ci := 12) (k := 0) hx hb hts iX12 hown hG hP h_p1.1 h_p1.2 rfl (by decide) n_775 rfl (fun _ h9 => h9) rfl rfl d_L5_72 ?_
      obtain ⟨ok69, h⟩ := ck_e h
      obtain ⟨ok70, h⟩ := ck_e h
      refine va_mmin hx hb (by rw [hml]; exact hl.1.symm) hown (hts _ w_1255) (hts _ w_521) (hts _ w_17) (hts _ w_min) (Nat.le_of_ble_eq_true rfl) (Nat.le_of_ble_eq_true rfl) (Nat.le_of_ble_eq_true rfl) (Nat.le_of_ble_eq_true rfl) d_L5_75 ?_
      refine nrm (mn_oI (a := (1 + r0)) (b := (M8 p1 0)) ok69 ok70) ?_
      obtain ⟨ok71, h⟩ := ck_e h
      refine lv_icmp_ne (tgt := 95) hx hb d_L5_78 (by decide) (fun c9 => ?_) (fun c9 => ?_)
      · have h := ite_f (fun q => c9 ((oI_eq (a := r1) (b := (min (1 + r0) (M8 p1 0))) ok71 (rg_min (x := (1 + r0)) (y := (M8 p1 0)) ok69 ok70)).mpr q)) h
        refine lv_iconst (v := oI 0) hx hb d_L5_95 (by decide +kernel) ?_
        refine lv_istore (lv' := [(7, .int (oI 0)), (6, .int (oI r9)), (0, .ref (ad8 1)), (1, .ref (ad8 p1)), (3, .int (oI (1 + r0))), (4, .int (oI r1)), (5, .int (oI v8_5))]) hx hb d_L5_96 hl (by decide) rfl (fun ls hl => ?_)
        refine lv_iconst (v := oI 1) hx hb d_L5_98 (by decide +kernel) ?_
        refine lv_istore (lv' := [(8, .int (oI 1)), (7, .int (oI 0)), (6, .int (oI r9)), (0, .ref (ad8 1)), (1, .ref (ad8 p1)), (3, .int (oI (1 + r0))), (4, .int (oI r1)), (5, .int (oI v8_5))]) hx hb d_L5_99 hl (by decide) rfl (fun ls hl => ?_)
        obtain ⟨⟨t72, v72_7, v72_8, E72, M72⟩, g72, h⟩ := bd_e h
        obtain ⟨hgw72, h⟩ := ck_e h
        obtain ⟨hL72, h⟩ := ck_e h
        obtain ⟨ok72, h⟩ := ck_e h
        refine s_La_transferable_101 l z E8 ad8 p1 v8_5 hx hb hml hts hown hlocks hA hG hZ mc ms (c0 + 2053) (s0 + 16581) (by omega) (by omega) 5000 _ _ ad8 E8 M8 0 1 t72 v72_7 v72_8 E72 M72 (by omega) (by omega) (fun _ _ => rfl) (Nat.le_refl _) g72 (fun ad72 hag72 hEE72 e72 H locs ls hP hD hS hl => ?_) H locs ls hP hD hS (lv_sub hl [3, 4, 7, 1, 0] rfl)
        have hag0 : ∀ i, i < nE E0 → ad72 i = ad0 i := fun i hi => (hag72 i (Nat.lt_of_lt_of_le hi hE0)).trans (hag0 i hi)
        have hE0 : nE E0 ≤ nE E72 := Nat.le_trans hE0 hgw72.1
        have hL : Lay E72 := hL72
        have h_p1 : isO 12 E72 p1 := isO_up hgw72 h_p1
        refine lv_iconst (v := oI 0) hx hb d_L5_185 (by decide +kernel) ?_
        refine lv_istore (lv' := [(8, .int (oI 0)), (0, .ref (ad72 1)), (1, .ref (ad72 p1)), (7, .int (oI v72_7))]) hx hb d_L5_186 hl (by decide) rfl (fun ls hl => ?_)
        obtain ⟨⟨t73, v73_7, v73_8, E73, M73⟩, g73, h⟩ := bd_e h
        obtain ⟨hgw73, h⟩ := ck_e h
        obtain ⟨hL73, h⟩ := ck_e h
        obtain ⟨ok73, h⟩ := ck_e h
        refine s_La_transferable_188 l z E72 ad72 p1 hx hb hml hts hown hlocks hA hG hZ mc ms (c0 + 2053) (s0 + 16581) (by omega) (by omega) 5000 _ _ ad72 E72 M72 v72_7 0 t73 v73_7 v73_8 E73 M73 (by omega) (by omega) (fun _ _ => rfl) (Nat.le_refl _) g73 (fun ad73 hag73 hEE73 e73 H locs ls hP hD hS hl => ?_) H locs ls hP hD hS (lv_sub hl [1, 2, 3, 0] rfl)
        have hag0 : ∀ i, i < nE E0 → ad73 i = ad0 i := fun i hi => (hag73 i (Nat.lt_of_lt_of_le hi hE0)).trans (hag0 i hi)
        have hE0 : nE E0 ≤ nE E73 := Nat.le_trans hE0 hgw73.1
        have hL : Lay E73 := hL73
        exact b_La_transferable_j335 l z E0 ad0 ad73 E73 M73 v73_7 r F N hx hb hml hts hown hlocks hA hG hZ hr mc ms _ _ c1 s1 (by omega) (by omega) hm hm2 hag0 hE0 h H locs ls hP hD hS (lv_sub hl [0, 1] rfl)
      · have h := ite_t ((oI_eq (a := r1) (b := (min (1 + r0) (M8 p1 0))) ok71 (rg_min (x := (1 + r0)) (y := (M8 p1 0)) ok69 ok70)).mp c9) h
        refine lv_iload hx hb d_L5_81 (lv_at hl 5 rfl) ?_
        obtain ⟨r74, g74, h⟩ := bd_e h
        refine kS (As := [.int (oI v8_5)]) (rest := []) (s_In_bitCount l z ad8 E8 M8 v8_5 r74 hL g74) hx hb hml hown hts w_657 w_1256 w_656 w_30 md_eafe8c ⟨Nat.le_of_ble_eq_true rfl, Nat.le_of_ble_eq_true rfl⟩ hG hZ hP hD hS hA rfl hl.1 rfl (Nat.le_of_ble_eq_true rfl) d_L5_83 ⟨(show _ ≤ mc by omega), (show _ ≤ ms by omega)⟩ (fun _ H locs hP hD hS => ?_)
        have hP : va_P z.1 classes (wv z ad8 E8 M8) H := hP
        have hD : va_D A (wv z ad8 E8 M8) := hD
        refine W.eq (g2 := F0 m 86 ls [.int (oI r74)]) rfl ?_
        refine lv_iload hx hb d_L5_86 (lv_at hl 4 rfl) ?_
        obtain ⟨ok75, h⟩ := ck_e h
        refine lv_icmp_ne (tgt := 95) hx hb d_L5_88 (by decide) (fun c9 => ?_) (fun c9 => ?_)
        · have h := ite_f (fun q => c9 ((oI_eq (a := r74) (b := r1) ok75 ok71).mpr q)) h
          refine lv_iconst (v := oI 0) hx hb d_L5_95 (by decide +kernel) ?_
          refine lv_istore (lv' := [(7, .int (oI 0)), (6, .int (oI r9)), (0, .ref (ad8 1)), (1, .ref (ad8 p1)), (3, .int (oI (1 + r0))), (4, .int (oI r1)), (5, .int (oI v8_5))]) hx hb d_L5_96 hl (by decide) rfl (fun ls hl => ?_)
          refine lv_iconst (v := oI 1) hx hb d_L5_98 (by decide +kernel) ?_
          refine lv_istore (lv' := [(8, .int (oI 1)), (7, .int (oI 0)), (6, .int (oI r9)), (0, .ref (ad8 1)), (1, .ref (ad8 p1)), (3, .int (oI (1 + r0))), (4, .int (oI r1)), (5, .int (oI v8_5))]) hx hb d_L5_99 hl (by decide) rfl (fun ls hl => ?_)
          obtain ⟨⟨t76, v76_7, v76_8, E76, M76⟩, g76, h⟩ := bd_e h
          obtain ⟨hgw76, h⟩ := ck_e h
          obtain ⟨hL76, h⟩ := ck_e h
          obtain ⟨ok76, h⟩ := ck_e h
          refine s_La_transferable_101 l z E8 ad8 p1 v8_5 hx hb hml hts hown hlocks hA hG hZ mc ms (c0 + 2053) (s0 + 16581) (by omega) (by omega) 5000 _ _ ad8 E8 M8 0 1 t76 v76_7 v76_8 E76 M76 (by omega) (by omega) (fun _ _ => rfl) (Nat.le_refl _) g76 (fun ad76 hag76 hEE76 e76 H locs ls hP hD hS hl => ?_) H locs ls hP hD hS (lv_sub hl [3, 4, 7, 1, 0] rfl)
          have hag0 : ∀ i, i < nE E0 → ad76 i = ad0 i := fun i hi => (hag76 i (Nat.lt_of_lt_of_le hi hE0)).trans (hag0 i hi)
          have hE0 : nE E0 ≤ nE E76 := Nat.le_trans hE0 hgw76.1
          have hL : Lay E76 := hL76
          have h_p1 : isO 12 E76 p1 := isO_up hgw76 h_p1
          refine lv_iconst (v := oI 0) hx hb d_L5_185 (by decide +kernel) ?_
          refine lv_istore (lv' := [(8, .int (oI 0)), (0, .ref (ad76 1)), (1, .ref (ad76 p1)), (7, .int (oI v76_7))]) hx hb d_L5_186 hl (by decide) rfl (fun ls hl => ?_)
          obtain ⟨⟨t77, v77_7, v77_8, E77, M77⟩, g77, h⟩ := bd_e h
          obtain ⟨hgw77, h⟩ := ck_e h
          obtain ⟨hL77, h⟩ := ck_e h
          obtain ⟨ok77, h⟩ := ck_e h
          refine s_La_transferable_188 l z E76 ad76 p1 hx hb hml hts hown hlocks hA hG hZ mc ms (c0 + 2053) (s0 + 16581) (by omega) (by omega) 5000 _ _ ad76 E76 M76 v76_7 0 t77 v77_7 v77_8 E77 M77 (by omega) (by omega) (fun _ _ => rfl) (Nat.le_refl _) g77 (fun ad77 hag77 hEE77 e77 H locs ls hP hD hS hl => ?_) H locs ls hP hD hS (lv_sub hl [1, 2, 3, 0] rfl)
          have hag0 : ∀ i, i < nE E0 → ad77 i = ad0 i := fun i hi => (hag77 i (Nat.lt_of_lt_of_le hi hE0)).trans (hag0 i hi)
          have hE0 : nE E0 ≤ nE E77 := Nat.le_trans hE0 hgw77.1
          have hL : Lay E77 := hL77
          exact b_La_transferable_j335 l z E0 ad0 ad77 E77 M77 v77_7 r F N hx hb hml hts hown hlocks hA hG hZ hr mc ms _ _ c1 s1 (by omega) (by omega) hm hm2 hag0 hE0 h H locs ls hP hD hS (lv_sub hl [0, 1] rfl)
        · have h := ite_t ((oI_eq (a := r74) (b := r1) ok75 ok71).mp c9) h
          refine lv_iconst (v := oI 1) hx hb d_L5_91 (by decide +kernel) ?_
          refine lv_goto (tgt := 96) hx hb d_L5_92 (by decide) ?_
          refine lv_istore (lv' := [(7, .int (oI 1)), (6, .int (oI r9)), (0, .ref (ad8 1)), (1, .ref (ad8 p1)), (3, .int (oI (1 + r0))), (4, .int (oI r1)), (5, .int (oI v8_5))]) hx hb d_L5_96 hl (by decide) rfl (fun ls hl => ?_)
          refine lv_iconst (v := oI 1) hx hb d_L5_98 (by decide +kernel) ?_
          refine lv_istore (lv' := [(8, .int (oI 1)), (7, .int (oI 1)), (6, .int (oI r9)), (0, .ref (ad8 1)), (1, .ref (ad8 p1)), (3, .int (oI (1 + r0))), (4, .int (oI r1)), (5, .int (oI v8_5))]) hx hb d_L5_99 hl (by decide) rfl (fun ls hl => ?_)
          obtain ⟨⟨t78, v78_7, v78_8, E78, M78⟩, g78, h⟩ := bd_e h
          obtain ⟨hgw78, h⟩ := ck_e h
          obtain ⟨hL78, h⟩ := ck_e h
          obtain ⟨ok78, h⟩ := ck_e h
          refine s_La_transferable_101 l z E8 ad8 p1 v8_5 hx hb hml hts hown hlocks hA hG hZ mc ms (c0 + 2053) (s0 + 16581) (by omega) (by omega) 5000 _ _ ad8 E8 M8 1 1 t78 v78_7 v78_8 E78 M78 (by omega) (by omega) (fun _ _ => rfl) (Nat.le_refl _) g78 (fun ad78 hag78 hEE78 e78 H locs ls hP hD hS hl => ?_) H locs ls hP hD hS (lv_sub hl [3, 4, 7, 1, 0] rfl)
          have hag0 : ∀ i, i < nE E0 → ad78 i = ad0 i := fun i hi => (hag78 i (Nat.lt_of_lt_of_le hi hE0)).trans (hag0 i hi)
          have hE0 : nE E0 ≤ nE E78 := Nat.le_trans hE0 hgw78.1
          have hL : Lay E78 := hL78
          have h_p1 : isO 12 E78 p1 := isO_up hgw78 h_p1
          refine lv_iconst (v := oI 0) hx hb d_L5_185 (by decide +kernel) ?_
          refine lv_istore (lv' := [(8, .int (oI 0)), (0, .ref (ad78 1)), (1, .ref (ad78 p1)), (7, .int (oI v78_7))]) hx hb d_L5_186 hl (by decide) rfl (fun ls hl => ?_)
          obtain ⟨⟨t79, v79_7, v79_8, E79, M79⟩, g79, h⟩ := bd_e h
          obtain ⟨hgw79, h⟩ := ck_e h
          obtain ⟨hL79, h⟩ := ck_e h
          obtain ⟨ok79, h⟩ := ck_e h
          refine s_La_transferable_188 l z E78 ad78 p1 hx hb hml hts hown hlocks hA hG hZ mc ms (c0 + 2053) (s0 + 16581) (by omega) (by omega) 5000 _ _ ad78 E78 M78 v78_7 0 t79 v79_7 v79_8 E79 M79 (by omega) (by omega) (fun _ _ => rfl) (Nat.le_refl _) g79 (fun ad79 hag79 hEE79 e79 H locs ls hP hD hS hl => ?_) H locs ls hP hD hS (lv_sub hl [1, 2, 3, 0] rfl)
          have hag0 : ∀ i, i < nE E0 → ad79 i = ad0 i := fun i hi => (hag79 i (Nat.lt_of_lt_of_le hi hE0)).trans (hag0 i hi)
          have hE0 : nE E0 ≤ nE E79 := Nat.le_trans hE0 hgw79.1
          have hL : Lay E79 := hL79
          exact b_La_transferable_j335 l z E0 ad0 ad79 E79 M79 v79_7 r F N hx hb hml hts hown hlocks hA hG hZ hr mc ms _ _ c1 s1 (by omega) (by omega) hm hm2 hag0 hE0 h H locs ls hP hD hS (lv_sub hl [0, 1] rfl)
  exact key E ad 2053 16581 0 0 2053 16581 _ _ _ (by decide) (by decide) (by decide) (by decide) (fun _ _ => rfl) (Nat.le_refl _) hts hP hS
set_option maxRecDepth 100000 in
set_option maxHeartbeats 4000000 in
theorem s_Bx_soleTopOf (l : Launch) (z : Zz) (ad : Nat → Nat) (E : Ev) (M : Mm) (x1 : Int) (x2 : Int) (r : Int)  (hL : Lay E) (h : f_Bx_soleTopOf E M x1 x2 = some r) : CT l z ⟨"Ballothall$BallotBox", "soleTopOf", "(II)I"⟩ prog_2_method_14_code 4 (some .int) [.ref (ad 2), .int (oI x1), .int (oI x2)] (wv z ad E M) 1 44 0 0 (fun _ => some (.int (oI r))) (fun _ => (wv z ad E M)) := by
  refine CT.of (own := "Ballothall$BallotBox") (by decide +kernel) (Nat.le_of_ble_eq_true rfl) rfl (fun p e s m below meth c A ls hx hb hml hr hts hown hlocks hin hA hG hZ hP hD hS hl => ?_)
  have hl : lv_has ls 4 [(0, .ref (ad 2)), (1, .int (oI x1)), (2, .int (oI x2))] := hl
  have key : ∀ (H : Heap) (locs : List Loc) (args : Array Value), (∀ w ∈ WG, w.before args s = true) → va_P z.1 classes (wv z ad E M) H → va_S A s.heap H locs → W p l e (rmK 1 44 0 0) s m args below meth c H locs 0 0 (MQ below (QK z A (fun _ => some (.int (oI r))) (fun _ => (wv z ad E M))) args s 0 0 A) (F0 m 0 ls []) := by
    intro H locs args hts hP hS
    unfold f_Bx_soleTopOf at h
    refine lv_aload_n hx hb d_2_14_0 rfl (lv_at hl 0 rfl) ?_
    refine lv_iload_n hx hb d_2_14_1 rfl (lv_at hl 1 rfl) ?_
    refine lv_iload_n hx hb d_2_14_2 rfl (lv_at hl 2 rfl) ?_
    obtain ⟨r0, g0, h⟩ := bd_e h
    refine kV (As := [.int (oI x1), .int (oI x2)]) (rest := []) (s_Bx_topOf l z ad E M x1 x2 r0 hL g0) hx hb hml hown hts w_685 w_682 w_684 w_s_b213f0 w_2 md_ddec8b ⟨Nat.le_of_ble_eq_true rfl, Nat.le_of_ble_eq_true rfl⟩ hG hZ hP hD hS hA 2 (wv_o (ci := 0) (yi_2 hL) (yt_2 hL)) rfl rfl rfl hl.1 rfl (Nat.le_of_ble_eq_true rfl) d_2_14_3 ⟨Nat.le_of_ble_eq_true rfl, Nat.le_of_ble_eq_true rfl⟩ (fun _ H locs hP hD hS => ?_)
    have hP : va_P z.1 classes (wv z ad E M) H := hP
    have hD : va_D A (wv z ad E M) := hD
    refine W.eq (g2 := F0 m 6 ls [.int (oI r0)]) rfl ?_
    refine lv_istore_n (lv' := [(3, .int (oI r0)), (0, .ref (ad 2)), (1, .int (oI x1)), (2, .int (oI x2))]) hx hb d_2_14_6 rfl hl (by decide) rfl (fun ls hl => ?_)
    refine lv_iload_n hx hb d_2_14_7 rfl (lv_at hl 0 rfl) ?_
    obtain ⟨r1, g1, h⟩ := bd_e h
    refine kS (As := [.int (oI r0)]) (rest := []) (s_In_bitCount l z ad E M r0 r1 hL g1) hx hb hml hown hts w_657 w_686 w_656 w_30 md_eafe8c ⟨Nat.le_of_ble_eq_true rfl, Nat.le_of_ble_eq_true rfl⟩ hG hZ hP hD hS hA rfl hl.1 rfl (Nat.le_of_ble_eq_true rfl) d_2_14_8 ⟨Nat.le_of_ble_eq_true rfl, Nat.le_of_ble_eq_true rfl⟩ (fun _ H locs hP hD hS => ?_)
    have hP : va_P z.1 classes (wv z ad E M) H := hP
    have hD : va_D A (wv z ad E M) := hD
    refine W.eq (g2 := F0 m 11 ls [.int (oI r1)]) rfl ?_
    refine lv_iconst (v := oI 1) hx hb d_2_14_11 (by decide +kernel) ?_
    obtain ⟨ok2, h⟩ := ck_e h
    refine lv_icmp_ne (tgt := 24) hx hb d_2_14_12 (by decide) (fun c9 => ?_) (fun c9 => ?_)
    · have h := ite_f (fun q => c9 ((oI_eq (a := r1) (b := (1 : Int)) ok2 (by decide)).mpr q)) h
      refine lv_iconst (v := oI (-1)) hx hb d_2_14_24 (by decide +kernel) ?_
      obtain rfl := in1 h
      exact W.iret hx hb hr (fun t ht hW => qkA hP hD hS (fun k => k) rfl rfl ht) hS.2.2 d_2_14_25
    · have h := ite_t ((oI_eq (a := r1) (b := (1 : Int)) ok2 (by decide)).mp c9) h
      refine lv_iload_n hx hb d_2_14_15 rfl (lv_at hl 0 rfl) ?_
      refine lv_iconst (v := oI 1) hx hb d_2_14_16 (by decide +kernel) ?_
      refine lv_isub hx hb d_2_14_17 ?_
      refine nrm (oI_sub _ _) ?_
      obtain ⟨r3, g3, h⟩ := bd_e h
      refine kS (As := [.int (oI (r0 - 1))]) (rest := []) (s_In_bitCount l z ad E M (r0 - 1) r3 hL g3) hx hb hml hown hts w_657 w_686 w_656 w_30 md_eafe8c ⟨Nat.le_of_ble_eq_true rfl, Nat.le_of_ble_eq_true rfl⟩ hG hZ hP hD hS hA rfl hl.1 rfl (Nat.le_of_ble_eq_true rfl) d_2_14_18 ⟨Nat.le_of_ble_eq_true rfl, Nat.le_of_ble_eq_true rfl⟩ (fun _ H locs hP hD hS => ?_)
      have hP : va_P z.1 classes (wv z ad E M) H := hP
      have hD : va_D A (wv z ad E M) := hD
      refine W.eq (g2 := F0 m 21 ls [.int (oI r3)]) rfl ?_
      refine lv_goto (tgt := 25) hx hb d_2_14_21 (by decide) ?_
      obtain rfl := in1 h
      exact W.iret hx hb hr (fun t ht hW => qkA hP hD hS (fun k => k) rfl rfl ht) hS.2.2 d_2_14_25
  exact key _ _ _ hts hP hS
set_option maxRecDepth 100000 in
set_option maxHeartbeats 4000000 in
theorem b_Po_changePairs_27b (l : Launch) (z : Zz) (ad : Nat → Nat) (E : Ev) (M : Mm) (x1 : Int) (x2 : Int) (x3 : Int) (x4 : Int) (x5 : Int) (t : Nat) (w5 : Int) (N : Mm) {Q : State → Prop} {p : Program} {e : Env} {s : State} {m : MethodId} {below : List Frame} {meth : Method} {c : Code} {A : Nat → Prop} {args : Array Value} (hx : p.tables.exec = Jvm.exec) (hb : c.code = prog_11_method_4_code) (hml : c.maxLocals = 6) (hts : ∀ w ∈ WG, w.before args s = true) (hown : s.vm.findClass "Ballothall$Poll" = some m.cls) (hlocks : meth.locks = false) (hA : ∀ q, s.heap.size ≤ q → A q) (hG : KG z s) (hZ : FZ z A s) (hL : Lay E) (h : Po_changePairs_27b E M x1 x2 x3 x4 x5 = some (t, w5, N)) (k0 : t = 0 → ∀ (H : Heap) (locs : List Loc) (ls : Array Slot), va_P z.1 classes (wv z ad E N) H → va_D A (wv z ad E N) → va_S A s.heap H locs → lv_has ls 6 [(0, .ref (ad 41)), (1, .int (oI x1)), (2, .int (oI x2)), (3, .int (oI x3)), (4, .int (oI x4)), (5, .int (oI w5))] → W p l e (rmK 1 41 0 0) s m args below meth c H locs 0 0 Q (F0 m 27 ls [])) (k1 : t = 1 → ∀ (H : Heap) (locs : List Loc) (ls : Array Slot), va_P z.1 classes (wv z ad E N) H → va_D A (wv z ad E N) → va_S A s.heap H locs → lv_has ls 6 [(0, .ref (ad 41)), (1, .int (oI x1)), (2, .int (oI x2)), (3, .int (oI x3)), (4, .int (oI x4))] → W p l e (rmK 1 41 0 0) s m args below meth c H locs 0 0 Q (F0 m 71 ls [])) : ∀ (H : Heap) (locs : List Loc) (ls : Array Slot), va_P z.1 classes (wv z ad E M) H → va_D A (wv z ad E M) → va_S A s.heap H locs → lv_has ls 6 [(0, .ref (ad 41)), (1, .int (oI x1)), (2, .int (oI x2)), (3, .int (oI x3)), (4, .int (oI x4)), (5, .int (oI x5))] → W p l e (rmK 1 41 0 0) s m args below meth c H locs 0 0 Q (F0 m 27 ls []) := by
  intro H locs ls hP hD hS hl
  unfold Po_changePairs_27b at h
  refine lv_iload hx hb d_11_4_27 (lv_at hl 5 rfl) ?_
  refine lv_aload_n hx hb d_11_4_29 rfl (lv_at hl 0 rfl) ?_
  refine m_gr (j := 2) (C := "Ballothall$Poll") (T := TX9) (N := 12) (ci := 9) (k := 0) hx hb hts iX9 hown hG hP (yi_41 hL) (yt_41 hL) rfl (by decide) w_107 (fun _ h9 => h9) rfl rfl (yr_41_0 hL) d_11_4_30 ?_
  refine m_giN (C := "Ballothall$BallotBox") (T := TX0) (N := 10) (ci := 0) (k := 2) hx hb hts iX0 hown hG hP (yi_2 hL) (yt_2 hL) rfl (by decide) n_53 rfl (fun _ h9 => h9) rfl rfl d_11_4_33 ?_
  obtain ⟨ok4, h⟩ := ck_e h
  obtain ⟨ok5, h⟩ := ck_e h
  refine lv_icmp_ge (tgt := 71) hx hb d_11_4_36 (by decide) (fun c9 => ?_) (fun c9 => ?_)
  · have h := ite_t ((oI_le (a := (M 2 2)) (b := x5) ok5 ok4).mp c9) h
    obtain ⟨rfl, rfl, rfl⟩ := in3 h
    exact k1 rfl H locs ls hP hD hS (lv_sub hl [0, 1, 2, 3, 4] rfl)
  · have h := ite_f (fun q => c9 ((oI_le (a := (M 2 2)) (b := x5) ok5 ok4).mpr q)) h
    refine lv_iload_n hx hb d_11_4_39 rfl (lv_at hl 2 rfl) ?_
    refine lv_iload hx hb d_11_4_40 (lv_at hl 5 rfl) ?_
    obtain ⟨r6, g6, h⟩ := bd_e h
    refine kSN (As := [.int (oI x2), .int (oI x5)]) (rest := []) (s_B_has l z ad E M x2 x5 r6 hL g6) hx hb hml hown hts w_693 n_691 w_692 w_1 md_26545c ⟨Nat.le_of_ble_eq_true rfl, Nat.le_of_ble_eq_true rfl⟩ hG hZ hP hD hS hA rfl hl.1 rfl (Nat.le_of_ble_eq_true rfl) d_11_4_42 ⟨Nat.le_of_ble_eq_true rfl, Nat.le_of_ble_eq_true rfl⟩ (fun _ H locs hP hD hS => ?_)
    have hP : va_P z.1 classes (wv z ad E M) H := hP
    have hD : va_D A (wv z ad E M) := hD
    refine W.eq (g2 := F0 m 45 ls [.int (oI r6)]) rfl ?_
    obtain ⟨ok7, h⟩ := ck_e h
    refine lv_if_eq (tgt := 65) hx hb d_11_4_45 (by decide) (fun c9 => ?_) (fun c9 => ?_)
    · have h := ite_t ((oI_eq0 ok7).mp c9) h
      refine lv_iinc (v := oI (x5 + 1)) (lv' := [(5, .int (oI (x5 + 1))), (0, .ref (ad 41)), (1, .int (oI x1)), (2, .int (oI x2)), (3, .int (oI x3)), (4, .int (oI x4))]) hx hb d_11_4_65 hl (k := 5) rfl (oI_add x5 1) (by decide) rfl (fun ls hl => ?_)
      refine lv_goto (tgt := 27) hx hb d_11_4_68 (by decide) ?_
      obtain ⟨rfl, rfl, rfl⟩ := in3 h
      exact k0 rfl H locs ls hP hD hS (lv_sub hl [1, 2, 3, 4, 5, 0] rfl)
    · have h := ite_f (fun q => c9 ((oI_eq0 ok7).mpr q)) h
      refine lv_aload_n hx hb d_11_4_48 rfl (lv_at hl 0 rfl) ?_
      refine m_gr (j := 45) (C := "Ballothall$Poll") (T := TX9) (N := 12) (ci := 9) (k := 6) hx hb hts iX9 hown hG hP (yi_41 hL) (yt_41 hL) rfl (by decide) w_113 (fun _ h9 => h9) rfl rfl (yr_41_6 hL) d_11_4_49 ?_
      refine lv_iload hx hb d_11_4_52 (lv_at hl 4 rfl) ?_
      refine lv_bipush (v := oI 8) hx hb d_11_4_54 (by decide +kernel) ?_
      refine lv_imul hx hb d_11_4_56 ?_
      refine nrm (oI_mul _ _) ?_
      refine lv_iload hx hb d_11_4_57 (lv_at hl 5 rfl) ?_
      refine lv_iadd hx hb d_11_4_59 ?_
      refine nrm (oI_add _ _) ?_
      refine lv_dup2_11 hx hb d_11_4_60 rfl rfl ?_
      obtain ⟨ok8, h⟩ := ck_e h
      refine m_ia hx hb hG hP (yi_45 hL) (yt_45 hL) ok8 d_11_4_61 ?_
      refine lv_iload_n hx hb d_11_4_62 rfl (lv_at hl 3 rfl) ?_
      refine lv_iadd hx hb d_11_4_63 ?_
      refine nrm (oI_add _ _) ?_
      obtain ⟨v9, e9, h⟩ := nb_e h
      refine nrm (congrArg oI e9.symm) ?_
      refine m_is hx hb hG hP hD hS (yi_45 hL) (yt_45 hL) ok8 d_11_4_64 (fun H locs hP hD hS => ?_)
      have hP : va_P z.1 classes (wv z ad E (u2 M 45 ((x4 * 8) + x5).toNat v9)) H := hP
      have hD : va_D A (wv z ad E (u2 M 45 ((x4 * 8) + x5).toNat v9)) := hD
      refine lv_iinc (v := oI (x5 + 1)) (lv' := [(5, .int (oI (x5 + 1))), (0, .ref (ad 41)), (1, .int (oI x1)), (2, .int (oI x2)), (3, .int (oI x3)), (4, .int (oI x4))]) hx hb d_11_4_65 hl (k := 5) rfl (oI_add x5 1) (by decide) rfl (fun ls hl => ?_)
      refine lv_goto (tgt := 27) hx hb d_11_4_68 (by decide) ?_
      obtain ⟨rfl, rfl, rfl⟩ := in3 h
      exact k0 rfl H locs ls hP hD hS (lv_sub hl [1, 2, 3, 4, 5, 0] rfl)
set_option maxRecDepth 100000 in
set_option maxHeartbeats 4000000 in
theorem s_Po_changePairs_27 (l : Launch) (z : Zz) (ad : Nat → Nat) (E : Ev) (x1 : Int) (x2 : Int) (x3 : Int) (x4 : Int) {Q : State → Prop} {p : Program} {e : Env} {s : State} {m : MethodId} {below : List Frame} {meth : Method} {c : Code} {A : Nat → Prop} {args : Array Value} (hx : p.tables.exec = Jvm.exec) (hb : c.code = prog_11_method_4_code) (hml : c.maxLocals = 6) (hts : ∀ w ∈ WG, w.before args s = true) (hown : s.vm.findClass "Ballothall$Poll" = some m.cls) (hlocks : meth.locks = false) (hA : ∀ q, s.heap.size ≤ q → A q) (hG : KG z s) (hZ : FZ z A s) (hL : Lay E) : ∀ (fu : Nat) (M : Mm) (x5 : Int) (t : Nat) (w5 : Int) (N : Mm), l_Po_changePairs_27 E x1 x2 x3 x4 fu M x5 = some (t, w5, N) → (t = 1 → ∀ (H : Heap) (locs : List Loc) (ls : Array Slot), va_P z.1 classes (wv z ad E N) H → va_D A (wv z ad E N) → va_S A s.heap H locs → lv_has ls 6 [(0, .ref (ad 41)), (1, .int (oI x1)), (2, .int (oI x2)), (3, .int (oI x3)), (4, .int (oI x4))] → W p l e (rmK 1 41 0 0) s m args below meth c H locs 0 0 Q (F0 m 71 ls [])) → ∀ (H : Heap) (locs : List Loc) (ls : Array Slot), va_P z.1 classes (wv z ad E M) H → va_D A (wv z ad E M) → va_S A s.heap H locs → lv_has ls 6 [(0, .ref (ad 41)), (1, .int (oI x1)), (2, .int (oI x2)), (3, .int (oI x3)), (4, .int (oI x4)), (5, .int (oI x5))] → W p l e (rmK 1 41 0 0) s m args below meth c H locs 0 0 Q (F0 m 27 ls []) := by
  intro fu
  induction fu with
  | zero =>
    intro M x5 t w5 N h
    have h : (none : Option (Nat × Int × Mm)) = some _ := h
    cases h
  | succ fu ih =>
    intro M x5 t w5 N h k1 H locs ls hP hD hS hl
    obtain ⟨⟨t0, w50, N9⟩, g0, h⟩ := bd_e h
    refine b_Po_changePairs_27b l z ad E M x1 x2 x3 x4 x5 t0 w50 N9 hx hb hml hts hown hlocks hA hG hZ hL g0 (fun e0 => ?_) (fun e0 => ?_) H locs ls hP hD hS hl
    · subst e0
      have h := ite_t rfl h
      exact ih N9 w50 t w5 N h k1
    · subst e0
      have h := ite_f (by decide) h
      obtain ⟨rfl, rfl, rfl⟩ := in3 h
      exact k1 rfl
set_option maxRecDepth 100000 in
set_option maxHeartbeats 4000000 in
theorem b_Po_changePairs_3b (l : Launch) (z : Zz) (ad : Nat → Nat) (E : Ev) (M : Mm) (x1 : Int) (x2 : Int) (x3 : Int) (x4 : Int) (t : Nat) (w4 : Int) (N : Mm) {Q : State → Prop} {p : Program} {e : Env} {s : State} {m : MethodId} {below : List Frame} {meth : Method} {c : Code} {A : Nat → Prop} {args : Array Value} (hx : p.tables.exec = Jvm.exec) (hb : c.code = prog_11_method_4_code) (hml : c.maxLocals = 6) (hts : ∀ w ∈ WG, w.before args s = true) (hown : s.vm.findClass "Ballothall$Poll" = some m.cls) (hlocks : meth.locks = false) (hA : ∀ q, s.heap.size ≤ q → A q) (hG : KG z s) (hZ : FZ z A s) (hL : Lay E) (h : Po_changePairs_3b E M x1 x2 x3 x4 = some (t, w4, N)) (k0 : t = 0 → ∀ (H : Heap) (locs : List Loc) (ls : Array Slot), va_P z.1 classes (wv z ad E N) H → va_D A (wv z ad E N) → va_S A s.heap H locs → lv_has ls 6 [(0, .ref (ad 41)), (1, .int (oI x1)), (2, .int (oI x2)), (3, .int (oI x3)), (4, .int (oI w4))] → W p l e (rmK 1 41 0 0) s m args below meth c H locs 0 0 Q (F0 m 3 ls [])) (k1 : t = 1 → ∀ (H : Heap) (locs : List Loc) (ls : Array Slot), va_P z.1 classes (wv z ad E N) H → va_D A (wv z ad E N) → va_S A s.heap H locs → lv_has ls 6 [] → W p l e (rmK 1 41 0 0) s m args below meth c H locs 0 0 Q (F0 m 77 ls [])) : ∀ (H : Heap) (locs : List Loc) (ls : Array Slot), va_P z.1 classes (wv z ad E M) H → va_D A (wv z ad E M) → va_S A s.heap H locs → lv_has ls 6 [(0, .ref (ad 41)), (1, .int (oI x1)), (2, .int (oI x2)), (3, .int (oI x3)), (4, .int (oI x4))] → W p l e (rmK 1 41 0 0) s m args below meth c H locs 0 0 Q (F0 m 3 ls []) := by
  intro H locs ls hP hD hS hl
  unfold Po_changePairs_3b at h
  refine lv_iload hx hb d_11_4_3 (lv_at hl 4 rfl) ?_
  refine lv_aload_n hx hb d_11_4_5 rfl (lv_at hl 0 rfl) ?_
  refine m_gr (j := 2) (C := "Ballothall$Poll") (T := TX9) (N := 12) (ci := 9) (k := 0) hx hb hts iX9 hown hG hP (yi_41 hL) (yt_41 hL) rfl (by decide) w_107 (fun _ h9 => h9) rfl rfl (yr_41_0 hL) d_11_4_6 ?_
  refine m_giN (C := "Ballothall$BallotBox") (T := TX0) (N := 10) (ci := 0) (k := 2) hx hb hts iX0 hown hG hP (yi_2 hL) (yt_2 hL) rfl (by decide) n_53 rfl (fun _ h9 => h9) rfl rfl d_11_4_9 ?_
  obtain ⟨ok0, h⟩ := ck_e h
  obtain ⟨ok1, h⟩ := ck_e h
  refine lv_icmp_ge (tgt := 77) hx hb d_11_4_12 (by decide) (fun c9 => ?_) (fun c9 => ?_)
  · have h := ite_t ((oI_le (a := (M 2 2)) (b := x4) ok1 ok0).mp c9) h
    obtain ⟨rfl, rfl, rfl⟩ := in3 h
    exact k1 rfl H locs ls hP hD hS (lv_sub hl [] rfl)
  · have h := ite_f (fun q => c9 ((oI_le (a := (M 2 2)) (b := x4) ok1 ok0).mpr q)) h
    refine lv_iload_n hx hb d_11_4_15 rfl (lv_at hl 1 rfl) ?_
    refine lv_iload hx hb d_11_4_16 (lv_at hl 4 rfl) ?_
    obtain ⟨r2, g2, h⟩ := bd_e h
    refine kSN (As := [.int (oI x1), .int (oI x4)]) (rest := []) (s_B_has l z ad E M x1 x4 r2 hL g2) hx hb hml hown hts w_693 n_691 w_692 w_1 md_26545c ⟨Nat.le_of_ble_eq_true rfl, Nat.le_of_ble_eq_true rfl⟩ hG hZ hP hD hS hA rfl hl.1 rfl (Nat.le_of_ble_eq_true rfl) d_11_4_18 ⟨Nat.le_of_ble_eq_true rfl, Nat.le_of_ble_eq_true rfl⟩ (fun _ H locs hP hD hS => ?_)
    have hP : va_P z.1 classes (wv z ad E M) H := hP
    have hD : va_D A (wv z ad E M) := hD
    refine W.eq (g2 := F0 m 21 ls [.int (oI r2)]) rfl ?_
    obtain ⟨ok3, h⟩ := ck_e h
    refine lv_if_eq (tgt := 71) hx hb d_11_4_21 (by decide) (fun c9 => ?_) (fun c9 => ?_)
    · have h := ite_t ((oI_eq0 ok3).mp c9) h
      refine lv_iinc (v := oI (x4 + 1)) (lv' := [(4, .int (oI (x4 + 1))), (0, .ref (ad 41)), (1, .int (oI x1)), (2, .int (oI x2)), (3, .int (oI x3))]) hx hb d_11_4_71 hl (k := 4) rfl (oI_add x4 1) (by decide) rfl (fun ls hl => ?_)
      refine lv_goto (tgt := 3) hx hb d_11_4_74 (by decide) ?_
      obtain ⟨rfl, rfl, rfl⟩ := in3 h
      exact k0 rfl H locs ls hP hD hS (lv_sub hl [1, 2, 3, 4, 0] rfl)
    · have h := ite_f (fun q => c9 ((oI_eq0 ok3).mpr q)) h
      refine lv_iconst (v := oI 0) hx hb d_11_4_24 (by decide +kernel) ?_
      refine lv_istore (lv' := [(5, .int (oI 0)), (0, .ref (ad 41)), (1, .int (oI x1)), (2, .int (oI x2)), (3, .int (oI x3)), (4, .int (oI x4))]) hx hb d_11_4_25 hl (by decide) rfl (fun ls hl => ?_)
      obtain ⟨⟨t10, v10_5, M10⟩, g10, h⟩ := bd_e h
      obtain ⟨ok10, h⟩ := ck_e h
      refine s_Po_changePairs_27 l z ad E x1 x2 x3 x4 hx hb hml hts hown hlocks hA hG hZ hL FU M 0 t10 v10_5 M10 g10 (fun e10 H locs ls hP hD hS hl => ?_) H locs ls hP hD hS (lv_sub hl [1, 2, 3, 4, 5, 0] rfl)
      refine lv_iinc (v := oI (x4 + 1)) (lv' := [(4, .int (oI (x4 + 1))), (0, .ref (ad 41)), (1, .int (oI x1)), (2, .int (oI x2)), (3, .int (oI x3))]) hx hb d_11_4_71 hl (k := 4) rfl (oI_add x4 1) (by decide) rfl (fun ls hl => ?_)
      refine lv_goto (tgt := 3) hx hb d_11_4_74 (by decide) ?_
      obtain ⟨rfl, rfl, rfl⟩ := in3 h
      exact k0 rfl H locs ls hP hD hS (lv_sub hl [1, 2, 3, 4, 0] rfl)
set_option maxRecDepth 100000 in
set_option maxHeartbeats 4000000 in
theorem s_Po_changePairs_3 (l : Launch) (z : Zz) (ad : Nat → Nat) (E : Ev) (x1 : Int) (x2 : Int) (x3 : Int) {Q : State → Prop} {p : Program} {e : Env} {s : State} {m : MethodId} {below : List Frame} {meth : Method} {c : Code} {A : Nat → Prop} {args : Array Value} (hx : p.tables.exec = Jvm.exec) (hb : c.code = prog_11_method_4_code) (hml : c.maxLocals = 6) (hts : ∀ w ∈ WG, w.before args s = true) (hown : s.vm.findClass "Ballothall$Poll" = some m.cls) (hlocks : meth.locks = false) (hA : ∀ q, s.heap.size ≤ q → A q) (hG : KG z s) (hZ : FZ z A s) (hL : Lay E) : ∀ (fu : Nat) (M : Mm) (x4 : Int) (t : Nat) (w4 : Int) (N : Mm), l_Po_changePairs_3 E x1 x2 x3 fu M x4 = some (t, w4, N) → (t = 1 → ∀ (H : Heap) (locs : List Loc) (ls : Array Slot), va_P z.1 classes (wv z ad E N) H → va_D A (wv z ad E N) → va_S A s.heap H locs → lv_has ls 6 [] → W p l e (rmK 1 41 0 0) s m args below meth c H locs 0 0 Q (F0 m 77 ls [])) → ∀ (H : Heap) (locs : List Loc) (ls : Array Slot), va_P z.1 classes (wv z ad E M) H → va_D A (wv z ad E M) → va_S A s.heap H locs → lv_has ls 6 [(0, .ref (ad 41)), (1, .int (oI x1)), (2, .int (oI x2)), (3, .int (oI x3)), (4, .int (oI x4))] → W p l e (rmK 1 41 0 0) s m args below meth c H locs 0 0 Q (F0 m 3 ls []) := by
  intro fu
  induction fu with
  | zero =>
    intro M x4 t w4 N h
    have h : (none : Option (Nat × Int × Mm)) = some _ := h
    cases h
  | succ fu ih =>
    intro M x4 t w4 N h k1 H locs ls hP hD hS hl
    obtain ⟨⟨t0, w40, N9⟩, g0, h⟩ := bd_e h
    refine b_Po_changePairs_3b l z ad E M x1 x2 x3 x4 t0 w40 N9 hx hb hml hts hown hlocks hA hG hZ hL g0 (fun e0 => ?_) (fun e0 => ?_) H locs ls hP hD hS hl
    · subst e0
      have h := ite_t rfl h
      exact ih N9 w40 t w4 N h k1
    · subst e0
      have h := ite_f (by decide) h
      obtain ⟨rfl, rfl, rfl⟩ := in3 h
      exact k1 rfl
set_option maxRecDepth 100000 in
set_option maxHeartbeats 4000000 in
theorem s_Po_changePairs (l : Launch) (z : Zz) (ad : Nat → Nat) (E : Ev) (M : Mm) (x1 : Int) (x2 : Int) (x3 : Int) (N : Mm) (hL : Lay E) (h : f_Po_changePairs E M x1 x2 x3 = some N) : CT l z ⟨"Ballothall$Poll", "changePairs", "(III)V"⟩ prog_11_method_4_code 6 none [.ref (ad 41), .int (oI x1), .int (oI x2), .int (oI x3)] (wv z ad E M) 1 41 0 0 (fun _ => none) (fun _ => (wv z ad E N)) := by
  refine CT.of (own := "Ballothall$Poll") (by decide +kernel) (Nat.le_of_ble_eq_true rfl) rfl (fun p e s m below meth c A ls hx hb hml hr hts hown hlocks hin hA hG hZ hP hD hS hl => ?_)
  have hl : lv_has ls 6 [(0, .ref (ad 41)), (1, .int (oI x1)), (2, .int (oI x2)), (3, .int (oI x3))] := hl
  have key : ∀ (H : Heap) (locs : List Loc) (args : Array Value), (∀ w ∈ WG, w.before args s = true) → va_P z.1 classes (wv z ad E M) H → va_S A s.heap H locs → W p l e (rmK 1 41 0 0) s m args below meth c H locs 0 0 (MQ below (QK z A (fun _ => none) (fun _ => (wv z ad E N))) args s 0 0 A) (F0 m 0 ls []) := by
    intro H locs args hts hP hS
    unfold f_Po_changePairs at h
    refine lv_iconst (v := oI 0) hx hb d_11_4_0 (by decide +kernel) ?_
    refine lv_istore (lv' := [(4, .int (oI 0)), (0, .ref (ad 41)), (1, .int (oI x1)), (2, .int (oI x2)), (3, .int (oI x3))]) hx hb d_11_4_1 hl (by decide) rfl (fun ls hl => ?_)
    obtain ⟨⟨t11, v11_4, M11⟩, g11, h⟩ := bd_e h
    obtain ⟨ok11, h⟩ := ck_e h
    refine s_Po_changePairs_3 l z ad E x1 x2 x3 hx hb hml hts hown hlocks hA hG hZ hL FU M 0 t11 v11_4 M11 g11 (fun e11 H locs ls hP hD hS hl => ?_) H locs ls hP hD hS (lv_sub hl [1, 2, 3, 4, 0] rfl)
    obtain rfl := in1 h
    exact W.vret hx hb hr (fun t ht hW => qkA hP hD hS (fun k => k) rfl rfl ht) hS.2.2 d_11_4_77
  exact key _ _ _ hts hP hS
set_option maxRecDepth 100000 in
set_option maxHeartbeats 4000000 in
theorem b_Po_change_62b (l : Launch) (z : Zz) (ad : Nat → Nat) (E : Ev) (M : Mm) (x1 : Int) (x2 : Int) (x4 : Int) (x5 : Int) (t : Nat) (w4 : Int) (w5 : Int) (N : Mm) {Q : State → Prop} {p : Program} {e : Env} {s : State} {m : MethodId} {below : List Frame} {meth : Method} {c : Code} {A : Nat → Prop} {args : Array Value} (hx : p.tables.exec = Jvm.exec) (hb : c.code = prog_11_method_3_code) (hml : c.maxLocals = 7) (hts : ∀ w ∈ WG, w.before args s = true) (hown : s.vm.findClass "Ballothall$Poll" = some m.cls) (hlocks : meth.locks = false) (hA : ∀ q, s.heap.size ≤ q → A q) (hG : KG z s) (hZ : FZ z A s) (hL : Lay E) (h : Po_change_62b E M x1 x2 x4 x5 = some (t, w4, w5, N)) (k0 : t = 0 → ∀ (H : Heap) (locs : List Loc) (ls : Array Slot), va_P z.1 classes (wv z ad E N) H → va_D A (wv z ad E N) → va_S A s.heap H locs → lv_has ls 7 [(0, .ref (ad 41)), (1, .int (oI x1)), (2, .int (oI x2)), (4, .int (oI w4)), (5, .int (oI w5))] → W p l e (rmK 2 67 0 0) s m args below meth c H locs 0 0 Q (F0 m 62 ls [])) (k1 : t = 1 → ∀ (H : Heap) (locs : List Loc) (ls : Array Slot), va_P z.1 classes (wv z ad E N) H → va_D A (wv z ad E N) → va_S A s.heap H locs → lv_has ls 7 [(0, .ref (ad 41)), (1, .int (oI x1)), (2, .int (oI x2))] → W p l e (rmK 2 67 0 0) s m args below meth c H locs 0 0 Q (F0 m 119 ls [])) : ∀ (H : Heap) (locs : List Loc) (ls : Array Slot), va_P z.1 classes (wv z ad E M) H → va_D A (wv z ad E M) → va_S A s.heap H locs → lv_has ls 7 [(0, .ref (ad 41)), (1, .int (oI x1)), (2, .int (oI x2)), (4, .int (oI x4)), (5, .int (oI x5))] → W p l e (rmK 2 67 0 0) s m args below meth c H locs 0 0 Q (F0 m 62 ls []) := by
  intro H locs ls hP hD hS hl
  unfold Po_change_62b at h
  refine lv_iload hx hb d_11_3_62 (lv_at hl 4 rfl) ?_
  refine lv_aload_n hx hb d_11_3_64 rfl (lv_at hl 0 rfl) ?_
  refine m_gr (j := 2) (C := "Ballothall$Poll") (T := TX9) (N := 12) (ci := 9) (k := 0) hx hb hts iX9 hown hG hP (yi_41 hL) (yt_41 hL) rfl (by decide) w_107 (fun _ h9 => h9) rfl rfl (yr_41_0 hL) d_11_3_65 ?_
  refine m_grN (j := 7) (C := "Ballothall$BallotBox") (T := TX0) (N := 10) (ci := 0) (k := 7) hx hb hts iX0 hown hG hP (yi_2 hL) (yt_2 hL) rfl (by decide) n_73 rfl (fun _ h9 => h9) rfl rfl (yr_2_7 hL) d_11_3_68 ?_
  refine lv_iload_n hx hb d_11_3_71 rfl (lv_at hl 1 rfl) ?_
  obtain ⟨ok5, h⟩ := ck_e h
  refine m_ia hx hb hG hP (yi_7 hL) (yt_7 hL) ok5 d_11_3_72 ?_
  obtain ⟨ok6, h⟩ := ck_e h
  obtain ⟨ok7, h⟩ := ck_e h
  refine lv_icmp_ge (tgt := 119) hx hb d_11_3_73 (by decide) (fun c9 => ?_) (fun c9 => ?_)
  · have h := ite_t ((oI_le (a := (M 7 x1.toNat)) (b := x5) ok7 ok6).mp c9) h
    obtain ⟨rfl, rfl, rfl, rfl⟩ := in4 h
    exact k1 rfl H locs ls hP hD hS (lv_sub hl [0, 1, 2] rfl)
  · have h := ite_f (fun q => c9 ((oI_le (a := (M 7 x1.toNat)) (b := x5) ok7 ok6).mpr q)) h
    refine lv_aload_n hx hb d_11_3_76 rfl (lv_at hl 0 rfl) ?_
    refine m_gr (j := 2) (C := "Ballothall$Poll") (T := TX9) (N := 12) (ci := 9) (k := 0) hx hb hts iX9 hown hG hP (yi_41 hL) (yt_41 hL) rfl (by decide) w_107 (fun _ h9 => h9) rfl rfl (yr_41_0 hL) d_11_3_77 ?_
    refine m_grN (j := 8) (C := "Ballothall$BallotBox") (T := TX0) (N := 10) (ci := 0) (k := 8) hx hb hts iX0 hown hG hP (yi_2 hL) (yt_2 hL) rfl (by decide) n_76 rfl (fun _ h9 => h9) rfl rfl (yr_2_8 hL) d_11_3_80 ?_
    refine lv_iload_n hx hb d_11_3_83 rfl (lv_at hl 1 rfl) ?_
    refine m_ar (k := (9 + x1.toNat)) hx hb hG hP (yi_8 hL) (yt_8 hL) ok5 (ya_8 hL (inb_lt ok5)) d_11_3_84 ?_
    refine lv_iload hx hb d_11_3_85 (lv_at hl 4 rfl) ?_
    obtain ⟨ok8, h⟩ := ck_e h
    refine m_ia hx hb hG hP (yg_8 hL ok5).1 (yg_8 hL ok5).2 ok8 d_11_3_87 ?_
    refine lv_aload_n hx hb d_11_3_88 rfl (lv_at hl 0 rfl) ?_
    refine m_gi (C := "Ballothall$Poll") (T := TX9) (N := 12) (ci := 9) (k := 1) hx hb hts iX9 hown hG hP (yi_41 hL) (yt_41 hL) rfl (by decide) w_108 (fun _ h9 => h9) rfl rfl d_11_3_89 ?_
    obtain ⟨ok9, h⟩ := ck_e h
    obtain ⟨ok10, h⟩ := ck_e h
    refine lv_iand hx hb d_11_3_92 ?_
    refine nrm (oI_and (a := (M (9 + x1.toNat) x5.toNat)) (b := (M 41 1)) ok9.1 ok9.2 ok10.1 ok10.2) ?_
    obtain ⟨v11, e11, h⟩ := nb_e h
    refine nrm (congrArg oI e11.symm) ?_
    refine lv_istore (lv' := [(6, .int (oI v11)), (0, .ref (ad 41)), (1, .int (oI x1)), (2, .int (oI x2)), (4, .int (oI x4)), (5, .int (oI x5))]) hx hb d_11_3_93 hl (by decide) rfl (fun ls hl => ?_)
    refine lv_iload hx hb d_11_3_95 (lv_at hl 4 rfl) ?_
    refine lv_iload hx hb d_11_3_97 (lv_at hl 0 rfl) ?_
    refine lv_iconst (v := oI (-1)) hx hb d_11_3_99 (by decide +kernel) ?_
    refine lv_ixor hx hb d_11_3_100 ?_
    refine nrm (oI_not _) ?_
    obtain ⟨ok12, h⟩ := ck_e h
    obtain ⟨ok13, h⟩ := ck_e h
    refine lv_iand hx hb d_11_3_101 ?_
    refine nrm (oI_dif ok12.1 ok12.2 ok13.1 ok13.2) ?_
    refine lv_istore (lv' := [(4, .int (oI (dfI x4 v11))), (6, .int (oI v11)), (0, .ref (ad 41)), (1, .int (oI x1)), (2, .int (oI x2)), (5, .int (oI x5))]) hx hb d_11_3_102 hl (by decide) rfl (fun ls hl => ?_)
    refine lv_aload_n hx hb d_11_3_104 rfl (lv_at hl 2 rfl) ?_
    refine lv_iload hx hb d_11_3_105 (lv_at hl 1 rfl) ?_
    refine lv_iload hx hb d_11_3_107 (lv_at hl 0 rfl) ?_
    refine lv_iload_n hx hb d_11_3_109 rfl (lv_at hl 4 rfl) ?_
    obtain ⟨M14, g14, h⟩ := bd_e h
    refine kV (As := [.int (oI v11), .int (oI (dfI x4 v11)), .int (oI x2)]) (rest := []) (s_Po_changePairs l z ad E M v11 (dfI x4 v11) x2 M14 hL g14) hx hb hml hown hts w_690 w_687 w_689 w_s_226bdf w_3 md_40f91f ⟨Nat.le_of_ble_eq_true rfl, Nat.le_of_ble_eq_true rfl⟩ hG hZ hP hD hS hA 41 (wv_o (ci := 9) (yi_41 hL) (yt_41 hL)) rfl rfl rfl hl.1 rfl (Nat.le_of_ble_eq_true rfl) d_11_3_110 ⟨Nat.le_of_ble_eq_true rfl, Nat.le_of_ble_eq_true rfl⟩ (fun _ H locs hP hD hS => ?_)
    have hP : va_P z.1 classes (wv z ad E M14) H := hP
    have hD : va_D A (wv z ad E M14) := hD
    refine W.eq (g2 := F0 m 113 ls []) rfl ?_
    refine lv_iinc (v := oI (x5 + 1)) (lv' := [(5, .int (oI (x5 + 1))), (4, .int (oI (dfI x4 v11))), (6, .int (oI v11)), (0, .ref (ad 41)), (1, .int (oI x1)), (2, .int (oI x2))]) hx hb d_11_3_113 hl (k := 5) rfl (oI_add x5 1) (by decide) rfl (fun ls hl => ?_)
    refine lv_goto (tgt := 62) hx hb d_11_3_116 (by decide) ?_
    obtain ⟨rfl, rfl, rfl, rfl⟩ := in4 h
    exact k0 rfl H locs ls hP hD hS (lv_sub hl [3, 4, 5, 1, 0] rfl)
set_option maxRecDepth 100000 in
set_option maxHeartbeats 4000000 in
theorem s_Po_change_62 (l : Launch) (z : Zz) (ad : Nat → Nat) (E : Ev) (x1 : Int) (x2 : Int) {Q : State → Prop} {p : Program} {e : Env} {s : State} {m : MethodId} {below : List Frame} {meth : Method} {c : Code} {A : Nat → Prop} {args : Array Value} (hx : p.tables.exec = Jvm.exec) (hb : c.code = prog_11_method_3_code) (hml : c.maxLocals = 7) (hts : ∀ w ∈ WG, w.before args s = true) (hown : s.vm.findClass "Ballothall$Poll" = some m.cls) (hlocks : meth.locks = false) (hA : ∀ q, s.heap.size ≤ q → A q) (hG : KG z s) (hZ : FZ z A s) (hL : Lay E) : ∀ (fu : Nat) (M : Mm) (x4 : Int) (x5 : Int) (t : Nat) (w4 : Int) (w5 : Int) (N : Mm), l_Po_change_62 E x1 x2 fu M x4 x5 = some (t, w4, w5, N) → (t = 1 → ∀ (H : Heap) (locs : List Loc) (ls : Array Slot), va_P z.1 classes (wv z ad E N) H → va_D A (wv z ad E N) → va_S A s.heap H locs → lv_has ls 7 [(0, .ref (ad 41)), (1, .int (oI x1)), (2, .int (oI x2))] → W p l e (rmK 2 67 0 0) s m args below meth c H locs 0 0 Q (F0 m 119 ls [])) → ∀ (H : Heap) (locs : List Loc) (ls : Array Slot), va_P z.1 classes (wv z ad E M) H → va_D A (wv z ad E M) → va_S A s.heap H locs → lv_has ls 7 [(0, .ref (ad 41)), (1, .int (oI x1)), (2, .int (oI x2)), (4, .int (oI x4)), (5, .int (oI x5))] → W p l e (rmK 2 67 0 0) s m args below meth c H locs 0 0 Q (F0 m 62 ls []) := by
  intro fu
  induction fu with
  | zero =>
    intro M x4 x5 t w4 w5 N h
    have h : (none : Option (Nat × Int × Int × Mm)) = some _ := h
    cases h
  | succ fu ih =>
    intro M x4 x5 t w4 w5 N h k1 H locs ls hP hD hS hl
    obtain ⟨⟨t0, w40, w50, N9⟩, g0, h⟩ := bd_e h
    refine b_Po_change_62b l z ad E M x1 x2 x4 x5 t0 w40 w50 N9 hx hb hml hts hown hlocks hA hG hZ hL g0 (fun e0 => ?_) (fun e0 => ?_) H locs ls hP hD hS hl
    · subst e0
      have h := ite_t rfl h
      exact ih N9 w40 w50 t w4 w5 N h k1
    · subst e0
      have h := ite_f (by decide) h
      obtain ⟨rfl, rfl, rfl, rfl⟩ := in4 h
      exact k1 rfl
set_option maxRecDepth 100000 in
set_option maxHeartbeats 4000000 in
theorem b_Po_change_122b (l : Launch) (z : Zz) (ad : Nat → Nat) (E : Ev) (M : Mm) (x1 : Int) (x2 : Int) (x5 : Int) (t : Nat) (w5 : Int) (N : Mm) {Q : State → Prop} {p : Program} {e : Env} {s : State} {m : MethodId} {below : List Frame} {meth : Method} {c : Code} {A : Nat → Prop} {args : Array Value} (hx : p.tables.exec = Jvm.exec) (hb : c.code = prog_11_method_3_code) (hml : c.maxLocals = 7) (hts : ∀ w ∈ WG, w.before args s = true) (hown : s.vm.findClass "Ballothall$Poll" = some m.cls) (hlocks : meth.locks = false) (hA : ∀ q, s.heap.size ≤ q → A q) (hG : KG z s) (hZ : FZ z A s) (hL : Lay E) (h : Po_change_122b E M x1 x2 x5 = some (t, w5, N)) (k0 : t = 0 → ∀ (H : Heap) (locs : List Loc) (ls : Array Slot), va_P z.1 classes (wv z ad E N) H → va_D A (wv z ad E N) → va_S A s.heap H locs → lv_has ls 7 [(0, .ref (ad 41)), (1, .int (oI x1)), (2, .int (oI x2)), (5, .int (oI w5))] → W p l e (rmK 2 67 0 0) s m args below meth c H locs 0 0 Q (F0 m 122 ls [])) (k1 : t = 1 → ∀ (H : Heap) (locs : List Loc) (ls : Array Slot), va_P z.1 classes (wv z ad E N) H → va_D A (wv z ad E N) → va_S A s.heap H locs → lv_has ls 7 [] → W p l e (rmK 2 67 0 0) s m args below meth c H locs 0 0 Q (F0 m 173 ls [])) : ∀ (H : Heap) (locs : List Loc) (ls : Array Slot), va_P z.1 classes (wv z ad E M) H → va_D A (wv z ad E M) → va_S A s.heap H locs → lv_has ls 7 [(0, .ref (ad 41)), (1, .int (oI x1)), (2, .int (oI x2)), (5, .int (oI x5))] → W p l e (rmK 2 67 0 0) s m args below meth c H locs 0 0 Q (F0 m 122 ls []) := by
  intro H locs ls hP hD hS hl
  unfold Po_change_122b at h
  refine lv_iload hx hb d_11_3_122 (lv_at hl 3 rfl) ?_
  refine lv_aload_n hx hb d_11_3_124 rfl (lv_at hl 0 rfl) ?_
  refine m_gr (j := 2) (C := "Ballothall$Poll") (T := TX9) (N := 12) (ci := 9) (k := 0) hx hb hts iX9 hown hG hP (yi_41 hL) (yt_41 hL) rfl (by decide) w_107 (fun _ h9 => h9) rfl rfl (yr_41_0 hL) d_11_3_125 ?_
  refine m_giN (C := "Ballothall$BallotBox") (T := TX0) (N := 10) (ci := 0) (k := 2) hx hb hts iX0 hown hG hP (yi_2 hL) (yt_2 hL) rfl (by decide) n_53 rfl (fun _ h9 => h9) rfl rfl d_11_3_128 ?_
  obtain ⟨ok16, h⟩ := ck_e h
  obtain ⟨ok17, h⟩ := ck_e h
  refine lv_icmp_ge (tgt := 173) hx hb d_11_3_131 (by decide) (fun c9 => ?_) (fun c9 => ?_)
  · have h := ite_t ((oI_le (a := (M 2 2)) (b := x5) ok17 ok16).mp c9) h
    obtain ⟨rfl, rfl, rfl⟩ := in3 h
    exact k1 rfl H locs ls hP hD hS (lv_sub hl [] rfl)
  · have h := ite_f (fun q => c9 ((oI_le (a := (M 2 2)) (b := x5) ok17 ok16).mpr q)) h
    refine lv_aload_n hx hb d_11_3_134 rfl (lv_at hl 0 rfl) ?_
    refine m_gr (j := 2) (C := "Ballothall$Poll") (T := TX9) (N := 12) (ci := 9) (k := 0) hx hb hts iX9 hown hG hP (yi_41 hL) (yt_41 hL) rfl (by decide) w_107 (fun _ h9 => h9) rfl rfl (yr_41_0 hL) d_11_3_135 ?_
    refine m_grN (j := 6) (C := "Ballothall$BallotBox") (T := TX0) (N := 10) (ci := 0) (k := 6) hx hb hts iX0 hown hG hP (yi_2 hL) (yt_2 hL) rfl (by decide) n_69 rfl (fun _ h9 => h9) rfl rfl (yr_2_6 hL) d_11_3_138 ?_
    refine lv_iload_n hx hb d_11_3_141 rfl (lv_at hl 1 rfl) ?_
    obtain ⟨ok18, h⟩ := ck_e h
    refine m_ia hx hb hG hP (yi_6 hL) (yt_6 hL) ok18 d_11_3_142 ?_
    refine lv_aload_n hx hb d_11_3_143 rfl (lv_at hl 0 rfl) ?_
    refine m_gi (C := "Ballothall$Poll") (T := TX9) (N := 12) (ci := 9) (k := 1) hx hb hts iX9 hown hG hP (yi_41 hL) (yt_41 hL) rfl (by decide) w_108 (fun _ h9 => h9) rfl rfl d_11_3_144 ?_
    obtain ⟨ok19, h⟩ := ck_e h
    obtain ⟨ok20, h⟩ := ck_e h
    refine lv_iand hx hb d_11_3_147 ?_
    refine nrm (oI_and (a := (M 6 x1.toNat)) (b := (M 41 1)) ok19.1 ok19.2 ok20.1 ok20.2) ?_
    refine lv_iload hx hb d_11_3_148 (lv_at hl 3 rfl) ?_
    obtain ⟨r21, g21, h⟩ := bd_e h
    refine kSN (As := [.int (oI (andI (M 6 x1.toNat) (M 41 1))), .int (oI x5)]) (rest := []) (s_B_has l z ad E M (andI (M 6 x1.toNat) (M 41 1)) x5 r21 hL g21) hx hb hml hown hts w_693 n_691 w_692 w_1 md_26545c ⟨Nat.le_of_ble_eq_true rfl, Nat.le_of_ble_eq_true rfl⟩ hG hZ hP hD hS hA rfl hl.1 rfl (Nat.le_of_ble_eq_true rfl) d_11_3_150 ⟨Nat.le_of_ble_eq_true rfl, Nat.le_of_ble_eq_true rfl⟩ (fun _ H locs hP hD hS => ?_)
    have hP : va_P z.1 classes (wv z ad E M) H := hP
    have hD : va_D A (wv z ad E M) := hD
    refine W.eq (g2 := F0 m 153 ls [.int (oI r21)]) rfl ?_
    obtain ⟨ok22, h⟩ := ck_e h
    refine lv_if_eq (tgt := 167) hx hb d_11_3_153 (by decide) (fun c9 => ?_) (fun c9 => ?_)
    · have h := ite_t ((oI_eq0 ok22).mp c9) h
      refine lv_iinc (v := oI (x5 + 1)) (lv' := [(5, .int (oI (x5 + 1))), (0, .ref (ad 41)), (1, .int (oI x1)), (2, .int (oI x2))]) hx hb d_11_3_167 hl (k := 3) rfl (oI_add x5 1) (by decide) rfl (fun ls hl => ?_)
      refine lv_goto (tgt := 122) hx hb d_11_3_170 (by decide) ?_
      obtain ⟨rfl, rfl, rfl⟩ := in3 h
      exact k0 rfl H locs ls hP hD hS (lv_sub hl [1, 2, 3, 0] rfl)
    · have h := ite_f (fun q => c9 ((oI_eq0 ok22).mpr q)) h
      refine lv_aload_n hx hb d_11_3_156 rfl (lv_at hl 0 rfl) ?_
      refine m_gr (j := 44) (C := "Ballothall$Poll") (T := TX9) (N := 12) (ci := 9) (k := 5) hx hb hts iX9 hown hG hP (yi_41 hL) (yt_41 hL) rfl (by decide) w_112 (fun _ h9 => h9) rfl rfl (yr_41_5 hL) d_11_3_157 ?_
      refine lv_iload hx hb d_11_3_160 (lv_at hl 3 rfl) ?_
      refine lv_dup2_11 hx hb d_11_3_162 rfl rfl ?_
      obtain ⟨ok23, h⟩ := ck_e h
      refine m_ia hx hb hG hP (yi_44 hL) (yt_44 hL) ok23 d_11_3_163 ?_
      refine lv_iload_n hx hb d_11_3_164 rfl (lv_at hl 2 rfl) ?_
      refine lv_iadd hx hb d_11_3_165 ?_
      refine nrm (oI_add _ _) ?_
      refine m_is hx hb hG hP hD hS (yi_44 hL) (yt_44 hL) ok23 d_11_3_166 (fun H locs hP hD hS => ?_)
      have hP : va_P z.1 classes (wv z ad E (u2 M 44 x5.toNat ((M 44 x5.toNat) + x2))) H := hP
      have hD : va_D A (wv z ad E (u2 M 44 x5.toNat ((M 44 x5.toNat) + x2))) := hD
      refine lv_iinc (v := oI (x5 + 1)) (lv' := [(5, .int (oI (x5 + 1))), (0, .ref (ad 41)), (1, .int (oI x1)), (2, .int (oI x2))]) hx hb d_11_3_167 hl (k := 3) rfl (oI_add x5 1) (by decide) rfl (fun ls hl => ?_)
      refine lv_goto (tgt := 122) hx hb d_11_3_170 (by decide) ?_
      obtain ⟨rfl, rfl, rfl⟩ := in3 h
      exact k0 rfl H locs ls hP hD hS (lv_sub hl [1, 2, 3, 0] rfl)
set_option maxRecDepth 100000 in
set_option maxHeartbeats 4000000 in
theorem s_Po_change_122 (l : Launch) (z : Zz) (ad : Nat → Nat) (E : Ev) (x1 : Int) (x2 : Int) {Q : State → Prop} {p : Program} {e : Env} {s : State} {m : MethodId} {below : List Frame} {meth : Method} {c : Code} {A : Nat → Prop} {args : Array Value} (hx : p.tables.exec = Jvm.exec) (hb : c.code = prog_11_method_3_code) (hml : c.maxLocals = 7) (hts : ∀ w ∈ WG, w.before args s = true) (hown : s.vm.findClass "Ballothall$Poll" = some m.cls) (hlocks : meth.locks = false) (hA : ∀ q, s.heap.size ≤ q → A q) (hG : KG z s) (hZ : FZ z A s) (hL : Lay E) : ∀ (fu : Nat) (M : Mm) (x5 : Int) (t : Nat) (w5 : Int) (N : Mm), l_Po_change_122 E x1 x2 fu M x5 = some (t, w5, N) → (t = 1 → ∀ (H : Heap) (locs : List Loc) (ls : Array Slot), va_P z.1 classes (wv z ad E N) H → va_D A (wv z ad E N) → va_S A s.heap H locs → lv_has ls 7 [] → W p l e (rmK 2 67 0 0) s m args below meth c H locs 0 0 Q (F0 m 173 ls [])) → ∀ (H : Heap) (locs : List Loc) (ls : Array Slot), va_P z.1 classes (wv z ad E M) H → va_D A (wv z ad E M) → va_S A s.heap H locs → lv_has ls 7 [(0, .ref (ad 41)), (1, .int (oI x1)), (2, .int (oI x2)), (5, .int (oI x5))] → W p l e (rmK 2 67 0 0) s m args below meth c H locs 0 0 Q (F0 m 122 ls []) := by
  intro fu
  induction fu with
  | zero =>
    intro M x5 t w5 N h
    have h : (none : Option (Nat × Int × Mm)) = some _ := h
    cases h
  | succ fu ih =>
    intro M x5 t w5 N h k1 H locs ls hP hD hS hl
    obtain ⟨⟨t0, w50, N9⟩, g0, h⟩ := bd_e h
    refine b_Po_change_122b l z ad E M x1 x2 x5 t0 w50 N9 hx hb hml hts hown hlocks hA hG hZ hL g0 (fun e0 => ?_) (fun e0 => ?_) H locs ls hP hD hS hl
    · subst e0
      have h := ite_t rfl h
      exact ih N9 w50 t w5 N h k1
    · subst e0
      have h := ite_f (by decide) h
      obtain ⟨rfl, rfl, rfl⟩ := in3 h
      exact k1 rfl
set_option maxRecDepth 100000 in
set_option maxHeartbeats 4000000 in
theorem s_Po_change (l : Launch) (z : Zz) (ad : Nat → Nat) (E : Ev) (M : Mm) (x1 : Int) (x2 : Int) (N : Mm) (hL : Lay E) (h : f_Po_change E M x1 x2 = some N) : CT l z ⟨"Ballothall$Poll", "change", "(II)V"⟩ prog_11_method_3_code 7 none [.ref (ad 41), .int (oI x1), .int (oI x2)] (wv z ad E M) 2 67 0 0 (fun _ => none) (fun _ => (wv z ad E N)) := by
  refine CT.of (own := "Ballothall$Poll") (by decide +kernel) (Nat.le_of_ble_eq_true rfl) rfl (fun p e s m below meth c A ls hx hb hml hr hts hown hlocks hin hA hG hZ hP hD hS hl => ?_)
  have hl : lv_has ls 7 [(0, .ref (ad 41)), (1, .int (oI x1)), (2, .int (oI x2))] := hl
  have key : ∀ (H : Heap) (locs : List Loc) (args : Array Value), (∀ w ∈ WG, w.before args s = true) → va_P z.1 classes (wv z ad E M) H → va_S A s.heap H locs → W p l e (rmK 2 67 0 0) s m args below meth c H locs 0 0 (MQ below (QK z A (fun _ => none) (fun _ => (wv z ad E N))) args s 0 0 A) (F0 m 0 ls []) := by
    intro H locs args hts hP hS
    unfold f_Po_change at h
    refine lv_iload_n hx hb d_11_3_0 rfl (lv_at hl 2 rfl) ?_
    obtain ⟨ok0, h⟩ := ck_e h
    refine lv_if_ne (tgt := 5) hx hb d_11_3_1 (by decide) (fun c9 => ?_) (fun c9 => ?_)
    · have h := ite_f (fun q => c9 ((oI_eq0 ok0).mpr q)) h
      refine lv_aload_n hx hb d_11_3_5 rfl (lv_at hl 0 rfl) ?_
      refine m_gr (j := 42) (C := "Ballothall$Poll") (T := TX9) (N := 12) (ci := 9) (k := 3) hx hb hts iX9 hown hG hP (yi_41 hL) (yt_41 hL) rfl (by decide) w_110 (fun _ h9 => h9) rfl rfl (yr_41_3 hL) d_11_3_6 ?_
      refine lv_iload_n hx hb d_11_3_9 rfl (lv_at hl 1 rfl) ?_
      refine lv_dup2_11 hx hb d_11_3_10 rfl rfl ?_
      obtain ⟨ok1, h⟩ := ck_e h
      refine m_ia hx hb hG hP (yi_42 hL) (yt_42 hL) ok1 d_11_3_11 ?_
      refine lv_iload_n hx hb d_11_3_12 rfl (lv_at hl 2 rfl) ?_
      refine lv_iadd hx hb d_11_3_13 ?_
      refine nrm (oI_add _ _) ?_
      refine m_is hx hb hG hP hD hS (yi_42 hL) (yt_42 hL) ok1 d_11_3_14 (fun H locs hP hD hS => ?_)
      have hP : va_P z.1 classes (wv z ad E (u2 M 42 x1.toNat ((M 42 x1.toNat) + x2))) H := hP
      have hD : va_D A (wv z ad E (u2 M 42 x1.toNat ((M 42 x1.toNat) + x2))) := hD
      refine lv_aload_n hx hb d_11_3_15 rfl (lv_at hl 0 rfl) ?_
      refine lv_dup hx hb d_11_3_16 rfl ?_
      refine m_gi (C := "Ballothall$Poll") (T := TX9) (N := 12) (ci := 9) (k := 2) hx hb hts iX9 hown hG hP (yi_41 hL) (yt_41 hL) rfl (by decide) w_109 (fun _ h9 => h9) rfl rfl d_11_3_17 ?_
      refine lv_iload_n hx hb d_11_3_20 rfl (lv_at hl 2 rfl) ?_
      refine lv_iadd hx hb d_11_3_21 ?_
      refine nrm (oI_add _ _) ?_
      refine m_pi (C := "Ballothall$Poll") (T := TX9) (N := 12) (ci := 9) (k := 2) (ty := .int) hx hb hts iX9 hown hG hP hD hS (yi_41 hL) (yt_41 hL) rfl (by decide) w_109 (fun _ h9 => h9) rfl rfl tyX9_ok nmX9 rfl (by decide +kernel) rfl rfl d_11_3_22 (fun H locs hP hD hS => ?_)
      have hP : va_P z.1 classes (wv z ad E (u2 (u2 M 42 x1.toNat ((M 42 x1.toNat) + x2)) 41 2 (((u2 M 42 x1.toNat ((M 42 x1.toNat) + x2)) 41 2) + x2))) H := hP
      have hD : va_D A (wv z ad E (u2 (u2 M 42 x1.toNat ((M 42 x1.toNat) + x2)) 41 2 (((u2 M 42 x1.toNat ((M 42 x1.toNat) + x2)) 41 2) + x2))) := hD
      obtain ⟨M2, e2, h⟩ := nb_e h
      rw [← e2] at hP hD
      refine lv_aload_n hx hb d_11_3_25 rfl (lv_at hl 0 rfl) ?_
      refine m_gr (j := 2) (C := "Ballothall$Poll") (T := TX9) (N := 12) (ci := 9) (k := 0) hx hb hts iX9 hown hG hP (yi_41 hL) (yt_41 hL) rfl (by decide) w_107 (fun _ h9 => h9) rfl rfl (yr_41_0 hL) d_11_3_26 ?_
      refine lv_iload_n hx hb d_11_3_29 rfl (lv_at hl 1 rfl) ?_
      refine lv_aload_n hx hb d_11_3_30 rfl (lv_at hl 0 rfl) ?_
      refine m_gi (C := "Ballothall$Poll") (T := TX9) (N := 12) (ci := 9) (k := 1) hx hb hts iX9 hown hG hP (yi_41 hL) (yt_41 hL) rfl (by decide) w_108 (fun _ h9 => h9) rfl rfl d_11_3_31 ?_
      obtain ⟨r3, g3, h⟩ := bd_e h
      refine kVN (As := [.int (oI x1), .int (oI (M2 41 1))]) (rest := []) (s_Bx_soleTopOf l z ad E M2 x1 (M2 41 1) r3 hL g3) hx hb hml hown hts w_681 n_678 w_680 w_s_fbd9d2 w_2 md_0f833a ⟨Nat.le_of_ble_eq_true rfl, Nat.le_of_ble_eq_true rfl⟩ hG hZ hP hD hS hA 2 (wv_o (ci := 0) (yi_2 hL) (yt_2 hL)) rfl rfl rfl hl.1 rfl (Nat.le_of_ble_eq_true rfl) d_11_3_34 ⟨Nat.le_of_ble_eq_true rfl, Nat.le_of_ble_eq_true rfl⟩ (fun _ H locs hP hD hS => ?_)
      have hP : va_P z.1 classes (wv z ad E M2) H := hP
      have hD : va_D A (wv z ad E M2) := hD
      refine W.eq (g2 := F0 m 37 ls [.int (oI r3)]) rfl ?_
      refine lv_istore_n (lv' := [(3, .int (oI r3)), (0, .ref (ad 41)), (1, .int (oI x1)), (2, .int (oI x2))]) hx hb d_11_3_37 rfl hl (by decide) rfl (fun ls hl => ?_)
      refine lv_iload_n hx hb d_11_3_38 rfl (lv_at hl 0 rfl) ?_
      refine lv_iconst (v := oI (-1)) hx hb d_11_3_39 (by decide +kernel) ?_
      obtain ⟨ok4, h⟩ := ck_e h
      refine lv_icmp_eq (tgt := 53) hx hb d_11_3_40 (by decide) (fun c9 => ?_) (fun c9 => ?_)
      · have h := ite_t ((oI_eq (a := r3) (b := (-1 : Int)) ok4 (by decide)).mp c9) h
        refine lv_aload_n hx hb d_11_3_53 rfl (lv_at hl 1 rfl) ?_
        refine m_gi (C := "Ballothall$Poll") (T := TX9) (N := 12) (ci := 9) (k := 1) hx hb hts iX9 hown hG hP (yi_41 hL) (yt_41 hL) rfl (by decide) w_108 (fun _ h9 => h9) rfl rfl d_11_3_54 ?_
        refine lv_istore (lv' := [(4, .int (oI (M2 41 1))), (3, .int (oI r3)), (0, .ref (ad 41)), (1, .int (oI x1)), (2, .int (oI x2))]) hx hb d_11_3_57 hl (by decide) rfl (fun ls hl => ?_)
        refine lv_iconst (v := oI 0) hx hb d_11_3_59 (by decide +kernel) ?_
        refine lv_istore (lv' := [(5, .int (oI 0)), (4, .int (oI (M2 41 1))), (3, .int (oI r3)), (0, .ref (ad 41)), (1, .int (oI x1)), (2, .int (oI x2))]) hx hb d_11_3_60 hl (by decide) rfl (fun ls hl => ?_)
        obtain ⟨⟨t15, v15_4, v15_5, M15⟩, g15, h⟩ := bd_e h
        obtain ⟨ok15, h⟩ := ck_e h
        refine s_Po_change_62 l z ad E x1 x2 hx hb hml hts hown hlocks hA hG hZ hL FU M2 (M2 41 1) 0 t15 v15_4 v15_5 M15 g15 (fun e15 H locs ls hP hD hS hl => ?_) H locs ls hP hD hS (lv_sub hl [3, 4, 5, 1, 0] rfl)
        refine lv_iconst (v := oI 0) hx hb d_11_3_119 (by decide +kernel) ?_
        refine lv_istore (lv' := [(5, .int (oI 0)), (0, .ref (ad 41)), (1, .int (oI x1)), (2, .int (oI x2))]) hx hb d_11_3_120 hl (by decide) rfl (fun ls hl => ?_)
        obtain ⟨⟨t24, v24_5, M24⟩, g24, h⟩ := bd_e h
        obtain ⟨ok24, h⟩ := ck_e h
        refine s_Po_change_122 l z ad E x1 x2 hx hb hml hts hown hlocks hA hG hZ hL FU M15 0 t24 v24_5 M24 g24 (fun e24 H locs ls hP hD hS hl => ?_) H locs ls hP hD hS (lv_sub hl [1, 2, 3, 0] rfl)
        obtain rfl := in1 h
        exact W.vret hx hb hr (fun t ht hW => qkA hP hD hS (fun k => k) rfl rfl ht) hS.2.2 d_11_3_173
      · have h := ite_f (fun q => c9 ((oI_eq (a := r3) (b := (-1 : Int)) ok4 (by decide)).mpr q)) h
        refine lv_aload_n hx hb d_11_3_43 rfl (lv_at hl 1 rfl) ?_
        refine m_gr (j := 43) (C := "Ballothall$Poll") (T := TX9) (N := 12) (ci := 9) (k := 4) hx hb hts iX9 hown hG hP (yi_41 hL) (yt_41 hL) rfl (by decide) w_111 (fun _ h9 => h9) rfl rfl (yr_41_4 hL) d_11_3_44 ?_
        refine lv_iload_n hx hb d_11_3_47 rfl (lv_at hl 0 rfl) ?_
        refine lv_dup2_11 hx hb d_11_3_48 rfl rfl ?_
        obtain ⟨ok25, h⟩ := ck_e h
        refine m_ia hx hb hG hP (yi_43 hL) (yt_43 hL) ok25 d_11_3_49 ?_
        refine lv_iload_n hx hb d_11_3_50 rfl (lv_at hl 3 rfl) ?_
        refine lv_iadd hx hb d_11_3_51 ?_
        refine nrm (oI_add _ _) ?_
        refine m_is hx hb hG hP hD hS (yi_43 hL) (yt_43 hL) ok25 d_11_3_52 (fun H locs hP hD hS => ?_)
        have hP : va_P z.1 classes (wv z ad E (u2 M2 43 r3.toNat ((M2 43 r3.toNat) + x2))) H := hP
        have hD : va_D A (wv z ad E (u2 M2 43 r3.toNat ((M2 43 r3.toNat) + x2))) := hD
        refine lv_aload_n hx hb d_11_3_53 rfl (lv_at hl 1 rfl) ?_
        refine m_gi (C := "Ballothall$Poll") (T := TX9) (N := 12) (ci := 9) (k := 1) hx hb hts iX9 hown hG hP (yi_41 hL) (yt_41 hL) rfl (by decide) w_108 (fun _ h9 => h9) rfl rfl d_11_3_54 ?_
        obtain ⟨v26, e26, h⟩ := nb_e h
        refine nrm (congrArg oI e26.symm) ?_
        refine lv_istore (lv' := [(4, .int (oI v26)), (3, .int (oI r3)), (0, .ref (ad 41)), (1, .int (oI x1)), (2, .int (oI x2))]) hx hb d_11_3_57 hl (by decide) rfl (fun ls hl => ?_)
        refine lv_iconst (v := oI 0) hx hb d_11_3_59 (by decide +kernel) ?_
        refine lv_istore (lv' := [(5, .int (oI 0)), (4, .int (oI v26)), (3, .int (oI r3)), (0, .ref (ad 41)), (1, .int (oI x1)), (2, .int (oI x2))]) hx hb d_11_3_60 hl (by decide) rfl (fun ls hl => ?_)
        obtain ⟨⟨t27, v27_4, v27_5, M27⟩, g27, h⟩ := bd_e h
        obtain ⟨ok27, h⟩ := ck_e h
        refine s_Po_change_62 l z ad E x1 x2 hx hb hml hts hown hlocks hA hG hZ hL FU (u2 M2 43 r3.toNat ((M2 43 r3.toNat) + x2)) v26 0 t27 v27_4 v27_5 M27 g27 (fun e27 H locs ls hP hD hS hl => ?_) H locs ls hP hD hS (lv_sub hl [3, 4, 5, 1, 0] rfl)
        refine lv_iconst (v := oI 0) hx hb d_11_3_119 (by decide +kernel) ?_
        refine lv_istore (lv' := [(5, .int (oI 0)), (0, .ref (ad 41)), (1, .int (oI x1)), (2, .int (oI x2))]) hx hb d_11_3_120 hl (by decide) rfl (fun ls hl => ?_)
        obtain ⟨⟨t28, v28_5, M28⟩, g28, h⟩ := bd_e h
        obtain ⟨ok28, h⟩ := ck_e h
        refine s_Po_change_122 l z ad E x1 x2 hx hb hml hts hown hlocks hA hG hZ hL FU M27 0 t28 v28_5 M28 g28 (fun e28 H locs ls hP hD hS hl => ?_) H locs ls hP hD hS (lv_sub hl [1, 2, 3, 0] rfl)
        obtain rfl := in1 h
        exact W.vret hx hb hr (fun t ht hW => qkA hP hD hS (fun k => k) rfl rfl ht) hS.2.2 d_11_3_173
    · have h := ite_t ((oI_eq0 ok0).mp c9) h
      obtain rfl := in1 h
      exact W.vret hx hb hr (fun t ht hW => qkA hP hD hS (fun k => k) rfl rfl ht) hS.2.2 d_11_3_4
  exact key _ _ _ hts hP hS
