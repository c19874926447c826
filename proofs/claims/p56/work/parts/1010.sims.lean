set_option maxRecDepth 100000 in
set_option maxHeartbeats 4000000 in
theorem s_B_steps (l : Launch) (z : Zz) (ad : Nat → Nat) (E : Ev) (M : Mm) (r : Int)  (hL : Lay E) (h : f_B_steps E M = some r) : CT l z ⟨"Ballothall", "steps", "()I"⟩ prog_1_method_21_code 2 (some .int) [.ref (ad 1)] (wv z ad E M) 1 40 0 0 (fun _ => some (.int (oI r))) (fun _ => (wv z ad E M)) := by
  refine CT.of (own := "Ballothall") (by decide +kernel) (Nat.le_of_ble_eq_true rfl) rfl (fun p e s m below meth c A ls hx hb hml hr hts hown hlocks hin hA hG hZ hP hD hS hl => ?_)
  have hl : lv_has ls 2 [(0, .ref (ad 1))] := hl
  have key : ∀ (H : Heap) (locs : List Loc) (args : Array Value), (∀ w ∈ WG, w.before args s = true) → va_P z.1 classes (wv z ad E M) H → va_S A s.heap H locs → W p l e (rmK 1 40 0 0) s m args below meth c H locs 0 0 (MQ below (QK z A (fun _ => some (.int (oI r))) (fun _ => (wv z ad E M))) args s 0 0 A) (F0 m 0 ls []) := by
    intro H locs args hts hP hS
    unfold f_B_steps at h
    refine lv_aload_n hx hb d_1_21_0 rfl (lv_at hl 0 rfl) ?_
    refine m_gr (j := 179) (C := "Ballothall") (T := TX11) (N := 14) (ci := 11) (k := 4) hx hb hts iX11 hown hG hP (yi_1 hL) (yt_1 hL) rfl (by decide) w_401 (fun _ h9 => h9) rfl rfl (yr_1_4 hL) d_1_21_1 ?_
    obtain ⟨r100, g100, h⟩ := bd_e h
    refine kVN (As := []) (rest := []) (s_Co_latest l z ad E M r100 hL g100) hx hb hml hown hts w_596 n_593 w_595 w_s_ad1675 w_8 md_6f7cc1 ⟨Nat.le_of_ble_eq_true rfl, Nat.le_of_ble_eq_true rfl⟩ hG hZ hP hD hS hA 179 (wv_o (ci := 3) (yi_179 hL) (yt_179 hL)) rfl rfl rfl hl.1 rfl (Nat.le_of_ble_eq_true rfl) d_1_21_4 ⟨Nat.le_of_ble_eq_true rfl, Nat.le_of_ble_eq_true rfl⟩ (fun _ H locs hP hD hS => ?_)
    have hP : va_P z.1 classes (wv z ad E M) H := hP
    have hD : va_D A (wv z ad E M) := hD
    cases r100 with
    | none =>
      refine W.eq (g2 := F0 m 7 ls [.null]) rfl ?_
      refine lv_astore_nN (lv' := [(1, .null), (0, .ref (ad 1))]) hx hb d_1_21_7 rfl hl (by decide) rfl (fun ls hl => ?_)
      refine lv_aload_nN hx hb d_1_21_8 rfl (lv_at hl 0 rfl) ?_
      refine lv_ifnonnullN hx hb d_1_21_9 ?_
      refine lv_iconst (v := oI 0) hx hb d_1_21_12 (by decide +kernel) ?_
      refine lv_goto (tgt := 25) hx hb d_1_21_13 (by decide) ?_
      obtain rfl := in1 h
      exact W.iret hx hb hr (fun t ht hW => qkA hP hD hS (fun k => k) rfl rfl ht) hS.2.2 d_1_21_25
    | some p100 =>
      obtain ⟨h_p100, h⟩ := ck_e h
      refine W.eq (g2 := F0 m 7 ls [.ref (ad p100)]) rfl ?_
      refine lv_astore_n (lv' := [(1, .ref (ad p100)), (0, .ref (ad 1))]) hx hb d_1_21_7 rfl hl (by decide) rfl (fun ls hl => ?_)
      refine lv_aload_n hx hb d_1_21_8 rfl (lv_at hl 0 rfl) ?_
      refine lv_ifnonnull (tgt := 16) hx hb d_1_21_9 (by decide) ?_
      refine lv_aload_n hx hb d_1_21_16 rfl (lv_at hl 0 rfl) ?_
      refine m_giN (C := "Ballothall$Count") (T := TX2) (N := 10) (ci := 2) (k := 4) hx hb hts iX2 hown hG hP (isCt_i h_p100) (isCt_T h_p100) rfl (by decide) n_1087 rfl (fun _ h9 => h9) rfl rfl d_1_21_17 ?_
      refine lv_aload_n hx hb d_1_21_20 rfl (lv_at hl 0 rfl) ?_
      refine m_giN (C := "Ballothall$Count") (T := TX2) (N := 10) (ci := 2) (k := 5) hx hb hts iX2 hown hG hP (isCt_i h_p100) (isCt_T h_p100) rfl (by decide) n_1089 rfl (fun _ h9 => h9) rfl rfl d_1_21_21 ?_
      refine lv_iadd hx hb d_1_21_24 ?_
      refine nrm (oI_add _ _) ?_
      obtain rfl := in1 h
      exact W.iret hx hb hr (fun t ht hW => qkA hP hD hS (fun k => k) rfl rfl ht) hS.2.2 d_1_21_25
  exact key _ _ _ hts hP hS
set_option maxRecDepth 100000 in
set_option maxHeartbeats 4000000 in
theorem b_La_transferable_21b (l : Launch) (z : Zz) (E0 : Ev) (ad0 : Nat → Nat) (ad : Nat → Nat) (E : Ev) (M : Mm) (q1 : Nat) (x3 : Int) (x4 : Int) (x5 : Int) (x6 : Int) (t : Nat) (w5 : Int) (w6 : Int) (F : Ev) (N : Mm) {Q : State → Prop} {p : Program} {e : Env} {s : State} {m : MethodId} {below : List Frame} {meth : Method} {c : Code} {A : Nat → Prop} {args : Array Value} (hx : p.tables.exec = Jvm.exec) (hb : c.code = method_5_code) (hml : c.maxLocals = 14) (hts : ∀ w ∈ WG, w.before args s = true) (hown : s.vm.findClass "BallothallLaw" = some m.cls) (hlocks : meth.locks = false) (hA : ∀ q, s.heap.size ≤ q → A q) (hG : KG z s) (hZ : FZ z A s) (mc ms c0 s0 c1 s1 : Nat) (hc : c0 + 0 ≤ c1) (hs : s0 + 0 ≤ s1) (hm : c1 ≤ mc) (hm2 : s1 ≤ ms) (hag0 : ∀ i, i < nE E0 → ad i = ad0 i) (hE0 : nE E0 ≤ nE E) (h : La_transferable_21b E M q1 x3 x4 x5 x6 = some (t, w5, w6, F, N)) (k0 : ∀ (ad1 : Nat → Nat), (∀ i, i < nE E0 → ad1 i = ad0 i) → nE E0 ≤ nE F → t = 0 → ∀ (H : Heap) (locs : List Loc) (ls : Array Slot), va_P z.1 classes (wv z ad1 F N) H → va_D A (wv z ad1 F N) → va_S A s.heap H locs → lv_has ls 14 [(0, .ref (ad1 1)), (1, .ref (ad1 q1)), (3, .int (oI x3)), (4, .int (oI x4)), (5, .int (oI w5)), (6, .int (oI w6))] → W p l e (rmK 8 205 mc ms) s m args below meth c H locs c1 s1 Q (F0 m 21 ls [])) (k1 : ∀ (ad1 : Nat → Nat), (∀ i, i < nE E0 → ad1 i = ad0 i) → nE E0 ≤ nE F → t = 1 → ∀ (H : Heap) (locs : List Loc) (ls : Array Slot), va_P z.1 classes (wv z ad1 F N) H → va_D A (wv z ad1 F N) → va_S A s.heap H locs → lv_has ls 14 [(0, .ref (ad1 1)), (1, .ref (ad1 q1)), (3, .int (oI x3)), (4, .int (oI x4)), (5, .int (oI w5))] → W p l e (rmK 8 205 mc ms) s m args below meth c H locs c1 s1 Q (F0 m 47 ls [])) : ∀ (H : Heap) (locs : List Loc) (ls : Array Slot), va_P z.1 classes (wv z ad E M) H → va_D A (wv z ad E M) → va_S A s.heap H locs → lv_has ls 14 [(0, .ref (ad 1)), (1, .ref (ad q1)), (3, .int (oI x3)), (4, .int (oI x4)), (5, .int (oI x5)), (6, .int (oI x6))] → W p l e (rmK 8 205 mc ms) s m args below meth c H locs c0 s0 Q (F0 m 21 ls []) := by
  intro H locs ls hP hD hS hl
  unfold La_transferable_21b at h
  obtain ⟨hL, h⟩ := ck_e h
  obtain ⟨h_q1, h⟩ := ck_e h
  refine lv_iload hx hb d_L5_21 (lv_at hl 5 rfl) ?_
  refine lv_iload hx hb d_L5_23 (lv_at hl 3 rfl) ?_
  obtain ⟨ok102, h⟩ := ck_e h
  obtain ⟨ok103, h⟩ := ck_e h
  refine lv_icmp_ge (tgt := 47) hx hb d_L5_25 (by decide) (fun c9 => ?_) (fun c9 => ?_)
  · have h := ite_t ((oI_le (a := x4) (b := x6) ok103 ok102).mp c9) h
    obtain ⟨rfl, rfl, rfl, rfl, rfl⟩ := in5 h
    exact W.wide (by omega) (by omega) (k1 ad hag0 hE0 rfl H locs ls hP hD hS (lv_sub hl [0, 1, 2, 3, 4] rfl))
  · have h := ite_f (fun q => c9 ((oI_le (a := x4) (b := x6) ok103 ok102).mpr q)) h
    refine lv_iload hx hb d_L5_28 (lv_at hl 4 rfl) ?_
    refine lv_iconst (v := oI 1) hx hb d_L5_30 (by decide +kernel) ?_
    refine lv_aload_n hx hb d_L5_31 rfl (lv_at hl 0 rfl) ?_
    refine lv_iload hx hb d_L5_32 (lv_at hl 5 rfl) ?_
    obtain ⟨r104, g104, h⟩ := bd_e h
    refine kV (As := [.int (oI x6)]) (rest := [.int (oI 1), .int (oI x5)]) (s_B_electedAt l z ad E M x6 r104 hL g104) hx hb hml hown hts w_1234 w_1231 w_1232 w_1233 w_1 md_db4417 ⟨Nat.le_of_ble_eq_true rfl, Nat.le_of_ble_eq_true rfl⟩ hG hZ hP hD hS hA 1 (wv_o (ci := 11) (yi_1 hL) (yt_1 hL)) rfl rfl rfl hl.1 rfl (Nat.le_of_ble_eq_true rfl) d_L5_34 ⟨(show _ ≤ mc by omega), (show _ ≤ ms by omega)⟩ (fun _ H locs hP hD hS => ?_)
    have hP : va_P z.1 classes (wv z ad E M) H := hP
    have hD : va_D A (wv z ad E M) := hD
    refine W.eq (g2 := F0 m 37 ls [.int (oI r104), .int (oI 1), .int (oI x5)]) rfl ?_
    obtain ⟨ok105, h⟩ := ck_e h
    refine lv_ishl hx hb d_L5_37 ?_
    refine nrm (oI_one_shl ok105) ?_
    obtain ⟨ok106, h⟩ := ck_e h
    obtain ⟨ok107, h⟩ := ck_e h
    refine lv_ior hx hb d_L5_38 ?_
    refine nrm (oI_or (a := x5) (b := (2 ^ r104.toNat)) ok106.1 ok106.2 ok107.1 ok107.2) ?_
    refine lv_istore (lv' := [(5, .int (oI (orI x5 (2 ^ r104.toNat)))), (0, .ref (ad 1)), (1, .ref (ad q1)), (3, .int (oI x3)), (4, .int (oI x4)), (6, .int (oI x6))]) hx hb d_L5_39 hl (by decide) rfl (fun ls hl => ?_)
    refine lv_iinc (v := oI (x6 + 1)) (lv' := [(6, .int (oI (x6 + 1))), (5, .int (oI (orI x5 (2 ^ r104.toNat)))), (0, .ref (ad 1)), (1, .ref (ad q1)), (3, .int (oI x3)), (4, .int (oI x4))]) hx hb d_L5_41 hl (k := 5) rfl (oI_add x6 1) (by decide) rfl (fun ls hl => ?_)
    refine lv_goto (tgt := 21) hx hb d_L5_44 (by decide) ?_
    obtain ⟨rfl, rfl, rfl, rfl, rfl⟩ := in5 h
    exact W.wide (by omega) (by omega) (k0 ad hag0 hE0 rfl H locs ls hP hD hS (lv_sub hl [2, 3, 4, 5, 1, 0] rfl))
set_option maxRecDepth 100000 in
set_option maxHeartbeats 4000000 in
theorem s_La_transferable_21 (l : Launch) (z : Zz) (E0 : Ev) (ad0 : Nat → Nat) (q1 : Nat) (x3 : Int) (x4 : Int) {Q : State → Prop} {p : Program} {e : Env} {s : State} {m : MethodId} {below : List Frame} {meth : Method} {c : Code} {A : Nat → Prop} {args : Array Value} (hx : p.tables.exec = Jvm.exec) (hb : c.code = method_5_code) (hml : c.maxLocals = 14) (hts : ∀ w ∈ WG, w.before args s = true) (hown : s.vm.findClass "BallothallLaw" = some m.cls) (hlocks : meth.locks = false) (hA : ∀ q, s.heap.size ≤ q → A q) (hG : KG z s) (hZ : FZ z A s) (mc ms c1 s1 : Nat) (hm : c1 ≤ mc) (hm2 : s1 ≤ ms) : ∀ (fu c0 s0 : Nat) (ad : Nat → Nat) (E : Ev) (M : Mm) (x5 : Int) (x6 : Int) (t : Nat) (w5 : Int) (w6 : Int) (F : Ev) (N : Mm), c0 + fu * 0 ≤ c1 → s0 + fu * 0 ≤ s1 → (∀ i, i < nE E0 → ad i = ad0 i) → nE E0 ≤ nE E → l_La_transferable_21 q1 x3 x4 fu E M x5 x6 = some (t, w5, w6, F, N) → (∀ (ad1 : Nat → Nat), (∀ i, i < nE E0 → ad1 i = ad0 i) → nE E0 ≤ nE F → t = 1 → ∀ (H : Heap) (locs : List Loc) (ls : Array Slot), va_P z.1 classes (wv z ad1 F N) H → va_D A (wv z ad1 F N) → va_S A s.heap H locs → lv_has ls 14 [(0, .ref (ad1 1)), (1, .ref (ad1 q1)), (3, .int (oI x3)), (4, .int (oI x4)), (5, .int (oI w5))] → W p l e (rmK 8 205 mc ms) s m args below meth c H locs c1 s1 Q (F0 m 47 ls [])) → ∀ (H : Heap) (locs : List Loc) (ls : Array Slot), va_P z.1 classes (wv z ad E M) H → va_D A (wv z ad E M) → va_S A s.heap H locs → lv_has ls 14 [(0, .ref (ad 1)), (1, .ref (ad q1)), (3, .int (oI x3)), (4, .int (oI x4)), (5, .int (oI x5)), (6, .int (oI x6))] → W p l e (rmK 8 205 mc ms) s m args below meth c H locs c0 s0 Q (F0 m 21 ls []) := by
  intro fu
  induction fu with
  | zero =>
    intro c0 s0 ad E M x5 x6 t w5 w6 F N hc hs hag0 hE0 h
    have h : (none : Option (Nat × Int × Int × Ev × Mm)) = some _ := h
    cases h
  | succ fu ih =>
    intro c0 s0 ad E M x5 x6 t w5 w6 F N hc hs hag0 hE0 h k1 H locs ls hP hD hS hl
    obtain ⟨⟨t0, w50, w60, F9, N9⟩, g0, h⟩ := bd_e h
    refine W.wide (Nat.le_refl _) (Nat.le_refl _) (b_La_transferable_21b l z E0 ad0 ad E M q1 x3 x4 x5 x6 t0 w50 w60 F9 N9 hx hb hml hts hown hlocks hA hG hZ mc ms c0 s0 (c0 + 0) (s0 + 0) (Nat.le_refl _) (Nat.le_refl _) (by omega) (by omega) hag0 hE0 g0 (fun ad1 ha he e0 => ?_) (fun ad1 ha he e0 => ?_) H locs ls hP hD hS hl)
    · subst e0
      have h := ite_t rfl h
      exact ih (c0 + 0) (s0 + 0) ad1 F9 N9 w50 w60 t w5 w6 F N (by omega) (by omega) ha he h k1
    · subst e0
      have h := ite_f (by decide) h
      obtain ⟨rfl, rfl, rfl, rfl, rfl⟩ := in5 h
      exact fun H locs ls hP hD hS hl => W.wide (by omega) (by omega) (k1 ad1 ha he rfl H locs ls hP hD hS hl)
set_option maxRecDepth 100000 in
set_option maxHeartbeats 4000000 in
theorem b_La_transferable_j153 (l : Launch) (z : Zz) (E0 : Ev) (ad0 : Nat → Nat) (ad : Nat → Nat) (E : Ev) (M : Mm) (q1 : Nat) (x5 : Int) (x8 : Int) (x9 : Int) (t : Nat) (w7 : Int) (w8 : Int) (F : Ev) (N : Mm) {Q : State → Prop} {p : Program} {e : Env} {s : State} {m : MethodId} {below : List Frame} {meth : Method} {c : Code} {A : Nat → Prop} {args : Array Value} (hx : p.tables.exec = Jvm.exec) (hb : c.code = method_5_code) (hml : c.maxLocals = 14) (hts : ∀ w ∈ WG, w.before args s = true) (hown : s.vm.findClass "BallothallLaw" = some m.cls) (hlocks : meth.locks = false) (hA : ∀ q, s.heap.size ≤ q → A q) (hG : KG z s) (hZ : FZ z A s) (mc ms c0 s0 c1 s1 : Nat) (hc : c0 + 0 ≤ c1) (hs : s0 + 0 ≤ s1) (hm : c1 ≤ mc) (hm2 : s1 ≤ ms) (hag0 : ∀ i, i < nE E0 → ad i = ad0 i) (hE0 : nE E0 ≤ nE E) (h : La_transferable_j153 E M q1 x5 x8 x9 = some (t, w7, w8, F, N)) (k0 : ∀ (ad1 : Nat → Nat), (∀ i, i < nE E0 → ad1 i = ad0 i) → nE E0 ≤ nE F → t = 0 → ∀ (H : Heap) (locs : List Loc) (ls : Array Slot), va_P z.1 classes (wv z ad1 F N) H → va_D A (wv z ad1 F N) → va_S A s.heap H locs → lv_has ls 14 [(0, .ref (ad1 1)), (1, .ref (ad1 q1)), (5, .int (oI x5)), (7, .int (oI w7)), (8, .int (oI w8))] → W p l e (rmK 8 205 mc ms) s m args below meth c H locs c1 s1 Q (F0 m 101 ls [])) (k1 : ∀ (ad1 : Nat → Nat), (∀ i, i < nE E0 → ad1 i = ad0 i) → nE E0 ≤ nE F → t = 1 → ∀ (H : Heap) (locs : List Loc) (ls : Array Slot), va_P z.1 classes (wv z ad1 F N) H → va_D A (wv z ad1 F N) → va_S A s.heap H locs → lv_has ls 14 [(0, .ref (ad1 1)), (1, .ref (ad1 q1)), (7, .int (oI w7))] → W p l e (rmK 8 205 mc ms) s m args below meth c H locs c1 s1 Q (F0 m 185 ls [])) : ∀ (H : Heap) (locs : List Loc) (ls : Array Slot), va_P z.1 classes (wv z ad E M) H → va_D A (wv z ad E M) → va_S A s.heap H locs → lv_has ls 14 [(0, .ref (ad 1)), (1, .ref (ad q1)), (5, .int (oI x5)), (8, .int (oI x8)), (9, .int (oI x9))] → W p l e (rmK 8 205 mc ms) s m args below meth c H locs c0 s0 Q (F0 m 153 ls []) := by
  intro H locs ls hP hD hS hl
  unfold La_transferable_j153 at h
  obtain ⟨hL, h⟩ := ck_e h
  obtain ⟨h_q1, h⟩ := ck_e h
  refine lv_aload_n hx hb d_L5_153 rfl (lv_at hl 0 rfl) ?_
  refine lv_iload hx hb d_L5_154 (lv_at hl 3 rfl) ?_
  obtain ⟨⟨r128, M128⟩, g128, h⟩ := bd_e h
  refine kV (As := [.int (oI x8)]) (rest := []) (s_B_solidQuotas l z ad E M x8 r128 M128 hL g128) hx hb hml hown hts w_1264 w_1261 w_1262 w_1263 w_1 md_16e5ac ⟨Nat.le_of_ble_eq_true rfl, Nat.le_of_ble_eq_true rfl⟩ hG hZ hP hD hS hA 1 (wv_o (ci := 11) (yi_1 hL) (yt_1 hL)) rfl rfl rfl hl.1 rfl (Nat.le_of_ble_eq_true rfl) d_L5_156 ⟨(show _ ≤ mc by omega), (show _ ≤ ms by omega)⟩ (fun _ H locs hP hD hS => ?_)
  have hP : va_P z.1 classes (wv z ad E M128) H := hP
  have hD : va_D A (wv z ad E M128) := hD
  refine W.eq (g2 := F0 m 159 ls [.int (oI r128)]) rfl ?_
  refine lv_iload hx hb d_L5_159 (lv_at hl 4 rfl) ?_
  refine lv_iload hx hb d_L5_161 (lv_at hl 3 rfl) ?_
  obtain ⟨r129, g129, h⟩ := bd_e h
  refine kS (As := [.int (oI x8)]) (rest := [.int (oI x9), .int (oI r128)]) (s_In_bitCount l z ad E M128 x8 r129 hL g129) hx hb hml hown hts w_657 w_1256 w_656 w_30 md_eafe8c ⟨Nat.le_of_ble_eq_true rfl, Nat.le_of_ble_eq_true rfl⟩ hG hZ hP hD hS hA rfl hl.1 rfl (Nat.le_of_ble_eq_true rfl) d_L5_163 ⟨(show _ ≤ mc by omega), (show _ ≤ ms by omega)⟩ (fun _ H locs hP hD hS => ?_)
  have hP : va_P z.1 classes (wv z ad E M128) H := hP
  have hD : va_D A (wv z ad E M128) := hD
  refine W.eq (g2 := F0 m 166 ls [.int (oI r129), .int (oI x9), .int (oI r128)]) rfl ?_
  obtain ⟨ok130, h⟩ := ck_e h
  obtain ⟨ok131, h⟩ := ck_e h
  refine va_mmin hx hb (by rw [hml]; exact hl.1.symm) hown (hts _ w_1255) (hts _ w_521) (hts _ w_17) (hts _ w_min) (Nat.le_of_ble_eq_true rfl) (Nat.le_of_ble_eq_true rfl) (show _ ≤ mc by omega) (show _ ≤ ms by omega) d_L5_166 ?_
  refine nrm (mn_oI (a := x9) (b := r129) ok130 ok131) ?_
  obtain ⟨ok132, h⟩ := ck_e h
  refine lv_icmp_ne (tgt := 176) hx hb d_L5_169 (by decide) (fun c9 => ?_) (fun c9 => ?_)
  · have h := ite_f (fun q => c9 ((oI_eq (a := r128) (b := (min x9 r129)) ok132 (rg_min (x := x9) (y := r129) ok130 ok131)).mpr q)) h
    refine lv_iconst (v := oI 0) hx hb d_L5_176 (by decide +kernel) ?_
    refine lv_istore (lv' := [(7, .int (oI 0)), (0, .ref (ad 1)), (1, .ref (ad q1)), (5, .int (oI x5)), (8, .int (oI x8)), (9, .int (oI x9))]) hx hb d_L5_177 hl (by decide) rfl (fun ls hl => ?_)
    refine lv_iinc (v := oI (x8 + 1)) (lv' := [(8, .int (oI (x8 + 1))), (7, .int (oI 0)), (0, .ref (ad 1)), (1, .ref (ad q1)), (5, .int (oI x5)), (9, .int (oI x9))]) hx hb d_L5_179 hl (k := 4) rfl (oI_add x8 1) (by decide) rfl (fun ls hl => ?_)
    refine lv_goto (tgt := 101) hx hb d_L5_182 (by decide) ?_
    obtain ⟨rfl, rfl, rfl, rfl, rfl⟩ := in5 h
    exact W.wide (by omega) (by omega) (k0 ad hag0 hE0 rfl H locs ls hP hD hS (lv_sub hl [2, 3, 4, 1, 0] rfl))
  · have h := ite_t ((oI_eq (a := r128) (b := (min x9 r129)) ok132 (rg_min (x := x9) (y := r129) ok130 ok131)).mp c9) h
    refine lv_iconst (v := oI 1) hx hb d_L5_172 (by decide +kernel) ?_
    refine lv_goto (tgt := 177) hx hb d_L5_173 (by decide) ?_
    refine lv_istore (lv' := [(7, .int (oI 1)), (0, .ref (ad 1)), (1, .ref (ad q1)), (5, .int (oI x5)), (8, .int (oI x8)), (9, .int (oI x9))]) hx hb d_L5_177 hl (by decide) rfl (fun ls hl => ?_)
    refine lv_iinc (v := oI (x8 + 1)) (lv' := [(8, .int (oI (x8 + 1))), (7, .int (oI 1)), (0, .ref (ad 1)), (1, .ref (ad q1)), (5, .int (oI x5)), (9, .int (oI x9))]) hx hb d_L5_179 hl (k := 4) rfl (oI_add x8 1) (by decide) rfl (fun ls hl => ?_)
    refine lv_goto (tgt := 101) hx hb d_L5_182 (by decide) ?_
    obtain ⟨rfl, rfl, rfl, rfl, rfl⟩ := in5 h
    exact W.wide (by omega) (by omega) (k0 ad hag0 hE0 rfl H locs ls hP hD hS (lv_sub hl [2, 3, 4, 1, 0] rfl))
set_option maxRecDepth 100000 in
set_option maxHeartbeats 4000000 in
theorem b_La_transferable_101b (l : Launch) (z : Zz) (E0 : Ev) (ad0 : Nat → Nat) (ad : Nat → Nat) (E : Ev) (M : Mm) (q1 : Nat) (x5 : Int) (x7 : Int) (x8 : Int) (t : Nat) (w7 : Int) (w8 : Int) (F : Ev) (N : Mm) {Q : State → Prop} {p : Program} {e : Env} {s : State} {m : MethodId} {below : List Frame} {meth : Method} {c : Code} {A : Nat → Prop} {args : Array Value} (hx : p.tables.exec = Jvm.exec) (hb : c.code = method_5_code) (hml : c.maxLocals = 14) (hts : ∀ w ∈ WG, w.before args s = true) (hown : s.vm.findClass "BallothallLaw" = some m.cls) (hlocks : meth.locks = false) (hA : ∀ q, s.heap.size ≤ q → A q) (hG : KG z s) (hZ : FZ z A s) (mc ms c0 s0 c1 s1 : Nat) (hc : c0 + 0 ≤ c1) (hs : s0 + 0 ≤ s1) (hm : c1 ≤ mc) (hm2 : s1 ≤ ms) (hag0 : ∀ i, i < nE E0 → ad i = ad0 i) (hE0 : nE E0 ≤ nE E) (h : La_transferable_101b E M q1 x5 x7 x8 = some (t, w7, w8, F, N)) (k0 : ∀ (ad1 : Nat → Nat), (∀ i, i < nE E0 → ad1 i = ad0 i) → nE E0 ≤ nE F → t = 0 → ∀ (H : Heap) (locs : List Loc) (ls : Array Slot), va_P z.1 classes (wv z ad1 F N) H → va_D A (wv z ad1 F N) → va_S A s.heap H locs → lv_has ls 14 [(0, .ref (ad1 1)), (1, .ref (ad1 q1)), (5, .int (oI x5)), (7, .int (oI w7)), (8, .int (oI w8))] → W p l e (rmK 8 205 mc ms) s m args below meth c H locs c1 s1 Q (F0 m 101 ls [])) (k1 : ∀ (ad1 : Nat → Nat), (∀ i, i < nE E0 → ad1 i = ad0 i) → nE E0 ≤ nE F → t = 1 → ∀ (H : Heap) (locs : List Loc) (ls : Array Slot), va_P z.1 classes (wv z ad1 F N) H → va_D A (wv z ad1 F N) → va_S A s.heap H locs → lv_has ls 14 [(0, .ref (ad1 1)), (1, .ref (ad1 q1)), (7, .int (oI w7))] → W p l e (rmK 8 205 mc ms) s m args below meth c H locs c1 s1 Q (F0 m 185 ls [])) : ∀ (H : Heap) (locs : List Loc) (ls : Array Slot), va_P z.1 classes (wv z ad E M) H → va_D A (wv z ad E M) → va_S A s.heap H locs → lv_has ls 14 [(0, .ref (ad 1)), (1, .ref (ad q1)), (5, .int (oI x5)), (7, .int (oI x7)), (8, .int (oI x8))] → W p l e (rmK 8 205 mc ms) s m args below meth c H locs c0 s0 Q (F0 m 101 ls []) := by
  intro H locs ls hP hD hS hl
  unfold La_transferable_101b at h
  obtain ⟨hL, h⟩ := ck_e h
  obtain ⟨h_q1, h⟩ := ck_e h
  refine lv_iload hx hb d_L5_101 (lv_at hl 4 rfl) ?_
  refine lv_iconst (v := oI 1) hx hb d_L5_103 (by decide +kernel) ?_
  refine lv_aload_n hx hb d_L5_104 rfl (lv_at hl 1 rfl) ?_
  refine m_giN (C := "BallothallLaw$Box") (T := TX12) (N := 4) (ci := 12) (k := 0) hx hb hts iX12 hown hG hP h_q1.1 h_q1.2 rfl (by decide) n_775 rfl (fun _ h9 => h9) rfl rfl d_L5_105 ?_
  obtain ⟨ok115, h⟩ := ck_e h
  refine lv_ishl hx hb d_L5_108 ?_
  refine nrm (oI_one_shl ok115) ?_
  obtain ⟨ok116, h⟩ := ck_e h
  obtain ⟨ok117, h⟩ := ck_e h
  refine lv_icmp_ge (tgt := 185) hx hb d_L5_109 (by decide) (fun c9 => ?_) (fun c9 => ?_)
  · have h := ite_t ((oI_le (a := (2 ^ (M q1 0).toNat)) (b := x8) ok117 ok116).mp c9) h
    obtain ⟨rfl, rfl, rfl, rfl, rfl⟩ := in5 h
    exact W.wide (by omega) (by omega) (k1 ad hag0 hE0 rfl H locs ls hP hD hS (lv_sub hl [0, 1, 3] rfl))
  · have h := ite_f (fun q => c9 ((oI_le (a := (2 ^ (M q1 0).toNat)) (b := x8) ok117 ok116).mpr q)) h
    refine lv_aload_n hx hb d_L5_112 rfl (lv_at hl 1 rfl) ?_
    refine lv_iload hx hb d_L5_113 (lv_at hl 4 rfl) ?_
    obtain ⟨r118, g118, h⟩ := bd_e h
    refine kV (As := [.int (oI x8)]) (rest := []) (s_Lb_solid l z ad E M q1 x8 r118 hL g118) hx hb hml hown hts w_1260 w_1257 w_1258 w_1259 w_12 md_9f64f5 ⟨Nat.le_of_ble_eq_true rfl, Nat.le_of_ble_eq_true rfl⟩ hG hZ hP hD hS hA q1 (wv_o (ci := 12) h_q1.1 h_q1.2) rfl rfl rfl hl.1 rfl (Nat.le_of_ble_eq_true rfl) d_L5_115 ⟨(show _ ≤ mc by omega), (show _ ≤ ms by omega)⟩ (fun _ H locs hP hD hS => ?_)
    have hP : va_P z.1 classes (wv z ad E M) H := hP
    have hD : va_D A (wv z ad E M) := hD
    refine W.eq (g2 := F0 m 118 ls [.int (oI r118)]) rfl ?_
    refine lv_aload_n hx hb d_L5_118 rfl (lv_at hl 0 rfl) ?_
    obtain ⟨r119, g119, h⟩ := bd_e h
    refine kV (As := []) (rest := [.int (oI r118)]) (s_B_quota l z ad E M r119 hL g119) hx hb hml hown hts w_1254 w_1251 w_1252 w_1253 w_1 md_689494 ⟨Nat.le_of_ble_eq_true rfl, Nat.le_of_ble_eq_true rfl⟩ hG hZ hP hD hS hA 1 (wv_o (ci := 11) (yi_1 hL) (yt_1 hL)) rfl rfl rfl hl.1 rfl (Nat.le_of_ble_eq_true rfl) d_L5_119 ⟨(show _ ≤ mc by omega), (show _ ≤ ms by omega)⟩ (fun _ H locs hP hD hS => ?_)
    have hP : va_P z.1 classes (wv z ad E M) H := hP
    have hD : va_D A (wv z ad E M) := hD
    refine W.eq (g2 := F0 m 122 ls [.int (oI r119), .int (oI r118)]) rfl ?_
    obtain ⟨ok120, h⟩ := ck_e h
    obtain ⟨ok121, h⟩ := ck_e h
    refine lv_idiv hx hb d_L5_122 (oI_nz ok121.1 ok121.2) ?_
    refine nrm (oI_div (a := r118) (b := r119) ok120.1 ok120.2 ok121.1 ok121.2) ?_
    refine lv_istore (lv' := [(9, .int (oI (r118 / r119))), (0, .ref (ad 1)), (1, .ref (ad q1)), (5, .int (oI x5)), (7, .int (oI x7)), (8, .int (oI x8))]) hx hb d_L5_123 hl (by decide) rfl (fun ls hl => ?_)
    refine lv_iload hx hb d_L5_125 (lv_at hl 4 rfl) ?_
    obtain ⟨ok122, h⟩ := ck_e h
    refine lv_if_eq (tgt := 176) hx hb d_L5_127 (by decide) (fun c9 => ?_) (fun c9 => ?_)
    · have h := ite_t ((oI_eq0 ok122).mp c9) h
      refine lv_iconst (v := oI 0) hx hb d_L5_176 (by decide +kernel) ?_
      refine lv_istore (lv' := [(7, .int (oI 0)), (9, .int (oI (r118 / r119))), (0, .ref (ad 1)), (1, .ref (ad q1)), (5, .int (oI x5)), (8, .int (oI x8))]) hx hb d_L5_177 hl (by decide) rfl (fun ls hl => ?_)
      refine lv_iinc (v := oI (x8 + 1)) (lv' := [(8, .int (oI (x8 + 1))), (7, .int (oI 0)), (9, .int (oI (r118 / r119))), (0, .ref (ad 1)), (1, .ref (ad q1)), (5, .int (oI x5))]) hx hb d_L5_179 hl (k := 5) rfl (oI_add x8 1) (by decide) rfl (fun ls hl => ?_)
      refine lv_goto (tgt := 101) hx hb d_L5_182 (by decide) ?_
      obtain ⟨rfl, rfl, rfl, rfl, rfl⟩ := in5 h
      exact W.wide (by omega) (by omega) (k0 ad hag0 hE0 rfl H locs ls hP hD hS (lv_sub hl [3, 4, 5, 1, 0] rfl))
    · have h := ite_f (fun q => c9 ((oI_eq0 ok122).mpr q)) h
      refine lv_iload hx hb d_L5_130 (lv_at hl 5 rfl) ?_
      refine lv_iload hx hb d_L5_132 (lv_at hl 3 rfl) ?_
      obtain ⟨ok123, h⟩ := ck_e h
      obtain ⟨ok124, h⟩ := ck_e h
      refine lv_iand hx hb d_L5_134 ?_
      refine nrm (oI_and (a := x8) (b := x5) ok123.1 ok123.2 ok124.1 ok124.2) ?_
      obtain ⟨r125, g125, h⟩ := bd_e h
      refine kS (As := [.int (oI (andI x8 x5))]) (rest := []) (s_In_bitCount l z ad E M (andI x8 x5) r125 hL g125) hx hb hml hown hts w_657 w_1256 w_656 w_30 md_eafe8c ⟨Nat.le_of_ble_eq_true rfl, Nat.le_of_ble_eq_true rfl⟩ hG hZ hP hD hS hA rfl hl.1 rfl (Nat.le_of_ble_eq_true rfl) d_L5_135 ⟨(show _ ≤ mc by omega), (show _ ≤ ms by omega)⟩ (fun _ H locs hP hD hS => ?_)
      have hP : va_P z.1 classes (wv z ad E M) H := hP
      have hD : va_D A (wv z ad E M) := hD
      refine W.eq (g2 := F0 m 138 ls [.int (oI r125)]) rfl ?_
      refine lv_iload hx hb d_L5_138 (lv_at hl 0 rfl) ?_
      obtain ⟨ok126, h⟩ := ck_e h
      obtain ⟨ok127, h⟩ := ck_e h
      refine lv_icmp_ge (tgt := 153) hx hb d_L5_140 (by decide) (fun c9 => ?_) (fun c9 => ?_)
      · have h := ite_t ((oI_le (a := (r118 / r119)) (b := r125) ok127 ok126).mp c9) h
        exact b_La_transferable_j153 l z E0 ad0 ad E M q1 x5 x8 (r118 / r119) t w7 w8 F N hx hb hml hts hown hlocks hA hG hZ mc ms _ _ c1 s1 (by omega) (by omega) hm hm2 hag0 hE0 h k0 k1 H locs ls hP hD hS (lv_sub hl [1, 2, 3, 5, 0] rfl)
      · have h := ite_f (fun q => c9 ((oI_le (a := (r118 / r119)) (b := r125) ok127 ok126).mpr q)) h
        refine lv_iload hx hb d_L5_143 (lv_at hl 5 rfl) ?_
        refine lv_iload hx hb d_L5_145 (lv_at hl 3 rfl) ?_
        refine lv_iand hx hb d_L5_147 ?_
        refine nrm (oI_and (a := x8) (b := x5) ok123.1 ok123.2 ok124.1 ok124.2) ?_
        refine lv_iload hx hb d_L5_148 (lv_at hl 5 rfl) ?_
        refine lv_icmp_ne (tgt := 176) hx hb d_L5_150 (by decide) (fun c9 => ?_) (fun c9 => ?_)
        · have h := ite_f (fun q => c9 ((oI_eq (a := (andI x8 x5)) (b := x8) (rg_nn (and_nn ok123)) ok116).mpr q)) h
          refine lv_iconst (v := oI 0) hx hb d_L5_176 (by decide +kernel) ?_
          refine lv_istore (lv' := [(7, .int (oI 0)), (9, .int (oI (r118 / r119))), (0, .ref (ad 1)), (1, .ref (ad q1)), (5, .int (oI x5)), (8, .int (oI x8))]) hx hb d_L5_177 hl (by decide) rfl (fun ls hl => ?_)
          refine lv_iinc (v := oI (x8 + 1)) (lv' := [(8, .int (oI (x8 + 1))), (7, .int (oI 0)), (9, .int (oI (r118 / r119))), (0, .ref (ad 1)), (1, .ref (ad q1)), (5, .int (oI x5))]) hx hb d_L5_179 hl (k := 5) rfl (oI_add x8 1) (by decide) rfl (fun ls hl => ?_)
          refine lv_goto (tgt := 101) hx hb d_L5_182 (by decide) ?_
          obtain ⟨rfl, rfl, rfl, rfl, rfl⟩ := in5 h
          exact W.wide (by omega) (by omega) (k0 ad hag0 hE0 rfl H locs ls hP hD hS (lv_sub hl [3, 4, 5, 1, 0] rfl))
        · have h := ite_t ((oI_eq (a := (andI x8 x5)) (b := x8) (rg_nn (and_nn ok123)) ok116).mp c9) h
          exact b_La_transferable_j153 l z E0 ad0 ad E M q1 x5 x8 (r118 / r119) t w7 w8 F N hx hb hml hts hown hlocks hA hG hZ mc ms _ _ c1 s1 (by omega) (by omega) hm hm2 hag0 hE0 h k0 k1 H locs ls hP hD hS (lv_sub hl [1, 2, 3, 5, 0] rfl)
set_option maxRecDepth 100000 in
set_option maxHeartbeats 4000000 in
theorem s_La_transferable_101 (l : Launch) (z : Zz) (E0 : Ev) (ad0 : Nat → Nat) (q1 : Nat) (x5 : Int) {Q : State → Prop} {p : Program} {e : Env} {s : State} {m : MethodId} {below : List Frame} {meth : Method} {c : Code} {A : Nat → Prop} {args : Array Value} (hx : p.tables.exec = Jvm.exec) (hb : c.code = method_5_code) (hml : c.maxLocals = 14) (hts : ∀ w ∈ WG, w.before args s = true) (hown : s.vm.findClass "BallothallLaw" = some m.cls) (hlocks : meth.locks = false) (hA : ∀ q, s.heap.size ≤ q → A q) (hG : KG z s) (hZ : FZ z A s) (mc ms c1 s1 : Nat) (hm : c1 ≤ mc) (hm2 : s1 ≤ ms) : ∀ (fu c0 s0 : Nat) (ad : Nat → Nat) (E : Ev) (M : Mm) (x7 : Int) (x8 : Int) (t : Nat) (w7 : Int) (w8 : Int) (F : Ev) (N : Mm), c0 + fu * 0 ≤ c1 → s0 + fu * 0 ≤ s1 → (∀ i, i < nE E0 → ad i = ad0 i) → nE E0 ≤ nE E → l_La_transferable_101 q1 x5 fu E M x7 x8 = some (t, w7, w8, F, N) → (∀ (ad1 : Nat → Nat), (∀ i, i < nE E0 → ad1 i = ad0 i) → nE E0 ≤ nE F → t = 1 → ∀ (H : Heap) (locs : List Loc) (ls : Array Slot), va_P z.1 classes (wv z ad1 F N) H → va_D A (wv z ad1 F N) → va_S A s.heap H locs → lv_has ls 14 [(0, .ref (ad1 1)), (1, .ref (ad1 q1)), (7, .int (oI w7))] → W p l e (rmK 8 205 mc ms) s m args below meth c H locs c1 s1 Q (F0 m 185 ls [])) → ∀ (H : Heap) (locs : List Loc) (ls : Array Slot), va_P z.1 classes (wv z ad E M) H → va_D A (wv z ad E M) → va_S A s.heap H locs → lv_has ls 14 [(0, .ref (ad 1)), (1, .ref (ad q1)), (5, .int (oI x5)), (7, .int (oI x7)), (8, .int (oI x8))] → W p l e (rmK 8 205 mc ms) s m args below meth c H locs c0 s0 Q (F0 m 101 ls []) := by
  intro fu
  induction fu with
  | zero =>
    intro c0 s0 ad E M x7 x8 t w7 w8 F N hc hs hag0 hE0 h
    have h : (none : Option (Nat × Int × Int × Ev × Mm)) = some _ := h
    cases h
  | succ fu ih =>
    intro c0 s0 ad E M x7 x8 t w7 w8 F N hc hs hag0 hE0 h k1 H locs ls hP hD hS hl
    obtain ⟨⟨t0, w70, w80, F9, N9⟩, g0, h⟩ := bd_e h
    refine W.wide (Nat.le_refl _) (Nat.le_refl _) (b_La_transferable_101b l z E0 ad0 ad E M q1 x5 x7 x8 t0 w70 w80 F9 N9 hx hb hml hts hown hlocks hA hG hZ mc ms c0 s0 (c0 + 0) (s0 + 0) (Nat.le_refl _) (Nat.le_refl _) (by omega) (by omega) hag0 hE0 g0 (fun ad1 ha he e0 => ?_) (fun ad1 ha he e0 => ?_) H locs ls hP hD hS hl)
    · subst e0
      have h := ite_t rfl h
      exact ih (c0 + 0) (s0 + 0) ad1 F9 N9 w70 w80 t w7 w8 F N (by omega) (by omega) ha he h k1
    · subst e0
      have h := ite_f (by decide) h
      obtain ⟨rfl, rfl, rfl, rfl, rfl⟩ := in5 h
      exact fun H locs ls hP hD hS hl => W.wide (by omega) (by omega) (k1 ad1 ha he rfl H locs ls hP hD hS hl)
set_option maxRecDepth 100000 in
set_option maxHeartbeats 4000000 in
theorem b_La_transferable_223b (l : Launch) (z : Zz) (E0 : Ev) (ad0 : Nat → Nat) (ad : Nat → Nat) (E : Ev) (M : Mm) (q1 : Nat) (x8 : Int) (x9 : Int) (x11 : Int) (x12 : Int) (x13 : Int) (t : Nat) (w12 : Int) (w13 : Int) (F : Ev) (N : Mm) {Q : State → Prop} {p : Program} {e : Env} {s : State} {m : MethodId} {below : List Frame} {meth : Method} {c : Code} {A : Nat → Prop} {args : Array Value} (hx : p.tables.exec = Jvm.exec) (hb : c.code = method_5_code) (hml : c.maxLocals = 14) (hts : ∀ w ∈ WG, w.before args s = true) (hown : s.vm.findClass "BallothallLaw" = some m.cls) (hlocks : meth.locks = false) (hA : ∀ q, s.heap.size ≤ q → A q) (hG : KG z s) (hZ : FZ z A s) (mc ms c0 s0 c1 s1 : Nat) (hc : c0 + 0 ≤ c1) (hs : s0 + 0 ≤ s1) (hm : c1 ≤ mc) (hm2 : s1 ≤ ms) (hag0 : ∀ i, i < nE E0 → ad i = ad0 i) (hE0 : nE E0 ≤ nE E) (h : La_transferable_223b E M q1 x8 x9 x11 x12 x13 = some (t, w12, w13, F, N)) (k0 : ∀ (ad1 : Nat → Nat), (∀ i, i < nE E0 → ad1 i = ad0 i) → nE E0 ≤ nE F → t = 0 → ∀ (H : Heap) (locs : List Loc) (ls : Array Slot), va_P z.1 classes (wv z ad1 F N) H → va_D A (wv z ad1 F N) → va_S A s.heap H locs → lv_has ls 14 [(0, .ref (ad1 1)), (1, .ref (ad1 q1)), (8, .int (oI x8)), (9, .long (oJ x9)), (11, .int (oI x11)), (12, .int (oI w12)), (13, .int (oI w13))] → W p l e (rmK 8 205 mc ms) s m args below meth c H locs c1 s1 Q (F0 m 223 ls [])) (k1 : ∀ (ad1 : Nat → Nat), (∀ i, i < nE E0 → ad1 i = ad0 i) → nE E0 ≤ nE F → t = 1 → ∀ (H : Heap) (locs : List Loc) (ls : Array Slot), va_P z.1 classes (wv z ad1 F N) H → va_D A (wv z ad1 F N) → va_S A s.heap H locs → lv_has ls 14 [(0, .ref (ad1 1)), (1, .ref (ad1 q1)), (8, .int (oI x8)), (9, .long (oJ x9)), (11, .int (oI x11)), (12, .int (oI w12))] → W p l e (rmK 8 205 mc ms) s m args below meth c H locs c1 s1 Q (F0 m 261 ls [])) : ∀ (H : Heap) (locs : List Loc) (ls : Array Slot), va_P z.1 classes (wv z ad E M) H → va_D A (wv z ad E M) → va_S A s.heap H locs → lv_has ls 14 [(0, .ref (ad 1)), (1, .ref (ad q1)), (8, .int (oI x8)), (9, .long (oJ x9)), (11, .int (oI x11)), (12, .int (oI x12)), (13, .int (oI x13))] → W p l e (rmK 8 205 mc ms) s m args below meth c H locs c0 s0 Q (F0 m 223 ls []) := by
  intro H locs ls hP hD hS hl
  unfold La_transferable_223b at h
  obtain ⟨hL, h⟩ := ck_e h
  obtain ⟨h_q1, h⟩ := ck_e h
  refine lv_iload hx hb d_L5_223 (lv_at hl 6 rfl) ?_
  refine lv_aload_n hx hb d_L5_225 rfl (lv_at hl 1 rfl) ?_
  refine m_giN (C := "BallothallLaw$Box") (T := TX12) (N := 4) (ci := 12) (k := 0) hx hb hts iX12 hown hG hP h_q1.1 h_q1.2 rfl (by decide) n_775 rfl (fun _ h9 => h9) rfl rfl d_L5_226 ?_
  obtain ⟨ok139, h⟩ := ck_e h
  obtain ⟨ok140, h⟩ := ck_e h
  refine lv_icmp_ge (tgt := 261) hx hb d_L5_229 (by decide) (fun c9 => ?_) (fun c9 => ?_)
  · have h := ite_t ((oI_le (a := (M q1 0)) (b := x13) ok140 ok139).mp c9) h
    obtain ⟨rfl, rfl, rfl, rfl, rfl⟩ := in5 h
    exact W.wide (by omega) (by omega) (k1 ad hag0 hE0 rfl H locs ls hP hD hS (lv_sub hl [0, 1, 2, 3, 4, 5] rfl))
  · have h := ite_f (fun q => c9 ((oI_le (a := (M q1 0)) (b := x13) ok140 ok139).mpr q)) h
    refine lv_iload hx hb d_L5_232 (lv_at hl 5 rfl) ?_
    refine lv_aload_n hx hb d_L5_234 rfl (lv_at hl 1 rfl) ?_
    obtain ⟨p141, g141, h⟩ := bd_e h
    obtain ⟨h_p141, h⟩ := ck_e h
    refine m_grN (j := p141) (C := "BallothallLaw$Box") (T := TX12) (N := 4) (ci := 12) (k := 1) hx hb hts iX12 hown hG hP h_q1.1 h_q1.2 rfl (by decide) n_777 rfl (fun _ h9 => h9) rfl rfl g141 d_L5_235 ?_
    refine lv_iload hx hb d_L5_238 (lv_at hl 4 rfl) ?_
    obtain ⟨ok142, h⟩ := ck_e h
    obtain ⟨p143, g143, h⟩ := bd_e h
    obtain ⟨h_p143, h⟩ := ck_e h
    refine m_ar (k := p143) hx hb hG hP h_p141.1 (isQ_T h_p141) ok142 g143 d_L5_240 ?_
    refine lv_iload hx hb d_L5_241 (lv_at hl 6 rfl) ?_
    obtain ⟨ok144, h⟩ := ck_e h
    refine m_ia hx hb hG hP h_p143.1 (isIA_T h_p143) ok144 d_L5_243 ?_
    obtain ⟨ok145, h⟩ := ck_e h
    refine lv_if_ne (tgt := 251) hx hb d_L5_244 (by decide) (fun c9 => ?_) (fun c9 => ?_)
    · have h := ite_f (fun q => c9 ((oI_eq0 ok145).mpr q)) h
      refine lv_iconst (v := oI 0) hx hb d_L5_251 (by decide +kernel) ?_
      refine lv_iadd hx hb d_L5_252 ?_
      refine nrm (oI_add _ _) ?_
      refine lv_istore (lv' := [(12, .int (oI (x12 + 0))), (0, .ref (ad 1)), (1, .ref (ad q1)), (8, .int (oI x8)), (9, .long (oJ x9)), (11, .int (oI x11)), (13, .int (oI x13))]) hx hb d_L5_253 hl (by decide) rfl (fun ls hl => ?_)
      refine lv_iinc (v := oI (x13 + 1)) (lv' := [(13, .int (oI (x13 + 1))), (12, .int (oI (x12 + 0))), (0, .ref (ad 1)), (1, .ref (ad q1)), (8, .int (oI x8)), (9, .long (oJ x9)), (11, .int (oI x11))]) hx hb d_L5_255 hl (k := 6) rfl (oI_add x13 1) (by decide) rfl (fun ls hl => ?_)
      refine lv_goto (tgt := 223) hx hb d_L5_258 (by decide) ?_
      obtain ⟨rfl, rfl, rfl, rfl, rfl⟩ := in5 h
      exact W.wide (by omega) (by omega) (k0 ad hag0 hE0 rfl H locs ls hP hD hS (lv_sub hl [2, 3, 4, 5, 6, 1, 0] rfl))
    · have h := ite_t ((oI_eq0 ok145).mp c9) h
      refine lv_iconst (v := oI 1) hx hb d_L5_247 (by decide +kernel) ?_
      refine lv_goto (tgt := 252) hx hb d_L5_248 (by decide) ?_
      refine lv_iadd hx hb d_L5_252 ?_
      refine nrm (oI_add _ _) ?_
      refine lv_istore (lv' := [(12, .int (oI (x12 + 1))), (0, .ref (ad 1)), (1, .ref (ad q1)), (8, .int (oI x8)), (9, .long (oJ x9)), (11, .int (oI x11)), (13, .int (oI x13))]) hx hb d_L5_253 hl (by decide) rfl (fun ls hl => ?_)
      refine lv_iinc (v := oI (x13 + 1)) (lv' := [(13, .int (oI (x13 + 1))), (12, .int (oI (x12 + 1))), (0, .ref (ad 1)), (1, .ref (ad q1)), (8, .int (oI x8)), (9, .long (oJ x9)), (11, .int (oI x11))]) hx hb d_L5_255 hl (k := 6) rfl (oI_add x13 1) (by decide) rfl (fun ls hl => ?_)
      refine lv_goto (tgt := 223) hx hb d_L5_258 (by decide) ?_
      obtain ⟨rfl, rfl, rfl, rfl, rfl⟩ := in5 h
      exact W.wide (by omega) (by omega) (k0 ad hag0 hE0 rfl H locs ls hP hD hS (lv_sub hl [2, 3, 4, 5, 6, 1, 0] rfl))
set_option maxRecDepth 100000 in
set_option maxHeartbeats 4000000 in
theorem s_La_transferable_223 (l : Launch) (z : Zz) (E0 : Ev) (ad0 : Nat → Nat) (q1 : Nat) (x8 : Int) (x9 : Int) (x11 : Int) {Q : State → Prop} {p : Program} {e : Env} {s : State} {m : MethodId} {below : List Frame} {meth : Method} {c : Code} {A : Nat → Prop} {args : Array Value} (hx : p.tables.exec = Jvm.exec) (hb : c.code = method_5_code) (hml : c.maxLocals = 14) (hts : ∀ w ∈ WG, w.before args s = true) (hown : s.vm.findClass "BallothallLaw" = some m.cls) (hlocks : meth.locks = false) (hA : ∀ q, s.heap.size ≤ q → A q) (hG : KG z s) (hZ : FZ z A s) (mc ms c1 s1 : Nat) (hm : c1 ≤ mc) (hm2 : s1 ≤ ms) : ∀ (fu c0 s0 : Nat) (ad : Nat → Nat) (E : Ev) (M : Mm) (x12 : Int) (x13 : Int) (t : Nat) (w12 : Int) (w13 : Int) (F : Ev) (N : Mm), c0 + fu * 0 ≤ c1 → s0 + fu * 0 ≤ s1 → (∀ i, i < nE E0 → ad i = ad0 i) → nE E0 ≤ nE E → l_La_transferable_223 q1 x8 x9 x11 fu E M x12 x13 = some (t, w12, w13, F, N) → (∀ (ad1 : Nat → Nat), (∀ i, i < nE E0 → ad1 i = ad0 i) → nE E0 ≤ nE F → t = 1 → ∀ (H : Heap) (locs : List Loc) (ls : Array Slot), va_P z.1 classes (wv z ad1 F N) H → va_D A (wv z ad1 F N) → va_S A s.heap H locs → lv_has ls 14 [(0, .ref (ad1 1)), (1, .ref (ad1 q1)), (8, .int (oI x8)), (9, .long (oJ x9)), (11, .int (oI x11)), (12, .int (oI w12))] → W p l e (rmK 8 205 mc ms) s m args below meth c H locs c1 s1 Q (F0 m 261 ls [])) → ∀ (H : Heap) (locs : List Loc) (ls : Array Slot), va_P z.1 classes (wv z ad E M) H → va_D A (wv z ad E M) → va_S A s.heap H locs → lv_has ls 14 [(0, .ref (ad 1)), (1, .ref (ad q1)), (8, .int (oI x8)), (9, .long (oJ x9)), (11, .int (oI x11)), (12, .int (oI x12)), (13, .int (oI x13))] → W p l e (rmK 8 205 mc ms) s m args below meth c H locs c0 s0 Q (F0 m 223 ls []) := by
  intro fu
  induction fu with
  | zero =>
    intro c0 s0 ad E M x12 x13 t w12 w13 F N hc hs hag0 hE0 h
    have h : (none : Option (Nat × Int × Int × Ev × Mm)) = some _ := h
    cases h
  | succ fu ih =>
    intro c0 s0 ad E M x12 x13 t w12 w13 F N hc hs hag0 hE0 h k1 H locs ls hP hD hS hl
    obtain ⟨⟨t0, w120, w130, F9, N9⟩, g0, h⟩ := bd_e h
    refine W.wide (Nat.le_refl _) (Nat.le_refl _) (b_La_transferable_223b l z E0 ad0 ad E M q1 x8 x9 x11 x12 x13 t0 w120 w130 F9 N9 hx hb hml hts hown hlocks hA hG hZ mc ms c0 s0 (c0 + 0) (s0 + 0) (Nat.le_refl _) (Nat.le_refl _) (by omega) (by omega) hag0 hE0 g0 (fun ad1 ha he e0 => ?_) (fun ad1 ha he e0 => ?_) H locs ls hP hD hS hl)
    · subst e0
      have h := ite_t rfl h
      exact ih (c0 + 0) (s0 + 0) ad1 F9 N9 w120 w130 t w12 w13 F N (by omega) (by omega) ha he h k1
    · subst e0
      have h := ite_f (by decide) h
      obtain ⟨rfl, rfl, rfl, rfl, rfl⟩ := in5 h
      exact fun H locs ls hP hD hS hl => W.wide (by omega) (by omega) (k1 ad1 ha he rfl H locs ls hP hD hS hl)
set_option maxRecDepth 100000 in
set_option maxHeartbeats 4000000 in
theorem b_La_transferable_208b (l : Launch) (z : Zz) (E0 : Ev) (ad0 : Nat → Nat) (ad : Nat → Nat) (E : Ev) (M : Mm) (q1 : Nat) (x8 : Int) (x9 : Int) (x11 : Int) (t : Nat) (w9 : Int) (w11 : Int) (F : Ev) (N : Mm) {Q : State → Prop} {p : Program} {e : Env} {s : State} {m : MethodId} {below : List Frame} {meth : Method} {c : Code} {A : Nat → Prop} {args : Array Value} (hx : p.tables.exec = Jvm.exec) (hb : c.code = method_5_code) (hml : c.maxLocals = 14) (hts : ∀ w ∈ WG, w.before args s = true) (hown : s.vm.findClass "BallothallLaw" = some m.cls) (hlocks : meth.locks = false) (hA : ∀ q, s.heap.size ≤ q → A q) (hG : KG z s) (hZ : FZ z A s) (mc ms c0 s0 c1 s1 : Nat) (hc : c0 + 0 ≤ c1) (hs : s0 + 0 ≤ s1) (hm : c1 ≤ mc) (hm2 : s1 ≤ ms) (hag0 : ∀ i, i < nE E0 → ad i = ad0 i) (hE0 : nE E0 ≤ nE E) (h : La_transferable_208b E M q1 x8 x9 x11 = some (t, w9, w11, F, N)) (k0 : ∀ (ad1 : Nat → Nat), (∀ i, i < nE E0 → ad1 i = ad0 i) → nE E0 ≤ nE F → t = 0 → ∀ (H : Heap) (locs : List Loc) (ls : Array Slot), va_P z.1 classes (wv z ad1 F N) H → va_D A (wv z ad1 F N) → va_S A s.heap H locs → lv_has ls 14 [(0, .ref (ad1 1)), (1, .ref (ad1 q1)), (8, .int (oI x8)), (9, .long (oJ w9)), (11, .int (oI w11))] → W p l e (rmK 8 205 mc ms) s m args below meth c H locs c1 s1 Q (F0 m 208 ls [])) (k1 : ∀ (ad1 : Nat → Nat), (∀ i, i < nE E0 → ad1 i = ad0 i) → nE E0 ≤ nE F → t = 1 → ∀ (H : Heap) (locs : List Loc) (ls : Array Slot), va_P z.1 classes (wv z ad1 F N) H → va_D A (wv z ad1 F N) → va_S A s.heap H locs → lv_has ls 14 [(0, .ref (ad1 1)), (1, .ref (ad1 q1)), (8, .int (oI x8)), (9, .long (oJ w9))] → W p l e (rmK 8 205 mc ms) s m args below meth c H locs c1 s1 Q (F0 m 305 ls [])) : ∀ (H : Heap) (locs : List Loc) (ls : Array Slot), va_P z.1 classes (wv z ad E M) H → va_D A (wv z ad E M) → va_S A s.heap H locs → lv_has ls 14 [(0, .ref (ad 1)), (1, .ref (ad q1)), (8, .int (oI x8)), (9, .long (oJ x9)), (11, .int (oI x11))] → W p l e (rmK 8 205 mc ms) s m args below meth c H locs c0 s0 Q (F0 m 208 ls []) := by
  intro H locs ls hP hD hS hl
  unfold La_transferable_208b at h
  obtain ⟨hL, h⟩ := ck_e h
  obtain ⟨h_q1, h⟩ := ck_e h
  refine lv_iload hx hb d_L5_208 (lv_at hl 4 rfl) ?_
  refine lv_aload_n hx hb d_L5_210 rfl (lv_at hl 1 rfl) ?_
  refine m_giN (C := "BallothallLaw$Box") (T := TX12) (N := 4) (ci := 12) (k := 3) hx hb hts iX12 hown hG hP h_q1.1 h_q1.2 rfl (by decide) n_781 rfl (fun _ h9 => h9) rfl rfl d_L5_211 ?_
  obtain ⟨ok137, h⟩ := ck_e h
  obtain ⟨ok138, h⟩ := ck_e h
  refine lv_icmp_ge (tgt := 305) hx hb d_L5_214 (by decide) (fun c9 => ?_) (fun c9 => ?_)
  · have h := ite_t ((oI_le (a := (M q1 3)) (b := x11) ok138 ok137).mp c9) h
    obtain ⟨rfl, rfl, rfl, rfl, rfl⟩ := in5 h
    exact W.wide (by omega) (by omega) (k1 ad hag0 hE0 rfl H locs ls hP hD hS (lv_sub hl [0, 1, 2, 3] rfl))
  · have h := ite_f (fun q => c9 ((oI_le (a := (M q1 3)) (b := x11) ok138 ok137).mpr q)) h
    refine lv_iconst (v := oI 0) hx hb d_L5_217 (by decide +kernel) ?_
    refine lv_istore (lv' := [(12, .int (oI 0)), (0, .ref (ad 1)), (1, .ref (ad q1)), (8, .int (oI x8)), (9, .long (oJ x9)), (11, .int (oI x11))]) hx hb d_L5_218 hl (by decide) rfl (fun ls hl => ?_)
    refine lv_iconst (v := oI 0) hx hb d_L5_220 (by decide +kernel) ?_
    refine lv_istore (lv' := [(13, .int (oI 0)), (12, .int (oI 0)), (0, .ref (ad 1)), (1, .ref (ad q1)), (8, .int (oI x8)), (9, .long (oJ x9)), (11, .int (oI x11))]) hx hb d_L5_221 hl (by decide) rfl (fun ls hl => ?_)
    obtain ⟨⟨t146, v146_12, v146_13, E146, M146⟩, g146, h⟩ := bd_e h
    obtain ⟨hgw146, h⟩ := ck_e h
    obtain ⟨hL146, h⟩ := ck_e h
    obtain ⟨ok146, h⟩ := ck_e h
    refine s_La_transferable_223 l z E ad q1 x8 x9 x11 hx hb hml hts hown hlocks hA hG hZ mc ms (c0 + 0) (s0 + 0) (by omega) (by omega) 5000 _ _ ad E M 0 0 t146 v146_12 v146_13 E146 M146 (by omega) (by omega) (fun _ _ => rfl) (Nat.le_refl _) g146 (fun ad146 hag146 hEE146 e146 H locs ls hP hD hS hl => ?_) H locs ls hP hD hS (lv_sub hl [2, 3, 4, 5, 6, 1, 0] rfl)
    have hag0 : ∀ i, i < nE E0 → ad146 i = ad0 i := fun i hi => (hag146 i (Nat.lt_of_lt_of_le hi hE0)).trans (hag0 i hi)
    have hE0 : nE E0 ≤ nE E146 := Nat.le_trans hE0 hgw146.1
    have hL : Lay E146 := hL146
    have h_q1 : isO 12 E146 q1 := isO_up hgw146 h_q1
    refine lv_lload hx hb d_L5_261 (lv_at hl 3 rfl) ?_
    refine lv_aload_n hx hb d_L5_263 rfl (lv_at hl 1 rfl) ?_
    obtain ⟨p147, g147, h⟩ := bd_e h
    obtain ⟨h_p147, h⟩ := ck_e h
    refine m_grN (j := p147) (C := "BallothallLaw$Box") (T := TX12) (N := 4) (ci := 12) (k := 1) hx hb hts iX12 hown hG hP h_q1.1 h_q1.2 rfl (by decide) n_777 rfl (fun _ h9 => h9) rfl rfl g147 d_L5_264 ?_
    refine lv_iload hx hb d_L5_267 (lv_at hl 4 rfl) ?_
    obtain ⟨ok148, h⟩ := ck_e h
    obtain ⟨p149, g149, h⟩ := bd_e h
    obtain ⟨h_p149, h⟩ := ck_e h
    refine m_ar (k := p149) hx hb hG hP h_p147.1 (isQ_T h_p147) ok148 g149 d_L5_269 ?_
    refine lv_iload hx hb d_L5_270 (lv_at hl 2 rfl) ?_
    obtain ⟨ok150, h⟩ := ck_e h
    refine m_ia hx hb hG hP h_p149.1 (isIA_T h_p149) ok150 d_L5_272 ?_
    obtain ⟨ok151, h⟩ := ck_e h
    refine lv_if_ne (tgt := 295) hx hb d_L5_273 (by decide) (fun c9 => ?_) (fun c9 => ?_)
    · have h := ite_f (fun q => c9 ((oI_eq0 ok151).mpr q)) h
      refine lv_lconst (v := oJ 0) hx hb d_L5_295 (by decide +kernel) ?_
      refine lv_ladd hx hb d_L5_296 ?_
      refine nrmL (oJ_add _ _) ?_
      refine lv_lstore (lv' := [(9, .long (oJ (x9 + 0))), (0, .ref (ad146 1)), (1, .ref (ad146 q1)), (8, .int (oI x8)), (11, .int (oI x11)), (12, .int (oI v146_12))]) hx hb d_L5_297 hl (by decide) rfl (fun ls hl => ?_)
      refine lv_iinc (v := oI (x11 + 1)) (lv' := [(11, .int (oI (x11 + 1))), (9, .long (oJ (x9 + 0))), (0, .ref (ad146 1)), (1, .ref (ad146 q1)), (8, .int (oI x8)), (12, .int (oI v146_12))]) hx hb d_L5_299 hl (k := 4) rfl (oI_add x11 1) (by decide) rfl (fun ls hl => ?_)
      refine lv_goto (tgt := 208) hx hb d_L5_302 (by decide) ?_
      obtain ⟨rfl, rfl, rfl, rfl, rfl⟩ := in5 h
      exact W.wide (by omega) (by omega) (k0 ad146 hag0 hE0 rfl H locs ls hP hD hS (lv_sub hl [2, 3, 4, 1, 0] rfl))
    · have h := ite_t ((oI_eq0 ok151).mp c9) h
      refine lv_aload_n hx hb d_L5_276 rfl (lv_at hl 1 rfl) ?_
      obtain ⟨p152, g152, h⟩ := bd_e h
      obtain ⟨h_p152, h⟩ := ck_e h
      refine m_grN (j := p152) (C := "BallothallLaw$Box") (T := TX12) (N := 4) (ci := 12) (k := 2) hx hb hts iX12 hown hG hP h_q1.1 h_q1.2 rfl (by decide) n_779 rfl (fun _ h9 => h9) rfl rfl g152 d_L5_277 ?_
      refine lv_iload hx hb d_L5_280 (lv_at hl 4 rfl) ?_
      obtain ⟨ok153, h⟩ := ck_e h
      refine m_ia hx hb hG hP h_p152.1 (isIA_T h_p152) ok153 d_L5_282 ?_
      obtain ⟨ok154, h⟩ := ck_e h
      refine lv_i2l (v := oJ (M146 p152 x11.toNat)) hx hb d_L5_283 (oI_l ok154) ?_
      refine lv_sipush (v := oI 840) hx hb d_L5_284 (by decide +kernel) ?_
      refine lv_iload hx hb d_L5_287 (lv_at hl 5 rfl) ?_
      obtain ⟨ok155, h⟩ := ck_e h
      refine lv_idiv hx hb d_L5_289 (oI_nz ok155.1 ok155.2) ?_
      refine nrm (oI_div (a := (840 : Int)) (b := v146_12) (show nnI 840 by decide).1 (show nnI 840 by decide).2 ok155.1 ok155.2) ?_
      obtain ⟨ok156, h⟩ := ck_e h
      refine lv_i2l (v := oJ ((840 : Int) / v146_12)) hx hb d_L5_290 (oI_l ok156) ?_
      refine lv_lmul hx hb d_L5_291 ?_
      refine nrmL (oJ_mul _ _) ?_
      refine lv_goto (tgt := 296) hx hb d_L5_292 (by decide) ?_
      refine lv_ladd hx hb d_L5_296 ?_
      refine nrmL (oJ_add _ _) ?_
      obtain ⟨v157, e157, h⟩ := nb_e h
      refine nrmL (congrArg oJ e157.symm) ?_
      refine lv_lstore (lv' := [(9, .long (oJ v157)), (0, .ref (ad146 1)), (1, .ref (ad146 q1)), (8, .int (oI x8)), (11, .int (oI x11)), (12, .int (oI v146_12))]) hx hb d_L5_297 hl (by decide) rfl (fun ls hl => ?_)
      refine lv_iinc (v := oI (x11 + 1)) (lv' := [(11, .int (oI (x11 + 1))), (9, .long (oJ v157)), (0, .ref (ad146 1)), (1, .ref (ad146 q1)), (8, .int (oI x8)), (12, .int (oI v146_12))]) hx hb d_L5_299 hl (k := 4) rfl (oI_add x11 1) (by decide) rfl (fun ls hl => ?_)
      refine lv_goto (tgt := 208) hx hb d_L5_302 (by decide) ?_
      obtain ⟨rfl, rfl, rfl, rfl, rfl⟩ := in5 h
      exact W.wide (by omega) (by omega) (k0 ad146 hag0 hE0 rfl H locs ls hP hD hS (lv_sub hl [2, 3, 4, 1, 0] rfl))
set_option maxRecDepth 100000 in
set_option maxHeartbeats 4000000 in
theorem s_La_transferable_208 (l : Launch) (z : Zz) (E0 : Ev) (ad0 : Nat → Nat) (q1 : Nat) (x8 : Int) {Q : State → Prop} {p : Program} {e : Env} {s : State} {m : MethodId} {below : List Frame} {meth : Method} {c : Code} {A : Nat → Prop} {args : Array Value} (hx : p.tables.exec = Jvm.exec) (hb : c.code = method_5_code) (hml : c.maxLocals = 14) (hts : ∀ w ∈ WG, w.before args s = true) (hown : s.vm.findClass "BallothallLaw" = some m.cls) (hlocks : meth.locks = false) (hA : ∀ q, s.heap.size ≤ q → A q) (hG : KG z s) (hZ : FZ z A s) (mc ms c1 s1 : Nat) (hm : c1 ≤ mc) (hm2 : s1 ≤ ms) : ∀ (fu c0 s0 : Nat) (ad : Nat → Nat) (E : Ev) (M : Mm) (x9 : Int) (x11 : Int) (t : Nat) (w9 : Int) (w11 : Int) (F : Ev) (N : Mm), c0 + fu * 0 ≤ c1 → s0 + fu * 0 ≤ s1 → (∀ i, i < nE E0 → ad i = ad0 i) → nE E0 ≤ nE E → l_La_transferable_208 q1 x8 fu E M x9 x11 = some (t, w9, w11, F, N) → (∀ (ad1 : Nat → Nat), (∀ i, i < nE E0 → ad1 i = ad0 i) → nE E0 ≤ nE F → t = 1 → ∀ (H : Heap) (locs : List Loc) (ls : Array Slot), va_P z.1 classes (wv z ad1 F N) H → va_D A (wv z ad1 F N) → va_S A s.heap H locs → lv_has ls 14 [(0, .ref (ad1 1)), (1, .ref (ad1 q1)), (8, .int (oI x8)), (9, .long (oJ w9))] → W p l e (rmK 8 205 mc ms) s m args below meth c H locs c1 s1 Q (F0 m 305 ls [])) → ∀ (H : Heap) (locs : List Loc) (ls : Array Slot), va_P z.1 classes (wv z ad E M) H → va_D A (wv z ad E M) → va_S A s.heap H locs → lv_has ls 14 [(0, .ref (ad 1)), (1, .ref (ad q1)), (8, .int (oI x8)), (9, .long (oJ x9)), (11, .int (oI x11))] → W p l e (rmK 8 205 mc ms) s m args below meth c H locs c0 s0 Q (F0 m 208 ls []) := by
  intro fu
  induction fu with
  | zero =>
    intro c0 s0 ad E M x9 x11 t w9 w11 F N hc hs hag0 hE0 h
    have h : (none : Option (Nat × Int × Int × Ev × Mm)) = some _ := h
    cases h
  | succ fu ih =>
    intro c0 s0 ad E M x9 x11 t w9 w11 F N hc hs hag0 hE0 h k1 H locs ls hP hD hS hl
    obtain ⟨⟨t0, w90, w110, F9, N9⟩, g0, h⟩ := bd_e h
    refine W.wide (Nat.le_refl _) (Nat.le_refl _) (b_La_transferable_208b l z E0 ad0 ad E M q1 x8 x9 x11 t0 w90 w110 F9 N9 hx hb hml hts hown hlocks hA hG hZ mc ms c0 s0 (c0 + 0) (s0 + 0) (Nat.le_refl _) (Nat.le_refl _) (by omega) (by omega) hag0 hE0 g0 (fun ad1 ha he e0 => ?_) (fun ad1 ha he e0 => ?_) H locs ls hP hD hS hl)
    · subst e0
      have h := ite_t rfl h
      exact ih (c0 + 0) (s0 + 0) ad1 F9 N9 w90 w110 t w9 w11 F N (by omega) (by omega) ha he h k1
    · subst e0
      have h := ite_f (by decide) h
      obtain ⟨rfl, rfl, rfl, rfl, rfl⟩ := in5 h
      exact fun H locs ls hP hD hS hl => W.wide (by omega) (by omega) (k1 ad1 ha he rfl H locs ls hP hD hS hl)
set_option maxRecDepth 100000 in
set_option maxHeartbeats 4000000 in
theorem b_La_transferable_188b (l : Launch) (z : Zz) (E0 : Ev) (ad0 : Nat → Nat) (ad : Nat → Nat) (E : Ev) (M : Mm) (q1 : Nat) (x7 : Int) (x8 : Int) (t : Nat) (w7 : Int) (w8 : Int) (F : Ev) (N : Mm) {Q : State → Prop} {p : Program} {e : Env} {s : State} {m : MethodId} {below : List Frame} {meth : Method} {c : Code} {A : Nat → Prop} {args : Array Value} (hx : p.tables.exec = Jvm.exec) (hb : c.code = method_5_code) (hml : c.maxLocals = 14) (hts : ∀ w ∈ WG, w.before args s = true) (hown : s.vm.findClass "BallothallLaw" = some m.cls) (hlocks : meth.locks = false) (hA : ∀ q, s.heap.size ≤ q → A q) (hG : KG z s) (hZ : FZ z A s) (mc ms c0 s0 c1 s1 : Nat) (hc : c0 + 0 ≤ c1) (hs : s0 + 0 ≤ s1) (hm : c1 ≤ mc) (hm2 : s1 ≤ ms) (hag0 : ∀ i, i < nE E0 → ad i = ad0 i) (hE0 : nE E0 ≤ nE E) (h : La_transferable_188b E M q1 x7 x8 = some (t, w7, w8, F, N)) (k0 : ∀ (ad1 : Nat → Nat), (∀ i, i < nE E0 → ad1 i = ad0 i) → nE E0 ≤ nE F → t = 0 → ∀ (H : Heap) (locs : List Loc) (ls : Array Slot), va_P z.1 classes (wv z ad1 F N) H → va_D A (wv z ad1 F N) → va_S A s.heap H locs → lv_has ls 14 [(0, .ref (ad1 1)), (1, .ref (ad1 q1)), (7, .int (oI w7)), (8, .int (oI w8))] → W p l e (rmK 8 205 mc ms) s m args below meth c H locs c1 s1 Q (F0 m 188 ls [])) (k1 : ∀ (ad1 : Nat → Nat), (∀ i, i < nE E0 → ad1 i = ad0 i) → nE E0 ≤ nE F → t = 1 → ∀ (H : Heap) (locs : List Loc) (ls : Array Slot), va_P z.1 classes (wv z ad1 F N) H → va_D A (wv z ad1 F N) → va_S A s.heap H locs → lv_has ls 14 [(0, .ref (ad1 1)), (7, .int (oI w7))] → W p l e (rmK 8 205 mc ms) s m args below meth c H locs c1 s1 Q (F0 m 335 ls [])) : ∀ (H : Heap) (locs : List Loc) (ls : Array Slot), va_P z.1 classes (wv z ad E M) H → va_D A (wv z ad E M) → va_S A s.heap H locs → lv_has ls 14 [(0, .ref (ad 1)), (1, .ref (ad q1)), (7, .int (oI x7)), (8, .int (oI x8))] → W p l e (rmK 8 205 mc ms) s m args below meth c H locs c0 s0 Q (F0 m 188 ls []) := by
  intro H locs ls hP hD hS hl
  unfold La_transferable_188b at h
  obtain ⟨hL, h⟩ := ck_e h
  obtain ⟨h_q1, h⟩ := ck_e h
  refine lv_iload hx hb d_L5_188 (lv_at hl 3 rfl) ?_
  refine lv_aload_n hx hb d_L5_190 rfl (lv_at hl 1 rfl) ?_
  refine m_giN (C := "BallothallLaw$Box") (T := TX12) (N := 4) (ci := 12) (k := 0) hx hb hts iX12 hown hG hP h_q1.1 h_q1.2 rfl (by decide) n_775 rfl (fun _ h9 => h9) rfl rfl d_L5_191 ?_
  obtain ⟨ok134, h⟩ := ck_e h
  obtain ⟨ok135, h⟩ := ck_e h
  refine lv_icmp_ge (tgt := 335) hx hb d_L5_194 (by decide) (fun c9 => ?_) (fun c9 => ?_)
  · have h := ite_t ((oI_le (a := (M q1 0)) (b := x8) ok135 ok134).mp c9) h
    obtain ⟨rfl, rfl, rfl, rfl, rfl⟩ := in5 h
    exact W.wide (by omega) (by omega) (k1 ad hag0 hE0 rfl H locs ls hP hD hS (lv_sub hl [0, 2] rfl))
  · have h := ite_f (fun q => c9 ((oI_le (a := (M q1 0)) (b := x8) ok135 ok134).mpr q)) h
    refine lv_iload hx hb d_L5_197 (lv_at hl 2 rfl) ?_
    obtain ⟨ok136, h⟩ := ck_e h
    refine lv_if_eq (tgt := 335) hx hb d_L5_199 (by decide) (fun c9 => ?_) (fun c9 => ?_)
    · have h := ite_t ((oI_eq0 ok136).mp c9) h
      obtain ⟨rfl, rfl, rfl, rfl, rfl⟩ := in5 h
      exact W.wide (by omega) (by omega) (k1 ad hag0 hE0 rfl H locs ls hP hD hS (lv_sub hl [0, 2] rfl))
    · have h := ite_f (fun q => c9 ((oI_eq0 ok136).mpr q)) h
      refine lv_lconst (v := oJ 0) hx hb d_L5_202 (by decide +kernel) ?_
      refine lv_lstore (lv' := [(9, .long (oJ 0)), (0, .ref (ad 1)), (1, .ref (ad q1)), (7, .int (oI x7)), (8, .int (oI x8))]) hx hb d_L5_203 hl (by decide) rfl (fun ls hl => ?_)
      refine lv_iconst (v := oI 0) hx hb d_L5_205 (by decide +kernel) ?_
      refine lv_istore (lv' := [(11, .int (oI 0)), (9, .long (oJ 0)), (0, .ref (ad 1)), (1, .ref (ad q1)), (7, .int (oI x7)), (8, .int (oI x8))]) hx hb d_L5_206 hl (by decide) rfl (fun ls hl => ?_)
      obtain ⟨⟨t158, v158_9, v158_11, E158, M158⟩, g158, h⟩ := bd_e h
      obtain ⟨hgw158, h⟩ := ck_e h
      obtain ⟨hL158, h⟩ := ck_e h
      obtain ⟨ok158, h⟩ := ck_e h
      refine s_La_transferable_208 l z E ad q1 x8 hx hb hml hts hown hlocks hA hG hZ mc ms (c0 + 0) (s0 + 0) (by omega) (by omega) 5000 _ _ ad E M 0 0 t158 v158_9 v158_11 E158 M158 (by omega) (by omega) (fun _ _ => rfl) (Nat.le_refl _) g158 (fun ad158 hag158 hEE158 e158 H locs ls hP hD hS hl => ?_) H locs ls hP hD hS (lv_sub hl [2, 3, 5, 1, 0] rfl)
      have hag0 : ∀ i, i < nE E0 → ad158 i = ad0 i := fun i hi => (hag158 i (Nat.lt_of_lt_of_le hi hE0)).trans (hag0 i hi)
      have hE0 : nE E0 ≤ nE E158 := Nat.le_trans hE0 hgw158.1
      have hL : Lay E158 := hL158
      have h_q1 : isO 12 E158 q1 := isO_up hgw158 h_q1
      refine lv_aload_n hx hb d_L5_305 rfl (lv_at hl 0 rfl) ?_
      refine lv_aload_n hx hb d_L5_306 rfl (lv_at hl 0 rfl) ?_
      refine lv_iconst (v := oI 0) hx hb d_L5_307 (by decide +kernel) ?_
      refine lv_iload hx hb d_L5_308 (lv_at hl 2 rfl) ?_
      obtain ⟨⟨r159, M159⟩, g159, h⟩ := bd_e h
      refine kV (As := [.int (oI 0), .int (oI x8)]) (rest := [.ref (ad158 1)]) (s_B_writePile l z ad158 E158 M158 0 x8 r159 M159 hL g159) hx hb hml hown hts w_1269 w_1266 w_1267 w_1268 w_1 md_37bd88 ⟨Nat.le_of_ble_eq_true rfl, Nat.le_of_ble_eq_true rfl⟩ hG hZ hP hD hS hA 1 (wv_o (ci := 11) (yi_1 hL) (yt_1 hL)) rfl rfl rfl hl.1 rfl (Nat.le_of_ble_eq_true rfl) d_L5_310 ⟨(show _ ≤ mc by omega), (show _ ≤ ms by omega)⟩ (fun _ H locs hP hD hS => ?_)
      have hP : va_P z.1 classes (wv z ad158 E158 M159) H := hP
      have hD : va_D A (wv z ad158 E158 M159) := hD
      refine W.eq (g2 := F0 m 313 ls [.int (oI r159), .ref (ad158 1)]) rfl ?_
      obtain ⟨r160, g160, h⟩ := bd_e h
      refine kS (As := [.ref (ad158 1), .int (oI r159)]) (rest := []) (s_La_reads l z ad158 E158 M159 r159 r160 hL g160) hx hb hml hown hts w_1285 w_1283 w_1284 w_0 md_410014 ⟨Nat.le_of_ble_eq_true rfl, Nat.le_of_ble_eq_true rfl⟩ hG hZ hP hD hS hA rfl hl.1 rfl (Nat.le_of_ble_eq_true rfl) d_L5_313 ⟨(show _ ≤ mc by omega), (show _ ≤ ms by omega)⟩ (fun _ H locs hP hD hS => ?_)
      have hP : va_P z.1 classes (wv z ad158 E158 M159) H := hP
      have hD : va_D A (wv z ad158 E158 M159) := hD
      refine W.eq (g2 := F0 m 316 ls [.long (oJ r160)]) rfl ?_
      refine lv_lload hx hb d_L5_316 (lv_at hl 3 rfl) ?_
      obtain ⟨ok161, h⟩ := ck_e h
      obtain ⟨ok162, h⟩ := ck_e h
      refine W.lcmp hx hb d_L5_318 ?_
      refine nrm (cmp_val (a := r160) (b := v158_9) ok161 ok162) ?_
      refine lv_if_ne (tgt := 326) hx hb d_L5_319 (by decide) (fun c9 => ?_) (fun c9 => ?_)
      · have h := ite_f (fun q => c9 ((cmp_eq r160 v158_9).mpr q)) h
        refine lv_iconst (v := oI 0) hx hb d_L5_326 (by decide +kernel) ?_
        refine lv_istore (lv' := [(7, .int (oI 0)), (0, .ref (ad158 1)), (1, .ref (ad158 q1)), (8, .int (oI x8)), (9, .long (oJ v158_9))]) hx hb d_L5_327 hl (by decide) rfl (fun ls hl => ?_)
        refine lv_iinc (v := oI (x8 + 1)) (lv' := [(8, .int (oI (x8 + 1))), (7, .int (oI 0)), (0, .ref (ad158 1)), (1, .ref (ad158 q1)), (9, .long (oJ v158_9))]) hx hb d_L5_329 hl (k := 3) rfl (oI_add x8 1) (by decide) rfl (fun ls hl => ?_)
        refine lv_goto (tgt := 188) hx hb d_L5_332 (by decide) ?_
        obtain ⟨rfl, rfl, rfl, rfl, rfl⟩ := in5 h
        exact W.wide (by omega) (by omega) (k0 ad158 hag0 hE0 rfl H locs ls hP hD hS (lv_sub hl [2, 3, 1, 0] rfl))
      · have h := ite_t ((cmp_eq r160 v158_9).mp c9) h
        refine lv_iconst (v := oI 1) hx hb d_L5_322 (by decide +kernel) ?_
        refine lv_goto (tgt := 327) hx hb d_L5_323 (by decide) ?_
        refine lv_istore (lv' := [(7, .int (oI 1)), (0, .ref (ad158 1)), (1, .ref (ad158 q1)), (8, .int (oI x8)), (9, .long (oJ v158_9))]) hx hb d_L5_327 hl (by decide) rfl (fun ls hl => ?_)
        refine lv_iinc (v := oI (x8 + 1)) (lv' := [(8, .int (oI (x8 + 1))), (7, .int (oI 1)), (0, .ref (ad158 1)), (1, .ref (ad158 q1)), (9, .long (oJ v158_9))]) hx hb d_L5_329 hl (k := 3) rfl (oI_add x8 1) (by decide) rfl (fun ls hl => ?_)
        refine lv_goto (tgt := 188) hx hb d_L5_332 (by decide) ?_
        obtain ⟨rfl, rfl, rfl, rfl, rfl⟩ := in5 h
        exact W.wide (by omega) (by omega) (k0 ad158 hag0 hE0 rfl H locs ls hP hD hS (lv_sub hl [2, 3, 1, 0] rfl))
set_option maxRecDepth 100000 in
set_option maxHeartbeats 4000000 in
theorem s_La_transferable_188 (l : Launch) (z : Zz) (E0 : Ev) (ad0 : Nat → Nat) (q1 : Nat) {Q : State → Prop} {p : Program} {e : Env} {s : State} {m : MethodId} {below : List Frame} {meth : Method} {c : Code} {A : Nat → Prop} {args : Array Value} (hx : p.tables.exec = Jvm.exec) (hb : c.code = method_5_code) (hml : c.maxLocals = 14) (hts : ∀ w ∈ WG, w.before args s = true) (hown : s.vm.findClass "BallothallLaw" = some m.cls) (hlocks : meth.locks = false) (hA : ∀ q, s.heap.size ≤ q → A q) (hG : KG z s) (hZ : FZ z A s) (mc ms c1 s1 : Nat) (hm : c1 ≤ mc) (hm2 : s1 ≤ ms) : ∀ (fu c0 s0 : Nat) (ad : Nat → Nat) (E : Ev) (M : Mm) (x7 : Int) (x8 : Int) (t : Nat) (w7 : Int) (w8 : Int) (F : Ev) (N : Mm), c0 + fu * 0 ≤ c1 → s0 + fu * 0 ≤ s1 → (∀ i, i < nE E0 → ad i = ad0 i) → nE E0 ≤ nE E → l_La_transferable_188 q1 fu E M x7 x8 = some (t, w7, w8, F, N) → (∀ (ad1 : Nat → Nat), (∀ i, i < nE E0 → ad1 i = ad0 i) → nE E0 ≤ nE F → t = 1 → ∀ (H : Heap) (locs : List Loc) (ls : Array Slot), va_P z.1 classes (wv z ad1 F N) H → va_D A (wv z ad1 F N) → va_S A s.heap H locs → lv_has ls 14 [(0, .ref (ad1 1)), (7, .int (oI w7))] → W p l e (rmK 8 205 mc ms) s m args below meth c H locs c1 s1 Q (F0 m 335 ls [])) → ∀ (H : Heap) (locs : List Loc) (ls : Array Slot), va_P z.1 classes (wv z ad E M) H → va_D A (wv z ad E M) → va_S A s.heap H locs → lv_has ls 14 [(0, .ref (ad 1)), (1, .ref (ad q1)), (7, .int (oI x7)), (8, .int (oI x8))] → W p l e (rmK 8 205 mc ms) s m args below meth c H locs c0 s0 Q (F0 m 188 ls []) := by
  intro fu
  induction fu with
  | zero =>
    intro c0 s0 ad E M x7 x8 t w7 w8 F N hc hs hag0 hE0 h
    have h : (none : Option (Nat × Int × Int × Ev × Mm)) = some _ := h
    cases h
  | succ fu ih =>
    intro c0 s0 ad E M x7 x8 t w7 w8 F N hc hs hag0 hE0 h k1 H locs ls hP hD hS hl
    obtain ⟨⟨t0, w70, w80, F9, N9⟩, g0, h⟩ := bd_e h
    refine W.wide (Nat.le_refl _) (Nat.le_refl _) (b_La_transferable_188b l z E0 ad0 ad E M q1 x7 x8 t0 w70 w80 F9 N9 hx hb hml hts hown hlocks hA hG hZ mc ms c0 s0 (c0 + 0) (s0 + 0) (Nat.le_refl _) (Nat.le_refl _) (by omega) (by omega) hag0 hE0 g0 (fun ad1 ha he e0 => ?_) (fun ad1 ha he e0 => ?_) H locs ls hP hD hS hl)
    · subst e0
      have h := ite_t rfl h
      exact ih (c0 + 0) (s0 + 0) ad1 F9 N9 w70 w80 t w7 w8 F N (by omega) (by omega) ha he h k1
    · subst e0
      have h := ite_f (by decide) h
      obtain ⟨rfl, rfl, rfl, rfl, rfl⟩ := in5 h
      exact fun H locs ls hP hD hS hl => W.wide (by omega) (by omega) (k1 ad1 ha he rfl H locs ls hP hD hS hl)
set_option maxRecDepth 100000 in
set_option maxHeartbeats 4000000 in
theorem b_La_transferable_j335 (l : Launch) (z : Zz) (E0 : Ev) (ad0 : Nat → Nat) (ad : Nat → Nat) (E : Ev) (M : Mm) (x7 : Int) (r : Int) (F : Ev) (N : Mm) {p : Program} {e : Env} {s : State} {m : MethodId} {below : List Frame} {meth : Method} {c : Code} {A : Nat → Prop} {args : Array Value} (hx : p.tables.exec = Jvm.exec) (hb : c.code = method_5_code) (hml : c.maxLocals = 14) (hts : ∀ w ∈ WG, w.before args s = true) (hown : s.vm.findClass "BallothallLaw" = some m.cls) (hlocks : meth.locks = false) (hA : ∀ q, s.heap.size ≤ q → A q) (hG : KG z s) (hZ : FZ z A s) (hr : meth.sig.returnType = (some .boolean)) (mc ms c0 s0 c1 s1 : Nat) (hc : c0 + 0 ≤ c1) (hs : s0 + 0 ≤ s1) (hm : c1 ≤ mc) (hm2 : s1 ≤ ms) (hag0 : ∀ i, i < nE E0 → ad i = ad0 i) (hE0 : nE E0 ≤ nE E) (h : La_transferable_j335 E M x7 = some (r, F, N)) : ∀ (H : Heap) (locs : List Loc) (ls : Array Slot), va_P z.1 classes (wv z ad E M) H → va_D A (wv z ad E M) → va_S A s.heap H locs → lv_has ls 14 [(0, .ref (ad 1)), (7, .int (oI x7))] → W p l e (rmK 8 205 mc ms) s m args below meth c H locs c0 s0 (MQ below (QK z A (fun u => some (.int (oI r))) (fun u => wv z (adj E0 ad0 u) F N)) args s c1 s1 A) (F0 m 335 ls []) := by
  intro H locs ls hP hD hS hl
  unfold La_transferable_j335 at h
  obtain ⟨hL, h⟩ := ck_e h
  refine lv_iload hx hb d_L5_335 (lv_at hl 1 rfl) ?_
  obtain ⟨ok164, h⟩ := ck_e h
  refine lv_if_eq (tgt := 362) hx hb d_L5_337 (by decide) (fun c9 => ?_) (fun c9 => ?_)
  · have h := ite_t ((oI_eq0 ok164).mp c9) h
    refine lv_iconst (v := oI 0) hx hb d_L5_362 (by decide +kernel) ?_
    refine W.wide (k := c1) (n := s1) (by omega) (by omega) ?_
    obtain ⟨rfl, rfl, rfl⟩ := in3 h
    exact W.zret hx hb hr rfl (fun t ht hW => qkA hP hD hS ad (congrArg (fun q => wv z q E M) (adj_self hag0).symm) rfl ht) hS.2.2 d_L5_363
  · have h := ite_f (fun q => c9 ((oI_eq0 ok164).mpr q)) h
    refine lv_aload_n hx hb d_L5_340 rfl (lv_at hl 0 rfl) ?_
    refine lv_aload_n hx hb d_L5_341 rfl (lv_at hl 0 rfl) ?_
    refine lv_aload_n hx hb d_L5_342 rfl (lv_at hl 0 rfl) ?_
    obtain ⟨r165, g165, h⟩ := bd_e h
    refine kV (As := []) (rest := [.ref (ad 1), .ref (ad 1)]) (s_B_steps l z ad E M r165 hL g165) hx hb hml hown hts w_1296 w_1293 w_1294 w_1295 w_1 md_1e5622 ⟨Nat.le_of_ble_eq_true rfl, Nat.le_of_ble_eq_true rfl⟩ hG hZ hP hD hS hA 1 (wv_o (ci := 11) (yi_1 hL) (yt_1 hL)) rfl rfl rfl hl.1 rfl (Nat.le_of_ble_eq_true rfl) d_L5_343 ⟨(show _ ≤ mc by omega), (show _ ≤ ms by omega)⟩ (fun _ H locs hP hD hS => ?_)
    have hP : va_P z.1 classes (wv z ad E M) H := hP
    have hD : va_D A (wv z ad E M) := hD
    refine W.eq (g2 := F0 m 346 ls [.int (oI r165), .ref (ad 1), .ref (ad 1)]) rfl ?_
    refine lv_iconst (v := oI (-1)) hx hb d_L5_346 (by decide +kernel) ?_
    obtain ⟨⟨r166, M166⟩, g166, h⟩ := bd_e h
    refine kV (As := [.int (oI r165), .int (oI (-1))]) (rest := [.ref (ad 1)]) (s_B_writePile l z ad E M r165 (-1) r166 M166 hL g166) hx hb hml hown hts w_1269 w_1266 w_1267 w_1268 w_1 md_37bd88 ⟨Nat.le_of_ble_eq_true rfl, Nat.le_of_ble_eq_true rfl⟩ hG hZ hP hD hS hA 1 (wv_o (ci := 11) (yi_1 hL) (yt_1 hL)) rfl rfl rfl hl.1 rfl (Nat.le_of_ble_eq_true rfl) d_L5_347 ⟨(show _ ≤ mc by omega), (show _ ≤ ms by omega)⟩ (fun _ H locs hP hD hS => ?_)
    have hP : va_P z.1 classes (wv z ad E M166) H := hP
    have hD : va_D A (wv z ad E M166) := hD
    refine W.eq (g2 := F0 m 350 ls [.int (oI r166), .ref (ad 1)]) rfl ?_
    obtain ⟨r167, g167, h⟩ := bd_e h
    refine kS (As := [.ref (ad 1), .int (oI r166)]) (rest := []) (s_La_reads l z ad E M166 r166 r167 hL g167) hx hb hml hown hts w_1285 w_1283 w_1284 w_0 md_410014 ⟨Nat.le_of_ble_eq_true rfl, Nat.le_of_ble_eq_true rfl⟩ hG hZ hP hD hS hA rfl hl.1 rfl (Nat.le_of_ble_eq_true rfl) d_L5_350 ⟨(show _ ≤ mc by omega), (show _ ≤ ms by omega)⟩ (fun _ H locs hP hD hS => ?_)
    have hP : va_P z.1 classes (wv z ad E M166) H := hP
    have hD : va_D A (wv z ad E M166) := hD
    refine W.eq (g2 := F0 m 353 ls [.long (oJ r167)]) rfl ?_
    refine lv_lconst (v := oJ 0) hx hb d_L5_353 (by decide +kernel) ?_
    obtain ⟨ok168, h⟩ := ck_e h
    refine W.lcmp hx hb d_L5_354 ?_
    refine nrm (cmp_val (a := r167) (b := (0 : Int)) ok168 (by decide)) ?_
    refine lv_if_lt (tgt := 362) hx hb d_L5_355 (by decide) (fun c9 => ?_) (fun c9 => ?_)
    · have h := ite_t ((cmp_lt r167 (0 : Int)).mp c9) h
      refine lv_iconst (v := oI 0) hx hb d_L5_362 (by decide +kernel) ?_
      refine W.wide (k := c1) (n := s1) (by omega) (by omega) ?_
      obtain ⟨rfl, rfl, rfl⟩ := in3 h
      exact W.zret hx hb hr rfl (fun t ht hW => qkA hP hD hS ad (congrArg (fun q => wv z q E M166) (adj_self hag0).symm) rfl ht) hS.2.2 d_L5_363
    · have h := ite_f (fun q => c9 ((cmp_lt r167 (0 : Int)).mpr q)) h
      refine lv_iconst (v := oI 1) hx hb d_L5_358 (by decide +kernel) ?_
      refine lv_goto (tgt := 363) hx hb d_L5_359 (by decide) ?_
      refine W.wide (k := c1) (n := s1) (by omega) (by omega) ?_
      obtain ⟨rfl, rfl, rfl⟩ := in3 h
      exact W.zret hx hb hr rfl (fun t ht hW => qkA hP hD hS ad (congrArg (fun q => wv z q E M166) (adj_self hag0).symm) rfl ht) hS.2.2 d_L5_363
set_option maxRecDepth 100000 in
set_option maxHeartbeats 4000000 in
theorem s_La_transferable (l : Launch) (z : Zz) (ad : Nat → Nat) (E : Ev) (M : Mm) (p1 : Nat) (p2 : Nat) (r : Int) (F : Ev) (N : Mm) (h : f_La_transferable E M p1 p2 = some (r, F, N)) : CT l z ⟨"BallothallLaw", "transferable", "(LBallothall;LBallothallLaw$Box;[I)Z"⟩ method_5_code 14 (some .boolean) [.ref (ad 1), .ref (ad p1), .ref (ad p2)] (wv z ad E M) 8 205 2053 16581 (fun u => some (.int (oI r))) (fun u => wv z (adj E ad u) F N) := by
  refine CT.of (own := "BallothallLaw") (by decide +kernel) (Nat.le_of_ble_eq_true rfl) rfl (fun p e s m below meth c A ls hx hb hml hr hts hown hlocks hin hA hG hZ hP hD hS hl => ?_)
  have hl : lv_has ls 14 [(0, .ref (ad 1)), (1, .ref (ad p1)), (2, .ref (ad p2))] := hl
  have key : ∀ (E0 : Ev) (ad0 : Nat → Nat) (mc ms c0 s0 c1 s1 : Nat) (H : Heap) (locs : List Loc) (args : Array Value), c0 + 2053 ≤ c1 → s0 + 16581 ≤ s1 → c1 ≤ mc → s1 ≤ ms → (∀ i, i < nE E0 → ad i = ad0 i) → nE E0 ≤ nE E → (∀ w ∈ WG, w.before args s = true) → va_P z.1 classes (wv z ad E M) H → va_S A s.heap H locs → W p l e (rmK 8 205 mc ms) s m args below meth c H locs c0 s0 (MQ below (QK z A (fun u => some (.int (oI r))) (fun u => wv z (adj E0 ad0 u) F N)) args s c1 s1 A) (F0 m 0 ls []) := by
    intro E0 ad0 mc ms c0 s0 c1 s1 H locs args hc hs hm hm2 hag0 hE0 hts hP hS
    unfold f_La_transferable at h
    obtain ⟨hL, h⟩ := ck_e h
    obtain ⟨h_p1, h⟩ := ck_e h
    obtain ⟨h_p2, h⟩ := ck_e h
    refine lv_iconst (v := oI 1) hx hb d_L5_0 (by decide +kernel) ?_
    refine lv_aload_n hx hb d_L5_1 rfl (lv_at hl 2 rfl) ?_
    refine lv_iconst (v := oI 3) hx hb d_L5_2 (by decide +kernel) ?_
    obtain ⟨⟨r100, M100⟩, g100, h⟩ := bd_e h
    refine kS (As := [.ref (ad p2), .int (oI 3)]) (rest := [.int (oI 1)]) (s_La_next l z ad E M p2 3 r100 M100 hL g100) hx hb hml hown hts w_797 w_795 w_796 w_0 md_199d8f ⟨Nat.le_of_ble_eq_true rfl, Nat.le_of_ble_eq_true rfl⟩ hG hZ hP hD hS hA rfl hl.1 rfl (Nat.le_of_ble_eq_true rfl) d_L5_3 ⟨(show _ ≤ mc by omega), (show _ ≤ ms by omega)⟩ (fun _ H locs hP hD hS => ?_)
    have hP : va_P z.1 classes (wv z ad E M100) H := hP
    have hD : va_D A (wv z ad E M100) := hD
    refine W.eq (g2 := F0 m 6 ls [.int (oI r100), .int (oI 1)]) rfl ?_
    refine lv_iadd hx hb d_L5_6 ?_
    refine nrm (oI_add _ _) ?_
    refine lv_istore_n (lv' := [(3, .int (oI (1 + r100))), (0, .ref (ad 1)), (1, .ref (ad p1)), (2, .ref (ad p2))]) hx hb d_L5_7 rfl hl (by decide) rfl (fun ls hl => ?_)
    refine lv_aload_n hx hb d_L5_8 rfl (lv_at hl 1 rfl) ?_
    refine lv_iload_n hx hb d_L5_9 rfl (lv_at hl 0 rfl) ?_
    obtain ⟨⟨r101, E101, M101⟩, g101, h⟩ := bd_e h
    obtain ⟨hgw101, h⟩ := ck_e h
    refine kV (As := [.int (oI (1 + r100))]) (rest := []) (s_B_transferable l z ad E M100 (1 + r100) r101 E101 M101 g101) hx hb hml hown hts w_1069 w_1066 w_1067 w_1068 w_1 md_ed8a19 ⟨Nat.le_of_ble_eq_true rfl, Nat.le_of_ble_eq_true rfl⟩ hG hZ hP hD hS hA 1 (wv_o (ci := 11) (yi_1 hL) (yt_1 hL)) rfl rfl rfl hl.1 rfl (Nat.le_of_ble_eq_true rfl) d_L5_10 ⟨(show _ ≤ mc by omega), (show _ ≤ ms by omega)⟩ (fun u101 H locs hP hD hS => ?_)
    obtain ⟨ad101, had101⟩ : ∃ q, q = adj E ad u101 := ⟨_, rfl⟩
    have hP : va_P z.1 classes (wv z ad101 E101 M101) H := by rw [had101]; exact hP
    have hD : va_D A (wv z ad101 E101 M101) := by rw [had101]; exact hD
    have hag101 : ∀ i, i < nE E → ad101 i = ad i := fun i hi => by rw [had101]; exact adj_lt hi
    have hl : lv_has ls 14 [(3, .int (oI (1 + r100))), (0, .ref (ad101 1)), (1, .ref (ad101 p1)), (2, .ref (ad101 p2))] := by rw [hag101 1 (yi_1 hL), hag101 p1 h_p1.1, hag101 p2 h_p2.1]; exact hl
    refine W.eq (g2 := F0 m 13 ls (.int (oI r101) :: [])) (by rfl) ?_
    have hag0 : ∀ i, i < nE E0 → ad101 i = ad0 i := fun i hi => (hag101 i (Nat.lt_of_lt_of_le hi hE0)).trans (hag0 i hi)
    have hE0 : nE E0 ≤ nE E101 := Nat.le_trans hE0 hgw101.1
    obtain ⟨hL, h⟩ := ck_e h
    have h_p1 : isO 12 E101 p1 := isO_up hgw101 h_p1
    have h_p2 : isIA E101 p2 := isA_up hgw101 h_p2
    refine lv_istore (lv' := [(4, .int (oI r101)), (3, .int (oI (1 + r100))), (0, .ref (ad101 1)), (1, .ref (ad101 p1)), (2, .ref (ad101 p2))]) hx hb d_L5_13 hl (by decide) rfl (fun ls hl => ?_)
    refine lv_iconst (v := oI 0) hx hb d_L5_15 (by decide +kernel) ?_
    refine lv_istore (lv' := [(5, .int (oI 0)), (4, .int (oI r101)), (3, .int (oI (1 + r100))), (0, .ref (ad101 1)), (1, .ref (ad101 p1)), (2, .ref (ad101 p2))]) hx hb d_L5_16 hl (by decide) rfl (fun ls hl => ?_)
    refine lv_iconst (v := oI 0) hx hb d_L5_18 (by decide +kernel) ?_
    refine lv_istore (lv' := [(6, .int (oI 0)), (5, .int (oI 0)), (4, .int (oI r101)), (3, .int (oI (1 + r100))), (0, .ref (ad101 1)), (1, .ref (ad101 p1)), (2, .ref (ad101 p2))]) hx hb d_L5_19 hl (by decide) rfl (fun ls hl => ?_)
    obtain ⟨⟨t108, v108_5, v108_6, E108, M108⟩, g108, h⟩ := bd_e h
    obtain ⟨hgw108, h⟩ := ck_e h
    obtain ⟨hL108, h⟩ := ck_e h
    obtain ⟨ok108, h⟩ := ck_e h
    refine s_La_transferable_21 l z E101 ad101 p1 (1 + r100) r101 hx hb hml hts hown hlocks hA hG hZ mc ms (c0 + 2053) (s0 + 16581) (by omega) (by omega) 5000 _ _ ad101 E101 M101 0 0 t108 v108_5 v108_6 E108 M108 (by omega) (by omega) (fun _ _ => rfl) (Nat.le_refl _) g108 (fun ad108 hag108 hEE108 e108 H locs ls hP hD hS hl => ?_) H locs ls hP hD hS (lv_sub hl [4, 5, 3, 2, 1, 0] rfl)
    have hag0 : ∀ i, i < nE E0 → ad108 i = ad0 i := fun i hi => (hag108 i (Nat.lt_of_lt_of_le hi hE0)).trans (hag0 i hi)
    have hE0 : nE E0 ≤ nE E108 := Nat.le_trans hE0 hgw108.1
    have hL : Lay E108 := hL108
    have h_p1 : isO 12 E108 p1 := isO_up hgw108 h_p1
    refine lv_aload_n hx hb d_L5_47 rfl (lv_at hl 1 rfl) ?_
    obtain ⟨r109, g109, h⟩ := bd_e h
    refine kV (As := []) (rest := []) (s_Lb_all l z ad108 E108 M108 p1 r109 hL g109) hx hb hml hown hts w_794 w_791 w_792 w_793 w_12 md_dbe0d3 ⟨Nat.le_of_ble_eq_true rfl, Nat.le_of_ble_eq_true rfl⟩ hG hZ hP hD hS hA p1 (wv_o (ci := 12) h_p1.1 h_p1.2) rfl rfl rfl hl.1 rfl (Nat.le_of_ble_eq_true rfl) d_L5_48 ⟨(show _ ≤ mc by omega), (show _ ≤ ms by omega)⟩ (fun _ H locs hP hD hS => ?_)
    have hP : va_P z.1 classes (wv z ad108 E108 M108) H := hP
    have hD : va_D A (wv z ad108 E108 M108) := hD
    refine W.eq (g2 := F0 m 51 ls [.int (oI r109)]) rfl ?_
    refine lv_istore (lv' := [(6, .int (oI r109)), (0, .ref (ad108 1)), (1, .ref (ad108 p1)), (3, .int (oI (1 + r100))), (4, .int (oI r101)), (5, .int (oI v108_5))]) hx hb d_L5_51 hl (by decide) rfl (fun ls hl => ?_)
    refine lv_aload_n hx hb d_L5_53 rfl (lv_at hl 1 rfl) ?_
    obtain ⟨r110, g110, h⟩ := bd_e h
    refine kV (As := []) (rest := []) (s_B_quota l z ad108 E108 M108 r110 hL g110) hx hb hml hown hts w_1254 w_1251 w_1252 w_1253 w_1 md_689494 ⟨Nat.le_of_ble_eq_true rfl, Nat.le_of_ble_eq_true rfl⟩ hG hZ hP hD hS hA 1 (wv_o (ci := 11) (yi_1 hL) (yt_1 hL)) rfl rfl rfl hl.1 rfl (Nat.le_of_ble_eq_true rfl) d_L5_54 ⟨(show _ ≤ mc by omega), (show _ ≤ ms by omega)⟩ (fun _ H locs hP hD hS => ?_)
    have hP : va_P z.1 classes (wv z ad108 E108 M108) H := hP
    have hD : va_D A (wv z ad108 E108 M108) := hD
    refine W.eq (g2 := F0 m 57 ls [.int (oI r110)]) rfl ?_
    refine lv_iload hx hb d_L5_57 (lv_at hl 0 rfl) ?_
    refine lv_iload_n hx hb d_L5_59 rfl (lv_at hl 3 rfl) ?_
    refine lv_iconst (v := oI 1) hx hb d_L5_60 (by decide +kernel) ?_
    refine lv_iadd hx hb d_L5_61 ?_
    refine nrm (oI_add _ _) ?_
    obtain ⟨ok111, h⟩ := ck_e h
    obtain ⟨ok112, h⟩ := ck_e h
    refine lv_idiv hx hb d_L5_62 (oI_nz ok112.1 ok112.2) ?_
    refine nrm (oI_div (a := r109) (b := ((1 + r100) + 1)) ok111.1 ok111.2 ok112.1 ok112.2) ?_
    refine lv_iconst (v := oI 1) hx hb d_L5_63 (by decide +kernel) ?_
    refine lv_iadd hx hb d_L5_64 ?_
    refine nrm (oI_add _ _) ?_
    obtain ⟨ok113, h⟩ := ck_e h
    obtain ⟨ok114, h⟩ := ck_e h
    refine lv_icmp_ne (tgt := 95) hx hb d_L5_65 (by decide) (fun c9 => ?_) (fun c9 => ?_)
    · have h := ite_f (fun q => c9 ((oI_eq (a := r110) (b := ((r109 / ((1 + r100) + 1)) + 1)) ok113 ok114).mpr q)) h
      refine lv_iconst (v := oI 0) hx hb d_L5_95 (by decide +kernel) ?_
      refine lv_istore (lv' := [(7, .int (oI 0)), (6, .int (oI r109)), (0, .ref (ad108 1)), (1, .ref (ad108 p1)), (3, .int (oI (1 + r100))), (4, .int (oI r101)), (5, .int (oI v108_5))]) hx hb d_L5_96 hl (by decide) rfl (fun ls hl => ?_)
      refine lv_iconst (v := oI 1) hx hb d_L5_98 (by decide +kernel) ?_
      refine lv_istore (lv' := [(8, .int (oI 1)), (7, .int (oI 0)), (6, .int (oI r109)), (0, .ref (ad108 1)), (1, .ref (ad108 p1)), (3, .int (oI (1 + r100))), (4, .int (oI r101)), (5, .int (oI v108_5))]) hx hb d_L5_99 hl (by decide) rfl (fun ls hl => ?_)
      obtain ⟨⟨t133, v133_7, v133_8, E133, M133⟩, g133, h⟩ := bd_e h
      obtain ⟨hgw133, h⟩ := ck_e h
      obtain ⟨hL133, h⟩ := ck_e h
      obtain ⟨ok133, h⟩ := ck_e h
      refine s_La_transferable_101 l z E108 ad108 p1 v108_5 hx hb hml hts hown hlocks hA hG hZ mc ms (c0 + 2053) (s0 + 16581) (by omega) (by omega) 5000 _ _ ad108 E108 M108 0 1 t133 v133_7 v133_8 E133 M133 (by omega) (by omega) (fun _ _ => rfl) (Nat.le_refl _) g133 (fun ad133 hag133 hEE133 e133 H locs ls hP hD hS hl => ?_) H locs ls hP hD hS (lv_sub hl [3, 4, 7, 1, 0] rfl)
      have hag0 : ∀ i, i < nE E0 → ad133 i = ad0 i := fun i hi => (hag133 i (Nat.lt_of_lt_of_le hi hE0)).trans (hag0 i hi)
      have hE0 : nE E0 ≤ nE E133 := Nat.le_trans hE0 hgw133.1
      have hL : Lay E133 := hL133
      have h_p1 : isO 12 E133 p1 := isO_up hgw133 h_p1
      refine lv_iconst (v := oI 0) hx hb d_L5_185 (by decide +kernel) ?_
      refine lv_istore (lv' := [(8, .int (oI 0)), (0, .ref (ad133 1)), (1, .ref (ad133 p1)), (7, .int (oI v133_7))]) hx hb d_L5_186 hl (by decide) rfl (fun ls hl => ?_)
      obtain ⟨⟨t163, v163_7, v163_8, E163, M163⟩, g163, h⟩ := bd_e h
      obtain ⟨hgw163, h⟩ := ck_e h
      obtain ⟨hL163, h⟩ := ck_e h
      obtain ⟨ok163, h⟩ := ck_e h
      refine s_La_transferable_188 l z E133 ad133 p1 hx hb hml hts hown hlocks hA hG hZ mc ms (c0 + 2053) (s0 + 16581) (by omega) (by omega) 5000 _ _ ad133 E133 M133 v133_7 0 t163 v163_7 v163_8 E163 M163 (by omega) (by omega) (fun _ _ => rfl) (Nat.le_refl _) g163 (fun ad163 hag163 hEE163 e163 H locs ls hP hD hS hl => ?_) H locs ls hP hD hS (lv_sub hl [1, 2, 3, 0] rfl)
      have hag0 : ∀ i, i < nE E0 → ad163 i = ad0 i := fun i hi => (hag163 i (Nat.lt_of_lt_of_le hi hE0)).trans (hag0 i hi)
      have hE0 : nE E0 ≤ nE E163 := Nat.le_trans hE0 hgw163.1
      have hL : Lay E163 := hL163
      exact b_La_transferable_j335 l z E0 ad0 ad163 E163 M163 v163_7 r F N hx hb hml hts hown hlocks hA hG hZ hr mc ms _ _ c1 s1 (by omega) (by omega) hm hm2 hag0 hE0 h H locs ls hP hD hS (lv_sub hl [0, 1] rfl)
    · have h := ite_t ((oI_eq (a := r110) (b := ((r109 / ((1 + r100) + 1)) + 1)) ok113 ok114).mp c9) h
      refine lv_iload hx hb d_L5_68 (lv_at hl 4 rfl) ?_
      refine lv_iload_n hx hb d_L5_70 rfl (lv_at hl 3 rfl) ?_
      refine lv_aload_n hx hb d_L5_71 rfl (lv_at hl 2 rfl) ?_
      refine m_giN (C := "BallothallLaw$Box") (T := TX12) (N := 4) (ci := 12) (k := 0) hx hb hts iX12 hown hG hP h_p1.1 h_p1.2 rfl (by decide) n_775 rfl (fun _ h9 => h9) rfl rfl d_L5_72 ?_
      obtain ⟨ok169, h⟩ := ck_e h
      obtain ⟨ok170, h⟩ := ck_e h
      refine va_mmin hx hb (by rw [hml]; exact hl.1.symm) hown (hts _ w_1255) (hts _ w_521) (hts _ w_17) (hts _ w_min) (Nat.le_of_ble_eq_true rfl) (Nat.le_of_ble_eq_true rfl) (show _ ≤ mc by omega) (show _ ≤ ms by omega) d_L5_75 ?_
      refine nrm (mn_oI (a := (1 + r100)) (b := (M108 p1 0)) ok169 ok170) ?_
      obtain ⟨ok171, h⟩ := ck_e h
      refine lv_icmp_ne (tgt := 95) hx hb d_L5_78 (by decide) (fun c9 => ?_) (fun c9 => ?_)
      · have h := ite_f (fun q => c9 ((oI_eq (a := r101) (b := (min (1 + r100) (M108 p1 0))) ok171 (rg_min (x := (1 + r100)) (y := (M108 p1 0)) ok169 ok170)).mpr q)) h
        refine lv_iconst (v := oI 0) hx hb d_L5_95 (by decide +kernel) ?_
        refine lv_istore (lv' := [(7, .int (oI 0)), (6, .int (oI r109)), (0, .ref (ad108 1)), (1, .ref (ad108 p1)), (3, .int (oI (1 + r100))), (4, .int (oI r101)), (5, .int (oI v108_5))]) hx hb d_L5_96 hl (by decide) rfl (fun ls hl => ?_)
        refine lv_iconst (v := oI 1) hx hb d_L5_98 (by decide +kernel) ?_
        refine lv_istore (lv' := [(8, .int (oI 1)), (7, .int (oI 0)), (6, .int (oI r109)), (0, .ref (ad108 1)), (1, .ref (ad108 p1)), (3, .int (oI (1 + r100))), (4, .int (oI r101)), (5, .int (oI v108_5))]) hx hb d_L5_99 hl (by decide) rfl (fun ls hl => ?_)
        obtain ⟨⟨t172, v172_7, v172_8, E172, M172⟩, g172, h⟩ := bd_e h
        obtain ⟨hgw172, h⟩ := ck_e h
        obtain ⟨hL172, h⟩ := ck_e h
        obtain ⟨ok172, h⟩ := ck_e h
        refine s_La_transferable_101 l z E108 ad108 p1 v108_5 hx hb hml hts hown hlocks hA hG hZ mc ms (c0 + 2053) (s0 + 16581) (by omega) (by omega) 5000 _ _ ad108 E108 M108 0 1 t172 v172_7 v172_8 E172 M172 (by omega) (by omega) (fun _ _ => rfl) (Nat.le_refl _) g172 (fun ad172 hag172 hEE172 e172 H locs ls hP hD hS hl => ?_) H locs ls hP hD hS (lv_sub hl [3, 4, 7, 1, 0] rfl)
        have hag0 : ∀ i, i < nE E0 → ad172 i = ad0 i := fun i hi => (hag172 i (Nat.lt_of_lt_of_le hi hE0)).trans (hag0 i hi)
        have hE0 : nE E0 ≤ nE E172 := Nat.le_trans hE0 hgw172.1
        have hL : Lay E172 := hL172
        have h_p1 : isO 12 E172 p1 := isO_up hgw172 h_p1
        refine lv_iconst (v := oI 0) hx hb d_L5_185 (by decide +kernel) ?_
        refine lv_istore (lv' := [(8, .int (oI 0)), (0, .ref (ad172 1)), (1, .ref (ad172 p1)), (7, .int (oI v172_7))]) hx hb d_L5_186 hl (by decide) rfl (fun ls hl => ?_)
        obtain ⟨⟨t173, v173_7, v173_8, E173, M173⟩, g173, h⟩ := bd_e h
        obtain ⟨hgw173, h⟩ := ck_e h
        obtain ⟨hL173, h⟩ := ck_e h
        obtain ⟨ok173, h⟩ := ck_e h
        refine s_La_transferable_188 l z E172 ad172 p1 hx hb hml hts hown hlocks hA hG hZ mc ms (c0 + 2053) (s0 + 16581) (by omega) (by omega) 5000 _ _ ad172 E172 M172 v172_7 0 t173 v173_7 v173_8 E173 M173 (by omega) (by omega) (fun _ _ => rfl) (Nat.le_refl _) g173 (fun ad173 hag173 hEE173 e173 H locs ls hP hD hS hl => ?_) H locs ls hP hD hS (lv_sub hl [1, 2, 3, 0] rfl)
        have hag0 : ∀ i, i < nE E0 → ad173 i = ad0 i := fun i hi => (hag173 i (Nat.lt_of_lt_of_le hi hE0)).trans (hag0 i hi)
        have hE0 : nE E0 ≤ nE E173 := Nat.le_trans hE0 hgw173.1
        have hL : Lay E173 := hL173
        exact b_La_transferable_j335 l z E0 ad0 ad173 E173 M173 v173_7 r F N hx hb hml hts hown hlocks hA hG hZ hr mc ms _ _ c1 s1 (by omega) (by omega) hm hm2 hag0 hE0 h H locs ls hP hD hS (lv_sub hl [0, 1] rfl)
      · have h := ite_t ((oI_eq (a := r101) (b := (min (1 + r100) (M108 p1 0))) ok171 (rg_min (x := (1 + r100)) (y := (M108 p1 0)) ok169 ok170)).mp c9) h
        refine lv_iload hx hb d_L5_81 (lv_at hl 5 rfl) ?_
        obtain ⟨r174, g174, h⟩ := bd_e h
        refine kS (As := [.int (oI v108_5)]) (rest := []) (s_In_bitCount l z ad108 E108 M108 v108_5 r174 hL g174) hx hb hml hown hts w_657 w_1256 w_656 w_30 md_eafe8c ⟨Nat.le_of_ble_eq_true rfl, Nat.le_of_ble_eq_true rfl⟩ hG hZ hP hD hS hA rfl hl.1 rfl (Nat.le_of_ble_eq_true rfl) d_L5_83 ⟨(show _ ≤ mc by omega), (show _ ≤ ms by omega)⟩ (fun _ H locs hP hD hS => ?_)
        have hP : va_P z.1 classes (wv z ad108 E108 M108) H := hP
        have hD : va_D A (wv z ad108 E108 M108) := hD
        refine W.eq (g2 := F0 m 86 ls [.int (oI r174)]) rfl ?_
        refine lv_iload hx hb d_L5_86 (lv_at hl 4 rfl) ?_
        obtain ⟨ok175, h⟩ := ck_e h
        refine lv_icmp_ne (tgt := 95) hx hb d_L5_88 (by decide) (fun c9 => ?_) (fun c9 => ?_)
        · have h := ite_f (fun q => c9 ((oI_eq (a := r174) (b := r101) ok175 ok171).mpr q)) h
          refine lv_iconst (v := oI 0) hx hb d_L5_95 (by decide +kernel) ?_
          refine lv_istore (lv' := [(7, .int (oI 0)), (6, .int (oI r109)), (0, .ref (ad108 1)), (1, .ref (ad108 p1)), (3, .int (oI (1 + r100))), (4, .int (oI r101)), (5, .int (oI v108_5))]) hx hb d_L5_96 hl (by decide) rfl (fun ls hl => ?_)
          refine lv_iconst (v := oI 1) hx hb d_L5_98 (by decide +kernel) ?_
          refine lv_istore (lv' := [(8, .int (oI 1)), (7, .int (oI 0)), (6, .int (oI r109)), (0, .ref (ad108 1)), (1, .ref (ad108 p1)), (3, .int (oI (1 + r100))), (4, .int (oI r101)), (5, .int (oI v108_5))]) hx hb d_L5_99 hl (by decide) rfl (fun ls hl => ?_)
          obtain ⟨⟨t176, v176_7, v176_8, E176, M176⟩, g176, h⟩ := bd_e h
          obtain ⟨hgw176, h⟩ := ck_e h
          obtain ⟨hL176, h⟩ := ck_e h
          obtain ⟨ok176, h⟩ := ck_e h
          refine s_La_transferable_101 l z E108 ad108 p1 v108_5 hx hb hml hts hown hlocks hA hG hZ mc ms (c0 + 2053) (s0 + 16581) (by omega) (by omega) 5000 _ _ ad108 E108 M108 0 1 t176 v176_7 v176_8 E176 M176 (by omega) (by omega) (fun _ _ => rfl) (Nat.le_refl _) g176 (fun ad176 hag176 hEE176 e176 H locs ls hP hD hS hl => ?_) H locs ls hP hD hS (lv_sub hl [3, 4, 7, 1, 0] rfl)
          have hag0 : ∀ i, i < nE E0 → ad176 i = ad0 i := fun i hi => (hag176 i (Nat.lt_of_lt_of_le hi hE0)).trans (hag0 i hi)
          have hE0 : nE E0 ≤ nE E176 := Nat.le_trans hE0 hgw176.1
          have hL : Lay E176 := hL176
          have h_p1 : isO 12 E176 p1 := isO_up hgw176 h_p1
          refine lv_iconst (v := oI 0) hx hb d_L5_185 (by decide +kernel) ?_
          refine lv_istore (lv' := [(8, .int (oI 0)), (0, .ref (ad176 1)), (1, .ref (ad176 p1)), (7, .int (oI v176_7))]) hx hb d_L5_186 hl (by decide) rfl (fun ls hl => ?_)
          obtain ⟨⟨t177, v177_7, v177_8, E177, M177⟩, g177, h⟩ := bd_e h
          obtain ⟨hgw177, h⟩ := ck_e h
          obtain ⟨hL177, h⟩ := ck_e h
          obtain ⟨ok177, h⟩ := ck_e h
          refine s_La_transferable_188 l z E176 ad176 p1 hx hb hml hts hown hlocks hA hG hZ mc ms (c0 + 2053) (s0 + 16581) (by omega) (by omega) 5000 _ _ ad176 E176 M176 v176_7 0 t177 v177_7 v177_8 E177 M177 (by omega) (by omega) (fun _ _ => rfl) (Nat.le_refl _) g177 (fun ad177 hag177 hEE177 e177 H locs ls hP hD hS hl => ?_) H locs ls hP hD hS (lv_sub hl [1, 2, 3, 0] rfl)
          have hag0 : ∀ i, i < nE E0 → ad177 i = ad0 i := fun i hi => (hag177 i (Nat.lt_of_lt_of_le hi hE0)).trans (hag0 i hi)
          have hE0 : nE E0 ≤ nE E177 := Nat.le_trans hE0 hgw177.1
          have hL : Lay E177 := hL177
          exact b_La_transferable_j335 l z E0 ad0 ad177 E177 M177 v177_7 r F N hx hb hml hts hown hlocks hA hG hZ hr mc ms _ _ c1 s1 (by omega) (by omega) hm hm2 hag0 hE0 h H locs ls hP hD hS (lv_sub hl [0, 1] rfl)
        · have h := ite_t ((oI_eq (a := r174) (b := r101) ok175 ok171).mp c9) h
          refine lv_iconst (v := oI 1) hx hb d_L5_91 (by decide +kernel) ?_
          refine lv_goto (tgt := 96) hx hb d_L5_92 (by decide) ?_
          refine lv_istore (lv' := [(7, .int (oI 1)), (6, .int (oI r109)), (0, .ref (ad108 1)), (1, .ref (ad108 p1)), (3, .int (oI (1 + r100))), (4, .int (oI r101)), (5, .int (oI v108_5))]) hx hb d_L5_96 hl (by decide) rfl (fun ls hl => ?_)
          refine lv_iconst (v := oI 1) hx hb d_L5_98 (by decide +kernel) ?_
          refine lv_istore (lv' := [(8, .int (oI 1)), (7, .int (oI 1)), (6, .int (oI r109)), (0, .ref (ad108 1)), (1, .ref (ad108 p1)), (3, .int (oI (1 + r100))), (4, .int (oI r101)), (5, .int (oI v108_5))]) hx hb d_L5_99 hl (by decide) rfl (fun ls hl => ?_)
          obtain ⟨⟨t178, v178_7, v178_8, E178, M178⟩, g178, h⟩ := bd_e h
          obtain ⟨hgw178, h⟩ := ck_e h
          obtain ⟨hL178, h⟩ := ck_e h
          obtain ⟨ok178, h⟩ := ck_e h
          refine s_La_transferable_101 l z E108 ad108 p1 v108_5 hx hb hml hts hown hlocks hA hG hZ mc ms (c0 + 2053) (s0 + 16581) (by omega) (by omega) 5000 _ _ ad108 E108 M108 1 1 t178 v178_7 v178_8 E178 M178 (by omega) (by omega) (fun _ _ => rfl) (Nat.le_refl _) g178 (fun ad178 hag178 hEE178 e178 H locs ls hP hD hS hl => ?_) H locs ls hP hD hS (lv_sub hl [3, 4, 7, 1, 0] rfl)
          have hag0 : ∀ i, i < nE E0 → ad178 i = ad0 i := fun i hi => (hag178 i (Nat.lt_of_lt_of_le hi hE0)).trans (hag0 i hi)
          have hE0 : nE E0 ≤ nE E178 := Nat.le_trans hE0 hgw178.1
          have hL : Lay E178 := hL178
          have h_p1 : isO 12 E178 p1 := isO_up hgw178 h_p1
          refine lv_iconst (v := oI 0) hx hb d_L5_185 (by decide +kernel) ?_
          refine lv_istore (lv' := [(8, .int (oI 0)), (0, .ref (ad178 1)), (1, .ref (ad178 p1)), (7, .int (oI v178_7))]) hx hb d_L5_186 hl (by decide) rfl (fun ls hl => ?_)
          obtain ⟨⟨t179, v179_7, v179_8, E179, M179⟩, g179, h⟩ := bd_e h
          obtain ⟨hgw179, h⟩ := ck_e h
          obtain ⟨hL179, h⟩ := ck_e h
          obtain ⟨ok179, h⟩ := ck_e h
          refine s_La_transferable_188 l z E178 ad178 p1 hx hb hml hts hown hlocks hA hG hZ mc ms (c0 + 2053) (s0 + 16581) (by omega) (by omega) 5000 _ _ ad178 E178 M178 v178_7 0 t179 v179_7 v179_8 E179 M179 (by omega) (by omega) (fun _ _ => rfl) (Nat.le_refl _) g179 (fun ad179 hag179 hEE179 e179 H locs ls hP hD hS hl => ?_) H locs ls hP hD hS (lv_sub hl [1, 2, 3, 0] rfl)
          have hag0 : ∀ i, i < nE E0 → ad179 i = ad0 i := fun i hi => (hag179 i (Nat.lt_of_lt_of_le hi hE0)).trans (hag0 i hi)
          have hE0 : nE E0 ≤ nE E179 := Nat.le_trans hE0 hgw179.1
          have hL : Lay E179 := hL179
          exact b_La_transferable_j335 l z E0 ad0 ad179 E179 M179 v179_7 r F N hx hb hml hts hown hlocks hA hG hZ hr mc ms _ _ c1 s1 (by omega) (by omega) hm hm2 hag0 hE0 h H locs ls hP hD hS (lv_sub hl [0, 1] rfl)
  exact key E ad 2053 16581 0 0 2053 16581 _ _ _ (by decide) (by decide) (by decide) (by decide) (fun _ _ => rfl) (Nat.le_refl _) hts hP hS
set_option maxRecDepth 100000 in
set_option maxHeartbeats 4000000 in
theorem s_Bx_soleTopOf (l : Launch) (z : Zz) (ad : Nat → Nat) (E : Ev) (M : Mm) (x1 : Int) (x2 : Int) (r : Int)  (hL : Lay E) (h : f_Bx_soleTopOf E M x1 x2 = some r) : CT l z ⟨"Ballothall$BallotBox", "soleTopOf", "(II)I"⟩ prog_2_method_14_code 4 (some .int) [.ref (ad 2), .int (oI x1), .int (oI x2)] (wv z ad E M) 1 44 0 0 (fun _ => some (.int (oI r))) (fun _ => (wv z ad E M)) := by
  refine CT.of (own := "Ballothall$BallotBox") (by decide +kernel) (Nat.le_of_ble_eq_true rfl) rfl (fun p e s m below meth c A ls hx hb hml hr hts hown hlocks hin hA hG hZ hP hD hS hl => ?_)
  have hl : lv_has ls 4 [(0, .ref (ad 2)), (1, .int (oI x1)), (2, .int (oI x2))] := hl
  have key : ∀ (H : Heap) (locs : List Loc) (args : Array Value), (∀ w ∈ WG, w.before args s = true) → va_P z.1 classes (wv z ad E M) H → va_S A s.heap H locs → W p l e (rmK 1 44 0 0) s m args below meth c H locs 0 0 (MQ below (QK z A (fun _ => some (.int (oI r))) (fun _ => (wv z ad E M))) args s 0 0 A) (F0 m 0 ls []) := by
    intro H locs args hts hP hS
    unfold f_Bx_soleTopOf at h
    refine lv_aload_n hx hb d_2_14_0 rfl (lv_at hl 0 rfl) ?_
    refine lv_iload_n hx hb d_2_14_1 rfl (lv_at hl 1 rfl) ?_
    refine lv_iload_n hx hb d_2_14_2 rfl (lv_at hl 2 rfl) ?_
    obtain ⟨r100, g100, h⟩ := bd_e h
    refine kV (As := [.int (oI x1), .int (oI x2)]) (rest := []) (s_Bx_topOf l z ad E M x1 x2 r100 hL g100) hx hb hml hown hts w_685 w_682 w_684 w_s_b213f0 w_2 md_ddec8b ⟨Nat.le_of_ble_eq_true rfl, Nat.le_of_ble_eq_true rfl⟩ hG hZ hP hD hS hA 2 (wv_o (ci := 0) (yi_2 hL) (yt_2 hL)) rfl rfl rfl hl.1 rfl (Nat.le_of_ble_eq_true rfl) d_2_14_3 ⟨Nat.le_of_ble_eq_true rfl, Nat.le_of_ble_eq_true rfl⟩ (fun _ H locs hP hD hS => ?_)
    have hP : va_P z.1 classes (wv z ad E M) H := hP
    have hD : va_D A (wv z ad E M) := hD
    refine W.eq (g2 := F0 m 6 ls [.int (oI r100)]) rfl ?_
    refine lv_istore_n (lv' := [(3, .int (oI r100)), (0, .ref (ad 2)), (1, .int (oI x1)), (2, .int (oI x2))]) hx hb d_2_14_6 rfl hl (by decide) rfl (fun ls hl => ?_)
    refine lv_iload_n hx hb d_2_14_7 rfl (lv_at hl 0 rfl) ?_
    obtain ⟨r101, g101, h⟩ := bd_e h
    refine kS (As := [.int (oI r100)]) (rest := []) (s_In_bitCount l z ad E M r100 r101 hL g101) hx hb hml hown hts w_657 w_686 w_656 w_30 md_eafe8c ⟨Nat.le_of_ble_eq_true rfl, Nat.le_of_ble_eq_true rfl⟩ hG hZ hP hD hS hA rfl hl.1 rfl (Nat.le_of_ble_eq_true rfl) d_2_14_8 ⟨Nat.le_of_ble_eq_true rfl, Nat.le_of_ble_eq_true rfl⟩ (fun _ H locs hP hD hS => ?_)
    have hP : va_P z.1 classes (wv z ad E M) H := hP
    have hD : va_D A (wv z ad E M) := hD
    refine W.eq (g2 := F0 m 11 ls [.int (oI r101)]) rfl ?_
    refine lv_iconst (v := oI 1) hx hb d_2_14_11 (by decide +kernel) ?_
    obtain ⟨ok102, h⟩ := ck_e h
    refine lv_icmp_ne (tgt := 24) hx hb d_2_14_12 (by decide) (fun c9 => ?_) (fun c9 => ?_)
    · have h := ite_f (fun q => c9 ((oI_eq (a := r101) (b := (1 : Int)) ok102 (by decide)).mpr q)) h
      refine lv_iconst (v := oI (-1)) hx hb d_2_14_24 (by decide +kernel) ?_
      obtain rfl := in1 h
      exact W.iret hx hb hr (fun t ht hW => qkA hP hD hS (fun k => k) rfl rfl ht) hS.2.2 d_2_14_25
    · have h := ite_t ((oI_eq (a := r101) (b := (1 : Int)) ok102 (by decide)).mp c9) h
      refine lv_iload_n hx hb d_2_14_15 rfl (lv_at hl 0 rfl) ?_
      refine lv_iconst (v := oI 1) hx hb d_2_14_16 (by decide +kernel) ?_
      refine lv_isub hx hb d_2_14_17 ?_
      refine nrm (oI_sub _ _) ?_
      obtain ⟨r103, g103, h⟩ := bd_e h
      refine kS (As := [.int (oI (r100 - 1))]) (rest := []) (s_In_bitCount l z ad E M (r100 - 1) r103 hL g103) hx hb hml hown hts w_657 w_686 w_656 w_30 md_eafe8c ⟨Nat.le_of_ble_eq_true rfl, Nat.le_of_ble_eq_true rfl⟩ hG hZ hP hD hS hA rfl hl.1 rfl (Nat.le_of_ble_eq_true rfl) d_2_14_18 ⟨Nat.le_of_ble_eq_true rfl, Nat.le_of_ble_eq_true rfl⟩ (fun _ H locs hP hD hS => ?_)
      have hP : va_P z.1 classes (wv z ad E M) H := hP
      have hD : va_D A (wv z ad E M) := hD
      refine W.eq (g2 := F0 m 21 ls [.int (oI r103)]) rfl ?_
      refine lv_goto (tgt := 25) hx hb d_2_14_21 (by decide) ?_
      obtain rfl := in1 h
      exact W.iret hx hb hr (fun t ht hW => qkA hP hD hS (fun k => k) rfl rfl ht) hS.2.2 d_2_14_25
  exact key _ _ _ hts hP hS
set_option maxRecDepth 100000 in
set_option maxHeartbeats 4000000 in
theorem b_Po_changePairs_27b (l : Launch) (z : Zz) (ad : Nat → Nat) (E : Ev) (M : Mm) (x1 : Int) (x2 : Int) (x3 : Int) (x4 : Int) (x5 : Int) (t : Nat) (w5 : Int) (N : Mm) {Q : State → Prop} {p : Program} {e : Env} {s : State} {m : MethodId} {below : List Frame} {meth : Method} {c : Code} {A : Nat → Prop} {args : Array Value} (hx : p.tables.exec = Jvm.exec) (hb : c.code = prog_11_method_4_code) (hml : c.maxLocals = 6) (hts : ∀ w ∈ WG, w.before args s = true) (hown : s.vm.findClass "Ballothall$Poll" = some m.cls) (hlocks : meth.locks = false) (hA : ∀ q, s.heap.size ≤ q → A q) (hG : KG z s) (hZ : FZ z A s) (hL : Lay E) (h : Po_changePairs_27b E M x1 x2 x3 x4 x5 = some (t, w5, N)) (k0 : t = 0 → ∀ (H : Heap) (locs : List Loc) (ls : Array Slot), va_P z.1 classes (wv z ad E N) H → va_D A (wv z ad E N) → va_S A s.heap H locs → lv_has ls 6 [(0, .ref (ad 41)), (1, .int (oI x1)), (2, .int (oI x2)), (3, .int (oI x3)), (4, .int (oI x4)), (5, .int (oI w5))] → W p l e (rmK 1 41 0 0) s m args below meth c H locs 0 0 Q (F0 m 27 ls [])) (k1 : t = 1 → ∀ (H : Heap) (locs : List Loc) (ls : Array Slot), va_P z.1 classes (wv z ad E N) H → va_D A (wv z ad E N) → va_S A s.heap H locs → lv_has ls 6 [(0, .ref (ad 41)), (1, .int (oI x1)), (2, .int (oI x2)), (3, .int (oI x3)), (4, .int (oI x4))] → W p l e (rmK 1 41 0 0) s m args below meth c H locs 0 0 Q (F0 m 71 ls [])) : ∀ (H : Heap) (locs : List Loc) (ls : Array Slot), va_P z.1 classes (wv z ad E M) H → va_D A (wv z ad E M) → va_S A s.heap H locs → lv_has ls 6 [(0, .ref (ad 41)), (1, .int (oI x1)), (2, .int (oI x2)), (3, .int (oI x3)), (4, .int (oI x4)), (5, .int (oI x5))] → W p l e (rmK 1 41 0 0) s m args below meth c H locs 0 0 Q (F0 m 27 ls []) := by
  intro H locs ls hP hD hS hl
  unfold Po_changePairs_27b at h
  refine lv_iload hx hb d_11_4_27 (lv_at hl 5 rfl) ?_
  refine lv_aload_n hx hb d_11_4_29 rfl (lv_at hl 0 rfl) ?_
  refine m_gr (j := 2) (C := "Ballothall$Poll") (T := TX9) (N := 12) (ci := 9) (k := 0) hx hb hts iX9 hown hG hP (yi_41 hL) (yt_41 hL) rfl (by decide) w_107 (fun _ h9 => h9) rfl rfl (yr_41_0 hL) d_11_4_30 ?_
  refine m_giN (C := "Ballothall$BallotBox") (T := TX0) (N := 10) (ci := 0) (k := 2) hx hb hts iX0 hown hG hP (yi_2 hL) (yt_2 hL) rfl (by decide) n_53 rfl (fun _ h9 => h9) rfl rfl d_11_4_33 ?_
  obtain ⟨ok104, h⟩ := ck_e h
  obtain ⟨ok105, h⟩ := ck_e h
  refine lv_icmp_ge (tgt := 71) hx hb d_11_4_36 (by decide) (fun c9 => ?_) (fun c9 => ?_)
  · have h := ite_t ((oI_le (a := (M 2 2)) (b := x5) ok105 ok104).mp c9) h
    obtain ⟨rfl, rfl, rfl⟩ := in3 h
    exact k1 rfl H locs ls hP hD hS (lv_sub hl [0, 1, 2, 3, 4] rfl)
  · have h := ite_f (fun q => c9 ((oI_le (a := (M 2 2)) (b := x5) ok105 ok104).mpr q)) h
    refine lv_iload_n hx hb d_11_4_39 rfl (lv_at hl 2 rfl) ?_
    refine lv_iload hx hb d_11_4_40 (lv_at hl 5 rfl) ?_
    obtain ⟨r106, g106, h⟩ := bd_e h
    refine kSN (As := [.int (oI x2), .int (oI x5)]) (rest := []) (s_B_has l z ad E M x2 x5 r106 hL g106) hx hb hml hown hts w_693 n_691 w_692 w_1 md_26545c ⟨Nat.le_of_ble_eq_true rfl, Nat.le_of_ble_eq_true rfl⟩ hG hZ hP hD hS hA rfl hl.1 rfl (Nat.le_of_ble_eq_true rfl) d_11_4_42 ⟨Nat.le_of_ble_eq_true rfl, Nat.le_of_ble_eq_true rfl⟩ (fun _ H locs hP hD hS => ?_)
    have hP : va_P z.1 classes (wv z ad E M) H := hP
    have hD : va_D A (wv z ad E M) := hD
    refine W.eq (g2 := F0 m 45 ls [.int (oI r106)]) rfl ?_
    obtain ⟨ok107, h⟩ := ck_e h
    refine lv_if_eq (tgt := 65) hx hb d_11_4_45 (by decide) (fun c9 => ?_) (fun c9 => ?_)
    · have h := ite_t ((oI_eq0 ok107).mp c9) h
      refine lv_iinc (v := oI (x5 + 1)) (lv' := [(5, .int (oI (x5 + 1))), (0, .ref (ad 41)), (1, .int (oI x1)), (2, .int (oI x2)), (3, .int (oI x3)), (4, .int (oI x4))]) hx hb d_11_4_65 hl (k := 5) rfl (oI_add x5 1) (by decide) rfl (fun ls hl => ?_)
      refine lv_goto (tgt := 27) hx hb d_11_4_68 (by decide) ?_
      obtain ⟨rfl, rfl, rfl⟩ := in3 h
      exact k0 rfl H locs ls hP hD hS (lv_sub hl [1, 2, 3, 4, 5, 0] rfl)
    · have h := ite_f (fun q => c9 ((oI_eq0 ok107).mpr q)) h
      refine lv_aload_n hx hb d_11_4_48 rfl (lv_at hl 0 rfl) ?_
      refine m_gr (j := 45) (C := "Ballothall$Poll") (T := TX9) (N := 12) (ci := 9) (k := 6) hx hb hts iX9 hown hG hP (yi_41 hL) (yt_41 hL) rfl (by decide) w_113 (fun _ h9 => h9) rfl rfl (yr_41_6 hL) d_11_4_49 ?_
      refine lv_iload hx hb d_11_4_52 (lv_at hl 4 rfl) ?_
      refine lv_bipush (v := oI 8) hx hb d_11_4_54 (by decide +kernel) ?_
      refine lv_imul hx hb d_11_4_56 ?_
      refine nrm (oI_mul _ _) ?_
      refine lv_iload hx hb d_11_4_57 (lv_at hl 5 rfl) ?_
      refine lv_iadd hx hb d_11_4_59 ?_
      refine nrm (oI_add _ _) ?_
      refine lv_dup2_11 hx hb d_11_4_60 rfl rfl ?_
      obtain ⟨ok108, h⟩ := ck_e h
      refine m_ia hx hb hG hP (yi_45 hL) (yt_45 hL) ok108 d_11_4_61 ?_
      refine lv_iload_n hx hb d_11_4_62 rfl (lv_at hl 3 rfl) ?_
      refine lv_iadd hx hb d_11_4_63 ?_
      refine nrm (oI_add _ _) ?_
      obtain ⟨v109, e109, h⟩ := nb_e h
      refine nrm (congrArg oI e109.symm) ?_
      refine m_is hx hb hG hP hD hS (yi_45 hL) (yt_45 hL) ok108 d_11_4_64 (fun H locs hP hD hS => ?_)
      have hP : va_P z.1 classes (wv z ad E (u2 M 45 ((x4 * 8) + x5).toNat v109)) H := hP
      have hD : va_D A (wv z ad E (u2 M 45 ((x4 * 8) + x5).toNat v109)) := hD
      refine lv_iinc (v := oI (x5 + 1)) (lv' := [(5, .int (oI (x5 + 1))), (0, .ref (ad 41)), (1, .int (oI x1)), (2, .int (oI x2)), (3, .int (oI x3)), (4, .int (oI x4))]) hx hb d_11_4_65 hl (k := 5) rfl (oI_add x5 1) (by decide) rfl (fun ls hl => ?_)
      refine lv_goto (tgt := 27) hx hb d_11_4_68 (by decide) ?_
      obtain ⟨rfl, rfl, rfl⟩ := in3 h
      exact k0 rfl H locs ls hP hD hS (lv_sub hl [1, 2, 3, 4, 5, 0] rfl)
set_option maxRecDepth 100000 in
set_option maxHeartbeats 4000000 in
theorem s_Po_changePairs_27 (l : Launch) (z : Zz) (ad : Nat → Nat) (E : Ev) (x1 : Int) (x2 : Int) (x3 : Int) (x4 : Int) {Q : State → Prop} {p : Program} {e : Env} {s : State} {m : MethodId} {below : List Frame} {meth : Method} {c : Code} {A : Nat → Prop} {args : Array Value} (hx : p.tables.exec = Jvm.exec) (hb : c.code = prog_11_method_4_code) (hml : c.maxLocals = 6) (hts : ∀ w ∈ WG, w.before args s = true) (hown : s.vm.findClass "Ballothall$Poll" = some m.cls) (hlocks : meth.locks = false) (hA : ∀ q, s.heap.size ≤ q → A q) (hG : KG z s) (hZ : FZ z A s) (hL : Lay E) : ∀ (fu : Nat) (M : Mm) (x5 : Int) (t : Nat) (w5 : Int) (N : Mm), l_Po_changePairs_27 E x1 x2 x3 x4 fu M x5 = some (t, w5, N) → (t = 1 → ∀ (H : Heap) (locs : List Loc) (ls : Array Slot), va_P z.1 classes (wv z ad E N) H → va_D A (wv z ad E N) → va_S A s.heap H locs → lv_has ls 6 [(0, .ref (ad 41)), (1, .int (oI x1)), (2, .int (oI x2)), (3, .int (oI x3)), (4, .int (oI x4))] → W p l e (rmK 1 41 0 0) s m args below meth c H locs 0 0 Q (F0 m 71 ls [])) → ∀ (H : Heap) (locs : List Loc) (ls : Array Slot), va_P z.1 classes (wv z ad E M) H → va_D A (wv z ad E M) → va_S A s.heap H locs → lv_has ls 6 [(0, .ref (ad 41)), (1, .int (oI x1)), (2, .int (oI x2)), (3, .int (oI x3)), (4, .int (oI x4)), (5, .int (oI x5))] → W p l e (rmK 1 41 0 0) s m args below meth c H locs 0 0 Q (F0 m 27 ls []) := by
  intro fu
  induction fu with
  | zero =>
    intro M x5 t w5 N h
    have h : (none : Option (Nat × Int × Mm)) = some _ := h
    cases h
  | succ fu ih =>
    intro M x5 t w5 N h k1 H locs ls hP hD hS hl
    obtain ⟨⟨t0, w50, N9⟩, g0, h⟩ := bd_e h
    refine b_Po_changePairs_27b l z ad E M x1 x2 x3 x4 x5 t0 w50 N9 hx hb hml hts hown hlocks hA hG hZ hL g0 (fun e0 => ?_) (fun e0 => ?_) H locs ls hP hD hS hl
    · subst e0
      have h := ite_t rfl h
      exact ih N9 w50 t w5 N h k1
    · subst e0
      have h := ite_f (by decide) h
      obtain ⟨rfl, rfl, rfl⟩ := in3 h
      exact k1 rfl
set_option maxRecDepth 100000 in
set_option maxHeartbeats 4000000 in
theorem b_Po_changePairs_3b (l : Launch) (z : Zz) (ad : Nat → Nat) (E : Ev) (M : Mm) (x1 : Int) (x2 : Int) (x3 : Int) (x4 : Int) (t : Nat) (w4 : Int) (N : Mm) {Q : State → Prop} {p : Program} {e : Env} {s : State} {m : MethodId} {below : List Frame} {meth : Method} {c : Code} {A : Nat → Prop} {args : Array Value} (hx : p.tables.exec = Jvm.exec) (hb : c.code = prog_11_method_4_code) (hml : c.maxLocals = 6) (hts : ∀ w ∈ WG, w.before args s = true) (hown : s.vm.findClass "Ballothall$Poll" = some m.cls) (hlocks : meth.locks = false) (hA : ∀ q, s.heap.size ≤ q → A q) (hG : KG z s) (hZ : FZ z A s) (hL : Lay E) (h : Po_changePairs_3b E M x1 x2 x3 x4 = some (t, w4, N)) (k0 : t = 0 → ∀ (H : Heap) (locs : List Loc) (ls : Array Slot), va_P z.1 classes (wv z ad E N) H → va_D A (wv z ad E N) → va_S A s.heap H locs → lv_has ls 6 [(0, .ref (ad 41)), (1, .int (oI x1)), (2, .int (oI x2)), (3, .int (oI x3)), (4, .int (oI w4))] → W p l e (rmK 1 41 0 0) s m args below meth c H locs 0 0 Q (F0 m 3 ls [])) (k1 : t = 1 → ∀ (H : Heap) (locs : List Loc) (ls : Array Slot), va_P z.1 classes (wv z ad E N) H → va_D A (wv z ad E N) → va_S A s.heap H locs → lv_has ls 6 [] → W p l e (rmK 1 41 0 0) s m args below meth c H locs 0 0 Q (F0 m 77 ls [])) : ∀ (H : Heap) (locs : List Loc) (ls : Array Slot), va_P z.1 classes (wv z ad E M) H → va_D A (wv z ad E M) → va_S A s.heap H locs → lv_has ls 6 [(0, .ref (ad 41)), (1, .int (oI x1)), (2, .int (oI x2)), (3, .int (oI x3)), (4, .int (oI x4))] → W p l e (rmK 1 41 0 0) s m args below meth c H locs 0 0 Q (F0 m 3 ls []) := by
  intro H locs ls hP hD hS hl
  unfold Po_changePairs_3b at h
  refine lv_iload hx hb d_11_4_3 (lv_at hl 4 rfl) ?_
  refine lv_aload_n hx hb d_11_4_5 rfl (lv_at hl 0 rfl) ?_
  refine m_gr (j := 2) (C := "Ballothall$Poll") (T := TX9) (N := 12) (ci := 9) (k := 0) hx hb hts iX9 hown hG hP (yi_41 hL) (yt_41 hL) rfl (by decide) w_107 (fun _ h9 => h9) rfl rfl (yr_41_0 hL) d_11_4_6 ?_
  refine m_giN (C := "Ballothall$BallotBox") (T := TX0) (N := 10) (ci := 0) (k := 2) hx hb hts iX0 hown hG hP (yi_2 hL) (yt_2 hL) rfl (by decide) n_53 rfl (fun _ h9 => h9) rfl rfl d_11_4_9 ?_
  obtain ⟨ok100, h⟩ := ck_e h
  obtain ⟨ok101, h⟩ := ck_e h
  refine lv_icmp_ge (tgt := 77) hx hb d_11_4_12 (by decide) (fun c9 => ?_) (fun c9 => ?_)
  · have h := ite_t ((oI_le (a := (M 2 2)) (b := x4) ok101 ok100).mp c9) h
    obtain ⟨rfl, rfl, rfl⟩ := in3 h
    exact k1 rfl H locs ls hP hD hS (lv_sub hl [] rfl)
  · have h := ite_f (fun q => c9 ((oI_le (a := (M 2 2)) (b := x4) ok101 ok100).mpr q)) h
    refine lv_iload_n hx hb d_11_4_15 rfl (lv_at hl 1 rfl) ?_
    refine lv_iload hx hb d_11_4_16 (lv_at hl 4 rfl) ?_
    obtain ⟨r102, g102, h⟩ := bd_e h
    refine kSN (As := [.int (oI x1), .int (oI x4)]) (rest := []) (s_B_has l z ad E M x1 x4 r102 hL g102) hx hb hml hown hts w_693 n_691 w_692 w_1 md_26545c ⟨Nat.le_of_ble_eq_true rfl, Nat.le_of_ble_eq_true rfl⟩ hG hZ hP hD hS hA rfl hl.1 rfl (Nat.le_of_ble_eq_true rfl) d_11_4_18 ⟨Nat.le_of_ble_eq_true rfl, Nat.le_of_ble_eq_true rfl⟩ (fun _ H locs hP hD hS => ?_)
    have hP : va_P z.1 classes (wv z ad E M) H := hP
    have hD : va_D A (wv z ad E M) := hD
    refine W.eq (g2 := F0 m 21 ls [.int (oI r102)]) rfl ?_
    obtain ⟨ok103, h⟩ := ck_e h
    refine lv_if_eq (tgt := 71) hx hb d_11_4_21 (by decide) (fun c9 => ?_) (fun c9 => ?_)
    · have h := ite_t ((oI_eq0 ok103).mp c9) h
      refine lv_iinc (v := oI (x4 + 1)) (lv' := [(4, .int (oI (x4 + 1))), (0, .ref (ad 41)), (1, .int (oI x1)), (2, .int (oI x2)), (3, .int (oI x3))]) hx hb d_11_4_71 hl (k := 4) rfl (oI_add x4 1) (by decide) rfl (fun ls hl => ?_)
      refine lv_goto (tgt := 3) hx hb d_11_4_74 (by decide) ?_
      obtain ⟨rfl, rfl, rfl⟩ := in3 h
      exact k0 rfl H locs ls hP hD hS (lv_sub hl [1, 2, 3, 4, 0] rfl)
    · have h := ite_f (fun q => c9 ((oI_eq0 ok103).mpr q)) h
      refine lv_iconst (v := oI 0) hx hb d_11_4_24 (by decide +kernel) ?_
      refine lv_istore (lv' := [(5, .int (oI 0)), (0, .ref (ad 41)), (1, .int (oI x1)), (2, .int (oI x2)), (3, .int (oI x3)), (4, .int (oI x4))]) hx hb d_11_4_25 hl (by decide) rfl (fun ls hl => ?_)
      obtain ⟨⟨t110, v110_5, M110⟩, g110, h⟩ := bd_e h
      obtain ⟨ok110, h⟩ := ck_e h
      refine s_Po_changePairs_27 l z ad E x1 x2 x3 x4 hx hb hml hts hown hlocks hA hG hZ hL FU M 0 t110 v110_5 M110 g110 (fun e110 H locs ls hP hD hS hl => ?_) H locs ls hP hD hS (lv_sub hl [1, 2, 3, 4, 5, 0] rfl)
      refine lv_iinc (v := oI (x4 + 1)) (lv' := [(4, .int (oI (x4 + 1))), (0, .ref (ad 41)), (1, .int (oI x1)), (2, .int (oI x2)), (3, .int (oI x3))]) hx hb d_11_4_71 hl (k := 4) rfl (oI_add x4 1) (by decide) rfl (fun ls hl => ?_)
      refine lv_goto (tgt := 3) hx hb d_11_4_74 (by decide) ?_
      obtain ⟨rfl, rfl, rfl⟩ := in3 h
      exact k0 rfl H locs ls hP hD hS (lv_sub hl [1, 2, 3, 4, 0] rfl)
set_option maxRecDepth 100000 in
set_option maxHeartbeats 4000000 in
theorem s_Po_changePairs_3 (l : Launch) (z : Zz) (ad : Nat → Nat) (E : Ev) (x1 : Int) (x2 : Int) (x3 : Int) {Q : State → Prop} {p : Program} {e : Env} {s : State} {m : MethodId} {below : List Frame} {meth : Method} {c : Code} {A : Nat → Prop} {args : Array Value} (hx : p.tables.exec = Jvm.exec) (hb : c.code = prog_11_method_4_code) (hml : c.maxLocals = 6) (hts : ∀ w ∈ WG, w.before args s = true) (hown : s.vm.findClass "Ballothall$Poll" = some m.cls) (hlocks : meth.locks = false) (hA : ∀ q, s.heap.size ≤ q → A q) (hG : KG z s) (hZ : FZ z A s) (hL : Lay E) : ∀ (fu : Nat) (M : Mm) (x4 : Int) (t : Nat) (w4 : Int) (N : Mm), l_Po_changePairs_3 E x1 x2 x3 fu M x4 = some (t, w4, N) → (t = 1 → ∀ (H : Heap) (locs : List Loc) (ls : Array Slot), va_P z.1 classes (wv z ad E N) H → va_D A (wv z ad E N) → va_S A s.heap H locs → lv_has ls 6 [] → W p l e (rmK 1 41 0 0) s m args below meth c H locs 0 0 Q (F0 m 77 ls [])) → ∀ (H : Heap) (locs : List Loc) (ls : Array Slot), va_P z.1 classes (wv z ad E M) H → va_D A (wv z ad E M) → va_S A s.heap H locs → lv_has ls 6 [(0, .ref (ad 41)), (1, .int (oI x1)), (2, .int (oI x2)), (3, .int (oI x3)), (4, .int (oI x4))] → W p l e (rmK 1 41 0 0) s m args below meth c H locs 0 0 Q (F0 m 3 ls []) := by
  intro fu
  induction fu with
  | zero =>
    intro M x4 t w4 N h
    have h : (none : Option (Nat × Int × Mm)) = some _ := h
    cases h
  | succ fu ih =>
    intro M x4 t w4 N h k1 H locs ls hP hD hS hl
    obtain ⟨⟨t0, w40, N9⟩, g0, h⟩ := bd_e h
    refine b_Po_changePairs_3b l z ad E M x1 x2 x3 x4 t0 w40 N9 hx hb hml hts hown hlocks hA hG hZ hL g0 (fun e0 => ?_) (fun e0 => ?_) H locs ls hP hD hS hl
    · subst e0
      have h := ite_t rfl h
      exact ih N9 w40 t w4 N h k1
    · subst e0
      have h := ite_f (by decide) h
      obtain ⟨rfl, rfl, rfl⟩ := in3 h
      exact k1 rfl
set_option maxRecDepth 100000 in
set_option maxHeartbeats 4000000 in
theorem s_Po_changePairs (l : Launch) (z : Zz) (ad : Nat → Nat) (E : Ev) (M : Mm) (x1 : Int) (x2 : Int) (x3 : Int) (N : Mm) (hL : Lay E) (h : f_Po_changePairs E M x1 x2 x3 = some N) : CT l z ⟨"Ballothall$Poll", "changePairs", "(III)V"⟩ prog_11_method_4_code 6 none [.ref (ad 41), .int (oI x1), .int (oI x2), .int (oI x3)] (wv z ad E M) 1 41 0 0 (fun _ => none) (fun _ => (wv z ad E N)) := by
  refine CT.of (own := "Ballothall$Poll") (by decide +kernel) (Nat.le_of_ble_eq_true rfl) rfl (fun p e s m below meth c A ls hx hb hml hr hts hown hlocks hin hA hG hZ hP hD hS hl => ?_)
  have hl : lv_has ls 6 [(0, .ref (ad 41)), (1, .int (oI x1)), (2, .int (oI x2)), (3, .int (oI x3))] := hl
  have key : ∀ (H : Heap) (locs : List Loc) (args : Array Value), (∀ w ∈ WG, w.before args s = true) → va_P z.1 classes (wv z ad E M) H → va_S A s.heap H locs → W p l e (rmK 1 41 0 0) s m args below meth c H locs 0 0 (MQ below (QK z A (fun _ => none) (fun _ => (wv z ad E N))) args s 0 0 A) (F0 m 0 ls []) := by
    intro H locs args hts hP hS
    unfold f_Po_changePairs at h
    refine lv_iconst (v := oI 0) hx hb d_11_4_0 (by decide +kernel) ?_
    refine lv_istore (lv' := [(4, .int (oI 0)), (0, .ref (ad 41)), (1, .int (oI x1)), (2, .int (oI x2)), (3, .int (oI x3))]) hx hb d_11_4_1 hl (by decide) rfl (fun ls hl => ?_)
    obtain ⟨⟨t111, v111_4, M111⟩, g111, h⟩ := bd_e h
    obtain ⟨ok111, h⟩ := ck_e h
    refine s_Po_changePairs_3 l z ad E x1 x2 x3 hx hb hml hts hown hlocks hA hG hZ hL FU M 0 t111 v111_4 M111 g111 (fun e111 H locs ls hP hD hS hl => ?_) H locs ls hP hD hS (lv_sub hl [1, 2, 3, 4, 0] rfl)
    obtain rfl := in1 h
    exact W.vret hx hb hr (fun t ht hW => qkA hP hD hS (fun k => k) rfl rfl ht) hS.2.2 d_11_4_77
  exact key _ _ _ hts hP hS
set_option maxRecDepth 100000 in
set_option maxHeartbeats 4000000 in
theorem b_Po_change_62b (l : Launch) (z : Zz) (ad : Nat → Nat) (E : Ev) (M : Mm) (x1 : Int) (x2 : Int) (x4 : Int) (x5 : Int) (t : Nat) (w4 : Int) (w5 : Int) (N : Mm) {Q : State → Prop} {p : Program} {e : Env} {s : State} {m : MethodId} {below : List Frame} {meth : Method} {c : Code} {A : Nat → Prop} {args : Array Value} (hx : p.tables.exec = Jvm.exec) (hb : c.code = prog_11_method_3_code) (hml : c.maxLocals = 7) (hts : ∀ w ∈ WG, w.before args s = true) (hown : s.vm.findClass "Ballothall$Poll" = some m.cls) (hlocks : meth.locks = false) (hA : ∀ q, s.heap.size ≤ q → A q) (hG : KG z s) (hZ : FZ z A s) (hL : Lay E) (h : Po_change_62b E M x1 x2 x4 x5 = some (t, w4, w5, N)) (k0 : t = 0 → ∀ (H : Heap) (locs : List Loc) (ls : Array Slot), va_P z.1 classes (wv z ad E N) H → va_D A (wv z ad E N) → va_S A s.heap H locs → lv_has ls 7 [(0, .ref (ad 41)), (1, .int (oI x1)), (2, .int (oI x2)), (4, .int (oI w4)), (5, .int (oI w5))] → W p l e (rmK 2 67 0 0) s m args below meth c H locs 0 0 Q (F0 m 62 ls [])) (k1 : t = 1 → ∀ (H : Heap) (locs : List Loc) (ls : Array Slot), va_P z.1 classes (wv z ad E N) H → va_D A (wv z ad E N) → va_S A s.heap H locs → lv_has ls 7 [(0, .ref (ad 41)), (1, .int (oI x1)), (2, .int (oI x2))] → W p l e (rmK 2 67 0 0) s m args below meth c H locs 0 0 Q (F0 m 119 ls [])) : ∀ (H : Heap) (locs : List Loc) (ls : Array Slot), va_P z.1 classes (wv z ad E M) H → va_D A (wv z ad E M) → va_S A s.heap H locs → lv_has ls 7 [(0, .ref (ad 41)), (1, .int (oI x1)), (2, .int (oI x2)), (4, .int (oI x4)), (5, .int (oI x5))] → W p l e (rmK 2 67 0 0) s m args below meth c H locs 0 0 Q (F0 m 62 ls []) := by
  intro H locs ls hP hD hS hl
  unfold Po_change_62b at h
  refine lv_iload hx hb d_11_3_62 (lv_at hl 4 rfl) ?_
  refine lv_aload_n hx hb d_11_3_64 rfl (lv_at hl 0 rfl) ?_
  refine m_gr (j := 2) (C := "Ballothall$Poll") (T := TX9) (N := 12) (ci := 9) (k := 0) hx hb hts iX9 hown hG hP (yi_41 hL) (yt_41 hL) rfl (by decide) w_107 (fun _ h9 => h9) rfl rfl (yr_41_0 hL) d_11_3_65 ?_
  refine m_grN (j := 7) (C := "Ballothall$BallotBox") (T := TX0) (N := 10) (ci := 0) (k := 7) hx hb hts iX0 hown hG hP (yi_2 hL) (yt_2 hL) rfl (by decide) n_73 rfl (fun _ h9 => h9) rfl rfl (yr_2_7 hL) d_11_3_68 ?_
  refine lv_iload_n hx hb d_11_3_71 rfl (lv_at hl 1 rfl) ?_
  obtain ⟨ok105, h⟩ := ck_e h
  refine m_ia hx hb hG hP (yi_7 hL) (yt_7 hL) ok105 d_11_3_72 ?_
  obtain ⟨ok106, h⟩ := ck_e h
  obtain ⟨ok107, h⟩ := ck_e h
  refine lv_icmp_ge (tgt := 119) hx hb d_11_3_73 (by decide) (fun c9 => ?_) (fun c9 => ?_)
  · have h := ite_t ((oI_le (a := (M 7 x1.toNat)) (b := x5) ok107 ok106).mp c9) h
    obtain ⟨rfl, rfl, rfl, rfl⟩ := in4 h
    exact k1 rfl H locs ls hP hD hS (lv_sub hl [0, 1, 2] rfl)
  · have h := ite_f (fun q => c9 ((oI_le (a := (M 7 x1.toNat)) (b := x5) ok107 ok106).mpr q)) h
    refine lv_aload_n hx hb d_11_3_76 rfl (lv_at hl 0 rfl) ?_
    refine m_gr (j := 2) (C := "Ballothall$Poll") (T := TX9) (N := 12) (ci := 9) (k := 0) hx hb hts iX9 hown hG hP (yi_41 hL) (yt_41 hL) rfl (by decide) w_107 (fun _ h9 => h9) rfl rfl (yr_41_0 hL) d_11_3_77 ?_
    refine m_grN (j := 8) (C := "Ballothall$BallotBox") (T := TX0) (N := 10) (ci := 0) (k := 8) hx hb hts iX0 hown hG hP (yi_2 hL) (yt_2 hL) rfl (by decide) n_76 rfl (fun _ h9 => h9) rfl rfl (yr_2_8 hL) d_11_3_80 ?_
    refine lv_iload_n hx hb d_11_3_83 rfl (lv_at hl 1 rfl) ?_
    refine m_ar (k := (9 + x1.toNat)) hx hb hG hP (yi_8 hL) (yt_8 hL) ok105 (ya_8 hL (inb_lt ok105)) d_11_3_84 ?_
    refine lv_iload hx hb d_11_3_85 (lv_at hl 4 rfl) ?_
    obtain ⟨ok108, h⟩ := ck_e h
    refine m_ia hx hb hG hP (yg_8 hL ok105).1 (yg_8 hL ok105).2 ok108 d_11_3_87 ?_
    refine lv_aload_n hx hb d_11_3_88 rfl (lv_at hl 0 rfl) ?_
    refine m_gi (C := "Ballothall$Poll") (T := TX9) (N := 12) (ci := 9) (k := 1) hx hb hts iX9 hown hG hP (yi_41 hL) (yt_41 hL) rfl (by decide) w_108 (fun _ h9 => h9) rfl rfl d_11_3_89 ?_
    obtain ⟨ok109, h⟩ := ck_e h
    obtain ⟨ok110, h⟩ := ck_e h
    refine lv_iand hx hb d_11_3_92 ?_
    refine nrm (oI_and (a := (M (9 + x1.toNat) x5.toNat)) (b := (M 41 1)) ok109.1 ok109.2 ok110.1 ok110.2) ?_
    obtain ⟨v111, e111, h⟩ := nb_e h
    refine nrm (congrArg oI e111.symm) ?_
    refine lv_istore (lv' := [(6, .int (oI v111)), (0, .ref (ad 41)), (1, .int (oI x1)), (2, .int (oI x2)), (4, .int (oI x4)), (5, .int (oI x5))]) hx hb d_11_3_93 hl (by decide) rfl (fun ls hl => ?_)
    refine lv_iload hx hb d_11_3_95 (lv_at hl 4 rfl) ?_
    refine lv_iload hx hb d_11_3_97 (lv_at hl 0 rfl) ?_
    refine lv_iconst (v := oI (-1)) hx hb d_11_3_99 (by decide +kernel) ?_
    refine lv_ixor hx hb d_11_3_100 ?_
    refine nrm (oI_not _) ?_
    obtain ⟨ok112, h⟩ := ck_e h
    obtain ⟨ok113, h⟩ := ck_e h
    refine lv_iand hx hb d_11_3_101 ?_
    refine nrm (oI_dif ok112.1 ok112.2 ok113.1 ok113.2) ?_
    refine lv_istore (lv' := [(4, .int (oI (dfI x4 v111))), (6, .int (oI v111)), (0, .ref (ad 41)), (1, .int (oI x1)), (2, .int (oI x2)), (5, .int (oI x5))]) hx hb d_11_3_102 hl (by decide) rfl (fun ls hl => ?_)
    refine lv_aload_n hx hb d_11_3_104 rfl (lv_at hl 2 rfl) ?_
    refine lv_iload hx hb d_11_3_105 (lv_at hl 1 rfl) ?_
    refine lv_iload hx hb d_11_3_107 (lv_at hl 0 rfl) ?_
    refine lv_iload_n hx hb d_11_3_109 rfl (lv_at hl 4 rfl) ?_
    obtain ⟨M114, g114, h⟩ := bd_e h
    refine kV (As := [.int (oI v111), .int (oI (dfI x4 v111)), .int (oI x2)]) (rest := []) (s_Po_changePairs l z ad E M v111 (dfI x4 v111) x2 M114 hL g114) hx hb hml hown hts w_690 w_687 w_689 w_s_226bdf w_3 md_40f91f ⟨Nat.le_of_ble_eq_true rfl, Nat.le_of_ble_eq_true rfl⟩ hG hZ hP hD hS hA 41 (wv_o (ci := 9) (yi_41 hL) (yt_41 hL)) rfl rfl rfl hl.1 rfl (Nat.le_of_ble_eq_true rfl) d_11_3_110 ⟨Nat.le_of_ble_eq_true rfl, Nat.le_of_ble_eq_true rfl⟩ (fun _ H locs hP hD hS => ?_)
    have hP : va_P z.1 classes (wv z ad E M114) H := hP
    have hD : va_D A (wv z ad E M114) := hD
    refine W.eq (g2 := F0 m 113 ls []) rfl ?_
    refine lv_iinc (v := oI (x5 + 1)) (lv' := [(5, .int (oI (x5 + 1))), (4, .int (oI (dfI x4 v111))), (6, .int (oI v111)), (0, .ref (ad 41)), (1, .int (oI x1)), (2, .int (oI x2))]) hx hb d_11_3_113 hl (k := 5) rfl (oI_add x5 1) (by decide) rfl (fun ls hl => ?_)
    refine lv_goto (tgt := 62) hx hb d_11_3_116 (by decide) ?_
    obtain ⟨rfl, rfl, rfl, rfl⟩ := in4 h
    exact k0 rfl H locs ls hP hD hS (lv_sub hl [3, 4, 5, 1, 0] rfl)
set_option maxRecDepth 100000 in
set_option maxHeartbeats 4000000 in
theorem s_Po_change_62 (l : Launch) (z : Zz) (ad : Nat → Nat) (E : Ev) (x1 : Int) (x2 : Int) {Q : State → Prop} {p : Program} {e : Env} {s : State} {m : MethodId} {below : List Frame} {meth : Method} {c : Code} {A : Nat → Prop} {args : Array Value} (hx : p.tables.exec = Jvm.exec) (hb : c.code = prog_11_method_3_code) (hml : c.maxLocals = 7) (hts : ∀ w ∈ WG, w.before args s = true) (hown : s.vm.findClass "Ballothall$Poll" = some m.cls) (hlocks : meth.locks = false) (hA : ∀ q, s.heap.size ≤ q → A q) (hG : KG z s) (hZ : FZ z A s) (hL : Lay E) : ∀ (fu : Nat) (M : Mm) (x4 : Int) (x5 : Int) (t : Nat) (w4 : Int) (w5 : Int) (N : Mm), l_Po_change_62 E x1 x2 fu M x4 x5 = some (t, w4, w5, N) → (t = 1 → ∀ (H : Heap) (locs : List Loc) (ls : Array Slot), va_P z.1 classes (wv z ad E N) H → va_D A (wv z ad E N) → va_S A s.heap H locs → lv_has ls 7 [(0, .ref (ad 41)), (1, .int (oI x1)), (2, .int (oI x2))] → W p l e (rmK 2 67 0 0) s m args below meth c H locs 0 0 Q (F0 m 119 ls [])) → ∀ (H : Heap) (locs : List Loc) (ls : Array Slot), va_P z.1 classes (wv z ad E M) H → va_D A (wv z ad E M) → va_S A s.heap H locs → lv_has ls 7 [(0, .ref (ad 41)), (1, .int (oI x1)), (2, .int (oI x2)), (4, .int (oI x4)), (5, .int (oI x5))] → W p l e (rmK 2 67 0 0) s m args below meth c H locs 0 0 Q (F0 m 62 ls []) := by
  intro fu
  induction fu with
  | zero =>
    intro M x4 x5 t w4 w5 N h
    have h : (none : Option (Nat × Int × Int × Mm)) = some _ := h
    cases h
  | succ fu ih =>
    intro M x4 x5 t w4 w5 N h k1 H locs ls hP hD hS hl
    obtain ⟨⟨t0, w40, w50, N9⟩, g0, h⟩ := bd_e h
    refine b_Po_change_62b l z ad E M x1 x2 x4 x5 t0 w40 w50 N9 hx hb hml hts hown hlocks hA hG hZ hL g0 (fun e0 => ?_) (fun e0 => ?_) H locs ls hP hD hS hl
    · subst e0
      have h := ite_t rfl h
      exact ih N9 w40 w50 t w4 w5 N h k1
    · subst e0
      have h := ite_f (by decide) h
      obtain ⟨rfl, rfl, rfl, rfl⟩ := in4 h
      exact k1 rfl
set_option maxRecDepth 100000 in
set_option maxHeartbeats 4000000 in
theorem b_Po_change_122b (l : Launch) (z : Zz) (ad : Nat → Nat) (E : Ev) (M : Mm) (x1 : Int) (x2 : Int) (x5 : Int) (t : Nat) (w5 : Int) (N : Mm) {Q : State → Prop} {p : Program} {e : Env} {s : State} {m : MethodId} {below : List Frame} {meth : Method} {c : Code} {A : Nat → Prop} {args : Array Value} (hx : p.tables.exec = Jvm.exec) (hb : c.code = prog_11_method_3_code) (hml : c.maxLocals = 7) (hts : ∀ w ∈ WG, w.before args s = true) (hown : s.vm.findClass "Ballothall$Poll" = some m.cls) (hlocks : meth.locks = false) (hA : ∀ q, s.heap.size ≤ q → A q) (hG : KG z s) (hZ : FZ z A s) (hL : Lay E) (h : Po_change_122b E M x1 x2 x5 = some (t, w5, N)) (k0 : t = 0 → ∀ (H : Heap) (locs : List Loc) (ls : Array Slot), va_P z.1 classes (wv z ad E N) H → va_D A (wv z ad E N) → va_S A s.heap H locs → lv_has ls 7 [(0, .ref (ad 41)), (1, .int (oI x1)), (2, .int (oI x2)), (5, .int (oI w5))] → W p l e (rmK 2 67 0 0) s m args below meth c H locs 0 0 Q (F0 m 122 ls [])) (k1 : t = 1 → ∀ (H : Heap) (locs : List Loc) (ls : Array Slot), va_P z.1 classes (wv z ad E N) H → va_D A (wv z ad E N) → va_S A s.heap H locs → lv_has ls 7 [] → W p l e (rmK 2 67 0 0) s m args below meth c H locs 0 0 Q (F0 m 173 ls [])) : ∀ (H : Heap) (locs : List Loc) (ls : Array Slot), va_P z.1 classes (wv z ad E M) H → va_D A (wv z ad E M) → va_S A s.heap H locs → lv_has ls 7 [(0, .ref (ad 41)), (1, .int (oI x1)), (2, .int (oI x2)), (5, .int (oI x5))] → W p l e (rmK 2 67 0 0) s m args below meth c H locs 0 0 Q (F0 m 122 ls []) := by
  intro H locs ls hP hD hS hl
  unfold Po_change_122b at h
  refine lv_iload hx hb d_11_3_122 (lv_at hl 3 rfl) ?_
  refine lv_aload_n hx hb d_11_3_124 rfl (lv_at hl 0 rfl) ?_
  refine m_gr (j := 2) (C := "Ballothall$Poll") (T := TX9) (N := 12) (ci := 9) (k := 0) hx hb hts iX9 hown hG hP (yi_41 hL) (yt_41 hL) rfl (by decide) w_107 (fun _ h9 => h9) rfl rfl (yr_41_0 hL) d_11_3_125 ?_
  refine m_giN (C := "Ballothall$BallotBox") (T := TX0) (N := 10) (ci := 0) (k := 2) hx hb hts iX0 hown hG hP (yi_2 hL) (yt_2 hL) rfl (by decide) n_53 rfl (fun _ h9 => h9) rfl rfl d_11_3_128 ?_
  obtain ⟨ok116, h⟩ := ck_e h
  obtain ⟨ok117, h⟩ := ck_e h
  refine lv_icmp_ge (tgt := 173) hx hb d_11_3_131 (by decide) (fun c9 => ?_) (fun c9 => ?_)
  · have h := ite_t ((oI_le (a := (M 2 2)) (b := x5) ok117 ok116).mp c9) h
    obtain ⟨rfl, rfl, rfl⟩ := in3 h
    exact k1 rfl H locs ls hP hD hS (lv_sub hl [] rfl)
  · have h := ite_f (fun q => c9 ((oI_le (a := (M 2 2)) (b := x5) ok117 ok116).mpr q)) h
    refine lv_aload_n hx hb d_11_3_134 rfl (lv_at hl 0 rfl) ?_
    refine m_gr (j := 2) (C := "Ballothall$Poll") (T := TX9) (N := 12) (ci := 9) (k := 0) hx hb hts iX9 hown hG hP (yi_41 hL) (yt_41 hL) rfl (by decide) w_107 (fun _ h9 => h9) rfl rfl (yr_41_0 hL) d_11_3_135 ?_
    refine m_grN (j := 6) (C := "Ballothall$BallotBox") (T := TX0) (N := 10) (ci := 0) (k := 6) hx hb hts iX0 hown hG hP (yi_2 hL) (yt_2 hL) rfl (by decide) n_69 rfl (fun _ h9 => h9) rfl rfl (yr_2_6 hL) d_11_3_138 ?_
    refine lv_iload_n hx hb d_11_3_141 rfl (lv_at hl 1 rfl) ?_
    obtain ⟨ok118, h⟩ := ck_e h
    refine m_ia hx hb hG hP (yi_6 hL) (yt_6 hL) ok118 d_11_3_142 ?_
    refine lv_aload_n hx hb d_11_3_143 rfl (lv_at hl 0 rfl) ?_
    refine m_gi (C := "Ballothall$Poll") (T := TX9) (N := 12) (ci := 9) (k := 1) hx hb hts iX9 hown hG hP (yi_41 hL) (yt_41 hL) rfl (by decide) w_108 (fun _ h9 => h9) rfl rfl d_11_3_144 ?_
    obtain ⟨ok119, h⟩ := ck_e h
    obtain ⟨ok120, h⟩ := ck_e h
    refine lv_iand hx hb d_11_3_147 ?_
    refine nrm (oI_and (a := (M 6 x1.toNat)) (b := (M 41 1)) ok119.1 ok119.2 ok120.1 ok120.2) ?_
    refine lv_iload hx hb d_11_3_148 (lv_at hl 3 rfl) ?_
    obtain ⟨r121, g121, h⟩ := bd_e h
    refine kSN (As := [.int (oI (andI (M 6 x1.toNat) (M 41 1))), .int (oI x5)]) (rest := []) (s_B_has l z ad E M (andI (M 6 x1.toNat) (M 41 1)) x5 r121 hL g121) hx hb hml hown hts w_693 n_691 w_692 w_1 md_26545c ⟨Nat.le_of_ble_eq_true rfl, Nat.le_of_ble_eq_true rfl⟩ hG hZ hP hD hS hA rfl hl.1 rfl (Nat.le_of_ble_eq_true rfl) d_11_3_150 ⟨Nat.le_of_ble_eq_true rfl, Nat.le_of_ble_eq_true rfl⟩ (fun _ H locs hP hD hS => ?_)
    have hP : va_P z.1 classes (wv z ad E M) H := hP
    have hD : va_D A (wv z ad E M) := hD
    refine W.eq (g2 := F0 m 153 ls [.int (oI r121)]) rfl ?_
    obtain ⟨ok122, h⟩ := ck_e h
    refine lv_if_eq (tgt := 167) hx hb d_11_3_153 (by decide) (fun c9 => ?_) (fun c9 => ?_)
    · have h := ite_t ((oI_eq0 ok122).mp c9) h
      refine lv_iinc (v := oI (x5 + 1)) (lv' := [(5, .int (oI (x5 + 1))), (0, .ref (ad 41)), (1, .int (oI x1)), (2, .int (oI x2))]) hx hb d_11_3_167 hl (k := 3) rfl (oI_add x5 1) (by decide) rfl (fun ls hl => ?_)
      refine lv_goto (tgt := 122) hx hb d_11_3_170 (by decide) ?_
      obtain ⟨rfl, rfl, rfl⟩ := in3 h
      exact k0 rfl H locs ls hP hD hS (lv_sub hl [1, 2, 3, 0] rfl)
    · have h := ite_f (fun q => c9 ((oI_eq0 ok122).mpr q)) h
      refine lv_aload_n hx hb d_11_3_156 rfl (lv_at hl 0 rfl) ?_
      refine m_gr (j := 44) (C := "Ballothall$Poll") (T := TX9) (N := 12) (ci := 9) (k := 5) hx hb hts iX9 hown hG hP (yi_41 hL) (yt_41 hL) rfl (by decide) w_112 (fun _ h9 => h9) rfl rfl (yr_41_5 hL) d_11_3_157 ?_
      refine lv_iload hx hb d_11_3_160 (lv_at hl 3 rfl) ?_
      refine lv_dup2_11 hx hb d_11_3_162 rfl rfl ?_
      obtain ⟨ok123, h⟩ := ck_e h
      refine m_ia hx hb hG hP (yi_44 hL) (yt_44 hL) ok123 d_11_3_163 ?_
      refine lv_iload_n hx hb d_11_3_164 rfl (lv_at hl 2 rfl) ?_
      refine lv_iadd hx hb d_11_3_165 ?_
      refine nrm (oI_add _ _) ?_
      refine m_is hx hb hG hP hD hS (yi_44 hL) (yt_44 hL) ok123 d_11_3_166 (fun H locs hP hD hS => ?_)
      have hP : va_P z.1 classes (wv z ad E (u2 M 44 x5.toNat ((M 44 x5.toNat) + x2))) H := hP
      have hD : va_D A (wv z ad E (u2 M 44 x5.toNat ((M 44 x5.toNat) + x2))) := hD
      refine lv_iinc (v := oI (x5 + 1)) (lv' := [(5, .int (oI (x5 + 1))), (0, .ref (ad 41)), (1, .int (oI x1)), (2, .int (oI x2))]) hx hb d_11_3_167 hl (k := 3) rfl (oI_add x5 1) (by decide) rfl (fun ls hl => ?_)
      refine lv_goto (tgt := 122) hx hb d_11_3_170 (by decide) ?_
      obtain ⟨rfl, rfl, rfl⟩ := in3 h
      exact k0 rfl H locs ls hP hD hS (lv_sub hl [1, 2, 3, 0] rfl)
set_option maxRecDepth 100000 in
set_option maxHeartbeats 4000000 in
theorem s_Po_change_122 (l : Launch) (z : Zz) (ad : Nat → Nat) (E : Ev) (x1 : Int) (x2 : Int) {Q : State → Prop} {p : Program} {e : Env} {s : State} {m : MethodId} {below : List Frame} {meth : Method} {c : Code} {A : Nat → Prop} {args : Array Value} (hx : p.tables.exec = Jvm.exec) (hb : c.code = prog_11_method_3_code) (hml : c.maxLocals = 7) (hts : ∀ w ∈ WG, w.before args s = true) (hown : s.vm.findClass "Ballothall$Poll" = some m.cls) (hlocks : meth.locks = false) (hA : ∀ q, s.heap.size ≤ q → A q) (hG : KG z s) (hZ : FZ z A s) (hL : Lay E) : ∀ (fu : Nat) (M : Mm) (x5 : Int) (t : Nat) (w5 : Int) (N : Mm), l_Po_change_122 E x1 x2 fu M x5 = some (t, w5, N) → (t = 1 → ∀ (H : Heap) (locs : List Loc) (ls : Array Slot), va_P z.1 classes (wv z ad E N) H → va_D A (wv z ad E N) → va_S A s.heap H locs → lv_has ls 7 [] → W p l e (rmK 2 67 0 0) s m args below meth c H locs 0 0 Q (F0 m 173 ls [])) → ∀ (H : Heap) (locs : List Loc) (ls : Array Slot), va_P z.1 classes (wv z ad E M) H → va_D A (wv z ad E M) → va_S A s.heap H locs → lv_has ls 7 [(0, .ref (ad 41)), (1, .int (oI x1)), (2, .int (oI x2)), (5, .int (oI x5))] → W p l e (rmK 2 67 0 0) s m args below meth c H locs 0 0 Q (F0 m 122 ls []) := by
  intro fu
  induction fu with
  | zero =>
    intro M x5 t w5 N h
    have h : (none : Option (Nat × Int × Mm)) = some _ := h
    cases h
  | succ fu ih =>
    intro M x5 t w5 N h k1 H locs ls hP hD hS hl
    obtain ⟨⟨t0, w50, N9⟩, g0, h⟩ := bd_e h
    refine b_Po_change_122b l z ad E M x1 x2 x5 t0 w50 N9 hx hb hml hts hown hlocks hA hG hZ hL g0 (fun e0 => ?_) (fun e0 => ?_) H locs ls hP hD hS hl
    · subst e0
      have h := ite_t rfl h
      exact ih N9 w50 t w5 N h k1
    · subst e0
      have h := ite_f (by decide) h
      obtain ⟨rfl, rfl, rfl⟩ := in3 h
      exact k1 rfl
set_option maxRecDepth 100000 in
set_option maxHeartbeats 4000000 in
theorem s_Po_change (l : Launch) (z : Zz) (ad : Nat → Nat) (E : Ev) (M : Mm) (x1 : Int) (x2 : Int) (N : Mm) (hL : Lay E) (h : f_Po_change E M x1 x2 = some N) : CT l z ⟨"Ballothall$Poll", "change", "(II)V"⟩ prog_11_method_3_code 7 none [.ref (ad 41), .int (oI x1), .int (oI x2)] (wv z ad E M) 2 67 0 0 (fun _ => none) (fun _ => (wv z ad E N)) := by
  refine CT.of (own := "Ballothall$Poll") (by decide +kernel) (Nat.le_of_ble_eq_true rfl) rfl (fun p e s m below meth c A ls hx hb hml hr hts hown hlocks hin hA hG hZ hP hD hS hl => ?_)
  have hl : lv_has ls 7 [(0, .ref (ad 41)), (1, .int (oI x1)), (2, .int (oI x2))] := hl
  have key : ∀ (H : Heap) (locs : List Loc) (args : Array Value), (∀ w ∈ WG, w.before args s = true) → va_P z.1 classes (wv z ad E M) H → va_S A s.heap H locs → W p l e (rmK 2 67 0 0) s m args below meth c H locs 0 0 (MQ below (QK z A (fun _ => none) (fun _ => (wv z ad E N))) args s 0 0 A) (F0 m 0 ls []) := by
    intro H locs args hts hP hS
    unfold f_Po_change at h
    refine lv_iload_n hx hb d_11_3_0 rfl (lv_at hl 2 rfl) ?_
    obtain ⟨ok100, h⟩ := ck_e h
    refine lv_if_ne (tgt := 5) hx hb d_11_3_1 (by decide) (fun c9 => ?_) (fun c9 => ?_)
    · have h := ite_f (fun q => c9 ((oI_eq0 ok100).mpr q)) h
      refine lv_aload_n hx hb d_11_3_5 rfl (lv_at hl 0 rfl) ?_
      refine m_gr (j := 42) (C := "Ballothall$Poll") (T := TX9) (N := 12) (ci := 9) (k := 3) hx hb hts iX9 hown hG hP (yi_41 hL) (yt_41 hL) rfl (by decide) w_110 (fun _ h9 => h9) rfl rfl (yr_41_3 hL) d_11_3_6 ?_
      refine lv_iload_n hx hb d_11_3_9 rfl (lv_at hl 1 rfl) ?_
      refine lv_dup2_11 hx hb d_11_3_10 rfl rfl ?_
      obtain ⟨ok101, h⟩ := ck_e h
      refine m_ia hx hb hG hP (yi_42 hL) (yt_42 hL) ok101 d_11_3_11 ?_
      refine lv_iload_n hx hb d_11_3_12 rfl (lv_at hl 2 rfl) ?_
      refine lv_iadd hx hb d_11_3_13 ?_
      refine nrm (oI_add _ _) ?_
      refine m_is hx hb hG hP hD hS (yi_42 hL) (yt_42 hL) ok101 d_11_3_14 (fun H locs hP hD hS => ?_)
      have hP : va_P z.1 classes (wv z ad E (u2 M 42 x1.toNat ((M 42 x1.toNat) + x2))) H := hP
      have hD : va_D A (wv z ad E (u2 M 42 x1.toNat ((M 42 x1.toNat) + x2))) := hD
      refine lv_aload_n hx hb d_11_3_15 rfl (lv_at hl 0 rfl) ?_
      refine lv_dup hx hb d_11_3_16 rfl ?_
      refine m_gi (C := "Ballothall$Poll") (T := TX9) (N := 12) (ci := 9) (k := 2) hx hb hts iX9 hown hG hP (yi_41 hL) (yt_41 hL) rfl (by decide) w_109 (fun _ h9 => h9) rfl rfl d_11_3_17 ?_
      refine lv_iload_n hx hb d_11_3_20 rfl (lv_at hl 2 rfl) ?_
      refine lv_iadd hx hb d_11_3_21 ?_
      refine nrm (oI_add _ _) ?_
      refine m_pi (C := "Ballothall$Poll") (T := TX9) (N := 12) (ci := 9) (k := 2) (ty := .int) hx hb hts iX9 hown hG hP hD hS (yi_41 hL) (yt_41 hL) rfl (by decide) w_109 (fun _ h9 => h9) rfl rfl tyX9_ok nmX9 rfl (by decide +kernel) rfl rfl d_11_3_22 (fun H locs hP hD hS => ?_)
      have hP : va_P z.1 classes (wv z ad E (u2 (u2 M 42 x1.toNat ((M 42 x1.toNat) + x2)) 41 2 (((u2 M 42 x1.toNat ((M 42 x1.toNat) + x2)) 41 2) + x2))) H := hP
      have hD : va_D A (wv z ad E (u2 (u2 M 42 x1.toNat ((M 42 x1.toNat) + x2)) 41 2 (((u2 M 42 x1.toNat ((M 42 x1.toNat) + x2)) 41 2) + x2))) := hD
      obtain ⟨M102, e102, h⟩ := nb_e h
      rw [← e102] at hP hD
      refine lv_aload_n hx hb d_11_3_25 rfl (lv_at hl 0 rfl) ?_
      refine m_gr (j := 2) (C := "Ballothall$Poll") (T := TX9) (N := 12) (ci := 9) (k := 0) hx hb hts iX9 hown hG hP (yi_41 hL) (yt_41 hL) rfl (by decide) w_107 (fun _ h9 => h9) rfl rfl (yr_41_0 hL) d_11_3_26 ?_
      refine lv_iload_n hx hb d_11_3_29 rfl (lv_at hl 1 rfl) ?_
      refine lv_aload_n hx hb d_11_3_30 rfl (lv_at hl 0 rfl) ?_
      refine m_gi (C := "Ballothall$Poll") (T := TX9) (N := 12) (ci := 9) (k := 1) hx hb hts iX9 hown hG hP (yi_41 hL) (yt_41 hL) rfl (by decide) w_108 (fun _ h9 => h9) rfl rfl d_11_3_31 ?_
      obtain ⟨r103, g103, h⟩ := bd_e h
      refine kVN (As := [.int (oI x1), .int (oI (M102 41 1))]) (rest := []) (s_Bx_soleTopOf l z ad E M102 x1 (M102 41 1) r103 hL g103) hx hb hml hown hts w_681 n_678 w_680 w_s_fbd9d2 w_2 md_0f833a ⟨Nat.le_of_ble_eq_true rfl, Nat.le_of_ble_eq_true rfl⟩ hG hZ hP hD hS hA 2 (wv_o (ci := 0) (yi_2 hL) (yt_2 hL)) rfl rfl rfl hl.1 rfl (Nat.le_of_ble_eq_true rfl) d_11_3_34 ⟨Nat.le_of_ble_eq_true rfl, Nat.le_of_ble_eq_true rfl⟩ (fun _ H locs hP hD hS => ?_)
      have hP : va_P z.1 classes (wv z ad E M102) H := hP
      have hD : va_D A (wv z ad E M102) := hD
      refine W.eq (g2 := F0 m 37 ls [.int (oI r103)]) rfl ?_
      refine lv_istore_n (lv' := [(3, .int (oI r103)), (0, .ref (ad 41)), (1, .int (oI x1)), (2, .int (oI x2))]) hx hb d_11_3_37 rfl hl (by decide) rfl (fun ls hl => ?_)
      refine lv_iload_n hx hb d_11_3_38 rfl (lv_at hl 0 rfl) ?_
      refine lv_iconst (v := oI (-1)) hx hb d_11_3_39 (by decide +kernel) ?_
      obtain ⟨ok104, h⟩ := ck_e h
      refine lv_icmp_eq (tgt := 53) hx hb d_11_3_40 (by decide) (fun c9 => ?_) (fun c9 => ?_)
      · have h := ite_t ((oI_eq (a := r103) (b := (-1 : Int)) ok104 (by decide)).mp c9) h
        refine lv_aload_n hx hb d_11_3_53 rfl (lv_at hl 1 rfl) ?_
        refine m_gi (C := "Ballothall$Poll") (T := TX9) (N := 12) (ci := 9) (k := 1) hx hb hts iX9 hown hG hP (yi_41 hL) (yt_41 hL) rfl (by decide) w_108 (fun _ h9 => h9) rfl rfl d_11_3_54 ?_
        refine lv_istore (lv' := [(4, .int (oI (M102 41 1))), (3, .int (oI r103)), (0, .ref (ad 41)), (1, .int (oI x1)), (2, .int (oI x2))]) hx hb d_11_3_57 hl (by decide) rfl (fun ls hl => ?_)
        refine lv_iconst (v := oI 0) hx hb d_11_3_59 (by decide +kernel) ?_
        refine lv_istore (lv' := [(5, .int (oI 0)), (4, .int (oI (M102 41 1))), (3, .int (oI r103)), (0, .ref (ad 41)), (1, .int (oI x1)), (2, .int (oI x2))]) hx hb d_11_3_60 hl (by decide) rfl (fun ls hl => ?_)
        obtain ⟨⟨t115, v115_4, v115_5, M115⟩, g115, h⟩ := bd_e h
        obtain ⟨ok115, h⟩ := ck_e h
        refine s_Po_change_62 l z ad E x1 x2 hx hb hml hts hown hlocks hA hG hZ hL FU M102 (M102 41 1) 0 t115 v115_4 v115_5 M115 g115 (fun e115 H locs ls hP hD hS hl => ?_) H locs ls hP hD hS (lv_sub hl [3, 4, 5, 1, 0] rfl)
        refine lv_iconst (v := oI 0) hx hb d_11_3_119 (by decide +kernel) ?_
        refine lv_istore (lv' := [(5, .int (oI 0)), (0, .ref (ad 41)), (1, .int (oI x1)), (2, .int (oI x2))]) hx hb d_11_3_120 hl (by decide) rfl (fun ls hl => ?_)
        obtain ⟨⟨t124, v124_5, M124⟩, g124, h⟩ := bd_e h
        obtain ⟨ok124, h⟩ := ck_e h
        refine s_Po_change_122 l z ad E x1 x2 hx hb hml hts hown hlocks hA hG hZ hL FU M115 0 t124 v124_5 M124 g124 (fun e124 H locs ls hP hD hS hl => ?_) H locs ls hP hD hS (lv_sub hl [1, 2, 3, 0] rfl)
        obtain rfl := in1 h
        exact W.vret hx hb hr (fun t ht hW => qkA hP hD hS (fun k => k) rfl rfl ht) hS.2.2 d_11_3_173
      · have h := ite_f (fun q => c9 ((oI_eq (a := r103) (b := (-1 : Int)) ok104 (by decide)).mpr q)) h
        refine lv_aload_n hx hb d_11_3_43 rfl (lv_at hl 1 rfl) ?_
        refine m_gr (j := 43) (C := "Ballothall$Poll") (T := TX9) (N := 12) (ci := 9) (k := 4) hx hb hts iX9 hown hG hP (yi_41 hL) (yt_41 hL) rfl (by decide) w_111 (fun _ h9 => h9) rfl rfl (yr_41_4 hL) d_11_3_44 ?_
        refine lv_iload_n hx hb d_11_3_47 rfl (lv_at hl 0 rfl) ?_
        refine lv_dup2_11 hx hb d_11_3_48 rfl rfl ?_
        obtain ⟨ok125, h⟩ := ck_e h
        refine m_ia hx hb hG hP (yi_43 hL) (yt_43 hL) ok125 d_11_3_49 ?_
        refine lv_iload_n hx hb d_11_3_50 rfl (lv_at hl 3 rfl) ?_
        refine lv_iadd hx hb d_11_3_51 ?_
        refine nrm (oI_add _ _) ?_
        refine m_is hx hb hG hP hD hS (yi_43 hL) (yt_43 hL) ok125 d_11_3_52 (fun H locs hP hD hS => ?_)
        have hP : va_P z.1 classes (wv z ad E (u2 M102 43 r103.toNat ((M102 43 r103.toNat) + x2))) H := hP
        have hD : va_D A (wv z ad E (u2 M102 43 r103.toNat ((M102 43 r103.toNat) + x2))) := hD
        refine lv_aload_n hx hb d_11_3_53 rfl (lv_at hl 1 rfl) ?_
        refine m_gi (C := "Ballothall$Poll") (T := TX9) (N := 12) (ci := 9) (k := 1) hx hb hts iX9 hown hG hP (yi_41 hL) (yt_41 hL) rfl (by decide) w_108 (fun _ h9 => h9) rfl rfl d_11_3_54 ?_
        obtain ⟨v126, e126, h⟩ := nb_e h
        refine nrm (congrArg oI e126.symm) ?_
        refine lv_istore (lv' := [(4, .int (oI v126)), (3, .int (oI r103)), (0, .ref (ad 41)), (1, .int (oI x1)), (2, .int (oI x2))]) hx hb d_11_3_57 hl (by decide) rfl (fun ls hl => ?_)
        refine lv_iconst (v := oI 0) hx hb d_11_3_59 (by decide +kernel) ?_
        refine lv_istore (lv' := [(5, .int (oI 0)), (4, .int (oI v126)), (3, .int (oI r103)), (0, .ref (ad 41)), (1, .int (oI x1)), (2, .int (oI x2))]) hx hb d_11_3_60 hl (by decide) rfl (fun ls hl => ?_)
        obtain ⟨⟨t127, v127_4, v127_5, M127⟩, g127, h⟩ := bd_e h
        obtain ⟨ok127, h⟩ := ck_e h
        refine s_Po_change_62 l z ad E x1 x2 hx hb hml hts hown hlocks hA hG hZ hL FU (u2 M102 43 r103.toNat ((M102 43 r103.toNat) + x2)) v126 0 t127 v127_4 v127_5 M127 g127 (fun e127 H locs ls hP hD hS hl => ?_) H locs ls hP hD hS (lv_sub hl [3, 4, 5, 1, 0] rfl)
        refine lv_iconst (v := oI 0) hx hb d_11_3_119 (by decide +kernel) ?_
        refine lv_istore (lv' := [(5, .int (oI 0)), (0, .ref (ad 41)), (1, .int (oI x1)), (2, .int (oI x2))]) hx hb d_11_3_120 hl (by decide) rfl (fun ls hl => ?_)
        obtain ⟨⟨t128, v128_5, M128⟩, g128, h⟩ := bd_e h
        obtain ⟨ok128, h⟩ := ck_e h
        refine s_Po_change_122 l z ad E x1 x2 hx hb hml hts hown hlocks hA hG hZ hL FU M127 0 t128 v128_5 M128 g128 (fun e128 H locs ls hP hD hS hl => ?_) H locs ls hP hD hS (lv_sub hl [1, 2, 3, 0] rfl)
        obtain rfl := in1 h
        exact W.vret hx hb hr (fun t ht hW => qkA hP hD hS (fun k => k) rfl rfl ht) hS.2.2 d_11_3_173
    · have h := ite_t ((oI_eq0 ok100).mp c9) h
      obtain rfl := in1 h
      exact W.vret hx hb hr (fun t ht hW => qkA hP hD hS (fun k => k) rfl rfl ht) hS.2.2 d_11_3_4
  exact key _ _ _ hts hP hS
