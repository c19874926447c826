set_option maxRecDepth 100000 in
set_option maxHeartbeats 4000000 in
theorem b_Po_consensusPlace_10b (l : Launch) (z : Zz) (ad : Nat → Nat) (E : Ev) (M : Mm) (x1 : Int) (x2 : Int) (x3 : Int) (x4 : Int) (t : Nat) (w2 : Int) (w3 : Int) (w4 : Int)  {Q : State → Prop} {p : Program} {e : Env} {s : State} {m : MethodId} {below : List Frame} {meth : Method} {c : Code} {A : Nat → Prop} {args : Array Value} (hx : p.tables.exec = Jvm.exec) (hb : c.code = prog_11_method_17_code) (hml : c.maxLocals = 5) (hts : ∀ w ∈ WG, w.before args s = true) (hown : s.vm.findClass "Ballothall$Poll" = some m.cls) (hlocks : meth.locks = false) (hA : ∀ q, s.heap.size ≤ q → A q) (hG : KG z s) (hZ : FZ z A s) (hL : Lay E) (h : Po_consensusPlace_10b E M x1 x2 x3 x4 = some (t, w2, w3, w4)) (k0 : t = 0 → ∀ (H : Heap) (locs : List Loc) (ls : Array Slot), va_P z.1 classes (wv z ad E M) H → va_D A (wv z ad E M) → va_S A s.heap H locs → lv_has ls 5 [(0, .ref (ad 41)), (1, .int (oI x1)), (2, .int (oI w2)), (3, .int (oI w3)), (4, .int (oI w4))] → W p l e (rmK 3 90 0 0) s m args below meth c H locs 0 0 Q (F0 m 10 ls [])) (k1 : t = 1 → ∀ (H : Heap) (locs : List Loc) (ls : Array Slot), va_P z.1 classes (wv z ad E M) H → va_D A (wv z ad E M) → va_S A s.heap H locs → lv_has ls 5 [(3, .int (oI w3))] → W p l e (rmK 3 90 0 0) s m args below meth c H locs 0 0 Q (F0 m 40 ls [])) : ∀ (H : Heap) (locs : List Loc) (ls : Array Slot), va_P z.1 classes (wv z ad E M) H → va_D A (wv z ad E M) → va_S A s.heap H locs → lv_has ls 5 [(0, .ref (ad 41)), (1, .int (oI x1)), (2, .int (oI x2)), (3, .int (oI x3)), (4, .int (oI x4))] → W p l e (rmK 3 90 0 0) s m args below meth c H locs 0 0 Q (F0 m 10 ls []) := by
  intro H locs ls hP hD hS hl
  unfold Po_consensusPlace_10b at h
  refine lv_iload hx hb d_11_17_10 (lv_at hl 4 rfl) ?_
  refine lv_iload_n hx hb d_11_17_12 rfl (lv_at hl 1 rfl) ?_
  obtain ⟨ok0, h⟩ := ck_e h
  obtain ⟨ok1, h⟩ := ck_e h
  refine lv_icmp_gt (tgt := 40) hx hb d_11_17_13 (by decide) (fun c9 => ?_) (fun c9 => ?_)
  · have h := ite_t ((oI_lt (a := x1) (b := x4) ok1 ok0).mp c9) h
    obtain ⟨rfl, rfl, rfl, rfl⟩ := in4 h
    exact k1 rfl H locs ls hP hD hS (lv_sub hl [3] rfl)
  · have h := ite_f (fun q => c9 ((oI_lt (a := x1) (b := x4) ok1 ok0).mpr q)) h
    refine lv_iload_n hx hb d_11_17_16 rfl (lv_at hl 2 rfl) ?_
    obtain ⟨ok2, h⟩ := ck_e h
    refine lv_if_eq (tgt := 40) hx hb d_11_17_17 (by decide) (fun c9 => ?_) (fun c9 => ?_)
    · have h := ite_t ((oI_eq0 ok2).mp c9) h
      obtain ⟨rfl, rfl, rfl, rfl⟩ := in4 h
      exact k1 rfl H locs ls hP hD hS (lv_sub hl [3] rfl)
    · have h := ite_f (fun q => c9 ((oI_eq0 ok2).mpr q)) h
      refine lv_aload_n hx hb d_11_17_20 rfl (lv_at hl 0 rfl) ?_
      refine lv_iload_n hx hb d_11_17_21 rfl (lv_at hl 2 rfl) ?_
      obtain ⟨r3, g3, h⟩ := bd_e h
      refine kV (As := [.int (oI x2)]) (rest := []) (s_Po_firstOfConsensus l z ad E M x2 r3 hL g3) hx hb hml hown hts w_746 w_743 w_745 w_s_4d3fdf w_3 md_2e2af1 ⟨Nat.le_of_ble_eq_true rfl, Nat.le_of_ble_eq_true rfl⟩ hG hZ hP hD hS hA 41 (wv_o (ci := 9) (yi_41 hL) (yt_41 hL)) rfl rfl rfl hl.1 rfl (Nat.le_of_ble_eq_true rfl) d_11_17_22 ⟨Nat.le_of_ble_eq_true rfl, Nat.le_of_ble_eq_true rfl⟩ (fun _ H locs hP hD hS => ?_)
      have hP : va_P z.1 classes (wv z ad E M) H := hP
      have hD : va_D A (wv z ad E M) := hD
      refine W.eq (g2 := F0 m 25 ls [.int (oI r3)]) rfl ?_
      refine lv_istore_n (lv' := [(3, .int (oI r3)), (0, .ref (ad 41)), (1, .int (oI x1)), (2, .int (oI x2)), (4, .int (oI x4))]) hx hb d_11_17_25 rfl hl (by decide) rfl (fun ls hl => ?_)
      refine lv_iload_n hx hb d_11_17_26 rfl (lv_at hl 3 rfl) ?_
      refine lv_iconst (v := oI 1) hx hb d_11_17_27 (by decide +kernel) ?_
      refine lv_iload_n hx hb d_11_17_28 rfl (lv_at hl 0 rfl) ?_
      obtain ⟨ok4, h⟩ := ck_e h
      refine lv_ishl hx hb d_11_17_29 ?_
      refine nrm (oI_one_shl ok4) ?_
      refine lv_iconst (v := oI (-1)) hx hb d_11_17_30 (by decide +kernel) ?_
      refine lv_ixor hx hb d_11_17_31 ?_
      refine nrm (oI_not _) ?_
      obtain ⟨ok5, h⟩ := ck_e h
      obtain ⟨ok6, h⟩ := ck_e h
      refine lv_iand hx hb d_11_17_32 ?_
      refine nrm (oI_dif ok5.1 ok5.2 ok6.1 ok6.2) ?_
      refine lv_istore_n (lv' := [(2, .int (oI (dfI x2 (2 ^ r3.toNat)))), (3, .int (oI r3)), (0, .ref (ad 41)), (1, .int (oI x1)), (4, .int (oI x4))]) hx hb d_11_17_33 rfl hl (by decide) rfl (fun ls hl => ?_)
      refine lv_iinc (v := oI (x4 + 1)) (lv' := [(4, .int (oI (x4 + 1))), (2, .int (oI (dfI x2 (2 ^ r3.toNat)))), (3, .int (oI r3)), (0, .ref (ad 41)), (1, .int (oI x1))]) hx hb d_11_17_34 hl (k := 4) rfl (oI_add x4 1) (by decide) rfl (fun ls hl => ?_)
      refine lv_goto (tgt := 10) hx hb d_11_17_37 (by decide) ?_
      obtain ⟨rfl, rfl, rfl, rfl⟩ := in4 h
      exact k0 rfl H locs ls hP hD hS (lv_sub hl [3, 4, 1, 2, 0] rfl)
set_option maxRecDepth 100000 in
set_option maxHeartbeats 4000000 in
theorem s_Po_consensusPlace_10 (l : Launch) (z : Zz) (ad : Nat → Nat) (E : Ev) (x1 : Int) {Q : State → Prop} {p : Program} {e : Env} {s : State} {m : MethodId} {below : List Frame} {meth : Method} {c : Code} {A : Nat → Prop} {args : Array Value} (hx : p.tables.exec = Jvm.exec) (hb : c.code = prog_11_method_17_code) (hml : c.maxLocals = 5) (hts : ∀ w ∈ WG, w.before args s = true) (hown : s.vm.findClass "Ballothall$Poll" = some m.cls) (hlocks : meth.locks = false) (hA : ∀ q, s.heap.size ≤ q → A q) (hG : KG z s) (hZ : FZ z A s) (hL : Lay E) : ∀ (fu : Nat) (M : Mm) (x2 : Int) (x3 : Int) (x4 : Int) (t : Nat) (w2 : Int) (w3 : Int) (w4 : Int), l_Po_consensusPlace_10 E x1 fu M x2 x3 x4 = some (t, w2, w3, w4) → (t = 1 → ∀ (H : Heap) (locs : List Loc) (ls : Array Slot), va_P z.1 classes (wv z ad E M) H → va_D A (wv z ad E M) → va_S A s.heap H locs → lv_has ls 5 [(3, .int (oI w3))] → W p l e (rmK 3 90 0 0) s m args below meth c H locs 0 0 Q (F0 m 40 ls [])) → ∀ (H : Heap) (locs : List Loc) (ls : Array Slot), va_P z.1 classes (wv z ad E M) H → va_D A (wv z ad E M) → va_S A s.heap H locs → lv_has ls 5 [(0, .ref (ad 41)), (1, .int (oI x1)), (2, .int (oI x2)), (3, .int (oI x3)), (4, .int (oI x4))] → W p l e (rmK 3 90 0 0) s m args below meth c H locs 0 0 Q (F0 m 10 ls []) := by
  intro fu
  induction fu with
  | zero =>
    intro M x2 x3 x4 t w2 w3 w4 h
    have h : (none : Option (Nat × Int × Int × Int)) = some _ := h
    cases h
  | succ fu ih =>
    intro M x2 x3 x4 t w2 w3 w4 h k1 H locs ls hP hD hS hl
    obtain ⟨⟨t0, w20, w30, w40⟩, g0, h⟩ := bd_e h
    refine b_Po_consensusPlace_10b l z ad E M x1 x2 x3 x4 t0 w20 w30 w40 hx hb hml hts hown hlocks hA hG hZ hL g0 (fun e0 => ?_) (fun e0 => ?_) H locs ls hP hD hS hl
    · subst e0
      have h := ite_t rfl h
      exact ih M w20 w30 w40 t w2 w3 w4 h k1
    · subst e0
      have h := ite_f (by decide) h
      obtain ⟨rfl, rfl, rfl, rfl⟩ := in4 h
      exact k1 rfl
set_option maxRecDepth 100000 in
set_option maxHeartbeats 4000000 in
theorem s_Po_consensusPlace (l : Launch) (z : Zz) (ad : Nat → Nat) (E : Ev) (M : Mm) (x1 : Int) (r : Int)  (hL : Lay E) (h : f_Po_consensusPlace E M x1 = some r) : CT l z ⟨"Ballothall$Poll", "consensusPlace", "(I)I"⟩ prog_11_method_17_code 5 (some .int) [.ref (ad 41), .int (oI x1)] (wv z ad E M) 3 90 0 0 (fun _ => some (.int (oI r))) (fun _ => (wv z ad E M)) := by
  refine CT.of (own := "Ballothall$Poll") (by decide +kernel) (Nat.le_of_ble_eq_true rfl) rfl (fun p e s m below meth c A ls hx hb hml hr hts hown hlocks hin hA hG hZ hP hD hS hl => ?_)
  have hl : lv_has ls 5 [(0, .ref (ad 41)), (1, .int (oI x1))] := hl
  have key : ∀ (H : Heap) (locs : List Loc) (args : Array Value), (∀ w ∈ WG, w.before args s = true) → va_P z.1 classes (wv z ad E M) H → va_S A s.heap H locs → W p l e (rmK 3 90 0 0) s m args below meth c H locs 0 0 (MQ below (QK z A (fun _ => some (.int (oI r))) (fun _ => (wv z ad E M))) args s 0 0 A) (F0 m 0 ls []) := by
    intro H locs args hts hP hS
    unfold f_Po_consensusPlace at h
    refine lv_aload_n hx hb d_11_17_0 rfl (lv_at hl 0 rfl) ?_
    refine m_gi (C := "Ballothall$Poll") (T := TX9) (N := 12) (ci := 9) (k := 1) hx hb hts iX9 hown hG hP (yi_41 hL) (yt_41 hL) rfl (by decide) w_108 (fun _ h9 => h9) rfl rfl d_11_17_1 ?_
    refine lv_istore_n (lv' := [(2, .int (oI (M 41 1))), (0, .ref (ad 41)), (1, .int (oI x1))]) hx hb d_11_17_4 rfl hl (by decide) rfl (fun ls hl => ?_)
    refine lv_iconst (v := oI (-1)) hx hb d_11_17_5 (by decide +kernel) ?_
    refine lv_istore_n (lv' := [(3, .int (oI (-1))), (2, .int (oI (M 41 1))), (0, .ref (ad 41)), (1, .int (oI x1))]) hx hb d_11_17_6 rfl hl (by decide) rfl (fun ls hl => ?_)
    refine lv_iconst (v := oI 0) hx hb d_11_17_7 (by decide +kernel) ?_
    refine lv_istore (lv' := [(4, .int (oI 0)), (3, .int (oI (-1))), (2, .int (oI (M 41 1))), (0, .ref (ad 41)), (1, .int (oI x1))]) hx hb d_11_17_8 hl (by decide) rfl (fun ls hl => ?_)
    obtain ⟨⟨t7, v7_2, v7_3, v7_4⟩, g7, h⟩ := bd_e h
    obtain ⟨ok7, h⟩ := ck_e h
    refine s_Po_consensusPlace_10 l z ad E x1 hx hb hml hts hown hlocks hA hG hZ hL FU M (M 41 1) (-1) 0 t7 v7_2 v7_3 v7_4 g7 (fun e7 H locs ls hP hD hS hl => ?_) H locs ls hP hD hS (lv_sub hl [3, 4, 2, 1, 0] rfl)
    refine lv_iload_n hx hb d_11_17_40 rfl (lv_at hl 0 rfl) ?_
    obtain rfl := in1 h
    exact W.iret hx hb hr (fun t ht hW => qkA hP hD hS (fun k => k) rfl rfl ht) hS.2.2 d_11_17_41
  exact key _ _ _ hts hP hS
set_option maxRecDepth 100000 in
set_option maxHeartbeats 4000000 in
theorem s_B_consensusAt (l : Launch) (z : Zz) (ad : Nat → Nat) (E : Ev) (M : Mm) (x1 : Int) (r : Int) (N : Mm) (hL : Lay E) (h : f_B_consensusAt E M x1 = some (r, N)) : CT l z ⟨"Ballothall", "consensusAt", "(I)I"⟩ prog_1_method_30_code 2 (some .int) [.ref (ad 1), .int (oI x1)] (wv z ad E M) 4 115 0 0 (fun _ => some (.int (oI r))) (fun _ => (wv z ad E N)) := by
  refine CT.of (own := "Ballothall") (by decide +kernel) (Nat.le_of_ble_eq_true rfl) rfl (fun p e s m below meth c A ls hx hb hml hr hts hown hlocks hin hA hG hZ hP hD hS hl => ?_)
  have hl : lv_has ls 2 [(0, .ref (ad 1)), (1, .int (oI x1))] := hl
  have key : ∀ (H : Heap) (locs : List Loc) (args : Array Value), (∀ w ∈ WG, w.before args s = true) → va_P z.1 classes (wv z ad E M) H → va_S A s.heap H locs → W p l e (rmK 4 115 0 0) s m args below meth c H locs 0 0 (MQ below (QK z A (fun _ => some (.int (oI r))) (fun _ => (wv z ad E N))) args s 0 0 A) (F0 m 0 ls []) := by
    intro H locs args hts hP hS
    unfold f_B_consensusAt at h
    refine lv_iload_n hx hb d_1_30_0 rfl (lv_at hl 1 rfl) ?_
    refine lv_aload_n hx hb d_1_30_1 rfl (lv_at hl 0 rfl) ?_
    refine m_gr (j := 2) (C := "Ballothall") (T := TX11) (N := 14) (ci := 11) (k := 0) hx hb hts iX11 hown hG hP (yi_1 hL) (yt_1 hL) rfl (by decide) w_397 (fun _ h9 => h9) rfl rfl (yr_1_0 hL) d_1_30_2 ?_
    refine m_giN (C := "Ballothall$BallotBox") (T := TX0) (N := 10) (ci := 0) (k := 2) hx hb hts iX0 hown hG hP (yi_2 hL) (yt_2 hL) rfl (by decide) n_52 rfl (fun _ h9 => h9) rfl rfl d_1_30_5 ?_
    obtain ⟨_, g0, h⟩ := bd_e h
    refine kS (As := [.int (oI x1), .int (oI (M 2 2))]) (rest := []) (s_B_needPlace l z ad E M x1 (M 2 2) hL g0) hx hb hml hown hts w_1343 w_1341 w_1342 w_1 md_541664 ⟨Nat.le_of_ble_eq_true rfl, Nat.le_of_ble_eq_true rfl⟩ hG hZ hP hD hS hA rfl hl.1 rfl (Nat.le_of_ble_eq_true rfl) d_1_30_8 ⟨Nat.le_of_ble_eq_true rfl, Nat.le_of_ble_eq_true rfl⟩ (fun _ H locs hP hD hS => ?_)
    have hP : va_P z.1 classes (wv z ad E M) H := hP
    have hD : va_D A (wv z ad E M) := hD
    refine W.eq (g2 := F0 m 11 ls []) rfl ?_
    refine lv_aload_n hx hb d_1_30_11 rfl (lv_at hl 0 rfl) ?_
    refine m_gr (j := 41) (C := "Ballothall") (T := TX11) (N := 14) (ci := 11) (k := 1) hx hb hts iX11 hown hG hP (yi_1 hL) (yt_1 hL) rfl (by decide) w_398 (fun _ h9 => h9) rfl rfl (yr_1_1 hL) d_1_30_12 ?_
    refine lv_aload_n hx hb d_1_30_15 rfl (lv_at hl 0 rfl) ?_
    refine m_gr (j := 2) (C := "Ballothall") (T := TX11) (N := 14) (ci := 11) (k := 0) hx hb hts iX11 hown hG hP (yi_1 hL) (yt_1 hL) rfl (by decide) w_397 (fun _ h9 => h9) rfl rfl (yr_1_0 hL) d_1_30_16 ?_
    obtain ⟨r1, g1, h⟩ := bd_e h
    refine kVN (As := []) (rest := [.ref (ad 41)]) (s_Bx_everybody l z ad E M r1 hL g1) hx hb hml hown hts w_668 n_665 w_667 w_s_8b8b67 w_2 md_b59579 ⟨Nat.le_of_ble_eq_true rfl, Nat.le_of_ble_eq_true rfl⟩ hG hZ hP hD hS hA 2 (wv_o (ci := 0) (yi_2 hL) (yt_2 hL)) rfl rfl rfl hl.1 rfl (Nat.le_of_ble_eq_true rfl) d_1_30_19 ⟨Nat.le_of_ble_eq_true rfl, Nat.le_of_ble_eq_true rfl⟩ (fun _ H locs hP hD hS => ?_)
    have hP : va_P z.1 classes (wv z ad E M) H := hP
    have hD : va_D A (wv z ad E M) := hD
    refine W.eq (g2 := F0 m 22 ls [.int (oI r1), .ref (ad 41)]) rfl ?_
    obtain ⟨M2, g2, h⟩ := bd_e h
    refine kVN (As := [.int (oI r1)]) (rest := []) (s_Po_open l z ad E M r1 M2 hL g2) hx hb hml hown hts w_672 n_669 w_671 w_s_229dc4 w_3 md_60bc9b ⟨Nat.le_of_ble_eq_true rfl, Nat.le_of_ble_eq_true rfl⟩ hG hZ hP hD hS hA 41 (wv_o (ci := 9) (yi_41 hL) (yt_41 hL)) rfl rfl rfl hl.1 rfl (Nat.le_of_ble_eq_true rfl) d_1_30_22 ⟨Nat.le_of_ble_eq_true rfl, Nat.le_of_ble_eq_true rfl⟩ (fun _ H locs hP hD hS => ?_)
    have hP : va_P z.1 classes (wv z ad E M2) H := hP
    have hD : va_D A (wv z ad E M2) := hD
    refine W.eq (g2 := F0 m 25 ls []) rfl ?_
    refine lv_aload_n hx hb d_1_30_25 rfl (lv_at hl 0 rfl) ?_
    refine m_gr (j := 41) (C := "Ballothall") (T := TX11) (N := 14) (ci := 11) (k := 1) hx hb hts iX11 hown hG hP (yi_1 hL) (yt_1 hL) rfl (by decide) w_398 (fun _ h9 => h9) rfl rfl (yr_1_1 hL) d_1_30_26 ?_
    obtain ⟨M3, g3, h⟩ := bd_e h
    refine kVN (As := []) (rest := []) (s_Po_findDistances l z ad E M2 M3 hL g3) hx hb hml hown hts w_713 n_710 w_712 w_s_d32e6f w_3 md_4b14b3 ⟨Nat.le_of_ble_eq_true rfl, Nat.le_of_ble_eq_true rfl⟩ hG hZ hP hD hS hA 41 (wv_o (ci := 9) (yi_41 hL) (yt_41 hL)) rfl rfl rfl hl.1 rfl (Nat.le_of_ble_eq_true rfl) d_1_30_29 ⟨Nat.le_of_ble_eq_true rfl, Nat.le_of_ble_eq_true rfl⟩ (fun _ H locs hP hD hS => ?_)
    have hP : va_P z.1 classes (wv z ad E M3) H := hP
    have hD : va_D A (wv z ad E M3) := hD
    refine W.eq (g2 := F0 m 32 ls []) rfl ?_
    refine lv_aload_n hx hb d_1_30_32 rfl (lv_at hl 0 rfl) ?_
    refine m_gr (j := 41) (C := "Ballothall") (T := TX11) (N := 14) (ci := 11) (k := 1) hx hb hts iX11 hown hG hP (yi_1 hL) (yt_1 hL) rfl (by decide) w_398 (fun _ h9 => h9) rfl rfl (yr_1_1 hL) d_1_30_33 ?_
    refine lv_iload_n hx hb d_1_30_36 rfl (lv_at hl 1 rfl) ?_
    obtain ⟨r4, g4, h⟩ := bd_e h
    refine kVN (As := [.int (oI x1)]) (rest := []) (s_Po_consensusPlace l z ad E M3 x1 r4 hL g4) hx hb hml hown hts w_742 n_739 w_741 w_s_cb37ef w_3 md_2413b1 ⟨Nat.le_of_ble_eq_true rfl, Nat.le_of_ble_eq_true rfl⟩ hG hZ hP hD hS hA 41 (wv_o (ci := 9) (yi_41 hL) (yt_41 hL)) rfl rfl rfl hl.1 rfl (Nat.le_of_ble_eq_true rfl) d_1_30_37 ⟨Nat.le_of_ble_eq_true rfl, Nat.le_of_ble_eq_true rfl⟩ (fun _ H locs hP hD hS => ?_)
    have hP : va_P z.1 classes (wv z ad E M3) H := hP
    have hD : va_D A (wv z ad E M3) := hD
    refine W.eq (g2 := F0 m 40 ls [.int (oI r4)]) rfl ?_
    obtain ⟨rfl, rfl⟩ := in2 h
    exact W.iret hx hb hr (fun t ht hW => qkA hP hD hS (fun k => k) rfl rfl ht) hS.2.2 d_1_30_40
  exact key _ _ _ hts hP hS
set_option maxRecDepth 100000 in
set_option maxHeartbeats 4000000 in
theorem s_B_consensusDistance (l : Launch) (z : Zz) (ad : Nat → Nat) (E : Ev) (M : Mm) (r : Int) (N : Mm) (hL : Lay E) (h : f_B_consensusDistance E M = some (r, N)) : CT l z ⟨"Ballothall", "consensusDistance", "()J"⟩ prog_1_method_31_code 1 (some .long) [.ref (ad 1)] (wv z ad E M) 4 115 0 0 (fun _ => some (.long (oJ r))) (fun _ => (wv z ad E N)) := by
  refine CT.of (own := "Ballothall") (by decide +kernel) (Nat.le_of_ble_eq_true rfl) rfl (fun p e s m below meth c A ls hx hb hml hr hts hown hlocks hin hA hG hZ hP hD hS hl => ?_)
  have hl : lv_has ls 1 [(0, .ref (ad 1))] := hl
  have key : ∀ (H : Heap) (locs : List Loc) (args : Array Value), (∀ w ∈ WG, w.before args s = true) → va_P z.1 classes (wv z ad E M) H → va_S A s.heap H locs → W p l e (rmK 4 115 0 0) s m args below meth c H locs 0 0 (MQ below (QK z A (fun _ => some (.long (oJ r))) (fun _ => (wv z ad E N))) args s 0 0 A) (F0 m 0 ls []) := by
    intro H locs args hts hP hS
    unfold f_B_consensusDistance at h
    refine lv_aload_n hx hb d_1_31_0 rfl (lv_at hl 0 rfl) ?_
    refine m_gr (j := 41) (C := "Ballothall") (T := TX11) (N := 14) (ci := 11) (k := 1) hx hb hts iX11 hown hG hP (yi_1 hL) (yt_1 hL) rfl (by decide) w_398 (fun _ h9 => h9) rfl rfl (yr_1_1 hL) d_1_31_1 ?_
    refine lv_aload_n hx hb d_1_31_4 rfl (lv_at hl 0 rfl) ?_
    refine m_gr (j := 2) (C := "Ballothall") (T := TX11) (N := 14) (ci := 11) (k := 0) hx hb hts iX11 hown hG hP (yi_1 hL) (yt_1 hL) rfl (by decide) w_397 (fun _ h9 => h9) rfl rfl (yr_1_0 hL) d_1_31_5 ?_
    obtain ⟨r0, g0, h⟩ := bd_e h
    refine kVN (As := []) (rest := [.ref (ad 41)]) (s_Bx_everybody l z ad E M r0 hL g0) hx hb hml hown hts w_668 n_665 w_667 w_s_8b8b67 w_2 md_b59579 ⟨Nat.le_of_ble_eq_true rfl, Nat.le_of_ble_eq_true rfl⟩ hG hZ hP hD hS hA 2 (wv_o (ci := 0) (yi_2 hL) (yt_2 hL)) rfl rfl rfl hl.1 rfl (Nat.le_of_ble_eq_true rfl) d_1_31_8 ⟨Nat.le_of_ble_eq_true rfl, Nat.le_of_ble_eq_true rfl⟩ (fun _ H locs hP hD hS => ?_)
    have hP : va_P z.1 classes (wv z ad E M) H := hP
    have hD : va_D A (wv z ad E M) := hD
    refine W.eq (g2 := F0 m 11 ls [.int (oI r0), .ref (ad 41)]) rfl ?_
    obtain ⟨M1, g1, h⟩ := bd_e h
    refine kVN (As := [.int (oI r0)]) (rest := []) (s_Po_open l z ad E M r0 M1 hL g1) hx hb hml hown hts w_672 n_669 w_671 w_s_229dc4 w_3 md_60bc9b ⟨Nat.le_of_ble_eq_true rfl, Nat.le_of_ble_eq_true rfl⟩ hG hZ hP hD hS hA 41 (wv_o (ci := 9) (yi_41 hL) (yt_41 hL)) rfl rfl rfl hl.1 rfl (Nat.le_of_ble_eq_true rfl) d_1_31_11 ⟨Nat.le_of_ble_eq_true rfl, Nat.le_of_ble_eq_true rfl⟩ (fun _ H locs hP hD hS => ?_)
    have hP : va_P z.1 classes (wv z ad E M1) H := hP
    have hD : va_D A (wv z ad E M1) := hD
    refine W.eq (g2 := F0 m 14 ls []) rfl ?_
    refine lv_aload_n hx hb d_1_31_14 rfl (lv_at hl 0 rfl) ?_
    refine m_gr (j := 41) (C := "Ballothall") (T := TX11) (N := 14) (ci := 11) (k := 1) hx hb hts iX11 hown hG hP (yi_1 hL) (yt_1 hL) rfl (by decide) w_398 (fun _ h9 => h9) rfl rfl (yr_1_1 hL) d_1_31_15 ?_
    obtain ⟨M2, g2, h⟩ := bd_e h
    refine kVN (As := []) (rest := []) (s_Po_findDistances l z ad E M1 M2 hL g2) hx hb hml hown hts w_713 n_710 w_712 w_s_d32e6f w_3 md_4b14b3 ⟨Nat.le_of_ble_eq_true rfl, Nat.le_of_ble_eq_true rfl⟩ hG hZ hP hD hS hA 41 (wv_o (ci := 9) (yi_41 hL) (yt_41 hL)) rfl rfl rfl hl.1 rfl (Nat.le_of_ble_eq_true rfl) d_1_31_18 ⟨Nat.le_of_ble_eq_true rfl, Nat.le_of_ble_eq_true rfl⟩ (fun _ H locs hP hD hS => ?_)
    have hP : va_P z.1 classes (wv z ad E M2) H := hP
    have hD : va_D A (wv z ad E M2) := hD
    refine W.eq (g2 := F0 m 21 ls []) rfl ?_
    refine lv_aload_n hx hb d_1_31_21 rfl (lv_at hl 0 rfl) ?_
    refine m_gr (j := 41) (C := "Ballothall") (T := TX11) (N := 14) (ci := 11) (k := 1) hx hb hts iX11 hown hG hP (yi_1 hL) (yt_1 hL) rfl (by decide) w_398 (fun _ h9 => h9) rfl rfl (yr_1_1 hL) d_1_31_22 ?_
    refine m_grN (j := 50) (C := "Ballothall$Poll") (T := TX9) (N := 12) (ci := 9) (k := 11) hx hb hts iX9 hown hG hP (yi_41 hL) (yt_41 hL) rfl (by decide) n_119 rfl (fun _ h9 => h9) rfl rfl (yr_41_11 hL) d_1_31_25 ?_
    refine lv_aload_n hx hb d_1_31_28 rfl (lv_at hl 0 rfl) ?_
    refine m_gr (j := 2) (C := "Ballothall") (T := TX11) (N := 14) (ci := 11) (k := 0) hx hb hts iX11 hown hG hP (yi_1 hL) (yt_1 hL) rfl (by decide) w_397 (fun _ h9 => h9) rfl rfl (yr_1_0 hL) d_1_31_29 ?_
    obtain ⟨r3, g3, h⟩ := bd_e h
    refine kVN (As := []) (rest := [.ref (ad 50)]) (s_Bx_everybody l z ad E M2 r3 hL g3) hx hb hml hown hts w_668 n_665 w_667 w_s_8b8b67 w_2 md_b59579 ⟨Nat.le_of_ble_eq_true rfl, Nat.le_of_ble_eq_true rfl⟩ hG hZ hP hD hS hA 2 (wv_o (ci := 0) (yi_2 hL) (yt_2 hL)) rfl rfl rfl hl.1 rfl (Nat.le_of_ble_eq_true rfl) d_1_31_32 ⟨Nat.le_of_ble_eq_true rfl, Nat.le_of_ble_eq_true rfl⟩ (fun _ H locs hP hD hS => ?_)
    have hP : va_P z.1 classes (wv z ad E M2) H := hP
    have hD : va_D A (wv z ad E M2) := hD
    refine W.eq (g2 := F0 m 35 ls [.int (oI r3), .ref (ad 50)]) rfl ?_
    obtain ⟨ok4, h⟩ := ck_e h
    refine m_la hx hb hG hP (yi_50 hL) (yt_50 hL) ok4 d_1_31_35 ?_
    obtain ⟨rfl, rfl⟩ := in2 h
    exact W.lret hx hb hr (fun t ht hW => qkA hP hD hS (fun k => k) rfl rfl ht) hS.2.2 d_1_31_36
  exact key _ _ _ hts hP hS
set_option maxRecDepth 100000 in
set_option maxHeartbeats 4000000 in
theorem s_Co_latest (l : Launch) (z : Zz) (ad : Nat → Nat) (E : Ev) (M : Mm) (r : Option Nat)  (hL : Lay E) (h : f_Co_latest E M = some r) : CT l z ⟨"Ballothall$Counting", "latest", "()LBallothall$Count;"⟩ prog_5_method_2_code 1 (some (.object "Ballothall$Count")) [.ref (ad 179)] (wv z ad E M) 0 20 0 0 (fun _ => some (orf ad r)) (fun _ => (wv z ad E M)) := by
  refine CT.of (own := "Ballothall$Counting") (by decide +kernel) (Nat.le_of_ble_eq_true rfl) rfl (fun p e s m below meth c A ls hx hb hml hr hts hown hlocks hin hA hG hZ hP hD hS hl => ?_)
  have hl : lv_has ls 1 [(0, .ref (ad 179))] := hl
  have key : ∀ (H : Heap) (locs : List Loc) (args : Array Value), (∀ w ∈ WG, w.before args s = true) → va_P z.1 classes (wv z ad E M) H → va_S A s.heap H locs → W p l e (rmK 0 20 0 0) s m args below meth c H locs 0 0 (MQ below (QK z A (fun _ => some (orf ad r)) (fun _ => (wv z ad E M))) args s 0 0 A) (F0 m 0 ls []) := by
    intro H locs args hts hP hS
    unfold f_Co_latest at h
    refine lv_aload_n hx hb d_5_2_0 rfl (lv_at hl 0 rfl) ?_
    refine m_gr (j := 180) (C := "Ballothall$Counting") (T := TX3) (N := 15) (ci := 3) (k := 1) hx hb hts iX3 hown hG hP (yi_179 hL) (yt_179 hL) rfl (by decide) w_304 (fun _ h9 => h9) rfl rfl (yr_179_1 hL) d_5_2_1 ?_
    refine lv_aload_n hx hb d_5_2_4 rfl (lv_at hl 0 rfl) ?_
    refine m_gi (C := "Ballothall$Counting") (T := TX3) (N := 15) (ci := 3) (k := 2) hx hb hts iX3 hown hG hP (yi_179 hL) (yt_179 hL) rfl (by decide) w_305 (fun _ h9 => h9) rfl rfl d_5_2_5 ?_
    obtain ⟨ok0, h⟩ := ck_e h
    refine m_aO (t := 4) (C := "Ballothall$Count") hx hb hG hP (yi_180 hL) (yt_180 hL) rfl rfl ok0 d_5_2_8 ?_
    obtain rfl := in1 h
    exact W.aret hx hb hr (Or.inl ⟨_, rfl⟩) orf_or (fun t ht hW => qkA hP hD hS (fun k => k) rfl rfl ht) hS.2.2 d_5_2_9
  exact key _ _ _ hts hP hS
set_option maxRecDepth 100000 in
set_option maxHeartbeats 4000000 in
theorem b_Na_become_10b (l : Launch) (z : Zz) (ad : Nat → Nat) (E : Ev) (M : Mm) (q0 : Nat) (x3 : Int) (x5 : Int) (t : Nat) (w3 : Int) (w5 : Int) (N : Mm) {Q : State → Prop} {p : Program} {e : Env} {s : State} {m : MethodId} {below : List Frame} {meth : Method} {c : Code} {A : Nat → Prop} {args : Array Value} (hx : p.tables.exec = Jvm.exec) (hb : c.code = prog_10_method_2_code) (hml : c.maxLocals = 6) (hts : ∀ w ∈ WG, w.before args s = true) (hown : s.vm.findClass "Ballothall$Natural" = some m.cls) (hlocks : meth.locks = false) (hA : ∀ q, s.heap.size ≤ q → A q) (hG : KG z s) (hZ : FZ z A s) (hL : Lay E) (h : Na_become_10b E M q0 x3 x5 = some (t, w3, w5, N)) (k0 : t = 0 → ∀ (H : Heap) (locs : List Loc) (ls : Array Slot), va_P z.1 classes (wv z ad E N) H → va_D A (wv z ad E N) → va_S A s.heap H locs → lv_has ls 6 [(0, .ref (ad q0)), (3, .long (oJ w3)), (5, .int (oI w5))] → W p l e (rmK 0 20 0 0) s m args below meth c H locs 0 0 Q (F0 m 10 ls [])) (k1 : t = 1 → ∀ (H : Heap) (locs : List Loc) (ls : Array Slot), va_P z.1 classes (wv z ad E N) H → va_D A (wv z ad E N) → va_S A s.heap H locs → lv_has ls 6 [] → W p l e (rmK 0 20 0 0) s m args below meth c H locs 0 0 Q (F0 m 57 ls [])) : ∀ (H : Heap) (locs : List Loc) (ls : Array Slot), va_P z.1 classes (wv z ad E M) H → va_D A (wv z ad E M) → va_S A s.heap H locs → lv_has ls 6 [(0, .ref (ad q0)), (3, .long (oJ x3)), (5, .int (oI x5))] → W p l e (rmK 0 20 0 0) s m args below meth c H locs 0 0 Q (F0 m 10 ls []) := by
  intro H locs ls hP hD hS hl
  unfold Na_become_10b at h
  obtain ⟨h_q0, h⟩ := ck_e h
  refine lv_iload hx hb d_10_2_10 (lv_at hl 2 rfl) ?_
  refine lv_bipush (v := oI 13) hx hb d_10_2_12 (by decide +kernel) ?_
  obtain ⟨ok0, h⟩ := ck_e h
  refine lv_icmp_ge (tgt := 57) hx hb d_10_2_14 (by decide) (fun c9 => ?_) (fun c9 => ?_)
  · have h := ite_t ((oI_le (a := (13 : Int)) (b := x5) (by decide) ok0).mp c9) h
    obtain ⟨rfl, rfl, rfl, rfl⟩ := in4 h
    exact k1 rfl H locs ls hP hD hS (lv_sub hl [] rfl)
  · have h := ite_f (fun q => c9 ((oI_le (a := (13 : Int)) (b := x5) (by decide) ok0).mpr q)) h
    refine lv_lload_n hx hb d_10_2_17 rfl (lv_at hl 1 rfl) ?_
    refine lv_lconst (v := oJ 0) hx hb d_10_2_18 (by decide +kernel) ?_
    obtain ⟨ok1, h⟩ := ck_e h
    refine W.lcmp hx hb d_10_2_19 ?_
    refine nrm (cmp_val (a := x3) (b := (0 : Int)) ok1 (by decide)) ?_
    refine lv_if_le (tgt := 57) hx hb d_10_2_20 (by decide) (fun c9 => ?_) (fun c9 => ?_)
    · have h := ite_t ((cmp_le x3 (0 : Int)).mp c9) h
      obtain ⟨rfl, rfl, rfl, rfl⟩ := in4 h
      exact k1 rfl H locs ls hP hD hS (lv_sub hl [] rfl)
    · have h := ite_f (fun q => c9 ((cmp_le x3 (0 : Int)).mpr q)) h
      refine lv_aload_n hx hb d_10_2_23 rfl (lv_at hl 0 rfl) ?_
      refine m_gr (j := (q0 + 1)) (C := "Ballothall$Natural") (T := TX8) (N := 2) (ci := 8) (k := 0) hx hb hts iX8 hown hG hP (isNa_i h_q0) (isNa_T h_q0) rfl (by decide) w_294 (fun _ h9 => h9) rfl rfl (isNa_r0 h_q0) d_10_2_24 ?_
      refine lv_iload hx hb d_10_2_27 (lv_at hl 2 rfl) ?_
      refine lv_lload_n hx hb d_10_2_29 rfl (lv_at hl 1 rfl) ?_
      refine lv_ldc2 hx hb hown (hts _ w_605) d_10_2_30 ?_
      refine nrmL (x1 := oJ 1073741823) (by decide +kernel) ?_
      refine lv_land hx hb d_10_2_33 ?_
      refine nrmL (oJ_m30 _) ?_
      refine lv_l2i (v := oI (x3 % 1073741824)) hx hb d_10_2_34 (oJ_i _) ?_
      obtain ⟨ok2, h⟩ := ck_e h
      refine m_is hx hb hG hP hD hS (isNa_i1 h_q0) (isNa_t1 h_q0) ok2 d_10_2_35 (fun H locs hP hD hS => ?_)
      have hP : va_P z.1 classes (wv z ad E (u2 M (q0 + 1) x5.toNat (x3 % 1073741824))) H := hP
      have hD : va_D A (wv z ad E (u2 M (q0 + 1) x5.toNat (x3 % 1073741824))) := hD
      refine lv_lload_n hx hb d_10_2_36 rfl (lv_at hl 1 rfl) ?_
      refine lv_bipush (v := oI 30) hx hb d_10_2_37 (by decide +kernel) ?_
      refine lv_lshr (v := oJ (x3 / 1073741824)) hx hb d_10_2_39 (oJ_shr (b := (30 : Int)) ok1 (by decide) (by decide)) ?_
      refine lv_lstore_n (lv' := [(3, .long (oJ (x3 / 1073741824))), (0, .ref (ad q0)), (5, .int (oI x5))]) hx hb d_10_2_40 rfl hl (by decide) rfl (fun ls hl => ?_)
      refine lv_aload_n hx hb d_10_2_41 rfl (lv_at hl 1 rfl) ?_
      refine lv_dup hx hb d_10_2_42 rfl ?_
      refine m_gi (C := "Ballothall$Natural") (T := TX8) (N := 2) (ci := 8) (k := 1) hx hb hts iX8 hown hG hP (isNa_i h_q0) (isNa_T h_q0) rfl (by decide) w_295 (fun _ h9 => h9) rfl rfl d_10_2_43 ?_
      refine lv_iconst (v := oI 1) hx hb d_10_2_46 (by decide +kernel) ?_
      refine lv_iadd hx hb d_10_2_47 ?_
      refine nrm (oI_add _ _) ?_
      refine m_pi (C := "Ballothall$Natural") (T := TX8) (N := 2) (ci := 8) (k := 1) (ty := .int) hx hb hts iX8 hown hG hP hD hS (isNa_i h_q0) (isNa_T h_q0) rfl (by decide) w_295 (fun _ h9 => h9) rfl rfl tyX8_ok nmX8 rfl (by decide +kernel) rfl rfl d_10_2_48 (fun H locs hP hD hS => ?_)
      have hP : va_P z.1 classes (wv z ad E (u2 (u2 M (q0 + 1) x5.toNat (x3 % 1073741824)) q0 1 (((u2 M (q0 + 1) x5.toNat (x3 % 1073741824)) q0 1) + 1))) H := hP
      have hD : va_D A (wv z ad E (u2 (u2 M (q0 + 1) x5.toNat (x3 % 1073741824)) q0 1 (((u2 M (q0 + 1) x5.toNat (x3 % 1073741824)) q0 1) + 1))) := hD
      obtain ⟨M3, e3, h⟩ := nb_e h
      rw [← e3] at hP hD
      refine lv_iinc (v := oI (x5 + 1)) (lv' := [(5, .int (oI (x5 + 1))), (3, .long (oJ (x3 / 1073741824))), (0, .ref (ad q0))]) hx hb d_10_2_51 hl (k := 2) rfl (oI_add x5 1) (by decide) rfl (fun ls hl => ?_)
      refine lv_goto (tgt := 10) hx hb d_10_2_54 (by decide) ?_
      obtain ⟨rfl, rfl, rfl, rfl⟩ := in4 h
      exact k0 rfl H locs ls hP hD hS (lv_sub hl [2, 1, 0] rfl)
set_option maxRecDepth 100000 in
set_option maxHeartbeats 4000000 in
theorem s_Na_become_10 (l : Launch) (z : Zz) (ad : Nat → Nat) (E : Ev) (q0 : Nat) {Q : State → Prop} {p : Program} {e : Env} {s : State} {m : MethodId} {below : List Frame} {meth : Method} {c : Code} {A : Nat → Prop} {args : Array Value} (hx : p.tables.exec = Jvm.exec) (hb : c.code = prog_10_method_2_code) (hml : c.maxLocals = 6) (hts : ∀ w ∈ WG, w.before args s = true) (hown : s.vm.findClass "Ballothall$Natural" = some m.cls) (hlocks : meth.locks = false) (hA : ∀ q, s.heap.size ≤ q → A q) (hG : KG z s) (hZ : FZ z A s) (hL : Lay E) : ∀ (fu : Nat) (M : Mm) (x3 : Int) (x5 : Int) (t : Nat) (w3 : Int) (w5 : Int) (N : Mm), l_Na_become_10 E q0 fu M x3 x5 = some (t, w3, w5, N) → (t = 1 → ∀ (H : Heap) (locs : List Loc) (ls : Array Slot), va_P z.1 classes (wv z ad E N) H → va_D A (wv z ad E N) → va_S A s.heap H locs → lv_has ls 6 [] → W p l e (rmK 0 20 0 0) s m args below meth c H locs 0 0 Q (F0 m 57 ls [])) → ∀ (H : Heap) (locs : List Loc) (ls : Array Slot), va_P z.1 classes (wv z ad E M) H → va_D A (wv z ad E M) → va_S A s.heap H locs → lv_has ls 6 [(0, .ref (ad q0)), (3, .long (oJ x3)), (5, .int (oI x5))] → W p l e (rmK 0 20 0 0) s m args below meth c H locs 0 0 Q (F0 m 10 ls []) := by
  intro fu
  induction fu with
  | zero =>
    intro M x3 x5 t w3 w5 N h
    have h : (none : Option (Nat × Int × Int × Mm)) = some _ := h
    cases h
  | succ fu ih =>
    intro M x3 x5 t w3 w5 N h k1 H locs ls hP hD hS hl
    obtain ⟨⟨t0, w30, w50, N9⟩, g0, h⟩ := bd_e h
    refine b_Na_become_10b l z ad E M q0 x3 x5 t0 w30 w50 N9 hx hb hml hts hown hlocks hA hG hZ hL g0 (fun e0 => ?_) (fun e0 => ?_) H locs ls hP hD hS hl
    · subst e0
      have h := ite_t rfl h
      exact ih N9 w30 w50 t w3 w5 N h k1
    · subst e0
      have h := ite_f (by decide) h
      obtain ⟨rfl, rfl, rfl, rfl⟩ := in4 h
      exact k1 rfl
set_option maxRecDepth 100000 in
set_option maxHeartbeats 4000000 in
theorem s_Na_become (l : Launch) (z : Zz) (ad : Nat → Nat) (E : Ev) (M : Mm) (p0 : Nat) (x1 : Int) (N : Mm) (hL : Lay E) (h : f_Na_become E M p0 x1 = some N) : CT l z ⟨"Ballothall$Natural", "become", "(J)V"⟩ prog_10_method_2_code 6 none [.ref (ad p0), .long (oJ x1)] (wv z ad E M) 0 20 0 0 (fun _ => none) (fun _ => (wv z ad E N)) := by
  refine CT.of (own := "Ballothall$Natural") (by decide +kernel) (Nat.le_of_ble_eq_true rfl) rfl (fun p e s m below meth c A ls hx hb hml hr hts hown hlocks hin hA hG hZ hP hD hS hl => ?_)
  have hl : lv_has ls 6 [(0, .ref (ad p0)), (1, .long (oJ x1))] := hl
  have key : ∀ (H : Heap) (locs : List Loc) (args : Array Value), (∀ w ∈ WG, w.before args s = true) → va_P z.1 classes (wv z ad E M) H → va_S A s.heap H locs → W p l e (rmK 0 20 0 0) s m args below meth c H locs 0 0 (MQ below (QK z A (fun _ => none) (fun _ => (wv z ad E N))) args s 0 0 A) (F0 m 0 ls []) := by
    intro H locs args hts hP hS
    unfold f_Na_become at h
    obtain ⟨h_p0, h⟩ := ck_e h
    refine lv_lload_n hx hb d_10_2_0 rfl (lv_at hl 1 rfl) ?_
    refine lv_lstore_n (lv' := [(3, .long (oJ x1)), (0, .ref (ad p0)), (1, .long (oJ x1))]) hx hb d_10_2_1 rfl hl (by decide) rfl (fun ls hl => ?_)
    refine lv_aload_n hx hb d_10_2_2 rfl (lv_at hl 1 rfl) ?_
    refine lv_iconst (v := oI 0) hx hb d_10_2_3 (by decide +kernel) ?_
    refine m_pi (C := "Ballothall$Natural") (T := TX8) (N := 2) (ci := 8) (k := 1) (ty := .int) hx hb hts iX8 hown hG hP hD hS (isNa_i h_p0) (isNa_T h_p0) rfl (by decide) w_295 (fun _ h9 => h9) rfl rfl tyX8_ok nmX8 rfl (by decide +kernel) rfl rfl d_10_2_4 (fun H locs hP hD hS => ?_)
    have hP : va_P z.1 classes (wv z ad E (u2 M p0 1 0)) H := hP
    have hD : va_D A (wv z ad E (u2 M p0 1 0)) := hD
    refine lv_iconst (v := oI 0) hx hb d_10_2_7 (by decide +kernel) ?_
    refine lv_istore (lv' := [(5, .int (oI 0)), (3, .long (oJ x1)), (0, .ref (ad p0)), (1, .long (oJ x1))]) hx hb d_10_2_8 hl (by decide) rfl (fun ls hl => ?_)
    obtain ⟨⟨t4, v4_3, v4_5, M4⟩, g4, h⟩ := bd_e h
    obtain ⟨ok4, h⟩ := ck_e h
    refine s_Na_become_10 l z ad E p0 hx hb hml hts hown hlocks hA hG hZ hL FU (u2 M p0 1 0) x1 0 t4 v4_3 v4_5 M4 g4 (fun e4 H locs ls hP hD hS hl => ?_) H locs ls hP hD hS (lv_sub hl [2, 1, 0] rfl)
    obtain rfl := in1 h
    exact W.vret hx hb hr (fun t ht hW => qkA hP hD hS (fun k => k) rfl rfl ht) hS.2.2 d_10_2_57
  exact key _ _ _ hts hP hS
set_option maxRecDepth 100000 in
set_option maxHeartbeats 4000000 in
theorem s_Ct_placeOf (l : Launch) (z : Zz) (ad : Nat → Nat) (E : Ev) (M : Mm) (p0 : Nat) (x1 : Int) (x2 : Int) (r : Int)  (hL : Lay E) (h : f_Ct_placeOf E M p0 x1 x2 = some r) : CT l z ⟨"Ballothall$Count", "placeOf", "(II)I"⟩ prog_4_method_2_code 3 (some .int) [.ref (ad p0), .int (oI x1), .int (oI x2)] (wv z ad E M) 0 20 0 0 (fun _ => some (.int (oI r))) (fun _ => (wv z ad E M)) := by
  refine CT.of (own := "Ballothall$Count") (by decide +kernel) (Nat.le_of_ble_eq_true rfl) rfl (fun p e s m below meth c A ls hx hb hml hr hts hown hlocks hin hA hG hZ hP hD hS hl => ?_)
  have hl : lv_has ls 3 [(0, .ref (ad p0)), (1, .int (oI x1)), (2, .int (oI x2))] := hl
  have key : ∀ (H : Heap) (locs : List Loc) (args : Array Value), (∀ w ∈ WG, w.before args s = true) → va_P z.1 classes (wv z ad E M) H → va_S A s.heap H locs → W p l e (rmK 0 20 0 0) s m args below meth c H locs 0 0 (MQ below (QK z A (fun _ => some (.int (oI r))) (fun _ => (wv z ad E M))) args s 0 0 A) (F0 m 0 ls []) := by
    intro H locs args hts hP hS
    unfold f_Ct_placeOf at h
    obtain ⟨h_p0, h⟩ := ck_e h
    refine lv_iload_n hx hb d_4_2_0 rfl (lv_at hl 1 rfl) ?_
    refine lv_bipush (v := oI 10) hx hb d_4_2_1 (by decide +kernel) ?_
    refine lv_imul hx hb d_4_2_3 ?_
    refine nrm (oI_mul _ _) ?_
    refine lv_iload_n hx hb d_4_2_4 rfl (lv_at hl 2 rfl) ?_
    refine lv_iadd hx hb d_4_2_5 ?_
    refine nrm (oI_add _ _) ?_
    refine lv_bipush (v := oI 13) hx hb d_4_2_6 (by decide +kernel) ?_
    refine lv_imul hx hb d_4_2_8 ?_
    refine nrm (oI_mul _ _) ?_
    obtain rfl := in1 h
    exact W.iret hx hb hr (fun t ht hW => qkA hP hD hS (fun k => k) rfl rfl ht) hS.2.2 d_4_2_9
  exact key _ _ _ hts hP hS
set_option maxRecDepth 100000 in
set_option maxHeartbeats 4000000 in
theorem s_Na_load (l : Launch) (z : Zz) (ad : Nat → Nat) (E : Ev) (M : Mm) (p0 : Nat) (p1 : Nat) (x2 : Int) (N : Mm) (hL : Lay E) (h : f_Na_load E M p0 p1 x2 = some N) : CT l z ⟨"Ballothall$Natural", "load", "([II)V"⟩ prog_10_method_5_code 3 none [.ref (ad p0), .ref (ad p1), .int (oI x2)] (wv z ad E M) 2 61 0 0 (fun _ => none) (fun _ => (wv z ad E N)) := by
  refine CT.of (own := "Ballothall$Natural") (by decide +kernel) (Nat.le_of_ble_eq_true rfl) rfl (fun p e s m below meth c A ls hx hb hml hr hts hown hlocks hin hA hG hZ hP hD hS hl => ?_)
  have hl : lv_has ls 3 [(0, .ref (ad p0)), (1, .ref (ad p1)), (2, .int (oI x2))] := hl
  have key : ∀ (H : Heap) (locs : List Loc) (args : Array Value), (∀ w ∈ WG, w.before args s = true) → va_P z.1 classes (wv z ad E M) H → va_S A s.heap H locs → W p l e (rmK 2 61 0 0) s m args below meth c H locs 0 0 (MQ below (QK z A (fun _ => none) (fun _ => (wv z ad E N))) args s 0 0 A) (F0 m 0 ls []) := by
    intro H locs args hts hP hS
    unfold f_Na_load at h
    obtain ⟨h_p0, h⟩ := ck_e h
    obtain ⟨h_p1, h⟩ := ck_e h
    refine lv_aload_n hx hb d_10_5_0 rfl (lv_at hl 1 rfl) ?_
    refine lv_iload_n hx hb d_10_5_1 rfl (lv_at hl 2 rfl) ?_
    refine lv_aload_n hx hb d_10_5_2 rfl (lv_at hl 0 rfl) ?_
    refine m_gr (j := (p0 + 1)) (C := "Ballothall$Natural") (T := TX8) (N := 2) (ci := 8) (k := 0) hx hb hts iX8 hown hG hP (isNa_i h_p0) (isNa_T h_p0) rfl (by decide) w_294 (fun _ h9 => h9) rfl rfl (isNa_r0 h_p0) d_10_5_3 ?_
    refine lv_iconst (v := oI 0) hx hb d_10_5_6 (by decide +kernel) ?_
    refine lv_bipush (v := oI 13) hx hb d_10_5_7 (by decide +kernel) ?_
    obtain ⟨ok0, h⟩ := ck_e h
    refine m_cpy hx hb (by rw [hml]; exact hl.1.symm) hown (hts _ w_619) (hts _ w_621) (hts _ w_620) (hts _ w_24) hG hP hD hS h_p1.1 (isIA_T h_p1) (isNa_i1 h_p0) (isNa_t1 h_p0) ok0 (Nat.le_of_ble_eq_true rfl) (Nat.le_of_ble_eq_true rfl) d_10_5_9 (fun H locs hP hD hS => ?_)
    have hP : va_P z.1 classes (wv z ad E (uA M (p0 + 1) (va_cpy (M p1) (M (p0 + 1)) x2.toNat 0 13))) H := hP
    have hD : va_D A (wv z ad E (uA M (p0 + 1) (va_cpy (M p1) (M (p0 + 1)) x2.toNat 0 13))) := hD
    refine lv_aload_n hx hb d_10_5_12 rfl (lv_at hl 0 rfl) ?_
    refine lv_bipush (v := oI 13) hx hb d_10_5_13 (by decide +kernel) ?_
    obtain ⟨M1, g1, h⟩ := bd_e h
    refine kV (As := [.int (oI 13)]) (rest := []) (s_Na_trimTo l z ad E (uA M (p0 + 1) (va_cpy (M p1) (M (p0 + 1)) x2.toNat 0 13)) p0 13 M1 hL g1) hx hb hml hown hts w_625 w_622 w_624 w_s_8e7085 w_9 md_0a866a ⟨Nat.le_of_ble_eq_true rfl, Nat.le_of_ble_eq_true rfl⟩ hG hZ hP hD hS hA p0 (wv_o (ci := 8) (isNa_i h_p0) (isNa_T h_p0)) rfl rfl rfl hl.1 rfl (Nat.le_of_ble_eq_true rfl) d_10_5_15 ⟨Nat.le_of_ble_eq_true rfl, Nat.le_of_ble_eq_true rfl⟩ (fun _ H locs hP hD hS => ?_)
    have hP : va_P z.1 classes (wv z ad E M1) H := hP
    have hD : va_D A (wv z ad E M1) := hD
    refine W.eq (g2 := F0 m 18 ls []) rfl ?_
    obtain rfl := in1 h
    exact W.vret hx hb hr (fun t ht hW => qkA hP hD hS (fun k => k) rfl rfl ht) hS.2.2 d_10_5_18
  exact key _ _ _ hts hP hS
set_option maxRecDepth 100000 in
set_option maxHeartbeats 4000000 in
theorem s_Co_loadPile (l : Launch) (z : Zz) (ad : Nat → Nat) (E : Ev) (M : Mm) (p1 : Nat) (x2 : Int) (x3 : Int) (N : Mm) (hL : Lay E) (h : f_Co_loadPile E M p1 x2 x3 = some N) : CT l z ⟨"Ballothall$Counting", "loadPile", "(LBallothall$Count;II)V"⟩ prog_5_method_18_code 4 none [.ref (ad 179), .ref (ad p1), .int (oI x2), .int (oI x3)] (wv z ad E M) 3 83 0 0 (fun _ => none) (fun _ => (wv z ad E N)) := by
  refine CT.of (own := "Ballothall$Counting") (by decide +kernel) (Nat.le_of_ble_eq_true rfl) rfl (fun p e s m below meth c A ls hx hb hml hr hts hown hlocks hin hA hG hZ hP hD hS hl => ?_)
  have hl : lv_has ls 4 [(0, .ref (ad 179)), (1, .ref (ad p1)), (2, .int (oI x2)), (3, .int (oI x3))] := hl
  have key : ∀ (H : Heap) (locs : List Loc) (args : Array Value), (∀ w ∈ WG, w.before args s = true) → va_P z.1 classes (wv z ad E M) H → va_S A s.heap H locs → W p l e (rmK 3 83 0 0) s m args below meth c H locs 0 0 (MQ below (QK z A (fun _ => none) (fun _ => (wv z ad E N))) args s 0 0 A) (F0 m 0 ls []) := by
    intro H locs args hts hP hS
    unfold f_Co_loadPile at h
    obtain ⟨h_p1, h⟩ := ck_e h
    refine lv_aload_n hx hb d_5_18_0 rfl (lv_at hl 0 rfl) ?_
    refine m_gr (j := 189) (C := "Ballothall$Counting") (T := TX3) (N := 15) (ci := 3) (k := 9) hx hb hts iX3 hown hG hP (yi_179 hL) (yt_179 hL) rfl (by decide) w_312 (fun _ h9 => h9) rfl rfl (yr_179_9 hL) d_5_18_1 ?_
    refine lv_aload_n hx hb d_5_18_4 rfl (lv_at hl 1 rfl) ?_
    refine m_grN (j := (p1 + 4)) (C := "Ballothall$Count") (T := TX2) (N := 10) (ci := 2) (k := 9) hx hb hts iX2 hown hG hP (isCt_i h_p1) (isCt_T h_p1) rfl (by decide) n_1099 rfl (fun _ h9 => h9) rfl rfl (isCt_r9 h_p1) d_5_18_5 ?_
    refine lv_aload_n hx hb d_5_18_8 rfl (lv_at hl 1 rfl) ?_
    refine lv_iload_n hx hb d_5_18_9 rfl (lv_at hl 2 rfl) ?_
    refine lv_iload_n hx hb d_5_18_10 rfl (lv_at hl 3 rfl) ?_
    obtain ⟨r0, g0, h⟩ := bd_e h
    refine kVN (As := [.int (oI x2), .int (oI x3)]) (rest := [.ref (ad (p1 + 4)), .ref (ad 189)]) (s_Ct_placeOf l z ad E M p1 x2 x3 r0 hL g0) hx hb hml hown hts w_614 n_610 w_612 w_s_4a352f w_29 md_4ba11b ⟨Nat.le_of_ble_eq_true rfl, Nat.le_of_ble_eq_true rfl⟩ hG hZ hP hD hS hA p1 (wv_o (ci := 2) (isCt_i h_p1) (isCt_T h_p1)) rfl rfl rfl hl.1 rfl (Nat.le_of_ble_eq_true rfl) d_5_18_11 ⟨Nat.le_of_ble_eq_true rfl, Nat.le_of_ble_eq_true rfl⟩ (fun _ H locs hP hD hS => ?_)
    have hP : va_P z.1 classes (wv z ad E M) H := hP
    have hD : va_D A (wv z ad E M) := hD
    refine W.eq (g2 := F0 m 14 ls [.int (oI r0), .ref (ad (p1 + 4)), .ref (ad 189)]) rfl ?_
    obtain ⟨M1, g1, h⟩ := bd_e h
    refine kVN (As := [.ref (ad (p1 + 4)), .int (oI r0)]) (rest := []) (s_Na_load l z ad E M 189 (p1 + 4) r0 M1 hL g1) hx hb hml hown hts w_618 n_615 w_617 w_s_37d15a w_9 md_9916ed ⟨Nat.le_of_ble_eq_true rfl, Nat.le_of_ble_eq_true rfl⟩ hG hZ hP hD hS hA 189 (wv_o (ci := 8) (yi_189 hL) (yt_189 hL)) rfl rfl rfl hl.1 rfl (Nat.le_of_ble_eq_true rfl) d_5_18_14 ⟨Nat.le_of_ble_eq_true rfl, Nat.le_of_ble_eq_true rfl⟩ (fun _ H locs hP hD hS => ?_)
    have hP : va_P z.1 classes (wv z ad E M1) H := hP
    have hD : va_D A (wv z ad E M1) := hD
    refine W.eq (g2 := F0 m 17 ls []) rfl ?_
    refine lv_aload_n hx hb d_5_18_17 rfl (lv_at hl 0 rfl) ?_
    refine m_gr (j := 191) (C := "Ballothall$Counting") (T := TX3) (N := 15) (ci := 3) (k := 10) hx hb hts iX3 hown hG hP (yi_179 hL) (yt_179 hL) rfl (by decide) w_314 (fun _ h9 => h9) rfl rfl (yr_179_10 hL) d_5_18_18 ?_
    refine lv_aload_n hx hb d_5_18_21 rfl (lv_at hl 1 rfl) ?_
    refine m_grN (j := (p1 + 4)) (C := "Ballothall$Count") (T := TX2) (N := 10) (ci := 2) (k := 9) hx hb hts iX2 hown hG hP (isCt_i h_p1) (isCt_T h_p1) rfl (by decide) n_1099 rfl (fun _ h9 => h9) rfl rfl (isCt_r9 h_p1) d_5_18_22 ?_
    refine lv_aload_n hx hb d_5_18_25 rfl (lv_at hl 1 rfl) ?_
    refine lv_iload_n hx hb d_5_18_26 rfl (lv_at hl 2 rfl) ?_
    refine lv_bipush (v := oI 9) hx hb d_5_18_27 (by decide +kernel) ?_
    obtain ⟨r2, g2, h⟩ := bd_e h
    refine kVN (As := [.int (oI x2), .int (oI 9)]) (rest := [.ref (ad (p1 + 4)), .ref (ad 191)]) (s_Ct_placeOf l z ad E M1 p1 x2 9 r2 hL g2) hx hb hml hown hts w_614 n_610 w_612 w_s_4a352f w_29 md_4ba11b ⟨Nat.le_of_ble_eq_true rfl, Nat.le_of_ble_eq_true rfl⟩ hG hZ hP hD hS hA p1 (wv_o (ci := 2) (isCt_i h_p1) (isCt_T h_p1)) rfl rfl rfl hl.1 rfl (Nat.le_of_ble_eq_true rfl) d_5_18_29 ⟨Nat.le_of_ble_eq_true rfl, Nat.le_of_ble_eq_true rfl⟩ (fun _ H locs hP hD hS => ?_)
    have hP : va_P z.1 classes (wv z ad E M1) H := hP
    have hD : va_D A (wv z ad E M1) := hD
    refine W.eq (g2 := F0 m 32 ls [.int (oI r2), .ref (ad (p1 + 4)), .ref (ad 191)]) rfl ?_
    obtain ⟨M3, g3, h⟩ := bd_e h
    refine kVN (As := [.ref (ad (p1 + 4)), .int (oI r2)]) (rest := []) (s_Na_load l z ad E M1 191 (p1 + 4) r2 M3 hL g3) hx hb hml hown hts w_618 n_615 w_617 w_s_37d15a w_9 md_9916ed ⟨Nat.le_of_ble_eq_true rfl, Nat.le_of_ble_eq_true rfl⟩ hG hZ hP hD hS hA 191 (wv_o (ci := 8) (yi_191 hL) (yt_191 hL)) rfl rfl rfl hl.1 rfl (Nat.le_of_ble_eq_true rfl) d_5_18_32 ⟨Nat.le_of_ble_eq_true rfl, Nat.le_of_ble_eq_true rfl⟩ (fun _ H locs hP hD hS => ?_)
    have hP : va_P z.1 classes (wv z ad E M3) H := hP
    have hD : va_D A (wv z ad E M3) := hD
    refine W.eq (g2 := F0 m 35 ls []) rfl ?_
    obtain rfl := in1 h
    exact W.vret hx hb hr (fun t ht hW => qkA hP hD hS (fun k => k) rfl rfl ht) hS.2.2 d_5_18_35
  exact key _ _ _ hts hP hS
set_option maxRecDepth 100000 in
set_option maxHeartbeats 4000000 in
theorem s_Na_limbAt (l : Launch) (z : Zz) (ad : Nat → Nat) (E : Ev) (M : Mm) (p0 : Nat) (x1 : Int) (r : Int)  (hL : Lay E) (h : f_Na_limbAt E M p0 x1 = some r) : CT l z ⟨"Ballothall$Natural", "limbAt", "(I)I"⟩ prog_10_method_7_code 2 (some .int) [.ref (ad p0), .int (oI x1)] (wv z ad E M) 0 20 0 0 (fun _ => some (.int (oI r))) (fun _ => (wv z ad E M)) := by
  refine CT.of (own := "Ballothall$Natural") (by decide +kernel) (Nat.le_of_ble_eq_true rfl) rfl (fun p e s m below meth c A ls hx hb hml hr hts hown hlocks hin hA hG hZ hP hD hS hl => ?_)
  have hl : lv_has ls 2 [(0, .ref (ad p0)), (1, .int (oI x1))] := hl
  have key : ∀ (H : Heap) (locs : List Loc) (args : Array Value), (∀ w ∈ WG, w.before args s = true) → va_P z.1 classes (wv z ad E M) H → va_S A s.heap H locs → W p l e (rmK 0 20 0 0) s m args below meth c H locs 0 0 (MQ below (QK z A (fun _ => some (.int (oI r))) (fun _ => (wv z ad E M))) args s 0 0 A) (F0 m 0 ls []) := by
    intro H locs args hts hP hS
    unfold f_Na_limbAt at h
    obtain ⟨h_p0, h⟩ := ck_e h
    refine lv_iload_n hx hb d_10_7_0 rfl (lv_at hl 1 rfl) ?_
    refine lv_aload_n hx hb d_10_7_1 rfl (lv_at hl 0 rfl) ?_
    refine m_gi (C := "Ballothall$Natural") (T := TX8) (N := 2) (ci := 8) (k := 1) hx hb hts iX8 hown hG hP (isNa_i h_p0) (isNa_T h_p0) rfl (by decide) w_295 (fun _ h9 => h9) rfl rfl d_10_7_2 ?_
    obtain ⟨ok0, h⟩ := ck_e h
    obtain ⟨ok1, h⟩ := ck_e h
    refine lv_icmp_ge (tgt := 17) hx hb d_10_7_5 (by decide) (fun c9 => ?_) (fun c9 => ?_)
    · have h := ite_t ((oI_le (a := (M p0 1)) (b := x1) ok1 ok0).mp c9) h
      refine lv_iconst (v := oI 0) hx hb d_10_7_17 (by decide +kernel) ?_
      obtain rfl := in1 h
      exact W.iret hx hb hr (fun t ht hW => qkA hP hD hS (fun k => k) rfl rfl ht) hS.2.2 d_10_7_18
    · have h := ite_f (fun q => c9 ((oI_le (a := (M p0 1)) (b := x1) ok1 ok0).mpr q)) h
      refine lv_aload_n hx hb d_10_7_8 rfl (lv_at hl 0 rfl) ?_
      refine m_gr (j := (p0 + 1)) (C := "Ballothall$Natural") (T := TX8) (N := 2) (ci := 8) (k := 0) hx hb hts iX8 hown hG hP (isNa_i h_p0) (isNa_T h_p0) rfl (by decide) w_294 (fun _ h9 => h9) rfl rfl (isNa_r0 h_p0) d_10_7_9 ?_
      refine lv_iload_n hx hb d_10_7_12 rfl (lv_at hl 1 rfl) ?_
      obtain ⟨ok2, h⟩ := ck_e h
      refine m_ia hx hb hG hP (isNa_i1 h_p0) (isNa_t1 h_p0) ok2 d_10_7_13 ?_
      refine lv_goto (tgt := 18) hx hb d_10_7_14 (by decide) ?_
      obtain rfl := in1 h
      exact W.iret hx hb hr (fun t ht hW => qkA hP hD hS (fun k => k) rfl rfl ht) hS.2.2 d_10_7_18
  exact key _ _ _ hts hP hS
set_option maxRecDepth 100000 in
set_option maxHeartbeats 4000000 in
theorem b_Na_add_24b (l : Launch) (z : Zz) (ad : Nat → Nat) (E : Ev) (M : Mm) (q0 : Nat) (q1 : Nat) (x2 : Int) (x3 : Int) (x4 : Int) (t : Nat) (w3 : Int) (w4 : Int) (N : Mm) {Q : State → Prop} {p : Program} {e : Env} {s : State} {m : MethodId} {below : List Frame} {meth : Method} {c : Code} {A : Nat → Prop} {args : Array Value} (hx : p.tables.exec = Jvm.exec) (hb : c.code = prog_10_method_10_code) (hml : c.maxLocals = 6) (hts : ∀ w ∈ WG, w.before args s = true) (hown : s.vm.findClass "Ballothall$Natural" = some m.cls) (hlocks : meth.locks = false) (hA : ∀ q, s.heap.size ≤ q → A q) (hG : KG z s) (hZ : FZ z A s) (hL : Lay E) (h : Na_add_24b E M q0 q1 x2 x3 x4 = some (t, w3, w4, N)) (k0 : t = 0 → ∀ (H : Heap) (locs : List Loc) (ls : Array Slot), va_P z.1 classes (wv z ad E N) H → va_D A (wv z ad E N) → va_S A s.heap H locs → lv_has ls 6 [(0, .ref (ad q0)), (1, .ref (ad q1)), (2, .int (oI x2)), (3, .int (oI w3)), (4, .int (oI w4))] → W p l e (rmK 2 61 0 0) s m args below meth c H locs 0 0 Q (F0 m 24 ls [])) (k1 : t = 1 → ∀ (H : Heap) (locs : List Loc) (ls : Array Slot), va_P z.1 classes (wv z ad E N) H → va_D A (wv z ad E N) → va_S A s.heap H locs → lv_has ls 6 [(0, .ref (ad q0)), (2, .int (oI x2))] → W p l e (rmK 2 61 0 0) s m args below meth c H locs 0 0 Q (F0 m 71 ls [])) : ∀ (H : Heap) (locs : List Loc) (ls : Array Slot), va_P z.1 classes (wv z ad E M) H → va_D A (wv z ad E M) → va_S A s.heap H locs → lv_has ls 6 [(0, .ref (ad q0)), (1, .ref (ad q1)), (2, .int (oI x2)), (3, .int (oI x3)), (4, .int (oI x4))] → W p l e (rmK 2 61 0 0) s m args below meth c H locs 0 0 Q (F0 m 24 ls []) := by
  intro H locs ls hP hD hS hl
  unfold Na_add_24b at h
  obtain ⟨h_q0, h⟩ := ck_e h
  obtain ⟨h_q1, h⟩ := ck_e h
  refine lv_iload hx hb d_10_10_24 (lv_at hl 4 rfl) ?_
  refine lv_iload_n hx hb d_10_10_26 rfl (lv_at hl 2 rfl) ?_
  obtain ⟨ok4, h⟩ := ck_e h
  obtain ⟨ok5, h⟩ := ck_e h
  refine lv_icmp_ge (tgt := 71) hx hb d_10_10_27 (by decide) (fun c9 => ?_) (fun c9 => ?_)
  · have h := ite_t ((oI_le (a := x2) (b := x4) ok5 ok4).mp c9) h
    obtain ⟨rfl, rfl, rfl, rfl⟩ := in4 h
    exact k1 rfl H locs ls hP hD hS (lv_sub hl [0, 2] rfl)
  · have h := ite_f (fun q => c9 ((oI_le (a := x2) (b := x4) ok5 ok4).mpr q)) h
    refine lv_aload_n hx hb d_10_10_30 rfl (lv_at hl 0 rfl) ?_
    refine lv_iload hx hb d_10_10_31 (lv_at hl 4 rfl) ?_
    obtain ⟨r6, g6, h⟩ := bd_e h
    refine kV (As := [.int (oI x4)]) (rest := []) (s_Na_limbAt l z ad E M q0 x4 r6 hL g6) hx hb hml hown hts w_637 w_634 w_636 w_s_21c489 w_9 md_149093 ⟨Nat.le_of_ble_eq_true rfl, Nat.le_of_ble_eq_true rfl⟩ hG hZ hP hD hS hA q0 (wv_o (ci := 8) (isNa_i h_q0) (isNa_T h_q0)) rfl rfl rfl hl.1 rfl (Nat.le_of_ble_eq_true rfl) d_10_10_33 ⟨Nat.le_of_ble_eq_true rfl, Nat.le_of_ble_eq_true rfl⟩ (fun _ H locs hP hD hS => ?_)
    have hP : va_P z.1 classes (wv z ad E M) H := hP
    have hD : va_D A (wv z ad E M) := hD
    refine W.eq (g2 := F0 m 36 ls [.int (oI r6)]) rfl ?_
    refine lv_aload_n hx hb d_10_10_36 rfl (lv_at hl 1 rfl) ?_
    refine lv_iload hx hb d_10_10_37 (lv_at hl 4 rfl) ?_
    obtain ⟨r7, g7, h⟩ := bd_e h
    refine kV (As := [.int (oI x4)]) (rest := [.int (oI r6)]) (s_Na_limbAt l z ad E M q1 x4 r7 hL g7) hx hb hml hown hts w_637 w_634 w_636 w_s_21c489 w_9 md_149093 ⟨Nat.le_of_ble_eq_true rfl, Nat.le_of_ble_eq_true rfl⟩ hG hZ hP hD hS hA q1 (wv_o (ci := 8) (isNa_i h_q1) (isNa_T h_q1)) rfl rfl rfl hl.1 rfl (Nat.le_of_ble_eq_true rfl) d_10_10_39 ⟨Nat.le_of_ble_eq_true rfl, Nat.le_of_ble_eq_true rfl⟩ (fun _ H locs hP hD hS => ?_)
    have hP : va_P z.1 classes (wv z ad E M) H := hP
    have hD : va_D A (wv z ad E M) := hD
    refine W.eq (g2 := F0 m 42 ls [.int (oI r7), .int (oI r6)]) rfl ?_
    refine lv_iadd hx hb d_10_10_42 ?_
    refine nrm (oI_add _ _) ?_
    refine lv_iload_n hx hb d_10_10_43 rfl (lv_at hl 3 rfl) ?_
    refine lv_iadd hx hb d_10_10_44 ?_
    refine nrm (oI_add _ _) ?_
    refine lv_istore (lv' := [(5, .int (oI ((r6 + r7) + x3))), (0, .ref (ad q0)), (1, .ref (ad q1)), (2, .int (oI x2)), (3, .int (oI x3)), (4, .int (oI x4))]) hx hb d_10_10_45 hl (by decide) rfl (fun ls hl => ?_)
    refine lv_aload_n hx hb d_10_10_47 rfl (lv_at hl 1 rfl) ?_
    refine m_gr (j := (q0 + 1)) (C := "Ballothall$Natural") (T := TX8) (N := 2) (ci := 8) (k := 0) hx hb hts iX8 hown hG hP (isNa_i h_q0) (isNa_T h_q0) rfl (by decide) w_294 (fun _ h9 => h9) rfl rfl (isNa_r0 h_q0) d_10_10_48 ?_
    refine lv_iload hx hb d_10_10_51 (lv_at hl 5 rfl) ?_
    refine lv_iload hx hb d_10_10_53 (lv_at hl 0 rfl) ?_
    refine lv_ldc hx hb hown (hts _ w_638) d_10_10_55 ?_
    refine nrm (x1 := oI 1073741823) (by decide +kernel) ?_
    refine lv_iand hx hb d_10_10_57 ?_
    refine nrm (oI_m30 _) ?_
    obtain ⟨v8, e8, h⟩ := nb_e h
    refine nrm (congrArg oI e8.symm) ?_
    obtain ⟨ok9, h⟩ := ck_e h
    refine m_is hx hb hG hP hD hS (isNa_i1 h_q0) (isNa_t1 h_q0) ok9 d_10_10_58 (fun H locs hP hD hS => ?_)
    have hP : va_P z.1 classes (wv z ad E (u2 M (q0 + 1) x4.toNat v8)) H := hP
    have hD : va_D A (wv z ad E (u2 M (q0 + 1) x4.toNat v8)) := hD
    refine lv_iload hx hb d_10_10_59 (lv_at hl 0 rfl) ?_
    refine lv_bipush (v := oI 30) hx hb d_10_10_61 (by decide +kernel) ?_
    obtain ⟨ok10, h⟩ := ck_e h
    refine lv_ishr hx hb d_10_10_63 ?_
    refine nrm (x1 := oI (((r6 + r7) + x3) / 1073741824)) (oI_shr (b := 30) ok10 (by decide) (by decide)) ?_
    obtain ⟨v11, e11, h⟩ := nb_e h
    refine nrm (congrArg oI e11.symm) ?_
    refine lv_istore_n (lv' := [(3, .int (oI v11)), (5, .int (oI ((r6 + r7) + x3))), (0, .ref (ad q0)), (1, .ref (ad q1)), (2, .int (oI x2)), (4, .int (oI x4))]) hx hb d_10_10_64 rfl hl (by decide) rfl (fun ls hl => ?_)
    refine lv_iinc (v := oI (x4 + 1)) (lv' := [(4, .int (oI (x4 + 1))), (3, .int (oI v11)), (5, .int (oI ((r6 + r7) + x3))), (0, .ref (ad q0)), (1, .ref (ad q1)), (2, .int (oI x2))]) hx hb d_10_10_65 hl (k := 5) rfl (oI_add x4 1) (by decide) rfl (fun ls hl => ?_)
    refine lv_goto (tgt := 24) hx hb d_10_10_68 (by decide) ?_
    obtain ⟨rfl, rfl, rfl, rfl⟩ := in4 h
    exact k0 rfl H locs ls hP hD hS (lv_sub hl [3, 4, 5, 1, 0] rfl)
set_option maxRecDepth 100000 in
set_option maxHeartbeats 4000000 in
theorem s_Na_add_24 (l : Launch) (z : Zz) (ad : Nat → Nat) (E : Ev) (q0 : Nat) (q1 : Nat) (x2 : Int) {Q : State → Prop} {p : Program} {e : Env} {s : State} {m : MethodId} {below : List Frame} {meth : Method} {c : Code} {A : Nat → Prop} {args : Array Value} (hx : p.tables.exec = Jvm.exec) (hb : c.code = prog_10_method_10_code) (hml : c.maxLocals = 6) (hts : ∀ w ∈ WG, w.before args s = true) (hown : s.vm.findClass "Ballothall$Natural" = some m.cls) (hlocks : meth.locks = false) (hA : ∀ q, s.heap.size ≤ q → A q) (hG : KG z s) (hZ : FZ z A s) (hL : Lay E) : ∀ (fu : Nat) (M : Mm) (x3 : Int) (x4 : Int) (t : Nat) (w3 : Int) (w4 : Int) (N : Mm), l_Na_add_24 E q0 q1 x2 fu M x3 x4 = some (t, w3, w4, N) → (t = 1 → ∀ (H : Heap) (locs : List Loc) (ls : Array Slot), va_P z.1 classes (wv z ad E N) H → va_D A (wv z ad E N) → va_S A s.heap H locs → lv_has ls 6 [(0, .ref (ad q0)), (2, .int (oI x2))] → W p l e (rmK 2 61 0 0) s m args below meth c H locs 0 0 Q (F0 m 71 ls [])) → ∀ (H : Heap) (locs : List Loc) (ls : Array Slot), va_P z.1 classes (wv z ad E M) H → va_D A (wv z ad E M) → va_S A s.heap H locs → lv_has ls 6 [(0, .ref (ad q0)), (1, .ref (ad q1)), (2, .int (oI x2)), (3, .int (oI x3)), (4, .int (oI x4))] → W p l e (rmK 2 61 0 0) s m args below meth c H locs 0 0 Q (F0 m 24 ls []) := by
  intro fu
  induction fu with
  | zero =>
    intro M x3 x4 t w3 w4 N h
    have h : (none : Option (Nat × Int × Int × Mm)) = some _ := h
    cases h
  | succ fu ih =>
    intro M x3 x4 t w3 w4 N h k1 H locs ls hP hD hS hl
    obtain ⟨⟨t0, w30, w40, N9⟩, g0, h⟩ := bd_e h
    refine b_Na_add_24b l z ad E M q0 q1 x2 x3 x4 t0 w30 w40 N9 hx hb hml hts hown hlocks hA hG hZ hL g0 (fun e0 => ?_) (fun e0 => ?_) H locs ls hP hD hS hl
    · subst e0
      have h := ite_t rfl h
      exact ih N9 w30 w40 t w3 w4 N h k1
    · subst e0
      have h := ite_f (by decide) h
      obtain ⟨rfl, rfl, rfl, rfl⟩ := in4 h
      exact k1 rfl
set_option maxRecDepth 100000 in
set_option maxHeartbeats 4000000 in
theorem s_Na_add (l : Launch) (z : Zz) (ad : Nat → Nat) (E : Ev) (M : Mm) (p0 : Nat) (p1 : Nat) (N : Mm) (hL : Lay E) (h : f_Na_add E M p0 p1 = some N) : CT l z ⟨"Ballothall$Natural", "add", "(LBallothall$Natural;)V"⟩ prog_10_method_10_code 6 none [.ref (ad p0), .ref (ad p1)] (wv z ad E M) 2 61 0 0 (fun _ => none) (fun _ => (wv z ad E N)) := by
  refine CT.of (own := "Ballothall$Natural") (by decide +kernel) (Nat.le_of_ble_eq_true rfl) rfl (fun p e s m below meth c A ls hx hb hml hr hts hown hlocks hin hA hG hZ hP hD hS hl => ?_)
  have hl : lv_has ls 6 [(0, .ref (ad p0)), (1, .ref (ad p1))] := hl
  have key : ∀ (H : Heap) (locs : List Loc) (args : Array Value), (∀ w ∈ WG, w.before args s = true) → va_P z.1 classes (wv z ad E M) H → va_S A s.heap H locs → W p l e (rmK 2 61 0 0) s m args below meth c H locs 0 0 (MQ below (QK z A (fun _ => none) (fun _ => (wv z ad E N))) args s 0 0 A) (F0 m 0 ls []) := by
    intro H locs args hts hP hS
    unfold f_Na_add at h
    obtain ⟨h_p0, h⟩ := ck_e h
    obtain ⟨h_p1, h⟩ := ck_e h
    refine lv_aload_n hx hb d_10_10_0 rfl (lv_at hl 0 rfl) ?_
    refine m_gi (C := "Ballothall$Natural") (T := TX8) (N := 2) (ci := 8) (k := 1) hx hb hts iX8 hown hG hP (isNa_i h_p0) (isNa_T h_p0) rfl (by decide) w_295 (fun _ h9 => h9) rfl rfl d_10_10_1 ?_
    refine lv_aload_n hx hb d_10_10_4 rfl (lv_at hl 1 rfl) ?_
    refine m_gi (C := "Ballothall$Natural") (T := TX8) (N := 2) (ci := 8) (k := 1) hx hb hts iX8 hown hG hP (isNa_i h_p1) (isNa_T h_p1) rfl (by decide) w_295 (fun _ h9 => h9) rfl rfl d_10_10_5 ?_
    obtain ⟨ok0, h⟩ := ck_e h
    obtain ⟨ok1, h⟩ := ck_e h
    refine va_mmax hx hb (by rw [hml]; exact hl.1.symm) hown (hts _ w_631) (hts _ w_632) (hts _ w_17) (hts _ w_max) (Nat.le_of_ble_eq_true rfl) (Nat.le_of_ble_eq_true rfl) (Nat.le_of_ble_eq_true rfl) (Nat.le_of_ble_eq_true rfl) d_10_10_8 ?_
    refine nrm (mx_oI (a := (M p0 1)) (b := (M p1 1)) ok0 ok1) ?_
    refine lv_iconst (v := oI 1) hx hb d_10_10_11 (by decide +kernel) ?_
    refine lv_iadd hx hb d_10_10_12 ?_
    refine nrm (oI_add _ _) ?_
    refine lv_bipush (v := oI 13) hx hb d_10_10_13 (by decide +kernel) ?_
    obtain ⟨ok2, h⟩ := ck_e h
    refine va_mmin hx hb (by rw [hml]; exact hl.1.symm) hown (hts _ w_626) (hts _ w_521) (hts _ w_17) (hts _ w_min) (Nat.le_of_ble_eq_true rfl) (Nat.le_of_ble_eq_true rfl) (Nat.le_of_ble_eq_true rfl) (Nat.le_of_ble_eq_true rfl) d_10_10_15 ?_
    refine nrm (mn_oI (a := ((max (M p0 1) (M p1 1)) + 1)) (b := (13 : Int)) ok2 (by decide)) ?_
    obtain ⟨v3, e3, h⟩ := nb_e h
    refine nrm (congrArg oI e3.symm) ?_
    refine lv_istore_n (lv' := [(2, .int (oI v3)), (0, .ref (ad p0)), (1, .ref (ad p1))]) hx hb d_10_10_18 rfl hl (by decide) rfl (fun ls hl => ?_)
    refine lv_iconst (v := oI 0) hx hb d_10_10_19 (by decide +kernel) ?_
    refine lv_istore_n (lv' := [(3, .int (oI 0)), (2, .int (oI v3)), (0, .ref (ad p0)), (1, .ref (ad p1))]) hx hb d_10_10_20 rfl hl (by decide) rfl (fun ls hl => ?_)
    refine lv_iconst (v := oI 0) hx hb d_10_10_21 (by decide +kernel) ?_
    refine lv_istore (lv' := [(4, .int (oI 0)), (3, .int (oI 0)), (2, .int (oI v3)), (0, .ref (ad p0)), (1, .ref (ad p1))]) hx hb d_10_10_22 hl (by decide) rfl (fun ls hl => ?_)
    obtain ⟨⟨t12, v12_3, v12_4, M12⟩, g12, h⟩ := bd_e h
    obtain ⟨ok12, h⟩ := ck_e h
    refine s_Na_add_24 l z ad E p0 p1 v3 hx hb hml hts hown hlocks hA hG hZ hL FU M 0 0 t12 v12_3 v12_4 M12 g12 (fun e12 H locs ls hP hD hS hl => ?_) H locs ls hP hD hS (lv_sub hl [3, 4, 2, 1, 0] rfl)
    refine lv_aload_n hx hb d_10_10_71 rfl (lv_at hl 0 rfl) ?_
    refine lv_iload_n hx hb d_10_10_72 rfl (lv_at hl 1 rfl) ?_
    obtain ⟨M13, g13, h⟩ := bd_e h
    refine kV (As := [.int (oI v3)]) (rest := []) (s_Na_trimTo l z ad E M12 p0 v3 M13 hL g13) hx hb hml hown hts w_625 w_622 w_624 w_s_8e7085 w_9 md_0a866a ⟨Nat.le_of_ble_eq_true rfl, Nat.le_of_ble_eq_true rfl⟩ hG hZ hP hD hS hA p0 (wv_o (ci := 8) (isNa_i h_p0) (isNa_T h_p0)) rfl rfl rfl hl.1 rfl (Nat.le_of_ble_eq_true rfl) d_10_10_73 ⟨Nat.le_of_ble_eq_true rfl, Nat.le_of_ble_eq_true rfl⟩ (fun _ H locs hP hD hS => ?_)
    have hP : va_P z.1 classes (wv z ad E M13) H := hP
    have hD : va_D A (wv z ad E M13) := hD
    refine W.eq (g2 := F0 m 76 ls []) rfl ?_
    obtain rfl := in1 h
    exact W.vret hx hb hr (fun t ht hW => qkA hP hD hS (fun k => k) rfl rfl ht) hS.2.2 d_10_10_76
  exact key _ _ _ hts hP hS
set_option maxRecDepth 100000 in
set_option maxHeartbeats 4000000 in
theorem b_Na_multiplySmall_17b (l : Launch) (z : Zz) (ad : Nat → Nat) (E : Ev) (M : Mm) (q0 : Nat) (x1 : Int) (x2 : Int) (x3 : Int) (x5 : Int) (t : Nat) (w3 : Int) (w5 : Int) (N : Mm) {Q : State → Prop} {p : Program} {e : Env} {s : State} {m : MethodId} {below : List Frame} {meth : Method} {c : Code} {A : Nat → Prop} {args : Array Value} (hx : p.tables.exec = Jvm.exec) (hb : c.code = prog_10_method_12_code) (hml : c.maxLocals = 6) (hts : ∀ w ∈ WG, w.before args s = true) (hown : s.vm.findClass "Ballothall$Natural" = some m.cls) (hlocks : meth.locks = false) (hA : ∀ q, s.heap.size ≤ q → A q) (hG : KG z s) (hZ : FZ z A s) (hL : Lay E) (h : Na_multiplySmall_17b E M q0 x1 x2 x3 x5 = some (t, w3, w5, N)) (k0 : t = 0 → ∀ (H : Heap) (locs : List Loc) (ls : Array Slot), va_P z.1 classes (wv z ad E N) H → va_D A (wv z ad E N) → va_S A s.heap H locs → lv_has ls 6 [(0, .ref (ad q0)), (1, .int (oI x1)), (2, .int (oI x2)), (3, .long (oJ w3)), (5, .int (oI w5))] → W p l e (rmK 2 61 0 0) s m args below meth c H locs 0 0 Q (F0 m 17 ls [])) (k1 : t = 1 → ∀ (H : Heap) (locs : List Loc) (ls : Array Slot), va_P z.1 classes (wv z ad E N) H → va_D A (wv z ad E N) → va_S A s.heap H locs → lv_has ls 6 [(0, .ref (ad q0)), (2, .int (oI x2))] → W p l e (rmK 2 61 0 0) s m args below meth c H locs 0 0 Q (F0 m 60 ls [])) : ∀ (H : Heap) (locs : List Loc) (ls : Array Slot), va_P z.1 classes (wv z ad E M) H → va_D A (wv z ad E M) → va_S A s.heap H locs → lv_has ls 6 [(0, .ref (ad q0)), (1, .int (oI x1)), (2, .int (oI x2)), (3, .long (oJ x3)), (5, .int (oI x5))] → W p l e (rmK 2 61 0 0) s m args below meth c H locs 0 0 Q (F0 m 17 ls []) := by
  intro H locs ls hP hD hS hl
  unfold Na_multiplySmall_17b at h
  obtain ⟨h_q0, h⟩ := ck_e h
  refine lv_iload hx hb d_10_12_17 (lv_at hl 4 rfl) ?_
  refine lv_iload_n hx hb d_10_12_19 rfl (lv_at hl 2 rfl) ?_
  obtain ⟨ok1, h⟩ := ck_e h
  obtain ⟨ok2, h⟩ := ck_e h
  refine lv_icmp_ge (tgt := 60) hx hb d_10_12_20 (by decide) (fun c9 => ?_) (fun c9 => ?_)
  · have h := ite_t ((oI_le (a := x2) (b := x5) ok2 ok1).mp c9) h
    obtain ⟨rfl, rfl, rfl, rfl⟩ := in4 h
    exact k1 rfl H locs ls hP hD hS (lv_sub hl [0, 2] rfl)
  · have h := ite_f (fun q => c9 ((oI_le (a := x2) (b := x5) ok2 ok1).mpr q)) h
    refine lv_lload_n hx hb d_10_12_23 rfl (lv_at hl 3 rfl) ?_
    refine lv_aload_n hx hb d_10_12_24 rfl (lv_at hl 0 rfl) ?_
    refine lv_iload hx hb d_10_12_25 (lv_at hl 4 rfl) ?_
    obtain ⟨r3, g3, h⟩ := bd_e h
    refine kV (As := [.int (oI x5)]) (rest := [.long (oJ x3)]) (s_Na_limbAt l z ad E M q0 x5 r3 hL g3) hx hb hml hown hts w_637 w_634 w_636 w_s_21c489 w_9 md_149093 ⟨Nat.le_of_ble_eq_true rfl, Nat.le_of_ble_eq_true rfl⟩ hG hZ hP hD hS hA q0 (wv_o (ci := 8) (isNa_i h_q0) (isNa_T h_q0)) rfl rfl rfl hl.1 rfl (Nat.le_of_ble_eq_true rfl) d_10_12_27 ⟨Nat.le_of_ble_eq_true rfl, Nat.le_of_ble_eq_true rfl⟩ (fun _ H locs hP hD hS => ?_)
    have hP : va_P z.1 classes (wv z ad E M) H := hP
    have hD : va_D A (wv z ad E M) := hD
    refine W.eq (g2 := F0 m 30 ls [.int (oI r3), .long (oJ x3)]) rfl ?_
    obtain ⟨ok4, h⟩ := ck_e h
    refine lv_i2l (v := oJ r3) hx hb d_10_12_30 (oI_l ok4) ?_
    refine lv_iload_n hx hb d_10_12_31 rfl (lv_at hl 1 rfl) ?_
    obtain ⟨ok5, h⟩ := ck_e h
    refine lv_i2l (v := oJ x1) hx hb d_10_12_32 (oI_l ok5) ?_
    refine lv_lmul hx hb d_10_12_33 ?_
    refine nrmL (oJ_mul _ _) ?_
    refine lv_ladd hx hb d_10_12_34 ?_
    refine nrmL (oJ_add _ _) ?_
    refine lv_lstore_n (lv' := [(3, .long (oJ (x3 + (r3 * x1)))), (0, .ref (ad q0)), (1, .int (oI x1)), (2, .int (oI x2)), (5, .int (oI x5))]) hx hb d_10_12_35 rfl hl (by decide) rfl (fun ls hl => ?_)
    refine lv_aload_n hx hb d_10_12_36 rfl (lv_at hl 1 rfl) ?_
    refine m_gr (j := (q0 + 1)) (C := "Ballothall$Natural") (T := TX8) (N := 2) (ci := 8) (k := 0) hx hb hts iX8 hown hG hP (isNa_i h_q0) (isNa_T h_q0) rfl (by decide) w_294 (fun _ h9 => h9) rfl rfl (isNa_r0 h_q0) d_10_12_37 ?_
    refine lv_iload hx hb d_10_12_40 (lv_at hl 4 rfl) ?_
    refine lv_lload_n hx hb d_10_12_42 rfl (lv_at hl 0 rfl) ?_
    refine lv_ldc2 hx hb hown (hts _ w_605) d_10_12_43 ?_
    refine nrmL (x1 := oJ 1073741823) (by decide +kernel) ?_
    refine lv_land hx hb d_10_12_46 ?_
    refine nrmL (oJ_m30 _) ?_
    refine lv_l2i (v := oI ((x3 + (r3 * x1)) % 1073741824)) hx hb d_10_12_47 (oJ_i _) ?_
    obtain ⟨v6, e6, h⟩ := nb_e h
    refine nrm (congrArg oI e6.symm) ?_
    obtain ⟨ok7, h⟩ := ck_e h
    refine m_is hx hb hG hP hD hS (isNa_i1 h_q0) (isNa_t1 h_q0) ok7 d_10_12_48 (fun H locs hP hD hS => ?_)
    have hP : va_P z.1 classes (wv z ad E (u2 M (q0 + 1) x5.toNat v6)) H := hP
    have hD : va_D A (wv z ad E (u2 M (q0 + 1) x5.toNat v6)) := hD
    refine lv_lload_n hx hb d_10_12_49 rfl (lv_at hl 0 rfl) ?_
    refine lv_bipush (v := oI 30) hx hb d_10_12_50 (by decide +kernel) ?_
    obtain ⟨ok8, h⟩ := ck_e h
    refine lv_lshr (v := oJ ((x3 + (r3 * x1)) / 1073741824)) hx hb d_10_12_52 (oJ_shr (b := (30 : Int)) ok8 (by decide) (by decide)) ?_
    obtain ⟨v9, e9, h⟩ := nb_e h
    refine nrmL (congrArg oJ e9.symm) ?_
    refine lv_lstore_n (lv' := [(3, .long (oJ v9)), (0, .ref (ad q0)), (1, .int (oI x1)), (2, .int (oI x2)), (5, .int (oI x5))]) hx hb d_10_12_53 rfl hl (by decide) rfl (fun ls hl => ?_)
    refine lv_iinc (v := oI (x5 + 1)) (lv' := [(5, .int (oI (x5 + 1))), (3, .long (oJ v9)), (0, .ref (ad q0)), (1, .int (oI x1)), (2, .int (oI x2))]) hx hb d_10_12_54 hl (k := 4) rfl (oI_add x5 1) (by decide) rfl (fun ls hl => ?_)
    refine lv_goto (tgt := 17) hx hb d_10_12_57 (by decide) ?_
    obtain ⟨rfl, rfl, rfl, rfl⟩ := in4 h
    exact k0 rfl H locs ls hP hD hS (lv_sub hl [2, 3, 4, 1, 0] rfl)
set_option maxRecDepth 100000 in
set_option maxHeartbeats 4000000 in
theorem s_Na_multiplySmall_17 (l : Launch) (z : Zz) (ad : Nat → Nat) (E : Ev) (q0 : Nat) (x1 : Int) (x2 : Int) {Q : State → Prop} {p : Program} {e : Env} {s : State} {m : MethodId} {below : List Frame} {meth : Method} {c : Code} {A : Nat → Prop} {args : Array Value} (hx : p.tables.exec = Jvm.exec) (hb : c.code = prog_10_method_12_code) (hml : c.maxLocals = 6) (hts : ∀ w ∈ WG, w.before args s = true) (hown : s.vm.findClass "Ballothall$Natural" = some m.cls) (hlocks : meth.locks = false) (hA : ∀ q, s.heap.size ≤ q → A q) (hG : KG z s) (hZ : FZ z A s) (hL : Lay E) : ∀ (fu : Nat) (M : Mm) (x3 : Int) (x5 : Int) (t : Nat) (w3 : Int) (w5 : Int) (N : Mm), l_Na_multiplySmall_17 E q0 x1 x2 fu M x3 x5 = some (t, w3, w5, N) → (t = 1 → ∀ (H : Heap) (locs : List Loc) (ls : Array Slot), va_P z.1 classes (wv z ad E N) H → va_D A (wv z ad E N) → va_S A s.heap H locs → lv_has ls 6 [(0, .ref (ad q0)), (2, .int (oI x2))] → W p l e (rmK 2 61 0 0) s m args below meth c H locs 0 0 Q (F0 m 60 ls [])) → ∀ (H : Heap) (locs : List Loc) (ls : Array Slot), va_P z.1 classes (wv z ad E M) H → va_D A (wv z ad E M) → va_S A s.heap H locs → lv_has ls 6 [(0, .ref (ad q0)), (1, .int (oI x1)), (2, .int (oI x2)), (3, .long (oJ x3)), (5, .int (oI x5))] → W p l e (rmK 2 61 0 0) s m args below meth c H locs 0 0 Q (F0 m 17 ls []) := by
  intro fu
  induction fu with
  | zero =>
    intro M x3 x5 t w3 w5 N h
    have h : (none : Option (Nat × Int × Int × Mm)) = some _ := h
    cases h
  | succ fu ih =>
    intro M x3 x5 t w3 w5 N h k1 H locs ls hP hD hS hl
    obtain ⟨⟨t0, w30, w50, N9⟩, g0, h⟩ := bd_e h
    refine b_Na_multiplySmall_17b l z ad E M q0 x1 x2 x3 x5 t0 w30 w50 N9 hx hb hml hts hown hlocks hA hG hZ hL g0 (fun e0 => ?_) (fun e0 => ?_) H locs ls hP hD hS hl
    · subst e0
      have h := ite_t rfl h
      exact ih N9 w30 w50 t w3 w5 N h k1
    · subst e0
      have h := ite_f (by decide) h
      obtain ⟨rfl, rfl, rfl, rfl⟩ := in4 h
      exact k1 rfl
set_option maxRecDepth 100000 in
set_option maxHeartbeats 4000000 in
theorem s_Na_multiplySmall (l : Launch) (z : Zz) (ad : Nat → Nat) (E : Ev) (M : Mm) (p0 : Nat) (x1 : Int) (N : Mm) (hL : Lay E) (h : f_Na_multiplySmall E M p0 x1 = some N) : CT l z ⟨"Ballothall$Natural", "multiplySmall", "(I)V"⟩ prog_10_method_12_code 6 none [.ref (ad p0), .int (oI x1)] (wv z ad E M) 2 61 0 0 (fun _ => none) (fun _ => (wv z ad E N)) := by
  refine CT.of (own := "Ballothall$Natural") (by decide +kernel) (Nat.le_of_ble_eq_true rfl) rfl (fun p e s m below meth c A ls hx hb hml hr hts hown hlocks hin hA hG hZ hP hD hS hl => ?_)
  have hl : lv_has ls 6 [(0, .ref (ad p0)), (1, .int (oI x1))] := hl
  have key : ∀ (H : Heap) (locs : List Loc) (args : Array Value), (∀ w ∈ WG, w.before args s = true) → va_P z.1 classes (wv z ad E M) H → va_S A s.heap H locs → W p l e (rmK 2 61 0 0) s m args below meth c H locs 0 0 (MQ below (QK z A (fun _ => none) (fun _ => (wv z ad E N))) args s 0 0 A) (F0 m 0 ls []) := by
    intro H locs args hts hP hS
    unfold f_Na_multiplySmall at h
    obtain ⟨h_p0, h⟩ := ck_e h
    refine lv_aload_n hx hb d_10_12_0 rfl (lv_at hl 0 rfl) ?_
    refine m_gi (C := "Ballothall$Natural") (T := TX8) (N := 2) (ci := 8) (k := 1) hx hb hts iX8 hown hG hP (isNa_i h_p0) (isNa_T h_p0) rfl (by decide) w_295 (fun _ h9 => h9) rfl rfl d_10_12_1 ?_
    refine lv_iconst (v := oI 2) hx hb d_10_12_4 (by decide +kernel) ?_
    refine lv_iadd hx hb d_10_12_5 ?_
    refine nrm (oI_add _ _) ?_
    refine lv_bipush (v := oI 13) hx hb d_10_12_6 (by decide +kernel) ?_
    obtain ⟨ok0, h⟩ := ck_e h
    refine va_mmin hx hb (by rw [hml]; exact hl.1.symm) hown (hts _ w_626) (hts _ w_521) (hts _ w_17) (hts _ w_min) (Nat.le_of_ble_eq_true rfl) (Nat.le_of_ble_eq_true rfl) (Nat.le_of_ble_eq_true rfl) (Nat.le_of_ble_eq_true rfl) d_10_12_8 ?_
    refine nrm (mn_oI (a := ((M p0 1) + 2)) (b := (13 : Int)) ok0 (by decide)) ?_
    refine lv_istore_n (lv' := [(2, .int (oI (min ((M p0 1) + 2) 13))), (0, .ref (ad p0)), (1, .int (oI x1))]) hx hb d_10_12_11 rfl hl (by decide) rfl (fun ls hl => ?_)
    refine lv_lconst (v := oJ 0) hx hb d_10_12_12 (by decide +kernel) ?_
    refine lv_lstore_n (lv' := [(3, .long (oJ 0)), (2, .int (oI (min ((M p0 1) + 2) 13))), (0, .ref (ad p0)), (1, .int (oI x1))]) hx hb d_10_12_13 rfl hl (by decide) rfl (fun ls hl => ?_)
    refine lv_iconst (v := oI 0) hx hb d_10_12_14 (by decide +kernel) ?_
    refine lv_istore (lv' := [(5, .int (oI 0)), (3, .long (oJ 0)), (2, .int (oI (min ((M p0 1) + 2) 13))), (0, .ref (ad p0)), (1, .int (oI x1))]) hx hb d_10_12_15 hl (by decide) rfl (fun ls hl => ?_)
    obtain ⟨⟨t10, v10_3, v10_5, M10⟩, g10, h⟩ := bd_e h
    obtain ⟨ok10, h⟩ := ck_e h
    refine s_Na_multiplySmall_17 l z ad E p0 x1 (min ((M p0 1) + 2) 13) hx hb hml hts hown hlocks hA hG hZ hL FU M 0 0 t10 v10_3 v10_5 M10 g10 (fun e10 H locs ls hP hD hS hl => ?_) H locs ls hP hD hS (lv_sub hl [3, 4, 2, 1, 0] rfl)
    refine lv_aload_n hx hb d_10_12_60 rfl (lv_at hl 0 rfl) ?_
    refine lv_iload_n hx hb d_10_12_61 rfl (lv_at hl 1 rfl) ?_
    obtain ⟨M11, g11, h⟩ := bd_e h
    refine kV (As := [.int (oI (min ((M p0 1) + 2) 13))]) (rest := []) (s_Na_trimTo l z ad E M10 p0 (min ((M p0 1) + 2) 13) M11 hL g11) hx hb hml hown hts w_625 w_622 w_624 w_s_8e7085 w_9 md_0a866a ⟨Nat.le_of_ble_eq_true rfl, Nat.le_of_ble_eq_true rfl⟩ hG hZ hP hD hS hA p0 (wv_o (ci := 8) (isNa_i h_p0) (isNa_T h_p0)) rfl rfl rfl hl.1 rfl (Nat.le_of_ble_eq_true rfl) d_10_12_62 ⟨Nat.le_of_ble_eq_true rfl, Nat.le_of_ble_eq_true rfl⟩ (fun _ H locs hP hD hS => ?_)
    have hP : va_P z.1 classes (wv z ad E M11) H := hP
    have hD : va_D A (wv z ad E M11) := hD
    refine W.eq (g2 := F0 m 65 ls []) rfl ?_
    obtain rfl := in1 h
    exact W.vret hx hb hr (fun t ht hW => qkA hP hD hS (fun k => k) rfl rfl ht) hS.2.2 d_10_12_65
  exact key _ _ _ hts hP hS
set_option maxRecDepth 100000 in
set_option maxHeartbeats 4000000 in
theorem b_Na_compareWith_14b (l : Launch) (z : Zz) (ad : Nat → Nat) (E : Ev) (M : Mm) (q0 : Nat) (q1 : Nat) (x2 : Int) (t : Nat) (w2 : Int)  {Q : State → Prop} {p : Program} {e : Env} {s : State} {m : MethodId} {below : List Frame} {meth : Method} {c : Code} {A : Nat → Prop} {args : Array Value} (hx : p.tables.exec = Jvm.exec) (hb : c.code = prog_10_method_9_code) (hml : c.maxLocals = 3) (hts : ∀ w ∈ WG, w.before args s = true) (hown : s.vm.findClass "Ballothall$Natural" = some m.cls) (hlocks : meth.locks = false) (hA : ∀ q, s.heap.size ≤ q → A q) (hG : KG z s) (hZ : FZ z A s) (hL : Lay E) (h : Na_compareWith_14b E M q0 q1 x2 = some (t, w2)) (k0 : t = 0 → ∀ (H : Heap) (locs : List Loc) (ls : Array Slot), va_P z.1 classes (wv z ad E M) H → va_D A (wv z ad E M) → va_S A s.heap H locs → lv_has ls 3 [(0, .ref (ad q0)), (1, .ref (ad q1)), (2, .int (oI w2))] → W p l e (rmK 1 41 0 0) s m args below meth c H locs 0 0 Q (F0 m 14 ls [])) (k1 : t = 1 → ∀ (H : Heap) (locs : List Loc) (ls : Array Slot), va_P z.1 classes (wv z ad E M) H → va_D A (wv z ad E M) → va_S A s.heap H locs → lv_has ls 3 [(0, .ref (ad q0)), (1, .ref (ad q1)), (2, .int (oI w2))] → W p l e (rmK 1 41 0 0) s m args below meth c H locs 0 0 Q (F0 m 31 ls [])) (k2 : t = 2 → ∀ (H : Heap) (locs : List Loc) (ls : Array Slot), va_P z.1 classes (wv z ad E M) H → va_D A (wv z ad E M) → va_S A s.heap H locs → lv_has ls 3 [] → W p l e (rmK 1 41 0 0) s m args below meth c H locs 0 0 Q (F0 m 56 ls [])) : ∀ (H : Heap) (locs : List Loc) (ls : Array Slot), va_P z.1 classes (wv z ad E M) H → va_D A (wv z ad E M) → va_S A s.heap H locs → lv_has ls 3 [(0, .ref (ad q0)), (1, .ref (ad q1)), (2, .int (oI x2))] → W p l e (rmK 1 41 0 0) s m args below meth c H locs 0 0 Q (F0 m 14 ls []) := by
  intro H locs ls hP hD hS hl
  unfold Na_compareWith_14b at h
  obtain ⟨h_q0, h⟩ := ck_e h
  obtain ⟨h_q1, h⟩ := ck_e h
  refine lv_iload_n hx hb d_10_9_14 rfl (lv_at hl 2 rfl) ?_
  obtain ⟨ok3, h⟩ := ck_e h
  refine lv_if_lt (tgt := 56) hx hb d_10_9_15 (by decide) (fun c9 => ?_) (fun c9 => ?_)
  · have h := ite_t ((oI_lt0 ok3).mp c9) h
    obtain ⟨rfl, rfl⟩ := in2 h
    exact k2 rfl H locs ls hP hD hS (lv_sub hl [] rfl)
  · have h := ite_f (fun q => c9 ((oI_lt0 ok3).mpr q)) h
    refine lv_aload_n hx hb d_10_9_18 rfl (lv_at hl 0 rfl) ?_
    refine lv_iload_n hx hb d_10_9_19 rfl (lv_at hl 2 rfl) ?_
    obtain ⟨r4, g4, h⟩ := bd_e h
    refine kV (As := [.int (oI x2)]) (rest := []) (s_Na_limbAt l z ad E M q0 x2 r4 hL g4) hx hb hml hown hts w_637 w_634 w_636 w_s_21c489 w_9 md_149093 ⟨Nat.le_of_ble_eq_true rfl, Nat.le_of_ble_eq_true rfl⟩ hG hZ hP hD hS hA q0 (wv_o (ci := 8) (isNa_i h_q0) (isNa_T h_q0)) rfl rfl rfl hl.1 rfl (Nat.le_of_ble_eq_true rfl) d_10_9_20 ⟨Nat.le_of_ble_eq_true rfl, Nat.le_of_ble_eq_true rfl⟩ (fun _ H locs hP hD hS => ?_)
    have hP : va_P z.1 classes (wv z ad E M) H := hP
    have hD : va_D A (wv z ad E M) := hD
    refine W.eq (g2 := F0 m 23 ls [.int (oI r4)]) rfl ?_
    refine lv_aload_n hx hb d_10_9_23 rfl (lv_at hl 1 rfl) ?_
    refine lv_iload_n hx hb d_10_9_24 rfl (lv_at hl 2 rfl) ?_
    obtain ⟨r5, g5, h⟩ := bd_e h
    refine kV (As := [.int (oI x2)]) (rest := [.int (oI r4)]) (s_Na_limbAt l z ad E M q1 x2 r5 hL g5) hx hb hml hown hts w_637 w_634 w_636 w_s_21c489 w_9 md_149093 ⟨Nat.le_of_ble_eq_true rfl, Nat.le_of_ble_eq_true rfl⟩ hG hZ hP hD hS hA q1 (wv_o (ci := 8) (isNa_i h_q1) (isNa_T h_q1)) rfl rfl rfl hl.1 rfl (Nat.le_of_ble_eq_true rfl) d_10_9_25 ⟨Nat.le_of_ble_eq_true rfl, Nat.le_of_ble_eq_true rfl⟩ (fun _ H locs hP hD hS => ?_)
    have hP : va_P z.1 classes (wv z ad E M) H := hP
    have hD : va_D A (wv z ad E M) := hD
    refine W.eq (g2 := F0 m 28 ls [.int (oI r5), .int (oI r4)]) rfl ?_
    obtain ⟨ok6, h⟩ := ck_e h
    obtain ⟨ok7, h⟩ := ck_e h
    refine lv_icmp_eq (tgt := 50) hx hb d_10_9_28 (by decide) (fun c9 => ?_) (fun c9 => ?_)
    · have h := ite_t ((oI_eq (a := r4) (b := r5) ok6 ok7).mp c9) h
      refine lv_iinc (v := oI (x2 + (-1))) (lv' := [(2, .int (oI (x2 + (-1)))), (0, .ref (ad q0)), (1, .ref (ad q1))]) hx hb d_10_9_50 hl (k := 2) rfl (oI_add x2 (-1)) (by decide) rfl (fun ls hl => ?_)
      refine lv_goto (tgt := 14) hx hb d_10_9_53 (by decide) ?_
      obtain ⟨rfl, rfl⟩ := in2 h
      exact k0 rfl H locs ls hP hD hS (lv_sub hl [1, 2, 0] rfl)
    · have h := ite_f (fun q => c9 ((oI_eq (a := r4) (b := r5) ok6 ok7).mpr q)) h
      obtain ⟨rfl, rfl⟩ := in2 h
      exact k1 rfl H locs ls hP hD hS (lv_sub hl [0, 1, 2] rfl)
set_option maxRecDepth 100000 in
set_option maxHeartbeats 4000000 in
theorem s_Na_compareWith_14 (l : Launch) (z : Zz) (ad : Nat → Nat) (E : Ev) (q0 : Nat) (q1 : Nat) {Q : State → Prop} {p : Program} {e : Env} {s : State} {m : MethodId} {below : List Frame} {meth : Method} {c : Code} {A : Nat → Prop} {args : Array Value} (hx : p.tables.exec = Jvm.exec) (hb : c.code = prog_10_method_9_code) (hml : c.maxLocals = 3) (hts : ∀ w ∈ WG, w.before args s = true) (hown : s.vm.findClass "Ballothall$Natural" = some m.cls) (hlocks : meth.locks = false) (hA : ∀ q, s.heap.size ≤ q → A q) (hG : KG z s) (hZ : FZ z A s) (hL : Lay E) : ∀ (fu : Nat) (M : Mm) (x2 : Int) (t : Nat) (w2 : Int), l_Na_compareWith_14 E q0 q1 fu M x2 = some (t, w2) → (t = 1 → ∀ (H : Heap) (locs : List Loc) (ls : Array Slot), va_P z.1 classes (wv z ad E M) H → va_D A (wv z ad E M) → va_S A s.heap H locs → lv_has ls 3 [(0, .ref (ad q0)), (1, .ref (ad q1)), (2, .int (oI w2))] → W p l e (rmK 1 41 0 0) s m args below meth c H locs 0 0 Q (F0 m 31 ls [])) → (t = 2 → ∀ (H : Heap) (locs : List Loc) (ls : Array Slot), va_P z.1 classes (wv z ad E M) H → va_D A (wv z ad E M) → va_S A s.heap H locs → lv_has ls 3 [] → W p l e (rmK 1 41 0 0) s m args below meth c H locs 0 0 Q (F0 m 56 ls [])) → ∀ (H : Heap) (locs : List Loc) (ls : Array Slot), va_P z.1 classes (wv z ad E M) H → va_D A (wv z ad E M) → va_S A s.heap H locs → lv_has ls 3 [(0, .ref (ad q0)), (1, .ref (ad q1)), (2, .int (oI x2))] → W p l e (rmK 1 41 0 0) s m args below meth c H locs 0 0 Q (F0 m 14 ls []) := by
  intro fu
  induction fu with
  | zero =>
    intro M x2 t w2 h
    have h : (none : Option (Nat × Int)) = some _ := h
    cases h
  | succ fu ih =>
    intro M x2 t w2 h k1 k2 H locs ls hP hD hS hl
    obtain ⟨⟨t0, w20⟩, g0, h⟩ := bd_e h
    refine b_Na_compareWith_14b l z ad E M q0 q1 x2 t0 w20 hx hb hml hts hown hlocks hA hG hZ hL g0 (fun e0 => ?_) (fun e0 => ?_) (fun e0 => ?_) H locs ls hP hD hS hl
    · subst e0
      have h := ite_t rfl h
      exact ih M w20 t w2 h k1 k2
    · subst e0
      have h := ite_f (by decide) h
      obtain ⟨rfl, rfl⟩ := in2 h
      exact k1 rfl
    · subst e0
      have h := ite_f (by decide) h
      obtain ⟨rfl, rfl⟩ := in2 h
      exact k2 rfl
set_option maxRecDepth 100000 in
set_option maxHeartbeats 4000000 in
theorem s_Na_compareWith (l : Launch) (z : Zz) (ad : Nat → Nat) (E : Ev) (M : Mm) (p0 : Nat) (p1 : Nat) (r : Int)  (hL : Lay E) (h : f_Na_compareWith E M p0 p1 = some r) : CT l z ⟨"Ballothall$Natural", "compareWith", "(LBallothall$Natural;)I"⟩ prog_10_method_9_code 3 (some .int) [.ref (ad p0), .ref (ad p1)] (wv z ad E M) 1 41 0 0 (fun _ => some (.int (oI r))) (fun _ => (wv z ad E M)) := by
  refine CT.of (own := "Ballothall$Natural") (by decide +kernel) (Nat.le_of_ble_eq_true rfl) rfl (fun p e s m below meth c A ls hx hb hml hr hts hown hlocks hin hA hG hZ hP hD hS hl => ?_)
  have hl : lv_has ls 3 [(0, .ref (ad p0)), (1, .ref (ad p1))] := hl
  have key : ∀ (H : Heap) (locs : List Loc) (args : Array Value), (∀ w ∈ WG, w.before args s = true) → va_P z.1 classes (wv z ad E M) H → va_S A s.heap H locs → W p l e (rmK 1 41 0 0) s m args below meth c H locs 0 0 (MQ below (QK z A (fun _ => some (.int (oI r))) (fun _ => (wv z ad E M))) args s 0 0 A) (F0 m 0 ls []) := by
    intro H locs args hts hP hS
    unfold f_Na_compareWith at h
    obtain ⟨h_p0, h⟩ := ck_e h
    obtain ⟨h_p1, h⟩ := ck_e h
    refine lv_aload_n hx hb d_10_9_0 rfl (lv_at hl 0 rfl) ?_
    refine m_gi (C := "Ballothall$Natural") (T := TX8) (N := 2) (ci := 8) (k := 1) hx hb hts iX8 hown hG hP (isNa_i h_p0) (isNa_T h_p0) rfl (by decide) w_295 (fun _ h9 => h9) rfl rfl d_10_9_1 ?_
    refine lv_aload_n hx hb d_10_9_4 rfl (lv_at hl 1 rfl) ?_
    refine m_gi (C := "Ballothall$Natural") (T := TX8) (N := 2) (ci := 8) (k := 1) hx hb hts iX8 hown hG hP (isNa_i h_p1) (isNa_T h_p1) rfl (by decide) w_295 (fun _ h9 => h9) rfl rfl d_10_9_5 ?_
    obtain ⟨ok0, h⟩ := ck_e h
    obtain ⟨ok1, h⟩ := ck_e h
    refine va_mmax hx hb (by rw [hml]; exact hl.1.symm) hown (hts _ w_631) (hts _ w_632) (hts _ w_17) (hts _ w_max) (Nat.le_of_ble_eq_true rfl) (Nat.le_of_ble_eq_true rfl) (Nat.le_of_ble_eq_true rfl) (Nat.le_of_ble_eq_true rfl) d_10_9_8 ?_
    refine nrm (mx_oI (a := (M p0 1)) (b := (M p1 1)) ok0 ok1) ?_
    refine lv_iconst (v := oI 1) hx hb d_10_9_11 (by decide +kernel) ?_
    refine lv_isub hx hb d_10_9_12 ?_
    refine nrm (oI_sub _ _) ?_
    obtain ⟨v2, e2, h⟩ := nb_e h
    refine nrm (congrArg oI e2.symm) ?_
    refine lv_istore_n (lv' := [(2, .int (oI v2)), (0, .ref (ad p0)), (1, .ref (ad p1))]) hx hb d_10_9_13 rfl hl (by decide) rfl (fun ls hl => ?_)
    obtain ⟨⟨t8, v8_2⟩, g8, h⟩ := bd_e h
    refine s_Na_compareWith_14 l z ad E p0 p1 hx hb hml hts hown hlocks hA hG hZ hL FU M v2 t8 v8_2 g8 (fun e8 H locs ls hP hD hS hl => ?_) (fun e8 H locs ls hP hD hS hl => ?_) H locs ls hP hD hS (lv_sub hl [1, 2, 0] rfl)
    · subst e8
      have h := ite_t rfl h
      refine lv_aload_n hx hb d_10_9_31 rfl (lv_at hl 0 rfl) ?_
      refine lv_iload_n hx hb d_10_9_32 rfl (lv_at hl 2 rfl) ?_
      obtain ⟨r9, g9, h⟩ := bd_e h
      refine kV (As := [.int (oI v8_2)]) (rest := []) (s_Na_limbAt l z ad E M p0 v8_2 r9 hL g9) hx hb hml hown hts w_637 w_634 w_636 w_s_21c489 w_9 md_149093 ⟨Nat.le_of_ble_eq_true rfl, Nat.le_of_ble_eq_true rfl⟩ hG hZ hP hD hS hA p0 (wv_o (ci := 8) (isNa_i h_p0) (isNa_T h_p0)) rfl rfl rfl hl.1 rfl (Nat.le_of_ble_eq_true rfl) d_10_9_33 ⟨Nat.le_of_ble_eq_true rfl, Nat.le_of_ble_eq_true rfl⟩ (fun _ H locs hP hD hS => ?_)
      have hP : va_P z.1 classes (wv z ad E M) H := hP
      have hD : va_D A (wv z ad E M) := hD
      refine W.eq (g2 := F0 m 36 ls [.int (oI r9)]) rfl ?_
      refine lv_aload_n hx hb d_10_9_36 rfl (lv_at hl 1 rfl) ?_
      refine lv_iload_n hx hb d_10_9_37 rfl (lv_at hl 2 rfl) ?_
      obtain ⟨r10, g10, h⟩ := bd_e h
      refine kV (As := [.int (oI v8_2)]) (rest := [.int (oI r9)]) (s_Na_limbAt l z ad E M p1 v8_2 r10 hL g10) hx hb hml hown hts w_637 w_634 w_636 w_s_21c489 w_9 md_149093 ⟨Nat.le_of_ble_eq_true rfl, Nat.le_of_ble_eq_true rfl⟩ hG hZ hP hD hS hA p1 (wv_o (ci := 8) (isNa_i h_p1) (isNa_T h_p1)) rfl rfl rfl hl.1 rfl (Nat.le_of_ble_eq_true rfl) d_10_9_38 ⟨Nat.le_of_ble_eq_true rfl, Nat.le_of_ble_eq_true rfl⟩ (fun _ H locs hP hD hS => ?_)
      have hP : va_P z.1 classes (wv z ad E M) H := hP
      have hD : va_D A (wv z ad E M) := hD
      refine W.eq (g2 := F0 m 41 ls [.int (oI r10), .int (oI r9)]) rfl ?_
      obtain ⟨ok11, h⟩ := ck_e h
      obtain ⟨ok12, h⟩ := ck_e h
      refine lv_icmp_ge (tgt := 48) hx hb d_10_9_41 (by decide) (fun c9 => ?_) (fun c9 => ?_)
      · have h := ite_t ((oI_le (a := r10) (b := r9) ok12 ok11).mp c9) h
        refine lv_iconst (v := oI 1) hx hb d_10_9_48 (by decide +kernel) ?_
        obtain rfl := in1 h
        exact W.iret hx hb hr (fun t ht hW => qkA hP hD hS (fun k => k) rfl rfl ht) hS.2.2 d_10_9_49
      · have h := ite_f (fun q => c9 ((oI_le (a := r10) (b := r9) ok12 ok11).mpr q)) h
        refine lv_iconst (v := oI (-1)) hx hb d_10_9_44 (by decide +kernel) ?_
        refine lv_goto (tgt := 49) hx hb d_10_9_45 (by decide) ?_
        obtain rfl := in1 h
        exact W.iret hx hb hr (fun t ht hW => qkA hP hD hS (fun k => k) rfl rfl ht) hS.2.2 d_10_9_49
    · subst e8
      have h := ite_f (by decide) h
      have h := ite_t rfl h
      refine lv_iconst (v := oI 0) hx hb d_10_9_56 (by decide +kernel) ?_
      obtain rfl := in1 h
      exact W.iret hx hb hr (fun t ht hW => qkA hP hD hS (fun k => k) rfl rfl ht) hS.2.2 d_10_9_57
  exact key _ _ _ hts hP hS
set_option maxRecDepth 100000 in
set_option maxHeartbeats 4000000 in
theorem b_Co_unbalancedSteps_28b (l : Launch) (z : Zz) (ad : Nat → Nat) (E : Ev) (M : Mm) (q1 : Nat) (x2 : Int) (x3 : Int) (x4 : Int) (t : Nat) (w4 : Int) (N : Mm) {Q : State → Prop} {p : Program} {e : Env} {s : State} {m : MethodId} {below : List Frame} {meth : Method} {c : Code} {A : Nat → Prop} {args : Array Value} (hx : p.tables.exec = Jvm.exec) (hb : c.code = prog_5_method_20_code) (hml : c.maxLocals = 5) (hts : ∀ w ∈ WG, w.before args s = true) (hown : s.vm.findClass "Ballothall$Counting" = some m.cls) (hlocks : meth.locks = false) (hA : ∀ q, s.heap.size ≤ q → A q) (hG : KG z s) (hZ : FZ z A s) (hL : Lay E) (h : Co_unbalancedSteps_28b E M q1 x2 x3 x4 = some (t, w4, N)) (k0 : t = 0 → ∀ (H : Heap) (locs : List Loc) (ls : Array Slot), va_P z.1 classes (wv z ad E N) H → va_D A (wv z ad E N) → va_S A s.heap H locs → lv_has ls 5 [(0, .ref (ad 179)), (1, .ref (ad q1)), (2, .int (oI x2)), (3, .int (oI x3)), (4, .int (oI w4))] → W p l e (rmK 4 106 0 0) s m args below meth c H locs 0 0 Q (F0 m 28 ls [])) (k1 : t = 1 → ∀ (H : Heap) (locs : List Loc) (ls : Array Slot), va_P z.1 classes (wv z ad E N) H → va_D A (wv z ad E N) → va_S A s.heap H locs → lv_has ls 5 [(0, .ref (ad 179)), (1, .ref (ad q1)), (2, .int (oI x2)), (3, .int (oI x3))] → W p l e (rmK 4 106 0 0) s m args below meth c H locs 0 0 Q (F0 m 60 ls [])) : ∀ (H : Heap) (locs : List Loc) (ls : Array Slot), va_P z.1 classes (wv z ad E M) H → va_D A (wv z ad E M) → va_S A s.heap H locs → lv_has ls 5 [(0, .ref (ad 179)), (1, .ref (ad q1)), (2, .int (oI x2)), (3, .int (oI x3)), (4, .int (oI x4))] → W p l e (rmK 4 106 0 0) s m args below meth c H locs 0 0 Q (F0 m 28 ls []) := by
  intro H locs ls hP hD hS hl
  unfold Co_unbalancedSteps_28b at h
  obtain ⟨h_q1, h⟩ := ck_e h
  refine lv_iload hx hb d_5_20_28 (lv_at hl 4 rfl) ?_
  refine lv_bipush (v := oI 9) hx hb d_5_20_30 (by decide +kernel) ?_
  obtain ⟨ok3, h⟩ := ck_e h
  refine lv_icmp_ge (tgt := 60) hx hb d_5_20_32 (by decide) (fun c9 => ?_) (fun c9 => ?_)
  · have h := ite_t ((oI_le (a := (9 : Int)) (b := x4) (by decide) ok3).mp c9) h
    obtain ⟨rfl, rfl, rfl⟩ := in3 h
    exact k1 rfl H locs ls hP hD hS (lv_sub hl [0, 1, 2, 3] rfl)
  · have h := ite_f (fun q => c9 ((oI_le (a := (9 : Int)) (b := x4) (by decide) ok3).mpr q)) h
    refine lv_aload_n hx hb d_5_20_35 rfl (lv_at hl 0 rfl) ?_
    refine lv_aload_n hx hb d_5_20_36 rfl (lv_at hl 1 rfl) ?_
    refine lv_iload_n hx hb d_5_20_37 rfl (lv_at hl 3 rfl) ?_
    refine lv_iload hx hb d_5_20_38 (lv_at hl 4 rfl) ?_
    obtain ⟨M4, g4, h⟩ := bd_e h
    refine kV (As := [.ref (ad q1), .int (oI x3), .int (oI x4)]) (rest := []) (s_Co_loadPile l z ad E M q1 x3 x4 M4 hL g4) hx hb hml hown hts w_609 w_606 w_608 w_s_1f7bc1 w_8 md_01358e ⟨Nat.le_of_ble_eq_true rfl, Nat.le_of_ble_eq_true rfl⟩ hG hZ hP hD hS hA 179 (wv_o (ci := 3) (yi_179 hL) (yt_179 hL)) rfl rfl rfl hl.1 rfl (Nat.le_of_ble_eq_true rfl) d_5_20_40 ⟨Nat.le_of_ble_eq_true rfl, Nat.le_of_ble_eq_true rfl⟩ (fun _ H locs hP hD hS => ?_)
    have hP : va_P z.1 classes (wv z ad E M4) H := hP
    have hD : va_D A (wv z ad E M4) := hD
    refine W.eq (g2 := F0 m 43 ls []) rfl ?_
    refine lv_aload_n hx hb d_5_20_43 rfl (lv_at hl 0 rfl) ?_
    refine m_gr (j := 185) (C := "Ballothall$Counting") (T := TX3) (N := 15) (ci := 3) (k := 7) hx hb hts iX3 hown hG hP (yi_179 hL) (yt_179 hL) rfl (by decide) w_310 (fun _ h9 => h9) rfl rfl (yr_179_7 hL) d_5_20_44 ?_
    refine lv_aload_n hx hb d_5_20_47 rfl (lv_at hl 0 rfl) ?_
    refine m_gr (j := 189) (C := "Ballothall$Counting") (T := TX3) (N := 15) (ci := 3) (k := 9) hx hb hts iX3 hown hG hP (yi_179 hL) (yt_179 hL) rfl (by decide) w_312 (fun _ h9 => h9) rfl rfl (yr_179_9 hL) d_5_20_48 ?_
    obtain ⟨M5, g5, h⟩ := bd_e h
    refine kVN (As := [.ref (ad 189)]) (rest := []) (s_Na_add l z ad E M4 185 189 M5 hL g5) hx hb hml hown hts w_630 n_627 w_629 w_s_f38dc3 w_9 md_c50573 ⟨Nat.le_of_ble_eq_true rfl, Nat.le_of_ble_eq_true rfl⟩ hG hZ hP hD hS hA 185 (wv_o (ci := 8) (yi_185 hL) (yt_185 hL)) rfl rfl rfl hl.1 rfl (Nat.le_of_ble_eq_true rfl) d_5_20_51 ⟨Nat.le_of_ble_eq_true rfl, Nat.le_of_ble_eq_true rfl⟩ (fun _ H locs hP hD hS => ?_)
    have hP : va_P z.1 classes (wv z ad E M5) H := hP
    have hD : va_D A (wv z ad E M5) := hD
    refine W.eq (g2 := F0 m 54 ls []) rfl ?_
    refine lv_iinc (v := oI (x4 + 1)) (lv' := [(4, .int (oI (x4 + 1))), (0, .ref (ad 179)), (1, .ref (ad q1)), (2, .int (oI x2)), (3, .int (oI x3))]) hx hb d_5_20_54 hl (k := 4) rfl (oI_add x4 1) (by decide) rfl (fun ls hl => ?_)
    refine lv_goto (tgt := 28) hx hb d_5_20_57 (by decide) ?_
    obtain ⟨rfl, rfl, rfl⟩ := in3 h
    exact k0 rfl H locs ls hP hD hS (lv_sub hl [1, 2, 3, 4, 0] rfl)
set_option maxRecDepth 100000 in
set_option maxHeartbeats 4000000 in
theorem s_Co_unbalancedSteps_28 (l : Launch) (z : Zz) (ad : Nat → Nat) (E : Ev) (q1 : Nat) (x2 : Int) (x3 : Int) {Q : State → Prop} {p : Program} {e : Env} {s : State} {m : MethodId} {below : List Frame} {meth : Method} {c : Code} {A : Nat → Prop} {args : Array Value} (hx : p.tables.exec = Jvm.exec) (hb : c.code = prog_5_method_20_code) (hml : c.maxLocals = 5) (hts : ∀ w ∈ WG, w.before args s = true) (hown : s.vm.findClass "Ballothall$Counting" = some m.cls) (hlocks : meth.locks = false) (hA : ∀ q, s.heap.size ≤ q → A q) (hG : KG z s) (hZ : FZ z A s) (hL : Lay E) : ∀ (fu : Nat) (M : Mm) (x4 : Int) (t : Nat) (w4 : Int) (N : Mm), l_Co_unbalancedSteps_28 E q1 x2 x3 fu M x4 = some (t, w4, N) → (t = 1 → ∀ (H : Heap) (locs : List Loc) (ls : Array Slot), va_P z.1 classes (wv z ad E N) H → va_D A (wv z ad E N) → va_S A s.heap H locs → lv_has ls 5 [(0, .ref (ad 179)), (1, .ref (ad q1)), (2, .int (oI x2)), (3, .int (oI x3))] → W p l e (rmK 4 106 0 0) s m args below meth c H locs 0 0 Q (F0 m 60 ls [])) → ∀ (H : Heap) (locs : List Loc) (ls : Array Slot), va_P z.1 classes (wv z ad E M) H → va_D A (wv z ad E M) → va_S A s.heap H locs → lv_has ls 5 [(0, .ref (ad 179)), (1, .ref (ad q1)), (2, .int (oI x2)), (3, .int (oI x3)), (4, .int (oI x4))] → W p l e (rmK 4 106 0 0) s m args below meth c H locs 0 0 Q (F0 m 28 ls []) := by
  intro fu
  induction fu with
  | zero =>
    intro M x4 t w4 N h
    have h : (none : Option (Nat × Int × Mm)) = some _ := h
    cases h
  | succ fu ih =>
    intro M x4 t w4 N h k1 H locs ls hP hD hS hl
    obtain ⟨⟨t0, w40, N9⟩, g0, h⟩ := bd_e h
    refine b_Co_unbalancedSteps_28b l z ad E M q1 x2 x3 x4 t0 w40 N9 hx hb hml hts hown hlocks hA hG hZ hL g0 (fun e0 => ?_) (fun e0 => ?_) H locs ls hP hD hS hl
    · subst e0
      have h := ite_t rfl h
      exact ih N9 w40 t w4 N h k1
    · subst e0
      have h := ite_f (by decide) h
      obtain ⟨rfl, rfl, rfl⟩ := in3 h
      exact k1 rfl
set_option maxRecDepth 100000 in
set_option maxHeartbeats 4000000 in
theorem b_Co_unbalancedSteps_4b (l : Launch) (z : Zz) (ad : Nat → Nat) (E : Ev) (M : Mm) (q1 : Nat) (x2 : Int) (x3 : Int) (t : Nat) (w2 : Int) (w3 : Int) (N : Mm) {Q : State → Prop} {p : Program} {e : Env} {s : State} {m : MethodId} {below : List Frame} {meth : Method} {c : Code} {A : Nat → Prop} {args : Array Value} (hx : p.tables.exec = Jvm.exec) (hb : c.code = prog_5_method_20_code) (hml : c.maxLocals = 5) (hts : ∀ w ∈ WG, w.before args s = true) (hown : s.vm.findClass "Ballothall$Counting" = some m.cls) (hlocks : meth.locks = false) (hA : ∀ q, s.heap.size ≤ q → A q) (hG : KG z s) (hZ : FZ z A s) (hL : Lay E) (h : Co_unbalancedSteps_4b E M q1 x2 x3 = some (t, w2, w3, N)) (k0 : t = 0 → ∀ (H : Heap) (locs : List Loc) (ls : Array Slot), va_P z.1 classes (wv z ad E N) H → va_D A (wv z ad E N) → va_S A s.heap H locs → lv_has ls 5 [(0, .ref (ad 179)), (1, .ref (ad q1)), (2, .int (oI w2)), (3, .int (oI w3))] → W p l e (rmK 4 106 0 0) s m args below meth c H locs 0 0 Q (F0 m 4 ls [])) (k1 : t = 1 → ∀ (H : Heap) (locs : List Loc) (ls : Array Slot), va_P z.1 classes (wv z ad E N) H → va_D A (wv z ad E N) → va_S A s.heap H locs → lv_has ls 5 [(2, .int (oI w2))] → W p l e (rmK 4 106 0 0) s m args below meth c H locs 0 0 Q (F0 m 94 ls [])) : ∀ (H : Heap) (locs : List Loc) (ls : Array Slot), va_P z.1 classes (wv z ad E M) H → va_D A (wv z ad E M) → va_S A s.heap H locs → lv_has ls 5 [(0, .ref (ad 179)), (1, .ref (ad q1)), (2, .int (oI x2)), (3, .int (oI x3))] → W p l e (rmK 4 106 0 0) s m args below meth c H locs 0 0 Q (F0 m 4 ls []) := by
  intro H locs ls hP hD hS hl
  unfold Co_unbalancedSteps_4b at h
  obtain ⟨h_q1, h⟩ := ck_e h
  refine lv_iload_n hx hb d_5_20_4 rfl (lv_at hl 3 rfl) ?_
  refine lv_aload_n hx hb d_5_20_5 rfl (lv_at hl 1 rfl) ?_
  refine m_giN (C := "Ballothall$Count") (T := TX2) (N := 10) (ci := 2) (k := 4) hx hb hts iX2 hown hG hP (isCt_i h_q1) (isCt_T h_q1) rfl (by decide) n_1086 rfl (fun _ h9 => h9) rfl rfl d_5_20_6 ?_
  refine lv_aload_n hx hb d_5_20_9 rfl (lv_at hl 1 rfl) ?_
  refine m_giN (C := "Ballothall$Count") (T := TX2) (N := 10) (ci := 2) (k := 5) hx hb hts iX2 hown hG hP (isCt_i h_q1) (isCt_T h_q1) rfl (by decide) n_1088 rfl (fun _ h9 => h9) rfl rfl d_5_20_10 ?_
  refine lv_iadd hx hb d_5_20_13 ?_
  refine nrm (oI_add _ _) ?_
  obtain ⟨ok0, h⟩ := ck_e h
  obtain ⟨ok1, h⟩ := ck_e h
  refine lv_icmp_gt (tgt := 94) hx hb d_5_20_14 (by decide) (fun c9 => ?_) (fun c9 => ?_)
  · have h := ite_t ((oI_lt (a := ((M q1 4) + (M q1 5))) (b := x3) ok1 ok0).mp c9) h
    obtain ⟨rfl, rfl, rfl, rfl⟩ := in4 h
    exact k1 rfl H locs ls hP hD hS (lv_sub hl [2] rfl)
  · have h := ite_f (fun q => c9 ((oI_lt (a := ((M q1 4) + (M q1 5))) (b := x3) ok1 ok0).mpr q)) h
    refine lv_aload_n hx hb d_5_20_17 rfl (lv_at hl 0 rfl) ?_
    refine m_gr (j := 185) (C := "Ballothall$Counting") (T := TX3) (N := 15) (ci := 3) (k := 7) hx hb hts iX3 hown hG hP (yi_179 hL) (yt_179 hL) rfl (by decide) w_310 (fun _ h9 => h9) rfl rfl (yr_179_7 hL) d_5_20_18 ?_
    refine lv_lconst (v := oJ 0) hx hb d_5_20_21 (by decide +kernel) ?_
    obtain ⟨M2, g2, h⟩ := bd_e h
    refine kVN (As := [.long (oJ 0)]) (rest := []) (s_Na_become l z ad E M 185 0 M2 hL g2) hx hb hml hown hts w_604 n_601 w_603 w_s_5a2a50 w_9 md_34308f ⟨Nat.le_of_ble_eq_true rfl, Nat.le_of_ble_eq_true rfl⟩ hG hZ hP hD hS hA 185 (wv_o (ci := 8) (yi_185 hL) (yt_185 hL)) rfl rfl rfl hl.1 rfl (Nat.le_of_ble_eq_true rfl) d_5_20_22 ⟨Nat.le_of_ble_eq_true rfl, Nat.le_of_ble_eq_true rfl⟩ (fun _ H locs hP hD hS => ?_)
    have hP : va_P z.1 classes (wv z ad E M2) H := hP
    have hD : va_D A (wv z ad E M2) := hD
    refine W.eq (g2 := F0 m 25 ls []) rfl ?_
    refine lv_iconst (v := oI 0) hx hb d_5_20_25 (by decide +kernel) ?_
    refine lv_istore (lv' := [(4, .int (oI 0)), (0, .ref (ad 179)), (1, .ref (ad q1)), (2, .int (oI x2)), (3, .int (oI x3))]) hx hb d_5_20_26 hl (by decide) rfl (fun ls hl => ?_)
    obtain ⟨⟨t6, v6_4, M6⟩, g6, h⟩ := bd_e h
    obtain ⟨ok6, h⟩ := ck_e h
    refine s_Co_unbalancedSteps_28 l z ad E q1 x2 x3 hx hb hml hts hown hlocks hA hG hZ hL FU M2 0 t6 v6_4 M6 g6 (fun e6 H locs ls hP hD hS hl => ?_) H locs ls hP hD hS (lv_sub hl [1, 2, 3, 4, 0] rfl)
    refine lv_aload_n hx hb d_5_20_60 rfl (lv_at hl 0 rfl) ?_
    refine m_gr (j := 191) (C := "Ballothall$Counting") (T := TX3) (N := 15) (ci := 3) (k := 10) hx hb hts iX3 hown hG hP (yi_179 hL) (yt_179 hL) rfl (by decide) w_314 (fun _ h9 => h9) rfl rfl (yr_179_10 hL) d_5_20_61 ?_
    refine lv_aload_n hx hb d_5_20_64 rfl (lv_at hl 1 rfl) ?_
    refine m_giN (C := "Ballothall$Count") (T := TX2) (N := 10) (ci := 2) (k := 3) hx hb hts iX2 hown hG hP (isCt_i h_q1) (isCt_T h_q1) rfl (by decide) n_1085 rfl (fun _ h9 => h9) rfl rfl d_5_20_65 ?_
    obtain ⟨M7, g7, h⟩ := bd_e h
    refine kVN (As := [.int (oI (M6 q1 3))]) (rest := []) (s_Na_multiplySmall l z ad E M6 191 (M6 q1 3) M7 hL g7) hx hb hml hown hts w_642 n_639 w_641 w_s_f32dd6 w_9 md_664187 ⟨Nat.le_of_ble_eq_true rfl, Nat.le_of_ble_eq_true rfl⟩ hG hZ hP hD hS hA 191 (wv_o (ci := 8) (yi_191 hL) (yt_191 hL)) rfl rfl rfl hl.1 rfl (Nat.le_of_ble_eq_true rfl) d_5_20_68 ⟨Nat.le_of_ble_eq_true rfl, Nat.le_of_ble_eq_true rfl⟩ (fun _ H locs hP hD hS => ?_)
    have hP : va_P z.1 classes (wv z ad E M7) H := hP
    have hD : va_D A (wv z ad E M7) := hD
    refine W.eq (g2 := F0 m 71 ls []) rfl ?_
    refine lv_aload_n hx hb d_5_20_71 rfl (lv_at hl 0 rfl) ?_
    refine m_gr (j := 185) (C := "Ballothall$Counting") (T := TX3) (N := 15) (ci := 3) (k := 7) hx hb hts iX3 hown hG hP (yi_179 hL) (yt_179 hL) rfl (by decide) w_310 (fun _ h9 => h9) rfl rfl (yr_179_7 hL) d_5_20_72 ?_
    refine lv_aload_n hx hb d_5_20_75 rfl (lv_at hl 0 rfl) ?_
    refine m_gr (j := 191) (C := "Ballothall$Counting") (T := TX3) (N := 15) (ci := 3) (k := 10) hx hb hts iX3 hown hG hP (yi_179 hL) (yt_179 hL) rfl (by decide) w_314 (fun _ h9 => h9) rfl rfl (yr_179_10 hL) d_5_20_76 ?_
    obtain ⟨r8, g8, h⟩ := bd_e h
    refine kVN (As := [.ref (ad 191)]) (rest := []) (s_Na_compareWith l z ad E M7 185 191 r8 hL g8) hx hb hml hown hts w_646 n_643 w_645 w_s_c7eea3 w_9 md_c6b535 ⟨Nat.le_of_ble_eq_true rfl, Nat.le_of_ble_eq_true rfl⟩ hG hZ hP hD hS hA 185 (wv_o (ci := 8) (yi_185 hL) (yt_185 hL)) rfl rfl rfl hl.1 rfl (Nat.le_of_ble_eq_true rfl) d_5_20_79 ⟨Nat.le_of_ble_eq_true rfl, Nat.le_of_ble_eq_true rfl⟩ (fun _ H locs hP hD hS => ?_)
    have hP : va_P z.1 classes (wv z ad E M7) H := hP
    have hD : va_D A (wv z ad E M7) := hD
    refine W.eq (g2 := F0 m 82 ls [.int (oI r8)]) rfl ?_
    obtain ⟨ok9, h⟩ := ck_e h
    refine lv_if_eq (tgt := 88) hx hb d_5_20_82 (by decide) (fun c9 => ?_) (fun c9 => ?_)
    · have h := ite_t ((oI_eq0 ok9).mp c9) h
      refine lv_iinc (v := oI (x3 + 1)) (lv' := [(3, .int (oI (x3 + 1))), (0, .ref (ad 179)), (1, .ref (ad q1)), (2, .int (oI x2))]) hx hb d_5_20_88 hl (k := 3) rfl (oI_add x3 1) (by decide) rfl (fun ls hl => ?_)
      refine lv_goto (tgt := 4) hx hb d_5_20_91 (by decide) ?_
      obtain ⟨rfl, rfl, rfl, rfl⟩ := in4 h
      exact k0 rfl H locs ls hP hD hS (lv_sub hl [1, 2, 3, 0] rfl)
    · have h := ite_f (fun q => c9 ((oI_eq0 ok9).mpr q)) h
      refine lv_iinc (v := oI (x2 + 1)) (lv' := [(2, .int (oI (x2 + 1))), (0, .ref (ad 179)), (1, .ref (ad q1)), (3, .int (oI x3))]) hx hb d_5_20_85 hl (k := 2) rfl (oI_add x2 1) (by decide) rfl (fun ls hl => ?_)
      refine lv_iinc (v := oI (x3 + 1)) (lv' := [(3, .int (oI (x3 + 1))), (2, .int (oI (x2 + 1))), (0, .ref (ad 179)), (1, .ref (ad q1))]) hx hb d_5_20_88 hl (k := 3) rfl (oI_add x3 1) (by decide) rfl (fun ls hl => ?_)
      refine lv_goto (tgt := 4) hx hb d_5_20_91 (by decide) ?_
      obtain ⟨rfl, rfl, rfl, rfl⟩ := in4 h
      exact k0 rfl H locs ls hP hD hS (lv_sub hl [2, 3, 1, 0] rfl)
set_option maxRecDepth 100000 in
set_option maxHeartbeats 4000000 in
theorem s_Co_unbalancedSteps_4 (l : Launch) (z : Zz) (ad : Nat → Nat) (E : Ev) (q1 : Nat) {Q : State → Prop} {p : Program} {e : Env} {s : State} {m : MethodId} {below : List Frame} {meth : Method} {c : Code} {A : Nat → Prop} {args : Array Value} (hx : p.tables.exec = Jvm.exec) (hb : c.code = prog_5_method_20_code) (hml : c.maxLocals = 5) (hts : ∀ w ∈ WG, w.before args s = true) (hown : s.vm.findClass "Ballothall$Counting" = some m.cls) (hlocks : meth.locks = false) (hA : ∀ q, s.heap.size ≤ q → A q) (hG : KG z s) (hZ : FZ z A s) (hL : Lay E) : ∀ (fu : Nat) (M : Mm) (x2 : Int) (x3 : Int) (t : Nat) (w2 : Int) (w3 : Int) (N : Mm), l_Co_unbalancedSteps_4 E q1 fu M x2 x3 = some (t, w2, w3, N) → (t = 1 → ∀ (H : Heap) (locs : List Loc) (ls : Array Slot), va_P z.1 classes (wv z ad E N) H → va_D A (wv z ad E N) → va_S A s.heap H locs → lv_has ls 5 [(2, .int (oI w2))] → W p l e (rmK 4 106 0 0) s m args below meth c H locs 0 0 Q (F0 m 94 ls [])) → ∀ (H : Heap) (locs : List Loc) (ls : Array Slot), va_P z.1 classes (wv z ad E M) H → va_D A (wv z ad E M) → va_S A s.heap H locs → lv_has ls 5 [(0, .ref (ad 179)), (1, .ref (ad q1)), (2, .int (oI x2)), (3, .int (oI x3))] → W p l e (rmK 4 106 0 0) s m args below meth c H locs 0 0 Q (F0 m 4 ls []) := by
  intro fu
  induction fu with
  | zero =>
    intro M x2 x3 t w2 w3 N h
    have h : (none : Option (Nat × Int × Int × Mm)) = some _ := h
    cases h
  | succ fu ih =>
    intro M x2 x3 t w2 w3 N h k1 H locs ls hP hD hS hl
    obtain ⟨⟨t0, w20, w30, N9⟩, g0, h⟩ := bd_e h
    refine b_Co_unbalancedSteps_4b l z ad E M q1 x2 x3 t0 w20 w30 N9 hx hb hml hts hown hlocks hA hG hZ hL g0 (fun e0 => ?_) (fun e0 => ?_) H locs ls hP hD hS hl
    · subst e0
      have h := ite_t rfl h
      exact ih N9 w20 w30 t w2 w3 N h k1
    · subst e0
      have h := ite_f (by decide) h
      obtain ⟨rfl, rfl, rfl, rfl⟩ := in4 h
      exact k1 rfl
set_option maxRecDepth 100000 in
set_option maxHeartbeats 4000000 in
theorem s_Co_unbalancedSteps (l : Launch) (z : Zz) (ad : Nat → Nat) (E : Ev) (M : Mm) (p1 : Nat) (r : Int) (N : Mm) (hL : Lay E) (h : f_Co_unbalancedSteps E M p1 = some (r, N)) : CT l z ⟨"Ballothall$Counting", "unbalancedSteps", "(LBallothall$Count;)I"⟩ prog_5_method_20_code 5 (some .int) [.ref (ad 179), .ref (ad p1)] (wv z ad E M) 4 106 0 0 (fun _ => some (.int (oI r))) (fun _ => (wv z ad E N)) := by
  refine CT.of (own := "Ballothall$Counting") (by decide +kernel) (Nat.le_of_ble_eq_true rfl) rfl (fun p e s m below meth c A ls hx hb hml hr hts hown hlocks hin hA hG hZ hP hD hS hl => ?_)
  have hl : lv_has ls 5 [(0, .ref (ad 179)), (1, .ref (ad p1))] := hl
  have key : ∀ (H : Heap) (locs : List Loc) (args : Array Value), (∀ w ∈ WG, w.before args s = true) → va_P z.1 classes (wv z ad E M) H → va_S A s.heap H locs → W p l e (rmK 4 106 0 0) s m args below meth c H locs 0 0 (MQ below (QK z A (fun _ => some (.int (oI r))) (fun _ => (wv z ad E N))) args s 0 0 A) (F0 m 0 ls []) := by
    intro H locs args hts hP hS
    unfold f_Co_unbalancedSteps at h
    obtain ⟨h_p1, h⟩ := ck_e h
    refine lv_iconst (v := oI 0) hx hb d_5_20_0 (by decide +kernel) ?_
    refine lv_istore_n (lv' := [(2, .int (oI 0)), (0, .ref (ad 179)), (1, .ref (ad p1))]) hx hb d_5_20_1 rfl hl (by decide) rfl (fun ls hl => ?_)
    refine lv_iconst (v := oI 1) hx hb d_5_20_2 (by decide +kernel) ?_
    refine lv_istore_n (lv' := [(3, .int (oI 1)), (2, .int (oI 0)), (0, .ref (ad 179)), (1, .ref (ad p1))]) hx hb d_5_20_3 rfl hl (by decide) rfl (fun ls hl => ?_)
    obtain ⟨⟨t10, v10_2, v10_3, M10⟩, g10, h⟩ := bd_e h
    obtain ⟨ok10, h⟩ := ck_e h
    refine s_Co_unbalancedSteps_4 l z ad E p1 hx hb hml hts hown hlocks hA hG hZ hL FU M 0 1 t10 v10_2 v10_3 M10 g10 (fun e10 H locs ls hP hD hS hl => ?_) H locs ls hP hD hS (lv_sub hl [2, 3, 1, 0] rfl)
    refine lv_iload_n hx hb d_5_20_94 rfl (lv_at hl 0 rfl) ?_
    obtain ⟨rfl, rfl⟩ := in2 h
    exact W.iret hx hb hr (fun t ht hW => qkA hP hD hS (fun k => k) rfl rfl ht) hS.2.2 d_5_20_95
  exact key _ _ _ hts hP hS
set_option maxRecDepth 100000 in
set_option maxHeartbeats 4000000 in
theorem b_Bx_findSupport_23b (l : Launch) (z : Zz) (ad : Nat → Nat) (E : Ev) (M : Mm) (q1 : Nat) (x2 : Int) (x3 : Int) (x4 : Int) (x5 : Int) (x6 : Int) (t : Nat) (w5 : Int) (w6 : Int) (N : Mm) {Q : State → Prop} {p : Program} {e : Env} {s : State} {m : MethodId} {below : List Frame} {meth : Method} {c : Code} {A : Nat → Prop} {args : Array Value} (hx : p.tables.exec = Jvm.exec) (hb : c.code = prog_2_method_15_code) (hml : c.maxLocals = 7) (hts : ∀ w ∈ WG, w.before args s = true) (hown : s.vm.findClass "Ballothall$BallotBox" = some m.cls) (hlocks : meth.locks = false) (hA : ∀ q, s.heap.size ≤ q → A q) (hG : KG z s) (hZ : FZ z A s) (hL : Lay E) (h : Bx_findSupport_23b E M q1 x2 x3 x4 x5 x6 = some (t, w5, w6, N)) (k0 : t = 0 → ∀ (H : Heap) (locs : List Loc) (ls : Array Slot), va_P z.1 classes (wv z ad E N) H → va_D A (wv z ad E N) → va_S A s.heap H locs → lv_has ls 7 [(0, .ref (ad 2)), (1, .ref (ad q1)), (2, .int (oI x2)), (3, .int (oI x3)), (4, .int (oI x4)), (5, .int (oI w5)), (6, .int (oI w6))] → W p l e (rmK 1 44 0 0) s m args below meth c H locs 0 0 Q (F0 m 23 ls [])) (k1 : t = 1 → ∀ (H : Heap) (locs : List Loc) (ls : Array Slot), va_P z.1 classes (wv z ad E N) H → va_D A (wv z ad E N) → va_S A s.heap H locs → lv_has ls 7 [(0, .ref (ad 2)), (1, .ref (ad q1)), (2, .int (oI x2)), (3, .int (oI x3)), (4, .int (oI x4))] → W p l e (rmK 1 44 0 0) s m args below meth c H locs 0 0 Q (F0 m 76 ls [])) : ∀ (H : Heap) (locs : List Loc) (ls : Array Slot), va_P z.1 classes (wv z ad E M) H → va_D A (wv z ad E M) → va_S A s.heap H locs → lv_has ls 7 [(0, .ref (ad 2)), (1, .ref (ad q1)), (2, .int (oI x2)), (3, .int (oI x3)), (4, .int (oI x4)), (5, .int (oI x5)), (6, .int (oI x6))] → W p l e (rmK 1 44 0 0) s m args below meth c H locs 0 0 Q (F0 m 23 ls []) := by
  intro H locs ls hP hD hS hl
  unfold Bx_findSupport_23b at h
  obtain ⟨h_q1, h⟩ := ck_e h
  refine lv_iload hx hb d_2_15_23 (lv_at hl 6 rfl) ?_
  refine lv_aload_n hx hb d_2_15_25 rfl (lv_at hl 0 rfl) ?_
  refine m_gr (j := 7) (C := "Ballothall$BallotBox") (T := TX0) (N := 10) (ci := 0) (k := 7) hx hb hts iX0 hown hG hP (yi_2 hL) (yt_2 hL) rfl (by decide) w_72 (fun _ h9 => h9) rfl rfl (yr_2_7 hL) d_2_15_26 ?_
  refine lv_iload hx hb d_2_15_29 (lv_at hl 4 rfl) ?_
  obtain ⟨ok3, h⟩ := ck_e h
  refine m_ia hx hb hG hP (yi_7 hL) (yt_7 hL) ok3 d_2_15_31 ?_
  obtain ⟨ok4, h⟩ := ck_e h
  obtain ⟨ok5, h⟩ := ck_e h
  refine lv_icmp_ge (tgt := 76) hx hb d_2_15_32 (by decide) (fun c9 => ?_) (fun c9 => ?_)
  · have h := ite_t ((oI_le (a := (M 7 x4.toNat)) (b := x6) ok5 ok4).mp c9) h
    obtain ⟨rfl, rfl, rfl, rfl⟩ := in4 h
    exact k1 rfl H locs ls hP hD hS (lv_sub hl [0, 1, 2, 3, 4] rfl)
  · have h := ite_f (fun q => c9 ((oI_le (a := (M 7 x4.toNat)) (b := x6) ok5 ok4).mpr q)) h
    refine lv_iload hx hb d_2_15_35 (lv_at hl 5 rfl) ?_
    refine lv_aload_n hx hb d_2_15_37 rfl (lv_at hl 0 rfl) ?_
    refine m_gr (j := 8) (C := "Ballothall$BallotBox") (T := TX0) (N := 10) (ci := 0) (k := 8) hx hb hts iX0 hown hG hP (yi_2 hL) (yt_2 hL) rfl (by decide) w_74 (fun _ h9 => h9) rfl rfl (yr_2_8 hL) d_2_15_38 ?_
    refine lv_iload hx hb d_2_15_41 (lv_at hl 4 rfl) ?_
    refine m_ar (k := (9 + x4.toNat)) hx hb hG hP (yi_8 hL) (yt_8 hL) ok3 (ya_8 hL (inb_lt ok3)) d_2_15_43 ?_
    refine lv_iload hx hb d_2_15_44 (lv_at hl 6 rfl) ?_
    obtain ⟨ok6, h⟩ := ck_e h
    refine m_ia hx hb hG hP (yg_8 hL ok3).1 (yg_8 hL ok3).2 ok6 d_2_15_46 ?_
    obtain ⟨ok7, h⟩ := ck_e h
    obtain ⟨ok8, h⟩ := ck_e h
    refine lv_ior hx hb d_2_15_47 ?_
    refine nrm (oI_or (a := x5) (b := (M (9 + x4.toNat) x6.toNat)) ok7.1 ok7.2 ok8.1 ok8.2) ?_
    obtain ⟨v9, e9, h⟩ := nb_e h
    refine nrm (congrArg oI e9.symm) ?_
    refine lv_istore (lv' := [(5, .int (oI v9)), (0, .ref (ad 2)), (1, .ref (ad q1)), (2, .int (oI x2)), (3, .int (oI x3)), (4, .int (oI x4)), (6, .int (oI x6))]) hx hb d_2_15_48 hl (by decide) rfl (fun ls hl => ?_)
    refine lv_iload hx hb d_2_15_50 (lv_at hl 0 rfl) ?_
    refine lv_iload_n hx hb d_2_15_52 rfl (lv_at hl 4 rfl) ?_
    obtain ⟨ok10, h⟩ := ck_e h
    obtain ⟨ok11, h⟩ := ck_e h
    refine lv_icmp_eq (tgt := 70) hx hb d_2_15_53 (by decide) (fun c9 => ?_) (fun c9 => ?_)
    · have h := ite_t ((oI_eq (a := v9) (b := x3) ok10 ok11).mp c9) h
      refine lv_iinc (v := oI (x6 + 1)) (lv' := [(6, .int (oI (x6 + 1))), (5, .int (oI v9)), (0, .ref (ad 2)), (1, .ref (ad q1)), (2, .int (oI x2)), (3, .int (oI x3)), (4, .int (oI x4))]) hx hb d_2_15_70 hl (k := 6) rfl (oI_add x6 1) (by decide) rfl (fun ls hl => ?_)
      refine lv_goto (tgt := 23) hx hb d_2_15_73 (by decide) ?_
      obtain ⟨rfl, rfl, rfl, rfl⟩ := in4 h
      exact k0 rfl H locs ls hP hD hS (lv_sub hl [2, 3, 4, 5, 6, 1, 0] rfl)
    · have h := ite_f (fun q => c9 ((oI_eq (a := v9) (b := x3) ok10 ok11).mpr q)) h
      refine lv_aload_n hx hb d_2_15_56 rfl (lv_at hl 1 rfl) ?_
      refine m_gr (j := 40) (C := "Ballothall$BallotBox") (T := TX0) (N := 10) (ci := 0) (k := 9) hx hb hts iX0 hown hG hP (yi_2 hL) (yt_2 hL) rfl (by decide) w_77 (fun _ h9 => h9) rfl rfl (yr_2_9 hL) d_2_15_57 ?_
      refine lv_iload hx hb d_2_15_60 (lv_at hl 0 rfl) ?_
      refine lv_dup2_11 hx hb d_2_15_62 rfl rfl ?_
      obtain ⟨ok12, h⟩ := ck_e h
      refine m_ia hx hb hG hP (yi_40 hL) (yt_40 hL) ok12 d_2_15_63 ?_
      refine lv_aload_n hx hb d_2_15_64 rfl (lv_at hl 2 rfl) ?_
      refine lv_iload hx hb d_2_15_65 (lv_at hl 5 rfl) ?_
      obtain ⟨ok13, h⟩ := ck_e h
      refine m_ia hx hb hG hP h_q1.1 (isIA_T h_q1) ok13 d_2_15_67 ?_
      refine lv_iadd hx hb d_2_15_68 ?_
      refine nrm (oI_add _ _) ?_
      obtain ⟨v14, e14, h⟩ := nb_e h
      refine nrm (congrArg oI e14.symm) ?_
      refine m_is hx hb hG hP hD hS (yi_40 hL) (yt_40 hL) ok12 d_2_15_69 (fun H locs hP hD hS => ?_)
      have hP : va_P z.1 classes (wv z ad E (u2 M 40 v9.toNat v14)) H := hP
      have hD : va_D A (wv z ad E (u2 M 40 v9.toNat v14)) := hD
      refine lv_iinc (v := oI (x6 + 1)) (lv' := [(6, .int (oI (x6 + 1))), (5, .int (oI v9)), (0, .ref (ad 2)), (1, .ref (ad q1)), (2, .int (oI x2)), (3, .int (oI x3)), (4, .int (oI x4))]) hx hb d_2_15_70 hl (k := 6) rfl (oI_add x6 1) (by decide) rfl (fun ls hl => ?_)
      refine lv_goto (tgt := 23) hx hb d_2_15_73 (by decide) ?_
      obtain ⟨rfl, rfl, rfl, rfl⟩ := in4 h
      exact k0 rfl H locs ls hP hD hS (lv_sub hl [2, 3, 4, 5, 6, 1, 0] rfl)
set_option maxRecDepth 100000 in
set_option maxHeartbeats 4000000 in
theorem s_Bx_findSupport_23 (l : Launch) (z : Zz) (ad : Nat → Nat) (E : Ev) (q1 : Nat) (x2 : Int) (x3 : Int) (x4 : Int) {Q : State → Prop} {p : Program} {e : Env} {s : State} {m : MethodId} {below : List Frame} {meth : Method} {c : Code} {A : Nat → Prop} {args : Array Value} (hx : p.tables.exec = Jvm.exec) (hb : c.code = prog_2_method_15_code) (hml : c.maxLocals = 7) (hts : ∀ w ∈ WG, w.before args s = true) (hown : s.vm.findClass "Ballothall$BallotBox" = some m.cls) (hlocks : meth.locks = false) (hA : ∀ q, s.heap.size ≤ q → A q) (hG : KG z s) (hZ : FZ z A s) (hL : Lay E) : ∀ (fu : Nat) (M : Mm) (x5 : Int) (x6 : Int) (t : Nat) (w5 : Int) (w6 : Int) (N : Mm), l_Bx_findSupport_23 E q1 x2 x3 x4 fu M x5 x6 = some (t, w5, w6, N) → (t = 1 → ∀ (H : Heap) (locs : List Loc) (ls : Array Slot), va_P z.1 classes (wv z ad E N) H → va_D A (wv z ad E N) → va_S A s.heap H locs → lv_has ls 7 [(0, .ref (ad 2)), (1, .ref (ad q1)), (2, .int (oI x2)), (3, .int (oI x3)), (4, .int (oI x4))] → W p l e (rmK 1 44 0 0) s m args below meth c H locs 0 0 Q (F0 m 76 ls [])) → ∀ (H : Heap) (locs : List Loc) (ls : Array Slot), va_P z.1 classes (wv z ad E M) H → va_D A (wv z ad E M) → va_S A s.heap H locs → lv_has ls 7 [(0, .ref (ad 2)), (1, .ref (ad q1)), (2, .int (oI x2)), (3, .int (oI x3)), (4, .int (oI x4)), (5, .int (oI x5)), (6, .int (oI x6))] → W p l e (rmK 1 44 0 0) s m args below meth c H locs 0 0 Q (F0 m 23 ls []) := by
  intro fu
  induction fu with
  | zero =>
    intro M x5 x6 t w5 w6 N h
    have h : (none : Option (Nat × Int × Int × Mm)) = some _ := h
    cases h
  | succ fu ih =>
    intro M x5 x6 t w5 w6 N h k1 H locs ls hP hD hS hl
    obtain ⟨⟨t0, w50, w60, N9⟩, g0, h⟩ := bd_e h
    refine b_Bx_findSupport_23b l z ad E M q1 x2 x3 x4 x5 x6 t0 w50 w60 N9 hx hb hml hts hown hlocks hA hG hZ hL g0 (fun e0 => ?_) (fun e0 => ?_) H locs ls hP hD hS hl
    · subst e0
      have h := ite_t rfl h
      exact ih N9 w50 w60 t w5 w6 N h k1
    · subst e0
      have h := ite_f (by decide) h
      obtain ⟨rfl, rfl, rfl, rfl⟩ := in4 h
      exact k1 rfl
set_option maxRecDepth 100000 in
set_option maxHeartbeats 4000000 in
theorem b_Bx_findSupport_11b (l : Launch) (z : Zz) (ad : Nat → Nat) (E : Ev) (M : Mm) (q1 : Nat) (x2 : Int) (x3 : Int) (x4 : Int) (t : Nat) (w4 : Int) (N : Mm) {Q : State → Prop} {p : Program} {e : Env} {s : State} {m : MethodId} {below : List Frame} {meth : Method} {c : Code} {A : Nat → Prop} {args : Array Value} (hx : p.tables.exec = Jvm.exec) (hb : c.code = prog_2_method_15_code) (hml : c.maxLocals = 7) (hts : ∀ w ∈ WG, w.before args s = true) (hown : s.vm.findClass "Ballothall$BallotBox" = some m.cls) (hlocks : meth.locks = false) (hA : ∀ q, s.heap.size ≤ q → A q) (hG : KG z s) (hZ : FZ z A s) (hL : Lay E) (h : Bx_findSupport_11b E M q1 x2 x3 x4 = some (t, w4, N)) (k0 : t = 0 → ∀ (H : Heap) (locs : List Loc) (ls : Array Slot), va_P z.1 classes (wv z ad E N) H → va_D A (wv z ad E N) → va_S A s.heap H locs → lv_has ls 7 [(0, .ref (ad 2)), (1, .ref (ad q1)), (2, .int (oI x2)), (3, .int (oI x3)), (4, .int (oI w4))] → W p l e (rmK 1 44 0 0) s m args below meth c H locs 0 0 Q (F0 m 11 ls [])) (k1 : t = 1 → ∀ (H : Heap) (locs : List Loc) (ls : Array Slot), va_P z.1 classes (wv z ad E N) H → va_D A (wv z ad E N) → va_S A s.heap H locs → lv_has ls 7 [(0, .ref (ad 2)), (1, .ref (ad q1)), (2, .int (oI x2)), (3, .int (oI x3))] → W p l e (rmK 1 44 0 0) s m args below meth c H locs 0 0 Q (F0 m 82 ls [])) : ∀ (H : Heap) (locs : List Loc) (ls : Array Slot), va_P z.1 classes (wv z ad E M) H → va_D A (wv z ad E M) → va_S A s.heap H locs → lv_has ls 7 [(0, .ref (ad 2)), (1, .ref (ad q1)), (2, .int (oI x2)), (3, .int (oI x3)), (4, .int (oI x4))] → W p l e (rmK 1 44 0 0) s m args below meth c H locs 0 0 Q (F0 m 11 ls []) := by
  intro H locs ls hP hD hS hl
  unfold Bx_findSupport_11b at h
  obtain ⟨h_q1, h⟩ := ck_e h
  refine lv_iload hx hb d_2_15_11 (lv_at hl 4 rfl) ?_
  refine lv_iload_n hx hb d_2_15_13 rfl (lv_at hl 2 rfl) ?_
  obtain ⟨ok1, h⟩ := ck_e h
  obtain ⟨ok2, h⟩ := ck_e h
  refine lv_icmp_ge (tgt := 82) hx hb d_2_15_14 (by decide) (fun c9 => ?_) (fun c9 => ?_)
  · have h := ite_t ((oI_le (a := x2) (b := x4) ok2 ok1).mp c9) h
    obtain ⟨rfl, rfl, rfl⟩ := in3 h
    exact k1 rfl H locs ls hP hD hS (lv_sub hl [0, 1, 2, 3] rfl)
  · have h := ite_f (fun q => c9 ((oI_le (a := x2) (b := x4) ok2 ok1).mpr q)) h
    refine lv_iconst (v := oI 0) hx hb d_2_15_17 (by decide +kernel) ?_
    refine lv_istore (lv' := [(5, .int (oI 0)), (0, .ref (ad 2)), (1, .ref (ad q1)), (2, .int (oI x2)), (3, .int (oI x3)), (4, .int (oI x4))]) hx hb d_2_15_18 hl (by decide) rfl (fun ls hl => ?_)
    refine lv_iconst (v := oI 0) hx hb d_2_15_20 (by decide +kernel) ?_
    refine lv_istore (lv' := [(6, .int (oI 0)), (5, .int (oI 0)), (0, .ref (ad 2)), (1, .ref (ad q1)), (2, .int (oI x2)), (3, .int (oI x3)), (4, .int (oI x4))]) hx hb d_2_15_21 hl (by decide) rfl (fun ls hl => ?_)
    obtain ⟨⟨t15, v15_5, v15_6, M15⟩, g15, h⟩ := bd_e h
    obtain ⟨ok15, h⟩ := ck_e h
    refine s_Bx_findSupport_23 l z ad E q1 x2 x3 x4 hx hb hml hts hown hlocks hA hG hZ hL FU M 0 0 t15 v15_5 v15_6 M15 g15 (fun e15 H locs ls hP hD hS hl => ?_) H locs ls hP hD hS (lv_sub hl [2, 3, 4, 5, 6, 1, 0] rfl)
    refine lv_iinc (v := oI (x4 + 1)) (lv' := [(4, .int (oI (x4 + 1))), (0, .ref (ad 2)), (1, .ref (ad q1)), (2, .int (oI x2)), (3, .int (oI x3))]) hx hb d_2_15_76 hl (k := 4) rfl (oI_add x4 1) (by decide) rfl (fun ls hl => ?_)
    refine lv_goto (tgt := 11) hx hb d_2_15_79 (by decide) ?_
    obtain ⟨rfl, rfl, rfl⟩ := in3 h
    exact k0 rfl H locs ls hP hD hS (lv_sub hl [1, 2, 3, 4, 0] rfl)
set_option maxRecDepth 100000 in
set_option maxHeartbeats 4000000 in
theorem s_Bx_findSupport_11 (l : Launch) (z : Zz) (ad : Nat → Nat) (E : Ev) (q1 : Nat) (x2 : Int) (x3 : Int) {Q : State → Prop} {p : Program} {e : Env} {s : State} {m : MethodId} {below : List Frame} {meth : Method} {c : Code} {A : Nat → Prop} {args : Array Value} (hx : p.tables.exec = Jvm.exec) (hb : c.code = prog_2_method_15_code) (hml : c.maxLocals = 7) (hts : ∀ w ∈ WG, w.before args s = true) (hown : s.vm.findClass "Ballothall$BallotBox" = some m.cls) (hlocks : meth.locks = false) (hA : ∀ q, s.heap.size ≤ q → A q) (hG : KG z s) (hZ : FZ z A s) (hL : Lay E) : ∀ (fu : Nat) (M : Mm) (x4 : Int) (t : Nat) (w4 : Int) (N : Mm), l_Bx_findSupport_11 E q1 x2 x3 fu M x4 = some (t, w4, N) → (t = 1 → ∀ (H : Heap) (locs : List Loc) (ls : Array Slot), va_P z.1 classes (wv z ad E N) H → va_D A (wv z ad E N) → va_S A s.heap H locs → lv_has ls 7 [(0, .ref (ad 2)), (1, .ref (ad q1)), (2, .int (oI x2)), (3, .int (oI x3))] → W p l e (rmK 1 44 0 0) s m args below meth c H locs 0 0 Q (F0 m 82 ls [])) → ∀ (H : Heap) (locs : List Loc) (ls : Array Slot), va_P z.1 classes (wv z ad E M) H → va_D A (wv z ad E M) → va_S A s.heap H locs → lv_has ls 7 [(0, .ref (ad 2)), (1, .ref (ad q1)), (2, .int (oI x2)), (3, .int (oI x3)), (4, .int (oI x4))] → W p l e (rmK 1 44 0 0) s m args below meth c H locs 0 0 Q (F0 m 11 ls []) := by
  intro fu
  induction fu with
  | zero =>
    intro M x4 t w4 N h
    have h : (none : Option (Nat × Int × Mm)) = some _ := h
    cases h
  | succ fu ih =>
    intro M x4 t w4 N h k1 H locs ls hP hD hS hl
    obtain ⟨⟨t0, w40, N9⟩, g0, h⟩ := bd_e h
    refine b_Bx_findSupport_11b l z ad E M q1 x2 x3 x4 t0 w40 N9 hx hb hml hts hown hlocks hA hG hZ hL g0 (fun e0 => ?_) (fun e0 => ?_) H locs ls hP hD hS hl
    · subst e0
      have h := ite_t rfl h
      exact ih N9 w40 t w4 N h k1
    · subst e0
      have h := ite_f (by decide) h
      obtain ⟨rfl, rfl, rfl⟩ := in3 h
      exact k1 rfl
set_option maxRecDepth 100000 in
set_option maxHeartbeats 4000000 in
theorem s_Bx_findSupport (l : Launch) (z : Zz) (ad : Nat → Nat) (E : Ev) (M : Mm) (p1 : Nat) (x2 : Int) (x3 : Int) (N : Mm) (hL : Lay E) (h : f_Bx_findSupport E M p1 x2 x3 = some N) : CT l z ⟨"Ballothall$BallotBox", "findSupport", "([III)V"⟩ prog_2_method_15_code 7 none [.ref (ad 2), .ref (ad p1), .int (oI x2), .int (oI x3)] (wv z ad E M) 1 44 0 0 (fun _ => none) (fun _ => (wv z ad E N)) := by
  refine CT.of (own := "Ballothall$BallotBox") (by decide +kernel) (Nat.le_of_ble_eq_true rfl) rfl (fun p e s m below meth c A ls hx hb hml hr hts hown hlocks hin hA hG hZ hP hD hS hl => ?_)
  have hl : lv_has ls 7 [(0, .ref (ad 2)), (1, .ref (ad p1)), (2, .int (oI x2)), (3, .int (oI x3))] := hl
  have key : ∀ (H : Heap) (locs : List Loc) (args : Array Value), (∀ w ∈ WG, w.before args s = true) → va_P z.1 classes (wv z ad E M) H → va_S A s.heap H locs → W p l e (rmK 1 44 0 0) s m args below meth c H locs 0 0 (MQ below (QK z A (fun _ => none) (fun _ => (wv z ad E N))) args s 0 0 A) (F0 m 0 ls []) := by
    intro H locs args hts hP hS
    unfold f_Bx_findSupport at h
    obtain ⟨h_p1, h⟩ := ck_e h
    refine lv_aload_n hx hb d_2_15_0 rfl (lv_at hl 0 rfl) ?_
    refine m_gr (j := 40) (C := "Ballothall$BallotBox") (T := TX0) (N := 10) (ci := 0) (k := 9) hx hb hts iX0 hown hG hP (yi_2 hL) (yt_2 hL) rfl (by decide) w_77 (fun _ h9 => h9) rfl rfl (yr_2_9 hL) d_2_15_1 ?_
    refine lv_iconst (v := oI 0) hx hb d_2_15_4 (by decide +kernel) ?_
    obtain ⟨M0, g0, h⟩ := bd_e h
    refine kS (As := [.ref (ad 40), .int (oI 0)]) (rest := []) (s_Ar_fillI l z ad E M 40 0 M0 hL g0) hx hb hml hown hts w_653 w_651 w_652 w_23 md_e8f65d ⟨Nat.le_of_ble_eq_true rfl, Nat.le_of_ble_eq_true rfl⟩ hG hZ hP hD hS hA rfl hl.1 rfl (Nat.le_of_ble_eq_true rfl) d_2_15_5 ⟨Nat.le_of_ble_eq_true rfl, Nat.le_of_ble_eq_true rfl⟩ (fun _ H locs hP hD hS => ?_)
    have hP : va_P z.1 classes (wv z ad E M0) H := hP
    have hD : va_D A (wv z ad E M0) := hD
    refine W.eq (g2 := F0 m 8 ls []) rfl ?_
    refine lv_iconst (v := oI 0) hx hb d_2_15_8 (by decide +kernel) ?_
    refine lv_istore (lv' := [(4, .int (oI 0)), (0, .ref (ad 2)), (1, .ref (ad p1)), (2, .int (oI x2)), (3, .int (oI x3))]) hx hb d_2_15_9 hl (by decide) rfl (fun ls hl => ?_)
    obtain ⟨⟨t16, v16_4, M16⟩, g16, h⟩ := bd_e h
    obtain ⟨ok16, h⟩ := ck_e h
    refine s_Bx_findSupport_11 l z ad E p1 x2 x3 hx hb hml hts hown hlocks hA hG hZ hL FU M0 0 t16 v16_4 M16 g16 (fun e16 H locs ls hP hD hS hl => ?_) H locs ls hP hD hS (lv_sub hl [1, 2, 3, 4, 0] rfl)
    refine lv_aload_n hx hb d_2_15_82 rfl (lv_at hl 0 rfl) ?_
    refine m_gr (j := 40) (C := "Ballothall$BallotBox") (T := TX0) (N := 10) (ci := 0) (k := 9) hx hb hts iX0 hown hG hP (yi_2 hL) (yt_2 hL) rfl (by decide) w_77 (fun _ h9 => h9) rfl rfl (yr_2_9 hL) d_2_15_83 ?_
    refine lv_iload_n hx hb d_2_15_86 rfl (lv_at hl 3 rfl) ?_
    refine lv_aload_n hx hb d_2_15_87 rfl (lv_at hl 0 rfl) ?_
    refine lv_aload_n hx hb d_2_15_88 rfl (lv_at hl 1 rfl) ?_
    refine lv_iload_n hx hb d_2_15_89 rfl (lv_at hl 2 rfl) ?_
    obtain ⟨r17, g17, h⟩ := bd_e h
    refine kV (As := [.ref (ad p1), .int (oI x2)]) (rest := [.int (oI x3), .ref (ad 40)]) (s_Bx_ballotsOf l z ad E M16 p1 x2 r17 hL g17) hx hb hml hown hts w_572 w_654 w_571 w_s_fcecd2 w_2 md_ebdc38 ⟨Nat.le_of_ble_eq_true rfl, Nat.le_of_ble_eq_true rfl⟩ hG hZ hP hD hS hA 2 (wv_o (ci := 0) (yi_2 hL) (yt_2 hL)) rfl rfl rfl hl.1 rfl (Nat.le_of_ble_eq_true rfl) d_2_15_90 ⟨Nat.le_of_ble_eq_true rfl, Nat.le_of_ble_eq_true rfl⟩ (fun _ H locs hP hD hS => ?_)
    have hP : va_P z.1 classes (wv z ad E M16) H := hP
    have hD : va_D A (wv z ad E M16) := hD
    refine W.eq (g2 := F0 m 93 ls [.int (oI r17), .int (oI x3), .ref (ad 40)]) rfl ?_
    obtain ⟨ok18, h⟩ := ck_e h
    refine m_is hx hb hG hP hD hS (yi_40 hL) (yt_40 hL) ok18 d_2_15_93 (fun H locs hP hD hS => ?_)
    have hP : va_P z.1 classes (wv z ad E (u2 M16 40 x3.toNat r17)) H := hP
    have hD : va_D A (wv z ad E (u2 M16 40 x3.toNat r17)) := hD
    obtain rfl := in1 h
    exact W.vret hx hb hr (fun t ht hW => qkA hP hD hS (fun k => k) rfl rfl ht) hS.2.2 d_2_15_94
  exact key _ _ _ hts hP hS
set_option maxRecDepth 100000 in
set_option maxHeartbeats 4000000 in
theorem b_B_countErrors_36b (l : Launch) (z : Zz) (ad : Nat → Nat) (E : Ev) (M : Mm) (q1 : Nat) (x2 : Int) (x3 : Int) (x4 : Int) (t : Nat) (w3 : Int) (w4 : Int) (N : Mm) {Q : State → Prop} {p : Program} {e : Env} {s : State} {m : MethodId} {below : List Frame} {meth : Method} {c : Code} {A : Nat → Prop} {args : Array Value} (hx : p.tables.exec = Jvm.exec) (hb : c.code = prog_1_method_65_code) (hml : c.maxLocals = 7) (hts : ∀ w ∈ WG, w.before args s = true) (hown : s.vm.findClass "Ballothall" = some m.cls) (hlocks : meth.locks = false) (hA : ∀ q, s.heap.size ≤ q → A q) (hG : KG z s) (hZ : FZ z A s) (hL : Lay E) (h : B_countErrors_36b E M q1 x2 x3 x4 = some (t, w3, w4, N)) (k0 : t = 0 → ∀ (H : Heap) (locs : List Loc) (ls : Array Slot), va_P z.1 classes (wv z ad E N) H → va_D A (wv z ad E N) → va_S A s.heap H locs → lv_has ls 7 [(0, .ref (ad 1)), (1, .ref (ad q1)), (2, .int (oI x2)), (3, .int (oI w3)), (4, .int (oI w4))] → W p l e (rmK 5 130 0 0) s m args below meth c H locs 0 0 Q (F0 m 36 ls [])) (k1 : t = 1 → ∀ (H : Heap) (locs : List Loc) (ls : Array Slot), va_P z.1 classes (wv z ad E N) H → va_D A (wv z ad E N) → va_S A s.heap H locs → lv_has ls 7 [(0, .ref (ad 1)), (1, .ref (ad q1)), (2, .int (oI x2)), (3, .int (oI w3))] → W p l e (rmK 5 130 0 0) s m args below meth c H locs 0 0 Q (F0 m 63 ls [])) : ∀ (H : Heap) (locs : List Loc) (ls : Array Slot), va_P z.1 classes (wv z ad E M) H → va_D A (wv z ad E M) → va_S A s.heap H locs → lv_has ls 7 [(0, .ref (ad 1)), (1, .ref (ad q1)), (2, .int (oI x2)), (3, .int (oI x3)), (4, .int (oI x4))] → W p l e (rmK 5 130 0 0) s m args below meth c H locs 0 0 Q (F0 m 36 ls []) := by
  intro H locs ls hP hD hS hl
  unfold B_countErrors_36b at h
  obtain ⟨h_q1, h⟩ := ck_e h
  refine lv_iload hx hb d_1_65_36 (lv_at hl 4 rfl) ?_
  refine lv_aload_n hx hb d_1_65_38 rfl (lv_at hl 1 rfl) ?_
  refine m_giN (C := "Ballothall$Count") (T := TX2) (N := 10) (ci := 2) (k := 4) hx hb hts iX2 hown hG hP (isCt_i h_q1) (isCt_T h_q1) rfl (by decide) n_1087 rfl (fun _ h9 => h9) rfl rfl d_1_65_39 ?_
  obtain ⟨ok3, h⟩ := ck_e h
  obtain ⟨ok4, h⟩ := ck_e h
  refine lv_icmp_ge (tgt := 63) hx hb d_1_65_42 (by decide) (fun c9 => ?_) (fun c9 => ?_)
  · have h := ite_t ((oI_le (a := (M q1 4)) (b := x4) ok4 ok3).mp c9) h
    obtain ⟨rfl, rfl, rfl, rfl⟩ := in4 h
    exact k1 rfl H locs ls hP hD hS (lv_sub hl [0, 1, 2, 3] rfl)
  · have h := ite_f (fun q => c9 ((oI_le (a := (M q1 4)) (b := x4) ok4 ok3).mpr q)) h
    refine lv_iload_n hx hb d_1_65_45 rfl (lv_at hl 3 rfl) ?_
    refine lv_iconst (v := oI 1) hx hb d_1_65_46 (by decide +kernel) ?_
    refine lv_aload_n hx hb d_1_65_47 rfl (lv_at hl 1 rfl) ?_
    refine m_grN (j := (q1 + 2)) (C := "Ballothall$Count") (T := TX2) (N := 10) (ci := 2) (k := 7) hx hb hts iX2 hown hG hP (isCt_i h_q1) (isCt_T h_q1) rfl (by decide) n_1095 rfl (fun _ h9 => h9) rfl rfl (isCt_r7 h_q1) d_1_65_48 ?_
    refine lv_iload hx hb d_1_65_51 (lv_at hl 4 rfl) ?_
    obtain ⟨ok5, h⟩ := ck_e h
    refine m_ia hx hb hG hP (isCt_i2 h_q1) (isCt_t2 h_q1) ok5 d_1_65_53 ?_
    obtain ⟨ok6, h⟩ := ck_e h
    refine lv_ishl hx hb d_1_65_54 ?_
    refine nrm (oI_one_shl ok6) ?_
    obtain ⟨ok7, h⟩ := ck_e h
    obtain ⟨ok8, h⟩ := ck_e h
    refine lv_ior hx hb d_1_65_55 ?_
    refine nrm (oI_or (a := x3) (b := (2 ^ (M (q1 + 2) x4.toNat).toNat)) ok7.1 ok7.2 ok8.1 ok8.2) ?_
    obtain ⟨v9, e9, h⟩ := nb_e h
    refine nrm (congrArg oI e9.symm) ?_
    refine lv_istore_n (lv' := [(3, .int (oI v9)), (0, .ref (ad 1)), (1, .ref (ad q1)), (2, .int (oI x2)), (4, .int (oI x4))]) hx hb d_1_65_56 rfl hl (by decide) rfl (fun ls hl => ?_)
    refine lv_iinc (v := oI (x4 + 1)) (lv' := [(4, .int (oI (x4 + 1))), (3, .int (oI v9)), (0, .ref (ad 1)), (1, .ref (ad q1)), (2, .int (oI x2))]) hx hb d_1_65_57 hl (k := 4) rfl (oI_add x4 1) (by decide) rfl (fun ls hl => ?_)
    refine lv_goto (tgt := 36) hx hb d_1_65_60 (by decide) ?_
    obtain ⟨rfl, rfl, rfl, rfl⟩ := in4 h
    exact k0 rfl H locs ls hP hD hS (lv_sub hl [2, 3, 4, 1, 0] rfl)
