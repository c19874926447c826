set_option maxRecDepth 100000 in
set_option maxHeartbeats 4000000 in
theorem s_Po_firstOfConsensus_2 (l : Launch) (z : Zz) (ad : Nat → Nat) (E : Ev) (x1 : Int) {Q : State → Prop} {p : Program} {e : Env} {s : State} {m : MethodId} {below : List Frame} {meth : Method} {c : Code} {A : Nat → Prop} {args : Array Value} (hx : p.tables.exec = Jvm.exec) (hb : c.code = prog_11_method_18_code) (hml : c.maxLocals = 3) (hts : ∀ w ∈ WG, w.before args s = true) (hown : s.vm.findClass "Ballothall$Poll" = some m.cls) (hlocks : meth.locks = false) (hA : ∀ q, s.heap.size ≤ q → A q) (hG : KG z s) (hZ : FZ z A s) (hL : Lay E) : ∀ (fu : Nat) (M : Mm) (x2 : Int) (t : Nat) (w2 : Int), l_Po_firstOfConsensus_2 E x1 fu M x2 = some (t, w2) → (t = 1 → ∀ (H : Heap) (locs : List Loc) (ls : Array Slot), va_P z.1 classes (wv z ad E M) H → va_D A (wv z ad E M) → va_S A s.heap H locs → lv_has ls 3 [(2, .int (oI w2))] → W p l e (rmK 2 68 0 0) s m args below meth c H locs 0 0 Q (F0 m 37 ls [])) → (t = 2 → ∀ (H : Heap) (locs : List Loc) (ls : Array Slot), va_P z.1 classes (wv z ad E M) H → va_D A (wv z ad E M) → va_S A s.heap H locs → lv_has ls 3 [] → W p l e (rmK 2 68 0 0) s m args below meth c H locs 0 0 Q (F0 m 45 ls [])) → ∀ (H : Heap) (locs : List Loc) (ls : Array Slot), va_P z.1 classes (wv z ad E M) H → va_D A (wv z ad E M) → va_S A s.heap H locs → lv_has ls 3 [(0, .ref (ad 41)), (1, .int (oI x1)), (2, .int (oI x2))] → W p l e (rmK 2 68 0 0) s m args below meth c H locs 0 0 Q (F0 m 2 ls []) := by
  intro fu
  induction fu with
  | zero =>
    intro M x2 t w2 h
    have h : (none : Option (Nat × Int)) = some _ := h
    cases h
  | succ fu ih =>
    intro M x2 t w2 h k1 k2 H locs ls hP hD hS hl
    obtain ⟨⟨t0, w20⟩, g0, h⟩ := bd_e h
    refine b_Po_firstOfConsensus_2b l z ad E M x1 x2 t0 w20 hx hb hml hts hown hlocks hA hG hZ hL g0 (fun e0 => ?_) (fun e0 => ?_) (fun e0 => ?_) H locs ls hP hD hS hl
    · subst e0
      have h := ite_t rfl h
      exact ih M w20 t w2 h k1 k2
    · subst e0
      have h := ite_f (by decide) h
      obtain ⟨rfl, rfl⟩ := in2 h
      exact k1 rfl
    · subst e0
      have h := ite_f (by decide) h
      obtain ⟨rfl, rfl⟩ := in2 h
      exact k2 rfl
set_option maxRecDepth 100000 in
set_option maxHeartbeats 4000000 in
theorem s_Po_firstOfConsensus (l : Launch) (z : Zz) (ad : Nat → Nat) (E : Ev) (M : Mm) (x1 : Int) (r : Int)  (hL : Lay E) (h : f_Po_firstOfConsensus E M x1 = some r) : CT l z ⟨"Ballothall$Poll", "firstOfConsensus", "(I)I"⟩ prog_11_method_18_code 3 (some .int) [.ref (ad 41), .int (oI x1)] (wv z ad E M) 2 68 0 0 (fun _ => some (.int (oI r))) (fun _ => (wv z ad E M)) := by
  refine CT.of (own := "Ballothall$Poll") (by decide +kernel) (Nat.le_of_ble_eq_true rfl) rfl (fun p e s m below meth c A ls hx hb hml hr hts hown hlocks hin hA hG hZ hP hD hS hl => ?_)
  have hl : lv_has ls 3 [(0, .ref (ad 41)), (1, .int (oI x1))] := hl
  have key : ∀ (H : Heap) (locs : List Loc) (args : Array Value), (∀ w ∈ WG, w.before args s = true) → va_P z.1 classes (wv z ad E M) H → va_S A s.heap H locs → W p l e (rmK 2 68 0 0) s m args below meth c H locs 0 0 (MQ below (QK z A (fun _ => some (.int (oI r))) (fun _ => (wv z ad E M))) args s 0 0 A) (F0 m 0 ls []) := by
    intro H locs args hts hP hS
    unfold f_Po_firstOfConsensus at h
    refine lv_iconst (v := oI 0) hx hb d_11_18_0 (by decide +kernel) ?_
    refine lv_istore_n (lv' := [(2, .int (oI 0)), (0, .ref (ad 41)), (1, .int (oI x1))]) hx hb d_11_18_1 rfl hl (by decide) rfl (fun ls hl => ?_)
    obtain ⟨⟨t108, v108_2⟩, g108, h⟩ := bd_e h
    refine s_Po_firstOfConsensus_2 l z ad E x1 hx hb hml hts hown hlocks hA hG hZ hL FU M 0 t108 v108_2 g108 (fun e108 H locs ls hP hD hS hl => ?_) (fun e108 H locs ls hP hD hS hl => ?_) H locs ls hP hD hS (lv_sub hl [1, 2, 0] rfl)
    · subst e108
      have h := ite_t rfl h
      refine lv_iload_n hx hb d_11_18_37 rfl (lv_at hl 0 rfl) ?_
      obtain rfl := in1 h
      exact W.iret hx hb hr (fun t ht hW => qkA hP hD hS (fun k => k) rfl rfl ht) hS.2.2 d_11_18_38
    · subst e108
      have h := ite_f (by decide) h
      have h := ite_t rfl h
      refine lv_iconst (v := oI 0) hx hb d_11_18_45 (by decide +kernel) ?_
      obtain rfl := in1 h
      exact W.iret hx hb hr (fun t ht hW => qkA hP hD hS (fun k => k) rfl rfl ht) hS.2.2 d_11_18_46
  exact key _ _ _ hts hP hS
set_option maxRecDepth 100000 in
set_option maxHeartbeats 4000000 in
theorem b_Po_consensusPlace_10b (l : Launch) (z : Zz) (ad : Nat → Nat) (E : Ev) (M : Mm) (x1 : Int) (x2 : Int) (x3 : Int) (x4 : Int) (t : Nat) (w2 : Int) (w3 : Int) (w4 : Int)  {Q : State → Prop} {p : Program} {e : Env} {s : State} {m : MethodId} {below : List Frame} {meth : Method} {c : Code} {A : Nat → Prop} {args : Array Value} (hx : p.tables.exec = Jvm.exec) (hb : c.code = prog_11_method_17_code) (hml : c.maxLocals = 5) (hts : ∀ w ∈ WG, w.before args s = true) (hown : s.vm.findClass "Ballothall$Poll" = some m.cls) (hlocks : meth.locks = false) (hA : ∀ q, s.heap.size ≤ q → A q) (hG : KG z s) (hZ : FZ z A s) (hL : Lay E) (h : Po_consensusPlace_10b E M x1 x2 x3 x4 = some (t, w2, w3, w4)) (k0 : t = 0 → ∀ (H : Heap) (locs : List Loc) (ls : Array Slot), va_P z.1 classes (wv z ad E M) H → va_D A (wv z ad E M) → va_S A s.heap H locs → lv_has ls 5 [(0, .ref (ad 41)), (1, .int (oI x1)), (2, .int (oI w2)), (3, .int (oI w3)), (4, .int (oI w4))] → W p l e (rmK 3 90 0 0) s m args below meth c H locs 0 0 Q (F0 m 10 ls [])) (k1 : t = 1 → ∀ (H : Heap) (locs : List Loc) (ls : Array Slot), va_P z.1 classes (wv z ad E M) H → va_D A (wv z ad E M) → va_S A s.heap H locs → lv_has ls 5 [(3, .int (oI w3))] → W p l e (rmK 3 90 0 0) s m args below meth c H locs 0 0 Q (F0 m 40 ls [])) : ∀ (H : Heap) (locs : List Loc) (ls : Array Slot), va_P z.1 classes (wv z ad E M) H → va_D A (wv z ad E M) → va_S A s.heap H locs → lv_has ls 5 [(0, .ref (ad 41)), (1, .int (oI x1)), (2, .int (oI x2)), (3, .int (oI x3)), (4, .int (oI x4))] → W p l e (rmK 3 90 0 0) s m args below meth c H locs 0 0 Q (F0 m 10 ls []) := by
  intro H locs ls hP hD hS hl
  unfold Po_consensusPlace_10b at h
  refine lv_iload hx hb d_11_17_10 (lv_at hl 4 rfl) ?_
  refine lv_iload_n hx hb d_11_17_12 rfl (lv_at hl 1 rfl) ?_
  obtain ⟨ok100, h⟩ := ck_e h
  obtain ⟨ok101, h⟩ := ck_e h
  refine lv_icmp_gt (tgt := 40) hx hb d_11_17_13 (by decide) (fun c9 => ?_) (fun c9 => ?_)
  · have h := ite_t ((oI_lt (a := x1) (b := x4) ok101 ok100).mp c9) h
    obtain ⟨rfl, rfl, rfl, rfl⟩ := in4 h
    exact k1 rfl H locs ls hP hD hS (lv_sub hl [3] rfl)
  · have h := ite_f (fun q => c9 ((oI_lt (a := x1) (b := x4) ok101 ok100).mpr q)) h
    refine lv_iload_n hx hb d_11_17_16 rfl (lv_at hl 2 rfl) ?_
    obtain ⟨ok102, h⟩ := ck_e h
    refine lv_if_eq (tgt := 40) hx hb d_11_17_17 (by decide) (fun c9 => ?_) (fun c9 => ?_)
    · have h := ite_t ((oI_eq0 ok102).mp c9) h
      obtain ⟨rfl, rfl, rfl, rfl⟩ := in4 h
      exact k1 rfl H locs ls hP hD hS (lv_sub hl [3] rfl)
    · have h := ite_f (fun q => c9 ((oI_eq0 ok102).mpr q)) h
      refine lv_aload_n hx hb d_11_17_20 rfl (lv_at hl 0 rfl) ?_
      refine lv_iload_n hx hb d_11_17_21 rfl (lv_at hl 2 rfl) ?_
      obtain ⟨r103, g103, h⟩ := bd_e h
      refine kV (As := [.int (oI x2)]) (rest := []) (s_Po_firstOfConsensus l z ad E M x2 r103 hL g103) hx hb hml hown hts w_746 w_743 w_745 w_s_4d3fdf w_3 md_2e2af1 ⟨Nat.le_of_ble_eq_true rfl, Nat.le_of_ble_eq_true rfl⟩ hG hZ hP hD hS hA 41 (wv_o (ci := 9) (yi_41 hL) (yt_41 hL)) rfl rfl rfl hl.1 rfl (Nat.le_of_ble_eq_true rfl) d_11_17_22 ⟨Nat.le_of_ble_eq_true rfl, Nat.le_of_ble_eq_true rfl⟩ (fun _ H locs hP hD hS => ?_)
      have hP : va_P z.1 classes (wv z ad E M) H := hP
      have hD : va_D A (wv z ad E M) := hD
      refine W.eq (g2 := F0 m 25 ls [.int (oI r103)]) rfl ?_
      refine lv_istore_n (lv' := [(3, .int (oI r103)), (0, .ref (ad 41)), (1, .int (oI x1)), (2, .int (oI x2)), (4, .int (oI x4))]) hx hb d_11_17_25 rfl hl (by decide) rfl (fun ls hl => ?_)
      refine lv_iload_n hx hb d_11_17_26 rfl (lv_at hl 3 rfl) ?_
      refine lv_iconst (v := oI 1) hx hb d_11_17_27 (by decide +kernel) ?_
      refine lv_iload_n hx hb d_11_17_28 rfl (lv_at hl 0 rfl) ?_
      obtain ⟨ok104, h⟩ := ck_e h
      refine lv_ishl hx hb d_11_17_29 ?_
      refine nrm (oI_one_shl ok104) ?_
      refine lv_iconst (v := oI (-1)) hx hb d_11_17_30 (by decide +kernel) ?_
      refine lv_ixor hx hb d_11_17_31 ?_
      refine nrm (oI_not _) ?_
      obtain ⟨ok105, h⟩ := ck_e h
      obtain ⟨ok106, h⟩ := ck_e h
      refine lv_iand hx hb d_11_17_32 ?_
      refine nrm (oI_dif ok105.1 ok105.2 ok106.1 ok106.2) ?_
      refine lv_istore_n (lv' := [(2, .int (oI (dfI x2 (2 ^ r103.toNat)))), (3, .int (oI r103)), (0, .ref (ad 41)), (1, .int (oI x1)), (4, .int (oI x4))]) hx hb d_11_17_33 rfl hl (by decide) rfl (fun ls hl => ?_)
      refine lv_iinc (v := oI (x4 + 1)) (lv' := [(4, .int (oI (x4 + 1))), (2, .int (oI (dfI x2 (2 ^ r103.toNat)))), (3, .int (oI r103)), (0, .ref (ad 41)), (1, .int (oI x1))]) hx hb d_11_17_34 hl (k := 4) rfl (oI_add x4 1) (by decide) rfl (fun ls hl => ?_)
      refine lv_goto (tgt := 10) hx hb d_11_17_37 (by decide) ?_
      obtain ⟨rfl, rfl, rfl, rfl⟩ := in4 h
      exact k0 rfl H locs ls hP hD hS (lv_sub hl [3, 4, 1, 2, 0] rfl)
set_option maxRecDepth 100000 in
set_option maxHeartbeats 4000000 in
theorem s_Po_consensusPlace_10 (l : Launch) (z : Zz) (ad : Nat → Nat) (E : Ev) (x1 : Int) {Q : State → Prop} {p : Program} {e : Env} {s : State} {m : MethodId} {below : List Frame} {meth : Method} {c : Code} {A : Nat → Prop} {args : Array Value} (hx : p.tables.exec = Jvm.exec) (hb : c.code = prog_11_method_17_code) (hml : c.maxLocals = 5) (hts : ∀ w ∈ WG, w.before args s = true) (hown : s.vm.findClass "Ballothall$Poll" = some m.cls) (hlocks : meth.locks = false) (hA : ∀ q, s.heap.size ≤ q → A q) (hG : KG z s) (hZ : FZ z A s) (hL : Lay E) : ∀ (fu : Nat) (M : Mm) (x2 : Int) (x3 : Int) (x4 : Int) (t : Nat) (w2 : Int) (w3 : Int) (w4 : Int), l_Po_consensusPlace_10 E x1 fu M x2 x3 x4 = some (t, w2, w3, w4) → (t = 1 → ∀ (H : Heap) (locs : List Loc) (ls : Array Slot), va_P z.1 classes (wv z ad E M) H → va_D A (wv z ad E M) → va_S A s.heap H locs → lv_has ls 5 [(3, .int (oI w3))] → W p l e (rmK 3 90 0 0) s m args below meth c H locs 0 0 Q (F0 m 40 ls [])) → ∀ (H : Heap) (locs : List Loc) (ls : Array Slot), va_P z.1 classes (wv z ad E M) H → va_D A (wv z ad E M) → va_S A s.heap H locs → lv_has ls 5 [(0, .ref (ad 41)), (1, .int (oI x1)), (2, .int (oI x2)), (3, .int (oI x3)), (4, .int (oI x4))] → W p l e (rmK 3 90 0 0) s m args below meth c H locs 0 0 Q (F0 m 10 ls []) := by
  intro fu
  induction fu with
  | zero =>
    intro M x2 x3 x4 t w2 w3 w4 h
    have h : (none : Option (Nat × Int × Int × Int)) = some _ := h
    cases h
  | succ fu ih =>
    intro M x2 x3 x4 t w2 w3 w4 h k1 H locs ls hP hD hS hl
    obtain ⟨⟨t0, w20, w30, w40⟩, g0, h⟩ := bd_e h
    refine b_Po_consensusPlace_10b l z ad E M x1 x2 x3 x4 t0 w20 w30 w40 hx hb hml hts hown hlocks hA hG hZ hL g0 (fun e0 => ?_) (fun e0 => ?_) H locs ls hP hD hS hl
    · subst e0
      have h := ite_t rfl h
      exact ih M w20 w30 w40 t w2 w3 w4 h k1
    · subst e0
      have h := ite_f (by decide) h
      obtain ⟨rfl, rfl, rfl, rfl⟩ := in4 h
      exact k1 rfl
set_option maxRecDepth 100000 in
set_option maxHeartbeats 4000000 in
theorem s_Po_consensusPlace (l : Launch) (z : Zz) (ad : Nat → Nat) (E : Ev) (M : Mm) (x1 : Int) (r : Int)  (hL : Lay E) (h : f_Po_consensusPlace E M x1 = some r) : CT l z ⟨"Ballothall$Poll", "consensusPlace", "(I)I"⟩ prog_11_method_17_code 5 (some .int) [.ref (ad 41), .int (oI x1)] (wv z ad E M) 3 90 0 0 (fun _ => some (.int (oI r))) (fun _ => (wv z ad E M)) := by
  refine CT.of (own := "Ballothall$Poll") (by decide +kernel) (Nat.le_of_ble_eq_true rfl) rfl (fun p e s m below meth c A ls hx hb hml hr hts hown hlocks hin hA hG hZ hP hD hS hl => ?_)
  have hl : lv_has ls 5 [(0, .ref (ad 41)), (1, .int (oI x1))] := hl
  have key : ∀ (H : Heap) (locs : List Loc) (args : Array Value), (∀ w ∈ WG, w.before args s = true) → va_P z.1 classes (wv z ad E M) H → va_S A s.heap H locs → W p l e (rmK 3 90 0 0) s m args below meth c H locs 0 0 (MQ below (QK z A (fun _ => some (.int (oI r))) (fun _ => (wv z ad E M))) args s 0 0 A) (F0 m 0 ls []) := by
    intro H locs args hts hP hS
    unfold f_Po_consensusPlace at h
    refine lv_aload_n hx hb d_11_17_0 rfl (lv_at hl 0 rfl) ?_
    refine m_gi (C := "Ballothall$Poll") (T := TX9) (N := 12) (ci := 9) (k := 1) hx hb hts iX9 hown hG hP (yi_41 hL) (yt_41 hL) rfl (by decide) w_108 (fun _ h9 => h9) rfl rfl d_11_17_1 ?_
    refine lv_istore_n (lv' := [(2, .int (oI (M 41 1))), (0, .ref (ad 41)), (1, .int (oI x1))]) hx hb d_11_17_4 rfl hl (by decide) rfl (fun ls hl => ?_)
    refine lv_iconst (v := oI (-1)) hx hb d_11_17_5 (by decide +kernel) ?_
    refine lv_istore_n (lv' := [(3, .int (oI (-1))), (2, .int (oI (M 41 1))), (0, .ref (ad 41)), (1, .int (oI x1))]) hx hb d_11_17_6 rfl hl (by decide) rfl (fun ls hl => ?_)
    refine lv_iconst (v := oI 0) hx hb d_11_17_7 (by decide +kernel) ?_
    refine lv_istore (lv' := [(4, .int (oI 0)), (3, .int (oI (-1))), (2, .int (oI (M 41 1))), (0, .ref (ad 41)), (1, .int (oI x1))]) hx hb d_11_17_8 hl (by decide) rfl (fun ls hl => ?_)
    obtain ⟨⟨t107, v107_2, v107_3, v107_4⟩, g107, h⟩ := bd_e h
    obtain ⟨ok107, h⟩ := ck_e h
    refine s_Po_consensusPlace_10 l z ad E x1 hx hb hml hts hown hlocks hA hG hZ hL FU M (M 41 1) (-1) 0 t107 v107_2 v107_3 v107_4 g107 (fun e107 H locs ls hP hD hS hl => ?_) H locs ls hP hD hS (lv_sub hl [3, 4, 2, 1, 0] rfl)
    refine lv_iload_n hx hb d_11_17_40 rfl (lv_at hl 0 rfl) ?_
    obtain rfl := in1 h
    exact W.iret hx hb hr (fun t ht hW => qkA hP hD hS (fun k => k) rfl rfl ht) hS.2.2 d_11_17_41
  exact key _ _ _ hts hP hS
set_option maxRecDepth 100000 in
set_option maxHeartbeats 4000000 in
theorem s_B_consensusAt (l : Launch) (z : Zz) (ad : Nat → Nat) (E : Ev) (M : Mm) (x1 : Int) (r : Int) (N : Mm) (hL : Lay E) (h : f_B_consensusAt E M x1 = some (r, N)) : CT l z ⟨"Ballothall", "consensusAt", "(I)I"⟩ prog_1_method_30_code 2 (some .int) [.ref (ad 1), .int (oI x1)] (wv z ad E M) 4 115 0 0 (fun _ => some (.int (oI r))) (fun _ => (wv z ad E N)) := by
  refine CT.of (own := "Ballothall") (by decide +kernel) (Nat.le_of_ble_eq_true rfl) rfl (fun p e s m below meth c A ls hx hb hml hr hts hown hlocks hin hA hG hZ hP hD hS hl => ?_)
  have hl : lv_has ls 2 [(0, .ref (ad 1)), (1, .int (oI x1))] := hl
  have key : ∀ (H : Heap) (locs : List Loc) (args : Array Value), (∀ w ∈ WG, w.before args s = true) → va_P z.1 classes (wv z ad E M) H → va_S A s.heap H locs → W p l e (rmK 4 115 0 0) s m args below meth c H locs 0 0 (MQ below (QK z A (fun _ => some (.int (oI r))) (fun _ => (wv z ad E N))) args s 0 0 A) (F0 m 0 ls []) := by
    intro H locs args hts hP hS
    unfold f_B_consensusAt at h
    refine lv_iload_n hx hb d_1_30_0 rfl (lv_at hl 1 rfl) ?_
    refine lv_aload_n hx hb d_1_30_1 rfl (lv_at hl 0 rfl) ?_
    refine m_gr (j := 2) (C := "Ballothall") (T := TX11) (N := 14) (ci := 11) (k := 0) hx hb hts iX11 hown hG hP (yi_1 hL) (yt_1 hL) rfl (by decide) w_397 (fun _ h9 => h9) rfl rfl (yr_1_0 hL) d_1_30_2 ?_
    refine m_giN (C := "Ballothall$BallotBox") (T := TX0) (N := 10) (ci := 0) (k := 2) hx hb hts iX0 hown hG hP (yi_2 hL) (yt_2 hL) rfl (by decide) n_52 rfl (fun _ h9 => h9) rfl rfl d_1_30_5 ?_
    obtain ⟨_, g100, h⟩ := bd_e h
    refine kS (As := [.int (oI x1), .int (oI (M 2 2))]) (rest := []) (s_B_needPlace l z ad E M x1 (M 2 2) hL g100) hx hb hml hown hts w_1343 w_1341 w_1342 w_1 md_541664 ⟨Nat.le_of_ble_eq_true rfl, Nat.le_of_ble_eq_true rfl⟩ hG hZ hP hD hS hA rfl hl.1 rfl (Nat.le_of_ble_eq_true rfl) d_1_30_8 ⟨Nat.le_of_ble_eq_true rfl, Nat.le_of_ble_eq_true rfl⟩ (fun _ H locs hP hD hS => ?_)
    have hP : va_P z.1 classes (wv z ad E M) H := hP
    have hD : va_D A (wv z ad E M) := hD
    refine W.eq (g2 := F0 m 11 ls []) rfl ?_
    refine lv_aload_n hx hb d_1_30_11 rfl (lv_at hl 0 rfl) ?_
    refine m_gr (j := 41) (C := "Ballothall") (T := TX11) (N := 14) (ci := 11) (k := 1) hx hb hts iX11 hown hG hP (yi_1 hL) (yt_1 hL) rfl (by decide) w_398 (fun _ h9 => h9) rfl rfl (yr_1_1 hL) d_1_30_12 ?_
    refine lv_aload_n hx hb d_1_30_15 rfl (lv_at hl 0 rfl) ?_
    refine m_gr (j := 2) (C := "Ballothall") (T := TX11) (N := 14) (ci := 11) (k := 0) hx hb hts iX11 hown hG hP (yi_1 hL) (yt_1 hL) rfl (by decide) w_397 (fun _ h9 => h9) rfl rfl (yr_1_0 hL) d_1_30_16 ?_
    obtain ⟨r101, g101, h⟩ := bd_e h
    refine kVN (As := []) (rest := [.ref (ad 41)]) (s_Bx_everybody l z ad E M r101 hL g101) hx hb hml hown hts w_668 n_665 w_667 w_s_8b8b67 w_2 md_b59579 ⟨Nat.le_of_ble_eq_true rfl, Nat.le_of_ble_eq_true rfl⟩ hG hZ hP hD hS hA 2 (wv_o (ci := 0) (yi_2 hL) (yt_2 hL)) rfl rfl rfl hl.1 rfl (Nat.le_of_ble_eq_true rfl) d_1_30_19 ⟨Nat.le_of_ble_eq_true rfl, Nat.le_of_ble_eq_true rfl⟩ (fun _ H locs hP hD hS => ?_)
    have hP : va_P z.1 classes (wv z ad E M) H := hP
    have hD : va_D A (wv z ad E M) := hD
    refine W.eq (g2 := F0 m 22 ls [.int (oI r101), .ref (ad 41)]) rfl ?_
    obtain ⟨M102, g102, h⟩ := bd_e h
    refine kVN (As := [.int (oI r101)]) (rest := []) (s_Po_open l z ad E M r101 M102 hL g102) hx hb hml hown hts w_672 n_669 w_671 w_s_229dc4 w_3 md_60bc9b ⟨Nat.le_of_ble_eq_true rfl, Nat.le_of_ble_eq_true rfl⟩ hG hZ hP hD hS hA 41 (wv_o (ci := 9) (yi_41 hL) (yt_41 hL)) rfl rfl rfl hl.1 rfl (Nat.le_of_ble_eq_true rfl) d_1_30_22 ⟨Nat.le_of_ble_eq_true rfl, Nat.le_of_ble_eq_true rfl⟩ (fun _ H locs hP hD hS => ?_)
    have hP : va_P z.1 classes (wv z ad E M102) H := hP
    have hD : va_D A (wv z ad E M102) := hD
    refine W.eq (g2 := F0 m 25 ls []) rfl ?_
    refine lv_aload_n hx hb d_1_30_25 rfl (lv_at hl 0 rfl) ?_
    refine m_gr (j := 41) (C := "Ballothall") (T := TX11) (N := 14) (ci := 11) (k := 1) hx hb hts iX11 hown hG hP (yi_1 hL) (yt_1 hL) rfl (by decide) w_398 (fun _ h9 => h9) rfl rfl (yr_1_1 hL) d_1_30_26 ?_
    obtain ⟨M103, g103, h⟩ := bd_e h
    refine kVN (As := []) (rest := []) (s_Po_findDistances l z ad E M102 M103 hL g103) hx hb hml hown hts w_713 n_710 w_712 w_s_d32e6f w_3 md_4b14b3 ⟨Nat.le_of_ble_eq_true rfl, Nat.le_of_ble_eq_true rfl⟩ hG hZ hP hD hS hA 41 (wv_o (ci := 9) (yi_41 hL) (yt_41 hL)) rfl rfl rfl hl.1 rfl (Nat.le_of_ble_eq_true rfl) d_1_30_29 ⟨Nat.le_of_ble_eq_true rfl, Nat.le_of_ble_eq_true rfl⟩ (fun _ H locs hP hD hS => ?_)
    have hP : va_P z.1 classes (wv z ad E M103) H := hP
    have hD : va_D A (wv z ad E M103) := hD
    refine W.eq (g2 := F0 m 32 ls []) rfl ?_
    refine lv_aload_n hx hb d_1_30_32 rfl (lv_at hl 0 rfl) ?_
    refine m_gr (j := 41) (C := "Ballothall") (T := TX11) (N := 14) (ci := 11) (k := 1) hx hb hts iX11 hown hG hP (yi_1 hL) (yt_1 hL) rfl (by decide) w_398 (fun _ h9 => h9) rfl rfl (yr_1_1 hL) d_1_30_33 ?_
    refine lv_iload_n hx hb d_1_30_36 rfl (lv_at hl 1 rfl) ?_
    obtain ⟨r104, g104, h⟩ := bd_e h
    refine kVN (As := [.int (oI x1)]) (rest := []) (s_Po_consensusPlace l z ad E M103 x1 r104 hL g104) hx hb hml hown hts w_742 n_739 w_741 w_s_cb37ef w_3 md_2413b1 ⟨Nat.le_of_ble_eq_true rfl, Nat.le_of_ble_eq_true rfl⟩ hG hZ hP hD hS hA 41 (wv_o (ci := 9) (yi_41 hL) (yt_41 hL)) rfl rfl rfl hl.1 rfl (Nat.le_of_ble_eq_true rfl) d_1_30_37 ⟨Nat.le_of_ble_eq_true rfl, Nat.le_of_ble_eq_true rfl⟩ (fun _ H locs hP hD hS => ?_)
    have hP : va_P z.1 classes (wv z ad E M103) H := hP
    have hD : va_D A (wv z ad E M103) := hD
    refine W.eq (g2 := F0 m 40 ls [.int (oI r104)]) rfl ?_
    obtain ⟨rfl, rfl⟩ := in2 h
    exact W.iret hx hb hr (fun t ht hW => qkA hP hD hS (fun k => k) rfl rfl ht) hS.2.2 d_1_30_40
  exact key _ _ _ hts hP hS
set_option maxRecDepth 100000 in
set_option maxHeartbeats 4000000 in
theorem b_Po_winnersByPaths_24b (l : Launch) (z : Zz) (ad : Nat → Nat) (E : Ev) (M : Mm) (x2 : Int) (x1 : Int) (x3 : Int) (t : Nat) (w1 : Int) (w3 : Int) (N : Mm) {Q : State → Prop} {p : Program} {e : Env} {s : State} {m : MethodId} {below : List Frame} {meth : Method} {c : Code} {A : Nat → Prop} {args : Array Value} (hx : p.tables.exec = Jvm.exec) (hb : c.code = prog_11_method_14_code) (hml : c.maxLocals = 4) (hts : ∀ w ∈ WG, w.before args s = true) (hown : s.vm.findClass "Ballothall$Poll" = some m.cls) (hlocks : meth.locks = false) (hA : ∀ q, s.heap.size ≤ q → A q) (hG : KG z s) (hZ : FZ z A s) (hL : Lay E) (h : Po_winnersByPaths_24b E M x2 x1 x3 = some (t, w1, w3, N)) (k0 : t = 0 → ∀ (H : Heap) (locs : List Loc) (ls : Array Slot), va_P z.1 classes (wv z ad E N) H → va_D A (wv z ad E N) → va_S A s.heap H locs → lv_has ls 4 [(0, .ref (ad 41)), (1, .int (oI w1)), (2, .int (oI x2)), (3, .int (oI w3))] → W p l e (rmK 3 89 0 0) s m args below meth c H locs 0 0 Q (F0 m 24 ls [])) (k1 : t = 1 → ∀ (H : Heap) (locs : List Loc) (ls : Array Slot), va_P z.1 classes (wv z ad E N) H → va_D A (wv z ad E N) → va_S A s.heap H locs → lv_has ls 4 [(0, .ref (ad 41)), (1, .int (oI w1)), (2, .int (oI x2))] → W p l e (rmK 3 89 0 0) s m args below meth c H locs 0 0 Q (F0 m 64 ls [])) : ∀ (H : Heap) (locs : List Loc) (ls : Array Slot), va_P z.1 classes (wv z ad E M) H → va_D A (wv z ad E M) → va_S A s.heap H locs → lv_has ls 4 [(0, .ref (ad 41)), (1, .int (oI x1)), (2, .int (oI x2)), (3, .int (oI x3))] → W p l e (rmK 3 89 0 0) s m args below meth c H locs 0 0 Q (F0 m 24 ls []) := by
  intro H locs ls hP hD hS hl
  unfold Po_winnersByPaths_24b at h
  refine lv_iload_n hx hb d_11_14_24 rfl (lv_at hl 3 rfl) ?_
  refine lv_aload_n hx hb d_11_14_25 rfl (lv_at hl 0 rfl) ?_
  refine m_gr (j := 2) (C := "Ballothall$Poll") (T := TX9) (N := 12) (ci := 9) (k := 0) hx hb hts iX9 hown hG hP (yi_41 hL) (yt_41 hL) rfl (by decide) w_107 (fun _ h9 => h9) rfl rfl (yr_41_0 hL) d_11_14_26 ?_
  refine m_giN (C := "Ballothall$BallotBox") (T := TX0) (N := 10) (ci := 0) (k := 2) hx hb hts iX0 hown hG hP (yi_2 hL) (yt_2 hL) rfl (by decide) n_53 rfl (fun _ h9 => h9) rfl rfl d_11_14_29 ?_
  obtain ⟨ok103, h⟩ := ck_e h
  obtain ⟨ok104, h⟩ := ck_e h
  refine lv_icmp_ge (tgt := 64) hx hb d_11_14_32 (by decide) (fun c9 => ?_) (fun c9 => ?_)
  · have h := ite_t ((oI_le (a := (M 2 2)) (b := x3) ok104 ok103).mp c9) h
    obtain ⟨rfl, rfl, rfl, rfl⟩ := in4 h
    exact k1 rfl H locs ls hP hD hS (lv_sub hl [0, 1, 2] rfl)
  · have h := ite_f (fun q => c9 ((oI_le (a := (M 2 2)) (b := x3) ok104 ok103).mpr q)) h
    refine lv_aload_n hx hb d_11_14_35 rfl (lv_at hl 0 rfl) ?_
    refine lv_iload_n hx hb d_11_14_36 rfl (lv_at hl 3 rfl) ?_
    refine lv_iload_n hx hb d_11_14_37 rfl (lv_at hl 2 rfl) ?_
    obtain ⟨r105, g105, h⟩ := bd_e h
    refine kV (As := [.int (oI x3), .int (oI x2)]) (rest := []) (s_Po_path l z ad E M x3 x2 r105 hL g105) hx hb hml hown hts w_733 w_730 w_732 w_s_f68c3b w_3 md_2f75ac ⟨Nat.le_of_ble_eq_true rfl, Nat.le_of_ble_eq_true rfl⟩ hG hZ hP hD hS hA 41 (wv_o (ci := 9) (yi_41 hL) (yt_41 hL)) rfl rfl rfl hl.1 rfl (Nat.le_of_ble_eq_true rfl) d_11_14_38 ⟨Nat.le_of_ble_eq_true rfl, Nat.le_of_ble_eq_true rfl⟩ (fun _ H locs hP hD hS => ?_)
    have hP : va_P z.1 classes (wv z ad E M) H := hP
    have hD : va_D A (wv z ad E M) := hD
    refine W.eq (g2 := F0 m 41 ls [.int (oI r105)]) rfl ?_
    refine lv_aload_n hx hb d_11_14_41 rfl (lv_at hl 0 rfl) ?_
    refine lv_iload_n hx hb d_11_14_42 rfl (lv_at hl 2 rfl) ?_
    refine lv_iload_n hx hb d_11_14_43 rfl (lv_at hl 3 rfl) ?_
    obtain ⟨r106, g106, h⟩ := bd_e h
    refine kV (As := [.int (oI x2), .int (oI x3)]) (rest := [.int (oI r105)]) (s_Po_path l z ad E M x2 x3 r106 hL g106) hx hb hml hown hts w_733 w_730 w_732 w_s_f68c3b w_3 md_2f75ac ⟨Nat.le_of_ble_eq_true rfl, Nat.le_of_ble_eq_true rfl⟩ hG hZ hP hD hS hA 41 (wv_o (ci := 9) (yi_41 hL) (yt_41 hL)) rfl rfl rfl hl.1 rfl (Nat.le_of_ble_eq_true rfl) d_11_14_44 ⟨Nat.le_of_ble_eq_true rfl, Nat.le_of_ble_eq_true rfl⟩ (fun _ H locs hP hD hS => ?_)
    have hP : va_P z.1 classes (wv z ad E M) H := hP
    have hD : va_D A (wv z ad E M) := hD
    refine W.eq (g2 := F0 m 47 ls [.int (oI r106), .int (oI r105)]) rfl ?_
    obtain ⟨ok107, h⟩ := ck_e h
    obtain ⟨ok108, h⟩ := ck_e h
    refine lv_icmp_le (tgt := 58) hx hb d_11_14_47 (by decide) (fun c9 => ?_) (fun c9 => ?_)
    · have h := ite_t ((oI_le (a := r105) (b := r106) ok107 ok108).mp c9) h
      refine lv_iinc (v := oI (x3 + 1)) (lv' := [(3, .int (oI (x3 + 1))), (0, .ref (ad 41)), (1, .int (oI x1)), (2, .int (oI x2))]) hx hb d_11_14_58 hl (k := 3) rfl (oI_add x3 1) (by decide) rfl (fun ls hl => ?_)
      refine lv_goto (tgt := 24) hx hb d_11_14_61 (by decide) ?_
      obtain ⟨rfl, rfl, rfl, rfl⟩ := in4 h
      exact k0 rfl H locs ls hP hD hS (lv_sub hl [1, 2, 3, 0] rfl)
    · have h := ite_f (fun q => c9 ((oI_le (a := r105) (b := r106) ok107 ok108).mpr q)) h
      refine lv_iload_n hx hb d_11_14_50 rfl (lv_at hl 1 rfl) ?_
      refine lv_iconst (v := oI 1) hx hb d_11_14_51 (by decide +kernel) ?_
      refine lv_iload_n hx hb d_11_14_52 rfl (lv_at hl 2 rfl) ?_
      obtain ⟨ok109, h⟩ := ck_e h
      refine lv_ishl hx hb d_11_14_53 ?_
      refine nrm (oI_one_shl ok109) ?_
      refine lv_iconst (v := oI (-1)) hx hb d_11_14_54 (by decide +kernel) ?_
      refine lv_ixor hx hb d_11_14_55 ?_
      refine nrm (oI_not _) ?_
      obtain ⟨ok110, h⟩ := ck_e h
      obtain ⟨ok111, h⟩ := ck_e h
      refine lv_iand hx hb d_11_14_56 ?_
      refine nrm (oI_dif ok110.1 ok110.2 ok111.1 ok111.2) ?_
      refine lv_istore_n (lv' := [(1, .int (oI (dfI x1 (2 ^ x2.toNat)))), (0, .ref (ad 41)), (2, .int (oI x2)), (3, .int (oI x3))]) hx hb d_11_14_57 rfl hl (by decide) rfl (fun ls hl => ?_)
      refine lv_iinc (v := oI (x3 + 1)) (lv' := [(3, .int (oI (x3 + 1))), (1, .int (oI (dfI x1 (2 ^ x2.toNat)))), (0, .ref (ad 41)), (2, .int (oI x2))]) hx hb d_11_14_58 hl (k := 3) rfl (oI_add x3 1) (by decide) rfl (fun ls hl => ?_)
      refine lv_goto (tgt := 24) hx hb d_11_14_61 (by decide) ?_
      obtain ⟨rfl, rfl, rfl, rfl⟩ := in4 h
      exact k0 rfl H locs ls hP hD hS (lv_sub hl [2, 1, 3, 0] rfl)
set_option maxRecDepth 100000 in
set_option maxHeartbeats 4000000 in
theorem s_Po_winnersByPaths_24 (l : Launch) (z : Zz) (ad : Nat → Nat) (E : Ev) (x2 : Int) {Q : State → Prop} {p : Program} {e : Env} {s : State} {m : MethodId} {below : List Frame} {meth : Method} {c : Code} {A : Nat → Prop} {args : Array Value} (hx : p.tables.exec = Jvm.exec) (hb : c.code = prog_11_method_14_code) (hml : c.maxLocals = 4) (hts : ∀ w ∈ WG, w.before args s = true) (hown : s.vm.findClass "Ballothall$Poll" = some m.cls) (hlocks : meth.locks = false) (hA : ∀ q, s.heap.size ≤ q → A q) (hG : KG z s) (hZ : FZ z A s) (hL : Lay E) : ∀ (fu : Nat) (M : Mm) (x1 : Int) (x3 : Int) (t : Nat) (w1 : Int) (w3 : Int) (N : Mm), l_Po_winnersByPaths_24 E x2 fu M x1 x3 = some (t, w1, w3, N) → (t = 1 → ∀ (H : Heap) (locs : List Loc) (ls : Array Slot), va_P z.1 classes (wv z ad E N) H → va_D A (wv z ad E N) → va_S A s.heap H locs → lv_has ls 4 [(0, .ref (ad 41)), (1, .int (oI w1)), (2, .int (oI x2))] → W p l e (rmK 3 89 0 0) s m args below meth c H locs 0 0 Q (F0 m 64 ls [])) → ∀ (H : Heap) (locs : List Loc) (ls : Array Slot), va_P z.1 classes (wv z ad E M) H → va_D A (wv z ad E M) → va_S A s.heap H locs → lv_has ls 4 [(0, .ref (ad 41)), (1, .int (oI x1)), (2, .int (oI x2)), (3, .int (oI x3))] → W p l e (rmK 3 89 0 0) s m args below meth c H locs 0 0 Q (F0 m 24 ls []) := by
  intro fu
  induction fu with
  | zero =>
    intro M x1 x3 t w1 w3 N h
    have h : (none : Option (Nat × Int × Int × Mm)) = some _ := h
    cases h
  | succ fu ih =>
    intro M x1 x3 t w1 w3 N h k1 H locs ls hP hD hS hl
    obtain ⟨⟨t0, w10, w30, N9⟩, g0, h⟩ := bd_e h
    refine b_Po_winnersByPaths_24b l z ad E M x2 x1 x3 t0 w10 w30 N9 hx hb hml hts hown hlocks hA hG hZ hL g0 (fun e0 => ?_) (fun e0 => ?_) H locs ls hP hD hS hl
    · subst e0
      have h := ite_t rfl h
      exact ih N9 w10 w30 t w1 w3 N h k1
    · subst e0
      have h := ite_f (by decide) h
      obtain ⟨rfl, rfl, rfl, rfl⟩ := in4 h
      exact k1 rfl
set_option maxRecDepth 100000 in
set_option maxHeartbeats 4000000 in
theorem b_Po_winnersByPaths_11b (l : Launch) (z : Zz) (ad : Nat → Nat) (E : Ev) (M : Mm) (x1 : Int) (x2 : Int) (t : Nat) (w1 : Int) (w2 : Int) (N : Mm) {Q : State → Prop} {p : Program} {e : Env} {s : State} {m : MethodId} {below : List Frame} {meth : Method} {c : Code} {A : Nat → Prop} {args : Array Value} (hx : p.tables.exec = Jvm.exec) (hb : c.code = prog_11_method_14_code) (hml : c.maxLocals = 4) (hts : ∀ w ∈ WG, w.before args s = true) (hown : s.vm.findClass "Ballothall$Poll" = some m.cls) (hlocks : meth.locks = false) (hA : ∀ q, s.heap.size ≤ q → A q) (hG : KG z s) (hZ : FZ z A s) (hL : Lay E) (h : Po_winnersByPaths_11b E M x1 x2 = some (t, w1, w2, N)) (k0 : t = 0 → ∀ (H : Heap) (locs : List Loc) (ls : Array Slot), va_P z.1 classes (wv z ad E N) H → va_D A (wv z ad E N) → va_S A s.heap H locs → lv_has ls 4 [(0, .ref (ad 41)), (1, .int (oI w1)), (2, .int (oI w2))] → W p l e (rmK 3 89 0 0) s m args below meth c H locs 0 0 Q (F0 m 11 ls [])) (k1 : t = 1 → ∀ (H : Heap) (locs : List Loc) (ls : Array Slot), va_P z.1 classes (wv z ad E N) H → va_D A (wv z ad E N) → va_S A s.heap H locs → lv_has ls 4 [(1, .int (oI w1))] → W p l e (rmK 3 89 0 0) s m args below meth c H locs 0 0 Q (F0 m 70 ls [])) : ∀ (H : Heap) (locs : List Loc) (ls : Array Slot), va_P z.1 classes (wv z ad E M) H → va_D A (wv z ad E M) → va_S A s.heap H locs → lv_has ls 4 [(0, .ref (ad 41)), (1, .int (oI x1)), (2, .int (oI x2))] → W p l e (rmK 3 89 0 0) s m args below meth c H locs 0 0 Q (F0 m 11 ls []) := by
  intro H locs ls hP hD hS hl
  unfold Po_winnersByPaths_11b at h
  refine lv_iload_n hx hb d_11_14_11 rfl (lv_at hl 2 rfl) ?_
  refine lv_aload_n hx hb d_11_14_12 rfl (lv_at hl 0 rfl) ?_
  refine m_gr (j := 2) (C := "Ballothall$Poll") (T := TX9) (N := 12) (ci := 9) (k := 0) hx hb hts iX9 hown hG hP (yi_41 hL) (yt_41 hL) rfl (by decide) w_107 (fun _ h9 => h9) rfl rfl (yr_41_0 hL) d_11_14_13 ?_
  refine m_giN (C := "Ballothall$BallotBox") (T := TX0) (N := 10) (ci := 0) (k := 2) hx hb hts iX0 hown hG hP (yi_2 hL) (yt_2 hL) rfl (by decide) n_53 rfl (fun _ h9 => h9) rfl rfl d_11_14_16 ?_
  obtain ⟨ok101, h⟩ := ck_e h
  obtain ⟨ok102, h⟩ := ck_e h
  refine lv_icmp_ge (tgt := 70) hx hb d_11_14_19 (by decide) (fun c9 => ?_) (fun c9 => ?_)
  · have h := ite_t ((oI_le (a := (M 2 2)) (b := x2) ok102 ok101).mp c9) h
    obtain ⟨rfl, rfl, rfl, rfl⟩ := in4 h
    exact k1 rfl H locs ls hP hD hS (lv_sub hl [1] rfl)
  · have h := ite_f (fun q => c9 ((oI_le (a := (M 2 2)) (b := x2) ok102 ok101).mpr q)) h
    refine lv_iconst (v := oI 0) hx hb d_11_14_22 (by decide +kernel) ?_
    refine lv_istore_n (lv' := [(3, .int (oI 0)), (0, .ref (ad 41)), (1, .int (oI x1)), (2, .int (oI x2))]) hx hb d_11_14_23 rfl hl (by decide) rfl (fun ls hl => ?_)
    obtain ⟨⟨t112, v112_1, v112_3, M112⟩, g112, h⟩ := bd_e h
    obtain ⟨ok112, h⟩ := ck_e h
    refine s_Po_winnersByPaths_24 l z ad E x2 hx hb hml hts hown hlocks hA hG hZ hL FU M x1 0 t112 v112_1 v112_3 M112 g112 (fun e112 H locs ls hP hD hS hl => ?_) H locs ls hP hD hS (lv_sub hl [1, 2, 3, 0] rfl)
    refine lv_iinc (v := oI (x2 + 1)) (lv' := [(2, .int (oI (x2 + 1))), (0, .ref (ad 41)), (1, .int (oI v112_1))]) hx hb d_11_14_64 hl (k := 2) rfl (oI_add x2 1) (by decide) rfl (fun ls hl => ?_)
    refine lv_goto (tgt := 11) hx hb d_11_14_67 (by decide) ?_
    obtain ⟨rfl, rfl, rfl, rfl⟩ := in4 h
    exact k0 rfl H locs ls hP hD hS (lv_sub hl [1, 2, 0] rfl)
set_option maxRecDepth 100000 in
set_option maxHeartbeats 4000000 in
theorem s_Po_winnersByPaths_11 (l : Launch) (z : Zz) (ad : Nat → Nat) (E : Ev) {Q : State → Prop} {p : Program} {e : Env} {s : State} {m : MethodId} {below : List Frame} {meth : Method} {c : Code} {A : Nat → Prop} {args : Array Value} (hx : p.tables.exec = Jvm.exec) (hb : c.code = prog_11_method_14_code) (hml : c.maxLocals = 4) (hts : ∀ w ∈ WG, w.before args s = true) (hown : s.vm.findClass "Ballothall$Poll" = some m.cls) (hlocks : meth.locks = false) (hA : ∀ q, s.heap.size ≤ q → A q) (hG : KG z s) (hZ : FZ z A s) (hL : Lay E) : ∀ (fu : Nat) (M : Mm) (x1 : Int) (x2 : Int) (t : Nat) (w1 : Int) (w2 : Int) (N : Mm), l_Po_winnersByPaths_11 E fu M x1 x2 = some (t, w1, w2, N) → (t = 1 → ∀ (H : Heap) (locs : List Loc) (ls : Array Slot), va_P z.1 classes (wv z ad E N) H → va_D A (wv z ad E N) → va_S A s.heap H locs → lv_has ls 4 [(1, .int (oI w1))] → W p l e (rmK 3 89 0 0) s m args below meth c H locs 0 0 Q (F0 m 70 ls [])) → ∀ (H : Heap) (locs : List Loc) (ls : Array Slot), va_P z.1 classes (wv z ad E M) H → va_D A (wv z ad E M) → va_S A s.heap H locs → lv_has ls 4 [(0, .ref (ad 41)), (1, .int (oI x1)), (2, .int (oI x2))] → W p l e (rmK 3 89 0 0) s m args below meth c H locs 0 0 Q (F0 m 11 ls []) := by
  intro fu
  induction fu with
  | zero =>
    intro M x1 x2 t w1 w2 N h
    have h : (none : Option (Nat × Int × Int × Mm)) = some _ := h
    cases h
  | succ fu ih =>
    intro M x1 x2 t w1 w2 N h k1 H locs ls hP hD hS hl
    obtain ⟨⟨t0, w10, w20, N9⟩, g0, h⟩ := bd_e h
    refine b_Po_winnersByPaths_11b l z ad E M x1 x2 t0 w10 w20 N9 hx hb hml hts hown hlocks hA hG hZ hL g0 (fun e0 => ?_) (fun e0 => ?_) H locs ls hP hD hS hl
    · subst e0
      have h := ite_t rfl h
      exact ih N9 w10 w20 t w1 w2 N h k1
    · subst e0
      have h := ite_f (by decide) h
      obtain ⟨rfl, rfl, rfl, rfl⟩ := in4 h
      exact k1 rfl
set_option maxRecDepth 100000 in
set_option maxHeartbeats 4000000 in
theorem s_Po_winnersByPaths (l : Launch) (z : Zz) (ad : Nat → Nat) (E : Ev) (M : Mm) (r : Int) (N : Mm) (hL : Lay E) (h : f_Po_winnersByPaths E M = some (r, N)) : CT l z ⟨"Ballothall$Poll", "winnersByPaths", "()I"⟩ prog_11_method_14_code 4 (some .int) [.ref (ad 41)] (wv z ad E M) 3 89 0 0 (fun _ => some (.int (oI r))) (fun _ => (wv z ad E N)) := by
  refine CT.of (own := "Ballothall$Poll") (by decide +kernel) (Nat.le_of_ble_eq_true rfl) rfl (fun p e s m below meth c A ls hx hb hml hr hts hown hlocks hin hA hG hZ hP hD hS hl => ?_)
  have hl : lv_has ls 4 [(0, .ref (ad 41))] := hl
  have key : ∀ (H : Heap) (locs : List Loc) (args : Array Value), (∀ w ∈ WG, w.before args s = true) → va_P z.1 classes (wv z ad E M) H → va_S A s.heap H locs → W p l e (rmK 3 89 0 0) s m args below meth c H locs 0 0 (MQ below (QK z A (fun _ => some (.int (oI r))) (fun _ => (wv z ad E N))) args s 0 0 A) (F0 m 0 ls []) := by
    intro H locs args hts hP hS
    unfold f_Po_winnersByPaths at h
    refine lv_aload_n hx hb d_11_14_0 rfl (lv_at hl 0 rfl) ?_
    obtain ⟨M100, g100, h⟩ := bd_e h
    refine kV (As := []) (rest := []) (s_Po_findPaths l z ad E M M100 hL g100) hx hb hml hown hts w_729 w_726 w_728 w_s_3d2a4d w_3 md_b5f468 ⟨Nat.le_of_ble_eq_true rfl, Nat.le_of_ble_eq_true rfl⟩ hG hZ hP hD hS hA 41 (wv_o (ci := 9) (yi_41 hL) (yt_41 hL)) rfl rfl rfl hl.1 rfl (Nat.le_of_ble_eq_true rfl) d_11_14_1 ⟨Nat.le_of_ble_eq_true rfl, Nat.le_of_ble_eq_true rfl⟩ (fun _ H locs hP hD hS => ?_)
    have hP : va_P z.1 classes (wv z ad E M100) H := hP
    have hD : va_D A (wv z ad E M100) := hD
    refine W.eq (g2 := F0 m 4 ls []) rfl ?_
    refine lv_aload_n hx hb d_11_14_4 rfl (lv_at hl 0 rfl) ?_
    refine m_gi (C := "Ballothall$Poll") (T := TX9) (N := 12) (ci := 9) (k := 1) hx hb hts iX9 hown hG hP (yi_41 hL) (yt_41 hL) rfl (by decide) w_108 (fun _ h9 => h9) rfl rfl d_11_14_5 ?_
    refine lv_istore_n (lv' := [(1, .int (oI (M100 41 1))), (0, .ref (ad 41))]) hx hb d_11_14_8 rfl hl (by decide) rfl (fun ls hl => ?_)
    refine lv_iconst (v := oI 0) hx hb d_11_14_9 (by decide +kernel) ?_
    refine lv_istore_n (lv' := [(2, .int (oI 0)), (1, .int (oI (M100 41 1))), (0, .ref (ad 41))]) hx hb d_11_14_10 rfl hl (by decide) rfl (fun ls hl => ?_)
    obtain ⟨⟨t113, v113_1, v113_2, M113⟩, g113, h⟩ := bd_e h
    obtain ⟨ok113, h⟩ := ck_e h
    refine s_Po_winnersByPaths_11 l z ad E hx hb hml hts hown hlocks hA hG hZ hL FU M100 (M100 41 1) 0 t113 v113_1 v113_2 M113 g113 (fun e113 H locs ls hP hD hS hl => ?_) H locs ls hP hD hS (lv_sub hl [2, 1, 0] rfl)
    refine lv_iload_n hx hb d_11_14_70 rfl (lv_at hl 0 rfl) ?_
    obtain ⟨rfl, rfl⟩ := in2 h
    exact W.iret hx hb hr (fun t ht hW => qkA hP hD hS (fun k => k) rfl rfl ht) hS.2.2 d_11_14_71
  exact key _ _ _ hts hP hS
set_option maxRecDepth 100000 in
set_option maxHeartbeats 4000000 in
theorem s_B_pathWinners (l : Launch) (z : Zz) (ad : Nat → Nat) (E : Ev) (M : Mm) (r : Int) (N : Mm) (hL : Lay E) (h : f_B_pathWinners E M = some (r, N)) : CT l z ⟨"Ballothall", "pathWinners", "()I"⟩ prog_1_method_28_code 1 (some .int) [.ref (ad 1)] (wv z ad E M) 4 115 0 0 (fun _ => some (.int (oI r))) (fun _ => (wv z ad E N)) := by
  refine CT.of (own := "Ballothall") (by decide +kernel) (Nat.le_of_ble_eq_true rfl) rfl (fun p e s m below meth c A ls hx hb hml hr hts hown hlocks hin hA hG hZ hP hD hS hl => ?_)
  have hl : lv_has ls 1 [(0, .ref (ad 1))] := hl
  have key : ∀ (H : Heap) (locs : List Loc) (args : Array Value), (∀ w ∈ WG, w.before args s = true) → va_P z.1 classes (wv z ad E M) H → va_S A s.heap H locs → W p l e (rmK 4 115 0 0) s m args below meth c H locs 0 0 (MQ below (QK z A (fun _ => some (.int (oI r))) (fun _ => (wv z ad E N))) args s 0 0 A) (F0 m 0 ls []) := by
    intro H locs args hts hP hS
    unfold f_B_pathWinners at h
    refine lv_aload_n hx hb d_1_28_0 rfl (lv_at hl 0 rfl) ?_
    refine m_gr (j := 41) (C := "Ballothall") (T := TX11) (N := 14) (ci := 11) (k := 1) hx hb hts iX11 hown hG hP (yi_1 hL) (yt_1 hL) rfl (by decide) w_398 (fun _ h9 => h9) rfl rfl (yr_1_1 hL) d_1_28_1 ?_
    refine lv_aload_n hx hb d_1_28_4 rfl (lv_at hl 0 rfl) ?_
    refine m_gr (j := 2) (C := "Ballothall") (T := TX11) (N := 14) (ci := 11) (k := 0) hx hb hts iX11 hown hG hP (yi_1 hL) (yt_1 hL) rfl (by decide) w_397 (fun _ h9 => h9) rfl rfl (yr_1_0 hL) d_1_28_5 ?_
    obtain ⟨r100, g100, h⟩ := bd_e h
    refine kVN (As := []) (rest := [.ref (ad 41)]) (s_Bx_everybody l z ad E M r100 hL g100) hx hb hml hown hts w_668 n_665 w_667 w_s_8b8b67 w_2 md_b59579 ⟨Nat.le_of_ble_eq_true rfl, Nat.le_of_ble_eq_true rfl⟩ hG hZ hP hD hS hA 2 (wv_o (ci := 0) (yi_2 hL) (yt_2 hL)) rfl rfl rfl hl.1 rfl (Nat.le_of_ble_eq_true rfl) d_1_28_8 ⟨Nat.le_of_ble_eq_true rfl, Nat.le_of_ble_eq_true rfl⟩ (fun _ H locs hP hD hS => ?_)
    have hP : va_P z.1 classes (wv z ad E M) H := hP
    have hD : va_D A (wv z ad E M) := hD
    refine W.eq (g2 := F0 m 11 ls [.int (oI r100), .ref (ad 41)]) rfl ?_
    obtain ⟨M101, g101, h⟩ := bd_e h
    refine kVN (As := [.int (oI r100)]) (rest := []) (s_Po_open l z ad E M r100 M101 hL g101) hx hb hml hown hts w_672 n_669 w_671 w_s_229dc4 w_3 md_60bc9b ⟨Nat.le_of_ble_eq_true rfl, Nat.le_of_ble_eq_true rfl⟩ hG hZ hP hD hS hA 41 (wv_o (ci := 9) (yi_41 hL) (yt_41 hL)) rfl rfl rfl hl.1 rfl (Nat.le_of_ble_eq_true rfl) d_1_28_11 ⟨Nat.le_of_ble_eq_true rfl, Nat.le_of_ble_eq_true rfl⟩ (fun _ H locs hP hD hS => ?_)
    have hP : va_P z.1 classes (wv z ad E M101) H := hP
    have hD : va_D A (wv z ad E M101) := hD
    refine W.eq (g2 := F0 m 14 ls []) rfl ?_
    refine lv_aload_n hx hb d_1_28_14 rfl (lv_at hl 0 rfl) ?_
    refine m_gr (j := 41) (C := "Ballothall") (T := TX11) (N := 14) (ci := 11) (k := 1) hx hb hts iX11 hown hG hP (yi_1 hL) (yt_1 hL) rfl (by decide) w_398 (fun _ h9 => h9) rfl rfl (yr_1_1 hL) d_1_28_15 ?_
    obtain ⟨⟨r102, M102⟩, g102, h⟩ := bd_e h
    refine kVN (As := []) (rest := []) (s_Po_winnersByPaths l z ad E M101 r102 M102 hL g102) hx hb hml hown hts w_725 n_722 w_724 w_s_87a59c w_3 md_114b2c ⟨Nat.le_of_ble_eq_true rfl, Nat.le_of_ble_eq_true rfl⟩ hG hZ hP hD hS hA 41 (wv_o (ci := 9) (yi_41 hL) (yt_41 hL)) rfl rfl rfl hl.1 rfl (Nat.le_of_ble_eq_true rfl) d_1_28_18 ⟨Nat.le_of_ble_eq_true rfl, Nat.le_of_ble_eq_true rfl⟩ (fun _ H locs hP hD hS => ?_)
    have hP : va_P z.1 classes (wv z ad E M102) H := hP
    have hD : va_D A (wv z ad E M102) := hD
    refine W.eq (g2 := F0 m 21 ls [.int (oI r102)]) rfl ?_
    obtain ⟨rfl, rfl⟩ := in2 h
    exact W.iret hx hb hr (fun t ht hW => qkA hP hD hS (fun k => k) rfl rfl ht) hS.2.2 d_1_28_21
  exact key _ _ _ hts hP hS
set_option maxRecDepth 100000 in
set_option maxHeartbeats 4000000 in
theorem s_B_consensusDistance (l : Launch) (z : Zz) (ad : Nat → Nat) (E : Ev) (M : Mm) (r : Int) (N : Mm) (hL : Lay E) (h : f_B_consensusDistance E M = some (r, N)) : CT l z ⟨"Ballothall", "consensusDistance", "()J"⟩ prog_1_method_31_code 1 (some .long) [.ref (ad 1)] (wv z ad E M) 4 115 0 0 (fun _ => some (.long (oJ r))) (fun _ => (wv z ad E N)) := by
  refine CT.of (own := "Ballothall") (by decide +kernel) (Nat.le_of_ble_eq_true rfl) rfl (fun p e s m below meth c A ls hx hb hml hr hts hown hlocks hin hA hG hZ hP hD hS hl => ?_)
  have hl : lv_has ls 1 [(0, .ref (ad 1))] := hl
  have key : ∀ (H : Heap) (locs : List Loc) (args : Array Value), (∀ w ∈ WG, w.before args s = true) → va_P z.1 classes (wv z ad E M) H → va_S A s.heap H locs → W p l e (rmK 4 115 0 0) s m args below meth c H locs 0 0 (MQ below (QK z A (fun _ => some (.long (oJ r))) (fun _ => (wv z ad E N))) args s 0 0 A) (F0 m 0 ls []) := by
    intro H locs args hts hP hS
    unfold f_B_consensusDistance at h
    refine lv_aload_n hx hb d_1_31_0 rfl (lv_at hl 0 rfl) ?_
    refine m_gr (j := 41) (C := "Ballothall") (T := TX11) (N := 14) (ci := 11) (k := 1) hx hb hts iX11 hown hG hP (yi_1 hL) (yt_1 hL) rfl (by decide) w_398 (fun _ h9 => h9) rfl rfl (yr_1_1 hL) d_1_31_1 ?_
    refine lv_aload_n hx hb d_1_31_4 rfl (lv_at hl 0 rfl) ?_
    refine m_gr (j := 2) (C := "Ballothall") (T := TX11) (N := 14) (ci := 11) (k := 0) hx hb hts iX11 hown hG hP (yi_1 hL) (yt_1 hL) rfl (by decide) w_397 (fun _ h9 => h9) rfl rfl (yr_1_0 hL) d_1_31_5 ?_
    obtain ⟨r100, g100, h⟩ := bd_e h
    refine kVN (As := []) (rest := [.ref (ad 41)]) (s_Bx_everybody l z ad E M r100 hL g100) hx hb hml hown hts w_668 n_665 w_667 w_s_8b8b67 w_2 md_b59579 ⟨Nat.le_of_ble_eq_true rfl, Nat.le_of_ble_eq_true rfl⟩ hG hZ hP hD hS hA 2 (wv_o (ci := 0) (yi_2 hL) (yt_2 hL)) rfl rfl rfl hl.1 rfl (Nat.le_of_ble_eq_true rfl) d_1_31_8 ⟨Nat.le_of_ble_eq_true rfl, Nat.le_of_ble_eq_true rfl⟩ (fun _ H locs hP hD hS => ?_)
    have hP : va_P z.1 classes (wv z ad E M) H := hP
    have hD : va_D A (wv z ad E M) := hD
    refine W.eq (g2 := F0 m 11 ls [.int (oI r100), .ref (ad 41)]) rfl ?_
    obtain ⟨M101, g101, h⟩ := bd_e h
    refine kVN (As := [.int (oI r100)]) (rest := []) (s_Po_open l z ad E M r100 M101 hL g101) hx hb hml hown hts w_672 n_669 w_671 w_s_229dc4 w_3 md_60bc9b ⟨Nat.le_of_ble_eq_true rfl, Nat.le_of_ble_eq_true rfl⟩ hG hZ hP hD hS hA 41 (wv_o (ci := 9) (yi_41 hL) (yt_41 hL)) rfl rfl rfl hl.1 rfl (Nat.le_of_ble_eq_true rfl) d_1_31_11 ⟨Nat.le_of_ble_eq_true rfl, Nat.le_of_ble_eq_true rfl⟩ (fun _ H locs hP hD hS => ?_)
    have hP : va_P z.1 classes (wv z ad E M101) H := hP
    have hD : va_D A (wv z ad E M101) := hD
    refine W.eq (g2 := F0 m 14 ls []) rfl ?_
    refine lv_aload_n hx hb d_1_31_14 rfl (lv_at hl 0 rfl) ?_
    refine m_gr (j := 41) (C := "Ballothall") (T := TX11) (N := 14) (ci := 11) (k := 1) hx hb hts iX11 hown hG hP (yi_1 hL) (yt_1 hL) rfl (by decide) w_398 (fun _ h9 => h9) rfl rfl (yr_1_1 hL) d_1_31_15 ?_
    obtain ⟨M102, g102, h⟩ := bd_e h
    refine kVN (As := []) (rest := []) (s_Po_findDistances l z ad E M101 M102 hL g102) hx hb hml hown hts w_713 n_710 w_712 w_s_d32e6f w_3 md_4b14b3 ⟨Nat.le_of_ble_eq_true rfl, Nat.le_of_ble_eq_true rfl⟩ hG hZ hP hD hS hA 41 (wv_o (ci := 9) (yi_41 hL) (yt_41 hL)) rfl rfl rfl hl.1 rfl (Nat.le_of_ble_eq_true rfl) d_1_31_18 ⟨Nat.le_of_ble_eq_true rfl, Nat.le_of_ble_eq_true rfl⟩ (fun _ H locs hP hD hS => ?_)
    have hP : va_P z.1 classes (wv z ad E M102) H := hP
    have hD : va_D A (wv z ad E M102) := hD
    refine W.eq (g2 := F0 m 21 ls []) rfl ?_
    refine lv_aload_n hx hb d_1_31_21 rfl (lv_at hl 0 rfl) ?_
    refine m_gr (j := 41) (C := "Ballothall") (T := TX11) (N := 14) (ci := 11) (k := 1) hx hb hts iX11 hown hG hP (yi_1 hL) (yt_1 hL) rfl (by decide) w_398 (fun _ h9 => h9) rfl rfl (yr_1_1 hL) d_1_31_22 ?_
    refine m_grN (j := 50) (C := "Ballothall$Poll") (T := TX9) (N := 12) (ci := 9) (k := 11) hx hb hts iX9 hown hG hP (yi_41 hL) (yt_41 hL) rfl (by decide) n_119 rfl (fun _ h9 => h9) rfl rfl (yr_41_11 hL) d_1_31_25 ?_
    refine lv_aload_n hx hb d_1_31_28 rfl (lv_at hl 0 rfl) ?_
    refine m_gr (j := 2) (C := "Ballothall") (T := TX11) (N := 14) (ci := 11) (k := 0) hx hb hts iX11 hown hG hP (yi_1 hL) (yt_1 hL) rfl (by decide) w_397 (fun _ h9 => h9) rfl rfl (yr_1_0 hL) d_1_31_29 ?_
    obtain ⟨r103, g103, h⟩ := bd_e h
    refine kVN (As := []) (rest := [.ref (ad 50)]) (s_Bx_everybody l z ad E M102 r103 hL g103) hx hb hml hown hts w_668 n_665 w_667 w_s_8b8b67 w_2 md_b59579 ⟨Nat.le_of_ble_eq_true rfl, Nat.le_of_ble_eq_true rfl⟩ hG hZ hP hD hS hA 2 (wv_o (ci := 0) (yi_2 hL) (yt_2 hL)) rfl rfl rfl hl.1 rfl (Nat.le_of_ble_eq_true rfl) d_1_31_32 ⟨Nat.le_of_ble_eq_true rfl, Nat.le_of_ble_eq_true rfl⟩ (fun _ H locs hP hD hS => ?_)
    have hP : va_P z.1 classes (wv z ad E M102) H := hP
    have hD : va_D A (wv z ad E M102) := hD
    refine W.eq (g2 := F0 m 35 ls [.int (oI r103), .ref (ad 50)]) rfl ?_
    obtain ⟨ok104, h⟩ := ck_e h
    refine m_la hx hb hG hP (yi_50 hL) (yt_50 hL) ok104 d_1_31_35 ?_
    obtain ⟨rfl, rfl⟩ := in2 h
    exact W.lret hx hb hr (fun t ht hW => qkA hP hD hS (fun k => k) rfl rfl ht) hS.2.2 d_1_31_36
  exact key _ _ _ hts hP hS
set_option maxRecDepth 100000 in
set_option maxHeartbeats 4000000 in
theorem b_La_pairs_j64 (l : Launch) (z : Zz) (E0 : Ev) (ad0 : Nat → Nat) (ad : Nat → Nat) (E : Ev) (M : Mm) (q1 : Nat) (q2 : Nat) (x3 : Int) (x4 : Int) (x5 : Int) (y0 : Int) (y1 : Int) (y2 : Nat) (t : Nat) (w3 : Int) (w5 : Int) (F : Ev) (N : Mm) {Q : State → Prop} {p : Program} {e : Env} {s : State} {m : MethodId} {below : List Frame} {meth : Method} {c : Code} {A : Nat → Prop} {args : Array Value} (hx : p.tables.exec = Jvm.exec) (hb : c.code = method_7_code) (hml : c.maxLocals = 12) (hts : ∀ w ∈ WG, w.before args s = true) (hown : s.vm.findClass "BallothallLaw" = some m.cls) (hlocks : meth.locks = false) (hA : ∀ q, s.heap.size ≤ q → A q) (hG : KG z s) (hZ : FZ z A s) (mc ms c0 s0 c1 s1 : Nat) (hc : c0 + 0 ≤ c1) (hs : s0 + 0 ≤ s1) (hm : c1 ≤ mc) (hm2 : s1 ≤ ms) (hag0 : ∀ i, i < nE E0 → ad i = ad0 i) (hE0 : nE E0 ≤ nE E) (h : La_pairs_j64 E M q1 q2 x3 x4 x5 y0 y1 y2 = some (t, w3, w5, F, N)) (k0 : ∀ (ad1 : Nat → Nat), (∀ i, i < nE E0 → ad1 i = ad0 i) → nE E0 ≤ nE F → t = 0 → ∀ (H : Heap) (locs : List Loc) (ls : Array Slot), va_P z.1 classes (wv z ad1 F N) H → va_D A (wv z ad1 F N) → va_S A s.heap H locs → lv_has ls 12 [(0, .ref (ad1 1)), (1, .ref (ad1 q1)), (2, .ref (ad1 q2)), (3, .int (oI w3)), (4, .int (oI x4)), (5, .int (oI w5))] → W p l e (rmK 5 144 mc ms) s m args below meth c H locs c1 s1 Q (F0 m 30 ls [])) (k1 : ∀ (ad1 : Nat → Nat), (∀ i, i < nE E0 → ad1 i = ad0 i) → nE E0 ≤ nE F → t = 1 → ∀ (H : Heap) (locs : List Loc) (ls : Array Slot), va_P z.1 classes (wv z ad1 F N) H → va_D A (wv z ad1 F N) → va_S A s.heap H locs → lv_has ls 12 [(0, .ref (ad1 1)), (1, .ref (ad1 q1)), (2, .ref (ad1 q2)), (3, .int (oI w3)), (4, .int (oI x4))] → W p l e (rmK 5 144 mc ms) s m args below meth c H locs c1 s1 Q (F0 m 99 ls [])) : ∀ (H : Heap) (locs : List Loc) (ls : Array Slot), va_P z.1 classes (wv z ad E M) H → va_D A (wv z ad E M) → va_S A s.heap H locs → lv_has ls 12 [(0, .ref (ad 1)), (1, .ref (ad q1)), (2, .ref (ad q2)), (3, .int (oI x3)), (4, .int (oI x4)), (5, .int (oI x5))] → W p l e (rmK 5 144 mc ms) s m args below meth c H locs c0 s0 Q (F0 m 64 ls [.int (oI y0), .int (oI y1), .ref (ad y2)]) := by
  intro H locs ls hP hD hS hl
  unfold La_pairs_j64 at h
  obtain ⟨hL, h⟩ := ck_e h
  obtain ⟨h_q1, h⟩ := ck_e h
  obtain ⟨h_q2, h⟩ := ck_e h
  obtain ⟨h_y2, h⟩ := ck_e h
  obtain ⟨ok110, h⟩ := ck_e h
  refine m_is hx hb hG hP hD hS h_y2.1 (isIA_T h_y2) ok110 d_L7_64 (fun H locs hP hD hS => ?_)
  have hP : va_P z.1 classes (wv z ad E (u2 M y2 y1.toNat y0)) H := hP
  have hD : va_D A (wv z ad E (u2 M y2 y1.toNat y0)) := hD
  refine lv_iload_n hx hb d_L7_65 rfl (lv_at hl 3 rfl) ?_
  obtain ⟨ok111, h⟩ := ck_e h
  refine lv_if_eq (tgt := 91) hx hb d_L7_66 (by decide) (fun c9 => ?_) (fun c9 => ?_)
  · have h := ite_t ((oI_eq0 ok111).mp c9) h
    refine lv_iconst (v := oI 0) hx hb d_L7_91 (by decide +kernel) ?_
    refine lv_istore_n (lv' := [(3, .int (oI 0)), (0, .ref (ad 1)), (1, .ref (ad q1)), (2, .ref (ad q2)), (4, .int (oI x4)), (5, .int (oI x5))]) hx hb d_L7_92 rfl hl (by decide) rfl (fun ls hl => ?_)
    refine lv_iinc (v := oI (x5 + 1)) (lv' := [(5, .int (oI (x5 + 1))), (3, .int (oI 0)), (0, .ref (ad 1)), (1, .ref (ad q1)), (2, .ref (ad q2)), (4, .int (oI x4))]) hx hb d_L7_93 hl (k := 5) rfl (oI_add x5 1) (by decide) rfl (fun ls hl => ?_)
    refine lv_goto (tgt := 30) hx hb d_L7_96 (by decide) ?_
    obtain ⟨rfl, rfl, rfl, rfl, rfl⟩ := in5 h
    exact W.wide (by omega) (by omega) (k0 ad hag0 hE0 rfl H locs ls hP hD hS (lv_sub hl [2, 3, 4, 1, 5, 0] rfl))
  · have h := ite_f (fun q => c9 ((oI_eq0 ok111).mpr q)) h
    refine lv_aload_n hx hb d_L7_69 rfl (lv_at hl 0 rfl) ?_
    refine lv_iload hx hb d_L7_70 (lv_at hl 4 rfl) ?_
    refine lv_iload hx hb d_L7_72 (lv_at hl 5 rfl) ?_
    obtain ⟨⟨r112, M112⟩, g112, h⟩ := bd_e h
    refine kV (As := [.int (oI x4), .int (oI x5)]) (rest := []) (s_B_ahead l z ad E (u2 M y2 y1.toNat y0) x4 x5 r112 M112 hL g112) hx hb hml hown hts w_1308 w_1305 w_1306 w_1307 w_1 md_c1a91d ⟨Nat.le_of_ble_eq_true rfl, Nat.le_of_ble_eq_true rfl⟩ hG hZ hP hD hS hA 1 (wv_o (ci := 11) (yi_1 hL) (yt_1 hL)) rfl rfl rfl hl.1 rfl (Nat.le_of_ble_eq_true rfl) d_L7_74 ⟨(show _ ≤ mc by omega), (show _ ≤ ms by omega)⟩ (fun _ H locs hP hD hS => ?_)
    have hP : va_P z.1 classes (wv z ad E M112) H := hP
    have hD : va_D A (wv z ad E M112) := hD
    refine W.eq (g2 := F0 m 77 ls [.int (oI r112)]) rfl ?_
    refine lv_aload_n hx hb d_L7_77 rfl (lv_at hl 2 rfl) ?_
    refine lv_iload hx hb d_L7_78 (lv_at hl 4 rfl) ?_
    obtain ⟨ok113, h⟩ := ck_e h
    obtain ⟨p114, g114, h⟩ := bd_e h
    obtain ⟨h_p114, h⟩ := ck_e h
    refine m_ar (k := p114) hx hb hG hP h_q2.1 (isQ_T h_q2) ok113 g114 d_L7_80 ?_
    refine lv_iload hx hb d_L7_81 (lv_at hl 5 rfl) ?_
    obtain ⟨ok115, h⟩ := ck_e h
    refine m_ia hx hb hG hP h_p114.1 (isIA_T h_p114) ok115 d_L7_83 ?_
    obtain ⟨ok116, h⟩ := ck_e h
    obtain ⟨ok117, h⟩ := ck_e h
    refine lv_icmp_ne (tgt := 91) hx hb d_L7_84 (by decide) (fun c9 => ?_) (fun c9 => ?_)
    · have h := ite_f (fun q => c9 ((oI_eq (a := r112) (b := (M112 p114 x5.toNat)) ok116 ok117).mpr q)) h
      refine lv_iconst (v := oI 0) hx hb d_L7_91 (by decide +kernel) ?_
      refine lv_istore_n (lv' := [(3, .int (oI 0)), (0, .ref (ad 1)), (1, .ref (ad q1)), (2, .ref (ad q2)), (4, .int (oI x4)), (5, .int (oI x5))]) hx hb d_L7_92 rfl hl (by decide) rfl (fun ls hl => ?_)
      refine lv_iinc (v := oI (x5 + 1)) (lv' := [(5, .int (oI (x5 + 1))), (3, .int (oI 0)), (0, .ref (ad 1)), (1, .ref (ad q1)), (2, .ref (ad q2)), (4, .int (oI x4))]) hx hb d_L7_93 hl (k := 5) rfl (oI_add x5 1) (by decide) rfl (fun ls hl => ?_)
      refine lv_goto (tgt := 30) hx hb d_L7_96 (by decide) ?_
      obtain ⟨rfl, rfl, rfl, rfl, rfl⟩ := in5 h
      exact W.wide (by omega) (by omega) (k0 ad hag0 hE0 rfl H locs ls hP hD hS (lv_sub hl [2, 3, 4, 1, 5, 0] rfl))
    · have h := ite_t ((oI_eq (a := r112) (b := (M112 p114 x5.toNat)) ok116 ok117).mp c9) h
      refine lv_iconst (v := oI 1) hx hb d_L7_87 (by decide +kernel) ?_
      refine lv_goto (tgt := 92) hx hb d_L7_88 (by decide) ?_
      refine lv_istore_n (lv' := [(3, .int (oI 1)), (0, .ref (ad 1)), (1, .ref (ad q1)), (2, .ref (ad q2)), (4, .int (oI x4)), (5, .int (oI x5))]) hx hb d_L7_92 rfl hl (by decide) rfl (fun ls hl => ?_)
      refine lv_iinc (v := oI (x5 + 1)) (lv' := [(5, .int (oI (x5 + 1))), (3, .int (oI 1)), (0, .ref (ad 1)), (1, .ref (ad q1)), (2, .ref (ad q2)), (4, .int (oI x4))]) hx hb d_L7_93 hl (k := 5) rfl (oI_add x5 1) (by decide) rfl (fun ls hl => ?_)
      refine lv_goto (tgt := 30) hx hb d_L7_96 (by decide) ?_
      obtain ⟨rfl, rfl, rfl, rfl, rfl⟩ := in5 h
      exact W.wide (by omega) (by omega) (k0 ad hag0 hE0 rfl H locs ls hP hD hS (lv_sub hl [2, 3, 4, 1, 5, 0] rfl))
set_option maxRecDepth 100000 in
set_option maxHeartbeats 4000000 in
theorem b_La_pairs_30b (l : Launch) (z : Zz) (E0 : Ev) (ad0 : Nat → Nat) (ad : Nat → Nat) (E : Ev) (M : Mm) (q1 : Nat) (q2 : Nat) (x4 : Int) (x3 : Int) (x5 : Int) (t : Nat) (w3 : Int) (w5 : Int) (F : Ev) (N : Mm) {Q : State → Prop} {p : Program} {e : Env} {s : State} {m : MethodId} {below : List Frame} {meth : Method} {c : Code} {A : Nat → Prop} {args : Array Value} (hx : p.tables.exec = Jvm.exec) (hb : c.code = method_7_code) (hml : c.maxLocals = 12) (hts : ∀ w ∈ WG, w.before args s = true) (hown : s.vm.findClass "BallothallLaw" = some m.cls) (hlocks : meth.locks = false) (hA : ∀ q, s.heap.size ≤ q → A q) (hG : KG z s) (hZ : FZ z A s) (mc ms c0 s0 c1 s1 : Nat) (hc : c0 + 0 ≤ c1) (hs : s0 + 0 ≤ s1) (hm : c1 ≤ mc) (hm2 : s1 ≤ ms) (hag0 : ∀ i, i < nE E0 → ad i = ad0 i) (hE0 : nE E0 ≤ nE E) (h : La_pairs_30b E M q1 q2 x4 x3 x5 = some (t, w3, w5, F, N)) (k0 : ∀ (ad1 : Nat → Nat), (∀ i, i < nE E0 → ad1 i = ad0 i) → nE E0 ≤ nE F → t = 0 → ∀ (H : Heap) (locs : List Loc) (ls : Array Slot), va_P z.1 classes (wv z ad1 F N) H → va_D A (wv z ad1 F N) → va_S A s.heap H locs → lv_has ls 12 [(0, .ref (ad1 1)), (1, .ref (ad1 q1)), (2, .ref (ad1 q2)), (3, .int (oI w3)), (4, .int (oI x4)), (5, .int (oI w5))] → W p l e (rmK 5 144 mc ms) s m args below meth c H locs c1 s1 Q (F0 m 30 ls [])) (k1 : ∀ (ad1 : Nat → Nat), (∀ i, i < nE E0 → ad1 i = ad0 i) → nE E0 ≤ nE F → t = 1 → ∀ (H : Heap) (locs : List Loc) (ls : Array Slot), va_P z.1 classes (wv z ad1 F N) H → va_D A (wv z ad1 F N) → va_S A s.heap H locs → lv_has ls 12 [(0, .ref (ad1 1)), (1, .ref (ad1 q1)), (2, .ref (ad1 q2)), (3, .int (oI w3)), (4, .int (oI x4))] → W p l e (rmK 5 144 mc ms) s m args below meth c H locs c1 s1 Q (F0 m 99 ls [])) : ∀ (H : Heap) (locs : List Loc) (ls : Array Slot), va_P z.1 classes (wv z ad E M) H → va_D A (wv z ad E M) → va_S A s.heap H locs → lv_has ls 12 [(0, .ref (ad 1)), (1, .ref (ad q1)), (2, .ref (ad q2)), (3, .int (oI x3)), (4, .int (oI x4)), (5, .int (oI x5))] → W p l e (rmK 5 144 mc ms) s m args below meth c H locs c0 s0 Q (F0 m 30 ls []) := by
  intro H locs ls hP hD hS hl
  unfold La_pairs_30b at h
  obtain ⟨hL, h⟩ := ck_e h
  obtain ⟨h_q1, h⟩ := ck_e h
  obtain ⟨h_q2, h⟩ := ck_e h
  refine lv_iload hx hb d_L7_30 (lv_at hl 5 rfl) ?_
  refine lv_aload_n hx hb d_L7_32 rfl (lv_at hl 1 rfl) ?_
  refine m_giN (C := "BallothallLaw$Box") (T := TX12) (N := 4) (ci := 12) (k := 0) hx hb hts iX12 hown hG hP h_q1.1 h_q1.2 rfl (by decide) n_775 rfl (fun _ h9 => h9) rfl rfl d_L7_33 ?_
  obtain ⟨ok105, h⟩ := ck_e h
  obtain ⟨ok106, h⟩ := ck_e h
  refine lv_icmp_ge (tgt := 99) hx hb d_L7_36 (by decide) (fun c9 => ?_) (fun c9 => ?_)
  · have h := ite_t ((oI_le (a := (M q1 0)) (b := x5) ok106 ok105).mp c9) h
    obtain ⟨rfl, rfl, rfl, rfl, rfl⟩ := in5 h
    exact W.wide (by omega) (by omega) (k1 ad hag0 hE0 rfl H locs ls hP hD hS (lv_sub hl [0, 1, 2, 3, 4] rfl))
  · have h := ite_f (fun q => c9 ((oI_le (a := (M q1 0)) (b := x5) ok106 ok105).mpr q)) h
    refine lv_aload_n hx hb d_L7_39 rfl (lv_at hl 2 rfl) ?_
    refine lv_iload hx hb d_L7_40 (lv_at hl 4 rfl) ?_
    obtain ⟨ok107, h⟩ := ck_e h
    obtain ⟨p108, g108, h⟩ := bd_e h
    obtain ⟨h_p108, h⟩ := ck_e h
    refine m_ar (k := p108) hx hb hG hP h_q2.1 (isQ_T h_q2) ok107 g108 d_L7_42 ?_
    refine lv_iload hx hb d_L7_43 (lv_at hl 5 rfl) ?_
    refine lv_iload hx hb d_L7_45 (lv_at hl 4 rfl) ?_
    refine lv_iload hx hb d_L7_47 (lv_at hl 5 rfl) ?_
    refine lv_icmp_ne (tgt := 56) hx hb d_L7_49 (by decide) (fun c9 => ?_) (fun c9 => ?_)
    · have h := ite_f (fun q => c9 ((oI_eq (a := x4) (b := x5) (inb_rg ok107) ok105).mpr q)) h
      refine lv_aload_n hx hb d_L7_56 rfl (lv_at hl 1 rfl) ?_
      refine lv_iload hx hb d_L7_57 (lv_at hl 4 rfl) ?_
      refine lv_iload hx hb d_L7_59 (lv_at hl 5 rfl) ?_
      obtain ⟨r109, g109, h⟩ := bd_e h
      refine kV (As := [.int (oI x4), .int (oI x5)]) (rest := [.int (oI x5), .ref (ad p108)]) (s_Lb_ahead l z ad E M q1 x4 x5 r109 hL g109) hx hb hml hown hts w_1304 w_1301 w_1302 w_1303 w_12 md_8e4222 ⟨Nat.le_of_ble_eq_true rfl, Nat.le_of_ble_eq_true rfl⟩ hG hZ hP hD hS hA q1 (wv_o (ci := 12) h_q1.1 h_q1.2) rfl rfl rfl hl.1 rfl (Nat.le_of_ble_eq_true rfl) d_L7_61 ⟨(show _ ≤ mc by omega), (show _ ≤ ms by omega)⟩ (fun _ H locs hP hD hS => ?_)
      have hP : va_P z.1 classes (wv z ad E M) H := hP
      have hD : va_D A (wv z ad E M) := hD
      refine W.eq (g2 := F0 m 64 ls [.int (oI r109), .int (oI x5), .ref (ad p108)]) rfl ?_
      exact b_La_pairs_j64 l z E0 ad0 ad E M q1 q2 x3 x4 x5 r109 x5 p108 t w3 w5 F N hx hb hml hts hown hlocks hA hG hZ mc ms _ _ c1 s1 (by omega) (by omega) hm hm2 hag0 hE0 h k0 k1 H locs ls hP hD hS (lv_sub hl [0, 1, 2, 3, 4, 5] rfl)
    · have h := ite_t ((oI_eq (a := x4) (b := x5) (inb_rg ok107) ok105).mp c9) h
      refine lv_iconst (v := oI 0) hx hb d_L7_52 (by decide +kernel) ?_
      refine lv_goto (tgt := 64) hx hb d_L7_53 (by decide) ?_
      exact b_La_pairs_j64 l z E0 ad0 ad E M q1 q2 x3 x4 x5 0 x5 p108 t w3 w5 F N hx hb hml hts hown hlocks hA hG hZ mc ms _ _ c1 s1 (by omega) (by omega) hm hm2 hag0 hE0 h k0 k1 H locs ls hP hD hS (lv_sub hl [0, 1, 2, 3, 4, 5] rfl)
set_option maxRecDepth 100000 in
set_option maxHeartbeats 4000000 in
theorem s_La_pairs_30 (l : Launch) (z : Zz) (E0 : Ev) (ad0 : Nat → Nat) (q1 : Nat) (q2 : Nat) (x4 : Int) {Q : State → Prop} {p : Program} {e : Env} {s : State} {m : MethodId} {below : List Frame} {meth : Method} {c : Code} {A : Nat → Prop} {args : Array Value} (hx : p.tables.exec = Jvm.exec) (hb : c.code = method_7_code) (hml : c.maxLocals = 12) (hts : ∀ w ∈ WG, w.before args s = true) (hown : s.vm.findClass "BallothallLaw" = some m.cls) (hlocks : meth.locks = false) (hA : ∀ q, s.heap.size ≤ q → A q) (hG : KG z s) (hZ : FZ z A s) (mc ms c1 s1 : Nat) (hm : c1 ≤ mc) (hm2 : s1 ≤ ms) : ∀ (fu c0 s0 : Nat) (ad : Nat → Nat) (E : Ev) (M : Mm) (x3 : Int) (x5 : Int) (t : Nat) (w3 : Int) (w5 : Int) (F : Ev) (N : Mm), c0 + fu * 0 ≤ c1 → s0 + fu * 0 ≤ s1 → (∀ i, i < nE E0 → ad i = ad0 i) → nE E0 ≤ nE E → l_La_pairs_30 q1 q2 x4 fu E M x3 x5 = some (t, w3, w5, F, N) → (∀ (ad1 : Nat → Nat), (∀ i, i < nE E0 → ad1 i = ad0 i) → nE E0 ≤ nE F → t = 1 → ∀ (H : Heap) (locs : List Loc) (ls : Array Slot), va_P z.1 classes (wv z ad1 F N) H → va_D A (wv z ad1 F N) → va_S A s.heap H locs → lv_has ls 12 [(0, .ref (ad1 1)), (1, .ref (ad1 q1)), (2, .ref (ad1 q2)), (3, .int (oI w3)), (4, .int (oI x4))] → W p l e (rmK 5 144 mc ms) s m args below meth c H locs c1 s1 Q (F0 m 99 ls [])) → ∀ (H : Heap) (locs : List Loc) (ls : Array Slot), va_P z.1 classes (wv z ad E M) H → va_D A (wv z ad E M) → va_S A s.heap H locs → lv_has ls 12 [(0, .ref (ad 1)), (1, .ref (ad q1)), (2, .ref (ad q2)), (3, .int (oI x3)), (4, .int (oI x4)), (5, .int (oI x5))] → W p l e (rmK 5 144 mc ms) s m args below meth c H locs c0 s0 Q (F0 m 30 ls []) := by
  intro fu
  induction fu with
  | zero =>
    intro c0 s0 ad E M x3 x5 t w3 w5 F N hc hs hag0 hE0 h
    have h : (none : Option (Nat × Int × Int × Ev × Mm)) = some _ := h
    cases h
  | succ fu ih =>
    intro c0 s0 ad E M x3 x5 t w3 w5 F N hc hs hag0 hE0 h k1 H locs ls hP hD hS hl
    obtain ⟨⟨t0, w30, w50, F9, N9⟩, g0, h⟩ := bd_e h
    refine W.wide (Nat.le_refl _) (Nat.le_refl _) (b_La_pairs_30b l z E0 ad0 ad E M q1 q2 x4 x3 x5 t0 w30 w50 F9 N9 hx hb hml hts hown hlocks hA hG hZ mc ms c0 s0 (c0 + 0) (s0 + 0) (Nat.le_refl _) (Nat.le_refl _) (by omega) (by omega) hag0 hE0 g0 (fun ad1 ha he e0 => ?_) (fun ad1 ha he e0 => ?_) H locs ls hP hD hS hl)
    · subst e0
      have h := ite_t rfl h
      exact ih (c0 + 0) (s0 + 0) ad1 F9 N9 w30 w50 t w3 w5 F N (by omega) (by omega) ha he h k1
    · subst e0
      have h := ite_f (by decide) h
      obtain ⟨rfl, rfl, rfl, rfl, rfl⟩ := in5 h
      exact fun H locs ls hP hD hS hl => W.wide (by omega) (by omega) (k1 ad1 ha he rfl H locs ls hP hD hS hl)
set_option maxRecDepth 100000 in
set_option maxHeartbeats 4000000 in
theorem b_La_pairs_18b (l : Launch) (z : Zz) (E0 : Ev) (ad0 : Nat → Nat) (ad : Nat → Nat) (E : Ev) (M : Mm) (q1 : Nat) (q2 : Nat) (x3 : Int) (x4 : Int) (t : Nat) (w3 : Int) (w4 : Int) (F : Ev) (N : Mm) {Q : State → Prop} {p : Program} {e : Env} {s : State} {m : MethodId} {below : List Frame} {meth : Method} {c : Code} {A : Nat → Prop} {args : Array Value} (hx : p.tables.exec = Jvm.exec) (hb : c.code = method_7_code) (hml : c.maxLocals = 12) (hts : ∀ w ∈ WG, w.before args s = true) (hown : s.vm.findClass "BallothallLaw" = some m.cls) (hlocks : meth.locks = false) (hA : ∀ q, s.heap.size ≤ q → A q) (hG : KG z s) (hZ : FZ z A s) (mc ms c0 s0 c1 s1 : Nat) (hc : c0 + 0 ≤ c1) (hs : s0 + 0 ≤ s1) (hm : c1 ≤ mc) (hm2 : s1 ≤ ms) (hag0 : ∀ i, i < nE E0 → ad i = ad0 i) (hE0 : nE E0 ≤ nE E) (h : La_pairs_18b E M q1 q2 x3 x4 = some (t, w3, w4, F, N)) (k0 : ∀ (ad1 : Nat → Nat), (∀ i, i < nE E0 → ad1 i = ad0 i) → nE E0 ≤ nE F → t = 0 → ∀ (H : Heap) (locs : List Loc) (ls : Array Slot), va_P z.1 classes (wv z ad1 F N) H → va_D A (wv z ad1 F N) → va_S A s.heap H locs → lv_has ls 12 [(0, .ref (ad1 1)), (1, .ref (ad1 q1)), (2, .ref (ad1 q2)), (3, .int (oI w3)), (4, .int (oI w4))] → W p l e (rmK 5 144 mc ms) s m args below meth c H locs c1 s1 Q (F0 m 18 ls [])) (k1 : ∀ (ad1 : Nat → Nat), (∀ i, i < nE E0 → ad1 i = ad0 i) → nE E0 ≤ nE F → t = 1 → ∀ (H : Heap) (locs : List Loc) (ls : Array Slot), va_P z.1 classes (wv z ad1 F N) H → va_D A (wv z ad1 F N) → va_S A s.heap H locs → lv_has ls 12 [(0, .ref (ad1 1)), (1, .ref (ad1 q1)), (2, .ref (ad1 q2)), (3, .int (oI w3))] → W p l e (rmK 5 144 mc ms) s m args below meth c H locs c1 s1 Q (F0 m 105 ls [])) : ∀ (H : Heap) (locs : List Loc) (ls : Array Slot), va_P z.1 classes (wv z ad E M) H → va_D A (wv z ad E M) → va_S A s.heap H locs → lv_has ls 12 [(0, .ref (ad 1)), (1, .ref (ad q1)), (2, .ref (ad q2)), (3, .int (oI x3)), (4, .int (oI x4))] → W p l e (rmK 5 144 mc ms) s m args below meth c H locs c0 s0 Q (F0 m 18 ls []) := by
  intro H locs ls hP hD hS hl
  unfold La_pairs_18b at h
  obtain ⟨hL, h⟩ := ck_e h
  obtain ⟨h_q1, h⟩ := ck_e h
  obtain ⟨h_q2, h⟩ := ck_e h
  refine lv_iload hx hb d_L7_18 (lv_at hl 4 rfl) ?_
  refine lv_aload_n hx hb d_L7_20 rfl (lv_at hl 1 rfl) ?_
  refine m_giN (C := "BallothallLaw$Box") (T := TX12) (N := 4) (ci := 12) (k := 0) hx hb hts iX12 hown hG hP h_q1.1 h_q1.2 rfl (by decide) n_775 rfl (fun _ h9 => h9) rfl rfl d_L7_21 ?_
  obtain ⟨ok103, h⟩ := ck_e h
  obtain ⟨ok104, h⟩ := ck_e h
  refine lv_icmp_ge (tgt := 105) hx hb d_L7_24 (by decide) (fun c9 => ?_) (fun c9 => ?_)
  · have h := ite_t ((oI_le (a := (M q1 0)) (b := x4) ok104 ok103).mp c9) h
    obtain ⟨rfl, rfl, rfl, rfl, rfl⟩ := in5 h
    exact W.wide (by omega) (by omega) (k1 ad hag0 hE0 rfl H locs ls hP hD hS (lv_sub hl [0, 1, 2, 3] rfl))
  · have h := ite_f (fun q => c9 ((oI_le (a := (M q1 0)) (b := x4) ok104 ok103).mpr q)) h
    refine lv_iconst (v := oI 0) hx hb d_L7_27 (by decide +kernel) ?_
    refine lv_istore (lv' := [(5, .int (oI 0)), (0, .ref (ad 1)), (1, .ref (ad q1)), (2, .ref (ad q2)), (3, .int (oI x3)), (4, .int (oI x4))]) hx hb d_L7_28 hl (by decide) rfl (fun ls hl => ?_)
    obtain ⟨⟨t118, v118_3, v118_5, E118, M118⟩, g118, h⟩ := bd_e h
    obtain ⟨hgw118, h⟩ := ck_e h
    obtain ⟨hL118, h⟩ := ck_e h
    obtain ⟨ok118, h⟩ := ck_e h
    refine s_La_pairs_30 l z E ad q1 q2 x4 hx hb hml hts hown hlocks hA hG hZ mc ms (c0 + 0) (s0 + 0) (by omega) (by omega) 5000 _ _ ad E M x3 0 t118 v118_3 v118_5 E118 M118 (by omega) (by omega) (fun _ _ => rfl) (Nat.le_refl _) g118 (fun ad118 hag118 hEE118 e118 H locs ls hP hD hS hl => ?_) H locs ls hP hD hS (lv_sub hl [1, 2, 3, 4, 5, 0] rfl)
    have hag0 : ∀ i, i < nE E0 → ad118 i = ad0 i := fun i hi => (hag118 i (Nat.lt_of_lt_of_le hi hE0)).trans (hag0 i hi)
    have hE0 : nE E0 ≤ nE E118 := Nat.le_trans hE0 hgw118.1
    have hL : Lay E118 := hL118
    have h_q1 : isO 12 E118 q1 := isO_up hgw118 h_q1
    have h_q2 : isQ 6 E118 q2 := isA_up hgw118 h_q2
    refine lv_iinc (v := oI (x4 + 1)) (lv' := [(4, .int (oI (x4 + 1))), (0, .ref (ad118 1)), (1, .ref (ad118 q1)), (2, .ref (ad118 q2)), (3, .int (oI v118_3))]) hx hb d_L7_99 hl (k := 4) rfl (oI_add x4 1) (by decide) rfl (fun ls hl => ?_)
    refine lv_goto (tgt := 18) hx hb d_L7_102 (by decide) ?_
    obtain ⟨rfl, rfl, rfl, rfl, rfl⟩ := in5 h
    exact W.wide (by omega) (by omega) (k0 ad118 hag0 hE0 rfl H locs ls hP hD hS (lv_sub hl [1, 2, 3, 4, 0] rfl))
set_option maxRecDepth 100000 in
set_option maxHeartbeats 4000000 in
theorem s_La_pairs_18 (l : Launch) (z : Zz) (E0 : Ev) (ad0 : Nat → Nat) (q1 : Nat) (q2 : Nat) {Q : State → Prop} {p : Program} {e : Env} {s : State} {m : MethodId} {below : List Frame} {meth : Method} {c : Code} {A : Nat → Prop} {args : Array Value} (hx : p.tables.exec = Jvm.exec) (hb : c.code = method_7_code) (hml : c.maxLocals = 12) (hts : ∀ w ∈ WG, w.before args s = true) (hown : s.vm.findClass "BallothallLaw" = some m.cls) (hlocks : meth.locks = false) (hA : ∀ q, s.heap.size ≤ q → A q) (hG : KG z s) (hZ : FZ z A s) (mc ms c1 s1 : Nat) (hm : c1 ≤ mc) (hm2 : s1 ≤ ms) : ∀ (fu c0 s0 : Nat) (ad : Nat → Nat) (E : Ev) (M : Mm) (x3 : Int) (x4 : Int) (t : Nat) (w3 : Int) (w4 : Int) (F : Ev) (N : Mm), c0 + fu * 0 ≤ c1 → s0 + fu * 0 ≤ s1 → (∀ i, i < nE E0 → ad i = ad0 i) → nE E0 ≤ nE E → l_La_pairs_18 q1 q2 fu E M x3 x4 = some (t, w3, w4, F, N) → (∀ (ad1 : Nat → Nat), (∀ i, i < nE E0 → ad1 i = ad0 i) → nE E0 ≤ nE F → t = 1 → ∀ (H : Heap) (locs : List Loc) (ls : Array Slot), va_P z.1 classes (wv z ad1 F N) H → va_D A (wv z ad1 F N) → va_S A s.heap H locs → lv_has ls 12 [(0, .ref (ad1 1)), (1, .ref (ad1 q1)), (2, .ref (ad1 q2)), (3, .int (oI w3))] → W p l e (rmK 5 144 mc ms) s m args below meth c H locs c1 s1 Q (F0 m 105 ls [])) → ∀ (H : Heap) (locs : List Loc) (ls : Array Slot), va_P z.1 classes (wv z ad E M) H → va_D A (wv z ad E M) → va_S A s.heap H locs → lv_has ls 12 [(0, .ref (ad 1)), (1, .ref (ad q1)), (2, .ref (ad q2)), (3, .int (oI x3)), (4, .int (oI x4))] → W p l e (rmK 5 144 mc ms) s m args below meth c H locs c0 s0 Q (F0 m 18 ls []) := by
  intro fu
  induction fu with
  | zero =>
    intro c0 s0 ad E M x3 x4 t w3 w4 F N hc hs hag0 hE0 h
    have h : (none : Option (Nat × Int × Int × Ev × Mm)) = some _ := h
    cases h
  | succ fu ih =>
    intro c0 s0 ad E M x3 x4 t w3 w4 F N hc hs hag0 hE0 h k1 H locs ls hP hD hS hl
    obtain ⟨⟨t0, w30, w40, F9, N9⟩, g0, h⟩ := bd_e h
    refine W.wide (Nat.le_refl _) (Nat.le_refl _) (b_La_pairs_18b l z E0 ad0 ad E M q1 q2 x3 x4 t0 w30 w40 F9 N9 hx hb hml hts hown hlocks hA hG hZ mc ms c0 s0 (c0 + 0) (s0 + 0) (Nat.le_refl _) (Nat.le_refl _) (by omega) (by omega) hag0 hE0 g0 (fun ad1 ha he e0 => ?_) (fun ad1 ha he e0 => ?_) H locs ls hP hD hS hl)
    · subst e0
      have h := ite_t rfl h
      exact ih (c0 + 0) (s0 + 0) ad1 F9 N9 w30 w40 t w3 w4 F N (by omega) (by omega) ha he h k1
    · subst e0
      have h := ite_f (by decide) h
      obtain ⟨rfl, rfl, rfl, rfl, rfl⟩ := in5 h
      exact fun H locs ls hP hD hS hl => W.wide (by omega) (by omega) (k1 ad1 ha he rfl H locs ls hP hD hS hl)
set_option maxRecDepth 100000 in
set_option maxHeartbeats 4000000 in
theorem b_La_pairs_j251 (l : Launch) (z : Zz) (E0 : Ev) (ad0 : Nat → Nat) (ad : Nat → Nat) (E : Ev) (M : Mm) (q1 : Nat) (q2 : Nat) (x3 : Int) (x4 : Int) (x5 : Int) (x6 : Int) (x7 : Int) (x9 : Int) (y0 : Int) (t : Nat) (w3 : Int) (w7 : Int) (w8 : Int) (w9 : Int) (F : Ev) (N : Mm) {Q : State → Prop} {p : Program} {e : Env} {s : State} {m : MethodId} {below : List Frame} {meth : Method} {c : Code} {A : Nat → Prop} {args : Array Value} (hx : p.tables.exec = Jvm.exec) (hb : c.code = method_7_code) (hml : c.maxLocals = 12) (hts : ∀ w ∈ WG, w.before args s = true) (hown : s.vm.findClass "BallothallLaw" = some m.cls) (hlocks : meth.locks = false) (hA : ∀ q, s.heap.size ≤ q → A q) (hG : KG z s) (hZ : FZ z A s) (mc ms c0 s0 c1 s1 : Nat) (hc : c0 + 0 ≤ c1) (hs : s0 + 0 ≤ s1) (hm : c1 ≤ mc) (hm2 : s1 ≤ ms) (hag0 : ∀ i, i < nE E0 → ad i = ad0 i) (hE0 : nE E0 ≤ nE E) (h : La_pairs_j251 E M q1 q2 x3 x4 x5 x6 x7 x9 y0 = some (t, w3, w7, w8, w9, F, N)) (k0 : ∀ (ad1 : Nat → Nat), (∀ i, i < nE E0 → ad1 i = ad0 i) → nE E0 ≤ nE F → t = 0 → ∀ (H : Heap) (locs : List Loc) (ls : Array Slot), va_P z.1 classes (wv z ad1 F N) H → va_D A (wv z ad1 F N) → va_S A s.heap H locs → lv_has ls 12 [(0, .ref (ad1 1)), (1, .ref (ad1 q1)), (2, .ref (ad1 q2)), (3, .int (oI w3)), (4, .int (oI x4)), (5, .int (oI x5)), (6, .int (oI x6)), (7, .int (oI w7)), (8, .int (oI w8)), (9, .int (oI w9))] → W p l e (rmK 5 144 mc ms) s m args below meth c H locs c1 s1 Q (F0 m 135 ls [])) (k1 : ∀ (ad1 : Nat → Nat), (∀ i, i < nE E0 → ad1 i = ad0 i) → nE E0 ≤ nE F → t = 1 → ∀ (H : Heap) (locs : List Loc) (ls : Array Slot), va_P z.1 classes (wv z ad1 F N) H → va_D A (wv z ad1 F N) → va_S A s.heap H locs → lv_has ls 12 [(0, .ref (ad1 1)), (1, .ref (ad1 q1)), (2, .ref (ad1 q2)), (3, .int (oI w3)), (4, .int (oI x4)), (5, .int (oI x5)), (6, .int (oI x6)), (7, .int (oI w7)), (8, .int (oI w8))] → W p l e (rmK 5 144 mc ms) s m args below meth c H locs c1 s1 Q (F0 m 307 ls [])) : ∀ (H : Heap) (locs : List Loc) (ls : Array Slot), va_P z.1 classes (wv z ad E M) H → va_D A (wv z ad E M) → va_S A s.heap H locs → lv_has ls 12 [(0, .ref (ad 1)), (1, .ref (ad q1)), (2, .ref (ad q2)), (3, .int (oI x3)), (4, .int (oI x4)), (5, .int (oI x5)), (6, .int (oI x6)), (7, .int (oI x7)), (9, .int (oI x9))] → W p l e (rmK 5 144 mc ms) s m args below meth c H locs c0 s0 Q (F0 m 251 ls [.int (oI y0)]) := by
  intro H locs ls hP hD hS hl
  unfold La_pairs_j251 at h
  obtain ⟨hL, h⟩ := ck_e h
  obtain ⟨h_q1, h⟩ := ck_e h
  obtain ⟨h_q2, h⟩ := ck_e h
  refine lv_istore (lv' := [(8, .int (oI y0)), (0, .ref (ad 1)), (1, .ref (ad q1)), (2, .ref (ad q2)), (3, .int (oI x3)), (4, .int (oI x4)), (5, .int (oI x5)), (6, .int (oI x6)), (7, .int (oI x7)), (9, .int (oI x9))]) hx hb d_L7_251 hl (by decide) rfl (fun ls hl => ?_)
  refine lv_iload_n hx hb d_L7_253 rfl (lv_at hl 4 rfl) ?_
  obtain ⟨ok136, h⟩ := ck_e h
  refine lv_if_eq (tgt := 299) hx hb d_L7_254 (by decide) (fun c9 => ?_) (fun c9 => ?_)
  · have h := ite_t ((oI_eq0 ok136).mp c9) h
    refine lv_iconst (v := oI 0) hx hb d_L7_299 (by decide +kernel) ?_
    refine lv_istore_n (lv' := [(3, .int (oI 0)), (8, .int (oI y0)), (0, .ref (ad 1)), (1, .ref (ad q1)), (2, .ref (ad q2)), (4, .int (oI x4)), (5, .int (oI x5)), (6, .int (oI x6)), (7, .int (oI x7)), (9, .int (oI x9))]) hx hb d_L7_300 rfl hl (by decide) rfl (fun ls hl => ?_)
    refine lv_iinc (v := oI (x9 + 1)) (lv' := [(9, .int (oI (x9 + 1))), (3, .int (oI 0)), (8, .int (oI y0)), (0, .ref (ad 1)), (1, .ref (ad q1)), (2, .ref (ad q2)), (4, .int (oI x4)), (5, .int (oI x5)), (6, .int (oI x6)), (7, .int (oI x7))]) hx hb d_L7_301 hl (k := 9) rfl (oI_add x9 1) (by decide) rfl (fun ls hl => ?_)
    refine lv_goto (tgt := 135) hx hb d_L7_304 (by decide) ?_
    obtain ⟨rfl, rfl, rfl, rfl, rfl, rfl, rfl⟩ := in7 h
    exact W.wide (by omega) (by omega) (k0 ad hag0 hE0 rfl H locs ls hP hD hS (lv_sub hl [3, 4, 5, 1, 6, 7, 8, 9, 2, 0] rfl))
  · have h := ite_f (fun q => c9 ((oI_eq0 ok136).mpr q)) h
    refine lv_iload hx hb d_L7_257 (lv_at hl 5 rfl) ?_
    refine lv_iload hx hb d_L7_259 (lv_at hl 7 rfl) ?_
    obtain ⟨ok137, h⟩ := ck_e h
    obtain ⟨ok138, h⟩ := ck_e h
    refine lv_ishr hx hb d_L7_261 ?_
    refine nrm (oI_shr (a := x4) ok137 ok138.1 ok138.2) ?_
    refine lv_iconst (v := oI 1) hx hb d_L7_262 (by decide +kernel) ?_
    refine lv_iand hx hb d_L7_263 ?_
    refine nrm (oI_m1 _) ?_
    refine lv_if_eq (tgt := 295) hx hb d_L7_264 (by decide) (fun c9 => ?_) (fun c9 => ?_)
    · have h := ite_t ((oI_eq0 ⟨by omega, by omega⟩).mp c9) h
      refine lv_iconst (v := oI 1) hx hb d_L7_295 (by decide +kernel) ?_
      refine lv_goto (tgt := 300) hx hb d_L7_296 (by decide) ?_
      refine lv_istore_n (lv' := [(3, .int (oI 1)), (8, .int (oI y0)), (0, .ref (ad 1)), (1, .ref (ad q1)), (2, .ref (ad q2)), (4, .int (oI x4)), (5, .int (oI x5)), (6, .int (oI x6)), (7, .int (oI x7)), (9, .int (oI x9))]) hx hb d_L7_300 rfl hl (by decide) rfl (fun ls hl => ?_)
      refine lv_iinc (v := oI (x9 + 1)) (lv' := [(9, .int (oI (x9 + 1))), (3, .int (oI 1)), (8, .int (oI y0)), (0, .ref (ad 1)), (1, .ref (ad q1)), (2, .ref (ad q2)), (4, .int (oI x4)), (5, .int (oI x5)), (6, .int (oI x6)), (7, .int (oI x7))]) hx hb d_L7_301 hl (k := 9) rfl (oI_add x9 1) (by decide) rfl (fun ls hl => ?_)
      refine lv_goto (tgt := 135) hx hb d_L7_304 (by decide) ?_
      obtain ⟨rfl, rfl, rfl, rfl, rfl, rfl, rfl⟩ := in7 h
      exact W.wide (by omega) (by omega) (k0 ad hag0 hE0 rfl H locs ls hP hD hS (lv_sub hl [3, 4, 5, 1, 6, 7, 8, 9, 2, 0] rfl))
    · have h := ite_f (fun q => c9 ((oI_eq0 ⟨by omega, by omega⟩).mpr q)) h
      refine lv_iload hx hb d_L7_267 (lv_at hl 5 rfl) ?_
      refine lv_iload hx hb d_L7_269 (lv_at hl 9 rfl) ?_
      obtain ⟨ok139, h⟩ := ck_e h
      refine lv_ishr hx hb d_L7_271 ?_
      refine nrm (oI_shr (a := x4) ok137 ok139.1 ok139.2) ?_
      refine lv_iconst (v := oI 1) hx hb d_L7_272 (by decide +kernel) ?_
      refine lv_iand hx hb d_L7_273 ?_
      refine nrm (oI_m1 _) ?_
      refine lv_iconst (v := oI 1) hx hb d_L7_274 (by decide +kernel) ?_
      refine lv_icmp_eq (tgt := 295) hx hb d_L7_275 (by decide) (fun c9 => ?_) (fun c9 => ?_)
      · have h := ite_t ((oI_eq (a := ((x4 / 2 ^ x9.toNat) % 2)) (b := (1 : Int)) ⟨by omega, by omega⟩ (by decide)).mp c9) h
        refine lv_iconst (v := oI 1) hx hb d_L7_295 (by decide +kernel) ?_
        refine lv_goto (tgt := 300) hx hb d_L7_296 (by decide) ?_
        refine lv_istore_n (lv' := [(3, .int (oI 1)), (8, .int (oI y0)), (0, .ref (ad 1)), (1, .ref (ad q1)), (2, .ref (ad q2)), (4, .int (oI x4)), (5, .int (oI x5)), (6, .int (oI x6)), (7, .int (oI x7)), (9, .int (oI x9))]) hx hb d_L7_300 rfl hl (by decide) rfl (fun ls hl => ?_)
        refine lv_iinc (v := oI (x9 + 1)) (lv' := [(9, .int (oI (x9 + 1))), (3, .int (oI 1)), (8, .int (oI y0)), (0, .ref (ad 1)), (1, .ref (ad q1)), (2, .ref (ad q2)), (4, .int (oI x4)), (5, .int (oI x5)), (6, .int (oI x6)), (7, .int (oI x7))]) hx hb d_L7_301 hl (k := 9) rfl (oI_add x9 1) (by decide) rfl (fun ls hl => ?_)
        refine lv_goto (tgt := 135) hx hb d_L7_304 (by decide) ?_
        obtain ⟨rfl, rfl, rfl, rfl, rfl, rfl, rfl⟩ := in7 h
        exact W.wide (by omega) (by omega) (k0 ad hag0 hE0 rfl H locs ls hP hD hS (lv_sub hl [3, 4, 5, 1, 6, 7, 8, 9, 2, 0] rfl))
      · have h := ite_f (fun q => c9 ((oI_eq (a := ((x4 / 2 ^ x9.toNat) % 2)) (b := (1 : Int)) ⟨by omega, by omega⟩ (by decide)).mpr q)) h
        refine lv_aload_n hx hb d_L7_278 rfl (lv_at hl 3 rfl) ?_
        refine lv_iload hx hb d_L7_279 (lv_at hl 7 rfl) ?_
        obtain ⟨ok140, h⟩ := ck_e h
        obtain ⟨p141, g141, h⟩ := bd_e h
        obtain ⟨h_p141, h⟩ := ck_e h
        refine m_ar (k := p141) hx hb hG hP h_q2.1 (isQ_T h_q2) ok140 g141 d_L7_281 ?_
        refine lv_iload hx hb d_L7_282 (lv_at hl 9 rfl) ?_
        obtain ⟨ok142, h⟩ := ck_e h
        refine m_ia hx hb hG hP h_p141.1 (isIA_T h_p141) ok142 d_L7_284 ?_
        refine lv_aload_n hx hb d_L7_285 rfl (lv_at hl 3 rfl) ?_
        refine lv_iload hx hb d_L7_286 (lv_at hl 9 rfl) ?_
        obtain ⟨ok143, h⟩ := ck_e h
        obtain ⟨p144, g144, h⟩ := bd_e h
        obtain ⟨h_p144, h⟩ := ck_e h
        refine m_ar (k := p144) hx hb hG hP h_q2.1 (isQ_T h_q2) ok143 g144 d_L7_288 ?_
        refine lv_iload hx hb d_L7_289 (lv_at hl 7 rfl) ?_
        obtain ⟨ok145, h⟩ := ck_e h
        refine m_ia hx hb hG hP h_p144.1 (isIA_T h_p144) ok145 d_L7_291 ?_
        obtain ⟨ok146, h⟩ := ck_e h
        obtain ⟨ok147, h⟩ := ck_e h
        refine lv_icmp_le (tgt := 299) hx hb d_L7_292 (by decide) (fun c9 => ?_) (fun c9 => ?_)
        · have h := ite_t ((oI_le (a := (M p141 x9.toNat)) (b := (M p144 x6.toNat)) ok146 ok147).mp c9) h
          refine lv_iconst (v := oI 0) hx hb d_L7_299 (by decide +kernel) ?_
          refine lv_istore_n (lv' := [(3, .int (oI 0)), (8, .int (oI y0)), (0, .ref (ad 1)), (1, .ref (ad q1)), (2, .ref (ad q2)), (4, .int (oI x4)), (5, .int (oI x5)), (6, .int (oI x6)), (7, .int (oI x7)), (9, .int (oI x9))]) hx hb d_L7_300 rfl hl (by decide) rfl (fun ls hl => ?_)
          refine lv_iinc (v := oI (x9 + 1)) (lv' := [(9, .int (oI (x9 + 1))), (3, .int (oI 0)), (8, .int (oI y0)), (0, .ref (ad 1)), (1, .ref (ad q1)), (2, .ref (ad q2)), (4, .int (oI x4)), (5, .int (oI x5)), (6, .int (oI x6)), (7, .int (oI x7))]) hx hb d_L7_301 hl (k := 9) rfl (oI_add x9 1) (by decide) rfl (fun ls hl => ?_)
          refine lv_goto (tgt := 135) hx hb d_L7_304 (by decide) ?_
          obtain ⟨rfl, rfl, rfl, rfl, rfl, rfl, rfl⟩ := in7 h
          exact W.wide (by omega) (by omega) (k0 ad hag0 hE0 rfl H locs ls hP hD hS (lv_sub hl [3, 4, 5, 1, 6, 7, 8, 9, 2, 0] rfl))
        · have h := ite_f (fun q => c9 ((oI_le (a := (M p141 x9.toNat)) (b := (M p144 x6.toNat)) ok146 ok147).mpr q)) h
          refine lv_iconst (v := oI 1) hx hb d_L7_295 (by decide +kernel) ?_
          refine lv_goto (tgt := 300) hx hb d_L7_296 (by decide) ?_
          refine lv_istore_n (lv' := [(3, .int (oI 1)), (8, .int (oI y0)), (0, .ref (ad 1)), (1, .ref (ad q1)), (2, .ref (ad q2)), (4, .int (oI x4)), (5, .int (oI x5)), (6, .int (oI x6)), (7, .int (oI x7)), (9, .int (oI x9))]) hx hb d_L7_300 rfl hl (by decide) rfl (fun ls hl => ?_)
          refine lv_iinc (v := oI (x9 + 1)) (lv' := [(9, .int (oI (x9 + 1))), (3, .int (oI 1)), (8, .int (oI y0)), (0, .ref (ad 1)), (1, .ref (ad q1)), (2, .ref (ad q2)), (4, .int (oI x4)), (5, .int (oI x5)), (6, .int (oI x6)), (7, .int (oI x7))]) hx hb d_L7_301 hl (k := 9) rfl (oI_add x9 1) (by decide) rfl (fun ls hl => ?_)
          refine lv_goto (tgt := 135) hx hb d_L7_304 (by decide) ?_
          obtain ⟨rfl, rfl, rfl, rfl, rfl, rfl, rfl⟩ := in7 h
          exact W.wide (by omega) (by omega) (k0 ad hag0 hE0 rfl H locs ls hP hD hS (lv_sub hl [3, 4, 5, 1, 6, 7, 8, 9, 2, 0] rfl))
set_option maxRecDepth 100000 in
set_option maxHeartbeats 4000000 in
theorem b_La_pairs_j222 (l : Launch) (z : Zz) (E0 : Ev) (ad0 : Nat → Nat) (ad : Nat → Nat) (E : Ev) (M : Mm) (q1 : Nat) (q2 : Nat) (x3 : Int) (x4 : Int) (x5 : Int) (x6 : Int) (x8 : Int) (x9 : Int) (y0 : Int) (t : Nat) (w3 : Int) (w7 : Int) (w8 : Int) (w9 : Int) (F : Ev) (N : Mm) {Q : State → Prop} {p : Program} {e : Env} {s : State} {m : MethodId} {below : List Frame} {meth : Method} {c : Code} {A : Nat → Prop} {args : Array Value} (hx : p.tables.exec = Jvm.exec) (hb : c.code = method_7_code) (hml : c.maxLocals = 12) (hts : ∀ w ∈ WG, w.before args s = true) (hown : s.vm.findClass "BallothallLaw" = some m.cls) (hlocks : meth.locks = false) (hA : ∀ q, s.heap.size ≤ q → A q) (hG : KG z s) (hZ : FZ z A s) (mc ms c0 s0 c1 s1 : Nat) (hc : c0 + 0 ≤ c1) (hs : s0 + 0 ≤ s1) (hm : c1 ≤ mc) (hm2 : s1 ≤ ms) (hag0 : ∀ i, i < nE E0 → ad i = ad0 i) (hE0 : nE E0 ≤ nE E) (h : La_pairs_j222 E M q1 q2 x3 x4 x5 x6 x8 x9 y0 = some (t, w3, w7, w8, w9, F, N)) (k0 : ∀ (ad1 : Nat → Nat), (∀ i, i < nE E0 → ad1 i = ad0 i) → nE E0 ≤ nE F → t = 0 → ∀ (H : Heap) (locs : List Loc) (ls : Array Slot), va_P z.1 classes (wv z ad1 F N) H → va_D A (wv z ad1 F N) → va_S A s.heap H locs → lv_has ls 12 [(0, .ref (ad1 1)), (1, .ref (ad1 q1)), (2, .ref (ad1 q2)), (3, .int (oI w3)), (4, .int (oI x4)), (5, .int (oI x5)), (6, .int (oI x6)), (7, .int (oI w7)), (8, .int (oI w8)), (9, .int (oI w9))] → W p l e (rmK 5 144 mc ms) s m args below meth c H locs c1 s1 Q (F0 m 135 ls [])) (k1 : ∀ (ad1 : Nat → Nat), (∀ i, i < nE E0 → ad1 i = ad0 i) → nE E0 ≤ nE F → t = 1 → ∀ (H : Heap) (locs : List Loc) (ls : Array Slot), va_P z.1 classes (wv z ad1 F N) H → va_D A (wv z ad1 F N) → va_S A s.heap H locs → lv_has ls 12 [(0, .ref (ad1 1)), (1, .ref (ad1 q1)), (2, .ref (ad1 q2)), (3, .int (oI w3)), (4, .int (oI x4)), (5, .int (oI x5)), (6, .int (oI x6)), (7, .int (oI w7)), (8, .int (oI w8))] → W p l e (rmK 5 144 mc ms) s m args below meth c H locs c1 s1 Q (F0 m 307 ls [])) : ∀ (H : Heap) (locs : List Loc) (ls : Array Slot), va_P z.1 classes (wv z ad E M) H → va_D A (wv z ad E M) → va_S A s.heap H locs → lv_has ls 12 [(0, .ref (ad 1)), (1, .ref (ad q1)), (2, .ref (ad q2)), (3, .int (oI x3)), (4, .int (oI x4)), (5, .int (oI x5)), (6, .int (oI x6)), (8, .int (oI x8)), (9, .int (oI x9))] → W p l e (rmK 5 144 mc ms) s m args below meth c H locs c0 s0 Q (F0 m 222 ls [.int (oI y0)]) := by
  intro H locs ls hP hD hS hl
  unfold La_pairs_j222 at h
  obtain ⟨hL, h⟩ := ck_e h
  obtain ⟨h_q1, h⟩ := ck_e h
  obtain ⟨h_q2, h⟩ := ck_e h
  refine lv_istore (lv' := [(7, .int (oI y0)), (0, .ref (ad 1)), (1, .ref (ad q1)), (2, .ref (ad q2)), (3, .int (oI x3)), (4, .int (oI x4)), (5, .int (oI x5)), (6, .int (oI x6)), (8, .int (oI x8)), (9, .int (oI x9))]) hx hb d_L7_222 hl (by decide) rfl (fun ls hl => ?_)
  refine lv_iload hx hb d_L7_224 (lv_at hl 8 rfl) ?_
  obtain ⟨ok135, h⟩ := ck_e h
  refine lv_if_eq (tgt := 250) hx hb d_L7_226 (by decide) (fun c9 => ?_) (fun c9 => ?_)
  · have h := ite_t ((oI_eq0 ok135).mp c9) h
    refine lv_iconst (v := oI 0) hx hb d_L7_250 (by decide +kernel) ?_
    exact b_La_pairs_j251 l z E0 ad0 ad E M q1 q2 x3 x4 x5 x6 y0 x9 0 t w3 w7 w8 w9 F N hx hb hml hts hown hlocks hA hG hZ mc ms _ _ c1 s1 (by omega) (by omega) hm hm2 hag0 hE0 h k0 k1 H locs ls hP hD hS (lv_sub hl [1, 2, 3, 4, 5, 6, 7, 0, 9] rfl)
  · have h := ite_f (fun q => c9 ((oI_eq0 ok135).mpr q)) h
    refine lv_aload_n hx hb d_L7_229 rfl (lv_at hl 3 rfl) ?_
    refine lv_iload hx hb d_L7_230 (lv_at hl 7 rfl) ?_
    obtain ⟨ok148, h⟩ := ck_e h
    obtain ⟨p149, g149, h⟩ := bd_e h
    obtain ⟨h_p149, h⟩ := ck_e h
    refine m_ar (k := p149) hx hb hG hP h_q2.1 (isQ_T h_q2) ok148 g149 d_L7_232 ?_
    refine lv_iload hx hb d_L7_233 (lv_at hl 9 rfl) ?_
    obtain ⟨ok150, h⟩ := ck_e h
    refine m_ia hx hb hG hP h_p149.1 (isIA_T h_p149) ok150 d_L7_235 ?_
    refine lv_aload_n hx hb d_L7_236 rfl (lv_at hl 3 rfl) ?_
    refine lv_iload hx hb d_L7_237 (lv_at hl 9 rfl) ?_
    obtain ⟨ok151, h⟩ := ck_e h
    obtain ⟨p152, g152, h⟩ := bd_e h
    obtain ⟨h_p152, h⟩ := ck_e h
    refine m_ar (k := p152) hx hb hG hP h_q2.1 (isQ_T h_q2) ok151 g152 d_L7_239 ?_
    refine lv_iload hx hb d_L7_240 (lv_at hl 7 rfl) ?_
    obtain ⟨ok153, h⟩ := ck_e h
    refine m_ia hx hb hG hP h_p152.1 (isIA_T h_p152) ok153 d_L7_242 ?_
    obtain ⟨ok154, h⟩ := ck_e h
    obtain ⟨ok155, h⟩ := ck_e h
    refine lv_icmp_le (tgt := 250) hx hb d_L7_243 (by decide) (fun c9 => ?_) (fun c9 => ?_)
    · have h := ite_t ((oI_le (a := (M p149 x9.toNat)) (b := (M p152 x6.toNat)) ok154 ok155).mp c9) h
      refine lv_iconst (v := oI 0) hx hb d_L7_250 (by decide +kernel) ?_
      exact b_La_pairs_j251 l z E0 ad0 ad E M q1 q2 x3 x4 x5 x6 y0 x9 0 t w3 w7 w8 w9 F N hx hb hml hts hown hlocks hA hG hZ mc ms _ _ c1 s1 (by omega) (by omega) hm hm2 hag0 hE0 h k0 k1 H locs ls hP hD hS (lv_sub hl [1, 2, 3, 4, 5, 6, 7, 0, 9] rfl)
    · have h := ite_f (fun q => c9 ((oI_le (a := (M p149 x9.toNat)) (b := (M p152 x6.toNat)) ok154 ok155).mpr q)) h
      refine lv_iconst (v := oI 1) hx hb d_L7_246 (by decide +kernel) ?_
      refine lv_goto (tgt := 251) hx hb d_L7_247 (by decide) ?_
      exact b_La_pairs_j251 l z E0 ad0 ad E M q1 q2 x3 x4 x5 x6 y0 x9 1 t w3 w7 w8 w9 F N hx hb hml hts hown hlocks hA hG hZ mc ms _ _ c1 s1 (by omega) (by omega) hm hm2 hag0 hE0 h k0 k1 H locs ls hP hD hS (lv_sub hl [1, 2, 3, 4, 5, 6, 7, 0, 9] rfl)
set_option maxRecDepth 100000 in
set_option maxHeartbeats 4000000 in
theorem b_La_pairs_j204 (l : Launch) (z : Zz) (E0 : Ev) (ad0 : Nat → Nat) (ad : Nat → Nat) (E : Ev) (M : Mm) (q1 : Nat) (q2 : Nat) (x4 : Int) (x5 : Int) (x6 : Int) (x7 : Int) (x8 : Int) (x9 : Int) (x10 : Int) (x11 : Int) (y0 : Int) (t : Nat) (w3 : Int) (w7 : Int) (w8 : Int) (w9 : Int) (F : Ev) (N : Mm) {Q : State → Prop} {p : Program} {e : Env} {s : State} {m : MethodId} {below : List Frame} {meth : Method} {c : Code} {A : Nat → Prop} {args : Array Value} (hx : p.tables.exec = Jvm.exec) (hb : c.code = method_7_code) (hml : c.maxLocals = 12) (hts : ∀ w ∈ WG, w.before args s = true) (hown : s.vm.findClass "BallothallLaw" = some m.cls) (hlocks : meth.locks = false) (hA : ∀ q, s.heap.size ≤ q → A q) (hG : KG z s) (hZ : FZ z A s) (mc ms c0 s0 c1 s1 : Nat) (hc : c0 + 0 ≤ c1) (hs : s0 + 0 ≤ s1) (hm : c1 ≤ mc) (hm2 : s1 ≤ ms) (hag0 : ∀ i, i < nE E0 → ad i = ad0 i) (hE0 : nE E0 ≤ nE E) (h : La_pairs_j204 E M q1 q2 x4 x5 x6 x7 x8 x9 x10 x11 y0 = some (t, w3, w7, w8, w9, F, N)) (k0 : ∀ (ad1 : Nat → Nat), (∀ i, i < nE E0 → ad1 i = ad0 i) → nE E0 ≤ nE F → t = 0 → ∀ (H : Heap) (locs : List Loc) (ls : Array Slot), va_P z.1 classes (wv z ad1 F N) H → va_D A (wv z ad1 F N) → va_S A s.heap H locs → lv_has ls 12 [(0, .ref (ad1 1)), (1, .ref (ad1 q1)), (2, .ref (ad1 q2)), (3, .int (oI w3)), (4, .int (oI x4)), (5, .int (oI x5)), (6, .int (oI x6)), (7, .int (oI w7)), (8, .int (oI w8)), (9, .int (oI w9))] → W p l e (rmK 5 144 mc ms) s m args below meth c H locs c1 s1 Q (F0 m 135 ls [])) (k1 : ∀ (ad1 : Nat → Nat), (∀ i, i < nE E0 → ad1 i = ad0 i) → nE E0 ≤ nE F → t = 1 → ∀ (H : Heap) (locs : List Loc) (ls : Array Slot), va_P z.1 classes (wv z ad1 F N) H → va_D A (wv z ad1 F N) → va_S A s.heap H locs → lv_has ls 12 [(0, .ref (ad1 1)), (1, .ref (ad1 q1)), (2, .ref (ad1 q2)), (3, .int (oI w3)), (4, .int (oI x4)), (5, .int (oI x5)), (6, .int (oI x6)), (7, .int (oI w7)), (8, .int (oI w8))] → W p l e (rmK 5 144 mc ms) s m args below meth c H locs c1 s1 Q (F0 m 307 ls [])) : ∀ (H : Heap) (locs : List Loc) (ls : Array Slot), va_P z.1 classes (wv z ad E M) H → va_D A (wv z ad E M) → va_S A s.heap H locs → lv_has ls 12 [(0, .ref (ad 1)), (1, .ref (ad q1)), (2, .ref (ad q2)), (4, .int (oI x4)), (5, .int (oI x5)), (6, .int (oI x6)), (7, .int (oI x7)), (8, .int (oI x8)), (9, .int (oI x9)), (10, .int (oI x10)), (11, .int (oI x11))] → W p l e (rmK 5 144 mc ms) s m args below meth c H locs c0 s0 Q (F0 m 204 ls [.int (oI y0)]) := by
  intro H locs ls hP hD hS hl
  unfold La_pairs_j204 at h
  obtain ⟨hL, h⟩ := ck_e h
  obtain ⟨h_q1, h⟩ := ck_e h
  obtain ⟨h_q2, h⟩ := ck_e h
  refine lv_istore_n (lv' := [(3, .int (oI y0)), (0, .ref (ad 1)), (1, .ref (ad q1)), (2, .ref (ad q2)), (4, .int (oI x4)), (5, .int (oI x5)), (6, .int (oI x6)), (7, .int (oI x7)), (8, .int (oI x8)), (9, .int (oI x9)), (10, .int (oI x10)), (11, .int (oI x11))]) hx hb d_L7_204 rfl hl (by decide) rfl (fun ls hl => ?_)
  refine lv_iload hx hb d_L7_205 (lv_at hl 7 rfl) ?_
  obtain ⟨ok134, h⟩ := ck_e h
  refine lv_if_eq (tgt := 221) hx hb d_L7_207 (by decide) (fun c9 => ?_) (fun c9 => ?_)
  · have h := ite_t ((oI_eq0 ok134).mp c9) h
    refine lv_iconst (v := oI 0) hx hb d_L7_221 (by decide +kernel) ?_
    exact b_La_pairs_j222 l z E0 ad0 ad E M q1 q2 y0 x4 x5 x6 x8 x9 0 t w3 w7 w8 w9 F N hx hb hml hts hown hlocks hA hG hZ mc ms _ _ c1 s1 (by omega) (by omega) hm hm2 hag0 hE0 h k0 k1 H locs ls hP hD hS (lv_sub hl [1, 2, 3, 0, 4, 5, 6, 8, 9] rfl)
  · have h := ite_f (fun q => c9 ((oI_eq0 ok134).mpr q)) h
    refine lv_iload hx hb d_L7_210 (lv_at hl 10 rfl) ?_
    refine lv_iload hx hb d_L7_212 (lv_at hl 11 rfl) ?_
    obtain ⟨ok156, h⟩ := ck_e h
    obtain ⟨ok157, h⟩ := ck_e h
    refine lv_icmp_lt (tgt := 221) hx hb d_L7_214 (by decide) (fun c9 => ?_) (fun c9 => ?_)
    · have h := ite_t ((oI_lt (a := x10) (b := x11) ok156 ok157).mp c9) h
      refine lv_iconst (v := oI 0) hx hb d_L7_221 (by decide +kernel) ?_
      exact b_La_pairs_j222 l z E0 ad0 ad E M q1 q2 y0 x4 x5 x6 x8 x9 0 t w3 w7 w8 w9 F N hx hb hml hts hown hlocks hA hG hZ mc ms _ _ c1 s1 (by omega) (by omega) hm hm2 hag0 hE0 h k0 k1 H locs ls hP hD hS (lv_sub hl [1, 2, 3, 0, 4, 5, 6, 8, 9] rfl)
    · have h := ite_f (fun q => c9 ((oI_lt (a := x10) (b := x11) ok156 ok157).mpr q)) h
      refine lv_iconst (v := oI 1) hx hb d_L7_217 (by decide +kernel) ?_
      refine lv_goto (tgt := 222) hx hb d_L7_218 (by decide) ?_
      exact b_La_pairs_j222 l z E0 ad0 ad E M q1 q2 y0 x4 x5 x6 x8 x9 1 t w3 w7 w8 w9 F N hx hb hml hts hown hlocks hA hG hZ mc ms _ _ c1 s1 (by omega) (by omega) hm hm2 hag0 hE0 h k0 k1 H locs ls hP hD hS (lv_sub hl [1, 2, 3, 0, 4, 5, 6, 8, 9] rfl)
set_option maxRecDepth 100000 in
set_option maxHeartbeats 4000000 in
theorem b_La_pairs_135b (l : Launch) (z : Zz) (E0 : Ev) (ad0 : Nat → Nat) (ad : Nat → Nat) (E : Ev) (M : Mm) (q1 : Nat) (q2 : Nat) (x4 : Int) (x5 : Int) (x6 : Int) (x3 : Int) (x7 : Int) (x8 : Int) (x9 : Int) (t : Nat) (w3 : Int) (w7 : Int) (w8 : Int) (w9 : Int) (F : Ev) (N : Mm) {Q : State → Prop} {p : Program} {e : Env} {s : State} {m : MethodId} {below : List Frame} {meth : Method} {c : Code} {A : Nat → Prop} {args : Array Value} (hx : p.tables.exec = Jvm.exec) (hb : c.code = method_7_code) (hml : c.maxLocals = 12) (hts : ∀ w ∈ WG, w.before args s = true) (hown : s.vm.findClass "BallothallLaw" = some m.cls) (hlocks : meth.locks = false) (hA : ∀ q, s.heap.size ≤ q → A q) (hG : KG z s) (hZ : FZ z A s) (mc ms c0 s0 c1 s1 : Nat) (hc : c0 + 0 ≤ c1) (hs : s0 + 0 ≤ s1) (hm : c1 ≤ mc) (hm2 : s1 ≤ ms) (hag0 : ∀ i, i < nE E0 → ad i = ad0 i) (hE0 : nE E0 ≤ nE E) (h : La_pairs_135b E M q1 q2 x4 x5 x6 x3 x7 x8 x9 = some (t, w3, w7, w8, w9, F, N)) (k0 : ∀ (ad1 : Nat → Nat), (∀ i, i < nE E0 → ad1 i = ad0 i) → nE E0 ≤ nE F → t = 0 → ∀ (H : Heap) (locs : List Loc) (ls : Array Slot), va_P z.1 classes (wv z ad1 F N) H → va_D A (wv z ad1 F N) → va_S A s.heap H locs → lv_has ls 12 [(0, .ref (ad1 1)), (1, .ref (ad1 q1)), (2, .ref (ad1 q2)), (3, .int (oI w3)), (4, .int (oI x4)), (5, .int (oI x5)), (6, .int (oI x6)), (7, .int (oI w7)), (8, .int (oI w8)), (9, .int (oI w9))] → W p l e (rmK 5 144 mc ms) s m args below meth c H locs c1 s1 Q (F0 m 135 ls [])) (k1 : ∀ (ad1 : Nat → Nat), (∀ i, i < nE E0 → ad1 i = ad0 i) → nE E0 ≤ nE F → t = 1 → ∀ (H : Heap) (locs : List Loc) (ls : Array Slot), va_P z.1 classes (wv z ad1 F N) H → va_D A (wv z ad1 F N) → va_S A s.heap H locs → lv_has ls 12 [(0, .ref (ad1 1)), (1, .ref (ad1 q1)), (2, .ref (ad1 q2)), (3, .int (oI w3)), (4, .int (oI x4)), (5, .int (oI x5)), (6, .int (oI x6)), (7, .int (oI w7)), (8, .int (oI w8))] → W p l e (rmK 5 144 mc ms) s m args below meth c H locs c1 s1 Q (F0 m 307 ls [])) : ∀ (H : Heap) (locs : List Loc) (ls : Array Slot), va_P z.1 classes (wv z ad E M) H → va_D A (wv z ad E M) → va_S A s.heap H locs → lv_has ls 12 [(0, .ref (ad 1)), (1, .ref (ad q1)), (2, .ref (ad q2)), (3, .int (oI x3)), (4, .int (oI x4)), (5, .int (oI x5)), (6, .int (oI x6)), (7, .int (oI x7)), (8, .int (oI x8)), (9, .int (oI x9))] → W p l e (rmK 5 144 mc ms) s m args below meth c H locs c0 s0 Q (F0 m 135 ls []) := by
  intro H locs ls hP hD hS hl
  unfold La_pairs_135b at h
  obtain ⟨hL, h⟩ := ck_e h
  obtain ⟨h_q1, h⟩ := ck_e h
  obtain ⟨h_q2, h⟩ := ck_e h
  refine lv_iload hx hb d_L7_135 (lv_at hl 9 rfl) ?_
  refine lv_aload_n hx hb d_L7_137 rfl (lv_at hl 1 rfl) ?_
  refine m_giN (C := "BallothallLaw$Box") (T := TX12) (N := 4) (ci := 12) (k := 0) hx hb hts iX12 hown hG hP h_q1.1 h_q1.2 rfl (by decide) n_775 rfl (fun _ h9 => h9) rfl rfl d_L7_138 ?_
  obtain ⟨ok123, h⟩ := ck_e h
  obtain ⟨ok124, h⟩ := ck_e h
  refine lv_icmp_ge (tgt := 307) hx hb d_L7_141 (by decide) (fun c9 => ?_) (fun c9 => ?_)
  · have h := ite_t ((oI_le (a := (M q1 0)) (b := x9) ok124 ok123).mp c9) h
    obtain ⟨rfl, rfl, rfl, rfl, rfl, rfl, rfl⟩ := in7 h
    exact W.wide (by omega) (by omega) (k1 ad hag0 hE0 rfl H locs ls hP hD hS (lv_sub hl [0, 1, 2, 3, 4, 5, 6, 7, 8] rfl))
  · have h := ite_f (fun q => c9 ((oI_le (a := (M q1 0)) (b := x9) ok124 ok123).mpr q)) h
    refine lv_iload_n hx hb d_L7_144 rfl (lv_at hl 3 rfl) ?_
    obtain ⟨ok125, h⟩ := ck_e h
    refine lv_if_eq (tgt := 307) hx hb d_L7_145 (by decide) (fun c9 => ?_) (fun c9 => ?_)
    · have h := ite_t ((oI_eq0 ok125).mp c9) h
      obtain ⟨rfl, rfl, rfl, rfl, rfl, rfl, rfl⟩ := in7 h
      exact W.wide (by omega) (by omega) (k1 ad hag0 hE0 rfl H locs ls hP hD hS (lv_sub hl [0, 1, 2, 3, 4, 5, 6, 7, 8] rfl))
    · have h := ite_f (fun q => c9 ((oI_eq0 ok125).mpr q)) h
      refine lv_iload hx hb d_L7_148 (lv_at hl 6 rfl) ?_
      refine lv_iload hx hb d_L7_150 (lv_at hl 9 rfl) ?_
      obtain ⟨ok126, h⟩ := ck_e h
      refine lv_icmp_ne (tgt := 158) hx hb d_L7_152 (by decide) (fun c9 => ?_) (fun c9 => ?_)
      · have h := ite_f (fun q => c9 ((oI_eq (a := x6) (b := x9) ok126 ok123).mpr q)) h
        refine lv_aload_n hx hb d_L7_158 rfl (lv_at hl 2 rfl) ?_
        refine lv_iload hx hb d_L7_159 (lv_at hl 6 rfl) ?_
        refine lv_iload hx hb d_L7_161 (lv_at hl 9 rfl) ?_
        refine lv_iconst (v := oI 1) hx hb d_L7_163 (by decide +kernel) ?_
        refine lv_iload hx hb d_L7_164 (lv_at hl 6 rfl) ?_
        obtain ⟨ok127, h⟩ := ck_e h
        refine lv_ishl hx hb d_L7_166 ?_
        refine nrm (oI_one_shl ok127) ?_
        obtain ⟨r128, g128, h⟩ := bd_e h
        refine kS (As := [.ref (ad q2), .int (oI x6), .int (oI x9), .int (oI (2 ^ x6.toNat))]) (rest := []) (s_La_way_D3 l z ad E M q2 x6 x9 (2 ^ x6.toNat) r128 hL g128) hx hb hml hown hts w_1325 w_1323 w_1324 w_0 md_500319 ⟨Nat.le_of_ble_eq_true rfl, Nat.le_of_ble_eq_true rfl⟩ hG hZ hP hD hS hA rfl hl.1 rfl (Nat.le_of_ble_eq_true rfl) d_L7_167 ⟨(show _ ≤ mc by omega), (show _ ≤ ms by omega)⟩ (fun _ H locs hP hD hS => ?_)
        have hP : va_P z.1 classes (wv z ad E M) H := hP
        have hD : va_D A (wv z ad E M) := hD
        refine W.eq (g2 := F0 m 170 ls [.int (oI r128)]) rfl ?_
        refine lv_istore (lv' := [(10, .int (oI r128)), (0, .ref (ad 1)), (1, .ref (ad q1)), (2, .ref (ad q2)), (3, .int (oI x3)), (4, .int (oI x4)), (5, .int (oI x5)), (6, .int (oI x6)), (7, .int (oI x7)), (8, .int (oI x8)), (9, .int (oI x9))]) hx hb d_L7_170 hl (by decide) rfl (fun ls hl => ?_)
        refine lv_aload_n hx hb d_L7_172 rfl (lv_at hl 3 rfl) ?_
        refine lv_iload hx hb d_L7_173 (lv_at hl 10 rfl) ?_
        refine lv_iload hx hb d_L7_175 (lv_at hl 7 rfl) ?_
        refine lv_iconst (v := oI 1) hx hb d_L7_177 (by decide +kernel) ?_
        refine lv_iload hx hb d_L7_178 (lv_at hl 10 rfl) ?_
        obtain ⟨ok129, h⟩ := ck_e h
        refine lv_ishl hx hb d_L7_180 ?_
        refine nrm (oI_one_shl ok129) ?_
        obtain ⟨r130, g130, h⟩ := bd_e h
        refine kS (As := [.ref (ad q2), .int (oI x9), .int (oI x6), .int (oI (2 ^ x9.toNat))]) (rest := []) (s_La_way_D3 l z ad E M q2 x9 x6 (2 ^ x9.toNat) r130 hL g130) hx hb hml hown hts w_1325 w_1323 w_1324 w_0 md_500319 ⟨Nat.le_of_ble_eq_true rfl, Nat.le_of_ble_eq_true rfl⟩ hG hZ hP hD hS hA rfl hl.1 rfl (Nat.le_of_ble_eq_true rfl) d_L7_181 ⟨(show _ ≤ mc by omega), (show _ ≤ ms by omega)⟩ (fun _ H locs hP hD hS => ?_)
        have hP : va_P z.1 classes (wv z ad E M) H := hP
        have hD : va_D A (wv z ad E M) := hD
        refine W.eq (g2 := F0 m 184 ls [.int (oI r130)]) rfl ?_
        refine lv_istore (lv' := [(11, .int (oI r130)), (10, .int (oI r128)), (0, .ref (ad 1)), (1, .ref (ad q1)), (2, .ref (ad q2)), (3, .int (oI x3)), (4, .int (oI x4)), (5, .int (oI x5)), (6, .int (oI x6)), (7, .int (oI x7)), (8, .int (oI x8)), (9, .int (oI x9))]) hx hb d_L7_184 hl (by decide) rfl (fun ls hl => ?_)
        refine lv_aload_n hx hb d_L7_186 rfl (lv_at hl 2 rfl) ?_
        refine lv_iload hx hb d_L7_187 (lv_at hl 8 rfl) ?_
        refine lv_iload hx hb d_L7_189 (lv_at hl 11 rfl) ?_
        obtain ⟨⟨r131, M131⟩, g131, h⟩ := bd_e h
        refine kV (As := [.int (oI x6), .int (oI x9)]) (rest := []) (s_B_strongestPath l z ad E M x6 x9 r131 M131 hL g131) hx hb hml hown hts w_1330 w_1327 w_1328 w_1329 w_1 md_8882e3 ⟨Nat.le_of_ble_eq_true rfl, Nat.le_of_ble_eq_true rfl⟩ hG hZ hP hD hS hA 1 (wv_o (ci := 11) (yi_1 hL) (yt_1 hL)) rfl rfl rfl hl.1 rfl (Nat.le_of_ble_eq_true rfl) d_L7_191 ⟨(show _ ≤ mc by omega), (show _ ≤ ms by omega)⟩ (fun _ H locs hP hD hS => ?_)
        have hP : va_P z.1 classes (wv z ad E M131) H := hP
        have hD : va_D A (wv z ad E M131) := hD
        refine W.eq (g2 := F0 m 194 ls [.int (oI r131)]) rfl ?_
        refine lv_iload hx hb d_L7_194 (lv_at hl 1 rfl) ?_
        obtain ⟨ok132, h⟩ := ck_e h
        obtain ⟨ok133, h⟩ := ck_e h
        refine lv_icmp_ne (tgt := 203) hx hb d_L7_196 (by decide) (fun c9 => ?_) (fun c9 => ?_)
        · have h := ite_f (fun q => c9 ((oI_eq (a := r131) (b := r128) ok132 ok133).mpr q)) h
          refine lv_iconst (v := oI 0) hx hb d_L7_203 (by decide +kernel) ?_
          exact b_La_pairs_j204 l z E0 ad0 ad E M131 q1 q2 x4 x5 x6 x7 x8 x9 r128 r130 0 t w3 w7 w8 w9 F N hx hb hml hts hown hlocks hA hG hZ mc ms _ _ c1 s1 (by omega) (by omega) hm hm2 hag0 hE0 h k0 k1 H locs ls hP hD hS (lv_sub hl [2, 3, 4, 6, 7, 8, 9, 10, 11, 1, 0] rfl)
        · have h := ite_t ((oI_eq (a := r131) (b := r128) ok132 ok133).mp c9) h
          refine lv_iconst (v := oI 1) hx hb d_L7_199 (by decide +kernel) ?_
          refine lv_goto (tgt := 204) hx hb d_L7_200 (by decide) ?_
          exact b_La_pairs_j204 l z E0 ad0 ad E M131 q1 q2 x4 x5 x6 x7 x8 x9 r128 r130 1 t w3 w7 w8 w9 F N hx hb hml hts hown hlocks hA hG hZ mc ms _ _ c1 s1 (by omega) (by omega) hm hm2 hag0 hE0 h k0 k1 H locs ls hP hD hS (lv_sub hl [2, 3, 4, 6, 7, 8, 9, 10, 11, 1, 0] rfl)
      · have h := ite_t ((oI_eq (a := x6) (b := x9) ok126 ok123).mp c9) h
        refine lv_goto (tgt := 301) hx hb d_L7_155 (by decide) ?_
        refine lv_iinc (v := oI (x9 + 1)) (lv' := [(9, .int (oI (x9 + 1))), (0, .ref (ad 1)), (1, .ref (ad q1)), (2, .ref (ad q2)), (3, .int (oI x3)), (4, .int (oI x4)), (5, .int (oI x5)), (6, .int (oI x6)), (7, .int (oI x7)), (8, .int (oI x8))]) hx hb d_L7_301 hl (k := 9) rfl (oI_add x9 1) (by decide) rfl (fun ls hl => ?_)
        refine lv_goto (tgt := 135) hx hb d_L7_304 (by decide) ?_
        obtain ⟨rfl, rfl, rfl, rfl, rfl, rfl, rfl⟩ := in7 h
        exact W.wide (by omega) (by omega) (k0 ad hag0 hE0 rfl H locs ls hP hD hS (lv_sub hl [1, 2, 3, 4, 5, 6, 7, 8, 9, 0] rfl))
set_option maxRecDepth 100000 in
set_option maxHeartbeats 4000000 in
theorem s_La_pairs_135 (l : Launch) (z : Zz) (E0 : Ev) (ad0 : Nat → Nat) (q1 : Nat) (q2 : Nat) (x4 : Int) (x5 : Int) (x6 : Int) {Q : State → Prop} {p : Program} {e : Env} {s : State} {m : MethodId} {below : List Frame} {meth : Method} {c : Code} {A : Nat → Prop} {args : Array Value} (hx : p.tables.exec = Jvm.exec) (hb : c.code = method_7_code) (hml : c.maxLocals = 12) (hts : ∀ w ∈ WG, w.before args s = true) (hown : s.vm.findClass "BallothallLaw" = some m.cls) (hlocks : meth.locks = false) (hA : ∀ q, s.heap.size ≤ q → A q) (hG : KG z s) (hZ : FZ z A s) (mc ms c1 s1 : Nat) (hm : c1 ≤ mc) (hm2 : s1 ≤ ms) : ∀ (fu c0 s0 : Nat) (ad : Nat → Nat) (E : Ev) (M : Mm) (x3 : Int) (x7 : Int) (x8 : Int) (x9 : Int) (t : Nat) (w3 : Int) (w7 : Int) (w8 : Int) (w9 : Int) (F : Ev) (N : Mm), c0 + fu * 0 ≤ c1 → s0 + fu * 0 ≤ s1 → (∀ i, i < nE E0 → ad i = ad0 i) → nE E0 ≤ nE E → l_La_pairs_135 q1 q2 x4 x5 x6 fu E M x3 x7 x8 x9 = some (t, w3, w7, w8, w9, F, N) → (∀ (ad1 : Nat → Nat), (∀ i, i < nE E0 → ad1 i = ad0 i) → nE E0 ≤ nE F → t = 1 → ∀ (H : Heap) (locs : List Loc) (ls : Array Slot), va_P z.1 classes (wv z ad1 F N) H → va_D A (wv z ad1 F N) → va_S A s.heap H locs → lv_has ls 12 [(0, .ref (ad1 1)), (1, .ref (ad1 q1)), (2, .ref (ad1 q2)), (3, .int (oI w3)), (4, .int (oI x4)), (5, .int (oI x5)), (6, .int (oI x6)), (7, .int (oI w7)), (8, .int (oI w8))] → W p l e (rmK 5 144 mc ms) s m args below meth c H locs c1 s1 Q (F0 m 307 ls [])) → ∀ (H : Heap) (locs : List Loc) (ls : Array Slot), va_P z.1 classes (wv z ad E M) H → va_D A (wv z ad E M) → va_S A s.heap H locs → lv_has ls 12 [(0, .ref (ad 1)), (1, .ref (ad q1)), (2, .ref (ad q2)), (3, .int (oI x3)), (4, .int (oI x4)), (5, .int (oI x5)), (6, .int (oI x6)), (7, .int (oI x7)), (8, .int (oI x8)), (9, .int (oI x9))] → W p l e (rmK 5 144 mc ms) s m args below meth c H locs c0 s0 Q (F0 m 135 ls []) := by
  intro fu
  induction fu with
  | zero =>
    intro c0 s0 ad E M x3 x7 x8 x9 t w3 w7 w8 w9 F N hc hs hag0 hE0 h
    have h : (none : Option (Nat × Int × Int × Int × Int × Ev × Mm)) = some _ := h
    cases h
  | succ fu ih =>
    intro c0 s0 ad E M x3 x7 x8 x9 t w3 w7 w8 w9 F N hc hs hag0 hE0 h k1 H locs ls hP hD hS hl
    obtain ⟨⟨t0, w30, w70, w80, w90, F9, N9⟩, g0, h⟩ := bd_e h
    refine W.wide (Nat.le_refl _) (Nat.le_refl _) (b_La_pairs_135b l z E0 ad0 ad E M q1 q2 x4 x5 x6 x3 x7 x8 x9 t0 w30 w70 w80 w90 F9 N9 hx hb hml hts hown hlocks hA hG hZ mc ms c0 s0 (c0 + 0) (s0 + 0) (Nat.le_refl _) (Nat.le_refl _) (by omega) (by omega) hag0 hE0 g0 (fun ad1 ha he e0 => ?_) (fun ad1 ha he e0 => ?_) H locs ls hP hD hS hl)
    · subst e0
      have h := ite_t rfl h
      exact ih (c0 + 0) (s0 + 0) ad1 F9 N9 w30 w70 w80 w90 t w3 w7 w8 w9 F N (by omega) (by omega) ha he h k1
    · subst e0
      have h := ite_f (by decide) h
      obtain ⟨rfl, rfl, rfl, rfl, rfl, rfl, rfl⟩ := in7 h
      exact fun H locs ls hP hD hS hl => W.wide (by omega) (by omega) (k1 ad1 ha he rfl H locs ls hP hD hS hl)
set_option maxRecDepth 100000 in
set_option maxHeartbeats 4000000 in
theorem b_La_pairs_j345 (l : Launch) (z : Zz) (E0 : Ev) (ad0 : Nat → Nat) (ad : Nat → Nat) (E : Ev) (M : Mm) (q1 : Nat) (q2 : Nat) (x4 : Int) (x5 : Int) (x6 : Int) (x8 : Int) (y0 : Int) (y1 : Int) (t : Nat) (w3 : Int) (w5 : Int) (w6 : Int) (F : Ev) (N : Mm) {Q : State → Prop} {p : Program} {e : Env} {s : State} {m : MethodId} {below : List Frame} {meth : Method} {c : Code} {A : Nat → Prop} {args : Array Value} (hx : p.tables.exec = Jvm.exec) (hb : c.code = method_7_code) (hml : c.maxLocals = 12) (hts : ∀ w ∈ WG, w.before args s = true) (hown : s.vm.findClass "BallothallLaw" = some m.cls) (hlocks : meth.locks = false) (hA : ∀ q, s.heap.size ≤ q → A q) (hG : KG z s) (hZ : FZ z A s) (mc ms c0 s0 c1 s1 : Nat) (hc : c0 + 0 ≤ c1) (hs : s0 + 0 ≤ s1) (hm : c1 ≤ mc) (hm2 : s1 ≤ ms) (hag0 : ∀ i, i < nE E0 → ad i = ad0 i) (hE0 : nE E0 ≤ nE E) (h : La_pairs_j345 E M q1 q2 x4 x5 x6 x8 y0 y1 = some (t, w3, w5, w6, F, N)) (k0 : ∀ (ad1 : Nat → Nat), (∀ i, i < nE E0 → ad1 i = ad0 i) → nE E0 ≤ nE F → t = 0 → ∀ (H : Heap) (locs : List Loc) (ls : Array Slot), va_P z.1 classes (wv z ad1 F N) H → va_D A (wv z ad1 F N) → va_S A s.heap H locs → lv_has ls 12 [(0, .ref (ad1 1)), (1, .ref (ad1 q1)), (2, .ref (ad1 q2)), (3, .int (oI w3)), (4, .int (oI x4)), (5, .int (oI w5)), (6, .int (oI w6))] → W p l e (rmK 5 144 mc ms) s m args below meth c H locs c1 s1 Q (F0 m 117 ls [])) (k1 : ∀ (ad1 : Nat → Nat), (∀ i, i < nE E0 → ad1 i = ad0 i) → nE E0 ≤ nE F → t = 1 → ∀ (H : Heap) (locs : List Loc) (ls : Array Slot), va_P z.1 classes (wv z ad1 F N) H → va_D A (wv z ad1 F N) → va_S A s.heap H locs → lv_has ls 12 [(0, .ref (ad1 1)), (1, .ref (ad1 q1)), (2, .ref (ad1 q2)), (3, .int (oI w3)), (4, .int (oI x4)), (5, .int (oI w5))] → W p l e (rmK 5 144 mc ms) s m args below meth c H locs c1 s1 Q (F0 m 384 ls [])) : ∀ (H : Heap) (locs : List Loc) (ls : Array Slot), va_P z.1 classes (wv z ad E M) H → va_D A (wv z ad E M) → va_S A s.heap H locs → lv_has ls 12 [(0, .ref (ad 1)), (1, .ref (ad q1)), (2, .ref (ad q2)), (4, .int (oI x4)), (5, .int (oI x5)), (6, .int (oI x6)), (8, .int (oI x8))] → W p l e (rmK 5 144 mc ms) s m args below meth c H locs c0 s0 Q (F0 m 345 ls [.int (oI y0), .int (oI y1)]) := by
  intro H locs ls hP hD hS hl
  unfold La_pairs_j345 at h
  obtain ⟨hL, h⟩ := ck_e h
  obtain ⟨h_q1, h⟩ := ck_e h
  obtain ⟨h_q2, h⟩ := ck_e h
  obtain ⟨ok166, h⟩ := ck_e h
  obtain ⟨ok167, h⟩ := ck_e h
  refine lv_icmp_ne (tgt := 376) hx hb d_L7_345 (by decide) (fun c9 => ?_) (fun c9 => ?_)
  · have h := ite_f (fun q => c9 ((oI_eq (a := y1) (b := y0) ok166 ok167).mpr q)) h
    refine lv_iconst (v := oI 0) hx hb d_L7_376 (by decide +kernel) ?_
    refine lv_istore_n (lv' := [(3, .int (oI 0)), (0, .ref (ad 1)), (1, .ref (ad q1)), (2, .ref (ad q2)), (4, .int (oI x4)), (5, .int (oI x5)), (6, .int (oI x6)), (8, .int (oI x8))]) hx hb d_L7_377 rfl hl (by decide) rfl (fun ls hl => ?_)
    refine lv_iinc (v := oI (x6 + 1)) (lv' := [(6, .int (oI (x6 + 1))), (3, .int (oI 0)), (0, .ref (ad 1)), (1, .ref (ad q1)), (2, .ref (ad q2)), (4, .int (oI x4)), (5, .int (oI x5)), (8, .int (oI x8))]) hx hb d_L7_378 hl (k := 6) rfl (oI_add x6 1) (by decide) rfl (fun ls hl => ?_)
    refine lv_goto (tgt := 117) hx hb d_L7_381 (by decide) ?_
    obtain ⟨rfl, rfl, rfl, rfl, rfl, rfl⟩ := in6 h
    exact W.wide (by omega) (by omega) (k0 ad hag0 hE0 rfl H locs ls hP hD hS (lv_sub hl [2, 3, 4, 1, 5, 6, 0] rfl))
  · have h := ite_t ((oI_eq (a := y1) (b := y0) ok166 ok167).mp c9) h
    refine lv_iload hx hb d_L7_348 (lv_at hl 6 rfl) ?_
    obtain ⟨ok168, h⟩ := ck_e h
    refine lv_if_eq (tgt := 372) hx hb d_L7_350 (by decide) (fun c9 => ?_) (fun c9 => ?_)
    · have h := ite_t ((oI_eq0 ok168).mp c9) h
      refine lv_iconst (v := oI 1) hx hb d_L7_372 (by decide +kernel) ?_
      refine lv_goto (tgt := 377) hx hb d_L7_373 (by decide) ?_
      refine lv_istore_n (lv' := [(3, .int (oI 1)), (0, .ref (ad 1)), (1, .ref (ad q1)), (2, .ref (ad q2)), (4, .int (oI x4)), (5, .int (oI x5)), (6, .int (oI x6)), (8, .int (oI x8))]) hx hb d_L7_377 rfl hl (by decide) rfl (fun ls hl => ?_)
      refine lv_iinc (v := oI (x6 + 1)) (lv' := [(6, .int (oI (x6 + 1))), (3, .int (oI 1)), (0, .ref (ad 1)), (1, .ref (ad q1)), (2, .ref (ad q2)), (4, .int (oI x4)), (5, .int (oI x5)), (8, .int (oI x8))]) hx hb d_L7_378 hl (k := 6) rfl (oI_add x6 1) (by decide) rfl (fun ls hl => ?_)
      refine lv_goto (tgt := 117) hx hb d_L7_381 (by decide) ?_
      obtain ⟨rfl, rfl, rfl, rfl, rfl, rfl⟩ := in6 h
      exact W.wide (by omega) (by omega) (k0 ad hag0 hE0 rfl H locs ls hP hD hS (lv_sub hl [2, 3, 4, 1, 5, 6, 0] rfl))
    · have h := ite_f (fun q => c9 ((oI_eq0 ok168).mpr q)) h
      refine lv_iload hx hb d_L7_353 (lv_at hl 3 rfl) ?_
      refine lv_iconst (v := oI 1) hx hb d_L7_355 (by decide +kernel) ?_
      refine lv_iload hx hb d_L7_356 (lv_at hl 5 rfl) ?_
      obtain ⟨ok169, h⟩ := ck_e h
      refine lv_ishl hx hb d_L7_358 ?_
      refine nrm (oI_one_shl ok169) ?_
      obtain ⟨ok170, h⟩ := ck_e h
      obtain ⟨ok171, h⟩ := ck_e h
      refine lv_icmp_ne (tgt := 376) hx hb d_L7_359 (by decide) (fun c9 => ?_) (fun c9 => ?_)
      · have h := ite_f (fun q => c9 ((oI_eq (a := x4) (b := (2 ^ x6.toNat)) ok170 ok171).mpr q)) h
        refine lv_iconst (v := oI 0) hx hb d_L7_376 (by decide +kernel) ?_
        refine lv_istore_n (lv' := [(3, .int (oI 0)), (0, .ref (ad 1)), (1, .ref (ad q1)), (2, .ref (ad q2)), (4, .int (oI x4)), (5, .int (oI x5)), (6, .int (oI x6)), (8, .int (oI x8))]) hx hb d_L7_377 rfl hl (by decide) rfl (fun ls hl => ?_)
        refine lv_iinc (v := oI (x6 + 1)) (lv' := [(6, .int (oI (x6 + 1))), (3, .int (oI 0)), (0, .ref (ad 1)), (1, .ref (ad q1)), (2, .ref (ad q2)), (4, .int (oI x4)), (5, .int (oI x5)), (8, .int (oI x8))]) hx hb d_L7_378 hl (k := 6) rfl (oI_add x6 1) (by decide) rfl (fun ls hl => ?_)
        refine lv_goto (tgt := 117) hx hb d_L7_381 (by decide) ?_
        obtain ⟨rfl, rfl, rfl, rfl, rfl, rfl⟩ := in6 h
        exact W.wide (by omega) (by omega) (k0 ad hag0 hE0 rfl H locs ls hP hD hS (lv_sub hl [2, 3, 4, 1, 5, 6, 0] rfl))
      · have h := ite_t ((oI_eq (a := x4) (b := (2 ^ x6.toNat)) ok170 ok171).mp c9) h
        refine lv_aload_n hx hb d_L7_362 rfl (lv_at hl 0 rfl) ?_
        refine lv_iconst (v := oI 0) hx hb d_L7_363 (by decide +kernel) ?_
        obtain ⟨⟨r172, M172⟩, g172, h⟩ := bd_e h
        refine kV (As := [.int (oI 0)]) (rest := []) (s_B_consensusAt l z ad E M 0 r172 M172 hL g172) hx hb hml hown hts w_1340 w_1337 w_1338 w_1339 w_1 md_b0ab85 ⟨Nat.le_of_ble_eq_true rfl, Nat.le_of_ble_eq_true rfl⟩ hG hZ hP hD hS hA 1 (wv_o (ci := 11) (yi_1 hL) (yt_1 hL)) rfl rfl rfl hl.1 rfl (Nat.le_of_ble_eq_true rfl) d_L7_364 ⟨(show _ ≤ mc by omega), (show _ ≤ ms by omega)⟩ (fun _ H locs hP hD hS => ?_)
        have hP : va_P z.1 classes (wv z ad E M172) H := hP
        have hD : va_D A (wv z ad E M172) := hD
        refine W.eq (g2 := F0 m 367 ls [.int (oI r172)]) rfl ?_
        refine lv_iload hx hb d_L7_367 (lv_at hl 5 rfl) ?_
        obtain ⟨ok173, h⟩ := ck_e h
        refine lv_icmp_ne (tgt := 376) hx hb d_L7_369 (by decide) (fun c9 => ?_) (fun c9 => ?_)
        · have h := ite_f (fun q => c9 ((oI_eq (a := r172) (b := x6) ok173 ⟨by have := ok169.1; omega, by have := ok169.2; omega⟩).mpr q)) h
          refine lv_iconst (v := oI 0) hx hb d_L7_376 (by decide +kernel) ?_
          refine lv_istore_n (lv' := [(3, .int (oI 0)), (0, .ref (ad 1)), (1, .ref (ad q1)), (2, .ref (ad q2)), (4, .int (oI x4)), (5, .int (oI x5)), (6, .int (oI x6)), (8, .int (oI x8))]) hx hb d_L7_377 rfl hl (by decide) rfl (fun ls hl => ?_)
          refine lv_iinc (v := oI (x6 + 1)) (lv' := [(6, .int (oI (x6 + 1))), (3, .int (oI 0)), (0, .ref (ad 1)), (1, .ref (ad q1)), (2, .ref (ad q2)), (4, .int (oI x4)), (5, .int (oI x5)), (8, .int (oI x8))]) hx hb d_L7_378 hl (k := 6) rfl (oI_add x6 1) (by decide) rfl (fun ls hl => ?_)
          refine lv_goto (tgt := 117) hx hb d_L7_381 (by decide) ?_
          obtain ⟨rfl, rfl, rfl, rfl, rfl, rfl⟩ := in6 h
          exact W.wide (by omega) (by omega) (k0 ad hag0 hE0 rfl H locs ls hP hD hS (lv_sub hl [2, 3, 4, 1, 5, 6, 0] rfl))
        · have h := ite_t ((oI_eq (a := r172) (b := x6) ok173 ⟨by have := ok169.1; omega, by have := ok169.2; omega⟩).mp c9) h
          refine lv_iconst (v := oI 1) hx hb d_L7_372 (by decide +kernel) ?_
          refine lv_goto (tgt := 377) hx hb d_L7_373 (by decide) ?_
          refine lv_istore_n (lv' := [(3, .int (oI 1)), (0, .ref (ad 1)), (1, .ref (ad q1)), (2, .ref (ad q2)), (4, .int (oI x4)), (5, .int (oI x5)), (6, .int (oI x6)), (8, .int (oI x8))]) hx hb d_L7_377 rfl hl (by decide) rfl (fun ls hl => ?_)
          refine lv_iinc (v := oI (x6 + 1)) (lv' := [(6, .int (oI (x6 + 1))), (3, .int (oI 1)), (0, .ref (ad 1)), (1, .ref (ad q1)), (2, .ref (ad q2)), (4, .int (oI x4)), (5, .int (oI x5)), (8, .int (oI x8))]) hx hb d_L7_378 hl (k := 6) rfl (oI_add x6 1) (by decide) rfl (fun ls hl => ?_)
          refine lv_goto (tgt := 117) hx hb d_L7_381 (by decide) ?_
          obtain ⟨rfl, rfl, rfl, rfl, rfl, rfl⟩ := in6 h
          exact W.wide (by omega) (by omega) (k0 ad hag0 hE0 rfl H locs ls hP hD hS (lv_sub hl [2, 3, 4, 1, 5, 6, 0] rfl))
set_option maxRecDepth 100000 in
set_option maxHeartbeats 4000000 in
theorem b_La_pairs_j322 (l : Launch) (z : Zz) (E0 : Ev) (ad0 : Nat → Nat) (ad : Nat → Nat) (E : Ev) (M : Mm) (q1 : Nat) (q2 : Nat) (x3 : Int) (x4 : Int) (x6 : Int) (x8 : Int) (y0 : Int) (y1 : Int) (t : Nat) (w3 : Int) (w5 : Int) (w6 : Int) (F : Ev) (N : Mm) {Q : State → Prop} {p : Program} {e : Env} {s : State} {m : MethodId} {below : List Frame} {meth : Method} {c : Code} {A : Nat → Prop} {args : Array Value} (hx : p.tables.exec = Jvm.exec) (hb : c.code = method_7_code) (hml : c.maxLocals = 12) (hts : ∀ w ∈ WG, w.before args s = true) (hown : s.vm.findClass "BallothallLaw" = some m.cls) (hlocks : meth.locks = false) (hA : ∀ q, s.heap.size ≤ q → A q) (hG : KG z s) (hZ : FZ z A s) (mc ms c0 s0 c1 s1 : Nat) (hc : c0 + 0 ≤ c1) (hs : s0 + 0 ≤ s1) (hm : c1 ≤ mc) (hm2 : s1 ≤ ms) (hag0 : ∀ i, i < nE E0 → ad i = ad0 i) (hE0 : nE E0 ≤ nE E) (h : La_pairs_j322 E M q1 q2 x3 x4 x6 x8 y0 y1 = some (t, w3, w5, w6, F, N)) (k0 : ∀ (ad1 : Nat → Nat), (∀ i, i < nE E0 → ad1 i = ad0 i) → nE E0 ≤ nE F → t = 0 → ∀ (H : Heap) (locs : List Loc) (ls : Array Slot), va_P z.1 classes (wv z ad1 F N) H → va_D A (wv z ad1 F N) → va_S A s.heap H locs → lv_has ls 12 [(0, .ref (ad1 1)), (1, .ref (ad1 q1)), (2, .ref (ad1 q2)), (3, .int (oI w3)), (4, .int (oI x4)), (5, .int (oI w5)), (6, .int (oI w6))] → W p l e (rmK 5 144 mc ms) s m args below meth c H locs c1 s1 Q (F0 m 117 ls [])) (k1 : ∀ (ad1 : Nat → Nat), (∀ i, i < nE E0 → ad1 i = ad0 i) → nE E0 ≤ nE F → t = 1 → ∀ (H : Heap) (locs : List Loc) (ls : Array Slot), va_P z.1 classes (wv z ad1 F N) H → va_D A (wv z ad1 F N) → va_S A s.heap H locs → lv_has ls 12 [(0, .ref (ad1 1)), (1, .ref (ad1 q1)), (2, .ref (ad1 q2)), (3, .int (oI w3)), (4, .int (oI x4)), (5, .int (oI w5))] → W p l e (rmK 5 144 mc ms) s m args below meth c H locs c1 s1 Q (F0 m 384 ls [])) : ∀ (H : Heap) (locs : List Loc) (ls : Array Slot), va_P z.1 classes (wv z ad E M) H → va_D A (wv z ad E M) → va_S A s.heap H locs → lv_has ls 12 [(0, .ref (ad 1)), (1, .ref (ad q1)), (2, .ref (ad q2)), (3, .int (oI x3)), (4, .int (oI x4)), (6, .int (oI x6)), (8, .int (oI x8))] → W p l e (rmK 5 144 mc ms) s m args below meth c H locs c0 s0 Q (F0 m 322 ls [.int (oI y0), .int (oI y1)]) := by
  intro H locs ls hP hD hS hl
  unfold La_pairs_j322 at h
  obtain ⟨hL, h⟩ := ck_e h
  obtain ⟨h_q1, h⟩ := ck_e h
  obtain ⟨h_q2, h⟩ := ck_e h
  obtain ⟨ok160, h⟩ := ck_e h
  obtain ⟨ok161, h⟩ := ck_e h
  refine lv_ior hx hb d_L7_322 ?_
  refine nrm (oI_or (a := y1) (b := y0) ok160.1 ok160.2 ok161.1 ok161.2) ?_
  refine lv_istore (lv' := [(5, .int (oI (orI y1 y0))), (0, .ref (ad 1)), (1, .ref (ad q1)), (2, .ref (ad q2)), (3, .int (oI x3)), (4, .int (oI x4)), (6, .int (oI x6)), (8, .int (oI x8))]) hx hb d_L7_323 hl (by decide) rfl (fun ls hl => ?_)
  refine lv_iload_n hx hb d_L7_325 rfl (lv_at hl 4 rfl) ?_
  obtain ⟨ok162, h⟩ := ck_e h
  refine lv_if_eq (tgt := 376) hx hb d_L7_326 (by decide) (fun c9 => ?_) (fun c9 => ?_)
  · have h := ite_t ((oI_eq0 ok162).mp c9) h
    refine lv_iconst (v := oI 0) hx hb d_L7_376 (by decide +kernel) ?_
    refine lv_istore_n (lv' := [(3, .int (oI 0)), (5, .int (oI (orI y1 y0))), (0, .ref (ad 1)), (1, .ref (ad q1)), (2, .ref (ad q2)), (4, .int (oI x4)), (6, .int (oI x6)), (8, .int (oI x8))]) hx hb d_L7_377 rfl hl (by decide) rfl (fun ls hl => ?_)
    refine lv_iinc (v := oI (x6 + 1)) (lv' := [(6, .int (oI (x6 + 1))), (3, .int (oI 0)), (5, .int (oI (orI y1 y0))), (0, .ref (ad 1)), (1, .ref (ad q1)), (2, .ref (ad q2)), (4, .int (oI x4)), (8, .int (oI x8))]) hx hb d_L7_378 hl (k := 6) rfl (oI_add x6 1) (by decide) rfl (fun ls hl => ?_)
    refine lv_goto (tgt := 117) hx hb d_L7_381 (by decide) ?_
    obtain ⟨rfl, rfl, rfl, rfl, rfl, rfl⟩ := in6 h
    exact W.wide (by omega) (by omega) (k0 ad hag0 hE0 rfl H locs ls hP hD hS (lv_sub hl [3, 4, 5, 1, 6, 2, 0] rfl))
  · have h := ite_f (fun q => c9 ((oI_eq0 ok162).mpr q)) h
    refine lv_iload hx hb d_L7_329 (lv_at hl 7 rfl) ?_
    refine lv_aload_n hx hb d_L7_331 rfl (lv_at hl 1 rfl) ?_
    obtain ⟨⟨r163, M163⟩, g163, h⟩ := bd_e h
    refine kV (As := []) (rest := [.int (oI x8)]) (s_B_beatsAll l z ad E M r163 M163 hL g163) hx hb hml hown hts w_1336 w_1333 w_1334 w_1335 w_1 md_637b91 ⟨Nat.le_of_ble_eq_true rfl, Nat.le_of_ble_eq_true rfl⟩ hG hZ hP hD hS hA 1 (wv_o (ci := 11) (yi_1 hL) (yt_1 hL)) rfl rfl rfl hl.1 rfl (Nat.le_of_ble_eq_true rfl) d_L7_332 ⟨(show _ ≤ mc by omega), (show _ ≤ ms by omega)⟩ (fun _ H locs hP hD hS => ?_)
    have hP : va_P z.1 classes (wv z ad E M163) H := hP
    have hD : va_D A (wv z ad E M163) := hD
    refine W.eq (g2 := F0 m 335 ls [.int (oI r163), .int (oI x8)]) rfl ?_
    refine lv_iload hx hb d_L7_335 (lv_at hl 6 rfl) ?_
    obtain ⟨ok164, h⟩ := ck_e h
    obtain ⟨ok165, h⟩ := ck_e h
    refine lv_icmp_ne (tgt := 344) hx hb d_L7_337 (by decide) (fun c9 => ?_) (fun c9 => ?_)
    · have h := ite_f (fun q => c9 ((oI_eq (a := r163) (b := x6) ok164 ok165).mpr q)) h
      refine lv_iconst (v := oI 0) hx hb d_L7_344 (by decide +kernel) ?_
      exact b_La_pairs_j345 l z E0 ad0 ad E M163 q1 q2 x4 (orI y1 y0) x6 x8 0 x8 t w3 w5 w6 F N hx hb hml hts hown hlocks hA hG hZ mc ms _ _ c1 s1 (by omega) (by omega) hm hm2 hag0 hE0 h k0 k1 H locs ls hP hD hS (lv_sub hl [1, 2, 3, 5, 0, 6, 7] rfl)
    · have h := ite_t ((oI_eq (a := r163) (b := x6) ok164 ok165).mp c9) h
      refine lv_iconst (v := oI 1) hx hb d_L7_340 (by decide +kernel) ?_
      refine lv_goto (tgt := 345) hx hb d_L7_341 (by decide) ?_
      exact b_La_pairs_j345 l z E0 ad0 ad E M163 q1 q2 x4 (orI y1 y0) x6 x8 1 x8 t w3 w5 w6 F N hx hb hml hts hown hlocks hA hG hZ mc ms _ _ c1 s1 (by omega) (by omega) hm hm2 hag0 hE0 h k0 k1 H locs ls hP hD hS (lv_sub hl [1, 2, 3, 5, 0, 6, 7] rfl)
set_option maxRecDepth 100000 in
set_option maxHeartbeats 4000000 in
theorem b_La_pairs_j307 (l : Launch) (z : Zz) (E0 : Ev) (ad0 : Nat → Nat) (ad : Nat → Nat) (E : Ev) (M : Mm) (q1 : Nat) (q2 : Nat) (x3 : Int) (x4 : Int) (x5 : Int) (x6 : Int) (x7 : Int) (x8 : Int) (t : Nat) (w3 : Int) (w5 : Int) (w6 : Int) (F : Ev) (N : Mm) {Q : State → Prop} {p : Program} {e : Env} {s : State} {m : MethodId} {below : List Frame} {meth : Method} {c : Code} {A : Nat → Prop} {args : Array Value} (hx : p.tables.exec = Jvm.exec) (hb : c.code = method_7_code) (hml : c.maxLocals = 12) (hts : ∀ w ∈ WG, w.before args s = true) (hown : s.vm.findClass "BallothallLaw" = some m.cls) (hlocks : meth.locks = false) (hA : ∀ q, s.heap.size ≤ q → A q) (hG : KG z s) (hZ : FZ z A s) (mc ms c0 s0 c1 s1 : Nat) (hc : c0 + 0 ≤ c1) (hs : s0 + 0 ≤ s1) (hm : c1 ≤ mc) (hm2 : s1 ≤ ms) (hag0 : ∀ i, i < nE E0 → ad i = ad0 i) (hE0 : nE E0 ≤ nE E) (h : La_pairs_j307 E M q1 q2 x3 x4 x5 x6 x7 x8 = some (t, w3, w5, w6, F, N)) (k0 : ∀ (ad1 : Nat → Nat), (∀ i, i < nE E0 → ad1 i = ad0 i) → nE E0 ≤ nE F → t = 0 → ∀ (H : Heap) (locs : List Loc) (ls : Array Slot), va_P z.1 classes (wv z ad1 F N) H → va_D A (wv z ad1 F N) → va_S A s.heap H locs → lv_has ls 12 [(0, .ref (ad1 1)), (1, .ref (ad1 q1)), (2, .ref (ad1 q2)), (3, .int (oI w3)), (4, .int (oI x4)), (5, .int (oI w5)), (6, .int (oI w6))] → W p l e (rmK 5 144 mc ms) s m args below meth c H locs c1 s1 Q (F0 m 117 ls [])) (k1 : ∀ (ad1 : Nat → Nat), (∀ i, i < nE E0 → ad1 i = ad0 i) → nE E0 ≤ nE F → t = 1 → ∀ (H : Heap) (locs : List Loc) (ls : Array Slot), va_P z.1 classes (wv z ad1 F N) H → va_D A (wv z ad1 F N) → va_S A s.heap H locs → lv_has ls 12 [(0, .ref (ad1 1)), (1, .ref (ad1 q1)), (2, .ref (ad1 q2)), (3, .int (oI w3)), (4, .int (oI x4)), (5, .int (oI w5))] → W p l e (rmK 5 144 mc ms) s m args below meth c H locs c1 s1 Q (F0 m 384 ls [])) : ∀ (H : Heap) (locs : List Loc) (ls : Array Slot), va_P z.1 classes (wv z ad E M) H → va_D A (wv z ad E M) → va_S A s.heap H locs → lv_has ls 12 [(0, .ref (ad 1)), (1, .ref (ad q1)), (2, .ref (ad q2)), (3, .int (oI x3)), (4, .int (oI x4)), (5, .int (oI x5)), (6, .int (oI x6)), (7, .int (oI x7)), (8, .int (oI x8))] → W p l e (rmK 5 144 mc ms) s m args below meth c H locs c0 s0 Q (F0 m 307 ls []) := by
  intro H locs ls hP hD hS hl
  unfold La_pairs_j307 at h
  obtain ⟨hL, h⟩ := ck_e h
  obtain ⟨h_q1, h⟩ := ck_e h
  obtain ⟨h_q2, h⟩ := ck_e h
  refine lv_iload hx hb d_L7_307 (lv_at hl 5 rfl) ?_
  refine lv_iload hx hb d_L7_309 (lv_at hl 7 rfl) ?_
  obtain ⟨ok159, h⟩ := ck_e h
  refine lv_if_eq (tgt := 321) hx hb d_L7_311 (by decide) (fun c9 => ?_) (fun c9 => ?_)
  · have h := ite_t ((oI_eq0 ok159).mp c9) h
    refine lv_iconst (v := oI 0) hx hb d_L7_321 (by decide +kernel) ?_
    exact b_La_pairs_j322 l z E0 ad0 ad E M q1 q2 x3 x4 x6 x8 0 x5 t w3 w5 w6 F N hx hb hml hts hown hlocks hA hG hZ mc ms _ _ c1 s1 (by omega) (by omega) hm hm2 hag0 hE0 h k0 k1 H locs ls hP hD hS (lv_sub hl [0, 1, 2, 3, 4, 6, 8] rfl)
  · have h := ite_f (fun q => c9 ((oI_eq0 ok159).mpr q)) h
    refine lv_iconst (v := oI 1) hx hb d_L7_314 (by decide +kernel) ?_
    refine lv_iload hx hb d_L7_315 (lv_at hl 6 rfl) ?_
    obtain ⟨ok174, h⟩ := ck_e h
    refine lv_ishl hx hb d_L7_317 ?_
    refine nrm (oI_one_shl ok174) ?_
    refine lv_goto (tgt := 322) hx hb d_L7_318 (by decide) ?_
    exact b_La_pairs_j322 l z E0 ad0 ad E M q1 q2 x3 x4 x6 x8 (2 ^ x6.toNat) x5 t w3 w5 w6 F N hx hb hml hts hown hlocks hA hG hZ mc ms _ _ c1 s1 (by omega) (by omega) hm hm2 hag0 hE0 h k0 k1 H locs ls hP hD hS (lv_sub hl [0, 1, 2, 3, 4, 6, 8] rfl)
set_option maxRecDepth 100000 in
set_option maxHeartbeats 4000000 in
theorem b_La_pairs_117b (l : Launch) (z : Zz) (E0 : Ev) (ad0 : Nat → Nat) (ad : Nat → Nat) (E : Ev) (M : Mm) (q1 : Nat) (q2 : Nat) (x4 : Int) (x3 : Int) (x5 : Int) (x6 : Int) (t : Nat) (w3 : Int) (w5 : Int) (w6 : Int) (F : Ev) (N : Mm) {Q : State → Prop} {p : Program} {e : Env} {s : State} {m : MethodId} {below : List Frame} {meth : Method} {c : Code} {A : Nat → Prop} {args : Array Value} (hx : p.tables.exec = Jvm.exec) (hb : c.code = method_7_code) (hml : c.maxLocals = 12) (hts : ∀ w ∈ WG, w.before args s = true) (hown : s.vm.findClass "BallothallLaw" = some m.cls) (hlocks : meth.locks = false) (hA : ∀ q, s.heap.size ≤ q → A q) (hG : KG z s) (hZ : FZ z A s) (mc ms c0 s0 c1 s1 : Nat) (hc : c0 + 0 ≤ c1) (hs : s0 + 0 ≤ s1) (hm : c1 ≤ mc) (hm2 : s1 ≤ ms) (hag0 : ∀ i, i < nE E0 → ad i = ad0 i) (hE0 : nE E0 ≤ nE E) (h : La_pairs_117b E M q1 q2 x4 x3 x5 x6 = some (t, w3, w5, w6, F, N)) (k0 : ∀ (ad1 : Nat → Nat), (∀ i, i < nE E0 → ad1 i = ad0 i) → nE E0 ≤ nE F → t = 0 → ∀ (H : Heap) (locs : List Loc) (ls : Array Slot), va_P z.1 classes (wv z ad1 F N) H → va_D A (wv z ad1 F N) → va_S A s.heap H locs → lv_has ls 12 [(0, .ref (ad1 1)), (1, .ref (ad1 q1)), (2, .ref (ad1 q2)), (3, .int (oI w3)), (4, .int (oI x4)), (5, .int (oI w5)), (6, .int (oI w6))] → W p l e (rmK 5 144 mc ms) s m args below meth c H locs c1 s1 Q (F0 m 117 ls [])) (k1 : ∀ (ad1 : Nat → Nat), (∀ i, i < nE E0 → ad1 i = ad0 i) → nE E0 ≤ nE F → t = 1 → ∀ (H : Heap) (locs : List Loc) (ls : Array Slot), va_P z.1 classes (wv z ad1 F N) H → va_D A (wv z ad1 F N) → va_S A s.heap H locs → lv_has ls 12 [(0, .ref (ad1 1)), (1, .ref (ad1 q1)), (2, .ref (ad1 q2)), (3, .int (oI w3)), (4, .int (oI x4)), (5, .int (oI w5))] → W p l e (rmK 5 144 mc ms) s m args below meth c H locs c1 s1 Q (F0 m 384 ls [])) : ∀ (H : Heap) (locs : List Loc) (ls : Array Slot), va_P z.1 classes (wv z ad E M) H → va_D A (wv z ad E M) → va_S A s.heap H locs → lv_has ls 12 [(0, .ref (ad 1)), (1, .ref (ad q1)), (2, .ref (ad q2)), (3, .int (oI x3)), (4, .int (oI x4)), (5, .int (oI x5)), (6, .int (oI x6))] → W p l e (rmK 5 144 mc ms) s m args below meth c H locs c0 s0 Q (F0 m 117 ls []) := by
  intro H locs ls hP hD hS hl
  unfold La_pairs_117b at h
  obtain ⟨hL, h⟩ := ck_e h
  obtain ⟨h_q1, h⟩ := ck_e h
  obtain ⟨h_q2, h⟩ := ck_e h
  refine lv_iload hx hb d_L7_117 (lv_at hl 6 rfl) ?_
  refine lv_aload_n hx hb d_L7_119 rfl (lv_at hl 1 rfl) ?_
  refine m_giN (C := "BallothallLaw$Box") (T := TX12) (N := 4) (ci := 12) (k := 0) hx hb hts iX12 hown hG hP h_q1.1 h_q1.2 rfl (by decide) n_775 rfl (fun _ h9 => h9) rfl rfl d_L7_120 ?_
  obtain ⟨ok121, h⟩ := ck_e h
  obtain ⟨ok122, h⟩ := ck_e h
  refine lv_icmp_ge (tgt := 384) hx hb d_L7_123 (by decide) (fun c9 => ?_) (fun c9 => ?_)
  · have h := ite_t ((oI_le (a := (M q1 0)) (b := x6) ok122 ok121).mp c9) h
    obtain ⟨rfl, rfl, rfl, rfl, rfl, rfl⟩ := in6 h
    exact W.wide (by omega) (by omega) (k1 ad hag0 hE0 rfl H locs ls hP hD hS (lv_sub hl [0, 1, 2, 3, 4, 5] rfl))
  · have h := ite_f (fun q => c9 ((oI_le (a := (M q1 0)) (b := x6) ok122 ok121).mpr q)) h
    refine lv_iconst (v := oI 1) hx hb d_L7_126 (by decide +kernel) ?_
    refine lv_istore (lv' := [(7, .int (oI 1)), (0, .ref (ad 1)), (1, .ref (ad q1)), (2, .ref (ad q2)), (3, .int (oI x3)), (4, .int (oI x4)), (5, .int (oI x5)), (6, .int (oI x6))]) hx hb d_L7_127 hl (by decide) rfl (fun ls hl => ?_)
    refine lv_iconst (v := oI 1) hx hb d_L7_129 (by decide +kernel) ?_
    refine lv_istore (lv' := [(8, .int (oI 1)), (7, .int (oI 1)), (0, .ref (ad 1)), (1, .ref (ad q1)), (2, .ref (ad q2)), (3, .int (oI x3)), (4, .int (oI x4)), (5, .int (oI x5)), (6, .int (oI x6))]) hx hb d_L7_130 hl (by decide) rfl (fun ls hl => ?_)
    refine lv_iconst (v := oI 0) hx hb d_L7_132 (by decide +kernel) ?_
    refine lv_istore (lv' := [(9, .int (oI 0)), (8, .int (oI 1)), (7, .int (oI 1)), (0, .ref (ad 1)), (1, .ref (ad q1)), (2, .ref (ad q2)), (3, .int (oI x3)), (4, .int (oI x4)), (5, .int (oI x5)), (6, .int (oI x6))]) hx hb d_L7_133 hl (by decide) rfl (fun ls hl => ?_)
    obtain ⟨⟨t158, v158_3, v158_7, v158_8, v158_9, E158, M158⟩, g158, h⟩ := bd_e h
    obtain ⟨hgw158, h⟩ := ck_e h
    obtain ⟨hL158, h⟩ := ck_e h
    obtain ⟨ok158, h⟩ := ck_e h
    refine s_La_pairs_135 l z E ad q1 q2 x4 x5 x6 hx hb hml hts hown hlocks hA hG hZ mc ms (c0 + 0) (s0 + 0) (by omega) (by omega) 5000 _ _ ad E M x3 1 1 0 t158 v158_3 v158_7 v158_8 v158_9 E158 M158 (by omega) (by omega) (fun _ _ => rfl) (Nat.le_refl _) g158 (fun ad158 hag158 hEE158 e158 H locs ls hP hD hS hl => ?_) H locs ls hP hD hS (lv_sub hl [3, 4, 5, 6, 7, 8, 9, 2, 1, 0] rfl)
    have hag0 : ∀ i, i < nE E0 → ad158 i = ad0 i := fun i hi => (hag158 i (Nat.lt_of_lt_of_le hi hE0)).trans (hag0 i hi)
    have hE0 : nE E0 ≤ nE E158 := Nat.le_trans hE0 hgw158.1
    have hL : Lay E158 := hL158
    have h_q1 : isO 12 E158 q1 := isO_up hgw158 h_q1
    have h_q2 : isQ 6 E158 q2 := isA_up hgw158 h_q2
    exact b_La_pairs_j307 l z E0 ad0 ad158 E158 M158 q1 q2 v158_3 x4 x5 x6 v158_7 v158_8 t w3 w5 w6 F N hx hb hml hts hown hlocks hA hG hZ mc ms _ _ c1 s1 (by omega) (by omega) hm hm2 hag0 hE0 h k0 k1 H locs ls hP hD hS (lv_sub hl [0, 1, 2, 3, 4, 5, 6, 7, 8] rfl)
set_option maxRecDepth 100000 in
set_option maxHeartbeats 4000000 in
theorem s_La_pairs_117 (l : Launch) (z : Zz) (E0 : Ev) (ad0 : Nat → Nat) (q1 : Nat) (q2 : Nat) (x4 : Int) {Q : State → Prop} {p : Program} {e : Env} {s : State} {m : MethodId} {below : List Frame} {meth : Method} {c : Code} {A : Nat → Prop} {args : Array Value} (hx : p.tables.exec = Jvm.exec) (hb : c.code = method_7_code) (hml : c.maxLocals = 12) (hts : ∀ w ∈ WG, w.before args s = true) (hown : s.vm.findClass "BallothallLaw" = some m.cls) (hlocks : meth.locks = false) (hA : ∀ q, s.heap.size ≤ q → A q) (hG : KG z s) (hZ : FZ z A s) (mc ms c1 s1 : Nat) (hm : c1 ≤ mc) (hm2 : s1 ≤ ms) : ∀ (fu c0 s0 : Nat) (ad : Nat → Nat) (E : Ev) (M : Mm) (x3 : Int) (x5 : Int) (x6 : Int) (t : Nat) (w3 : Int) (w5 : Int) (w6 : Int) (F : Ev) (N : Mm), c0 + fu * 0 ≤ c1 → s0 + fu * 0 ≤ s1 → (∀ i, i < nE E0 → ad i = ad0 i) → nE E0 ≤ nE E → l_La_pairs_117 q1 q2 x4 fu E M x3 x5 x6 = some (t, w3, w5, w6, F, N) → (∀ (ad1 : Nat → Nat), (∀ i, i < nE E0 → ad1 i = ad0 i) → nE E0 ≤ nE F → t = 1 → ∀ (H : Heap) (locs : List Loc) (ls : Array Slot), va_P z.1 classes (wv z ad1 F N) H → va_D A (wv z ad1 F N) → va_S A s.heap H locs → lv_has ls 12 [(0, .ref (ad1 1)), (1, .ref (ad1 q1)), (2, .ref (ad1 q2)), (3, .int (oI w3)), (4, .int (oI x4)), (5, .int (oI w5))] → W p l e (rmK 5 144 mc ms) s m args below meth c H locs c1 s1 Q (F0 m 384 ls [])) → ∀ (H : Heap) (locs : List Loc) (ls : Array Slot), va_P z.1 classes (wv z ad E M) H → va_D A (wv z ad E M) → va_S A s.heap H locs → lv_has ls 12 [(0, .ref (ad 1)), (1, .ref (ad q1)), (2, .ref (ad q2)), (3, .int (oI x3)), (4, .int (oI x4)), (5, .int (oI x5)), (6, .int (oI x6))] → W p l e (rmK 5 144 mc ms) s m args below meth c H locs c0 s0 Q (F0 m 117 ls []) := by
  intro fu
  induction fu with
  | zero =>
    intro c0 s0 ad E M x3 x5 x6 t w3 w5 w6 F N hc hs hag0 hE0 h
    have h : (none : Option (Nat × Int × Int × Int × Ev × Mm)) = some _ := h
    cases h
  | succ fu ih =>
    intro c0 s0 ad E M x3 x5 x6 t w3 w5 w6 F N hc hs hag0 hE0 h k1 H locs ls hP hD hS hl
    obtain ⟨⟨t0, w30, w50, w60, F9, N9⟩, g0, h⟩ := bd_e h
    refine W.wide (Nat.le_refl _) (Nat.le_refl _) (b_La_pairs_117b l z E0 ad0 ad E M q1 q2 x4 x3 x5 x6 t0 w30 w50 w60 F9 N9 hx hb hml hts hown hlocks hA hG hZ mc ms c0 s0 (c0 + 0) (s0 + 0) (Nat.le_refl _) (Nat.le_refl _) (by omega) (by omega) hag0 hE0 g0 (fun ad1 ha he e0 => ?_) (fun ad1 ha he e0 => ?_) H locs ls hP hD hS hl)
    · subst e0
      have h := ite_t rfl h
      exact ih (c0 + 0) (s0 + 0) ad1 F9 N9 w30 w50 w60 t w3 w5 w6 F N (by omega) (by omega) ha he h k1
    · subst e0
      have h := ite_f (by decide) h
      obtain ⟨rfl, rfl, rfl, rfl, rfl, rfl⟩ := in6 h
      exact fun H locs ls hP hD hS hl => W.wide (by omega) (by omega) (k1 ad1 ha he rfl H locs ls hP hD hS hl)
set_option maxRecDepth 100000 in
set_option maxHeartbeats 4000000 in
theorem b_La_pairs_444b (l : Launch) (z : Zz) (E0 : Ev) (ad0 : Nat → Nat) (ad : Nat → Nat) (E : Ev) (M : Mm) (q1 : Nat) (q2 : Nat) (x8 : Int) (x9 : Int) (x6 : Int) (x10 : Int) (t : Nat) (w6 : Int) (w10 : Int) (F : Ev) (N : Mm) {Q : State → Prop} {p : Program} {e : Env} {s : State} {m : MethodId} {below : List Frame} {meth : Method} {c : Code} {A : Nat → Prop} {args : Array Value} (hx : p.tables.exec = Jvm.exec) (hb : c.code = method_7_code) (hml : c.maxLocals = 12) (hts : ∀ w ∈ WG, w.before args s = true) (hown : s.vm.findClass "BallothallLaw" = some m.cls) (hlocks : meth.locks = false) (hA : ∀ q, s.heap.size ≤ q → A q) (hG : KG z s) (hZ : FZ z A s) (mc ms c0 s0 c1 s1 : Nat) (hc : c0 + 0 ≤ c1) (hs : s0 + 0 ≤ s1) (hm : c1 ≤ mc) (hm2 : s1 ≤ ms) (hag0 : ∀ i, i < nE E0 → ad i = ad0 i) (hE0 : nE E0 ≤ nE E) (h : La_pairs_444b E M q1 q2 x8 x9 x6 x10 = some (t, w6, w10, F, N)) (k0 : ∀ (ad1 : Nat → Nat), (∀ i, i < nE E0 → ad1 i = ad0 i) → nE E0 ≤ nE F → t = 0 → ∀ (H : Heap) (locs : List Loc) (ls : Array Slot), va_P z.1 classes (wv z ad1 F N) H → va_D A (wv z ad1 F N) → va_S A s.heap H locs → lv_has ls 12 [(0, .ref (ad1 1)), (1, .ref (ad1 q1)), (2, .ref (ad1 q2)), (6, .long (oJ w6)), (8, .int (oI x8)), (9, .int (oI x9)), (10, .int (oI w10))] → W p l e (rmK 5 144 mc ms) s m args below meth c H locs c1 s1 Q (F0 m 444 ls [])) (k1 : ∀ (ad1 : Nat → Nat), (∀ i, i < nE E0 → ad1 i = ad0 i) → nE E0 ≤ nE F → t = 1 → ∀ (H : Heap) (locs : List Loc) (ls : Array Slot), va_P z.1 classes (wv z ad1 F N) H → va_D A (wv z ad1 F N) → va_S A s.heap H locs → lv_has ls 12 [(0, .ref (ad1 1)), (1, .ref (ad1 q1)), (2, .ref (ad1 q2)), (6, .long (oJ w6)), (8, .int (oI x8)), (9, .int (oI x9))] → W p l e (rmK 5 144 mc ms) s m args below meth c H locs c1 s1 Q (F0 m 476 ls [])) : ∀ (H : Heap) (locs : List Loc) (ls : Array Slot), va_P z.1 classes (wv z ad E M) H → va_D A (wv z ad E M) → va_S A s.heap H locs → lv_has ls 12 [(0, .ref (ad 1)), (1, .ref (ad q1)), (2, .ref (ad q2)), (6, .long (oJ x6)), (8, .int (oI x8)), (9, .int (oI x9)), (10, .int (oI x10))] → W p l e (rmK 5 144 mc ms) s m args below meth c H locs c0 s0 Q (F0 m 444 ls []) := by
  intro H locs ls hP hD hS hl
  unfold La_pairs_444b at h
  obtain ⟨hL, h⟩ := ck_e h
  obtain ⟨h_q1, h⟩ := ck_e h
  obtain ⟨h_q2, h⟩ := ck_e h
  refine lv_iload hx hb d_L7_444 (lv_at hl 6 rfl) ?_
  refine lv_aload_n hx hb d_L7_446 rfl (lv_at hl 1 rfl) ?_
  refine m_giN (C := "BallothallLaw$Box") (T := TX12) (N := 4) (ci := 12) (k := 0) hx hb hts iX12 hown hG hP h_q1.1 h_q1.2 rfl (by decide) n_775 rfl (fun _ h9 => h9) rfl rfl d_L7_447 ?_
  obtain ⟨ok181, h⟩ := ck_e h
  obtain ⟨ok182, h⟩ := ck_e h
  refine lv_icmp_ge (tgt := 476) hx hb d_L7_450 (by decide) (fun c9 => ?_) (fun c9 => ?_)
  · have h := ite_t ((oI_le (a := (M q1 0)) (b := x10) ok182 ok181).mp c9) h
    obtain ⟨rfl, rfl, rfl, rfl, rfl⟩ := in5 h
    exact W.wide (by omega) (by omega) (k1 ad hag0 hE0 rfl H locs ls hP hD hS (lv_sub hl [0, 1, 2, 3, 4, 5] rfl))
  · have h := ite_f (fun q => c9 ((oI_le (a := (M q1 0)) (b := x10) ok182 ok181).mpr q)) h
    refine lv_lload hx hb d_L7_453 (lv_at hl 3 rfl) ?_
    refine lv_aload_n hx hb d_L7_455 rfl (lv_at hl 2 rfl) ?_
    refine lv_aload_n hx hb d_L7_456 rfl (lv_at hl 0 rfl) ?_
    refine lv_iload hx hb d_L7_457 (lv_at hl 6 rfl) ?_
    obtain ⟨⟨r183, M183⟩, g183, h⟩ := bd_e h
    refine kV (As := [.int (oI x10)]) (rest := [.ref (ad q2), .long (oJ x6)]) (s_B_consensusAt l z ad E M x10 r183 M183 hL g183) hx hb hml hown hts w_1340 w_1337 w_1338 w_1339 w_1 md_b0ab85 ⟨Nat.le_of_ble_eq_true rfl, Nat.le_of_ble_eq_true rfl⟩ hG hZ hP hD hS hA 1 (wv_o (ci := 11) (yi_1 hL) (yt_1 hL)) rfl rfl rfl hl.1 rfl (Nat.le_of_ble_eq_true rfl) d_L7_459 ⟨(show _ ≤ mc by omega), (show _ ≤ ms by omega)⟩ (fun _ H locs hP hD hS => ?_)
    have hP : va_P z.1 classes (wv z ad E M183) H := hP
    have hD : va_D A (wv z ad E M183) := hD
    refine W.eq (g2 := F0 m 462 ls [.int (oI r183), .ref (ad q2), .long (oJ x6)]) rfl ?_
    obtain ⟨ok184, h⟩ := ck_e h
    obtain ⟨p185, g185, h⟩ := bd_e h
    obtain ⟨h_p185, h⟩ := ck_e h
    refine m_ar (k := p185) hx hb hG hP h_q2.1 (isQ_T h_q2) ok184 g185 d_L7_462 ?_
    refine lv_iload hx hb d_L7_463 (lv_at hl 5 rfl) ?_
    obtain ⟨ok186, h⟩ := ck_e h
    refine m_ia hx hb hG hP h_p185.1 (isIA_T h_p185) ok186 d_L7_465 ?_
    obtain ⟨ok187, h⟩ := ck_e h
    refine lv_i2l (v := oJ (M183 p185 x9.toNat)) hx hb d_L7_466 (oI_l ok187) ?_
    refine lv_ladd hx hb d_L7_467 ?_
    refine nrmL (oJ_add _ _) ?_
    refine lv_lstore (lv' := [(6, .long (oJ (x6 + (M183 p185 x9.toNat)))), (0, .ref (ad 1)), (1, .ref (ad q1)), (2, .ref (ad q2)), (8, .int (oI x8)), (9, .int (oI x9)), (10, .int (oI x10))]) hx hb d_L7_468 hl (by decide) rfl (fun ls hl => ?_)
    refine lv_iinc (v := oI (x10 + 1)) (lv' := [(10, .int (oI (x10 + 1))), (6, .long (oJ (x6 + (M183 p185 x9.toNat)))), (0, .ref (ad 1)), (1, .ref (ad q1)), (2, .ref (ad q2)), (8, .int (oI x8)), (9, .int (oI x9))]) hx hb d_L7_470 hl (k := 6) rfl (oI_add x10 1) (by decide) rfl (fun ls hl => ?_)
    refine lv_goto (tgt := 444) hx hb d_L7_473 (by decide) ?_
    obtain ⟨rfl, rfl, rfl, rfl, rfl⟩ := in5 h
    exact W.wide (by omega) (by omega) (k0 ad hag0 hE0 rfl H locs ls hP hD hS (lv_sub hl [2, 3, 4, 1, 5, 6, 0] rfl))
set_option maxRecDepth 100000 in
set_option maxHeartbeats 4000000 in
theorem s_La_pairs_444 (l : Launch) (z : Zz) (E0 : Ev) (ad0 : Nat → Nat) (q1 : Nat) (q2 : Nat) (x8 : Int) (x9 : Int) {Q : State → Prop} {p : Program} {e : Env} {s : State} {m : MethodId} {below : List Frame} {meth : Method} {c : Code} {A : Nat → Prop} {args : Array Value} (hx : p.tables.exec = Jvm.exec) (hb : c.code = method_7_code) (hml : c.maxLocals = 12) (hts : ∀ w ∈ WG, w.before args s = true) (hown : s.vm.findClass "BallothallLaw" = some m.cls) (hlocks : meth.locks = false) (hA : ∀ q, s.heap.size ≤ q → A q) (hG : KG z s) (hZ : FZ z A s) (mc ms c1 s1 : Nat) (hm : c1 ≤ mc) (hm2 : s1 ≤ ms) : ∀ (fu c0 s0 : Nat) (ad : Nat → Nat) (E : Ev) (M : Mm) (x6 : Int) (x10 : Int) (t : Nat) (w6 : Int) (w10 : Int) (F : Ev) (N : Mm), c0 + fu * 0 ≤ c1 → s0 + fu * 0 ≤ s1 → (∀ i, i < nE E0 → ad i = ad0 i) → nE E0 ≤ nE E → l_La_pairs_444 q1 q2 x8 x9 fu E M x6 x10 = some (t, w6, w10, F, N) → (∀ (ad1 : Nat → Nat), (∀ i, i < nE E0 → ad1 i = ad0 i) → nE E0 ≤ nE F → t = 1 → ∀ (H : Heap) (locs : List Loc) (ls : Array Slot), va_P z.1 classes (wv z ad1 F N) H → va_D A (wv z ad1 F N) → va_S A s.heap H locs → lv_has ls 12 [(0, .ref (ad1 1)), (1, .ref (ad1 q1)), (2, .ref (ad1 q2)), (6, .long (oJ w6)), (8, .int (oI x8)), (9, .int (oI x9))] → W p l e (rmK 5 144 mc ms) s m args below meth c H locs c1 s1 Q (F0 m 476 ls [])) → ∀ (H : Heap) (locs : List Loc) (ls : Array Slot), va_P z.1 classes (wv z ad E M) H → va_D A (wv z ad E M) → va_S A s.heap H locs → lv_has ls 12 [(0, .ref (ad 1)), (1, .ref (ad q1)), (2, .ref (ad q2)), (6, .long (oJ x6)), (8, .int (oI x8)), (9, .int (oI x9)), (10, .int (oI x10))] → W p l e (rmK 5 144 mc ms) s m args below meth c H locs c0 s0 Q (F0 m 444 ls []) := by
  intro fu
  induction fu with
  | zero =>
    intro c0 s0 ad E M x6 x10 t w6 w10 F N hc hs hag0 hE0 h
    have h : (none : Option (Nat × Int × Int × Ev × Mm)) = some _ := h
    cases h
  | succ fu ih =>
    intro c0 s0 ad E M x6 x10 t w6 w10 F N hc hs hag0 hE0 h k1 H locs ls hP hD hS hl
    obtain ⟨⟨t0, w60, w100, F9, N9⟩, g0, h⟩ := bd_e h
    refine W.wide (Nat.le_refl _) (Nat.le_refl _) (b_La_pairs_444b l z E0 ad0 ad E M q1 q2 x8 x9 x6 x10 t0 w60 w100 F9 N9 hx hb hml hts hown hlocks hA hG hZ mc ms c0 s0 (c0 + 0) (s0 + 0) (Nat.le_refl _) (Nat.le_refl _) (by omega) (by omega) hag0 hE0 g0 (fun ad1 ha he e0 => ?_) (fun ad1 ha he e0 => ?_) H locs ls hP hD hS hl)
    · subst e0
      have h := ite_t rfl h
      exact ih (c0 + 0) (s0 + 0) ad1 F9 N9 w60 w100 t w6 w10 F N (by omega) (by omega) ha he h k1
    · subst e0
      have h := ite_f (by decide) h
      obtain ⟨rfl, rfl, rfl, rfl, rfl⟩ := in5 h
      exact fun H locs ls hP hD hS hl => W.wide (by omega) (by omega) (k1 ad1 ha he rfl H locs ls hP hD hS hl)
set_option maxRecDepth 100000 in
set_option maxHeartbeats 4000000 in
theorem b_La_pairs_417b (l : Launch) (z : Zz) (E0 : Ev) (ad0 : Nat → Nat) (ad : Nat → Nat) (E : Ev) (M : Mm) (q1 : Nat) (q2 : Nat) (x3 : Int) (x6 : Int) (x8 : Int) (t : Nat) (w3 : Int) (w6 : Int) (w8 : Int) (F : Ev) (N : Mm) {Q : State → Prop} {p : Program} {e : Env} {s : State} {m : MethodId} {below : List Frame} {meth : Method} {c : Code} {A : Nat → Prop} {args : Array Value} (hx : p.tables.exec = Jvm.exec) (hb : c.code = method_7_code) (hml : c.maxLocals = 12) (hts : ∀ w ∈ WG, w.before args s = true) (hown : s.vm.findClass "BallothallLaw" = some m.cls) (hlocks : meth.locks = false) (hA : ∀ q, s.heap.size ≤ q → A q) (hG : KG z s) (hZ : FZ z A s) (mc ms c0 s0 c1 s1 : Nat) (hc : c0 + 0 ≤ c1) (hs : s0 + 0 ≤ s1) (hm : c1 ≤ mc) (hm2 : s1 ≤ ms) (hag0 : ∀ i, i < nE E0 → ad i = ad0 i) (hE0 : nE E0 ≤ nE E) (h : La_pairs_417b E M q1 q2 x3 x6 x8 = some (t, w3, w6, w8, F, N)) (k0 : ∀ (ad1 : Nat → Nat), (∀ i, i < nE E0 → ad1 i = ad0 i) → nE E0 ≤ nE F → t = 0 → ∀ (H : Heap) (locs : List Loc) (ls : Array Slot), va_P z.1 classes (wv z ad1 F N) H → va_D A (wv z ad1 F N) → va_S A s.heap H locs → lv_has ls 12 [(0, .ref (ad1 1)), (1, .ref (ad1 q1)), (2, .ref (ad1 q2)), (3, .int (oI w3)), (6, .long (oJ w6)), (8, .int (oI w8))] → W p l e (rmK 5 144 mc ms) s m args below meth c H locs c1 s1 Q (F0 m 417 ls [])) (k1 : ∀ (ad1 : Nat → Nat), (∀ i, i < nE E0 → ad1 i = ad0 i) → nE E0 ≤ nE F → t = 1 → ∀ (H : Heap) (locs : List Loc) (ls : Array Slot), va_P z.1 classes (wv z ad1 F N) H → va_D A (wv z ad1 F N) → va_S A s.heap H locs → lv_has ls 12 [(0, .ref (ad1 1)), (3, .int (oI w3)), (6, .long (oJ w6))] → W p l e (rmK 5 144 mc ms) s m args below meth c H locs c1 s1 Q (F0 m 528 ls [])) : ∀ (H : Heap) (locs : List Loc) (ls : Array Slot), va_P z.1 classes (wv z ad E M) H → va_D A (wv z ad E M) → va_S A s.heap H locs → lv_has ls 12 [(0, .ref (ad 1)), (1, .ref (ad q1)), (2, .ref (ad q2)), (3, .int (oI x3)), (6, .long (oJ x6)), (8, .int (oI x8))] → W p l e (rmK 5 144 mc ms) s m args below meth c H locs c0 s0 Q (F0 m 417 ls []) := by
  intro H locs ls hP hD hS hl
  unfold La_pairs_417b at h
  obtain ⟨hL, h⟩ := ck_e h
  obtain ⟨h_q1, h⟩ := ck_e h
  obtain ⟨h_q2, h⟩ := ck_e h
  refine lv_iload hx hb d_L7_417 (lv_at hl 5 rfl) ?_
  refine lv_aload_n hx hb d_L7_419 rfl (lv_at hl 1 rfl) ?_
  refine m_giN (C := "BallothallLaw$Box") (T := TX12) (N := 4) (ci := 12) (k := 0) hx hb hts iX12 hown hG hP h_q1.1 h_q1.2 rfl (by decide) n_775 rfl (fun _ h9 => h9) rfl rfl d_L7_420 ?_
  obtain ⟨ok177, h⟩ := ck_e h
  obtain ⟨ok178, h⟩ := ck_e h
  refine lv_icmp_ge (tgt := 528) hx hb d_L7_423 (by decide) (fun c9 => ?_) (fun c9 => ?_)
  · have h := ite_t ((oI_le (a := (M q1 0)) (b := x8) ok178 ok177).mp c9) h
    obtain ⟨rfl, rfl, rfl, rfl, rfl, rfl⟩ := in6 h
    exact W.wide (by omega) (by omega) (k1 ad hag0 hE0 rfl H locs ls hP hD hS (lv_sub hl [0, 3, 4] rfl))
  · have h := ite_f (fun q => c9 ((oI_le (a := (M q1 0)) (b := x8) ok178 ok177).mpr q)) h
    refine lv_iload_n hx hb d_L7_426 rfl (lv_at hl 3 rfl) ?_
    obtain ⟨ok179, h⟩ := ck_e h
    refine lv_if_eq (tgt := 528) hx hb d_L7_427 (by decide) (fun c9 => ?_) (fun c9 => ?_)
    · have h := ite_t ((oI_eq0 ok179).mp c9) h
      obtain ⟨rfl, rfl, rfl, rfl, rfl, rfl⟩ := in6 h
      exact W.wide (by omega) (by omega) (k1 ad hag0 hE0 rfl H locs ls hP hD hS (lv_sub hl [0, 3, 4] rfl))
    · have h := ite_f (fun q => c9 ((oI_eq0 ok179).mpr q)) h
      refine lv_aload_n hx hb d_L7_430 rfl (lv_at hl 0 rfl) ?_
      refine lv_iload hx hb d_L7_431 (lv_at hl 5 rfl) ?_
      obtain ⟨⟨r180, M180⟩, g180, h⟩ := bd_e h
      refine kV (As := [.int (oI x8)]) (rest := []) (s_B_consensusAt l z ad E M x8 r180 M180 hL g180) hx hb hml hown hts w_1340 w_1337 w_1338 w_1339 w_1 md_b0ab85 ⟨Nat.le_of_ble_eq_true rfl, Nat.le_of_ble_eq_true rfl⟩ hG hZ hP hD hS hA 1 (wv_o (ci := 11) (yi_1 hL) (yt_1 hL)) rfl rfl rfl hl.1 rfl (Nat.le_of_ble_eq_true rfl) d_L7_433 ⟨(show _ ≤ mc by omega), (show _ ≤ ms by omega)⟩ (fun _ H locs hP hD hS => ?_)
      have hP : va_P z.1 classes (wv z ad E M180) H := hP
      have hD : va_D A (wv z ad E M180) := hD
      refine W.eq (g2 := F0 m 436 ls [.int (oI r180)]) rfl ?_
      refine lv_istore (lv' := [(9, .int (oI r180)), (0, .ref (ad 1)), (1, .ref (ad q1)), (2, .ref (ad q2)), (3, .int (oI x3)), (6, .long (oJ x6)), (8, .int (oI x8))]) hx hb d_L7_436 hl (by decide) rfl (fun ls hl => ?_)
      refine lv_iload hx hb d_L7_438 (lv_at hl 6 rfl) ?_
      refine lv_iconst (v := oI 1) hx hb d_L7_440 (by decide +kernel) ?_
      refine lv_iadd hx hb d_L7_441 ?_
      refine nrm (oI_add _ _) ?_
      refine lv_istore (lv' := [(10, .int (oI (x8 + 1))), (9, .int (oI r180)), (0, .ref (ad 1)), (1, .ref (ad q1)), (2, .ref (ad q2)), (3, .int (oI x3)), (6, .long (oJ x6)), (8, .int (oI x8))]) hx hb d_L7_442 hl (by decide) rfl (fun ls hl => ?_)
      obtain ⟨⟨t188, v188_6, v188_10, E188, M188⟩, g188, h⟩ := bd_e h
      obtain ⟨hgw188, h⟩ := ck_e h
      obtain ⟨hL188, h⟩ := ck_e h
      obtain ⟨ok188, h⟩ := ck_e h
      refine s_La_pairs_444 l z E ad q1 q2 x8 r180 hx hb hml hts hown hlocks hA hG hZ mc ms (c0 + 0) (s0 + 0) (by omega) (by omega) 5000 _ _ ad E M180 x6 (x8 + 1) t188 v188_6 v188_10 E188 M188 (by omega) (by omega) (fun _ _ => rfl) (Nat.le_refl _) g188 (fun ad188 hag188 hEE188 e188 H locs ls hP hD hS hl => ?_) H locs ls hP hD hS (lv_sub hl [2, 3, 4, 6, 7, 1, 0] rfl)
      have hag0 : ∀ i, i < nE E0 → ad188 i = ad0 i := fun i hi => (hag188 i (Nat.lt_of_lt_of_le hi hE0)).trans (hag0 i hi)
      have hE0 : nE E0 ≤ nE E188 := Nat.le_trans hE0 hgw188.1
      have hL : Lay E188 := hL188
      have h_q1 : isO 12 E188 q1 := isO_up hgw188 h_q1
      have h_q2 : isQ 6 E188 q2 := isA_up hgw188 h_q2
      refine lv_iload hx hb d_L7_476 (lv_at hl 4 rfl) ?_
      refine lv_iconst (v := oI 1) hx hb d_L7_478 (by decide +kernel) ?_
      refine lv_iadd hx hb d_L7_479 ?_
      refine nrm (oI_add _ _) ?_
      refine lv_aload_n hx hb d_L7_480 rfl (lv_at hl 1 rfl) ?_
      refine m_giN (C := "BallothallLaw$Box") (T := TX12) (N := 4) (ci := 12) (k := 0) hx hb hts iX12 hown hG hP h_q1.1 h_q1.2 rfl (by decide) n_775 rfl (fun _ h9 => h9) rfl rfl d_L7_481 ?_
      obtain ⟨ok189, h⟩ := ck_e h
      obtain ⟨ok190, h⟩ := ck_e h
      refine lv_icmp_eq (tgt := 516) hx hb d_L7_484 (by decide) (fun c9 => ?_) (fun c9 => ?_)
      · have h := ite_t ((oI_eq (a := (x8 + 1)) (b := (M188 q1 0)) ok189 ok190).mp c9) h
        refine lv_iconst (v := oI 1) hx hb d_L7_516 (by decide +kernel) ?_
        refine lv_goto (tgt := 521) hx hb d_L7_517 (by decide) ?_
        refine lv_istore_n (lv' := [(3, .int (oI 1)), (0, .ref (ad188 1)), (1, .ref (ad188 q1)), (2, .ref (ad188 q2)), (6, .long (oJ v188_6)), (8, .int (oI x8)), (9, .int (oI r180))]) hx hb d_L7_521 rfl hl (by decide) rfl (fun ls hl => ?_)
        refine lv_iinc (v := oI (x8 + 1)) (lv' := [(8, .int (oI (x8 + 1))), (3, .int (oI 1)), (0, .ref (ad188 1)), (1, .ref (ad188 q1)), (2, .ref (ad188 q2)), (6, .long (oJ v188_6)), (9, .int (oI r180))]) hx hb d_L7_522 hl (k := 5) rfl (oI_add x8 1) (by decide) rfl (fun ls hl => ?_)
        refine lv_goto (tgt := 417) hx hb d_L7_525 (by decide) ?_
        obtain ⟨rfl, rfl, rfl, rfl, rfl, rfl⟩ := in6 h
        exact W.wide (by omega) (by omega) (k0 ad188 hag0 hE0 rfl H locs ls hP hD hS (lv_sub hl [2, 3, 4, 1, 5, 0] rfl))
      · have h := ite_f (fun q => c9 ((oI_eq (a := (x8 + 1)) (b := (M188 q1 0)) ok189 ok190).mpr q)) h
        refine lv_aload_n hx hb d_L7_487 rfl (lv_at hl 2 rfl) ?_
        refine lv_iload hx hb d_L7_488 (lv_at hl 5 rfl) ?_
        obtain ⟨ok191, h⟩ := ck_e h
        obtain ⟨p192, g192, h⟩ := bd_e h
        obtain ⟨h_p192, h⟩ := ck_e h
        refine m_ar (k := p192) hx hb hG hP h_q2.1 (isQ_T h_q2) ok191 g192 d_L7_490 ?_
        refine lv_aload_n hx hb d_L7_491 rfl (lv_at hl 0 rfl) ?_
        refine lv_iload hx hb d_L7_492 (lv_at hl 4 rfl) ?_
        refine lv_iconst (v := oI 1) hx hb d_L7_494 (by decide +kernel) ?_
        refine lv_iadd hx hb d_L7_495 ?_
        refine nrm (oI_add _ _) ?_
        obtain ⟨⟨r193, M193⟩, g193, h⟩ := bd_e h
        refine kV (As := [.int (oI (x8 + 1))]) (rest := [.ref (ad188 p192)]) (s_B_consensusAt l z ad188 E188 M188 (x8 + 1) r193 M193 hL g193) hx hb hml hown hts w_1340 w_1337 w_1338 w_1339 w_1 md_b0ab85 ⟨Nat.le_of_ble_eq_true rfl, Nat.le_of_ble_eq_true rfl⟩ hG hZ hP hD hS hA 1 (wv_o (ci := 11) (yi_1 hL) (yt_1 hL)) rfl rfl rfl hl.1 rfl (Nat.le_of_ble_eq_true rfl) d_L7_496 ⟨(show _ ≤ mc by omega), (show _ ≤ ms by omega)⟩ (fun _ H locs hP hD hS => ?_)
        have hP : va_P z.1 classes (wv z ad188 E188 M193) H := hP
        have hD : va_D A (wv z ad188 E188 M193) := hD
        refine W.eq (g2 := F0 m 499 ls [.int (oI r193), .ref (ad188 p192)]) rfl ?_
        obtain ⟨ok194, h⟩ := ck_e h
        refine m_ia hx hb hG hP h_p192.1 (isIA_T h_p192) ok194 d_L7_499 ?_
        refine lv_aload_n hx hb d_L7_500 rfl (lv_at hl 2 rfl) ?_
        refine lv_aload_n hx hb d_L7_501 rfl (lv_at hl 0 rfl) ?_
        refine lv_iload hx hb d_L7_502 (lv_at hl 4 rfl) ?_
        refine lv_iconst (v := oI 1) hx hb d_L7_504 (by decide +kernel) ?_
        refine lv_iadd hx hb d_L7_505 ?_
        refine nrm (oI_add _ _) ?_
        obtain ⟨⟨r195, M195⟩, g195, h⟩ := bd_e h
        refine kV (As := [.int (oI (x8 + 1))]) (rest := [.ref (ad188 q2), .int (oI (M193 p192 r193.toNat))]) (s_B_consensusAt l z ad188 E188 M193 (x8 + 1) r195 M195 hL g195) hx hb hml hown hts w_1340 w_1337 w_1338 w_1339 w_1 md_b0ab85 ⟨Nat.le_of_ble_eq_true rfl, Nat.le_of_ble_eq_true rfl⟩ hG hZ hP hD hS hA 1 (wv_o (ci := 11) (yi_1 hL) (yt_1 hL)) rfl rfl rfl hl.1 rfl (Nat.le_of_ble_eq_true rfl) d_L7_506 ⟨(show _ ≤ mc by omega), (show _ ≤ ms by omega)⟩ (fun _ H locs hP hD hS => ?_)
        have hP : va_P z.1 classes (wv z ad188 E188 M195) H := hP
        have hD : va_D A (wv z ad188 E188 M195) := hD
        refine W.eq (g2 := F0 m 509 ls [.int (oI r195), .ref (ad188 q2), .int (oI (M193 p192 r193.toNat))]) rfl ?_
        obtain ⟨ok196, h⟩ := ck_e h
        obtain ⟨p197, g197, h⟩ := bd_e h
        obtain ⟨h_p197, h⟩ := ck_e h
        refine m_ar (k := p197) hx hb hG hP h_q2.1 (isQ_T h_q2) ok196 g197 d_L7_509 ?_
        refine lv_iload hx hb d_L7_510 (lv_at hl 5 rfl) ?_
        obtain ⟨ok198, h⟩ := ck_e h
        refine m_ia hx hb hG hP h_p197.1 (isIA_T h_p197) ok198 d_L7_512 ?_
        obtain ⟨ok199, h⟩ := ck_e h
        obtain ⟨ok200, h⟩ := ck_e h
        refine lv_icmp_lt (tgt := 520) hx hb d_L7_513 (by decide) (fun c9 => ?_) (fun c9 => ?_)
        · have h := ite_t ((oI_lt (a := (M193 p192 r193.toNat)) (b := (M195 p197 r180.toNat)) ok199 ok200).mp c9) h
          refine lv_iconst (v := oI 0) hx hb d_L7_520 (by decide +kernel) ?_
          refine lv_istore_n (lv' := [(3, .int (oI 0)), (0, .ref (ad188 1)), (1, .ref (ad188 q1)), (2, .ref (ad188 q2)), (6, .long (oJ v188_6)), (8, .int (oI x8)), (9, .int (oI r180))]) hx hb d_L7_521 rfl hl (by decide) rfl (fun ls hl => ?_)
          refine lv_iinc (v := oI (x8 + 1)) (lv' := [(8, .int (oI (x8 + 1))), (3, .int (oI 0)), (0, .ref (ad188 1)), (1, .ref (ad188 q1)), (2, .ref (ad188 q2)), (6, .long (oJ v188_6)), (9, .int (oI r180))]) hx hb d_L7_522 hl (k := 5) rfl (oI_add x8 1) (by decide) rfl (fun ls hl => ?_)
          refine lv_goto (tgt := 417) hx hb d_L7_525 (by decide) ?_
          obtain ⟨rfl, rfl, rfl, rfl, rfl, rfl⟩ := in6 h
          exact W.wide (by omega) (by omega) (k0 ad188 hag0 hE0 rfl H locs ls hP hD hS (lv_sub hl [2, 3, 4, 1, 5, 0] rfl))
        · have h := ite_f (fun q => c9 ((oI_lt (a := (M193 p192 r193.toNat)) (b := (M195 p197 r180.toNat)) ok199 ok200).mpr q)) h
          refine lv_iconst (v := oI 1) hx hb d_L7_516 (by decide +kernel) ?_
          refine lv_goto (tgt := 521) hx hb d_L7_517 (by decide) ?_
          refine lv_istore_n (lv' := [(3, .int (oI 1)), (0, .ref (ad188 1)), (1, .ref (ad188 q1)), (2, .ref (ad188 q2)), (6, .long (oJ v188_6)), (8, .int (oI x8)), (9, .int (oI r180))]) hx hb d_L7_521 rfl hl (by decide) rfl (fun ls hl => ?_)
          refine lv_iinc (v := oI (x8 + 1)) (lv' := [(8, .int (oI (x8 + 1))), (3, .int (oI 1)), (0, .ref (ad188 1)), (1, .ref (ad188 q1)), (2, .ref (ad188 q2)), (6, .long (oJ v188_6)), (9, .int (oI r180))]) hx hb d_L7_522 hl (k := 5) rfl (oI_add x8 1) (by decide) rfl (fun ls hl => ?_)
          refine lv_goto (tgt := 417) hx hb d_L7_525 (by decide) ?_
          obtain ⟨rfl, rfl, rfl, rfl, rfl, rfl⟩ := in6 h
          exact W.wide (by omega) (by omega) (k0 ad188 hag0 hE0 rfl H locs ls hP hD hS (lv_sub hl [2, 3, 4, 1, 5, 0] rfl))
