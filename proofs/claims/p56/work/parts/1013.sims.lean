set_option maxRecDepth 100000 in
set_option maxHeartbeats 4000000 in
theorem s_Po_firstOfConsensus_2 (l : Launch) (z : Zz) (ad : Nat → Nat) (E : Ev) (x1 : Int) {Q : State → Prop} {p : Program} {e : Env} {s : State} {m : MethodId} {below : List Frame} {meth : Method} {c : Code} {A : Nat → Prop} {args : Array Value} (hx : p.tables.exec = Jvm.exec) (hb : c.code = prog_11_method_18_code) (hml : c.maxLocals = 3) (hts : ∀ w ∈ WG, w.before args s = true) (hown : s.vm.findClass "Ballothall$Poll" = some m.cls) (hlocks : meth.locks = false) (hA : ∀ q, s.heap.size ≤ q → A q) (hG : KG z s) (hZ : FZ z A s) (hL : Lay E) : ∀ (fu : Nat) (M : Mm) (x2 : Int) (t : Nat) (w2 : Int), l_Po_firstOfConsensus_2 E x1 fu M x2 = some (t, w2) → (t = 1 → ∀ (H : Heap) (locs : List Loc) (ls : Array Slot), va_P z.1 classes (wv z ad E M) H → va_D A (wv z ad E M) → va_S A s.heap H locs → lv_has ls 3 [(2, .int (oI w2))] → W p l e (rmK 2 68 0 0) s m args below meth c H locs 0 0 Q (F0 m 37 ls [])) → (t = 2 → ∀ (H : Heap) (locs : List Loc) (ls : Array Slot), va_P z.1 classes (wv z ad E M) H → va_D A (wv z ad E M) → va_S A s.heap H locs → lv_has ls 3 [] → W p l e (rmK 2 68 0 0) s m args below meth c H locs 0 0 Q (F0 m 45 ls [])) → ∀ (H : Heap) (locs : List Loc) (ls : Array Slot), va_P z.1 classes (wv z ad E M) H → va_D A (wv z ad E M) → va_S A s.heap H locs → lv_has ls 3 [(0, .ref (ad 41)), (1, .int (oI x1)), (2, .int (oI x2))] → W p l e (rmK 2 68 0 0) s m args below meth c H locs 0 0 Q (F0 m 2 ls []) := by
  intro fu
  induction fu with
  | zero =>
    intro M x2 t w2 h
    have h : (none : Option (Nat × Int)) = some _ := h
    cases h
  | succ fu ih =>
    intro M x2 t w2 h k1 k2 H locs ls hP hD hS hl
    obtain ⟨⟨t0, w20⟩, g0, h⟩ := bd_e h
    refine b_Po_firstOfConsensus_2b l z ad E M x1 x2 t0 w20 hx hb hml hts hown hlocks hA hG hZ hL g0 (fun e0 => ?_) (fun e0 => ?_) (fun e0 => ?_) H locs ls hP hD hS hl
    · subst e0
      have h := ite_t rfl h
      exact ih M w20 t w2 h k1 k2
    · subst e0
      have h := ite_f (by decide) h
      obtain ⟨rfl, rfl⟩ := in2 h
      exact k1 rfl
    · subst e0
      have h := ite_f (by decide) h
      obtain ⟨rfl, rfl⟩ := in2 h
      exact k2 rfl
set_option maxRecDepth 100000 in
set_option maxHeartbeats 4000000 in
theorem s_Po_firstOfConsensus (l : Launch) (z : Zz) (ad : Nat → Nat) (E : Ev) (M : Mm) (x1 : Int) (r : Int)  (hL : Lay E) (h : f_Po_firstOfConsensus E M x1 = some r) : CT l z ⟨"Ballothall$Poll", "firstOfConsensus", "(I)I"⟩ prog_11_method_18_code 3 (some .int) [.ref (ad 41), .int (oI x1)] (wv z ad E M) 2 68 0 0 (fun _ => some (.int (oI r))) (fun _ => (wv z ad E M)) := by
  refine CT.of (own := "Ballothall$Poll") (by decide +kernel) (Nat.le_of_ble_eq_true rfl) rfl (fun p e s m below meth c A ls hx hb hml hr hts hown hlocks hin hA hG hZ hP hD hS hl => ?_)
  have hl : lv_has ls 3 [(0, .ref (ad 41)), (1, .int (oI x1))] := hl
  have key : ∀ (H : Heap) (locs : List Loc) (args : Array Value), (∀ w ∈ WG, w.before args s = true) → va_P z.1 classes (wv z ad E M) H → va_S A s.heap H locs → W p l e (rmK 2 68 0 0) s m args below meth c H locs 0 0 (MQ below (QK z A (fun _ => some (.int (oI r))) (fun _ => (wv z ad E M))) args s 0 0 A) (F0 m 0 ls []) := by
    intro H locs args hts hP hS
    unfold f_Po_firstOfConsensus at h
    refine lv_iconst (v := oI 0) hx hb d_11_18_0 (by decide +kernel) ?_
    refine lv_istore_n (lv' := [(2, .int (oI 0)), (0, .ref (ad 41)), (1, .int (oI x1))]) hx hb d_11_18_1 rfl hl (by decide) rfl (fun ls hl => ?_)
    obtain ⟨⟨t8, v8_2⟩, g8, h⟩ := bd_e h
    refine s_Po_firstOfConsensus_2 l z ad E x1 hx hb hml hts hown hlocks hA hG hZ hL FU M 0 t8 v8_2 g8 (fun e8 H locs ls hP hD hS hl => ?_) (fun e8 H locs ls hP hD hS hl => ?_) H locs ls hP hD hS (lv_sub hl [1, 2, 0] rfl)
    · subst e8
      have h := ite_t rfl h
      refine lv_iload_n hx hb d_11_18_37 rfl (lv_at hl 0 rfl) ?_
      obtain rfl := in1 h
      exact W.iret hx hb hr (fun t ht hW => qkA hP hD hS (fun k => k) rfl rfl ht) hS.2.2 d_11_18_38
    · subst e8
      have h := ite_f (by decide) h
      have h := ite_t rfl h
      refine lv_iconst (v := oI 0) hx hb d_11_18_45 (by decide +kernel) ?_
      obtain rfl := in1 h
      exact W.iret hx hb hr (fun t ht hW => qkA hP hD hS (fun k => k) rfl rfl ht) hS.2.2 d_11_18_46
  exact key _ _ _ hts hP hS
set_option maxRecDepth 100000 in
set_option maxHeartbeats 4000000 in
theorem b_Po_consensusPlace_10b (l : Launch) (z : Zz) (ad : Nat → Nat) (E : Ev) (M : Mm) (x1 : Int) (x2 : Int) (x3 : Int) (x4 : Int) (t : Nat) (w2 : Int) (w3 : Int) (w4 : Int)  {Q : State → Prop} {p : Program} {e : Env} {s : State} {m : MethodId} {below : List Frame} {meth : Method} {c : Code} {A : Nat → Prop} {args : Array Value} (hx : p.tables.exec = Jvm.exec) (hb : c.code = prog_11_method_17_code) (hml : c.maxLocals = 5) (hts : ∀ w ∈ WG, w.before args s = true) (hown : s.vm.findClass "Ballothall$Poll" = some m.cls) (hlocks : meth.locks = false) (hA : ∀ q, s.heap.size ≤ q → A q) (hG : KG z s) (hZ : FZ z A s) (hL : Lay E) (h : Po_consensusPlace_10b E M x1 x2 x3 x4 = some (t, w2, w3, w4)) (k0 : t = 0 → ∀ (H : Heap) (locs : List Loc) (ls : Array Slot), va_P z.1 classes (wv z ad E M) H → va_D A (wv z ad E M) → va_S A s.heap H locs → lv_has ls 5 [(0, .ref (ad 41)), (1, .int (oI x1)), (2, .int (oI w2)), (3, .int (oI w3)), (4, .int (oI w4))] → W p l e (rmK 3 90 0 0) s m args below meth c H locs 0 0 Q (F0 m 10 ls [])) (k1 : t = 1 → ∀ (H : Heap) (locs : List Loc) (ls : Array Slot), va_P z.1 classes (wv z ad E M) H → va_D A (wv z ad E M) → va_S A s.heap H locs → lv_has ls 5 [(3, .int (oI w3))] → W p l e (rmK 3 90 0 0) s m args below meth c H locs 0 0 Q (F0 m 40 ls [])) : ∀ (H : Heap) (locs : List Loc) (ls : Array Slot), va_P z.1 classes (wv z ad E M) H → va_D A (wv z ad E M) → va_S A s.heap H locs → lv_has ls 5 [(0, .ref (ad 41)), (1, .int (oI x1)), (2, .int (oI x2)), (3, .int (oI x3)), (4, .int (oI x4))] → W p l e (rmK 3 90 0 0) s m args below meth c H locs 0 0 Q (F0 m 10 ls []) := by
  intro H locs ls hP hD hS hl
  unfold Po_consensusPlace_10b at h
  refine lv_iload hx hb d_11_17_10 (lv_at hl 4 rfl) ?_
  refine lv_iload_n hx hb d_11_17_12 rfl (lv_at hl 1 rfl) ?_
  obtain ⟨ok0, h⟩ := ck_e h
  obtain ⟨ok1, h⟩ := ck_e h
  refine lv_icmp_gt (tgt := 40) hx hb d_11_17_13 (by decide) (fun c9 => ?_) (fun c9 => ?_)
  · have h := ite_t ((oI_lt (a := x1) (b := x4) ok1 ok0).mp c9) h
    obtain ⟨rfl, rfl, rfl, rfl⟩ := in4 h
    exact k1 rfl H locs ls hP hD hS (lv_sub hl [3] rfl)
  · have h := ite_f (fun q => c9 ((oI_lt (a := x1) (b := x4) ok1 ok0).mpr q)) h
    refine lv_iload_n hx hb d_11_17_16 rfl (lv_at hl 2 rfl) ?_
    obtain ⟨ok2, h⟩ := ck_e h
    refine lv_if_eq (tgt := 40) hx hb d_11_17_17 (by decide) (fun c9 => ?_) (fun c9 => ?_)
    · have h := ite_t ((oI_eq0 ok2).mp c9) h
      obtain ⟨rfl, rfl, rfl, rfl⟩ := in4 h
      exact k1 rfl H locs ls hP hD hS (lv_sub hl [3] rfl)
    · have h := ite_f (fun q => c9 ((oI_eq0 ok2).mpr q)) h
      refine lv_aload_n hx hb d_11_17_20 rfl (lv_at hl 0 rfl) ?_
      refine lv_iload_n hx hb d_11_17_21 rfl (lv_at hl 2 rfl) ?_
      obtain ⟨r3, g3, h⟩ := bd_e h
      refine kV (As := [.int (oI x2)]) (rest := []) (s_Po_firstOfConsensus l z ad E M x2 r3 hL g3) hx hb hml hown hts w_746 w_743 w_745 w_s_4d3fdf w_3 md_2e2af1 ⟨Nat.le_of_ble_eq_true rfl, Nat.le_of_ble_eq_true rfl⟩ hG hZ hP hD hS hA 41 (wv_o (ci := 9) (yi_41 hL) (yt_41 hL)) rfl rfl rfl hl.1 rfl (Nat.le_of_ble_eq_true rfl) d_11_17_22 ⟨Nat.le_of_ble_eq_true rfl, Nat.le_of_ble_eq_true rfl⟩ (fun _ H locs hP hD hS => ?_)
      have hP : va_P z.1 classes (wv z ad E M) H := hP
      have hD : va_D A (wv z ad E M) := hD
      refine W.eq (g2 := F0 m 25 ls [.int (oI r3)]) rfl ?_
      refine lv_istore_n (lv' := [(3, .int (oI r3)), (0, .ref (ad 41)), (1, .int (oI x1)), (2, .int (oI x2)), (4, .int (oI x4))]) hx hb d_11_17_25 rfl hl (by decide) rfl (fun ls hl => ?_)
      refine lv_iload_n hx hb d_11_17_26 rfl (lv_at hl 3 rfl) ?_
      refine lv_iconst (v := oI 1) hx hb d_11_17_27 (by decide +kernel) ?_
      refine lv_iload_n hx hb d_11_17_28 rfl (lv_at hl 0 rfl) ?_
      obtain ⟨ok4, h⟩ := ck_e h
      refine lv_ishl hx hb d_11_17_29 ?_
      refine nrm (oI_one_shl ok4) ?_
      refine lv_iconst (v := oI (-1)) hx hb d_11_17_30 (by decide +kernel) ?_
      refine lv_ixor hx hb d_11_17_31 ?_
      refine nrm (oI_not _) ?_
      obtain ⟨ok5, h⟩ := ck_e h
      obtain ⟨ok6, h⟩ := ck_e h
      refine lv_iand hx hb d_11_17_32 ?_
      refine nrm (oI_dif ok5.1 ok5.2 ok6.1 ok6.2) ?_
      refine lv_istore_n (lv' := [(2, .int (oI (dfI x2 (2 ^ r3.toNat)))), (3, .int (oI r3)), (0, .ref (ad 41)), (1, .int (oI x1)), (4, .int (oI x4))]) hx hb d_11_17_33 rfl hl (by decide) rfl (fun ls hl => ?_)
      refine lv_iinc (v := oI (x4 + 1)) (lv' := [(4, .int (oI (x4 + 1))), (2, .int (oI (dfI x2 (2 ^ r3.toNat)))), (3, .int (oI r3)), (0, .ref (ad 41)), (1, .int (oI x1))]) hx hb d_11_17_34 hl (k := 4) rfl (oI_add x4 1) (by decide) rfl (fun ls hl => ?_)
      refine lv_goto (tgt := 10) hx hb d_11_17_37 (by decide) ?_
      obtain ⟨rfl, rfl, rfl, rfl⟩ := in4 h
      exact k0 rfl H locs ls hP hD hS (lv_sub hl [3, 4, 1, 2, 0] rfl)
set_option maxRecDepth 100000 in
set_option maxHeartbeats 4000000 in
theorem s_Po_consensusPlace_10 (l : Launch) (z : Zz) (ad : Nat → Nat) (E : Ev) (x1 : Int) {Q : State → Prop} {p : Program} {e : Env} {s : State} {m : MethodId} {below : List Frame} {meth : Method} {c : Code} {A : Nat → Prop} {args : Array Value} (hx : p.tables.exec = Jvm.exec) (hb : c.code = prog_11_method_17_code) (hml : c.maxLocals = 5) (hts : ∀ w ∈ WG, w.before args s = true) (hown : s.vm.findClass "Ballothall$Poll" = some m.cls) (hlocks : meth.locks = false) (hA : ∀ q, s.heap.size ≤ q → A q) (hG : KG z s) (hZ : FZ z A s) (hL : Lay E) : ∀ (fu : Nat) (M : Mm) (x2 : Int) (x3 : Int) (x4 : Int) (t : Nat) (w2 : Int) (w3 : Int) (w4 : Int), l_Po_consensusPlace_10 E x1 fu M x2 x3 x4 = some (t, w2, w3, w4) → (t = 1 → ∀ (H : Heap) (locs : List Loc) (ls : Array Slot), va_P z.1 classes (wv z ad E M) H → va_D A (wv z ad E M) → va_S A s.heap H locs → lv_has ls 5 [(3, .int (oI w3))] → W p l e (rmK 3 90 0 0) s m args below meth c H locs 0 0 Q (F0 m 40 ls [])) → ∀ (H : Heap) (locs : List Loc) (ls : Array Slot), va_P z.1 classes (wv z ad E M) H → va_D A (wv z ad E M) → va_S A s.heap H locs → lv_has ls 5 [(0, .ref (ad 41)), (1, .int (oI x1)), (2, .int (oI x2)), (3, .int (oI x3)), (4, .int (oI x4))] → W p l e (rmK 3 90 0 0) s m args below meth c H locs 0 0 Q (F0 m 10 ls []) := by
  intro fu
  induction fu with
  | zero =>
    intro M x2 x3 x4 t w2 w3 w4 h
    have h : (none : Option (Nat × Int × Int × Int)) = some _ := h
    cases h
  | succ fu ih =>
    intro M x2 x3 x4 t w2 w3 w4 h k1 H locs ls hP hD hS hl
    obtain ⟨⟨t0, w20, w30, w40⟩, g0, h⟩ := bd_e h
    refine b_Po_consensusPlace_10b l z ad E M x1 x2 x3 x4 t0 w20 w30 w40 hx hb hml hts hown hlocks hA hG hZ hL g0 (fun e0 => ?_) (fun e0 => ?_) H locs ls hP hD hS hl
    · subst e0
      have h := ite_t rfl h
      exact ih M w20 w30 w40 t w2 w3 w4 h k1
    · subst e0
      have h := ite_f (by decide) h
      obtain ⟨rfl, rfl, rfl, rfl⟩ := in4 h
      exact k1 rfl
set_option maxRecDepth 100000 in
set_option maxHeartbeats 4000000 in
theorem s_Po_consensusPlace (l : Launch) (z : Zz) (ad : Nat → Nat) (E : Ev) (M : Mm) (x1 : Int) (r : Int)  (hL : Lay E) (h : f_Po_consensusPlace E M x1 = some r) : CT l z ⟨"Ballothall$Poll", "consensusPlace", "(I)I"⟩ prog_11_method_17_code 5 (some .int) [.ref (ad 41), .int (oI x1)] (wv z ad E M) 3 90 0 0 (fun _ => some (.int (oI r))) (fun _ => (wv z ad E M)) := by
  refine CT.of (own := "Ballothall$Poll") (by decide +kernel) (Nat.le_of_ble_eq_true rfl) rfl (fun p e s m below meth c A ls hx hb hml hr hts hown hlocks hin hA hG hZ hP hD hS hl => ?_)
  have hl : lv_has ls 5 [(0, .ref (ad 41)), (1, .int (oI x1))] := hl
  have key : ∀ (H : Heap) (locs : List Loc) (args : Array Value), (∀ w ∈ WG, w.before args s = true) → va_P z.1 classes (wv z ad E M) H → va_S A s.heap H locs → W p l e (rmK 3 90 0 0) s m args below meth c H locs 0 0 (MQ below (QK z A (fun _ => some (.int (oI r))) (fun _ => (wv z ad E M))) args s 0 0 A) (F0 m 0 ls []) := by
    intro H locs args hts hP hS
    unfold f_Po_consensusPlace at h
    refine lv_aload_n hx hb d_11_17_0 rfl (lv_at hl 0 rfl) ?_
    refine m_gi (C := "Ballothall$Poll") (T := TX9) (N := 12) (ci := 9) (k := 1) hx hb hts iX9 hown hG hP (yi_41 hL) (yt_41 hL) rfl (by decide) w_108 (fun _ h9 => h9) rfl rfl d_11_17_1 ?_
    refine lv_istore_n (lv' := [(2, .int (oI (M 41 1))), (0, .ref (ad 41)), (1, .int (oI x1))]) hx hb d_11_17_4 rfl hl (by decide) rfl (fun ls hl => ?_)
    refine lv_iconst (v := oI (-1)) hx hb d_11_17_5 (by decide +kernel) ?_
    refine lv_istore_n (lv' := [(3, .int (oI (-1))), (2, .int (oI (M 41 1))), (0, .ref (ad 41)), (1, .int (oI x1))]) hx hb d_11_17_6 rfl hl (by decide) rfl (fun ls hl => ?_)
    refine lv_iconst (v := oI 0) hx hb d_11_17_7 (by decide +kernel) ?_
    refine lv_istore (lv' := [(4, .int (oI 0)), (3, .int (oI (-1))), (2, .int (oI (M 41 1))), (0, .ref (ad 41)), (1, .int (oI x1))]) hx hb d_11_17_8 hl (by decide) rfl (fun ls hl => ?_)
    obtain ⟨⟨t7, v7_2, v7_3, v7_4⟩, g7, h⟩ := bd_e h
    obtain ⟨ok7, h⟩ := ck_e h
    refine s_Po_consensusPlace_10 l z ad E x1 hx hb hml hts hown hlocks hA hG hZ hL FU M (M 41 1) (-1) 0 t7 v7_2 v7_3 v7_4 g7 (fun e7 H locs ls hP hD hS hl => ?_) H locs ls hP hD hS (lv_sub hl [3, 4, 2, 1, 0] rfl)
    refine lv_iload_n hx hb d_11_17_40 rfl (lv_at hl 0 rfl) ?_
    obtain rfl := in1 h
    exact W.iret hx hb hr (fun t ht hW => qkA hP hD hS (fun k => k) rfl rfl ht) hS.2.2 d_11_17_41
  exact key _ _ _ hts hP hS
set_option maxRecDepth 100000 in
set_option maxHeartbeats 4000000 in
theorem s_B_consensusAt (l : Launch) (z : Zz) (ad : Nat → Nat) (E : Ev) (M : Mm) (x1 : Int) (r : Int) (N : Mm) (hL : Lay E) (h : f_B_consensusAt E M x1 = some (r, N)) : CT l z ⟨"Ballothall", "consensusAt", "(I)I"⟩ prog_1_method_30_code 2 (some .int) [.ref (ad 1), .int (oI x1)] (wv z ad E M) 4 115 0 0 (fun _ => some (.int (oI r))) (fun _ => (wv z ad E N)) := by
  refine CT.of (own := "Ballothall") (by decide +kernel) (Nat.le_of_ble_eq_true rfl) rfl (fun p e s m below meth c A ls hx hb hml hr hts hown hlocks hin hA hG hZ hP hD hS hl => ?_)
  have hl : lv_has ls 2 [(0, .ref (ad 1)), (1, .int (oI x1))] := hl
  have key : ∀ (H : Heap) (locs : List Loc) (args : Array Value), (∀ w ∈ WG, w.before args s = true) → va_P z.1 classes (wv z ad E M) H → va_S A s.heap H locs → W p l e (rmK 4 115 0 0) s m args below meth c H locs 0 0 (MQ below (QK z A (fun _ => some (.int (oI r))) (fun _ => (wv z ad E N))) args s 0 0 A) (F0 m 0 ls []) := by
    intro H locs args hts hP hS
    unfold f_B_consensusAt at h
    refine lv_iload_n hx hb d_1_30_0 rfl (lv_at hl 1 rfl) ?_
    refine lv_aload_n hx hb d_1_30_1 rfl (lv_at hl 0 rfl) ?_
    refine m_gr (j := 2) (C := "Ballothall") (T := TX11) (N := 14) (ci := 11) (k := 0) hx hb hts iX11 hown hG hP (yi_1 hL) (yt_1 hL) rfl (by decide) w_397 (fun _ h9 => h9) rfl rfl (yr_1_0 hL) d_1_30_2 ?_
    refine m_giN (C := "Ballothall$BallotBox") (T := TX0) (N := 10) (ci := 0) (k := 2) hx hb hts iX0 hown hG hP (yi_2 hL) (yt_2 hL) rfl (by decide) n_52 rfl (fun _ h9 => h9) rfl rfl d_1_30_5 ?_
    obtain ⟨_, g0, h⟩ := bd_e h
    refine kS (As := [.int (oI x1), .int (oI (M 2 2))]) (rest := []) (s_B_needPlace l z ad E M x1 (M 2 2) hL g0) hx hb hml hown hts w_1343 w_1341 w_1342 w_1 md_541664 ⟨Nat.le_of_ble_eq_true rfl, Nat.le_of_ble_eq_true rfl⟩ hG hZ hP hD hS hA rfl hl.1 rfl (Nat.le_of_ble_eq_true rfl) d_1_30_8 ⟨Nat.le_of_ble_eq_true rfl, Nat.le_of_ble_eq_true rfl⟩ (fun _ H locs hP hD hS => ?_)
    have hP : va_P z.1 classes (wv z ad E M) H := hP
    have hD : va_D A (wv z ad E M) := hD
    refine W.eq (g2 := F0 m 11 ls []) rfl ?_
    refine lv_aload_n hx hb d_1_30_11 rfl (lv_at hl 0 rfl) ?_
    refine m_gr (j := 41) (C := "Ballothall") (T := TX11) (N := 14) (ci := 11) (k := 1) hx hb hts iX11 hown hG hP (yi_1 hL) (yt_1 hL) rfl (by decide) w_398 (fun _ h9 => h9) rfl rfl (yr_1_1 hL) d_1_30_12 ?_
    refine lv_aload_n hx hb d_1_30_15 rfl (lv_at hl 0 rfl) ?_
    refine m_gr (j := 2) (C := "Ballothall") (T := TX11) (N := 14) (ci := 11) (k := 0) hx hb hts iX11 hown hG hP (yi_1 hL) (yt_1 hL) rfl (by decide) w_397 (fun _ h9 => h9) rfl rfl (yr_1_0 hL) d_1_30_16 ?_
    obtain ⟨r1, g1, h⟩ := bd_e h
    refine kVN (As := []) (rest := [.ref (ad 41)]) (s_Bx_everybody l z ad E M r1 hL g1) hx hb hml hown hts w_668 n_665 w_667 w_s_8b8b67 w_2 md_b59579 ⟨Nat.le_of_ble_eq_true rfl, Nat.le_of_ble_eq_true rfl⟩ hG hZ hP hD hS hA 2 (wv_o (ci := 0) (yi_2 hL) (yt_2 hL)) rfl rfl rfl hl.1 rfl (Nat.le_of_ble_eq_true rfl) d_1_30_19 ⟨Nat.le_of_ble_eq_true rfl, Nat.le_of_ble_eq_true rfl⟩ (fun _ H locs hP hD hS => ?_)
    have hP : va_P z.1 classes (wv z ad E M) H := hP
    have hD : va_D A (wv z ad E M) := hD
    refine W.eq (g2 := F0 m 22 ls [.int (oI r1), .ref (ad 41)]) rfl ?_
    obtain ⟨M2, g2, h⟩ := bd_e h
    refine kVN (As := [.int (oI r1)]) (rest := []) (s_Po_open l z ad E M r1 M2 hL g2) hx hb hml hown hts w_672 n_669 w_671 w_s_229dc4 w_3 md_60bc9b ⟨Nat.le_of_ble_eq_true rfl, Nat.le_of_ble_eq_true rfl⟩ hG hZ hP hD hS hA 41 (wv_o (ci := 9) (yi_41 hL) (yt_41 hL)) rfl rfl rfl hl.1 rfl (Nat.le_of_ble_eq_true rfl) d_1_30_22 ⟨Nat.le_of_ble_eq_true rfl, Nat.le_of_ble_eq_true rfl⟩ (fun _ H locs hP hD hS => ?_)
    have hP : va_P z.1 classes (wv z ad E M2) H := hP
    have hD : va_D A (wv z ad E M2) := hD
    refine W.eq (g2 := F0 m 25 ls []) rfl ?_
    refine lv_aload_n hx hb d_1_30_25 rfl (lv_at hl 0 rfl) ?_
    refine m_gr (j := 41) (C := "Ballothall") (T := TX11) (N := 14) (ci := 11) (k := 1) hx hb hts iX11 hown hG hP (yi_1 hL) (yt_1 hL) rfl (by decide) w_398 (fun _ h9 => h9) rfl rfl (yr_1_1 hL) d_1_30_26 ?_
    obtain ⟨M3, g3, h⟩ := bd_e h
    refine kVN (As := []) (rest := []) (s_Po_findDistances l z ad E M2 M3 hL g3) hx hb hml hown hts w_713 n_710 w_712 w_s_d32e6f w_3 md_4b14b3 ⟨Nat.le_of_ble_eq_true rfl, Nat.le_of_ble_eq_true rfl⟩ hG hZ hP hD hS hA 41 (wv_o (ci := 9) (yi_41 hL) (yt_41 hL)) rfl rfl rfl hl.1 rfl (Nat.le_of_ble_eq_true rfl) d_1_30_29 ⟨Nat.le_of_ble_eq_true rfl, Nat.le_of_ble_eq_true rfl⟩ (fun _ H locs hP hD hS => ?_)
    have hP : va_P z.1 classes (wv z ad E M3) H := hP
    have hD : va_D A (wv z ad E M3) := hD
    refine W.eq (g2 := F0 m 32 ls []) rfl ?_
    refine lv_aload_n hx hb d_1_30_32 rfl (lv_at hl 0 rfl) ?_
    refine m_gr (j := 41) (C := "Ballothall") (T := TX11) (N := 14) (ci := 11) (k := 1) hx hb hts iX11 hown hG hP (yi_1 hL) (yt_1 hL) rfl (by decide) w_398 (fun _ h9 => h9) rfl rfl (yr_1_1 hL) d_1_30_33 ?_
    refine lv_iload_n hx hb d_1_30_36 rfl (lv_at hl 1 rfl) ?_
    obtain ⟨r4, g4, h⟩ := bd_e h
    refine kVN (As := [.int (oI x1)]) (rest := []) (s_Po_consensusPlace l z ad E M3 x1 r4 hL g4) hx hb hml hown hts w_742 n_739 w_741 w_s_cb37ef w_3 md_2413b1 ⟨Nat.le_of_ble_eq_true rfl, Nat.le_of_ble_eq_true rfl⟩ hG hZ hP hD hS hA 41 (wv_o (ci := 9) (yi_41 hL) (yt_41 hL)) rfl rfl rfl hl.1 rfl (Nat.le_of_ble_eq_true rfl) d_1_30_37 ⟨Nat.le_of_ble_eq_true rfl, Nat.le_of_ble_eq_true rfl⟩ (fun _ H locs hP hD hS => ?_)
    have hP : va_P z.1 classes (wv z ad E M3) H := hP
    have hD : va_D A (wv z ad E M3) := hD
    refine W.eq (g2 := F0 m 40 ls [.int (oI r4)]) rfl ?_
    obtain ⟨rfl, rfl⟩ := in2 h
    exact W.iret hx hb hr (fun t ht hW => qkA hP hD hS (fun k => k) rfl rfl ht) hS.2.2 d_1_30_40
  exact key _ _ _ hts hP hS
set_option maxRecDepth 100000 in
set_option maxHeartbeats 4000000 in
theorem b_Po_winnersByPaths_24b (l : Launch) (z : Zz) (ad : Nat → Nat) (E : Ev) (M : Mm) (x2 : Int) (x1 : Int) (x3 : Int) (t : Nat) (w1 : Int) (w3 : Int) (N : Mm) {Q : State → Prop} {p : Program} {e : Env} {s : State} {m : MethodId} {below : List Frame} {meth : Method} {c : Code} {A : Nat → Prop} {args : Array Value} (hx : p.tables.exec = Jvm.exec) (hb : c.code = prog_11_method_14_code) (hml : c.maxLocals = 4) (hts : ∀ w ∈ WG, w.before args s = true) (hown : s.vm.findClass "Ballothall$Poll" = some m.cls) (hlocks : meth.locks = false) (hA : ∀ q, s.heap.size ≤ q → A q) (hG : KG z s) (hZ : FZ z A s) (hL : Lay E) (h : Po_winnersByPaths_24b E M x2 x1 x3 = some (t, w1, w3, N)) (k0 : t = 0 → ∀ (H : Heap) (locs : List Loc) (ls : Array Slot), va_P z.1 classes (wv z ad E N) H → va_D A (wv z ad E N) → va_S A s.heap H locs → lv_has ls 4 [(0, .ref (ad 41)), (1, .int (oI w1)), (2, .int (oI x2)), (3, .int (oI w3))] → W p l e (rmK 3 89 0 0) s m args below meth c H locs 0 0 Q (F0 m 24 ls [])) (k1 : t = 1 → ∀ (H : Heap) (locs : List Loc) (ls : Array Slot), va_P z.1 classes (wv z ad E N) H → va_D A (wv z ad E N) → va_S A s.heap H locs → lv_has ls 4 [(0, .ref (ad 41)), (1, .int (oI w1)), (2, .int (oI x2))] → W p l e (rmK 3 89 0 0) s m args below meth c H locs 0 0 Q (F0 m 64 ls [])) : ∀ (H : Heap) (locs : List Loc) (ls : Array Slot), va_P z.1 classes (wv z ad E M) H → va_D A (wv z ad E M) → va_S A s.heap H locs → lv_has ls 4 [(0, .ref (ad 41)), (1, .int (oI x1)), (2, .int (oI x2)), (3, .int (oI x3))] → W p l e (rmK 3 89 0 0) s m args below meth c H locs 0 0 Q (F0 m 24 ls []) := by
  intro H locs ls hP hD hS hl
  unfold Po_winnersByPaths_24b at h
  refine lv_iload_n hx hb d_11_14_24 rfl (lv_at hl 3 rfl) ?_
  refine lv_aload_n hx hb d_11_14_25 rfl (lv_at hl 0 rfl) ?_
  refine m_gr (j := 2) (C := "Ballothall$Poll") (T := TX9) (N := 12) (ci := 9) (k := 0) hx hb hts iX9 hown hG hP (yi_41 hL) (yt_41 hL) rfl (by decide) w_107 (fun _ h9 => h9) rfl rfl (yr_41_0 hL) d_11_14_26 ?_
  refine m_giN (C := "Ballothall$BallotBox") (T := TX0) (N := 10) (ci := 0) (k := 2) hx hb hts iX0 hown hG hP (yi_2 hL) (yt_2 hL) rfl (by decide) n_53 rfl (fun _ h9 => h9) rfl rfl d_11_14_29 ?_
  obtain ⟨ok3, h⟩ := ck_e h
  obtain ⟨ok4, h⟩ := ck_e h
  refine lv_icmp_ge (tgt := 64) hx hb d_11_14_32 (by decide) (fun c9 => ?_) (fun c9 => ?_)
  · have h := ite_t ((oI_le (a := (M 2 2)) (b := x3) ok4 ok3).mp c9) h
    obtain ⟨rfl, rfl, rfl, rfl⟩ := in4 h
    exact k1 rfl H locs ls hP hD hS (lv_sub hl [0, 1, 2] rfl)
  · have h := ite_f (fun q => c9 ((oI_le (a := (M 2 2)) (b := x3) ok4 ok3).mpr q)) h
    refine lv_aload_n hx hb d_11_14_35 rfl (lv_at hl 0 rfl) ?_
    refine lv_iload_n hx hb d_11_14_36 rfl (lv_at hl 3 rfl) ?_
    refine lv_iload_n hx hb d_11_14_37 rfl (lv_at hl 2 rfl) ?_
    obtain ⟨r5, g5, h⟩ := bd_e h
    refine kV (As := [.int (oI x3), .int (oI x2)]) (rest := []) (s_Po_path l z ad E M x3 x2 r5 hL g5) hx hb hml hown hts w_733 w_730 w_732 w_s_f68c3b w_3 md_2f75ac ⟨Nat.le_of_ble_eq_true rfl, Nat.le_of_ble_eq_true rfl⟩ hG hZ hP hD hS hA 41 (wv_o (ci := 9) (yi_41 hL) (yt_41 hL)) rfl rfl rfl hl.1 rfl (Nat.le_of_ble_eq_true rfl) d_11_14_38 ⟨Nat.le_of_ble_eq_true rfl, Nat.le_of_ble_eq_true rfl⟩ (fun _ H locs hP hD hS => ?_)
    have hP : va_P z.1 classes (wv z ad E M) H := hP
    have hD : va_D A (wv z ad E M) := hD
    refine W.eq (g2 := F0 m 41 ls [.int (oI r5)]) rfl ?_
    refine lv_aload_n hx hb d_11_14_41 rfl (lv_at hl 0 rfl) ?_
    refine lv_iload_n hx hb d_11_14_42 rfl (lv_at hl 2 rfl) ?_
    refine lv_iload_n hx hb d_11_14_43 rfl (lv_at hl 3 rfl) ?_
    obtain ⟨r6, g6, h⟩ := bd_e h
    refine kV (As := [.int (oI x2), .int (oI x3)]) (rest := [.int (oI r5)]) (s_Po_path l z ad E M x2 x3 r6 hL g6) hx hb hml hown hts w_733 w_730 w_732 w_s_f68c3b w_3 md_2f75ac ⟨Nat.le_of_ble_eq_true rfl, Nat.le_of_ble_eq_true rfl⟩ hG hZ hP hD hS hA 41 (wv_o (ci := 9) (yi_41 hL) (yt_41 hL)) rfl rfl rfl hl.1 rfl (Nat.le_of_ble_eq_true rfl) d_11_14_44 ⟨Nat.le_of_ble_eq_true rfl, Nat.le_of_ble_eq_true rfl⟩ (fun _ H locs hP hD hS => ?_)
    have hP : va_P z.1 classes (wv z ad E M) H := hP
    have hD : va_D A (wv z ad E M) := hD
    refine W.eq (g2 := F0 m 47 ls [.int (oI r6), .int (oI r5)]) rfl ?_
    obtain ⟨ok7, h⟩ := ck_e h
    obtain ⟨ok8, h⟩ := ck_e h
    refine lv_icmp_le (tgt := 58) hx hb d_11_14_47 (by decide) (fun c9 => ?_) (fun c9 => ?_)
    · have h := ite_t ((oI_le (a := r5) (b := r6) ok7 ok8).mp c9) h
      refine lv_iinc (v := oI (x3 + 1)) (lv' := [(3, .int (oI (x3 + 1))), (0, .ref (ad 41)), (1, .int (oI x1)), (2, .int (oI x2))]) hx hb d_11_14_58 hl (k := 3) rfl (oI_add x3 1) (by decide) rfl (fun ls hl => ?_)
      refine lv_goto (tgt := 24) hx hb d_11_14_61 (by decide) ?_
      obtain ⟨rfl, rfl, rfl, rfl⟩ := in4 h
      exact k0 rfl H locs ls hP hD hS (lv_sub hl [1, 2, 3, 0] rfl)
    · have h := ite_f (fun q => c9 ((oI_le (a := r5) (b := r6) ok7 ok8).mpr q)) h
      refine lv_iload_n hx hb d_11_14_50 rfl (lv_at hl 1 rfl) ?_
      refine lv_iconst (v := oI 1) hx hb d_11_14_51 (by decide +kernel) ?_
      refine lv_iload_n hx hb d_11_14_52 rfl (lv_at hl 2 rfl) ?_
      obtain ⟨ok9, h⟩ := ck_e h
      refine lv_ishl hx hb d_11_14_53 ?_
      refine nrm (oI_one_shl ok9) ?_
      refine lv_iconst (v := oI (-1)) hx hb d_11_14_54 (by decide +kernel) ?_
      refine lv_ixor hx hb d_11_14_55 ?_
      refine nrm (oI_not _) ?_
      obtain ⟨ok10, h⟩ := ck_e h
      obtain ⟨ok11, h⟩ := ck_e h
      refine lv_iand hx hb d_11_14_56 ?_
      refine nrm (oI_dif ok10.1 ok10.2 ok11.1 ok11.2) ?_
      refine lv_istore_n (lv' := [(1, .int (oI (dfI x1 (2 ^ x2.toNat)))), (0, .ref (ad 41)), (2, .int (oI x2)), (3, .int (oI x3))]) hx hb d_11_14_57 rfl hl (by decide) rfl (fun ls hl => ?_)
      refine lv_iinc (v := oI (x3 + 1)) (lv' := [(3, .int (oI (x3 + 1))), (1, .int (oI (dfI x1 (2 ^ x2.toNat)))), (0, .ref (ad 41)), (2, .int (oI x2))]) hx hb d_11_14_58 hl (k := 3) rfl (oI_add x3 1) (by decide) rfl (fun ls hl => ?_)
      refine lv_goto (tgt := 24) hx hb d_11_14_61 (by decide) ?_
      obtain ⟨rfl, rfl, rfl, rfl⟩ := in4 h
      exact k0 rfl H locs ls hP hD hS (lv_sub hl [2, 1, 3, 0] rfl)
set_option maxRecDepth 100000 in
set_option maxHeartbeats 4000000 in
theorem s_Po_winnersByPaths_24 (l : Launch) (z : Zz) (ad : Nat → Nat) (E : Ev) (x2 : Int) {Q : State → Prop} {p : Program} {e : Env} {s : State} {m : MethodId} {below : List Frame} {meth : Method} {c : Code} {A : Nat → Prop} {args : Array Value} (hx : p.tables.exec = Jvm.exec) (hb : c.code = prog_11_method_14_code) (hml : c.maxLocals = 4) (hts : ∀ w ∈ WG, w.before args s = true) (hown : s.vm.findClass "Ballothall$Poll" = some m.cls) (hlocks : meth.locks = false) (hA : ∀ q, s.heap.size ≤ q → A q) (hG : KG z s) (hZ : FZ z A s) (hL : Lay E) : ∀ (fu : Nat) (M : Mm) (x1 : Int) (x3 : Int) (t : Nat) (w1 : Int) (w3 : Int) (N : Mm), l_Po_winnersByPaths_24 E x2 fu M x1 x3 = some (t, w1, w3, N) → (t = 1 → ∀ (H : Heap) (locs : List Loc) (ls : Array Slot), va_P z.1 classes (wv z ad E N) H → va_D A (wv z ad E N) → va_S A s.heap H locs → lv_has ls 4 [(0, .ref (ad 41)), (1, .int (oI w1)), (2, .int (oI x2))] → W p l e (rmK 3 89 0 0) s m args below meth c H locs 0 0 Q (F0 m 64 ls [])) → ∀ (H : Heap) (locs : List Loc) (ls : Array Slot), va_P z.1 classes (wv z ad E M) H → va_D A (wv z ad E M) → va_S A s.heap H locs → lv_has ls 4 [(0, .ref (ad 41)), (1, .int (oI x1)), (2, .int (oI x2)), (3, .int (oI x3))] → W p l e (rmK 3 89 0 0) s m args below meth c H locs 0 0 Q (F0 m 24 ls []) := by
  intro fu
  induction fu with
  | zero =>
    intro M x1 x3 t w1 w3 N h
    have h : (none : Option (Nat × Int × Int × Mm)) = some _ := h
    cases h
  | succ fu ih =>
    intro M x1 x3 t w1 w3 N h k1 H locs ls hP hD hS hl
    obtain ⟨⟨t0, w10, w30, N9⟩, g0, h⟩ := bd_e h
    refine b_Po_winnersByPaths_24b l z ad E M x2 x1 x3 t0 w10 w30 N9 hx hb hml hts hown hlocks hA hG hZ hL g0 (fun e0 => ?_) (fun e0 => ?_) H locs ls hP hD hS hl
    · subst e0
      have h := ite_t rfl h
      exact ih N9 w10 w30 t w1 w3 N h k1
    · subst e0
      have h := ite_f (by decide) h
      obtain ⟨rfl, rfl, rfl, rfl⟩ := in4 h
      exact k1 rfl
set_option maxRecDepth 100000 in
set_option maxHeartbeats 4000000 in
theorem b_Po_winnersByPaths_11b (l : Launch) (z : Zz) (ad : Nat → Nat) (E : Ev) (M : Mm) (x1 : Int) (x2 : Int) (t : Nat) (w1 : Int) (w2 : Int) (N : Mm) {Q : State → Prop} {p : Program} {e : Env} {s : State} {m : MethodId} {below : List Frame} {meth : Method} {c : Code} {A : Nat → Prop} {args : Array Value} (hx : p.tables.exec = Jvm.exec) (hb : c.code = prog_11_method_14_code) (hml : c.maxLocals = 4) (hts : ∀ w ∈ WG, w.before args s = true) (hown : s.vm.findClass "Ballothall$Poll" = some m.cls) (hlocks : meth.locks = false) (hA : ∀ q, s.heap.size ≤ q → A q) (hG : KG z s) (hZ : FZ z A s) (hL : Lay E) (h : Po_winnersByPaths_11b E M x1 x2 = some (t, w1, w2, N)) (k0 : t = 0 → ∀ (H : Heap) (locs : List Loc) (ls : Array Slot), va_P z.1 classes (wv z ad E N) H → va_D A (wv z ad E N) → va_S A s.heap H locs → lv_has ls 4 [(0, .ref (ad 41)), (1, .int (oI w1)), (2, .int (oI w2))] → W p l e (rmK 3 89 0 0) s m args below meth c H locs 0 0 Q (F0 m 11 ls [])) (k1 : t = 1 → ∀ (H : Heap) (locs : List Loc) (ls : Array Slot), va_P z.1 classes (wv z ad E N) H → va_D A (wv z ad E N) → va_S A s.heap H locs → lv_has ls 4 [(1, .int (oI w1))] → W p l e (rmK 3 89 0 0) s m args below meth c H locs 0 0 Q (F0 m 70 ls [])) : ∀ (H : Heap) (locs : List Loc) (ls : Array Slot), va_P z.1 classes (wv z ad E M) H → va_D A (wv z ad E M) → va_S A s.heap H locs → lv_has ls 4 [(0, .ref (ad 41)), (1, .int (oI x1)), (2, .int (oI x2))] → W p l e (rmK 3 89 0 0) s m args below meth c H locs 0 0 Q (F0 m 11 ls []) := by
  intro H locs ls hP hD hS hl
  unfold Po_winnersByPaths_11b at h
  refine lv_iload_n hx hb d_11_14_11 rfl (lv_at hl 2 rfl) ?_
  refine lv_aload_n hx hb d_11_14_12 rfl (lv_at hl 0 rfl) ?_
  refine m_gr (j := 2) (C := "Ballothall$Poll") (T := TX9) (N := 12) (ci := 9) (k := 0) hx hb hts iX9 hown hG hP (yi_41 hL) (yt_41 hL) rfl (by decide) w_107 (fun _ h9 => h9) rfl rfl (yr_41_0 hL) d_11_14_13 ?_
  refine m_giN (C := "Ballothall$BallotBox") (T := TX0) (N := 10) (ci := 0) (k := 2) hx hb hts iX0 hown hG hP (yi_2 hL) (yt_2 hL) rfl (by decide) n_53 rfl (fun _ h9 => h9) rfl rfl d_11_14_16 ?_
  obtain ⟨ok1, h⟩ := ck_e h
  obtain ⟨ok2, h⟩ := ck_e h
  refine lv_icmp_ge (tgt := 70) hx hb d_11_14_19 (by decide) (fun c9 => ?_) (fun c9 => ?_)
  · have h := ite_t ((oI_le (a := (M 2 2)) (b := x2) ok2 ok1).mp c9) h
    obtain ⟨rfl, rfl, rfl, rfl⟩ := in4 h
    exact k1 rfl H locs ls hP hD hS (lv_sub hl [1] rfl)
  · have h := ite_f (fun q => c9 ((oI_le (a := (M 2 2)) (b := x2) ok2 ok1).mpr q)) h
    refine lv_iconst (v := oI 0) hx hb d_11_14_22 (by decide +kernel) ?_
    refine lv_istore_n (lv' := [(3, .int (oI 0)), (0, .ref (ad 41)), (1, .int (oI x1)), (2, .int (oI x2))]) hx hb d_11_14_23 rfl hl (by decide) rfl (fun ls hl => ?_)
    obtain ⟨⟨t12, v12_1, v12_3, M12⟩, g12, h⟩ := bd_e h
    obtain ⟨ok12, h⟩ := ck_e h
    refine s_Po_winnersByPaths_24 l z ad E x2 hx hb hml hts hown hlocks hA hG hZ hL FU M x1 0 t12 v12_1 v12_3 M12 g12 (fun e12 H locs ls hP hD hS hl => ?_) H locs ls hP hD hS (lv_sub hl [1, 2, 3, 0] rfl)
    refine lv_iinc (v := oI (x2 + 1)) (lv' := [(2, .int (oI (x2 + 1))), (0, .ref (ad 41)), (1, .int (oI v12_1))]) hx hb d_11_14_64 hl (k := 2) rfl (oI_add x2 1) (by decide) rfl (fun ls hl => ?_)
    refine lv_goto (tgt := 11) hx hb d_11_14_67 (by decide) ?_
    obtain ⟨rfl, rfl, rfl, rfl⟩ := in4 h
    exact k0 rfl H locs ls hP hD hS (lv_sub hl [1, 2, 0] rfl)
set_option maxRecDepth 100000 in
set_option maxHeartbeats 4000000 in
theorem s_Po_winnersByPaths_11 (l : Launch) (z : Zz) (ad : Nat → Nat) (E : Ev) {Q : State → Prop} {p : Program} {e : Env} {s : State} {m : MethodId} {below : List Frame} {meth : Method} {c : Code} {A : Nat → Prop} {args : Array Value} (hx : p.tables.exec = Jvm.exec) (hb : c.code = prog_11_method_14_code) (hml : c.maxLocals = 4) (hts : ∀ w ∈ WG, w.before args s = true) (hown : s.vm.findClass "Ballothall$Poll" = some m.cls) (hlocks : meth.locks = false) (hA : ∀ q, s.heap.size ≤ q → A q) (hG : KG z s) (hZ : FZ z A s) (hL : Lay E) : ∀ (fu : Nat) (M : Mm) (x1 : Int) (x2 : Int) (t : Nat) (w1 : Int) (w2 : Int) (N : Mm), l_Po_winnersByPaths_11 E fu M x1 x2 = some (t, w1, w2, N) → (t = 1 → ∀ (H : Heap) (locs : List Loc) (ls : Array Slot), va_P z.1 classes (wv z ad E N) H → va_D A (wv z ad E N) → va_S A s.heap H locs → lv_has ls 4 [(1, .int (oI w1))] → W p l e (rmK 3 89 0 0) s m args below meth c H locs 0 0 Q (F0 m 70 ls [])) → ∀ (H : Heap) (locs : List Loc) (ls : Array Slot), va_P z.1 classes (wv z ad E M) H → va_D A (wv z ad E M) → va_S A s.heap H locs → lv_has ls 4 [(0, .ref (ad 41)), (1, .int (oI x1)), (2, .int (oI x2))] → W p l e (rmK 3 89 0 0) s m args below meth c H locs 0 0 Q (F0 m 11 ls []) := by
  intro fu
  induction fu with
  | zero =>
    intro M x1 x2 t w1 w2 N h
    have h : (none : Option (Nat × Int × Int × Mm)) = some _ := h
    cases h
  | succ fu ih =>
    intro M x1 x2 t w1 w2 N h k1 H locs ls hP hD hS hl
    obtain ⟨⟨t0, w10, w20, N9⟩, g0, h⟩ := bd_e h
    refine b_Po_winnersByPaths_11b l z ad E M x1 x2 t0 w10 w20 N9 hx hb hml hts hown hlocks hA hG hZ hL g0 (fun e0 => ?_) (fun e0 => ?_) H locs ls hP hD hS hl
    · subst e0
      have h := ite_t rfl h
      exact ih N9 w10 w20 t w1 w2 N h k1
    · subst e0
      have h := ite_f (by decide) h
      obtain ⟨rfl, rfl, rfl, rfl⟩ := in4 h
      exact k1 rfl
set_option maxRecDepth 100000 in
set_option maxHeartbeats 4000000 in
theorem s_Po_winnersByPaths (l : Launch) (z : Zz) (ad : Nat → Nat) (E : Ev) (M : Mm) (r : Int) (N : Mm) (hL : Lay E) (h : f_Po_winnersByPaths E M = some (r, N)) : CT l z ⟨"Ballothall$Poll", "winnersByPaths", "()I"⟩ prog_11_method_14_code 4 (some .int) [.ref (ad 41)] (wv z ad E M) 3 89 0 0 (fun _ => some (.int (oI r))) (fun _ => (wv z ad E N)) := by
  refine CT.of (own := "Ballothall$Poll") (by decide +kernel) (Nat.le_of_ble_eq_true rfl) rfl (fun p e s m below meth c A ls hx hb hml hr hts hown hlocks hin hA hG hZ hP hD hS hl => ?_)
  have hl : lv_has ls 4 [(0, .ref (ad 41))] := hl
  have key : ∀ (H : Heap) (locs : List Loc) (args : Array Value), (∀ w ∈ WG, w.before args s = true) → va_P z.1 classes (wv z ad E M) H → va_S A s.heap H locs → W p l e (rmK 3 89 0 0) s m args below meth c H locs 0 0 (MQ below (QK z A (fun _ => some (.int (oI r))) (fun _ => (wv z ad E N))) args s 0 0 A) (F0 m 0 ls []) := by
    intro H locs args hts hP hS
    unfold f_Po_winnersByPaths at h
    refine lv_aload_n hx hb d_11_14_0 rfl (lv_at hl 0 rfl) ?_
    obtain ⟨M0, g0, h⟩ := bd_e h
    refine kV (As := []) (rest := []) (s_Po_findPaths l z ad E M M0 hL g0) hx hb hml hown hts w_729 w_726 w_728 w_s_3d2a4d w_3 md_b5f468 ⟨Nat.le_of_ble_eq_true rfl, Nat.le_of_ble_eq_true rfl⟩ hG hZ hP hD hS hA 41 (wv_o (ci := 9) (yi_41 hL) (yt_41 hL)) rfl rfl rfl hl.1 rfl (Nat.le_of_ble_eq_true rfl) d_11_14_1 ⟨Nat.le_of_ble_eq_true rfl, Nat.le_of_ble_eq_true rfl⟩ (fun _ H locs hP hD hS => ?_)
    have hP : va_P z.1 classes (wv z ad E M0) H := hP
    have hD : va_D A (wv z ad E M0) := hD
    refine W.eq (g2 := F0 m 4 ls []) rfl ?_
    refine lv_aload_n hx hb d_11_14_4 rfl (lv_at hl 0 rfl) ?_
    refine m_gi (C := "Ballothall$Poll") (T := TX9) (N := 12) (ci := 9) (k := 1) hx hb hts iX9 hown hG hP (yi_41 hL) (yt_41 hL) rfl (by decide) w_108 (fun _ h9 => h9) rfl rfl d_11_14_5 ?_
    refine lv_istore_n (lv' := [(1, .int (oI (M0 41 1))), (0, .ref (ad 41))]) hx hb d_11_14_8 rfl hl (by decide) rfl (fun ls hl => ?_)
    refine lv_iconst (v := oI 0) hx hb d_11_14_9 (by decide +kernel) ?_
    refine lv_istore_n (lv' := [(2, .int (oI 0)), (1, .int (oI (M0 41 1))), (0, .ref (ad 41))]) hx hb d_11_14_10 rfl hl (by decide) rfl (fun ls hl => ?_)
    obtain ⟨⟨t13, v13_1, v13_2, M13⟩, g13, h⟩ := bd_e h
    obtain ⟨ok13, h⟩ := ck_e h
    refine s_Po_winnersByPaths_11 l z ad E hx hb hml hts hown hlocks hA hG hZ hL FU M0 (M0 41 1) 0 t13 v13_1 v13_2 M13 g13 (fun e13 H locs ls hP hD hS hl => ?_) H locs ls hP hD hS (lv_sub hl [2, 1, 0] rfl)
    refine lv_iload_n hx hb d_11_14_70 rfl (lv_at hl 0 rfl) ?_
    obtain ⟨rfl, rfl⟩ := in2 h
    exact W.iret hx hb hr (fun t ht hW => qkA hP hD hS (fun k => k) rfl rfl ht) hS.2.2 d_11_14_71
  exact key _ _ _ hts hP hS
set_option maxRecDepth 100000 in
set_option maxHeartbeats 4000000 in
theorem s_B_pathWinners (l : Launch) (z : Zz) (ad : Nat → Nat) (E : Ev) (M : Mm) (r : Int) (N : Mm) (hL : Lay E) (h : f_B_pathWinners E M = some (r, N)) : CT l z ⟨"Ballothall", "pathWinners", "()I"⟩ prog_1_method_28_code 1 (some .int) [.ref (ad 1)] (wv z ad E M) 4 115 0 0 (fun _ => some (.int (oI r))) (fun _ => (wv z ad E N)) := by
  refine CT.of (own := "Ballothall") (by decide +kernel) (Nat.le_of_ble_eq_true rfl) rfl (fun p e s m below meth c A ls hx hb hml hr hts hown hlocks hin hA hG hZ hP hD hS hl => ?_)
  have hl : lv_has ls 1 [(0, .ref (ad 1))] := hl
  have key : ∀ (H : Heap) (locs : List Loc) (args : Array Value), (∀ w ∈ WG, w.before args s = true) → va_P z.1 classes (wv z ad E M) H → va_S A s.heap H locs → W p l e (rmK 4 115 0 0) s m args below meth c H locs 0 0 (MQ below (QK z A (fun _ => some (.int (oI r))) (fun _ => (wv z ad E N))) args s 0 0 A) (F0 m 0 ls []) := by
    intro H locs args hts hP hS
    unfold f_B_pathWinners at h
    refine lv_aload_n hx hb d_1_28_0 rfl (lv_at hl 0 rfl) ?_
    refine m_gr (j := 41) (C := "Ballothall") (T := TX11) (N := 14) (ci := 11) (k := 1) hx hb hts iX11 hown hG hP (yi_1 hL) (yt_1 hL) rfl (by decide) w_398 (fun _ h9 => h9) rfl rfl (yr_1_1 hL) d_1_28_1 ?_
    refine lv_aload_n hx hb d_1_28_4 rfl (lv_at hl 0 rfl) ?_
    refine m_gr (j := 2) (C := "Ballothall") (T := TX11) (N := 14) (ci := 11) (k := 0) hx hb hts iX11 hown hG hP (yi_1 hL) (yt_1 hL) rfl (by decide) w_397 (fun _ h9 => h9) rfl rfl (yr_1_0 hL) d_1_28_5 ?_
    obtain ⟨r0, g0, h⟩ := bd_e h
    refine kVN (As := []) (rest := [.ref (ad 41)]) (s_Bx_everybody l z ad E M r0 hL g0) hx hb hml hown hts w_668 n_665 w_667 w_s_8b8b67 w_2 md_b59579 ⟨Nat.le_of_ble_eq_true rfl, Nat.le_of_ble_eq_true rfl⟩ hG hZ hP hD hS hA 2 (wv_o (ci := 0) (yi_2 hL) (yt_2 hL)) rfl rfl rfl hl.1 rfl (Nat.le_of_ble_eq_true rfl) d_1_28_8 ⟨Nat.le_of_ble_eq_true rfl, Nat.le_of_ble_eq_true rfl⟩ (fun _ H locs hP hD hS => ?_)
    have hP : va_P z.1 classes (wv z ad E M) H := hP
    have hD : va_D A (wv z ad E M) := hD
    refine W.eq (g2 := F0 m 11 ls [.int (oI r0), .ref (ad 41)]) rfl ?_
    obtain ⟨M1, g1, h⟩ := bd_e h
    refine kVN (As := [.int (oI r0)]) (rest := []) (s_Po_open l z ad E M r0 M1 hL g1) hx hb hml hown hts w_672 n_669 w_671 w_s_229dc4 w_3 md_60bc9b ⟨Nat.le_of_ble_eq_true rfl, Nat.le_of_ble_eq_true rfl⟩ hG hZ hP hD hS hA 41 (wv_o (ci := 9) (yi_41 hL) (yt_41 hL)) rfl rfl rfl hl.1 rfl (Nat.le_of_ble_eq_true rfl) d_1_28_11 ⟨Nat.le_of_ble_eq_true rfl, Nat.le_of_ble_eq_true rfl⟩ (fun _ H locs hP hD hS => ?_)
    have hP : va_P z.1 classes (wv z ad E M1) H := hP
    have hD : va_D A (wv z ad E M1) := hD
    refine W.eq (g2 := F0 m 14 ls []) rfl ?_
    refine lv_aload_n hx hb d_1_28_14 rfl (lv_at hl 0 rfl) ?_
    refine m_gr (j := 41) (C := "Ballothall") (T := TX11) (N := 14) (ci := 11) (k := 1) hx hb hts iX11 hown hG hP (yi_1 hL) (yt_1 hL) rfl (by decide) w_398 (fun _ h9 => h9) rfl rfl (yr_1_1 hL) d_1_28_15 ?_
    obtain ⟨⟨r2, M2⟩, g2, h⟩ := bd_e h
    refine kVN (As := []) (rest := []) (s_Po_winnersByPaths l z ad E M1 r2 M2 hL g2) hx hb hml hown hts w_725 n_722 w_724 w_s_87a59c w_3 md_114b2c ⟨Nat.le_of_ble_eq_true rfl, Nat.le_of_ble_eq_true rfl⟩ hG hZ hP hD hS hA 41 (wv_o (ci := 9) (yi_41 hL) (yt_41 hL)) rfl rfl rfl hl.1 rfl (Nat.le_of_ble_eq_true rfl) d_1_28_18 ⟨Nat.le_of_ble_eq_true rfl, Nat.le_of_ble_eq_true rfl⟩ (fun _ H locs hP hD hS => ?_)
    have hP : va_P z.1 classes (wv z ad E M2) H := hP
    have hD : va_D A (wv z ad E M2) := hD
    refine W.eq (g2 := F0 m 21 ls [.int (oI r2)]) rfl ?_
    obtain ⟨rfl, rfl⟩ := in2 h
    exact W.iret hx hb hr (fun t ht hW => qkA hP hD hS (fun k => k) rfl rfl ht) hS.2.2 d_1_28_21
  exact key _ _ _ hts hP hS
set_option maxRecDepth 100000 in
set_option maxHeartbeats 4000000 in
theorem s_B_consensusDistance (l : Launch) (z : Zz) (ad : Nat → Nat) (E : Ev) (M : Mm) (r : Int) (N : Mm) (hL : Lay E) (h : f_B_consensusDistance E M = some (r, N)) : CT l z ⟨"Ballothall", "consensusDistance", "()J"⟩ prog_1_method_31_code 1 (some .long) [.ref (ad 1)] (wv z ad E M) 4 115 0 0 (fun _ => some (.long (oJ r))) (fun _ => (wv z ad E N)) := by
  refine CT.of (own := "Ballothall") (by decide +kernel) (Nat.le_of_ble_eq_true rfl) rfl (fun p e s m below meth c A ls hx hb hml hr hts hown hlocks hin hA hG hZ hP hD hS hl => ?_)
  have hl : lv_has ls 1 [(0, .ref (ad 1))] := hl
  have key : ∀ (H : Heap) (locs : List Loc) (args : Array Value), (∀ w ∈ WG, w.before args s = true) → va_P z.1 classes (wv z ad E M) H → va_S A s.heap H locs → W p l e (rmK 4 115 0 0) s m args below meth c H locs 0 0 (MQ below (QK z A (fun _ => some (.long (oJ r))) (fun _ => (wv z ad E N))) args s 0 0 A) (F0 m 0 ls []) := by
    intro H locs args hts hP hS
    unfold f_B_consensusDistance at h
    refine lv_aload_n hx hb d_1_31_0 rfl (lv_at hl 0 rfl) ?_
    refine m_gr (j := 41) (C := "Ballothall") (T := TX11) (N := 14) (ci := 11) (k := 1) hx hb hts iX11 hown hG hP (yi_1 hL) (yt_1 hL) rfl (by decide) w_398 (fun _ h9 => h9) rfl rfl (yr_1_1 hL) d_1_31_1 ?_
    refine lv_aload_n hx hb d_1_31_4 rfl (lv_at hl 0 rfl) ?_
    refine m_gr (j := 2) (C := "Ballothall") (T := TX11) (N := 14) (ci := 11) (k := 0) hx hb hts iX11 hown hG hP (yi_1 hL) (yt_1 hL) rfl (by decide) w_397 (fun _ h9 => h9) rfl rfl (yr_1_0 hL) d_1_31_5 ?_
    obtain ⟨r0, g0, h⟩ := bd_e h
    refine kVN (As := []) (rest := [.ref (ad 41)]) (s_Bx_everybody l z ad E M r0 hL g0) hx hb hml hown hts w_668 n_665 w_667 w_s_8b8b67 w_2 md_b59579 ⟨Nat.le_of_ble_eq_true rfl, Nat.le_of_ble_eq_true rfl⟩ hG hZ hP hD hS hA 2 (wv_o (ci := 0) (yi_2 hL) (yt_2 hL)) rfl rfl rfl hl.1 rfl (Nat.le_of_ble_eq_true rfl) d_1_31_8 ⟨Nat.le_of_ble_eq_true rfl, Nat.le_of_ble_eq_true rfl⟩ (fun _ H locs hP hD hS => ?_)
    have hP : va_P z.1 classes (wv z ad E M) H := hP
    have hD : va_D A (wv z ad E M) := hD
    refine W.eq (g2 := F0 m 11 ls [.int (oI r0), .ref (ad 41)]) rfl ?_
    obtain ⟨M1, g1, h⟩ := bd_e h
    refine kVN (As := [.int (oI r0)]) (rest := []) (s_Po_open l z ad E M r0 M1 hL g1) hx hb hml hown hts w_672 n_669 w_671 w_s_229dc4 w_3 md_60bc9b ⟨Nat.le_of_ble_eq_true rfl, Nat.le_of_ble_eq_true rfl⟩ hG hZ hP hD hS hA 41 (wv_o (ci := 9) (yi_41 hL) (yt_41 hL)) rfl rfl rfl hl.1 rfl (Nat.le_of_ble_eq_true rfl) d_1_31_11 ⟨Nat.le_of_ble_eq_true rfl, Nat.le_of_ble_eq_true rfl⟩ (fun _ H locs hP hD hS => ?_)
    have hP : va_P z.1 classes (wv z ad E M1) H := hP
    have hD : va_D A (wv z ad E M1) := hD
    refine W.eq (g2 := F0 m 14 ls []) rfl ?_
    refine lv_aload_n hx hb d_1_31_14 rfl (lv_at hl 0 rfl) ?_
    refine m_gr (j := 41) (C := "Ballothall") (T := TX11) (N := 14) (ci := 11) (k := 1) hx hb hts iX11 hown hG hP (yi_1 hL) (yt_1 hL) rfl (by decide) w_398 (fun _ h9 => h9) rfl rfl (yr_1_1 hL) d_1_31_15 ?_
    obtain ⟨M2, g2, h⟩ := bd_e h
    refine kVN (As := []) (rest := []) (s_Po_findDistances l z ad E M1 M2 hL g2) hx hb hml hown hts w_713 n_710 w_712 w_s_d32e6f w_3 md_4b14b3 ⟨Nat.le_of_ble_eq_true rfl, Nat.le_of_ble_eq_true rfl⟩ hG hZ hP hD hS hA 41 (wv_o (ci := 9) (yi_41 hL) (yt_41 hL)) rfl rfl rfl hl.1 rfl (Nat.le_of_ble_eq_true rfl) d_1_31_18 ⟨Nat.le_of_ble_eq_true rfl, Nat.le_of_ble_eq_true rfl⟩ (fun _ H locs hP hD hS => ?_)
    have hP : va_P z.1 classes (wv z ad E M2) H := hP
    have hD : va_D A (wv z ad E M2) := hD
    refine W.eq (g2 := F0 m 21 ls []) rfl ?_
    refine lv_aload_n hx hb d_1_31_21 rfl (lv_at hl 0 rfl) ?_
    refine m_gr (j := 41) (C := "Ballothall") (T := TX11) (N := 14) (ci := 11) (k := 1) hx hb hts iX11 hown hG hP (yi_1 hL) (yt_1 hL) rfl (by decide) w_398 (fun _ h9 => h9) rfl rfl (yr_1_1 hL) d_1_31_22 ?_
    refine m_grN (j := 50) (C := "Ballothall$Poll") (T := TX9) (N := 12) (ci := 9) (k := 11) hx hb hts iX9 hown hG hP (yi_41 hL) (yt_41 hL) rfl (by decide) n_119 rfl (fun _ h9 => h9) rfl rfl (yr_41_11 hL) d_1_31_25 ?_
    refine lv_aload_n hx hb d_1_31_28 rfl (lv_at hl 0 rfl) ?_
    refine m_gr (j := 2) (C := "Ballothall") (T := TX11) (N := 14) (ci := 11) (k := 0) hx hb hts iX11 hown hG hP (yi_1 hL) (yt_1 hL) rfl (by decide) w_397 (fun _ h9 => h9) rfl rfl (yr_1_0 hL) d_1_31_29 ?_
    obtain ⟨r3, g3, h⟩ := bd_e h
    refine kVN (As := []) (rest := [.ref (ad 50)]) (s_Bx_everybody l z ad E M2 r3 hL g3) hx hb hml hown hts w_668 n_665 w_667 w_s_8b8b67 w_2 md_b59579 ⟨Nat.le_of_ble_eq_true rfl, Nat.le_of_ble_eq_true rfl⟩ hG hZ hP hD hS hA 2 (wv_o (ci := 0) (yi_2 hL) (yt_2 hL)) rfl rfl rfl hl.1 rfl (Nat.le_of_ble_eq_true rfl) d_1_31_32 ⟨Nat.le_of_ble_eq_true rfl, Nat.le_of_ble_eq_true rfl⟩ (fun _ H locs hP hD hS => ?_)
    have hP : va_P z.1 classes (wv z ad E M2) H := hP
    have hD : va_D A (wv z ad E M2) := hD
    refine W.eq (g2 := F0 m 35 ls [.int (oI r3), .ref (ad 50)]) rfl ?_
    obtain ⟨ok4, h⟩ := ck_e h
    refine m_la hx hb hG hP (yi_50 hL) (yt_50 hL) ok4 d_1_31_35 ?_
    obtain ⟨rfl, rfl⟩ := in2 h
    exact W.lret hx hb hr (fun t ht hW => qkA hP hD hS (fun k => k) rfl rfl ht) hS.2.2 d_1_31_36
  exact key _ _ _ hts hP hS
set_option maxRecDepth 100000 in
set_option maxHeartbeats 4000000 in
theorem b_La_pairs_j64 (l : Launch) (z : Zz) (E0 : Ev) (ad0 : Nat → Nat) (ad : Nat → Nat) (E : Ev) (M : Mm) (q1 : Nat) (q2 : Nat) (x3 : Int) (x4 : Int) (x5 : Int) (y0 : Int) (y1 : Int) (y2 : Nat) (t : Nat) (w3 : Int) (w5 : Int) (F : Ev) (N : Mm) {Q : State → Prop} {p : Program} {e : Env} {s : State} {m : MethodId} {below : List Frame} {meth : Method} {c : Code} {A : Nat → Prop} {args : Array Value} (hx : p.tables.exec = Jvm.exec) (hb : c.code = method_7_code) (hml : c.maxLocals = 12) (hts : ∀ w ∈ WG, w.before args s = true) (hown : s.vm.findClass "BallothallLaw" = some m.cls) (hlocks : meth.locks = false) (hA : ∀ q, s.heap.size ≤ q → A q) (hG : KG z s) (hZ : FZ z A s) (mc ms c0 s0 c1 s1 : Nat) (hc : c0 + 0 ≤ c1) (hs : s0 + 0 ≤ s1) (hm : c1 ≤ mc) (hm2 : s1 ≤ ms) (hag0 : ∀ i, i < nE E0 → ad i = ad0 i) (hE0 : nE E0 ≤ nE E) (h : La_pairs_j64 E M q1 q2 x3 x4 x5 y0 y1 y2 = some (t, w3, w5, F, N)) (k0 : ∀ (ad1 : Nat → Nat), (∀ i, i < nE E0 → ad1 i = ad0 i) → nE E0 ≤ nE F → t = 0 → ∀ (H : Heap) (locs : List Loc) (ls : Array Slot), va_P z.1 classes (wv z ad1 F N) H → va_D A (wv z ad1 F N) → va_S A s.heap H locs → lv_has ls 12 [(0, .ref (ad1 1)), (1, .ref (ad1 q1)), (2, .ref (ad1 q2)), (3, .int (oI w3)), (4, .int (oI x4)), (5, .int (oI w5))] → W p l e (rmK 5 144 mc ms) s m args below meth c H locs c1 s1 Q (F0 m 30 ls [])) (k1 : ∀ (ad1 : Nat → Nat), (∀ i, i < nE E0 → ad1 i = ad0 i) → nE E0 ≤ nE F → t = 1 → ∀ (H : Heap) (locs : List Loc) (ls : Array Slot), va_P z.1 classes (wv z ad1 F N) H → va_D A (wv z ad1 F N) → va_S A s.heap H locs → lv_has ls 12 [(0, .ref (ad1 1)), (1, .ref (ad1 q1)), (2, .ref (ad1 q2)), (3, .int (oI w3)), (4, .int (oI x4))] → W p l e (rmK 5 144 mc ms) s m args below meth c H locs c1 s1 Q (F0 m 99 ls [])) : ∀ (H : Heap) (locs : List Loc) (ls : Array Slot), va_P z.1 classes (wv z ad E M) H → va_D A (wv z ad E M) → va_S A s.heap H locs → lv_has ls 12 [(0, .ref (ad 1)), (1, .ref (ad q1)), (2, .ref (ad q2)), (3, .int (oI x3)), (4, .int (oI x4)), (5, .int (oI x5))] → W p l e (rmK 5 144 mc ms) s m args below meth c H locs c0 s0 Q (F0 m 64 ls [.int (oI y0), .int (oI y1), .ref (ad y2)]) := by
  intro H locs ls hP hD hS hl
  unfold La_pairs_j64 at h
  obtain ⟨hL, h⟩ := ck_e h
  obtain ⟨h_q1, h⟩ := ck_e h
  obtain ⟨h_q2, h⟩ := ck_e h
  obtain ⟨h_y2, h⟩ := ck_e h
  obtain ⟨ok10, h⟩ := ck_e h
  refine m_is hx hb hG hP hD hS h_y2.1 (isIA_T h_y2) ok10 d_L7_64 (fun H locs hP hD hS => ?_)
  have hP : va_P z.1 classes (wv z ad E (u2 M y2 y1.toNat y0)) H := hP
  have hD : va_D A (wv z ad E (u2 M y2 y1.toNat y0)) := hD
  refine lv_iload_n hx hb d_L7_65 rfl (lv_at hl 3 rfl) ?_
  obtain ⟨ok11, h⟩ := ck_e h
  refine lv_if_eq (tgt := 91) hx hb d_L7_66 (by decide) (fun c9 => ?_) (fun c9 => ?_)
  · have h := ite_t ((oI_eq0 ok11).mp c9) h
    refine lv_iconst (v := oI 0) hx hb d_L7_91 (by decide +kernel) ?_
    refine lv_istore_n (lv' := [(3, .int (oI 0)), (0, .ref (ad 1)), (1, .ref (ad q1)), (2, .ref (ad q2)), (4, .int (oI x4)), (5, .int (oI x5))]) hx hb d_L7_92 rfl hl (by decide) rfl (fun ls hl => ?_)
    refine lv_iinc (v := oI (x5 + 1)) (lv' := [(5, .int (oI (x5 + 1))), (3, .int (oI 0)), (0, .ref (ad 1)), (1, .ref (ad q1)), (2, .ref (ad q2)), (4, .int (oI x4))]) hx hb d_L7_93 hl (k := 5) rfl (oI_add x5 1) (by decide) rfl (fun ls hl => ?_)
    refine lv_goto (tgt := 30) hx hb d_L7_96 (by decide) ?_
    obtain ⟨rfl, rfl, rfl, rfl, rfl⟩ := in5 h
    exact W.wide (by omega) (by omega) (k0 ad hag0 hE0 rfl H locs ls hP hD hS (lv_sub hl [2, 3, 4, 1, 5, 0] rfl))
  · have h := ite_f (fun q => c9 ((oI_eq0 ok11).mpr q)) h
    refine lv_aload_n hx hb d_L7_69 rfl (lv_at hl 0 rfl) ?_
    refine lv_iload hx hb d_L7_70 (lv_at hl 4 rfl) ?_
    refine lv_iload hx hb d_L7_72 (lv_at hl 5 rfl) ?_
    obtain ⟨⟨r12, M12⟩, g12, h⟩ := bd_e h
    refine kV (As := [.int (oI x4), .int (oI x5)]) (rest := []) (s_B_ahead l z ad E (u2 M y2 y1.toNat y0) x4 x5 r12 M12 hL g12) hx hb hml hown hts w_1308 w_1305 w_1306 w_1307 w_1 md_c1a91d ⟨Nat.le_of_ble_eq_true rfl, Nat.le_of_ble_eq_true rfl⟩ hG hZ hP hD hS hA 1 (wv_o (ci := 11) (yi_1 hL) (yt_1 hL)) rfl rfl rfl hl.1 rfl (Nat.le_of_ble_eq_true rfl) d_L7_74 ⟨(show _ ≤ mc by omega), (show _ ≤ ms by omega)⟩ (fun _ H locs hP hD hS => ?_)
    have hP : va_P z.1 classes (wv z ad E M12) H := hP
    have hD : va_D A (wv z ad E M12) := hD
    refine W.eq (g2 := F0 m 77 ls [.int (oI r12)]) rfl ?_
    refine lv_aload_n hx hb d_L7_77 rfl (lv_at hl 2 rfl) ?_
    refine lv_iload hx hb d_L7_78 (lv_at hl 4 rfl) ?_
    obtain ⟨ok13, h⟩ := ck_e h
    obtain ⟨p14, g14, h⟩ := bd_e h
    obtain ⟨h_p14, h⟩ := ck_e h
    refine m_ar (k := p14) hx hb hG hP h_q2.1 (isQ_T h_q2) ok13 g14 d_L7_80 ?_
    refine lv_iload hx hb d_L7_81 (lv_at hl 5 rfl) ?_
    obtain ⟨ok15, h⟩ := ck_e h
    refine m_ia hx hb hG hP h_p14.1 (isIA_T h_p14) ok15 d_L7_83 ?_
    obtain ⟨ok16, h⟩ := ck_e h
    obtain ⟨ok17, h⟩ := ck_e h
    refine lv_icmp_ne (tgt := 91) hx hb d_L7_84 (by decide) (fun c9 => ?_) (fun c9 => ?_)
    · have h := ite_f (fun q => c9 ((oI_eq (a := r12) (b := (M12 p14 x5.toNat)) ok16 ok17).mpr q)) h
      refine lv_iconst (v := oI 0) hx hb d_L7_91 (by decide +kernel) ?_
      refine lv_istore_n (lv' := [(3, .int (oI 0)), (0, .ref (ad 1)), (1, .ref (ad q1)), (2, .ref (ad q2)), (4, .int (oI x4)), (5, .int (oI x5))]) hx hb d_L7_92 rfl hl (by decide) rfl (fun ls hl => ?_)
      refine lv_iinc (v := oI (x5 + 1)) (lv' := [(5, .int (oI (x5 + 1))), (3, .int (oI 0)), (0, .ref (ad 1)), (1, .ref (ad q1)), (2, .ref (ad q2)), (4, .int (oI x4))]) hx hb d_L7_93 hl (k := 5) rfl (oI_add x5 1) (by decide) rfl (fun ls hl => ?_)
      refine lv_goto (tgt := 30) hx hb d_L7_96 (by decide) ?_
      obtain ⟨rfl, rfl, rfl, rfl, rfl⟩ := in5 h
      exact W.wide (by omega) (by omega) (k0 ad hag0 hE0 rfl H locs ls hP hD hS (lv_sub hl [2, 3, 4, 1, 5, 0] rfl))
    · have h := ite_t ((oI_eq (a := r12) (b := (M12 p14 x5.toNat)) ok16 ok17).mp c9) h
      refine lv_iconst (v := oI 1) hx hb d_L7_87 (by decide +kernel) ?_
      refine lv_goto (tgt := 92) hx hb d_L7_88 (by decide) ?_
      refine lv_istore_n (lv' := [(3, .int (oI 1)), (0, .ref (ad 1)), (1, .ref (ad q1)), (2, .ref (ad q2)), (4, .int (oI x4)), (5, .int (oI x5))]) hx hb d_L7_92 rfl hl (by decide) rfl (fun ls hl => ?_)
      refine lv_iinc (v := oI (x5 + 1)) (lv' := [(5, .int (oI (x5 + 1))), (3, .int (oI 1)), (0, .ref (ad 1)), (1, .ref (ad q1)), (2, .ref (ad q2)), (4, .int (oI x4))]) hx hb d_L7_93 hl (k := 5) rfl (oI_add x5 1) (by decide) rfl (fun ls hl => ?_)
      refine lv_goto (tgt := 30) hx hb d_L7_96 (by decide) ?_
      obtain ⟨rfl, rfl, rfl, rfl, rfl⟩ := in5 h
      exact W.wide (by omega) (by omega) (k0 ad hag0 hE0 rfl H locs ls hP hD hS (lv_sub hl [2, 3, 4, 1, 5, 0] rfl))
set_option maxRecDepth 100000 in
set_option maxHeartbeats 4000000 in
theorem b_La_pairs_30b (l : Launch) (z : Zz) (E0 : Ev) (ad0 : Nat → Nat) (ad : Nat → Nat) (E : Ev) (M : Mm) (q1 : Nat) (q2 : Nat) (x4 : Int) (x3 : Int) (x5 : Int) (t : Nat) (w3 : Int) (w5 : Int) (F : Ev) (N : Mm) {Q : State → Prop} {p : Program} {e : Env} {s : State} {m : MethodId} {below : List Frame} {meth : Method} {c : Code} {A : Nat → Prop} {args : Array Value} (hx : p.tables.exec = Jvm.exec) (hb : c.code = method_7_code) (hml : c.maxLocals = 12) (hts : ∀ w ∈ WG, w.before args s = true) (hown : s.vm.findClass "BallothallLaw" = some m.cls) (hlocks : meth.locks = false) (hA : ∀ q, s.heap.size ≤ q → A q) (hG : KG z s) (hZ : FZ z A s) (mc ms c0 s0 c1 s1 : Nat) (hc : c0 + 0 ≤ c1) (hs : s0 + 0 ≤ s1) (hm : c1 ≤ mc) (hm2 : s1 ≤ ms) (hag0 : ∀ i, i < nE E0 → ad i = ad0 i) (hE0 : nE E0 ≤ nE E) (h : La_pairs_30b E M q1 q2 x4 x3 x5 = some (t, w3, w5, F, N)) (k0 : ∀ (ad1 : Nat → Nat), (∀ i, i < nE E0 → ad1 i = ad0 i) → nE E0 ≤ nE F → t = 0 → ∀ (H : Heap) (locs : List Loc) (ls : Array Slot), va_P z.1 classes (wv z ad1 F N) H → va_D A (wv z ad1 F N) → va_S A s.heap H locs → lv_has ls 12 [(0, .ref (ad1 1)), (1, .ref (ad1 q1)), (2, .ref (ad1 q2)), (3, .int (oI w3)), (4, .int (oI x4)), (5, .int (oI w5))] → W p l e (rmK 5 144 mc ms) s m args below meth c H locs c1 s1 Q (F0 m 30 ls [])) (k1 : ∀ (ad1 : Nat → Nat), (∀ i, i < nE E0 → ad1 i = ad0 i) → nE E0 ≤ nE F → t = 1 → ∀ (H : Heap) (locs : List Loc) (ls : Array Slot), va_P z.1 classes (wv z ad1 F N) H → va_D A (wv z ad1 F N) → va_S A s.heap H locs → lv_has ls 12 [(0, .ref (ad1 1)), (1, .ref (ad1 q1)), (2, .ref (ad1 q2)), (3, .int (oI w3)), (4, .int (oI x4))] → W p l e (rmK 5 144 mc ms) s m args below meth c H locs c1 s1 Q (F0 m 99 ls [])) : ∀ (H : Heap) (locs : List Loc) (ls : Array Slot), va_P z.1 classes (wv z ad E M) H → va_D A (wv z ad E M) → va_S A s.heap H locs → lv_has ls 12 [(0, .ref (ad 1)), (1, .ref (ad q1)), (2, .ref (ad q2)), (3, .int (oI x3)), (4, .int (oI x4)), (5, .int (oI x5))] → W p l e (rmK 5 144 mc ms) s m args below meth c H locs c0 s0 Q (F0 m 30 ls []) := by
  intro H locs ls hP hD hS hl
  unfold La_pairs_30b at h
  obtain ⟨hL, h⟩ := ck_e h
  obtain ⟨h_q1, h⟩ := ck_e h
  obtain ⟨h_q2, h⟩ := ck_e h
  refine lv_iload hx hb d_L7_30 (lv_at hl 5 rfl) ?_
  refine lv_aload_n hx hb d_L7_32 rfl (lv_at hl 1 rfl) ?_
  refine m_giN (C := "BallothallLaw$Box") (T := TX12) (N := 4) (ci := 12) (k := 0) hx hb hts iX12 hown hG hP h_q1.1 h_q1.2 rfl (by decide) n_775 rfl (fun _ h9 => h9) rfl rfl d_L7_33 ?_
  obtain ⟨ok5, h⟩ := ck_e h
  obtain ⟨ok6, h⟩ := ck_e h
  refine lv_icmp_ge (tgt := 99) hx hb d_L7_36 (by decide) (fun c9 => ?_) (fun c9 => ?_)
  · have h := ite_t ((oI_le (a := (M q1 0)) (b := x5) ok6 ok5).mp c9) h
    obtain ⟨rfl, rfl, rfl, rfl, rfl⟩ := in5 h
    exact W.wide (by omega) (by omega) (k1 ad hag0 hE0 rfl H locs ls hP hD hS (lv_sub hl [0, 1, 2, 3, 4] rfl))
  · have h := ite_f (fun q => c9 ((oI_le (a := (M q1 0)) (b := x5) ok6 ok5).mpr q)) h
    refine lv_aload_n hx hb d_L7_39 rfl (lv_at hl 2 rfl) ?_
    refine lv_iload hx hb d_L7_40 (lv_at hl 4 rfl) ?_
    obtain ⟨ok7, h⟩ := ck_e h
    obtain ⟨p8, g8, h⟩ := bd_e h
    obtain ⟨h_p8, h⟩ := ck_e h
    refine m_ar (k := p8) hx hb hG hP h_q2.1 (isQ_T h_q2) ok7 g8 d_L7_42 ?_
    refine lv_iload hx hb d_L7_43 (lv_at hl 5 rfl) ?_
    refine lv_iload hx hb d_L7_45 (lv_at hl 4 rfl) ?_
    refine lv_iload hx hb d_L7_47 (lv_at hl 5 rfl) ?_
    refine lv_icmp_ne (tgt := 56) hx hb d_L7_49 (by decide) (fun c9 => ?_) (fun c9 => ?_)
    · have h := ite_f (fun q => c9 ((oI_eq (a := x4) (b := x5) (inb_rg ok7) ok5).mpr q)) h
      refine lv_aload_n hx hb d_L7_56 rfl (lv_at hl 1 rfl) ?_
      refine lv_iload hx hb d_L7_57 (lv_at hl 4 rfl) ?_
      refine lv_iload hx hb d_L7_59 (lv_at hl 5 rfl) ?_
      obtain ⟨r9, g9, h⟩ := bd_e h
      refine kV (As := [.int (oI x4), .int (oI x5)]) (rest := [.int (oI x5), .ref (ad p8)]) (s_Lb_ahead l z ad E M q1 x4 x5 r9 hL g9) hx hb hml hown hts w_1304 w_1301 w_1302 w_1303 w_12 md_8e4222 ⟨Nat.le_of_ble_eq_true rfl, Nat.le_of_ble_eq_true rfl⟩ hG hZ hP hD hS hA q1 (wv_o (ci := 12) h_q1.1 h_q1.2) rfl rfl rfl hl.1 rfl (Nat.le_of_ble_eq_true rfl) d_L7_61 ⟨(show _ ≤ mc by omega), (show _ ≤ ms by omega)⟩ (fun _ H locs hP hD hS => ?_)
      have hP : va_P z.1 classes (wv z ad E M) H := hP
      have hD : va_D A (wv z ad E M) := hD
      refine W.eq (g2 := F0 m 64 ls [.int (oI r9), .int (oI x5), .ref (ad p8)]) rfl ?_
      exact b_La_pairs_j64 l z E0 ad0 ad E M q1 q2 x3 x4 x5 r9 x5 p8 t w3 w5 F N hx hb hml hts hown hlocks hA hG hZ mc ms _ _ c1 s1 (by omega) (by omega) hm hm2 hag0 hE0 h k0 k1 H locs ls hP hD hS (lv_sub hl [0, 1, 2, 3, 4, 5] rfl)
    · have h := ite_t ((oI_eq (a := x4) (b := x5) (inb_rg ok7) ok5).mp c9) h
      refine lv_iconst (v := oI 0) hx hb d_L7_52 (by decide +kernel) ?_
      refine lv_goto (tgt := 64) hx hb d_L7_53 (by decide) ?_
      exact b_La_pairs_j64 l z E0 ad0 ad E M q1 q2 x3 x4 x5 0 x5 p8 t w3 w5 F N hx hb hml hts hown hlocks hA hG hZ mc ms _ _ c1 s1 (by omega) (by omega) hm hm2 hag0 hE0 h k0 k1 H locs ls hP hD hS (lv_sub hl [0, 1, 2, 3, 4, 5] rfl)
set_option maxRecDepth 100000 in
set_option maxHeartbeats 4000000 in
theorem s_La_pairs_30 (l : Launch) (z : Zz) (E0 : Ev) (ad0 : Nat → Nat) (q1 : Nat) (q2 : Nat) (x4 : Int) {Q : State → Prop} {p : Program} {e : Env} {s : State} {m : MethodId} {below : List Frame} {meth : Method} {c : Code} {A : Nat → Prop} {args : Array Value} (hx : p.tables.exec = Jvm.exec) (hb : c.code = method_7_code) (hml : c.maxLocals = 12) (hts : ∀ w ∈ WG, w.before args s = true) (hown : s.vm.findClass "BallothallLaw" = some m.cls) (hlocks : meth.locks = false) (hA : ∀ q, s.heap.size ≤ q → A q) (hG : KG z s) (hZ : FZ z A s) (mc ms c1 s1 : Nat) (hm : c1 ≤ mc) (hm2 : s1 ≤ ms) : ∀ (fu c0 s0 : Nat) (ad : Nat → Nat) (E : Ev) (M : Mm) (x3 : Int) (x5 : Int) (t : Nat) (w3 : Int) (w5 : Int) (F : Ev) (N : Mm), c0 + fu * 0 ≤ c1 → s0 + fu * 0 ≤ s1 → (∀ i, i < nE E0 → ad i = ad0 i) → nE E0 ≤ nE E → l_La_pairs_30 q1 q2 x4 fu E M x3 x5 = some (t, w3, w5, F, N) → (∀ (ad1 : Nat → Nat), (∀ i, i < nE E0 → ad1 i = ad0 i) → nE E0 ≤ nE F → t = 1 → ∀ (H : Heap) (locs : List Loc) (ls : Array Slot), va_P z.1 classes (wv z ad1 F N) H → va_D A (wv z ad1 F N) → va_S A s.heap H locs → lv_has ls 12 [(0, .ref (ad1 1)), (1, .ref (ad1 q1)), (2, .ref (ad1 q2)), (3, .int (oI w3)), (4, .int (oI x4))] → W p l e (rmK 5 144 mc ms) s m args below meth c H locs c1 s1 Q (F0 m 99 ls [])) → ∀ (H : Heap) (locs : List Loc) (ls : Array Slot), va_P z.1 classes (wv z ad E M) H → va_D A (wv z ad E M) → va_S A s.heap H locs → lv_has ls 12 [(0, .ref (ad 1)), (1, .ref (ad q1)), (2, .ref (ad q2)), (3, .int (oI x3)), (4, .int (oI x4)), (5, .int (oI x5))] → W p l e (rmK 5 144 mc ms) s m args below meth c H locs c0 s0 Q (F0 m 30 ls []) := by
  intro fu
  induction fu with
  | zero =>
    intro c0 s0 ad E M x3 x5 t w3 w5 F N hc hs hag0 hE0 h
    have h : (none : Option (Nat × Int × Int × Ev × Mm)) = some _ := h
    cases h
  | succ fu ih =>
    intro c0 s0 ad E M x3 x5 t w3 w5 F N hc hs hag0 hE0 h k1 H locs ls hP hD hS hl
    obtain ⟨⟨t0, w30, w50, F9, N9⟩, g0, h⟩ := bd_e h
    refine W.wide (Nat.le_refl _) (Nat.le_refl _) (b_La_pairs_30b l z E0 ad0 ad E M q1 q2 x4 x3 x5 t0 w30 w50 F9 N9 hx hb hml hts hown hlocks hA hG hZ mc ms c0 s0 (c0 + 0) (s0 + 0) (Nat.le_refl _) (Nat.le_refl _) (by omega) (by omega) hag0 hE0 g0 (fun ad1 ha he e0 => ?_) (fun ad1 ha he e0 => ?_) H locs ls hP hD hS hl)
    · subst e0
      have h := ite_t rfl h
      exact ih (c0 + 0) (s0 + 0) ad1 F9 N9 w30 w50 t w3 w5 F N (by omega) (by omega) ha he h k1
    · subst e0
      have h := ite_f (by decide) h
      obtain ⟨rfl, rfl, rfl, rfl, rfl⟩ := in5 h
      exact fun H locs ls hP hD hS hl => W.wide (by omega) (by omega) (k1 ad1 ha he rfl H locs ls hP hD hS hl)
set_option maxRecDepth 100000 in
set_option maxHeartbeats 4000000 in
theorem b_La_pairs_18b (l : Launch) (z : Zz) (E0 : Ev) (ad0 : Nat → Nat) (ad : Nat → Nat) (E : Ev) (M : Mm) (q1 : Nat) (q2 : Nat) (x3 : Int) (x4 : Int) (t : Nat) (w3 : Int) (w4 : Int) (F : Ev) (N : Mm) {Q : State → Prop} {p : Program} {e : Env} {s : State} {m : MethodId} {below : List Frame} {meth : Method} {c : Code} {A : Nat → Prop} {args : Array Value} (hx : p.tables.exec = Jvm.exec) (hb : c.code = method_7_code) (hml : c.maxLocals = 12) (hts : ∀ w ∈ WG, w.before args s = true) (hown : s.vm.findClass "BallothallLaw" = some m.cls) (hlocks : meth.locks = false) (hA : ∀ q, s.heap.size ≤ q → A q) (hG : KG z s) (hZ : FZ z A s) (mc ms c0 s0 c1 s1 : Nat) (hc : c0 + 0 ≤ c1) (hs : s0 + 0 ≤ s1) (hm : c1 ≤ mc) (hm2 : s1 ≤ ms) (hag0 : ∀ i, i < nE E0 → ad i = ad0 i) (hE0 : nE E0 ≤ nE E) (h : La_pairs_18b E M q1 q2 x3 x4 = some (t, w3, w4, F, N)) (k0 : ∀ (ad1 : Nat → Nat), (∀ i, i < nE E0 → ad1 i = ad0 i) → nE E0 ≤ nE F → t = 0 → ∀ (H : Heap) (locs : List Loc) (ls : Array Slot), va_P z.1 classes (wv z ad1 F N) H → va_D A (wv z ad1 F N) → va_S A s.heap H locs → lv_has ls 12 [(0, .ref (ad1 1)), (1, .ref (ad1 q1)), (2, .ref (ad1 q2)), (3, .int (oI w3)), (4, .int (oI w4))] → W p l e (rmK 5 144 mc ms) s m args below meth c H locs c1 s1 Q (F0 m 18 ls [])) (k1 : ∀ (ad1 : Nat → Nat), (∀ i, i < nE E0 → ad1 i = ad0 i) → nE E0 ≤ nE F → t = 1 → ∀ (H : Heap) (locs : List Loc) (ls : Array Slot), va_P z.1 classes (wv z ad1 F N) H → va_D A (wv z ad1 F N) → va_S A s.heap H locs → lv_has ls 12 [(0, .ref (ad1 1)), (1, .ref (ad1 q1)), (2, .ref (ad1 q2)), (3, .int (oI w3))] → W p l e (rmK 5 144 mc ms) s m args below meth c H locs c1 s1 Q (F0 m 105 ls [])) : ∀ (H : Heap) (locs : List Loc) (ls : Array Slot), va_P z.1 classes (wv z ad E M) H → va_D A (wv z ad E M) → va_S A s.heap H locs → lv_has ls 12 [(0, .ref (ad 1)), (1, .ref (ad q1)), (2, .ref (ad q2)), (3, .int (oI x3)), (4, .int (oI x4))] → W p l e (rmK 5 144 mc ms) s m args below meth c H locs c0 s0 Q (F0 m 18 ls []) := by
  intro H locs ls hP hD hS hl
  unfold La_pairs_18b at h
  obtain ⟨hL, h⟩ := ck_e h
  obtain ⟨h_q1, h⟩ := ck_e h
  obtain ⟨h_q2, h⟩ := ck_e h
  refine lv_iload hx hb d_L7_18 (lv_at hl 4 rfl) ?_
  refine lv_aload_n hx hb d_L7_20 rfl (lv_at hl 1 rfl) ?_
  refine m_giN (C := "BallothallLaw$Box") (T := TX12) (N := 4) (ci := 12) (k := 0) hx hb hts iX12 hown hG hP h_q1.1 h_q1.2 rfl (by decide) n_775 rfl (fun _ h9 => h9) rfl rfl d_L7_21 ?_
  obtain ⟨ok3, h⟩ := ck_e h
  obtain ⟨ok4, h⟩ := ck_e h
  refine lv_icmp_ge (tgt := 105) hx hb d_L7_24 (by decide) (fun c9 => ?_) (fun c9 => ?_)
  · have h := ite_t ((oI_le (a := (M q1 0)) (b := x4) ok4 ok3).mp c9) h
    obtain ⟨rfl, rfl, rfl, rfl, rfl⟩ := in5 h
    exact W.wide (by omega) (by omega) (k1 ad hag0 hE0 rfl H locs ls hP hD hS (lv_sub hl [0, 1, 2, 3] rfl))
  · have h := ite_f (fun q => c9 ((oI_le (a := (M q1 0)) (b := x4) ok4 ok3).mpr q)) h
    refine lv_iconst (v := oI 0) hx hb d_L7_27 (by decide +kernel) ?_
    refine lv_istore (lv' := [(5, .int (oI 0)), (0, .ref (ad 1)), (1, .ref (ad q1)), (2, .ref (ad q2)), (3, .int (oI x3)), (4, .int (oI x4))]) hx hb d_L7_28 hl (by decide) rfl (fun ls hl => ?_)
    obtain ⟨⟨t18, v18_3, v18_5, E18, M18⟩, g18, h⟩ := bd_e h
    obtain ⟨hgw18, h⟩ := ck_e h
    obtain ⟨hL18, h⟩ := ck_e h
    obtain ⟨ok18, h⟩ := ck_e h
    refine s_La_pairs_30 l z E ad q1 q2 x4 hx hb hml hts hown hlocks hA hG hZ mc ms (c0 + 0) (s0 + 0) (by omega) (by omega) 5000 _ _ ad E M x3 0 t18 v18_3 v18_5 E18 M18 (by omega) (by omega) (fun _ _ => rfl) (Nat.le_refl _) g18 (fun ad18 hag18 hEE18 e18 H locs ls hP hD hS hl => ?_) H locs ls hP hD hS (lv_sub hl [1, 2, 3, 4, 5, 0] rfl)
    have hag0 : ∀ i, i < nE E0 → ad18 i = ad0 i := fun i hi => (hag18 i (Nat.lt_of_lt_of_le hi hE0)).trans (hag0 i hi)
    have hE0 : nE E0 ≤ nE E18 := Nat.le_trans hE0 hgw18.1
    have hL : Lay E18 := hL18
    have h_q1 : isO 12 E18 q1 := isO_up hgw18 h_q1
    have h_q2 : isQ 6 E18 q2 := isA_up hgw18 h_q2
    refine lv_iinc (v := oI (x4 + 1)) (lv' := [(4, .int (oI (x4 + 1))), (0, .ref (ad18 1)), (1, .ref (ad18 q1)), (2, .ref (ad18 q2)), (3, .int (oI v18_3))]) hx hb d_L7_99 hl (k := 4) rfl (oI_add x4 1) (by decide) rfl (fun ls hl => ?_)
    refine lv_goto (tgt := 18) hx hb d_L7_102 (by decide) ?_
    obtain ⟨rfl, rfl, rfl, rfl, rfl⟩ := in5 h
    exact W.wide (by omega) (by omega) (k0 ad18 hag0 hE0 rfl H locs ls hP hD hS (lv_sub hl [1, 2, 3, 4, 0] rfl))
set_option maxRecDepth 100000 in
set_option maxHeartbeats 4000000 in
theorem s_La_pairs_18 (l : Launch) (z : Zz) (E0 : Ev) (ad0 : Nat → Nat) (q1 : Nat) (q2 : Nat) {Q : State → Prop} {p : Program} {e : Env} {s : State} {m : MethodId} {below : List Frame} {meth : Method} {c : Code} {A : Nat → Prop} {args : Array Value} (hx : p.tables.exec = Jvm.exec) (hb : c.code = method_7_code) (hml : c.maxLocals = 12) (hts : ∀ w ∈ WG, w.before args s = true) (hown : s.vm.findClass "BallothallLaw" = some m.cls) (hlocks : meth.locks = false) (hA : ∀ q, s.heap.size ≤ q → A q) (hG : KG z s) (hZ : FZ z A s) (mc ms c1 s1 : Nat) (hm : c1 ≤ mc) (hm2 : s1 ≤ ms) : ∀ (fu c0 s0 : Nat) (ad : Nat → Nat) (E : Ev) (M : Mm) (x3 : Int) (x4 : Int) (t : Nat) (w3 : Int) (w4 : Int) (F : Ev) (N : Mm), c0 + fu * 0 ≤ c1 → s0 + fu * 0 ≤ s1 → (∀ i, i < nE E0 → ad i = ad0 i) → nE E0 ≤ nE E → l_La_pairs_18 q1 q2 fu E M x3 x4 = some (t, w3, w4, F, N) → (∀ (ad1 : Nat → Nat), (∀ i, i < nE E0 → ad1 i = ad0 i) → nE E0 ≤ nE F → t = 1 → ∀ (H : Heap) (locs : List Loc) (ls : Array Slot), va_P z.1 classes (wv z ad1 F N) H → va_D A (wv z ad1 F N) → va_S A s.heap H locs → lv_has ls 12 [(0, .ref (ad1 1)), (1, .ref (ad1 q1)), (2, .ref (ad1 q2)), (3, .int (oI w3))] → W p l e (rmK 5 144 mc ms) s m args below meth c H locs c1 s1 Q (F0 m 105 ls [])) → ∀ (H : Heap) (locs : List Loc) (ls : Array Slot), va_P z.1 classes (wv z ad E M) H → va_D A (wv z ad E M) → va_S A s.heap H locs → lv_has ls 12 [(0, .ref (ad 1)), (1, .ref (ad q1)), (2, .ref (ad q2)), (3, .int (oI x3)), (4, .int (oI x4))] → W p l e (rmK 5 144 mc ms) s m args below meth c H locs c0 s0 Q (F0 m 18 ls []) := by
  intro fu
  induction fu with
  | zero =>
    intro c0 s0 ad E M x3 x4 t w3 w4 F N hc hs hag0 hE0 h
    have h : (none : Option (Nat × Int × Int × Ev × Mm)) = some _ := h
    cases h
  | succ fu ih =>
    intro c0 s0 ad E M x3 x4 t w3 w4 F N hc hs hag0 hE0 h k1 H locs ls hP hD hS hl
    obtain ⟨⟨t0, w30, w40, F9, N9⟩, g0, h⟩ := bd_e h
    refine W.wide (Nat.le_refl _) (Nat.le_refl _) (b_La_pairs_18b l z E0 ad0 ad E M q1 q2 x3 x4 t0 w30 w40 F9 N9 hx hb hml hts hown hlocks hA hG hZ mc ms c0 s0 (c0 + 0) (s0 + 0) (Nat.le_refl _) (Nat.le_refl _) (by omega) (by omega) hag0 hE0 g0 (fun ad1 ha he e0 => ?_) (fun ad1 ha he e0 => ?_) H locs ls hP hD hS hl)
    · subst e0
      have h := ite_t rfl h
      exact ih (c0 + 0) (s0 + 0) ad1 F9 N9 w30 w40 t w3 w4 F N (by omega) (by omega) ha he h k1
    · subst e0
      have h := ite_f (by decide) h
      obtain ⟨rfl, rfl, rfl, rfl, rfl⟩ := in5 h
      exact fun H locs ls hP hD hS hl => W.wide (by omega) (by omega) (k1 ad1 ha he rfl H locs ls hP hD hS hl)
set_option maxRecDepth 100000 in
set_option maxHeartbeats 4000000 in
theorem b_La_pairs_j251 (l : Launch) (z : Zz) (E0 : Ev) (ad0 : Nat → Nat) (ad : Nat → Nat) (E : Ev) (M : Mm) (q1 : Nat) (q2 : Nat) (x3 : Int) (x4 : Int) (x5 : Int) (x6 : Int) (x7 : Int) (x9 : Int) (y0 : Int) (t : Nat) (w3 : Int) (w7 : Int) (w8 : Int) (w9 : Int) (F : Ev) (N : Mm) {Q : State → Prop} {p : Program} {e : Env} {s : State} {m : MethodId} {below : List Frame} {meth : Method} {c : Code} {A : Nat → Prop} {args : Array Value} (hx : p.tables.exec = Jvm.exec) (hb : c.code = method_7_code) (hml : c.maxLocals = 12) (hts : ∀ w ∈ WG, w.before args s = true) (hown : s.vm.findClass "BallothallLaw" = some m.cls) (hlocks : meth.locks = false) (hA : ∀ q, s.heap.size ≤ q → A q) (hG : KG z s) (hZ : FZ z A s) (mc ms c0 s0 c1 s1 : Nat) (hc : c0 + 0 ≤ c1) (hs : s0 + 0 ≤ s1) (hm : c1 ≤ mc) (hm2 : s1 ≤ ms) (hag0 : ∀ i, i < nE E0 → ad i = ad0 i) (hE0 : nE E0 ≤ nE E) (h : La_pairs_j251 E M q1 q2 x3 x4 x5 x6 x7 x9 y0 = some (t, w3, w7, w8, w9, F, N)) (k0 : ∀ (ad1 : Nat → Nat), (∀ i, i < nE E0 → ad1 i = ad0 i) → nE E0 ≤ nE F → t = 0 → ∀ (H : Heap) (locs : List Loc) (ls : Array Slot), va_P z.1 classes (wv z ad1 F N) H → va_D A (wv z ad1 F N) → va_S A s.heap H locs → lv_has ls 12 [(0, .ref (ad1 1)), (1, .ref (ad1 q1)), (2, .ref (ad1 q2)), (3, .int (oI w3)), (4, .int (oI x4)), (5, .int (oI x5)), (6, .int (oI x6)), (7, .int (oI w7)), (8, .int (oI w8)), (9, .int (oI w9))] → W p l e (rmK 5 144 mc ms) s m args below meth c H locs c1 s1 Q (F0 m 135 ls [])) (k1 : ∀ (ad1 : Nat → Nat), (∀ i, i < nE E0 → ad1 i = ad0 i) → nE E0 ≤ nE F → t = 1 → ∀ (H : Heap) (locs : List Loc) (ls : Array Slot), va_P z.1 classes (wv z ad1 F N) H → va_D A (wv z ad1 F N) → va_S A s.heap H locs → lv_has ls 12 [(0, .ref (ad1 1)), (1, .ref (ad1 q1)), (2, .ref (ad1 q2)), (3, .int (oI w3)), (4, .int (oI x4)), (5, .int (oI x5)), (6, .int (oI x6)), (7, .int (oI w7)), (8, .int (oI w8))] → W p l e (rmK 5 144 mc ms) s m args below meth c H locs c1 s1 Q (F0 m 307 ls [])) : ∀ (H : Heap) (locs : List Loc) (ls : Array Slot), va_P z.1 classes (wv z ad E M) H → va_D A (wv z ad E M) → va_S A s.heap H locs → lv_has ls 12 [(0, .ref (ad 1)), (1, .ref (ad q1)), (2, .ref (ad q2)), (3, .int (oI x3)), (4, .int (oI x4)), (5, .int (oI x5)), (6, .int (oI x6)), (7, .int (oI x7)), (9, .int (oI x9))] → W p l e (rmK 5 144 mc ms) s m args below meth c H locs c0 s0 Q (F0 m 251 ls [.int (oI y0)]) := by
  intro H locs ls hP hD hS hl
  unfold La_pairs_j251 at h
  obtain ⟨hL, h⟩ := ck_e h
  obtain ⟨h_q1, h⟩ := ck_e h
  obtain ⟨h_q2, h⟩ := ck_e h
  refine lv_istore (lv' := [(8, .int (oI y0)), (0, .ref (ad 1)), (1, .ref (ad q1)), (2, .ref (ad q2)), (3, .int (oI x3)), (4, .int (oI x4)), (5, .int (oI x5)), (6, .int (oI x6)), (7, .int (oI x7)), (9, .int (oI x9))]) hx hb d_L7_251 hl (by decide) rfl (fun ls hl => ?_)
  refine lv_iload_n hx hb d_L7_253 rfl (lv_at hl 4 rfl) ?_
  obtain ⟨ok36, h⟩ := ck_e h
  refine lv_if_eq (tgt := 299) hx hb d_L7_254 (by decide) (fun c9 => ?_) (fun c9 => ?_)
  · have h := ite_t ((oI_eq0 ok36).mp c9) h
    refine lv_iconst (v := oI 0) hx hb d_L7_299 (by decide +kernel) ?_
    refine lv_istore_n (lv' := [(3, .int (oI 0)), (8, .int (oI y0)), (0, .ref (ad 1)), (1, .ref (ad q1)), (2, .ref (ad q2)), (4, .int (oI x4)), (5, .int (oI x5)), (6, .int (oI x6)), (7, .int (oI x7)), (9, .int (oI x9))]) hx hb d_L7_300 rfl hl (by decide) rfl (fun ls hl => ?_)
    refine lv_iinc (v := oI (x9 + 1)) (lv' := [(9, .int (oI (x9 + 1))), (3, .int (oI 0)), (8, .int (oI y0)), (0, .ref (ad 1)), (1, .ref (ad q1)), (2, .ref (ad q2)), (4, .int (oI x4)), (5, .int (oI x5)), (6, .int (oI x6)), (7, .int (oI x7))]) hx hb d_L7_301 hl (k := 9) rfl (oI_add x9 1) (by decide) rfl (fun ls hl => ?_)
    refine lv_goto (tgt := 135) hx hb d_L7_304 (by decide) ?_
    obtain ⟨rfl, rfl, rfl, rfl, rfl, rfl, rfl⟩ := in7 h
    exact W.wide (by omega) (by omega) (k0 ad hag0 hE0 rfl H locs ls hP hD hS (lv_sub hl [3, 4, 5, 1, 6, 7, 8, 9, 2, 0] rfl))
  · have h := ite_f (fun q => c9 ((oI_eq0 ok36).mpr q)) h
    refine lv_iload hx hb d_L7_257 (lv_at hl 5 rfl) ?_
    refine lv_iload hx hb d_L7_259 (lv_at hl 7 rfl) ?_
    obtain ⟨ok37, h⟩ := ck_e h
    obtain ⟨ok38, h⟩ := ck_e h
    refine lv_ishr hx hb d_L7_261 ?_
    refine nrm (oI_shr (a := x4) ok37 ok38.1 ok38.2) ?_
    refine lv_iconst (v := oI 1) hx hb d_L7_262 (by decide +kernel) ?_
    refine lv_iand hx hb d_L7_263 ?_
    refine nrm (oI_m1 _) ?_
    refine lv_if_eq (tgt := 295) hx hb d_L7_264 (by decide) (fun c9 => ?_) (fun c9 => ?_)
    · have h := ite_t ((oI_eq0 ⟨by omega, by omega⟩).mp c9) h
      refine lv_iconst (v := oI 1) hx hb d_L7_295 (by decide +kernel) ?_
      refine lv_goto (tgt := 300) hx hb d_L7_296 (by decide) ?_
      refine lv_istore_n (lv' := [(3, .int (oI 1)), (8, .int (oI y0)), (0, .ref (ad 1)), (1, .ref (ad q1)), (2, .ref (ad q2)), (4, .int (oI x4)), (5, .int (oI x5)), (6, .int (oI x6)), (7, .int (oI x7)), (9, .int (oI x9))]) hx hb d_L7_300 rfl hl (by decide) rfl (fun ls hl => ?_)
      refine lv_iinc (v := oI (x9 + 1)) (lv' := [(9, .int (oI (x9 + 1))), (3, .int (oI 1)), (8, .int (oI y0)), (0, .ref (ad 1)), (1, .ref (ad q1)), (2, .ref (ad q2)), (4, .int (oI x4)), (5, .int (oI x5)), (6, .int (oI x6)), (7, .int (oI x7))]) hx hb d_L7_301 hl (k := 9) rfl (oI_add x9 1) (by decide) rfl (fun ls hl => ?_)
      refine lv_goto (tgt := 135) hx hb d_L7_304 (by decide) ?_
      obtain ⟨rfl, rfl, rfl, rfl, rfl, rfl, rfl⟩ := in7 h
      exact W.wide (by omega) (by omega) (k0 ad hag0 hE0 rfl H locs ls hP hD hS (lv_sub hl [3, 4, 5, 1, 6, 7, 8, 9, 2, 0] rfl))
    · have h := ite_f (fun q => c9 ((oI_eq0 ⟨by omega, by omega⟩).mpr q)) h
      refine lv_iload hx hb d_L7_267 (lv_at hl 5 rfl) ?_
      refine lv_iload hx hb d_L7_269 (lv_at hl 9 rfl) ?_
      obtain ⟨ok39, h⟩ := ck_e h
      refine lv_ishr hx hb d_L7_271 ?_
      refine nrm (oI_shr (a := x4) ok37 ok39.1 ok39.2) ?_
      refine lv_iconst (v := oI 1) hx hb d_L7_272 (by decide +kernel) ?_
      refine lv_iand hx hb d_L7_273 ?_
      refine nrm (oI_m1 _) ?_
      refine lv_iconst (v := oI 1) hx hb d_L7_274 (by decide +kernel) ?_
      refine lv_icmp_eq (tgt := 295) hx hb d_L7_275 (by decide) (fun c9 => ?_) (fun c9 => ?_)
      · have h := ite_t ((oI_eq (a := ((x4 / 2 ^ x9.toNat) % 2)) (b := (1 : Int)) ⟨by omega, by omega⟩ (by decide)).mp c9) h
        refine lv_iconst (v := oI 1) hx hb d_L7_295 (by decide +kernel) ?_
        refine lv_goto (tgt := 300) hx hb d_L7_296 (by decide) ?_
        refine lv_istore_n (lv' := [(3, .int (oI 1)), (8, .int (oI y0)), (0, .ref (ad 1)), (1, .ref (ad q1)), (2, .ref (ad q2)), (4, .int (oI x4)), (5, .int (oI x5)), (6, .int (oI x6)), (7, .int (oI x7)), (9, .int (oI x9))]) hx hb d_L7_300 rfl hl (by decide) rfl (fun ls hl => ?_)
        refine lv_iinc (v := oI (x9 + 1)) (lv' := [(9, .int (oI (x9 + 1))), (3, .int (oI 1)), (8, .int (oI y0)), (0, .ref (ad 1)), (1, .ref (ad q1)), (2, .ref (ad q2)), (4, .int (oI x4)), (5, .int (oI x5)), (6, .int (oI x6)), (7, .int (oI x7))]) hx hb d_L7_301 hl (k := 9) rfl (oI_add x9 1) (by decide) rfl (fun ls hl => ?_)
        refine lv_goto (tgt := 135) hx hb d_L7_304 (by decide) ?_
        obtain ⟨rfl, rfl, rfl, rfl, rfl, rfl, rfl⟩ := in7 h
        exact W.wide (by omega) (by omega) (k0 ad hag0 hE0 rfl H locs ls hP hD hS (lv_sub hl [3, 4, 5, 1, 6, 7, 8, 9, 2, 0] rfl))
      · have h := ite_f (fun q => c9 ((oI_eq (a := ((x4 / 2 ^ x9.toNat) % 2)) (b := (1 : Int)) ⟨by omega, by omega⟩ (by decide)).mpr q)) h
        refine lv_aload_n hx hb d_L7_278 rfl (lv_at hl 3 rfl) ?_
        refine lv_iload hx hb d_L7_279 (lv_at hl 7 rfl) ?_
        obtain ⟨ok40, h⟩ := ck_e h
        obtain ⟨p41, g41, h⟩ := bd_e h
        obtain ⟨h_p41, h⟩ := ck_e h
        refine m_ar (k := p41) hx hb hG hP h_q2.1 (isQ_T h_q2) ok40 g41 d_L7_281 ?_
        refine lv_iload hx hb d_L7_282 (lv_at hl 9 rfl) ?_
        obtain ⟨ok42, h⟩ := ck_e h
        refine m_ia hx hb hG hP h_p41.1 (isIA_T h_p41) ok42 d_L7_284 ?_
        refine lv_aload_n hx hb d_L7_285 rfl (lv_at hl 3 rfl) ?_
        refine lv_iload hx hb d_L7_286 (lv_at hl 9 rfl) ?_
        obtain ⟨ok43, h⟩ := ck_e h
        obtain ⟨p44, g44, h⟩ := bd_e h
        obtain ⟨h_p44, h⟩ := ck_e h
        refine m_ar (k := p44) hx hb hG hP h_q2.1 (isQ_T h_q2) ok43 g44 d_L7_288 ?_
        refine lv_iload hx hb d_L7_289 (lv_at hl 7 rfl) ?_
        obtain ⟨ok45, h⟩ := ck_e h
        refine m_ia hx hb hG hP h_p44.1 (isIA_T h_p44) ok45 d_L7_291 ?_
        obtain ⟨ok46, h⟩ := ck_e h
        obtain ⟨ok47, h⟩ := ck_e h
        refine lv_icmp_le (tgt := 299) hx hb d_L7_292 (by decide) (fun c9 => ?_) (fun c9 => ?_)
        · have h := ite_t ((oI_le (a := (M p41 x9.toNat)) (b := (M p44 x6.toNat)) ok46 ok47).mp c9) h
          refine lv_iconst (v := oI 0) hx hb d_L7_299 (by decide +kernel) ?_
          refine lv_istore_n (lv' := [(3, .int (oI 0)), (8, .int (oI y0)), (0, .ref (ad 1)), (1, .ref (ad q1)), (2, .ref (ad q2)), (4, .int (oI x4)), (5, .int (oI x5)), (6, .int (oI x6)), (7, .int (oI x7)), (9, .int (oI x9))]) hx hb d_L7_300 rfl hl (by decide) rfl (fun ls hl => ?_)
          refine lv_iinc (v := oI (x9 + 1)) (lv' := [(9, .int (oI (x9 + 1))), (3, .int (oI 0)), (8, .int (oI y0)), (0, .ref (ad 1)), (1, .ref (ad q1)), (2, .ref (ad q2)), (4, .int (oI x4)), (5, .int (oI x5)), (6, .int (oI x6)), (7, .int (oI x7))]) hx hb d_L7_301 hl (k := 9) rfl (oI_add x9 1) (by decide) rfl (fun ls hl => ?_)
          refine lv_goto (tgt := 135) hx hb d_L7_304 (by decide) ?_
          obtain ⟨rfl, rfl, rfl, rfl, rfl, rfl, rfl⟩ := in7 h
          exact W.wide (by omega) (by omega) (k0 ad hag0 hE0 rfl H locs ls hP hD hS (lv_sub hl [3, 4, 5, 1, 6, 7, 8, 9, 2, 0] rfl))
        · have h := ite_f (fun q => c9 ((oI_le (a := (M p41 x9.toNat)) (b := (M p44 x6.toNat)) ok46 ok47).mpr q)) h
          refine lv_iconst (v := oI 1) hx hb d_L7_295 (by decide +kernel) ?_
          refine lv_goto (tgt := 300) hx hb d_L7_296 (by decide) ?_
          refine lv_istore_n (lv' := [(3, .int (oI 1)), (8, .int (oI y0)), (0, .ref (ad 1)), (1, .ref (ad q1)), (2, .ref (ad q2)), (4, .int (oI x4)), (5, .int (oI x5)), (6, .int (oI x6)), (7, .int (oI x7)), (9, .int (oI x9))]) hx hb d_L7_300 rfl hl (by decide) rfl (fun ls hl => ?_)
          refine lv_iinc (v := oI (x9 + 1)) (lv' := [(9, .int (oI (x9 + 1))), (3, .int (oI 1)), (8, .int (oI y0)), (0, .ref (ad 1)), (1, .ref (ad q1)), (2, .ref (ad q2)), (4, .int (oI x4)), (5, .int (oI x5)), (6, .int (oI x6)), (7, .int (oI x7))]) hx hb d_L7_301 hl (k := 9) rfl (oI_add x9 1) (by decide) rfl (fun ls hl => ?_)
          refine lv_goto (tgt := 135) hx hb d_L7_304 (by decide) ?_
          obtain ⟨rfl, rfl, rfl, rfl, rfl, rfl, rfl⟩ := in7 h
          exact W.wide (by omega) (by omega) (k0 ad hag0 hE0 rfl H locs ls hP hD hS (lv_sub hl [3, 4, 5, 1, 6, 7, 8, 9, 2, 0] rfl))
set_option maxRecDepth 100000 in
set_option maxHeartbeats 4000000 in
theorem b_La_pairs_j222 (l : Launch) (z : Zz) (E0 : Ev) (ad0 : Nat → Nat) (ad : Nat → Nat) (E : Ev) (M : Mm) (q1 : Nat) (q2 : Nat) (x3 : Int) (x4 : Int) (x5 : Int) (x6 : Int) (x8 : Int) (x9 : Int) (y0 : Int) (t : Nat) (w3 : Int) (w7 : Int) (w8 : Int) (w9 : Int) (F : Ev) (N : Mm) {Q : State → Prop} {p : Program} {e : Env} {s : State} {m : MethodId} {below : List Frame} {meth : Method} {c : Code} {A : Nat → Prop} {args : Array Value} (hx : p.tables.exec = Jvm.exec) (hb : c.code = method_7_code) (hml : c.maxLocals = 12) (hts : ∀ w ∈ WG, w.before args s = true) (hown : s.vm.findClass "BallothallLaw" = some m.cls) (hlocks : meth.locks = false) (hA : ∀ q, s.heap.size ≤ q → A q) (hG : KG z s) (hZ : FZ z A s) (mc ms c0 s0 c1 s1 : Nat) (hc : c0 + 0 ≤ c1) (hs : s0 + 0 ≤ s1) (hm : c1 ≤ mc) (hm2 : s1 ≤ ms) (hag0 : ∀ i, i < nE E0 → ad i = ad0 i) (hE0 : nE E0 ≤ nE E) (h : La_pairs_j222 E M q1 q2 x3 x4 x5 x6 x8 x9 y0 = some (t, w3, w7, w8, w9, F, N)) (k0 : ∀ (ad1 : Nat → Nat), (∀ i, i < nE E0 → ad1 i = ad0 i) → nE E0 ≤ nE F → t = 0 → ∀ (H : Heap) (locs : List Loc) (ls : Array Slot), va_P z.1 classes (wv z ad1 F N) H → va_D A (wv z ad1 F N) → va_S A s.heap H locs → lv_has ls 12 [(0, .ref (ad1 1)), (1, .ref (ad1 q1)), (2, .ref (ad1 q2)), (3, .int (oI w3)), (4, .int (oI x4)), (5, .int (oI x5)), (6, .int (oI x6)), (7, .int (oI w7)), (8, .int (oI w8)), (9, .int (oI w9))] → W p l e (rmK 5 144 mc ms) s m args below meth c H locs c1 s1 Q (F0 m 135 ls [])) (k1 : ∀ (ad1 : Nat → Nat), (∀ i, i < nE E0 → ad1 i = ad0 i) → nE E0 ≤ nE F → t = 1 → ∀ (H : Heap) (locs : List Loc) (ls : Array Slot), va_P z.1 classes (wv z ad1 F N) H → va_D A (wv z ad1 F N) → va_S A s.heap H locs → lv_has ls 12 [(0, .ref (ad1 1)), (1, .ref (ad1 q1)), (2, .ref (ad1 q2)), (3, .int (oI w3)), (4, .int (oI x4)), (5, .int (oI x5)), (6, .int (oI x6)), (7, .int (oI w7)), (8, .int (oI w8))] → W p l e (rmK 5 144 mc ms) s m args below meth c H locs c1 s1 Q (F0 m 307 ls [])) : ∀ (H : Heap) (locs : List Loc) (ls : Array Slot), va_P z.1 classes (wv z ad E M) H → va_D A (wv z ad E M) → va_S A s.heap H locs → lv_has ls 12 [(0, .ref (ad 1)), (1, .ref (ad q1)), (2, .ref (ad q2)), (3, .int (oI x3)), (4, .int (oI x4)), (5, .int (oI x5)), (6, .int (oI x6)), (8, .int (oI x8)), (9, .int (oI x9))] → W p l e (rmK 5 144 mc ms) s m args below meth c H locs c0 s0 Q (F0 m 222 ls [.int (oI y0)]) := by
  intro H locs ls hP hD hS hl
  unfold La_pairs_j222 at h
  obtain ⟨hL, h⟩ := ck_e h
  obtain ⟨h_q1, h⟩ := ck_e h
  obtain ⟨h_q2, h⟩ := ck_e h
  refine lv_istore (lv' := [(7, .int (oI y0)), (0, .ref (ad 1)), (1, .ref (ad q1)), (2, .ref (ad q2)), (3, .int (oI x3)), (4, .int (oI x4)), (5, .int (oI x5)), (6, .int (oI x6)), (8, .int (oI x8)), (9, .int (oI x9))]) hx hb d_L7_222 hl (by decide) rfl (fun ls hl => ?_)
  refine lv_iload hx hb d_L7_224 (lv_at hl 8 rfl) ?_
  obtain ⟨ok35, h⟩ := ck_e h
  refine lv_if_eq (tgt := 250) hx hb d_L7_226 (by decide) (fun c9 => ?_) (fun c9 => ?_)
  · have h := ite_t ((oI_eq0 ok35).mp c9) h
    refine lv_iconst (v := oI 0) hx hb d_L7_250 (by decide +kernel) ?_
    exact b_La_pairs_j251 l z E0 ad0 ad E M q1 q2 x3 x4 x5 x6 y0 x9 0 t w3 w7 w8 w9 F N hx hb hml hts hown hlocks hA hG hZ mc ms _ _ c1 s1 (by omega) (by omega) hm hm2 hag0 hE0 h k0 k1 H locs ls hP hD hS (lv_sub hl [1, 2, 3, 4, 5, 6, 7, 0, 9] rfl)
  · have h := ite_f (fun q => c9 ((oI_eq0 ok35).mpr q)) h
    refine lv_aload_n hx hb d_L7_229 rfl (lv_at hl 3 rfl) ?_
    refine lv_iload hx hb d_L7_230 (lv_at hl 7 rfl) ?_
    obtain ⟨ok48, h⟩ := ck_e h
    obtain ⟨p49, g49, h⟩ := bd_e h
    obtain ⟨h_p49, h⟩ := ck_e h
    refine m_ar (k := p49) hx hb hG hP h_q2.1 (isQ_T h_q2) ok48 g49 d_L7_232 ?_
    refine lv_iload hx hb d_L7_233 (lv_at hl 9 rfl) ?_
    obtain ⟨ok50, h⟩ := ck_e h
    refine m_ia hx hb hG hP h_p49.1 (isIA_T h_p49) ok50 d_L7_235 ?_
    refine lv_aload_n hx hb d_L7_236 rfl (lv_at hl 3 rfl) ?_
    refine lv_iload hx hb d_L7_237 (lv_at hl 9 rfl) ?_
    obtain ⟨ok51, h⟩ := ck_e h
    obtain ⟨p52, g52, h⟩ := bd_e h
    obtain ⟨h_p52, h⟩ := ck_e h
    refine m_ar (k := p52) hx hb hG hP h_q2.1 (isQ_T h_q2) ok51 g52 d_L7_239 ?_
    refine lv_iload hx hb d_L7_240 (lv_at hl 7 rfl) ?_
    obtain ⟨ok53, h⟩ := ck_e h
    refine m_ia hx hb hG hP h_p52.1 (isIA_T h_p52) ok53 d_L7_242 ?_
    obtain ⟨ok54, h⟩ := ck_e h
    obtain ⟨ok55, h⟩ := ck_e h
    refine lv_icmp_le (tgt := 250) hx hb d_L7_243 (by decide) (fun c9 => ?_) (fun c9 => ?_)
    · have h := ite_t ((oI_le (a := (M p49 x9.toNat)) (b := (M p52 x6.toNat)) ok54 ok55).mp c9) h
      refine lv_iconst (v := oI 0) hx hb d_L7_250 (by decide +kernel) ?_
      exact b_La_pairs_j251 l z E0 ad0 ad E M q1 q2 x3 x4 x5 x6 y0 x9 0 t w3 w7 w8 w9 F N hx hb hml hts hown hlocks hA hG hZ mc ms _ _ c1 s1 (by omega) (by omega) hm hm2 hag0 hE0 h k0 k1 H locs ls hP hD hS (lv_sub hl [1, 2, 3, 4, 5, 6, 7, 0, 9] rfl)
    · have h := ite_f (fun q => c9 ((oI_le (a := (M p49 x9.toNat)) (b := (M p52 x6.toNat)) ok54 ok55).mpr q)) h
      refine lv_iconst (v := oI 1) hx hb d_L7_246 (by decide +kernel) ?_
      refine lv_goto (tgt := 251) hx hb d_L7_247 (by decide) ?_
      exact b_La_pairs_j251 l z E0 ad0 ad E M q1 q2 x3 x4 x5 x6 y0 x9 1 t w3 w7 w8 w9 F N hx hb hml hts hown hlocks hA hG hZ mc ms _ _ c1 s1 (by omega) (by omega) hm hm2 hag0 hE0 h k0 k1 H locs ls hP hD hS (lv_sub hl [1, 2, 3, 4, 5, 6, 7, 0, 9] rfl)
set_option maxRecDepth 100000 in
set_option maxHeartbeats 4000000 in
theorem b_La_pairs_j204 (l : Launch) (z : Zz) (E0 : Ev) (ad0 : Nat → Nat) (ad : Nat → Nat) (E : Ev) (M : Mm) (q1 : Nat) (q2 : Nat) (x4 : Int) (x5 : Int) (x6 : Int) (x7 : Int) (x8 : Int) (x9 : Int) (x10 : Int) (x11 : Int) (y0 : Int) (t : Nat) (w3 : Int) (w7 : Int) (w8 : Int) (w9 : Int) (F : Ev) (N : Mm) {Q : State → Prop} {p : Program} {e : Env} {s : State} {m : MethodId} {below : List Frame} {meth : Method} {c : Code} {A : Nat → Prop} {args : Array Value} (hx : p.tables.exec = Jvm.exec) (hb : c.code = method_7_code) (hml : c.maxLocals = 12) (hts : ∀ w ∈ WG, w.before args s = true) (hown : s.vm.findClass "BallothallLaw" = some m.cls) (hlocks : meth.locks = false) (hA : ∀ q, s.heap.size ≤ q → A q) (hG : KG z s) (hZ : FZ z A s) (mc ms c0 s0 c1 s1 : Nat) (hc : c0 + 0 ≤ c1) (hs : s0 + 0 ≤ s1) (hm : c1 ≤ mc) (hm2 : s1 ≤ ms) (hag0 : ∀ i, i < nE E0 → ad i = ad0 i) (hE0 : nE E0 ≤ nE E) (h : La_pairs_j204 E M q1 q2 x4 x5 x6 x7 x8 x9 x10 x11 y0 = some (t, w3, w7, w8, w9, F, N)) (k0 : ∀ (ad1 : Nat → Nat), (∀ i, i < nE E0 → ad1 i = ad0 i) → nE E0 ≤ nE F → t = 0 → ∀ (H : Heap) (locs : List Loc) (ls : Array Slot), va_P z.1 classes (wv z ad1 F N) H → va_D A (wv z ad1 F N) → va_S A s.heap H locs → lv_has ls 12 [(0, .ref (ad1 1)), (1, .ref (ad1 q1)), (2, .ref (ad1 q2)), (3, .int (oI w3)), (4, .int (oI x4)), (5, .int (oI x5)), (6, .int (oI x6)), (7, .int (oI w7)), (8, .int (oI w8)), (9, .int (oI w9))] → W p l e (rmK 5 144 mc ms) s m args below meth c H locs c1 s1 Q (F0 m 135 ls [])) (k1 : ∀ (ad1 : Nat → Nat), (∀ i, i < nE E0 → ad1 i = ad0 i) → nE E0 ≤ nE F → t = 1 → ∀ (H : Heap) (locs : List Loc) (ls : Array Slot), va_P z.1 classes (wv z ad1 F N) H → va_D A (wv z ad1 F N) → va_S A s.heap H locs → lv_has ls 12 [(0, .ref (ad1 1)), (1, .ref (ad1 q1)), (2, .ref (ad1 q2)), (3, .int (oI w3)), (4, .int (oI x4)), (5, .int (oI x5)), (6, .int (oI x6)), (7, .int (oI w7)), (8, .int (oI w8))] → W p l e (rmK 5 144 mc ms) s m args below meth c H locs c1 s1 Q (F0 m 307 ls [])) : ∀ (H : Heap) (locs : List Loc) (ls : Array Slot), va_P z.1 classes (wv z ad E M) H → va_D A (wv z ad E M) → va_S A s.heap H locs → lv_has ls 12 [(0, .ref (ad 1)), (1, .ref (ad q1)), (2, .ref (ad q2)), (4, .int (oI x4)), (5, .int (oI x5)), (6, .int (oI x6)), (7, .int (oI x7)), (8, .int (oI x8)), (9, .int (oI x9)), (10, .int (oI x10)), (11, .int (oI x11))] → W p l e (rmK 5 144 mc ms) s m args below meth c H locs c0 s0 Q (F0 m 204 ls [.int (oI y0)]) := by
  intro H locs ls hP hD hS hl
  unfold La_pairs_j204 at h
  obtain ⟨hL, h⟩ := ck_e h
  obtain ⟨h_q1, h⟩ := ck_e h
  obtain ⟨h_q2, h⟩ := ck_e h
  refine lv_istore_n (lv' := [(3, .int (oI y0)), (0, .ref (ad 1)), (1, .ref (ad q1)), (2, .ref (ad q2)), (4, .int (oI x4)), (5, .int (oI x5)), (6, .int (oI x6)), (7, .int (oI x7)), (8, .int (oI x8)), (9, .int (oI x9)), (10, .int (oI x10)), (11, .int (oI x11))]) hx hb d_L7_204 rfl hl (by decide) rfl (fun ls hl => ?_)
  refine lv_iload hx hb d_L7_205 (lv_at hl 7 rfl) ?_
  obtain ⟨ok34, h⟩ := ck_e h
  refine lv_if_eq (tgt := 221) hx hb d_L7_207 (by decide) (fun c9 => ?_) (fun c9 => ?_)
  · have h := ite_t ((oI_eq0 ok34).mp c9) h
    refine lv_iconst (v := oI 0) hx hb d_L7_221 (by decide +kernel) ?_
    exact b_La_pairs_j222 l z E0 ad0 ad E M q1 q2 y0 x4 x5 x6 x8 x9 0 t w3 w7 w8 w9 F N hx hb hml hts hown hlocks hA hG hZ mc ms _ _ c1 s1 (by omega) (by omega) hm hm2 hag0 hE0 h k0 k1 H locs ls hP hD hS (lv_sub hl [1, 2, 3, 0, 4, 5, 6, 8, 9] rfl)
  · have h := ite_f (fun q => c9 ((oI_eq0 ok34).mpr q)) h
    refine lv_iload hx hb d_L7_210 (lv_at hl 10 rfl) ?_
    refine lv_iload hx hb d_L7_212 (lv_at hl 11 rfl) ?_
    obtain ⟨ok56, h⟩ := ck_e h
    obtain ⟨ok57, h⟩ := ck_e h
    refine lv_icmp_lt (tgt := 221) hx hb d_L7_214 (by decide) (fun c9 => ?_) (fun c9 => ?_)
    · have h := ite_t ((oI_lt (a := x10) (b := x11) ok56 ok57).mp c9) h
      refine lv_iconst (v := oI 0) hx hb d_L7_221 (by decide +kernel) ?_
      exact b_La_pairs_j222 l z E0 ad0 ad E M q1 q2 y0 x4 x5 x6 x8 x9 0 t w3 w7 w8 w9 F N hx hb hml hts hown hlocks hA hG hZ mc ms _ _ c1 s1 (by omega) (by omega) hm hm2 hag0 hE0 h k0 k1 H locs ls hP hD hS (lv_sub hl [1, 2, 3, 0, 4, 5, 6, 8, 9] rfl)
    · have h := ite_f (fun q => c9 ((oI_lt (a := x10) (b := x11) ok56 ok57).mpr q)) h
      refine lv_iconst (v := oI 1) hx hb d_L7_217 (by decide +kernel) ?_
      refine lv_goto (tgt := 222) hx hb d_L7_218 (by decide) ?_
      exact b_La_pairs_j222 l z E0 ad0 ad E M q1 q2 y0 x4 x5 x6 x8 x9 1 t w3 w7 w8 w9 F N hx hb hml hts hown hlocks hA hG hZ mc ms _ _ c1 s1 (by omega) (by omega) hm hm2 hag0 hE0 h k0 k1 H locs ls hP hD hS (lv_sub hl [1, 2, 3, 0, 4, 5, 6, 8, 9] rfl)
set_option maxRecDepth 100000 in
set_option maxHeartbeats 4000000 in
theorem b_La_pairs_135b (l : Launch) (z : Zz) (E0 : Ev) (ad0 : Nat → Nat) (ad : Nat → Nat) (E : Ev) (M : Mm) (q1 : Nat) (q2 : Nat) (x4 : Int) (x5 : Int) (x6 : Int) (x3 : Int) (x7 : Int) (x8 : Int) (x9 : Int) (t : Nat) (w3 : Int) (w7 : Int) (w8 : Int) (w9 : Int) (F : Ev) (N : Mm) {Q : State → Prop} {p : Program} {e : Env} {s : State} {m : MethodId} {below : List Frame} {meth : Method} {c : Code} {A : Nat → Prop} {args : Array Value} (hx : p.tables.exec = Jvm.exec) (hb : c.code = method_7_code) (hml : c.maxLocals = 12) (hts : ∀ w ∈ WG, w.before args s = true) (hown : s.vm.findClass "BallothallLaw" = some m.cls) (hlocks : meth.locks = false) (hA : ∀ q, s.heap.size ≤ q → A q) (hG : KG z s) (hZ : FZ z A s) (mc ms c0 s0 c1 s1 : Nat) (hc : c0 + 0 ≤ c1) (hs : s0 + 0 ≤ s1) (hm : c1 ≤ mc) (hm2 : s1 ≤ ms) (hag0 : ∀ i, i < nE E0 → ad i = ad0 i) (hE0 : nE E0 ≤ nE E) (h : La_pairs_135b E M q1 q2 x4 x5 x6 x3 x7 x8 x9 = some (t, w3, w7, w8, w9, F, N)) (k0 : ∀ (ad1 : Nat → Nat), (∀ i, i < nE E0 → ad1 i = ad0 i) → nE E0 ≤ nE F → t = 0 → ∀ (H : Heap) (locs : List Loc) (ls : Array Slot), va_P z.1 classes (wv z ad1 F N) H → va_D A (wv z ad1 F N) → va_S A s.heap H locs → lv_has ls 12 [(0, .ref (ad1 1)), (1, .ref (ad1 q1)), (2, .ref (ad1 q2)), (3, .int (oI w3)), (4, .int (oI x4)), (5, .int (oI x5)), (6, .int (oI x6)), (7, .int (oI w7)), (8, .int (oI w8)), (9, .int (oI w9))] → W p l e (rmK 5 144 mc ms) s m args below meth c H locs c1 s1 Q (F0 m 135 ls [])) (k1 : ∀ (ad1 : Nat → Nat), (∀ i, i < nE E0 → ad1 i = ad0 i) → nE E0 ≤ nE F → t = 1 → ∀ (H : Heap) (locs : List Loc) (ls : Array Slot), va_P z.1 classes (wv z ad1 F N) H → va_D A (wv z ad1 F N) → va_S A s.heap H locs → lv_has ls 12 [(0, .ref (ad1 1)), (1, .ref (ad1 q1)), (2, .ref (ad1 q2)), (3, .int (oI w3)), (4, .int (oI x4)), (5, .int (oI x5)), (6, .int (oI x6)), (7, .int (oI w7)), (8, .int (oI w8))] → W p l e (rmK 5 144 mc ms) s m args below meth c H locs c1 s1 Q (F0 m 307 ls [])) : ∀ (H : Heap) (locs : List Loc) (ls : Array Slot), va_P z.1 classes (wv z ad E M) H → va_D A (wv z ad E M) → va_S A s.heap H locs → lv_has ls 12 [(0, .ref (ad 1)), (1, .ref (ad q1)), (2, .ref (ad q2)), (3, .int (oI x3)), (4, .int (oI x4)), (5, .int (oI x5)), (6, .int (oI x6)), (7, .int (oI x7)), (8, .int (oI x8)), (9, .int (oI x9))] → W p l e (rmK 5 144 mc ms) s m args below meth c H locs c0 s0 Q (F0 m 135 ls []) := by
  intro H locs ls hP hD hS hl
  unfold La_pairs_135b at h
  obtain ⟨hL, h⟩ := ck_e h
  obtain ⟨h_q1, h⟩ := ck_e h
  obtain ⟨h_q2, h⟩ := ck_e h
  refine lv_iload hx hb d_L7_135 (lv_at hl 9 rfl) ?_
  refine lv_aload_n hx hb d_L7_137 rfl (lv_at hl 1 rfl) ?_
  refine m_giN (C := "BallothallLaw$Box") (T := TX12) (N := 4) (ci := 12) (k := 0) hx hb hts iX12 hown hG hP h_q1.1 h_q1.2 rfl (by decide) n_775 rfl (fun _ h9 => h9) rfl rfl d_L7_138 ?_
  obtain ⟨ok23, h⟩ := ck_e h
  obtain ⟨ok24, h⟩ := ck_e h
  refine lv_icmp_ge (tgt := 307) hx hb d_L7_141 (by decide) (fun c9 => ?_) (fun c9 => ?_)
  · have h := ite_t ((oI_le (a := (M q1 0)) (b := x9) ok24 ok23).mp c9) h
    obtain ⟨rfl, rfl, rfl, rfl, rfl, rfl, rfl⟩ := in7 h
    exact W.wide (by omega) (by omega) (k1 ad hag0 hE0 rfl H locs ls hP hD hS (lv_sub hl [0, 1, 2, 3, 4, 5, 6, 7, 8] rfl))
  · have h := ite_f (fun q => c9 ((oI_le (a := (M q1 0)) (b := x9) ok24 ok23).mpr q)) h
    refine lv_iload_n hx hb d_L7_144 rfl (lv_at hl 3 rfl) ?_
    obtain ⟨ok25, h⟩ := ck_e h
    refine lv_if_eq (tgt := 307) hx hb d_L7_145 (by decide) (fun c9 => ?_) (fun c9 => ?_)
    · have h := ite_t ((oI_eq0 ok25).mp c9) h
      obtain ⟨rfl, rfl, rfl, rfl, rfl, rfl, rfl⟩ := in7 h
      exact W.wide (by omega) (by omega) (k1 ad hag0 hE0 rfl H locs ls hP hD hS (lv_sub hl [0, 1, 2, 3, 4, 5, 6, 7, 8] rfl))
    · have h := ite_f (fun q => c9 ((oI_eq0 ok25).mpr q)) h
      refine lv_iload hx hb d_L7_148 (lv_at hl 6 rfl) ?_
      refine lv_iload hx hb d_L7_150 (lv_at hl 9 rfl) ?_
      obtain ⟨ok26, h⟩ := ck_e h
      refine lv_icmp_ne (tgt := 158) hx hb d_L7_152 (by decide) (fun c9 => ?_) (fun c9 => ?_)
      · have h := ite_f (fun q => c9 ((oI_eq (a := x6) (b := x9) ok26 ok23).mpr q)) h
        refine lv_aload_n hx hb d_L7_158 rfl (lv_at hl 2 rfl) ?_
        refine lv_iload hx hb d_L7_159 (lv_at hl 6 rfl) ?_
        refine lv_iload hx hb d_L7_161 (lv_at hl 9 rfl) ?_
        refine lv_iconst (v := oI 1) hx hb d_L7_163 (by decide +kernel) ?_
        refine lv_iload hx hb d_L7_164 (lv_at hl 6 rfl) ?_
        obtain ⟨ok27, h⟩ := ck_e h
        refine lv_ishl hx hb d_L7_166 ?_
        refine nrm (oI_one_shl ok27) ?_
        obtain ⟨r28, g28, h⟩ := bd_e h
        refine kS (As := [.ref (ad q2), .int (oI x6), .int (oI x9), .int (oI (2 ^ x6.toNat))]) (rest := []) (s_La_way_D3 l z ad E M q2 x6 x9 (2 ^ x6.toNat) r28 hL g28) hx hb hml hown hts w_1325 w_1323 w_1324 w_0 md_500319 ⟨Nat.le_of_ble_eq_true rfl, Nat.le_of_ble_eq_true rfl⟩ hG hZ hP hD hS hA rfl hl.1 rfl (Nat.le_of_ble_eq_true rfl) d_L7_167 ⟨(show _ ≤ mc by omega), (show _ ≤ ms by omega)⟩ (fun _ H locs hP hD hS => ?_)
        have hP : va_P z.1 classes (wv z ad E M) H := hP
        have hD : va_D A (wv z ad E M) := hD
        refine W.eq (g2 := F0 m 170 ls [.int (oI r28)]) rfl ?_
        refine lv_istore (lv' := [(10, .int (oI r28)), (0, .ref (ad 1)), (1, .ref (ad q1)), (2, .ref (ad q2)), (3, .int (oI x3)), (4, .int (oI x4)), (5, .int (oI x5)), (6, .int (oI x6)), (7, .int (oI x7)), (8, .int (oI x8)), (9, .int (oI x9))]) hx hb d_L7_170 hl (by decide) rfl (fun ls hl => ?_)
        refine lv_aload_n hx hb d_L7_172 rfl (lv_at hl 3 rfl) ?_
        refine lv_iload hx hb d_L7_173 (lv_at hl 10 rfl) ?_
        refine lv_iload hx hb d_L7_175 (lv_at hl 7 rfl) ?_
        refine lv_iconst (v := oI 1) hx hb d_L7_177 (by decide +kernel) ?_
        refine lv_iload hx hb d_L7_178 (lv_at hl 10 rfl) ?_
        obtain ⟨ok29, h⟩ := ck_e h
        refine lv_ishl hx hb d_L7_180 ?_
        refine nrm (oI_one_shl ok29) ?_
        obtain ⟨r30, g30, h⟩ := bd_e h
        refine kS (As := [.ref (ad q2), .int (oI x9), .int (oI x6), .int (oI (2 ^ x9.toNat))]) (rest := []) (s_La_way_D3 l z ad E M q2 x9 x6 (2 ^ x9.toNat) r30 hL g30) hx hb hml hown hts w_1325 w_1323 w_1324 w_0 md_500319 ⟨Nat.le_of_ble_eq_true rfl, Nat.le_of_ble_eq_true rfl⟩ hG hZ hP hD hS hA rfl hl.1 rfl (Nat.le_of_ble_eq_true rfl) d_L7_181 ⟨(show _ ≤ mc by omega), (show _ ≤ ms by omega)⟩ (fun _ H locs hP hD hS => ?_)
        have hP : va_P z.1 classes (wv z ad E M) H := hP
        have hD : va_D A (wv z ad E M) := hD
        refine W.eq (g2 := F0 m 184 ls [.int (oI r30)]) rfl ?_
        refine lv_istore (lv' := [(11, .int (oI r30)), (10, .int (oI r28)), (0, .ref (ad 1)), (1, .ref (ad q1)), (2, .ref (ad q2)), (3, .int (oI x3)), (4, .int (oI x4)), (5, .int (oI x5)), (6, .int (oI x6)), (7, .int (oI x7)), (8, .int (oI x8)), (9, .int (oI x9))]) hx hb d_L7_184 hl (by decide) rfl (fun ls hl => ?_)
        refine lv_aload_n hx hb d_L7_186 rfl (lv_at hl 2 rfl) ?_
        refine lv_iload hx hb d_L7_187 (lv_at hl 8 rfl) ?_
        refine lv_iload hx hb d_L7_189 (lv_at hl 11 rfl) ?_
        obtain ⟨⟨r31, M31⟩, g31, h⟩ := bd_e h
        refine kV (As := [.int (oI x6), .int (oI x9)]) (rest := []) (s_B_strongestPath l z ad E M x6 x9 r31 M31 hL g31) hx hb hml hown hts w_1330 w_1327 w_1328 w_1329 w_1 md_8882e3 ⟨Nat.le_of_ble_eq_true rfl, Nat.le_of_ble_eq_true rfl⟩ hG hZ hP hD hS hA 1 (wv_o (ci := 11) (yi_1 hL) (yt_1 hL)) rfl rfl rfl hl.1 rfl (Nat.le_of_ble_eq_true rfl) d_L7_191 ⟨(show _ ≤ mc by omega), (show _ ≤ ms by omega)⟩ (fun _ H locs hP hD hS => ?_)
        have hP : va_P z.1 classes (wv z ad E M31) H := hP
        have hD : va_D A (wv z ad E M31) := hD
        refine W.eq (g2 := F0 m 194 ls [.int (oI r31)]) rfl ?_
        refine lv_iload hx hb d_L7_194 (lv_at hl 1 rfl) ?_
        obtain ⟨ok32, h⟩ := ck_e h
        obtain ⟨ok33, h⟩ := ck_e h
        refine lv_icmp_ne (tgt := 203) hx hb d_L7_196 (by decide) (fun c9 => ?_) (fun c9 => ?_)
        · have h := ite_f (fun q => c9 ((oI_eq (a := r31) (b := r28) ok32 ok33).mpr q)) h
          refine lv_iconst (v := oI 0) hx hb d_L7_203 (by decide +kernel) ?_
          exact b_La_pairs_j204 l z E0 ad0 ad E M31 q1 q2 x4 x5 x6 x7 x8 x9 r28 r30 0 t w3 w7 w8 w9 F N hx hb hml hts hown hlocks hA hG hZ mc ms _ _ c1 s1 (by omega) (by omega) hm hm2 hag0 hE0 h k0 k1 H locs ls hP hD hS (lv_sub hl [2, 3, 4, 6, 7, 8, 9, 10, 11, 1, 0] rfl)
        · have h := ite_t ((oI_eq (a := r31) (b := r28) ok32 ok33).mp c9) h
          refine lv_iconst (v := oI 1) hx hb d_L7_199 (by decide +kernel) ?_
          refine lv_goto (tgt := 204) hx hb d_L7_200 (by decide) ?_
          exact b_La_pairs_j204 l z E0 ad0 ad E M31 q1 q2 x4 x5 x6 x7 x8 x9 r28 r30 1 t w3 w7 w8 w9 F N hx hb hml hts hown hlocks hA hG hZ mc ms _ _ c1 s1 (by omega) (by omega) hm hm2 hag0 hE0 h k0 k1 H locs ls hP hD hS (lv_sub hl [2, 3, 4, 6, 7, 8, 9, 10, 11, 1, 0] rfl)
      · have h := ite_t ((oI_eq (a := x6) (b := x9) ok26 ok23).mp c9) h
        refine lv_goto (tgt := 301) hx hb d_L7_155 (by decide) ?_
        refine lv_iinc (v := oI (x9 + 1)) (lv' := [(9, .int (oI (x9 + 1))), (0, .ref (ad 1)), (1, .ref (ad q1)), (2, .ref (ad q2)), (3, .int (oI x3)), (4, .int (oI x4)), (5, .int (oI x5)), (6, .int (oI x6)), (7, .int (oI x7)), (8, .int (oI x8))]) hx hb d_L7_301 hl (k := 9) rfl (oI_add x9 1) (by decide) rfl (fun ls hl => ?_)
        refine lv_goto (tgt := 135) hx hb d_L7_304 (by decide) ?_
        obtain ⟨rfl, rfl, rfl, rfl, rfl, rfl, rfl⟩ := in7 h
        exact W.wide (by omega) (by omega) (k0 ad hag0 hE0 rfl H locs ls hP hD hS (lv_sub hl [1, 2, 3, 4, 5, 6, 7, 8, 9, 0] rfl))
set_option maxRecDepth 100000 in
set_option maxHeartbeats 4000000 in
theorem s_La_pairs_135 (l : Launch) (z : Zz) (E0 : Ev) (ad0 : Nat → Nat) (q1 : Nat) (q2 : Nat) (x4 : Int) (x5 : Int) (x6 : Int) {Q : State → Prop} {p : Program} {e : Env} {s : State} {m : MethodId} {below : List Frame} {meth : Method} {c : Code} {A : Nat → Prop} {args : Array Value} (hx : p.tables.exec = Jvm.exec) (hb : c.code = method_7_code) (hml : c.maxLocals = 12) (hts : ∀ w ∈ WG, w.before args s = true) (hown : s.vm.findClass "BallothallLaw" = some m.cls) (hlocks : meth.locks = false) (hA : ∀ q, s.heap.size ≤ q → A q) (hG : KG z s) (hZ : FZ z A s) (mc ms c1 s1 : Nat) (hm : c1 ≤ mc) (hm2 : s1 ≤ ms) : ∀ (fu c0 s0 : Nat) (ad : Nat → Nat) (E : Ev) (M : Mm) (x3 : Int) (x7 : Int) (x8 : Int) (x9 : Int) (t : Nat) (w3 : Int) (w7 : Int) (w8 : Int) (w9 : Int) (F : Ev) (N : Mm), c0 + fu * 0 ≤ c1 → s0 + fu * 0 ≤ s1 → (∀ i, i < nE E0 → ad i = ad0 i) → nE E0 ≤ nE E → l_La_pairs_135 q1 q2 x4 x5 x6 fu E M x3 x7 x8 x9 = some (t, w3, w7, w8, w9, F, N) → (∀ (ad1 : Nat → Nat), (∀ i, i < nE E0 → ad1 i = ad0 i) → nE E0 ≤ nE F → t = 1 → ∀ (H : Heap) (locs : List Loc) (ls : Array Slot), va_P z.1 classes (wv z ad1 F N) H → va_D A (wv z ad1 F N) → va_S A s.heap H locs → lv_has ls 12 [(0, .ref (ad1 1)), (1, .ref (ad1 q1)), (2, .ref (ad1 q2)), (3, .int (oI w3)), (4, .int (oI x4)), (5, .int (oI x5)), (6, .int (oI x6)), (7, .int (oI w7)), (8, .int (oI w8))] → W p l e (rmK 5 144 mc ms) s m args below meth c H locs c1 s1 Q (F0 m 307 ls [])) → ∀ (H : Heap) (locs : List Loc) (ls : Array Slot), va_P z.1 classes (wv z ad E M) H → va_D A (wv z ad E M) → va_S A s.heap H locs → lv_has ls 12 [(0, .ref (ad 1)), (1, .ref (ad q1)), (2, .ref (ad q2)), (3, .int (oI x3)), (4, .int (oI x4)), (5, .int (oI x5)), (6, .int (oI x6)), (7, .int (oI x7)), (8, .int (oI x8)), (9, .int (oI x9))] → W p l e (rmK 5 144 mc ms) s m args below meth c H locs c0 s0 Q (F0 m 135 ls []) := by
  intro fu
  induction fu with
  | zero =>
    intro c0 s0 ad E M x3 x7 x8 x9 t w3 w7 w8 w9 F N hc hs hag0 hE0 h
    have h : (none : Option (Nat × Int × Int × Int × Int × Ev × Mm)) = some _ := h
    cases h
  | succ fu ih =>
    intro c0 s0 ad E M x3 x7 x8 x9 t w3 w7 w8 w9 F N hc hs hag0 hE0 h k1 H locs ls hP hD hS hl
    obtain ⟨⟨t0, w30, w70, w80, w90, F9, N9⟩, g0, h⟩ := bd_e h
    refine W.wide (Nat.le_refl _) (Nat.le_refl _) (b_La_pairs_135b l z E0 ad0 ad E M q1 q2 x4 x5 x6 x3 x7 x8 x9 t0 w30 w70 w80 w90 F9 N9 hx hb hml hts hown hlocks hA hG hZ mc ms c0 s0 (c0 + 0) (s0 + 0) (Nat.le_refl _) (Nat.le_refl _) (by omega) (by omega) hag0 hE0 g0 (fun ad1 ha he e0 => ?_) (fun ad1 ha he e0 => ?_) H locs ls hP hD hS hl)
    · subst e0
      have h := ite_t rfl h
      exact ih (c0 + 0) (s0 + 0) ad1 F9 N9 w30 w70 w80 w90 t w3 w7 w8 w9 F N (by omega) (by omega) ha he h k1
    · subst e0
      have h := ite_f (by decide) h
      obtain ⟨rfl, rfl, rfl, rfl, rfl, rfl, rfl⟩ := in7 h
      exact fun H locs ls hP hD hS hl => W.wide (by omega) (by omega) (k1 ad1 ha he rfl H locs ls hP hD hS hl)
set_option maxRecDepth 100000 in
set_option maxHeartbeats 4000000 in
theorem b_La_pairs_j345 (l : Launch) (z : Zz) (E0 : Ev) (ad0 : Nat → Nat) (ad : Nat → Nat) (E : Ev) (M : Mm) (q1 : Nat) (q2 : Nat) (x4 : Int) (x5 : Int) (x6 : Int) (x8 : Int) (y0 : Int) (y1 : Int) (t : Nat) (w3 : Int) (w5 : Int) (w6 : Int) (F : Ev) (N : Mm) {Q : State → Prop} {p : Program} {e : Env} {s : State} {m : MethodId} {below : List Frame} {meth : Method} {c : Code} {A : Nat → Prop} {args : Array Value} (hx : p.tables.exec = Jvm.exec) (hb : c.code = method_7_code) (hml : c.maxLocals = 12) (hts : ∀ w ∈ WG, w.before args s = true) (hown : s.vm.findClass "BallothallLaw" = some m.cls) (hlocks : meth.locks = false) (hA : ∀ q, s.heap.size ≤ q → A q) (hG : KG z s) (hZ : FZ z A s) (mc ms c0 s0 c1 s1 : Nat) (hc : c0 + 0 ≤ c1) (hs : s0 + 0 ≤ s1) (hm : c1 ≤ mc) (hm2 : s1 ≤ ms) (hag0 : ∀ i, i < nE E0 → ad i = ad0 i) (hE0 : nE E0 ≤ nE E) (h : La_pairs_j345 E M q1 q2 x4 x5 x6 x8 y0 y1 = some (t, w3, w5, w6, F, N)) (k0 : ∀ (ad1 : Nat → Nat), (∀ i, i < nE E0 → ad1 i = ad0 i) → nE E0 ≤ nE F → t = 0 → ∀ (H : Heap) (locs : List Loc) (ls : Array Slot), va_P z.1 classes (wv z ad1 F N) H → va_D A (wv z ad1 F N) → va_S A s.heap H locs → lv_has ls 12 [(0, .ref (ad1 1)), (1, .ref (ad1 q1)), (2, .ref (ad1 q2)), (3, .int (oI w3)), (4, .int (oI x4)), (5, .int (oI w5)), (6, .int (oI w6))] → W p l e (rmK 5 144 mc ms) s m args below meth c H locs c1 s1 Q (F0 m 117 ls [])) (k1 : ∀ (ad1 : Nat → Nat), (∀ i, i < nE E0 → ad1 i = ad0 i) → nE E0 ≤ nE F → t = 1 → ∀ (H : Heap) (locs : List Loc) (ls : Array Slot), va_P z.1 classes (wv z ad1 F N) H → va_D A (wv z ad1 F N) → va_S A s.heap H locs → lv_has ls 12 [(0, .ref (ad1 1)), (1, .ref (ad1 q1)), (2, .ref (ad1 q2)), (3, .int (oI w3)), (4, .int (oI x4)), (5, .int (oI w5))] → W p l e (rmK 5 144 mc ms) s m args below meth c H locs c1 s1 Q (F0 m 384 ls [])) : ∀ (H : Heap) (locs : List Loc) (ls : Array Slot), va_P z.1 classes (wv z ad E M) H → va_D A (wv z ad E M) → va_S A s.heap H locs → lv_has ls 12 [(0, .ref (ad 1)), (1, .ref (ad q1)), (2, .ref (ad q2)), (4, .int (oI x4)), (5, .int (oI x5)), (6, .int (oI x6)), (8, .int (oI x8))] → W p l e (rmK 5 144 mc ms) s m args below meth c H locs c0 s0 Q (F0 m 345 ls [.int (oI y0), .int (oI y1)]) := by
  intro H locs ls hP hD hS hl
  unfold La_pairs_j345 at h
  obtain ⟨hL, h⟩ := ck_e h
  obtain ⟨h_q1, h⟩ := ck_e h
  obtain ⟨h_q2, h⟩ := ck_e h
  obtain ⟨ok66, h⟩ := ck_e h
  obtain ⟨ok67, h⟩ := ck_e h
  refine lv_icmp_ne (tgt := 376) hx hb d_L7_345 (by decide) (fun c9 => ?_) (fun c9 => ?_)
  · have h := ite_f (fun q => c9 ((oI_eq (a := y1) (b := y0) ok66 ok67).mpr q)) h
    refine lv_iconst (v := oI 0) hx hb d_L7_376 (by decide +kernel) ?_
    refine lv_istore_n (lv' := [(3, .int (oI 0)), (0, .ref (ad 1)), (1, .ref (ad q1)), (2, .ref (ad q2)), (4, .int (oI x4)), (5, .int (oI x5)), (6, .int (oI x6)), (8, .int (oI x8))]) hx hb d_L7_377 rfl hl (by decide) rfl (fun ls hl => ?_)
    refine lv_iinc (v := oI (x6 + 1)) (lv' := [(6, .int (oI (x6 + 1))), (3, .int (oI 0)), (0, .ref (ad 1)), (1, .ref (ad q1)), (2, .ref (ad q2)), (4, .int (oI x4)), (5, .int (oI x5)), (8, .int (oI x8))]) hx hb d_L7_378 hl (k := 6) rfl (oI_add x6 1) (by decide) rfl (fun ls hl => ?_)
    refine lv_goto (tgt := 117) hx hb d_L7_381 (by decide) ?_
    obtain ⟨rfl, rfl, rfl, rfl, rfl, rfl⟩ := in6 h
    exact W.wide (by omega) (by omega) (k0 ad hag0 hE0 rfl H locs ls hP hD hS (lv_sub hl [2, 3, 4, 1, 5, 6, 0] rfl))
  · have h := ite_t ((oI_eq (a := y1) (b := y0) ok66 ok67).mp c9) h
    refine lv_iload hx hb d_L7_348 (lv_at hl 6 rfl) ?_
    obtain ⟨ok68, h⟩ := ck_e h
    refine lv_if_eq (tgt := 372) hx hb d_L7_350 (by decide) (fun c9 => ?_) (fun c9 => ?_)
    · have h := ite_t ((oI_eq0 ok68).mp c9) h
      refine lv_iconst (v := oI 1) hx hb d_L7_372 (by decide +kernel) ?_
      refine lv_goto (tgt := 377) hx hb d_L7_373 (by decide) ?_
      refine lv_istore_n (lv' := [(3, .int (oI 1)), (0, .ref (ad 1)), (1, .ref (ad q1)), (2, .ref (ad q2)), (4, .int (oI x4)), (5, .int (oI x5)), (6, .int (oI x6)), (8, .int (oI x8))]) hx hb d_L7_377 rfl hl (by decide) rfl (fun ls hl => ?_)
      refine lv_iinc (v := oI (x6 + 1)) (lv' := [(6, .int (oI (x6 + 1))), (3, .int (oI 1)), (0, .ref (ad 1)), (1, .ref (ad q1)), (2, .ref (ad q2)), (4, .int (oI x4)), (5, .int (oI x5)), (8, .int (oI x8))]) hx hb d_L7_378 hl (k := 6) rfl (oI_add x6 1) (by decide) rfl (fun ls hl => ?_)
      refine lv_goto (tgt := 117) hx hb d_L7_381 (by decide) ?_
      obtain ⟨rfl, rfl, rfl, rfl, rfl, rfl⟩ := in6 h
      exact W.wide (by omega) (by omega) (k0 ad hag0 hE0 rfl H locs ls hP hD hS (lv_sub hl [2, 3, 4, 1, 5, 6, 0] rfl))
    · have h := ite_f (fun q => c9 ((oI_eq0 ok68).mpr q)) h
      refine lv_iload hx hb d_L7_353 (lv_at hl 3 rfl) ?_
      refine lv_iconst (v := oI 1) hx hb d_L7_355 (by decide +kernel) ?_
      refine lv_iload hx hb d_L7_356 (lv_at hl 5 rfl) ?_
      obtain ⟨ok69, h⟩ := ck_e h
      refine lv_ishl hx hb d_L7_358 ?_
      refine nrm (oI_one_shl ok69) ?_
      obtain ⟨ok70, h⟩ := ck_e h
      obtain ⟨ok71, h⟩ := ck_e h
      refine lv_icmp_ne (tgt := 376) hx hb d_L7_359 (by decide) (fun c9 => ?_) (fun c9 => ?_)
      · have h := ite_f (fun q => c9 ((oI_eq (a := x4) (b := (2 ^ x6.toNat)) ok70 ok71).mpr q)) h
        refine lv_iconst (v := oI 0) hx hb d_L7_376 (by decide +kernel) ?_
        refine lv_istore_n (lv' := [(3, .int (oI 0)), (0, .ref (ad 1)), (1, .ref (ad q1)), (2, .ref (ad q2)), (4, .int (oI x4)), (5, .int (oI x5)), (6, .int (oI x6)), (8, .int (oI x8))]) hx hb d_L7_377 rfl hl (by decide) rfl (fun ls hl => ?_)
        refine lv_iinc (v := oI (x6 + 1)) (lv' := [(6, .int (oI (x6 + 1))), (3, .int (oI 0)), (0, .ref (ad 1)), (1, .ref (ad q1)), (2, .ref (ad q2)), (4, .int (oI x4)), (5, .int (oI x5)), (8, .int (oI x8))]) hx hb d_L7_378 hl (k := 6) rfl (oI_add x6 1) (by decide) rfl (fun ls hl => ?_)
        refine lv_goto (tgt := 117) hx hb d_L7_381 (by decide) ?_
        obtain ⟨rfl, rfl, rfl, rfl, rfl, rfl⟩ := in6 h
        exact W.wide (by omega) (by omega) (k0 ad hag0 hE0 rfl H locs ls hP hD hS (lv_sub hl [2, 3, 4, 1, 5, 6, 0] rfl))
      · have h := ite_t ((oI_eq (a := x4) (b := (2 ^ x6.toNat)) ok70 ok71).mp c9) h
        refine lv_aload_n hx hb d_L7_362 rfl (lv_at hl 0 rfl) ?_
        refine lv_iconst (v := oI 0) hx hb d_L7_363 (by decide +kernel) ?_
        obtain ⟨⟨r72, M72⟩, g72, h⟩ := bd_e h
        refine kV (As := [.int (oI 0)]) (rest := []) (s_B_consensusAt l z ad E M 0 r72 M72 hL g72) hx hb hml hown hts w_1340 w_1337 w_1338 w_1339 w_1 md_b0ab85 ⟨Nat.le_of_ble_eq_true rfl, Nat.le_of_ble_eq_true rfl⟩ hG hZ hP hD hS hA 1 (wv_o (ci := 11) (yi_1 hL) (yt_1 hL)) rfl rfl rfl hl.1 rfl (Nat.le_of_ble_eq_true rfl) d_L7_364 ⟨(show _ ≤ mc by omega), (show _ ≤ ms by omega)⟩ (fun _ H locs hP hD hS => ?_)
        have hP : va_P z.1 classes (wv z ad E M72) H := hP
        have hD : va_D A (wv z ad E M72) := hD
        refine W.eq (g2 := F0 m 367 ls [.int (oI r72)]) rfl ?_
        refine lv_iload hx hb d_L7_367 (lv_at hl 5 rfl) ?_
        obtain ⟨ok73, h⟩ := ck_e h
        refine lv_icmp_ne (tgt := 376) hx hb d_L7_369 (by decide) (fun c9 => ?_) (fun c9 => ?_)
        · have h := ite_f (fun q => c9 ((oI_eq (a := r72) (b := x6) ok73 ⟨by have := ok69.1; omega, by have := ok69.2; omega⟩).mpr q)) h
          refine lv_iconst (v := oI 0) hx hb d_L7_376 (by decide +kernel) ?_
          refine lv_istore_n (lv' := [(3, .int (oI 0)), (0, .ref (ad 1)), (1, .ref (ad q1)), (2, .ref (ad q2)), (4, .int (oI x4)), (5, .int (oI x5)), (6, .int (oI x6)), (8, .int (oI x8))]) hx hb d_L7_377 rfl hl (by decide) rfl (fun ls hl => ?_)
          refine lv_iinc (v := oI (x6 + 1)) (lv' := [(6, .int (oI (x6 + 1))), (3, .int (oI 0)), (0, .ref (ad 1)), (1, .ref (ad q1)), (2, .ref (ad q2)), (4, .int (oI x4)), (5, .int (oI x5)), (8, .int (oI x8))]) hx hb d_L7_378 hl (k := 6) rfl (oI_add x6 1) (by decide) rfl (fun ls hl => ?_)
          refine lv_goto (tgt := 117) hx hb d_L7_381 (by decide) ?_
          obtain ⟨rfl, rfl, rfl, rfl, rfl, rfl⟩ := in6 h
          exact W.wide (by omega) (by omega) (k0 ad hag0 hE0 rfl H locs ls hP hD hS (lv_sub hl [2, 3, 4, 1, 5, 6, 0] rfl))
        · have h := ite_t ((oI_eq (a := r72) (b := x6) ok73 ⟨by have := ok69.1; omega, by have := ok69.2; omega⟩).mp c9) h
          refine lv_iconst (v := oI 1) hx hb d_L7_372 (by decide +kernel) ?_
          refine lv_goto (tgt := 377) hx hb d_L7_373 (by decide) ?_
          refine lv_istore_n (lv' := [(3, .int (oI 1)), (0, .ref (ad 1)), (1, .ref (ad q1)), (2, .ref (ad q2)), (4, .int (oI x4)), (5, .int (oI x5)), (6, .int (oI x6)), (8, .int (oI x8))]) hx hb d_L7_377 rfl hl (by decide) rfl (fun ls hl => ?_)
          refine lv_iinc (v := oI (x6 + 1)) (lv' := [(6, .int (oI (x6 + 1))), (3, .int (oI 1)), (0, .ref (ad 1)), (1, .ref (ad q1)), (2, .ref (ad q2)), (4, .int (oI x4)), (5, .int (oI x5)), (8, .int (oI x8))]) hx hb d_L7_378 hl (k := 6) rfl (oI_add x6 1) (by decide) rfl (fun ls hl => ?_)
          refine lv_goto (tgt := 117) hx hb d_L7_381 (by decide) ?_
          obtain ⟨rfl, rfl, rfl, rfl, rfl, rfl⟩ := in6 h
          exact W.wide (by omega) (by omega) (k0 ad hag0 hE0 rfl H locs ls hP hD hS (lv_sub hl [2, 3, 4, 1, 5, 6, 0] rfl))
set_option maxRecDepth 100000 in
set_option maxHeartbeats 4000000 in
theorem b_La_pairs_j322 (l : Launch) (z : Zz) (E0 : Ev) (ad0 : Nat → Nat) (ad : Nat → Nat) (E : Ev) (M : Mm) (q1 : Nat) (q2 : Nat) (x3 : Int) (x4 : Int) (x6 : Int) (x8 : Int) (y0 : Int) (y1 : Int) (t : Nat) (w3 : Int) (w5 : Int) (w6 : Int) (F : Ev) (N : Mm) {Q : State → Prop} {p : Program} {e : Env} {s : State} {m : MethodId} {below : List Frame} {meth : Method} {c : Code} {A : Nat → Prop} {args : Array Value} (hx : p.tables.exec = Jvm.exec) (hb : c.code = method_7_code) (hml : c.maxLocals = 12) (hts : ∀ w ∈ WG, w.before args s = true) (hown : s.vm.findClass "BallothallLaw" = some m.cls) (hlocks : meth.locks = false) (hA : ∀ q, s.heap.size ≤ q → A q) (hG : KG z s) (hZ : FZ z A s) (mc ms c0 s0 c1 s1 : Nat) (hc : c0 + 0 ≤ c1) (hs : s0 + 0 ≤ s1) (hm : c1 ≤ mc) (hm2 : s1 ≤ ms) (hag0 : ∀ i, i < nE E0 → ad i = ad0 i) (hE0 : nE E0 ≤ nE E) (h : La_pairs_j322 E M q1 q2 x3 x4 x6 x8 y0 y1 = some (t, w3, w5, w6, F, N)) (k0 : ∀ (ad1 : Nat → Nat), (∀ i, i < nE E0 → ad1 i = ad0 i) → nE E0 ≤ nE F → t = 0 → ∀ (H : Heap) (locs : List Loc) (ls : Array Slot), va_P z.1 classes (wv z ad1 F N) H → va_D A (wv z ad1 F N) → va_S A s.heap H locs → lv_has ls 12 [(0, .ref (ad1 1)), (1, .ref (ad1 q1)), (2, .ref (ad1 q2)), (3, .int (oI w3)), (4, .int (oI x4)), (5, .int (oI w5)), (6, .int (oI w6))] → W p l e (rmK 5 144 mc ms) s m args below meth c H locs c1 s1 Q (F0 m 117 ls [])) (k1 : ∀ (ad1 : Nat → Nat), (∀ i, i < nE E0 → ad1 i = ad0 i) → nE E0 ≤ nE F → t = 1 → ∀ (H : Heap) (locs : List Loc) (ls : Array Slot), va_P z.1 classes (wv z ad1 F N) H → va_D A (wv z ad1 F N) → va_S A s.heap H locs → lv_has ls 12 [(0, .ref (ad1 1)), (1, .ref (ad1 q1)), (2, .ref (ad1 q2)), (3, .int (oI w3)), (4, .int (oI x4)), (5, .int (oI w5))] → W p l e (rmK 5 144 mc ms) s m args below meth c H locs c1 s1 Q (F0 m 384 ls [])) : ∀ (H : Heap) (locs : List Loc) (ls : Array Slot), va_P z.1 classes (wv z ad E M) H → va_D A (wv z ad E M) → va_S A s.heap H locs → lv_has ls 12 [(0, .ref (ad 1)), (1, .ref (ad q1)), (2, .ref (ad q2)), (3, .int (oI x3)), (4, .int (oI x4)), (6, .int (oI x6)), (8, .int (oI x8))] → W p l e (rmK 5 144 mc ms) s m args below meth c H locs c0 s0 Q (F0 m 322 ls [.int (oI y0), .int (oI y1)]) := by
  intro H locs ls hP hD hS hl
  unfold La_pairs_j322 at h
  obtain ⟨hL, h⟩ := ck_e h
  obtain ⟨h_q1, h⟩ := ck_e h
  obtain ⟨h_q2, h⟩ := ck_e h
  obtain ⟨ok60, h⟩ := ck_e h
  obtain ⟨ok61, h⟩ := ck_e h
  refine lv_ior hx hb d_L7_322 ?_
  refine nrm (oI_or (a := y1) (b := y0) ok60.1 ok60.2 ok61.1 ok61.2) ?_
  refine lv_istore (lv' := [(5, .int (oI (orI y1 y0))), (0, .ref (ad 1)), (1, .ref (ad q1)), (2, .ref (ad q2)), (3, .int (oI x3)), (4, .int (oI x4)), (6, .int (oI x6)), (8, .int (oI x8))]) hx hb d_L7_323 hl (by decide) rfl (fun ls hl => ?_)
  refine lv_iload_n hx hb d_L7_325 rfl (lv_at hl 4 rfl) ?_
  obtain ⟨ok62, h⟩ := ck_e h
  refine lv_if_eq (tgt := 376) hx hb d_L7_326 (by decide) (fun c9 => ?_) (fun c9 => ?_)
  · have h := ite_t ((oI_eq0 ok62).mp c9) h
    refine lv_iconst (v := oI 0) hx hb d_L7_376 (by decide +kernel) ?_
    refine lv_istore_n (lv' := [(3, .int (oI 0)), (5, .int (oI (orI y1 y0))), (0, .ref (ad 1)), (1, .ref (ad q1)), (2, .ref (ad q2)), (4, .int (oI x4)), (6, .int (oI x6)), (8, .int (oI x8))]) hx hb d_L7_377 rfl hl (by decide) rfl (fun ls hl => ?_)
    refine lv_iinc (v := oI (x6 + 1)) (lv' := [(6, .int (oI (x6 + 1))), (3, .int (oI 0)), (5, .int (oI (orI y1 y0))), (0, .ref (ad 1)), (1, .ref (ad q1)), (2, .ref (ad q2)), (4, .int (oI x4)), (8, .int (oI x8))]) hx hb d_L7_378 hl (k := 6) rfl (oI_add x6 1) (by decide) rfl (fun ls hl => ?_)
    refine lv_goto (tgt := 117) hx hb d_L7_381 (by decide) ?_
    obtain ⟨rfl, rfl, rfl, rfl, rfl, rfl⟩ := in6 h
    exact W.wide (by omega) (by omega) (k0 ad hag0 hE0 rfl H locs ls hP hD hS (lv_sub hl [3, 4, 5, 1, 6, 2, 0] rfl))
  · have h := ite_f (fun q => c9 ((oI_eq0 ok62).mpr q)) h
    refine lv_iload hx hb d_L7_329 (lv_at hl 7 rfl) ?_
    refine lv_aload_n hx hb d_L7_331 rfl (lv_at hl 1 rfl) ?_
    obtain ⟨⟨r63, M63⟩, g63, h⟩ := bd_e h
    refine kV (As := []) (rest := [.int (oI x8)]) (s_B_beatsAll l z ad E M r63 M63 hL g63) hx hb hml hown hts w_1336 w_1333 w_1334 w_1335 w_1 md_637b91 ⟨Nat.le_of_ble_eq_true rfl, Nat.le_of_ble_eq_true rfl⟩ hG hZ hP hD hS hA 1 (wv_o (ci := 11) (yi_1 hL) (yt_1 hL)) rfl rfl rfl hl.1 rfl (Nat.le_of_ble_eq_true rfl) d_L7_332 ⟨(show _ ≤ mc by omega), (show _ ≤ ms by omega)⟩ (fun _ H locs hP hD hS => ?_)
    have hP : va_P z.1 classes (wv z ad E M63) H := hP
    have hD : va_D A (wv z ad E M63) := hD
    refine W.eq (g2 := F0 m 335 ls [.int (oI r63), .int (oI x8)]) rfl ?_
    refine lv_iload hx hb d_L7_335 (lv_at hl 6 rfl) ?_
    obtain ⟨ok64, h⟩ := ck_e h
    obtain ⟨ok65, h⟩ := ck_e h
    refine lv_icmp_ne (tgt := 344) hx hb d_L7_337 (by decide) (fun c9 => ?_) (fun c9 => ?_)
    · have h := ite_f (fun q => c9 ((oI_eq (a := r63) (b := x6) ok64 ok65).mpr q)) h
      refine lv_iconst (v := oI 0) hx hb d_L7_344 (by decide +kernel) ?_
      exact b_La_pairs_j345 l z E0 ad0 ad E M63 q1 q2 x4 (orI y1 y0) x6 x8 0 x8 t w3 w5 w6 F N hx hb hml hts hown hlocks hA hG hZ mc ms _ _ c1 s1 (by omega) (by omega) hm hm2 hag0 hE0 h k0 k1 H locs ls hP hD hS (lv_sub hl [1, 2, 3, 5, 0, 6, 7] rfl)
    · have h := ite_t ((oI_eq (a := r63) (b := x6) ok64 ok65).mp c9) h
      refine lv_iconst (v := oI 1) hx hb d_L7_340 (by decide +kernel) ?_
      refine lv_goto (tgt := 345) hx hb d_L7_341 (by decide) ?_
      exact b_La_pairs_j345 l z E0 ad0 ad E M63 q1 q2 x4 (orI y1 y0) x6 x8 1 x8 t w3 w5 w6 F N hx hb hml hts hown hlocks hA hG hZ mc ms _ _ c1 s1 (by omega) (by omega) hm hm2 hag0 hE0 h k0 k1 H locs ls hP hD hS (lv_sub hl [1, 2, 3, 5, 0, 6, 7] rfl)
set_option maxRecDepth 100000 in
set_option maxHeartbeats 4000000 in
theorem b_La_pairs_j307 (l : Launch) (z : Zz) (E0 : Ev) (ad0 : Nat → Nat) (ad : Nat → Nat) (E : Ev) (M : Mm) (q1 : Nat) (q2 : Nat) (x3 : Int) (x4 : Int) (x5 : Int) (x6 : Int) (x7 : Int) (x8 : Int) (t : Nat) (w3 : Int) (w5 : Int) (w6 : Int) (F : Ev) (N : Mm) {Q : State → Prop} {p : Program} {e : Env} {s : State} {m : MethodId} {below : List Frame} {meth : Method} {c : Code} {A : Nat → Prop} {args : Array Value} (hx : p.tables.exec = Jvm.exec) (hb : c.code = method_7_code) (hml : c.maxLocals = 12) (hts : ∀ w ∈ WG, w.before args s = true) (hown : s.vm.findClass "BallothallLaw" = some m.cls) (hlocks : meth.locks = false) (hA : ∀ q, s.heap.size ≤ q → A q) (hG : KG z s) (hZ : FZ z A s) (mc ms c0 s0 c1 s1 : Nat) (hc : c0 + 0 ≤ c1) (hs : s0 + 0 ≤ s1) (hm : c1 ≤ mc) (hm2 : s1 ≤ ms) (hag0 : ∀ i, i < nE E0 → ad i = ad0 i) (hE0 : nE E0 ≤ nE E) (h : La_pairs_j307 E M q1 q2 x3 x4 x5 x6 x7 x8 = some (t, w3, w5, w6, F, N)) (k0 : ∀ (ad1 : Nat → Nat), (∀ i, i < nE E0 → ad1 i = ad0 i) → nE E0 ≤ nE F → t = 0 → ∀ (H : Heap) (locs : List Loc) (ls : Array Slot), va_P z.1 classes (wv z ad1 F N) H → va_D A (wv z ad1 F N) → va_S A s.heap H locs → lv_has ls 12 [(0, .ref (ad1 1)), (1, .ref (ad1 q1)), (2, .ref (ad1 q2)), (3, .int (oI w3)), (4, .int (oI x4)), (5, .int (oI w5)), (6, .int (oI w6))] → W p l e (rmK 5 144 mc ms) s m args below meth c H locs c1 s1 Q (F0 m 117 ls [])) (k1 : ∀ (ad1 : Nat → Nat), (∀ i, i < nE E0 → ad1 i = ad0 i) → nE E0 ≤ nE F → t = 1 → ∀ (H : Heap) (locs : List Loc) (ls : Array Slot), va_P z.1 classes (wv z ad1 F N) H → va_D A (wv z ad1 F N) → va_S A s.heap H locs → lv_has ls 12 [(0, .ref (ad1 1)), (1, .ref (ad1 q1)), (2, .ref (ad1 q2)), (3, .int (oI w3)), (4, .int (oI x4)), (5, .int (oI w5))] → W p l e (rmK 5 144 mc ms) s m args below meth c H locs c1 s1 Q (F0 m 384 ls [])) : ∀ (H : Heap) (locs : List Loc) (ls : Array Slot), va_P z.1 classes (wv z ad E M) H → va_D A (wv z ad E M) → va_S A s.heap H locs → lv_has ls 12 [(0, .ref (ad 1)), (1, .ref (ad q1)), (2, .ref (ad q2)), (3, .int (oI x3)), (4, .int (oI x4)), (5, .int (oI x5)), (6, .int (oI x6)), (7, .int (oI x7)), (8, .int (oI x8))] → W p l e (rmK 5 144 mc ms) s m args below meth c H locs c0 s0 Q (F0 m 307 ls []) := by
  intro H locs ls hP hD hS hl
  unfold La_pairs_j307 at h
  obtain ⟨hL, h⟩ := ck_e h
  obtain ⟨h_q1, h⟩ := ck_e h
  obtain ⟨h_q2, h⟩ := ck_e h
  refine lv_iload hx hb d_L7_307 (lv_at hl 5 rfl) ?_
  refine lv_iload hx hb d_L7_309 (lv_at hl 7 rfl) ?_
  obtain ⟨ok59, h⟩ := ck_e h
  refine lv_if_eq (tgt := 321) hx hb d_L7_311 (by decide) (fun c9 => ?_) (fun c9 => ?_)
  · have h := ite_t ((oI_eq0 ok59).mp c9) h
    refine lv_iconst (v := oI 0) hx hb d_L7_321 (by decide +kernel) ?_
    exact b_La_pairs_j322 l z E0 ad0 ad E M q1 q2 x3 x4 x6 x8 0 x5 t w3 w5 w6 F N hx hb hml hts hown hlocks hA hG hZ mc ms _ _ c1 s1 (by omega) (by omega) hm hm2 hag0 hE0 h k0 k1 H locs ls hP hD hS (lv_sub hl [0, 1, 2, 3, 4, 6, 8] rfl)
  · have h := ite_f (fun q => c9 ((oI_eq0 ok59).mpr q)) h
    refine lv_iconst (v := oI 1) hx hb d_L7_314 (by decide +kernel) ?_
    refine lv_iload hx hb d_L7_315 (lv_at hl 6 rfl) ?_
    obtain ⟨ok74, h⟩ := ck_e h
    refine lv_ishl hx hb d_L7_317 ?_
    refine nrm (oI_one_shl ok74) ?_
    refine lv_goto (tgt := 322) hx hb d_L7_318 (by decide) ?_
    exact b_La_pairs_j322 l z E0 ad0 ad E M q1 q2 x3 x4 x6 x8 (2 ^ x6.toNat) x5 t w3 w5 w6 F N hx hb hml hts hown hlocks hA hG hZ mc ms _ _ c1 s1 (by omega) (by omega) hm hm2 hag0 hE0 h k0 k1 H locs ls hP hD hS (lv_sub hl [0, 1, 2, 3, 4, 6, 8] rfl)
set_option maxRecDepth 100000 in
set_option maxHeartbeats 4000000 in
theorem b_La_pairs_117b (l : Launch) (z : Zz) (E0 : Ev) (ad0 : Nat → Nat) (ad : Nat → Nat) (E : Ev) (M : Mm) (q1 : Nat) (q2 : Nat) (x4 : Int) (x3 : Int) (x5 : Int) (x6 : Int) (t : Nat) (w3 : Int) (w5 : Int) (w6 : Int) (F : Ev) (N : Mm) {Q : State → Prop} {p : Program} {e : Env} {s : State} {m : MethodId} {below : List Frame} {meth : Method} {c : Code} {A : Nat → Prop} {args : Array Value} (hx : p.tables.exec = Jvm.exec) (hb : c.code = method_7_code) (hml : c.maxLocals = 12) (hts : ∀ w ∈ WG, w.before args s = true) (hown : s.vm.findClass "BallothallLaw" = some m.cls) (hlocks : meth.locks = false) (hA : ∀ q, s.heap.size ≤ q → A q) (hG : KG z s) (hZ : FZ z A s) (mc ms c0 s0 c1 s1 : Nat) (hc : c0 + 0 ≤ c1) (hs : s0 + 0 ≤ s1) (hm : c1 ≤ mc) (hm2 : s1 ≤ ms) (hag0 : ∀ i, i < nE E0 → ad i = ad0 i) (hE0 : nE E0 ≤ nE E) (h : La_pairs_117b E M q1 q2 x4 x3 x5 x6 = some (t, w3, w5, w6, F, N)) (k0 : ∀ (ad1 : Nat → Nat), (∀ i, i < nE E0 → ad1 i = ad0 i) → nE E0 ≤ nE F → t = 0 → ∀ (H : Heap) (locs : List Loc) (ls : Array Slot), va_P z.1 classes (wv z ad1 F N) H → va_D A (wv z ad1 F N) → va_S A s.heap H locs → lv_has ls 12 [(0, .ref (ad1 1)), (1, .ref (ad1 q1)), (2, .ref (ad1 q2)), (3, .int (oI w3)), (4, .int (oI x4)), (5, .int (oI w5)), (6, .int (oI w6))] → W p l e (rmK 5 144 mc ms) s m args below meth c H locs c1 s1 Q (F0 m 117 ls [])) (k1 : ∀ (ad1 : Nat → Nat), (∀ i, i < nE E0 → ad1 i = ad0 i) → nE E0 ≤ nE F → t = 1 → ∀ (H : Heap) (locs : List Loc) (ls : Array Slot), va_P z.1 classes (wv z ad1 F N) H → va_D A (wv z ad1 F N) → va_S A s.heap H locs → lv_has ls 12 [(0, .ref (ad1 1)), (1, .ref (ad1 q1)), (2, .ref (ad1 q2)), (3, .int (oI w3)), (4, .int (oI x4)), (5, .int (oI w5))] → W p l e (rmK 5 144 mc ms) s m args below meth c H locs c1 s1 Q (F0 m 384 ls [])) : ∀ (H : Heap) (locs : List Loc) (ls : Array Slot), va_P z.1 classes (wv z ad E M) H → va_D A (wv z ad E M) → va_S A s.heap H locs → lv_has ls 12 [(0, .ref (ad 1)), (1, .ref (ad q1)), (2, .ref (ad q2)), (3, .int (oI x3)), (4, .int (oI x4)), (5, .int (oI x5)), (6, .int (oI x6))] → W p l e (rmK 5 144 mc ms) s m args below meth c H locs c0 s0 Q (F0 m 117 ls []) := by
  intro H locs ls hP hD hS hl
  unfold La_pairs_117b at h
  obtain ⟨hL, h⟩ := ck_e h
  obtain ⟨h_q1, h⟩ := ck_e h
  obtain ⟨h_q2, h⟩ := ck_e h
  refine lv_iload hx hb d_L7_117 (lv_at hl 6 rfl) ?_
  refine lv_aload_n hx hb d_L7_119 rfl (lv_at hl 1 rfl) ?_
  refine m_giN (C := "BallothallLaw$Box") (T := TX12) (N := 4) (ci := 12) (k := 0) hx hb hts iX12 hown hG hP h_q1.1 h_q1.2 rfl (by decide) n_775 rfl (fun _ h9 => h9) rfl rfl d_L7_120 ?_
  obtain ⟨ok21, h⟩ := ck_e h
  obtain ⟨ok22, h⟩ := ck_e h
  refine lv_icmp_ge (tgt := 384) hx hb d_L7_123 (by decide) (fun c9 => ?_) (fun c9 => ?_)
  · have h := ite_t ((oI_le (a := (M q1 0)) (b := x6) ok22 ok21).mp c9) h
    obtain ⟨rfl, rfl, rfl, rfl, rfl, rfl⟩ := in6 h
    exact W.wide (by omega) (by omega) (k1 ad hag0 hE0 rfl H locs ls hP hD hS (lv_sub hl [0, 1, 2, 3, 4, 5] rfl))
  · have h := ite_f (fun q => c9 ((oI_le (a := (M q1 0)) (b := x6) ok22 ok21).mpr q)) h
    refine lv_iconst (v := oI 1) hx hb d_L7_126 (by decide +kernel) ?_
    refine lv_istore (lv' := [(7, .int (oI 1)), (0, .ref (ad 1)), (1, .ref (ad q1)), (2, .ref (ad q2)), (3, .int (oI x3)), (4, .int (oI x4)), (5, .int (oI x5)), (6, .int (oI x6))]) hx hb d_L7_127 hl (by decide) rfl (fun ls hl => ?_)
    refine lv_iconst (v := oI 1) hx hb d_L7_129 (by decide +kernel) ?_
    refine lv_istore (lv' := [(8, .int (oI 1)), (7, .int (oI 1)), (0, .ref (ad 1)), (1, .ref (ad q1)), (2, .ref (ad q2)), (3, .int (oI x3)), (4, .int (oI x4)), (5, .int (oI x5)), (6, .int (oI x6))]) hx hb d_L7_130 hl (by decide) rfl (fun ls hl => ?_)
    refine lv_iconst (v := oI 0) hx hb d_L7_132 (by decide +kernel) ?_
    refine lv_istore (lv' := [(9, .int (oI 0)), (8, .int (oI 1)), (7, .int (oI 1)), (0, .ref (ad 1)), (1, .ref (ad q1)), (2, .ref (ad q2)), (3, .int (oI x3)), (4, .int (oI x4)), (5, .int (oI x5)), (6, .int (oI x6))]) hx hb d_L7_133 hl (by decide) rfl (fun ls hl => ?_)
    obtain ⟨⟨t58, v58_3, v58_7, v58_8, v58_9, E58, M58⟩, g58, h⟩ := bd_e h
    obtain ⟨hgw58, h⟩ := ck_e h
    obtain ⟨hL58, h⟩ := ck_e h
    obtain ⟨ok58, h⟩ := ck_e h
    refine s_La_pairs_135 l z E ad q1 q2 x4 x5 x6 hx hb hml hts hown hlocks hA hG hZ mc ms (c0 + 0) (s0 + 0) (by omega) (by omega) 5000 _ _ ad E M x3 1 1 0 t58 v58_3 v58_7 v58_8 v58_9 E58 M58 (by omega) (by omega) (fun _ _ => rfl) (Nat.le_refl _) g58 (fun ad58 hag58 hEE58 e58 H locs ls hP hD hS hl => ?_) H locs ls hP hD hS (lv_sub hl [3, 4, 5, 6, 7, 8, 9, 2, 1, 0] rfl)
    have hag0 : ∀ i, i < nE E0 → ad58 i = ad0 i := fun i hi => (hag58 i (Nat.lt_of_lt_of_le hi hE0)).trans (hag0 i hi)
    have hE0 : nE E0 ≤ nE E58 := Nat.le_trans hE0 hgw58.1
    have hL : Lay E58 := hL58
    have h_q1 : isO 12 E58 q1 := isO_up hgw58 h_q1
    have h_q2 : isQ 6 E58 q2 := isA_up hgw58 h_q2
    exact b_La_pairs_j307 l z E0 ad0 ad58 E58 M58 q1 q2 v58_3 x4 x5 x6 v58_7 v58_8 t w3 w5 w6 F N hx hb hml hts hown hlocks hA hG hZ mc ms _ _ c1 s1 (by omega) (by omega) hm hm2 hag0 hE0 h k0 k1 H locs ls hP hD hS (lv_sub hl [0, 1, 2, 3, 4, 5, 6, 7, 8] rfl)
set_option maxRecDepth 100000 in
set_option maxHeartbeats 4000000 in
theorem s_La_pairs_117 (l : Launch) (z : Zz) (E0 : Ev) (ad0 : Nat → Nat) (q1 : Nat) (q2 : Nat) (x4 : Int) {Q : State → Prop} {p : Program} {e : Env} {s : State} {m : MethodId} {below : List Frame} {meth : Method} {c : Code} {A : Nat → Prop} {args : Array Value} (hx : p.tables.exec = Jvm.exec) (hb : c.code = method_7_code) (hml : c.maxLocals = 12) (hts : ∀ w ∈ WG, w.before args s = true) (hown : s.vm.findClass "BallothallLaw" = some m.cls) (hlocks : meth.locks = false) (hA : ∀ q, s.heap.size ≤ q → A q) (hG : KG z s) (hZ : FZ z A s) (mc ms c1 s1 : Nat) (hm : c1 ≤ mc) (hm2 : s1 ≤ ms) : ∀ (fu c0 s0 : Nat) (ad : Nat → Nat) (E : Ev) (M : Mm) (x3 : Int) (x5 : Int) (x6 : Int) (t : Nat) (w3 : Int) (w5 : Int) (w6 : Int) (F : Ev) (N : Mm), c0 + fu * 0 ≤ c1 → s0 + fu * 0 ≤ s1 → (∀ i, i < nE E0 → ad i = ad0 i) → nE E0 ≤ nE E → l_La_pairs_117 q1 q2 x4 fu E M x3 x5 x6 = some (t, w3, w5, w6, F, N) → (∀ (ad1 : Nat → Nat), (∀ i, i < nE E0 → ad1 i = ad0 i) → nE E0 ≤ nE F → t = 1 → ∀ (H : Heap) (locs : List Loc) (ls : Array Slot), va_P z.1 classes (wv z ad1 F N) H → va_D A (wv z ad1 F N) → va_S A s.heap H locs → lv_has ls 12 [(0, .ref (ad1 1)), (1, .ref (ad1 q1)), (2, .ref (ad1 q2)), (3, .int (oI w3)), (4, .int (oI x4)), (5, .int (oI w5))] → W p l e (rmK 5 144 mc ms) s m args below meth c H locs c1 s1 Q (F0 m 384 ls [])) → ∀ (H : Heap) (locs : List Loc) (ls : Array Slot), va_P z.1 classes (wv z ad E M) H → va_D A (wv z ad E M) → va_S A s.heap H locs → lv_has ls 12 [(0, .ref (ad 1)), (1, .ref (ad q1)), (2, .ref (ad q2)), (3, .int (oI x3)), (4, .int (oI x4)), (5, .int (oI x5)), (6, .int (oI x6))] → W p l e (rmK 5 144 mc ms) s m args below meth c H locs c0 s0 Q (F0 m 117 ls []) := by
  intro fu
  induction fu with
  | zero =>
    intro c0 s0 ad E M x3 x5 x6 t w3 w5 w6 F N hc hs hag0 hE0 h
    have h : (none : Option (Nat × Int × Int × Int × Ev × Mm)) = some _ := h
    cases h
  | succ fu ih =>
    intro c0 s0 ad E M x3 x5 x6 t w3 w5 w6 F N hc hs hag0 hE0 h k1 H locs ls hP hD hS hl
    obtain ⟨⟨t0, w30, w50, w60, F9, N9⟩, g0, h⟩ := bd_e h
    refine W.wide (Nat.le_refl _) (Nat.le_refl _) (b_La_pairs_117b l z E0 ad0 ad E M q1 q2 x4 x3 x5 x6 t0 w30 w50 w60 F9 N9 hx hb hml hts hown hlocks hA hG hZ mc ms c0 s0 (c0 + 0) (s0 + 0) (Nat.le_refl _) (Nat.le_refl _) (by omega) (by omega) hag0 hE0 g0 (fun ad1 ha he e0 => ?_) (fun ad1 ha he e0 => ?_) H locs ls hP hD hS hl)
    · subst e0
      have h := ite_t rfl h
      exact ih (c0 + 0) (s0 + 0) ad1 F9 N9 w30 w50 w60 t w3 w5 w6 F N (by omega) (by omega) ha he h k1
    · subst e0
      have h := ite_f (by decide) h
      obtain ⟨rfl, rfl, rfl, rfl, rfl, rfl⟩ := in6 h
      exact fun H locs ls hP hD hS hl => W.wide (by omega) (by omega) (k1 ad1 ha he rfl H locs ls hP hD hS hl)
set_option maxRecDepth 100000 in
set_option maxHeartbeats 4000000 in
theorem b_La_pairs_444b (l : Launch) (z : Zz) (E0 : Ev) (ad0 : Nat → Nat) (ad : Nat → Nat) (E : Ev) (M : Mm) (q1 : Nat) (q2 : Nat) (x8 : Int) (x9 : Int) (x6 : Int) (x10 : Int) (t : Nat) (w6 : Int) (w10 : Int) (F : Ev) (N : Mm) {Q : State → Prop} {p : Program} {e : Env} {s : State} {m : MethodId} {below : List Frame} {meth : Method} {c : Code} {A : Nat → Prop} {args : Array Value} (hx : p.tables.exec = Jvm.exec) (hb : c.code = method_7_code) (hml : c.maxLocals = 12) (hts : ∀ w ∈ WG, w.before args s = true) (hown : s.vm.findClass "BallothallLaw" = some m.cls) (hlocks : meth.locks = false) (hA : ∀ q, s.heap.size ≤ q → A q) (hG : KG z s) (hZ : FZ z A s) (mc ms c0 s0 c1 s1 : Nat) (hc : c0 + 0 ≤ c1) (hs : s0 + 0 ≤ s1) (hm : c1 ≤ mc) (hm2 : s1 ≤ ms) (hag0 : ∀ i, i < nE E0 → ad i = ad0 i) (hE0 : nE E0 ≤ nE E) (h : La_pairs_444b E M q1 q2 x8 x9 x6 x10 = some (t, w6, w10, F, N)) (k0 : ∀ (ad1 : Nat → Nat), (∀ i, i < nE E0 → ad1 i = ad0 i) → nE E0 ≤ nE F → t = 0 → ∀ (H : Heap) (locs : List Loc) (ls : Array Slot), va_P z.1 classes (wv z ad1 F N) H → va_D A (wv z ad1 F N) → va_S A s.heap H locs → lv_has ls 12 [(0, .ref (ad1 1)), (1, .ref (ad1 q1)), (2, .ref (ad1 q2)), (6, .long (oJ w6)), (8, .int (oI x8)), (9, .int (oI x9)), (10, .int (oI w10))] → W p l e (rmK 5 144 mc ms) s m args below meth c H locs c1 s1 Q (F0 m 444 ls [])) (k1 : ∀ (ad1 : Nat → Nat), (∀ i, i < nE E0 → ad1 i = ad0 i) → nE E0 ≤ nE F → t = 1 → ∀ (H : Heap) (locs : List Loc) (ls : Array Slot), va_P z.1 classes (wv z ad1 F N) H → va_D A (wv z ad1 F N) → va_S A s.heap H locs → lv_has ls 12 [(0, .ref (ad1 1)), (1, .ref (ad1 q1)), (2, .ref (ad1 q2)), (6, .long (oJ w6)), (8, .int (oI x8)), (9, .int (oI x9))] → W p l e (rmK 5 144 mc ms) s m args below meth c H locs c1 s1 Q (F0 m 476 ls [])) : ∀ (H : Heap) (locs : List Loc) (ls : Array Slot), va_P z.1 classes (wv z ad E M) H → va_D A (wv z ad E M) → va_S A s.heap H locs → lv_has ls 12 [(0, .ref (ad 1)), (1, .ref (ad q1)), (2, .ref (ad q2)), (6, .long (oJ x6)), (8, .int (oI x8)), (9, .int (oI x9)), (10, .int (oI x10))] → W p l e (rmK 5 144 mc ms) s m args below meth c H locs c0 s0 Q (F0 m 444 ls []) := by
  intro H locs ls hP hD hS hl
  unfold La_pairs_444b at h
  obtain ⟨hL, h⟩ := ck_e h
  obtain ⟨h_q1, h⟩ := ck_e h
  obtain ⟨h_q2, h⟩ := ck_e h
  refine lv_iload hx hb d_L7_444 (lv_at hl 6 rfl) ?_
  refine lv_aload_n hx hb d_L7_446 rfl (lv_at hl 1 rfl) ?_
  refine m_giN (C := "BallothallLaw$Box") (T := TX12) (N := 4) (ci := 12) (k := 0) hx hb hts iX12 hown hG hP h_q1.1 h_q1.2 rfl (by decide) n_775 rfl (fun _ h9 => h9) rfl rfl d_L7_447 ?_
  obtain ⟨ok81, h⟩ := ck_e h
  obtain ⟨ok82, h⟩ := ck_e h
  refine lv_icmp_ge (tgt := 476) hx hb d_L7_450 (by decide) (fun c9 => ?_) (fun c9 => ?_)
  · have h := ite_t ((oI_le (a := (M q1 0)) (b := x10) ok82 ok81).mp c9) h
    obtain ⟨rfl, rfl, rfl, rfl, rfl⟩ := in5 h
    exact W.wide (by omega) (by omega) (k1 ad hag0 hE0 rfl H locs ls hP hD hS (lv_sub hl [0, 1, 2, 3, 4, 5] rfl))
  · have h := ite_f (fun q => c9 ((oI_le (a := (M q1 0)) (b := x10) ok82 ok81).mpr q)) h
    refine lv_lload hx hb d_L7_453 (lv_at hl 3 rfl) ?_
    refine lv_aload_n hx hb d_L7_455 rfl (lv_at hl 2 rfl) ?_
    refine lv_aload_n hx hb d_L7_456 rfl (lv_at hl 0 rfl) ?_
    refine lv_iload hx hb d_L7_457 (lv_at hl 6 rfl) ?_
    obtain ⟨⟨r83, M83⟩, g83, h⟩ := bd_e h
    refine kV (As := [.int (oI x10)]) (rest := [.ref (ad q2), .long (oJ x6)]) (s_B_consensusAt l z ad E M x10 r83 M83 hL g83) hx hb hml hown hts w_1340 w_1337 w_1338 w_1339 w_1 md_b0ab85 ⟨Nat.le_of_ble_eq_true rfl, Nat.le_of_ble_eq_true rfl⟩ hG hZ hP hD hS hA 1 (wv_o (ci := 11) (yi_1 hL) (yt_1 hL)) rfl rfl rfl hl.1 rfl (Nat.le_of_ble_eq_true rfl) d_L7_459 ⟨(show _ ≤ mc by omega), (show _ ≤ ms by omega)⟩ (fun _ H locs hP hD hS => ?_)
    have hP : va_P z.1 classes (wv z ad E M83) H := hP
    have hD : va_D A (wv z ad E M83) := hD
    refine W.eq (g2 := F0 m 462 ls [.int (oI r83), .ref (ad q2), .long (oJ x6)]) rfl ?_
    obtain ⟨ok84, h⟩ := ck_e h
    obtain ⟨p85, g85, h⟩ := bd_e h
    obtain ⟨h_p85, h⟩ := ck_e h
    refine m_ar (k := p85) hx hb hG hP h_q2.1 (isQ_T h_q2) ok84 g85 d_L7_462 ?_
    refine lv_iload hx hb d_L7_463 (lv_at hl 5 rfl) ?_
    obtain ⟨ok86, h⟩ := ck_e h
    refine m_ia hx hb hG hP h_p85.1 (isIA_T h_p85) ok86 d_L7_465 ?_
    obtain ⟨ok87, h⟩ := ck_e h
    refine lv_i2l (v := oJ (M83 p85 x9.toNat)) hx hb d_L7_466 (oI_l ok87) ?_
    refine lv_ladd hx hb d_L7_467 ?_
    refine nrmL (oJ_add _ _) ?_
    refine lv_lstore (lv' := [(6, .long (oJ (x6 + (M83 p85 x9.toNat)))), (0, .ref (ad 1)), (1, .ref (ad q1)), (2, .ref (ad q2)), (8, .int (oI x8)), (9, .int (oI x9)), (10, .int (oI x10))]) hx hb d_L7_468 hl (by decide) rfl (fun ls hl => ?_)
    refine lv_iinc (v := oI (x10 + 1)) (lv' := [(10, .int (oI (x10 + 1))), (6, .long (oJ (x6 + (M83 p85 x9.toNat)))), (0, .ref (ad 1)), (1, .ref (ad q1)), (2, .ref (ad q2)), (8, .int (oI x8)), (9, .int (oI x9))]) hx hb d_L7_470 hl (k := 6) rfl (oI_add x10 1) (by decide) rfl (fun ls hl => ?_)
    refine lv_goto (tgt := 444) hx hb d_L7_473 (by decide) ?_
    obtain ⟨rfl, rfl, rfl, rfl, rfl⟩ := in5 h
    exact W.wide (by omega) (by omega) (k0 ad hag0 hE0 rfl H locs ls hP hD hS (lv_sub hl [2, 3, 4, 1, 5, 6, 0] rfl))
set_option maxRecDepth 100000 in
set_option maxHeartbeats 4000000 in
theorem s_La_pairs_444 (l : Launch) (z : Zz) (E0 : Ev) (ad0 : Nat → Nat) (q1 : Nat) (q2 : Nat) (x8 : Int) (x9 : Int) {Q : State → Prop} {p : Program} {e : Env} {s : State} {m : MethodId} {below : List Frame} {meth : Method} {c : Code} {A : Nat → Prop} {args : Array Value} (hx : p.tables.exec = Jvm.exec) (hb : c.code = method_7_code) (hml : c.maxLocals = 12) (hts : ∀ w ∈ WG, w.before args s = true) (hown : s.vm.findClass "BallothallLaw" = some m.cls) (hlocks : meth.locks = false) (hA : ∀ q, s.heap.size ≤ q → A q) (hG : KG z s) (hZ : FZ z A s) (mc ms c1 s1 : Nat) (hm : c1 ≤ mc) (hm2 : s1 ≤ ms) : ∀ (fu c0 s0 : Nat) (ad : Nat → Nat) (E : Ev) (M : Mm) (x6 : Int) (x10 : Int) (t : Nat) (w6 : Int) (w10 : Int) (F : Ev) (N : Mm), c0 + fu * 0 ≤ c1 → s0 + fu * 0 ≤ s1 → (∀ i, i < nE E0 → ad i = ad0 i) → nE E0 ≤ nE E → l_La_pairs_444 q1 q2 x8 x9 fu E M x6 x10 = some (t, w6, w10, F, N) → (∀ (ad1 : Nat → Nat), (∀ i, i < nE E0 → ad1 i = ad0 i) → nE E0 ≤ nE F → t = 1 → ∀ (H : Heap) (locs : List Loc) (ls : Array Slot), va_P z.1 classes (wv z ad1 F N) H → va_D A (wv z ad1 F N) → va_S A s.heap H locs → lv_has ls 12 [(0, .ref (ad1 1)), (1, .ref (ad1 q1)), (2, .ref (ad1 q2)), (6, .long (oJ w6)), (8, .int (oI x8)), (9, .int (oI x9))] → W p l e (rmK 5 144 mc ms) s m args below meth c H locs c1 s1 Q (F0 m 476 ls [])) → ∀ (H : Heap) (locs : List Loc) (ls : Array Slot), va_P z.1 classes (wv z ad E M) H → va_D A (wv z ad E M) → va_S A s.heap H locs → lv_has ls 12 [(0, .ref (ad 1)), (1, .ref (ad q1)), (2, .ref (ad q2)), (6, .long (oJ x6)), (8, .int (oI x8)), (9, .int (oI x9)), (10, .int (oI x10))] → W p l e (rmK 5 144 mc ms) s m args below meth c H locs c0 s0 Q (F0 m 444 ls []) := by
  intro fu
  induction fu with
  | zero =>
    intro c0 s0 ad E M x6 x10 t w6 w10 F N hc hs hag0 hE0 h
    have h : (none : Option (Nat × Int × Int × Ev × Mm)) = some _ := h
    cases h
  | succ fu ih =>
    intro c0 s0 ad E M x6 x10 t w6 w10 F N hc hs hag0 hE0 h k1 H locs ls hP hD hS hl
    obtain ⟨⟨t0, w60, w100, F9, N9⟩, g0, h⟩ := bd_e h
    refine W.wide (Nat.le_refl _) (Nat.le_refl _) (b_La_pairs_444b l z E0 ad0 ad E M q1 q2 x8 x9 x6 x10 t0 w60 w100 F9 N9 hx hb hml hts hown hlocks hA hG hZ mc ms c0 s0 (c0 + 0) (s0 + 0) (Nat.le_refl _) (Nat.le_refl _) (by omega) (by omega) hag0 hE0 g0 (fun ad1 ha he e0 => ?_) (fun ad1 ha he e0 => ?_) H locs ls hP hD hS hl)
    · subst e0
      have h := ite_t rfl h
      exact ih (c0 + 0) (s0 + 0) ad1 F9 N9 w60 w100 t w6 w10 F N (by omega) (by omega) ha he h k1
    · subst e0
      have h := ite_f (by decide) h
      obtain ⟨rfl, rfl, rfl, rfl, rfl⟩ := in5 h
      exact fun H locs ls hP hD hS hl => W.wide (by omega) (by omega) (k1 ad1 ha he rfl H locs ls hP hD hS hl)
set_option maxRecDepth 100000 in
set_option maxHeartbeats 4000000 in
theorem b_La_pairs_417b (l : Launch) (z : Zz) (E0 : Ev) (ad0 : Nat → Nat) (ad : Nat → Nat) (E : Ev) (M : Mm) (q1 : Nat) (q2 : Nat) (x3 : Int) (x6 : Int) (x8 : Int) (t : Nat) (w3 : Int) (w6 : Int) (w8 : Int) (F : Ev) (N : Mm) {Q : State → Prop} {p : Program} {e : Env} {s : State} {m : MethodId} {below : List Frame} {meth : Method} {c : Code} {A : Nat → Prop} {args : Array Value} (hx : p.tables.exec = Jvm.exec) (hb : c.code = method_7_code) (hml : c.maxLocals = 12) (hts : ∀ w ∈ WG, w.before args s = true) (hown : s.vm.findClass "BallothallLaw" = some m.cls) (hlocks : meth.locks = false) (hA : ∀ q, s.heap.size ≤ q → A q) (hG : KG z s) (hZ : FZ z A s) (mc ms c0 s0 c1 s1 : Nat) (hc : c0 + 0 ≤ c1) (hs : s0 + 0 ≤ s1) (hm : c1 ≤ mc) (hm2 : s1 ≤ ms) (hag0 : ∀ i, i < nE E0 → ad i = ad0 i) (hE0 : nE E0 ≤ nE E) (h : La_pairs_417b E M q1 q2 x3 x6 x8 = some (t, w3, w6, w8, F, N)) (k0 : ∀ (ad1 : Nat → Nat), (∀ i, i < nE E0 → ad1 i = ad0 i) → nE E0 ≤ nE F → t = 0 → ∀ (H : Heap) (locs : List Loc) (ls : Array Slot), va_P z.1 classes (wv z ad1 F N) H → va_D A (wv z ad1 F N) → va_S A s.heap H locs → lv_has ls 12 [(0, .ref (ad1 1)), (1, .ref (ad1 q1)), (2, .ref (ad1 q2)), (3, .int (oI w3)), (6, .long (oJ w6)), (8, .int (oI w8))] → W p l e (rmK 5 144 mc ms) s m args below meth c H locs c1 s1 Q (F0 m 417 ls [])) (k1 : ∀ (ad1 : Nat → Nat), (∀ i, i < nE E0 → ad1 i = ad0 i) → nE E0 ≤ nE F → t = 1 → ∀ (H : Heap) (locs : List Loc) (ls : Array Slot), va_P z.1 classes (wv z ad1 F N) H → va_D A (wv z ad1 F N) → va_S A s.heap H locs → lv_has ls 12 [(0, .ref (ad1 1)), (3, .int (oI w3)), (6, .long (oJ w6))] → W p l e (rmK 5 144 mc ms) s m args below meth c H locs c1 s1 Q (F0 m 528 ls [])) : ∀ (H : Heap) (locs : List Loc) (ls : Array Slot), va_P z.1 classes (wv z ad E M) H → va_D A (wv z ad E M) → va_S A s.heap H locs → lv_has ls 12 [(0, .ref (ad 1)), (1, .ref (ad q1)), (2, .ref (ad q2)), (3, .int (oI x3)), (6, .long (oJ x6)), (8, .int (oI x8))] → W p l e (rmK 5 144 mc ms) s m args below meth c H locs c0 s0 Q (F0 m 417 ls []) := by
  intro H locs ls hP hD hS hl
  unfold La_pairs_417b at h
  obtain ⟨hL, h⟩ := ck_e h
  obtain ⟨h_q1, h⟩ := ck_e h
  obtain ⟨h_q2, h⟩ := ck_e h
  refine lv_iload hx hb d_L7_417 (lv_at hl 5 rfl) ?_
  refine lv_aload_n hx hb d_L7_419 rfl (lv_at hl 1 rfl) ?_
  refine m_giN (C := "BallothallLaw$Box") (T := TX12) (N := 4) (ci := 12) (k := 0) hx hb hts iX12 hown hG hP h_q1.1 h_q1.2 rfl (by decide) n_775 rfl (fun _ h9 => h9) rfl rfl d_L7_420 ?_
  obtain ⟨ok77, h⟩ := ck_e h
  obtain ⟨ok78, h⟩ := ck_e h
  refine lv_icmp_ge (tgt := 528) hx hb d_L7_423 (by decide) (fun c9 => ?_) (fun c9 => ?_)
  · have h := ite_t ((oI_le (a := (M q1 0)) (b := x8) ok78 ok77).mp c9) h
    obtain ⟨rfl, rfl, rfl, rfl, rfl, rfl⟩ := in6 h
    exact W.wide (by omega) (by omega) (k1 ad hag0 hE0 rfl H locs ls hP hD hS (lv_sub hl [0, 3, 4] rfl))
  · have h := ite_f (fun q => c9 ((oI_le (a := (M q1 0)) (b := x8) ok78 ok77).mpr q)) h
    refine lv_iload_n hx hb d_L7_426 rfl (lv_at hl 3 rfl) ?_
    obtain ⟨ok79, h⟩ := ck_e h
    refine lv_if_eq (tgt := 528) hx hb d_L7_427 (by decide) (fun c9 => ?_) (fun c9 => ?_)
    · have h := ite_t ((oI_eq0 ok79).mp c9) h
      obtain ⟨rfl, rfl, rfl, rfl, rfl, rfl⟩ := in6 h
      exact W.wide (by omega) (by omega) (k1 ad hag0 hE0 rfl H locs ls hP hD hS (lv_sub hl [0, 3, 4] rfl))
    · have h := ite_f (fun q => c9 ((oI_eq0 ok79).mpr q)) h
      refine lv_aload_n hx hb d_L7_430 rfl (lv_at hl 0 rfl) ?_
      refine lv_iload hx hb d_L7_431 (lv_at hl 5 rfl) ?_
      obtain ⟨⟨r80, M80⟩, g80, h⟩ := bd_e h
      refine kV (As := [.int (oI x8)]) (rest := []) (s_B_consensusAt l z ad E M x8 r80 M80 hL g80) hx hb hml hown hts w_1340 w_1337 w_1338 w_1339 w_1 md_b0ab85 ⟨Nat.le_of_ble_eq_true rfl, Nat.le_of_ble_eq_true rfl⟩ hG hZ hP hD hS hA 1 (wv_o (ci := 11) (yi_1 hL) (yt_1 hL)) rfl rfl rfl hl.1 rfl (Nat.le_of_ble_eq_true rfl) d_L7_433 ⟨(show _ ≤ mc by omega), (show _ ≤ ms by omega)⟩ (fun _ H locs hP hD hS => ?_)
      have hP : va_P z.1 classes (wv z ad E M80) H := hP
      have hD : va_D A (wv z ad E M80) := hD
      refine W.eq (g2 := F0 m 436 ls [.int (oI r80)]) rfl ?_
      refine lv_istore (lv' := [(9, .int (oI r80)), (0, .ref (ad 1)), (1, .ref (ad q1)), (2, .ref (ad q2)), (3, .int (oI x3)), (6, .long (oJ x6)), (8, .int (oI x8))]) hx hb d_L7_436 hl (by decide) rfl (fun ls hl => ?_)
      refine lv_iload hx hb d_L7_438 (lv_at hl 6 rfl) ?_
      refine lv_iconst (v := oI 1) hx hb d_L7_440 (by decide +kernel) ?_
      refine lv_iadd hx hb d_L7_441 ?_
      refine nrm (oI_add _ _) ?_
      refine lv_istore (lv' := [(10, .int (oI (x8 + 1))), (9, .int (oI r80)), (0, .ref (ad 1)), (1, .ref (ad q1)), (2, .ref (ad q2)), (3, .int (oI x3)), (6, .long (oJ x6)), (8, .int (oI x8))]) hx hb d_L7_442 hl (by decide) rfl (fun ls hl => ?_)
      obtain ⟨⟨t88, v88_6, v88_10, E88, M88⟩, g88, h⟩ := bd_e h
      obtain ⟨hgw88, h⟩ := ck_e h
      obtain ⟨hL88, h⟩ := ck_e h
      obtain ⟨ok88, h⟩ := ck_e h
      refine s_La_pairs_444 l z E ad q1 q2 x8 r80 hx hb hml hts hown hlocks hA hG hZ mc ms (c0 + 0) (s0 + 0) (by omega) (by omega) 5000 _ _ ad E M80 x6 (x8 + 1) t88 v88_6 v88_10 E88 M88 (by omega) (by omega) (fun _ _ => rfl) (Nat.le_refl _) g88 (fun ad88 hag88 hEE88 e88 H locs ls hP hD hS hl => ?_) H locs ls hP hD hS (lv_sub hl [2, 3, 4, 6, 7, 1, 0] rfl)
      have hag0 : ∀ i, i < nE E0 → ad88 i = ad0 i := fun i hi => (hag88 i (Nat.lt_of_lt_of_le hi hE0)).trans (hag0 i hi)
      have hE0 : nE E0 ≤ nE E88 := Nat.le_trans hE0 hgw88.1
      have hL : Lay E88 := hL88
      have h_q1 : isO 12 E88 q1 := isO_up hgw88 h_q1
      have h_q2 : isQ 6 E88 q2 := isA_up hgw88 h_q2
      refine lv_iload hx hb d_L7_476 (lv_at hl 4 rfl) ?_
      refine lv_iconst (v := oI 1) hx hb d_L7_478 (by decide +kernel) ?_
      refine lv_iadd hx hb d_L7_479 ?_
      refine nrm (oI_add _ _) ?_
      refine lv_aload_n hx hb d_L7_480 rfl (lv_at hl 1 rfl) ?_
      refine m_giN (C := "BallothallLaw$Box") (T := TX12) (N := 4) (ci := 12) (k := 0) hx hb hts iX12 hown hG hP h_q1.1 h_q1.2 rfl (by decide) n_775 rfl (fun _ h9 => h9) rfl rfl d_L7_481 ?_
      obtain ⟨ok89, h⟩ := ck_e h
      obtain ⟨ok90, h⟩ := ck_e h
      refine lv_icmp_eq (tgt := 516) hx hb d_L7_484 (by decide) (fun c9 => ?_) (fun c9 => ?_)
      · have h := ite_t ((oI_eq (a := (x8 + 1)) (b := (M88 q1 0)) ok89 ok90).mp c9) h
        refine lv_iconst (v := oI 1) hx hb d_L7_516 (by decide +kernel) ?_
        refine lv_goto (tgt := 521) hx hb d_L7_517 (by decide) ?_
        refine lv_istore_n (lv' := [(3, .int (oI 1)), (0, .ref (ad88 1)), (1, .ref (ad88 q1)), (2, .ref (ad88 q2)), (6, .long (oJ v88_6)), (8, .int (oI x8)), (9, .int (oI r80))]) hx hb d_L7_521 rfl hl (by decide) rfl (fun ls hl => ?_)
        refine lv_iinc (v := oI (x8 + 1)) (lv' := [(8, .int (oI (x8 + 1))), (3, .int (oI 1)), (0, .ref (ad88 1)), (1, .ref (ad88 q1)), (2, .ref (ad88 q2)), (6, .long (oJ v88_6)), (9, .int (oI r80))]) hx hb d_L7_522 hl (k := 5) rfl (oI_add x8 1) (by decide) rfl (fun ls hl => ?_)
        refine lv_goto (tgt := 417) hx hb d_L7_525 (by decide) ?_
        obtain ⟨rfl, rfl, rfl, rfl, rfl, rfl⟩ := in6 h
        exact W.wide (by omega) (by omega) (k0 ad88 hag0 hE0 rfl H locs ls hP hD hS (lv_sub hl [2, 3, 4, 1, 5, 0] rfl))
      · have h := ite_f (fun q => c9 ((oI_eq (a := (x8 + 1)) (b := (M88 q1 0)) ok89 ok90).mpr q)) h
        refine lv_aload_n hx hb d_L7_487 rfl (lv_at hl 2 rfl) ?_
        refine lv_iload hx hb d_L7_488 (lv_at hl 5 rfl) ?_
        obtain ⟨ok91, h⟩ := ck_e h
        obtain ⟨p92, g92, h⟩ := bd_e h
        obtain ⟨h_p92, h⟩ := ck_e h
        refine m_ar (k := p92) hx hb hG hP h_q2.1 (isQ_T h_q2) ok91 g92 d_L7_490 ?_
        refine lv_aload_n hx hb d_L7_491 rfl (lv_at hl 0 rfl) ?_
        refine lv_iload hx hb d_L7_492 (lv_at hl 4 rfl) ?_
        refine lv_iconst (v := oI 1) hx hb d_L7_494 (by decide +kernel) ?_
        refine lv_iadd hx hb d_L7_495 ?_
        refine nrm (oI_add _ _) ?_
        obtain ⟨⟨r93, M93⟩, g93, h⟩ := bd_e h
        refine kV (As := [.int (oI (x8 + 1))]) (rest := [.ref (ad88 p92)]) (s_B_consensusAt l z ad88 E88 M88 (x8 + 1) r93 M93 hL g93) hx hb hml hown hts w_1340 w_1337 w_1338 w_1339 w_1 md_b0ab85 ⟨Nat.le_of_ble_eq_true rfl, Nat.le_of_ble_eq_true rfl⟩ hG hZ hP hD hS hA 1 (wv_o (ci := 11) (yi_1 hL) (yt_1 hL)) rfl rfl rfl hl.1 rfl (Nat.le_of_ble_eq_true rfl) d_L7_496 ⟨(show _ ≤ mc by omega), (show _ ≤ ms by omega)⟩ (fun _ H locs hP hD hS => ?_)
        have hP : va_P z.1 classes (wv z ad88 E88 M93) H := hP
        have hD : va_D A (wv z ad88 E88 M93) := hD
        refine W.eq (g2 := F0 m 499 ls [.int (oI r93), .ref (ad88 p92)]) rfl ?_
        obtain ⟨ok94, h⟩ := ck_e h
        refine m_ia hx hb hG hP h_p92.1 (isIA_T h_p92) ok94 d_L7_499 ?_
        refine lv_aload_n hx hb d_L7_500 rfl (lv_at hl 2 rfl) ?_
        refine lv_aload_n hx hb d_L7_501 rfl (lv_at hl 0 rfl) ?_
        refine lv_iload hx hb d_L7_502 (lv_at hl 4 rfl) ?_
        refine lv_iconst (v := oI 1) hx hb d_L7_504 (by decide +kernel) ?_
        refine lv_iadd hx hb d_L7_505 ?_
        refine nrm (oI_add _ _) ?_
        obtain ⟨⟨r95, M95⟩, g95, h⟩ := bd_e h
        refine kV (As := [.int (oI (x8 + 1))]) (rest := [.ref (ad88 q2), .int (oI (M93 p92 r93.toNat))]) (s_B_consensusAt l z ad88 E88 M93 (x8 + 1) r95 M95 hL g95) hx hb hml hown hts w_1340 w_1337 w_1338 w_1339 w_1 md_b0ab85 ⟨Nat.le_of_ble_eq_true rfl, Nat.le_of_ble_eq_true rfl⟩ hG hZ hP hD hS hA 1 (wv_o (ci := 11) (yi_1 hL) (yt_1 hL)) rfl rfl rfl hl.1 rfl (Nat.le_of_ble_eq_true rfl) d_L7_506 ⟨(show _ ≤ mc by omega), (show _ ≤ ms by omega)⟩ (fun _ H locs hP hD hS => ?_)
        have hP : va_P z.1 classes (wv z ad88 E88 M95) H := hP
        have hD : va_D A (wv z ad88 E88 M95) := hD
        refine W.eq (g2 := F0 m 509 ls [.int (oI r95), .ref (ad88 q2), .int (oI (M93 p92 r93.toNat))]) rfl ?_
        obtain ⟨ok96, h⟩ := ck_e h
        obtain ⟨p97, g97, h⟩ := bd_e h
        obtain ⟨h_p97, h⟩ := ck_e h
        refine m_ar (k := p97) hx hb hG hP h_q2.1 (isQ_T h_q2) ok96 g97 d_L7_509 ?_
        refine lv_iload hx hb d_L7_510 (lv_at hl 5 rfl) ?_
        obtain ⟨ok98, h⟩ := ck_e h
        refine m_ia hx hb hG hP h_p97.1 (isIA_T h_p97) ok98 d_L7_512 ?_
        obtain ⟨ok99, h⟩ := ck_e h
        obtain ⟨ok100, h⟩ := ck_e h
        refine lv_icmp_lt (tgt := 520) hx hb d_L7_513 (by decide) (fun c9 => ?_) (fun c9 => ?_)
        · have h := ite_t ((oI_lt (a := (M93 p92 r93.toNat)) (b := (M95 p97 r80.toNat)) ok99 ok100).mp c9) h
          refine lv_iconst (v := oI 0) hx hb d_L7_520 (by decide +kernel) ?_
          refine lv_istore_n (lv' := [(3, .int (oI 0)), (0, .ref (ad88 1)), (1, .ref (ad88 q1)), (2, .ref (ad88 q2)), (6, .long (oJ v88_6)), (8, .int (oI x8)), (9, .int (oI r80))]) hx hb d_L7_521 rfl hl (by decide) rfl (fun ls hl => ?_)
          refine lv_iinc (v := oI (x8 + 1)) (lv' := [(8, .int (oI (x8 + 1))), (3, .int (oI 0)), (0, .ref (ad88 1)), (1, .ref (ad88 q1)), (2, .ref (ad88 q2)), (6, .long (oJ v88_6)), (9, .int (oI r80))]) hx hb d_L7_522 hl (k := 5) rfl (oI_add x8 1) (by decide) rfl (fun ls hl => ?_)
          refine lv_goto (tgt := 417) hx hb d_L7_525 (by decide) ?_
          obtain ⟨rfl, rfl, rfl, rfl, rfl, rfl⟩ := in6 h
          exact W.wide (by omega) (by omega) (k0 ad88 hag0 hE0 rfl H locs ls hP hD hS (lv_sub hl [2, 3, 4, 1, 5, 0] rfl))
        · have h := ite_f (fun q => c9 ((oI_lt (a := (M93 p92 r93.toNat)) (b := (M95 p97 r80.toNat)) ok99 ok100).mpr q)) h
          refine lv_iconst (v := oI 1) hx hb d_L7_516 (by decide +kernel) ?_
          refine lv_goto (tgt := 521) hx hb d_L7_517 (by decide) ?_
          refine lv_istore_n (lv' := [(3, .int (oI 1)), (0, .ref (ad88 1)), (1, .ref (ad88 q1)), (2, .ref (ad88 q2)), (6, .long (oJ v88_6)), (8, .int (oI x8)), (9, .int (oI r80))]) hx hb d_L7_521 rfl hl (by decide) rfl (fun ls hl => ?_)
          refine lv_iinc (v := oI (x8 + 1)) (lv' := [(8, .int (oI (x8 + 1))), (3, .int (oI 1)), (0, .ref (ad88 1)), (1, .ref (ad88 q1)), (2, .ref (ad88 q2)), (6, .long (oJ v88_6)), (9, .int (oI r80))]) hx hb d_L7_522 hl (k := 5) rfl (oI_add x8 1) (by decide) rfl (fun ls hl => ?_)
          refine lv_goto (tgt := 417) hx hb d_L7_525 (by decide) ?_
          obtain ⟨rfl, rfl, rfl, rfl, rfl, rfl⟩ := in6 h
          exact W.wide (by omega) (by omega) (k0 ad88 hag0 hE0 rfl H locs ls hP hD hS (lv_sub hl [2, 3, 4, 1, 5, 0] rfl))
