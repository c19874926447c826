set_option maxRecDepth 100000 in
set_option maxHeartbeats 4000000 in
theorem s_Bx_ballotsOf_5 (l : Launch) (z : Zz) (ad : Nat → Nat) (E : Ev) (q1 : Nat) (x2 : Int) {Q : State → Prop} {p : Program} {e : Env} {s : State} {m : MethodId} {below : List Frame} {meth : Method} {c : Code} {A : Nat → Prop} {args : Array Value} (hx : p.tables.exec = Jvm.exec) (hb : c.code = prog_2_method_4_code) (hml : c.maxLocals = 5) (hts : ∀ w ∈ WG, w.before args s = true) (hown : s.vm.findClass "Ballothall$BallotBox" = some m.cls) (hlocks : meth.locks = false) (hA : ∀ q, s.heap.size ≤ q → A q) (hG : KG z s) (hZ : FZ z A s) (hL : Lay E) : ∀ (fu : Nat) (M : Mm) (x3 : Int) (x4 : Int) (t : Nat) (w3 : Int) (w4 : Int), l_Bx_ballotsOf_5 E q1 x2 fu M x3 x4 = some (t, w3, w4) → (t = 1 → ∀ (H : Heap) (locs : List Loc) (ls : Array Slot), va_P z.1 classes (wv z ad E M) H → va_D A (wv z ad E M) → va_S A s.heap H locs → lv_has ls 5 [(3, .int (oI w3))] → W p l e (rmK 0 20 0 0) s m args below meth c H locs 0 0 Q (F0 m 24 ls [])) → ∀ (H : Heap) (locs : List Loc) (ls : Array Slot), va_P z.1 classes (wv z ad E M) H → va_D A (wv z ad E M) → va_S A s.heap H locs → lv_has ls 5 [(1, .ref (ad q1)), (2, .int (oI x2)), (3, .int (oI x3)), (4, .int (oI x4))] → W p l e (rmK 0 20 0 0) s m args below meth c H locs 0 0 Q (F0 m 5 ls []) := by
  intro fu
  induction fu with
  | zero =>
    intro M x3 x4 t w3 w4 h
    have h : (none : Option (Nat × Int × Int)) = some _ := h
    cases h
  | succ fu ih =>
    intro M x3 x4 t w3 w4 h k1 H locs ls hP hD hS hl
    obtain ⟨⟨t0, w30, w40⟩, g0, h⟩ := bd_e h
    refine b_Bx_ballotsOf_5b l z ad E M q1 x2 x3 x4 t0 w30 w40 hx hb hml hts hown hlocks hA hG hZ hL g0 (fun e0 => ?_) (fun e0 => ?_) H locs ls hP hD hS hl
    · subst e0
      have h := ite_t rfl h
      exact ih M w30 w40 t w3 w4 h k1
    · subst e0
      have h := ite_f (by decide) h
      obtain ⟨rfl, rfl, rfl⟩ := in3 h
      exact k1 rfl
set_option maxRecDepth 100000 in
set_option maxHeartbeats 4000000 in
theorem s_Bx_ballotsOf (l : Launch) (z : Zz) (ad : Nat → Nat) (E : Ev) (M : Mm) (p1 : Nat) (x2 : Int) (r : Int)  (hL : Lay E) (h : f_Bx_ballotsOf E M p1 x2 = some r) : CT l z ⟨"Ballothall$BallotBox", "ballotsOf", "([II)I"⟩ prog_2_method_4_code 5 (some .int) [.ref (ad 2), .ref (ad p1), .int (oI x2)] (wv z ad E M) 0 20 0 0 (fun _ => some (.int (oI r))) (fun _ => (wv z ad E M)) := by
  refine CT.of (own := "Ballothall$BallotBox") (by decide +kernel) (Nat.le_of_ble_eq_true rfl) rfl (fun p e s m below meth c A ls hx hb hml hr hts hown hlocks hin hA hG hZ hP hD hS hl => ?_)
  have hl : lv_has ls 5 [(0, .ref (ad 2)), (1, .ref (ad p1)), (2, .int (oI x2))] := hl
  have key : ∀ (H : Heap) (locs : List Loc) (args : Array Value), (∀ w ∈ WG, w.before args s = true) → va_P z.1 classes (wv z ad E M) H → va_S A s.heap H locs → W p l e (rmK 0 20 0 0) s m args below meth c H locs 0 0 (MQ below (QK z A (fun _ => some (.int (oI r))) (fun _ => (wv z ad E M))) args s 0 0 A) (F0 m 0 ls []) := by
    intro H locs args hts hP hS
    unfold f_Bx_ballotsOf at h
    obtain ⟨h_p1, h⟩ := ck_e h
    refine lv_iconst (v := oI 0) hx hb d_2_4_0 (by decide +kernel) ?_
    refine lv_istore_n (lv' := [(3, .int (oI 0)), (0, .ref (ad 2)), (1, .ref (ad p1)), (2, .int (oI x2))]) hx hb d_2_4_1 rfl hl (by decide) rfl (fun ls hl => ?_)
    refine lv_iconst (v := oI 0) hx hb d_2_4_2 (by decide +kernel) ?_
    refine lv_istore (lv' := [(4, .int (oI 0)), (3, .int (oI 0)), (0, .ref (ad 2)), (1, .ref (ad p1)), (2, .int (oI x2))]) hx hb d_2_4_3 hl (by decide) rfl (fun ls hl => ?_)
    obtain ⟨⟨t103, v103_3, v103_4⟩, g103, h⟩ := bd_e h
    obtain ⟨ok103, h⟩ := ck_e h
    refine s_Bx_ballotsOf_5 l z ad E p1 x2 hx hb hml hts hown hlocks hA hG hZ hL FU M 0 0 t103 v103_3 v103_4 g103 (fun e103 H locs ls hP hD hS hl => ?_) H locs ls hP hD hS (lv_sub hl [3, 4, 1, 0] rfl)
    refine lv_iload_n hx hb d_2_4_24 rfl (lv_at hl 0 rfl) ?_
    obtain rfl := in1 h
    exact W.iret hx hb hr (fun t ht hW => qkA hP hD hS (fun k => k) rfl rfl ht) hS.2.2 d_2_4_25
  exact key _ _ _ hts hP hS
set_option maxRecDepth 100000 in
set_option maxHeartbeats 4000000 in
theorem s_B_allBallots (l : Launch) (z : Zz) (ad : Nat → Nat) (E : Ev) (M : Mm) (r : Int)  (hL : Lay E) (h : f_B_allBallots E M = some r) : CT l z ⟨"Ballothall", "allBallots", "()I"⟩ prog_1_method_9_code 1 (some .int) [.ref (ad 1)] (wv z ad E M) 1 44 0 0 (fun _ => some (.int (oI r))) (fun _ => (wv z ad E M)) := by
  refine CT.of (own := "Ballothall") (by decide +kernel) (Nat.le_of_ble_eq_true rfl) rfl (fun p e s m below meth c A ls hx hb hml hr hts hown hlocks hin hA hG hZ hP hD hS hl => ?_)
  have hl : lv_has ls 1 [(0, .ref (ad 1))] := hl
  have key : ∀ (H : Heap) (locs : List Loc) (args : Array Value), (∀ w ∈ WG, w.before args s = true) → va_P z.1 classes (wv z ad E M) H → va_S A s.heap H locs → W p l e (rmK 1 44 0 0) s m args below meth c H locs 0 0 (MQ below (QK z A (fun _ => some (.int (oI r))) (fun _ => (wv z ad E M))) args s 0 0 A) (F0 m 0 ls []) := by
    intro H locs args hts hP hS
    unfold f_B_allBallots at h
    refine lv_aload_n hx hb d_1_9_0 rfl (lv_at hl 0 rfl) ?_
    refine m_gr (j := 2) (C := "Ballothall") (T := TX11) (N := 14) (ci := 11) (k := 0) hx hb hts iX11 hown hG hP (yi_1 hL) (yt_1 hL) rfl (by decide) w_397 (fun _ h9 => h9) rfl rfl (yr_1_0 hL) d_1_9_1 ?_
    refine lv_aload_n hx hb d_1_9_4 rfl (lv_at hl 0 rfl) ?_
    refine m_gr (j := 2) (C := "Ballothall") (T := TX11) (N := 14) (ci := 11) (k := 0) hx hb hts iX11 hown hG hP (yi_1 hL) (yt_1 hL) rfl (by decide) w_397 (fun _ h9 => h9) rfl rfl (yr_1_0 hL) d_1_9_5 ?_
    refine m_grN (j := 5) (C := "Ballothall$BallotBox") (T := TX0) (N := 10) (ci := 0) (k := 5) hx hb hts iX0 hown hG hP (yi_2 hL) (yt_2 hL) rfl (by decide) n_66 rfl (fun _ h9 => h9) rfl rfl (yr_2_5 hL) d_1_9_8 ?_
    refine lv_aload_n hx hb d_1_9_11 rfl (lv_at hl 0 rfl) ?_
    refine m_gr (j := 2) (C := "Ballothall") (T := TX11) (N := 14) (ci := 11) (k := 0) hx hb hts iX11 hown hG hP (yi_1 hL) (yt_1 hL) rfl (by decide) w_397 (fun _ h9 => h9) rfl rfl (yr_1_0 hL) d_1_9_12 ?_
    refine m_giN (C := "Ballothall$BallotBox") (T := TX0) (N := 10) (ci := 0) (k := 3) hx hb hts iX0 hown hG hP (yi_2 hL) (yt_2 hL) rfl (by decide) n_58 rfl (fun _ h9 => h9) rfl rfl d_1_9_15 ?_
    obtain ⟨r100, g100, h⟩ := bd_e h
    refine kVN (As := [.ref (ad 5), .int (oI (M 2 3))]) (rest := []) (s_Bx_ballotsOf l z ad E M 5 (M 2 3) r100 hL g100) hx hb hml hown hts w_572 n_569 w_571 w_s_fcecd2 w_2 md_ebdc38 ⟨Nat.le_of_ble_eq_true rfl, Nat.le_of_ble_eq_true rfl⟩ hG hZ hP hD hS hA 2 (wv_o (ci := 0) (yi_2 hL) (yt_2 hL)) rfl rfl rfl hl.1 rfl (Nat.le_of_ble_eq_true rfl) d_1_9_18 ⟨Nat.le_of_ble_eq_true rfl, Nat.le_of_ble_eq_true rfl⟩ (fun _ H locs hP hD hS => ?_)
    have hP : va_P z.1 classes (wv z ad E M) H := hP
    have hD : va_D A (wv z ad E M) := hD
    refine W.eq (g2 := F0 m 21 ls [.int (oI r100)]) rfl ?_
    obtain rfl := in1 h
    exact W.iret hx hb hr (fun t ht hW => qkA hP hD hS (fun k => k) rfl rfl ht) hS.2.2 d_1_9_21
  exact key _ _ _ hts hP hS
set_option maxRecDepth 100000 in
set_option maxHeartbeats 4000000 in
theorem b_Lb_all_4b (l : Launch) (z : Zz) (ad : Nat → Nat) (E : Ev) (M : Mm) (q0 : Nat) (x1 : Int) (x2 : Int) (t : Nat) (w1 : Int) (w2 : Int)  {Q : State → Prop} {p : Program} {e : Env} {s : State} {m : MethodId} {below : List Frame} {meth : Method} {c : Code} {A : Nat → Prop} {args : Array Value} (hx : p.tables.exec = Jvm.exec) (hb : c.code = prog_14_method_3_code) (hml : c.maxLocals = 3) (hts : ∀ w ∈ WG, w.before args s = true) (hown : s.vm.findClass "BallothallLaw$Box" = some m.cls) (hlocks : meth.locks = false) (hA : ∀ q, s.heap.size ≤ q → A q) (hG : KG z s) (hZ : FZ z A s) (hL : Lay E) (h : Lb_all_4b E M q0 x1 x2 = some (t, w1, w2)) (k0 : t = 0 → ∀ (H : Heap) (locs : List Loc) (ls : Array Slot), va_P z.1 classes (wv z ad E M) H → va_D A (wv z ad E M) → va_S A s.heap H locs → lv_has ls 3 [(0, .ref (ad q0)), (1, .int (oI w1)), (2, .int (oI w2))] → W p l e (rmK 0 20 0 0) s m args below meth c H locs 0 0 Q (F0 m 4 ls [])) (k1 : t = 1 → ∀ (H : Heap) (locs : List Loc) (ls : Array Slot), va_P z.1 classes (wv z ad E M) H → va_D A (wv z ad E M) → va_S A s.heap H locs → lv_has ls 3 [(1, .int (oI w1))] → W p l e (rmK 0 20 0 0) s m args below meth c H locs 0 0 Q (F0 m 27 ls [])) : ∀ (H : Heap) (locs : List Loc) (ls : Array Slot), va_P z.1 classes (wv z ad E M) H → va_D A (wv z ad E M) → va_S A s.heap H locs → lv_has ls 3 [(0, .ref (ad q0)), (1, .int (oI x1)), (2, .int (oI x2))] → W p l e (rmK 0 20 0 0) s m args below meth c H locs 0 0 Q (F0 m 4 ls []) := by
  intro H locs ls hP hD hS hl
  unfold Lb_all_4b at h
  obtain ⟨h_q0, h⟩ := ck_e h
  refine lv_iload_n hx hb d_14_3_4 rfl (lv_at hl 2 rfl) ?_
  refine lv_aload_n hx hb d_14_3_5 rfl (lv_at hl 0 rfl) ?_
  refine m_gi (C := "BallothallLaw$Box") (T := TX12) (N := 4) (ci := 12) (k := 3) hx hb hts iX12 hown hG hP h_q0.1 h_q0.2 rfl (by decide) w_780 (fun _ h9 => h9) rfl rfl d_14_3_6 ?_
  obtain ⟨ok100, h⟩ := ck_e h
  obtain ⟨ok101, h⟩ := ck_e h
  refine lv_icmp_ge (tgt := 27) hx hb d_14_3_9 (by decide) (fun c9 => ?_) (fun c9 => ?_)
  · have h := ite_t ((oI_le (a := (M q0 3)) (b := x2) ok101 ok100).mp c9) h
    obtain ⟨rfl, rfl, rfl⟩ := in3 h
    exact k1 rfl H locs ls hP hD hS (lv_sub hl [1] rfl)
  · have h := ite_f (fun q => c9 ((oI_le (a := (M q0 3)) (b := x2) ok101 ok100).mpr q)) h
    refine lv_iload_n hx hb d_14_3_12 rfl (lv_at hl 1 rfl) ?_
    refine lv_aload_n hx hb d_14_3_13 rfl (lv_at hl 0 rfl) ?_
    obtain ⟨p102, g102, h⟩ := bd_e h
    obtain ⟨h_p102, h⟩ := ck_e h
    refine m_gr (j := p102) (C := "BallothallLaw$Box") (T := TX12) (N := 4) (ci := 12) (k := 2) hx hb hts iX12 hown hG hP h_q0.1 h_q0.2 rfl (by decide) w_778 (fun _ h9 => h9) rfl rfl g102 d_14_3_14 ?_
    refine lv_iload_n hx hb d_14_3_17 rfl (lv_at hl 2 rfl) ?_
    obtain ⟨ok103, h⟩ := ck_e h
    refine m_ia hx hb hG hP h_p102.1 (isIA_T h_p102) ok103 d_14_3_18 ?_
    refine lv_iadd hx hb d_14_3_19 ?_
    refine nrm (oI_add _ _) ?_
    refine lv_istore_n (lv' := [(1, .int (oI (x1 + (M p102 x2.toNat)))), (0, .ref (ad q0)), (2, .int (oI x2))]) hx hb d_14_3_20 rfl hl (by decide) rfl (fun ls hl => ?_)
    refine lv_iinc (v := oI (x2 + 1)) (lv' := [(2, .int (oI (x2 + 1))), (1, .int (oI (x1 + (M p102 x2.toNat)))), (0, .ref (ad q0))]) hx hb d_14_3_21 hl (k := 2) rfl (oI_add x2 1) (by decide) rfl (fun ls hl => ?_)
    refine lv_goto (tgt := 4) hx hb d_14_3_24 (by decide) ?_
    obtain ⟨rfl, rfl, rfl⟩ := in3 h
    exact k0 rfl H locs ls hP hD hS (lv_sub hl [2, 1, 0] rfl)
set_option maxRecDepth 100000 in
set_option maxHeartbeats 4000000 in
theorem s_Lb_all_4 (l : Launch) (z : Zz) (ad : Nat → Nat) (E : Ev) (q0 : Nat) {Q : State → Prop} {p : Program} {e : Env} {s : State} {m : MethodId} {below : List Frame} {meth : Method} {c : Code} {A : Nat → Prop} {args : Array Value} (hx : p.tables.exec = Jvm.exec) (hb : c.code = prog_14_method_3_code) (hml : c.maxLocals = 3) (hts : ∀ w ∈ WG, w.before args s = true) (hown : s.vm.findClass "BallothallLaw$Box" = some m.cls) (hlocks : meth.locks = false) (hA : ∀ q, s.heap.size ≤ q → A q) (hG : KG z s) (hZ : FZ z A s) (hL : Lay E) : ∀ (fu : Nat) (M : Mm) (x1 : Int) (x2 : Int) (t : Nat) (w1 : Int) (w2 : Int), l_Lb_all_4 E q0 fu M x1 x2 = some (t, w1, w2) → (t = 1 → ∀ (H : Heap) (locs : List Loc) (ls : Array Slot), va_P z.1 classes (wv z ad E M) H → va_D A (wv z ad E M) → va_S A s.heap H locs → lv_has ls 3 [(1, .int (oI w1))] → W p l e (rmK 0 20 0 0) s m args below meth c H locs 0 0 Q (F0 m 27 ls [])) → ∀ (H : Heap) (locs : List Loc) (ls : Array Slot), va_P z.1 classes (wv z ad E M) H → va_D A (wv z ad E M) → va_S A s.heap H locs → lv_has ls 3 [(0, .ref (ad q0)), (1, .int (oI x1)), (2, .int (oI x2))] → W p l e (rmK 0 20 0 0) s m args below meth c H locs 0 0 Q (F0 m 4 ls []) := by
  intro fu
  induction fu with
  | zero =>
    intro M x1 x2 t w1 w2 h
    have h : (none : Option (Nat × Int × Int)) = some _ := h
    cases h
  | succ fu ih =>
    intro M x1 x2 t w1 w2 h k1 H locs ls hP hD hS hl
    obtain ⟨⟨t0, w10, w20⟩, g0, h⟩ := bd_e h
    refine b_Lb_all_4b l z ad E M q0 x1 x2 t0 w10 w20 hx hb hml hts hown hlocks hA hG hZ hL g0 (fun e0 => ?_) (fun e0 => ?_) H locs ls hP hD hS hl
    · subst e0
      have h := ite_t rfl h
      exact ih M w10 w20 t w1 w2 h k1
    · subst e0
      have h := ite_f (by decide) h
      obtain ⟨rfl, rfl, rfl⟩ := in3 h
      exact k1 rfl
set_option maxRecDepth 100000 in
set_option maxHeartbeats 4000000 in
theorem s_Lb_all (l : Launch) (z : Zz) (ad : Nat → Nat) (E : Ev) (M : Mm) (p0 : Nat) (r : Int)  (hL : Lay E) (h : f_Lb_all E M p0 = some r) : CT l z ⟨"BallothallLaw$Box", "all", "()I"⟩ prog_14_method_3_code 3 (some .int) [.ref (ad p0)] (wv z ad E M) 0 20 0 0 (fun _ => some (.int (oI r))) (fun _ => (wv z ad E M)) := by
  refine CT.of (own := "BallothallLaw$Box") (by decide +kernel) (Nat.le_of_ble_eq_true rfl) rfl (fun p e s m below meth c A ls hx hb hml hr hts hown hlocks hin hA hG hZ hP hD hS hl => ?_)
  have hl : lv_has ls 3 [(0, .ref (ad p0))] := hl
  have key : ∀ (H : Heap) (locs : List Loc) (args : Array Value), (∀ w ∈ WG, w.before args s = true) → va_P z.1 classes (wv z ad E M) H → va_S A s.heap H locs → W p l e (rmK 0 20 0 0) s m args below meth c H locs 0 0 (MQ below (QK z A (fun _ => some (.int (oI r))) (fun _ => (wv z ad E M))) args s 0 0 A) (F0 m 0 ls []) := by
    intro H locs args hts hP hS
    unfold f_Lb_all at h
    obtain ⟨h_p0, h⟩ := ck_e h
    refine lv_iconst (v := oI 0) hx hb d_14_3_0 (by decide +kernel) ?_
    refine lv_istore_n (lv' := [(1, .int (oI 0)), (0, .ref (ad p0))]) hx hb d_14_3_1 rfl hl (by decide) rfl (fun ls hl => ?_)
    refine lv_iconst (v := oI 0) hx hb d_14_3_2 (by decide +kernel) ?_
    refine lv_istore_n (lv' := [(2, .int (oI 0)), (1, .int (oI 0)), (0, .ref (ad p0))]) hx hb d_14_3_3 rfl hl (by decide) rfl (fun ls hl => ?_)
    obtain ⟨⟨t104, v104_1, v104_2⟩, g104, h⟩ := bd_e h
    obtain ⟨ok104, h⟩ := ck_e h
    refine s_Lb_all_4 l z ad E p0 hx hb hml hts hown hlocks hA hG hZ hL FU M 0 0 t104 v104_1 v104_2 g104 (fun e104 H locs ls hP hD hS hl => ?_) H locs ls hP hD hS (lv_sub hl [2, 1, 0] rfl)
    refine lv_iload_n hx hb d_14_3_27 rfl (lv_at hl 0 rfl) ?_
    obtain rfl := in1 h
    exact W.iret hx hb hr (fun t ht hW => qkA hP hD hS (fun k => k) rfl rfl ht) hS.2.2 d_14_3_28
  exact key _ _ _ hts hP hS
set_option maxRecDepth 100000 in
set_option maxHeartbeats 4000000 in
theorem s_Ct_init (l : Launch) (z : Zz) (ad : Nat → Nat) (E : Ev) (M : Mm) (p0 : Nat) (F : Ev) (N : Mm) (h : f_Ct_init E M p0 = some (F, N)) : CT l z ⟨"Ballothall$Count", "<init>", "()V"⟩ prog_4_method_1_code 1 none [.ref (ad p0)] (wv z ad E M) 1 40 4 1211 (fun u => none) (fun u => wv z (adj E ad u) F N) := by
  refine CT.of (own := "Ballothall$Count") (by decide +kernel) (Nat.le_of_ble_eq_true rfl) rfl (fun p e s m below meth c A ls hx hb hml hr hts hown hlocks hin hA hG hZ hP hD hS hl => ?_)
  have hl : lv_has ls 1 [(0, .ref (ad p0))] := hl
  have key : ∀ (E0 : Ev) (ad0 : Nat → Nat) (mc ms c0 s0 c1 s1 : Nat) (H : Heap) (locs : List Loc) (args : Array Value), c0 + 4 ≤ c1 → s0 + 1211 ≤ s1 → c1 ≤ mc → s1 ≤ ms → (∀ i, i < nE E0 → ad i = ad0 i) → nE E0 ≤ nE E → (∀ w ∈ WG, w.before args s = true) → va_P z.1 classes (wv z ad E M) H → va_S A s.heap H locs → W p l e (rmK 1 40 mc ms) s m args below meth c H locs c0 s0 (MQ below (QK z A (fun u => none) (fun u => wv z (adj E0 ad0 u) F N)) args s c1 s1 A) (F0 m 0 ls []) := by
    intro E0 ad0 mc ms c0 s0 c1 s1 H locs args hc hs hm hm2 hag0 hE0 hts hP hS
    unfold f_Ct_init at h
    obtain ⟨h_p0, h⟩ := ck_e h
    refine lv_aload_n hx hb d_4_1_0 rfl (lv_at hl 0 rfl) ?_
    refine W.objInit hx hb hown (hts _ w_1078) (hts _ w_38) (hts _ w_obj) rfl (by rw [hml]; exact hl.1) rfl d_4_1_1 (Nat.le_of_ble_eq_true rfl) (Nat.le_of_ble_eq_true rfl) ?_
    refine W.eq (g2 := F0 m 4 ls []) rfl ?_
    refine lv_aload_n hx hb d_4_1_4 rfl (lv_at hl 0 rfl) ?_
    refine lv_bipush (v := oI 30) hx hb d_4_1_5 (by decide +kernel) ?_
    obtain ⟨p100, ep100, h⟩ := nb_e h
    obtain ⟨E100, eE100, h⟩ := nb_e h
    obtain ⟨M100, eM100, h⟩ := nb_e h
    refine m_newI (x := (30 : Int)) (N := 30) hx hb (by decide) (by decide) (by decide) (hts _ w_100) hG hP hD hS hA (show _ ≤ mc by omega) (show _ ≤ ms by omega) d_4_1_7 (fun ad100 H hag100 hP hD hS => ?_)
    have hP : va_P z.1 classes (wv z ad100 E100 M100) H := by rw [eE100, eM100]; exact hP
    have hD : va_D A (wv z ad100 E100 M100) := by rw [eE100, eM100]; exact hD
    refine W.eq (g2 := F0 m 9 ls (.ref (ad100 p100) :: [.ref (ad100 p0)])) (by rw [ep100, hag100 p0 h_p0.1] <;> rfl) ?_
    have hl : lv_has ls 1 [(0, .ref (ad100 p0))] := by rw [hag100 p0 h_p0.1]; exact hl
    have hgw100 : Gw E E100 := by rw [eE100]; exact gw_new _ _
    have hag0 : ∀ i, i < nE E0 → ad100 i = ad0 i := fun i hi => (hag100 i (Nat.lt_of_lt_of_le hi hE0)).trans (hag0 i hi)
    have hE0 : nE E0 ≤ nE E100 := Nat.le_trans hE0 hgw100.1
    have h_p0 : isO 2 E100 p0 := isO_up hgw100 h_p0
    have h_p100 : isIA E100 p100 := by rw [ep100, eE100]; exact ⟨new_i _ _, by rw [new_T]⟩
    obtain ⟨E101, eE101, h⟩ := nb_e h
    refine m_prF (C := "Ballothall$Count") (T := TX2) (N := 10) (ci := 2) (k := 6) (ty := (.array .int)) hx hb hts iX2 hown hG hP hD hS h_p0.1 h_p0.2 rfl (by decide) w_1090 (fun _ h9 => h9) rfl rfl tyX2_ok nmX2 rfl hin rfl (by decide +kernel) h_p100.1 (fun _ => rfl) (fun _ => rfl) d_4_1_9 (fun H locs hP hD hS => ?_)
    have hP : va_P z.1 classes (wv z ad100 E101 M100) H := by rw [eE101]; exact hP
    have hD : va_D A (wv z ad100 E101 M100) := by rw [eE101]; exact hD
    have hgw101 : Gw E100 E101 := by rw [eE101]; exact gw_ref _ _ _ _
    have hE0 : nE E0 ≤ nE E101 := Nat.le_trans hE0 hgw101.1
    have h_p0 : isO 2 E101 p0 := isO_up hgw101 h_p0
    refine W.eq (g2 := F0 m 12 ls []) rfl ?_
    refine lv_aload_n hx hb d_4_1_12 rfl (lv_at hl 0 rfl) ?_
    refine lv_iconst (v := oI 3) hx hb d_4_1_13 (by decide +kernel) ?_
    obtain ⟨p102, ep102, h⟩ := nb_e h
    obtain ⟨E102, eE102, h⟩ := nb_e h
    obtain ⟨M102, eM102, h⟩ := nb_e h
    refine m_newI (x := (3 : Int)) (N := 3) hx hb (by decide) (by decide) (by decide) (hts _ w_100) hG hP hD hS hA (show _ ≤ mc by omega) (show _ ≤ ms by omega) d_4_1_14 (fun ad102 H hag102 hP hD hS => ?_)
    have hP : va_P z.1 classes (wv z ad102 E102 M102) H := by rw [eE102, eM102]; exact hP
    have hD : va_D A (wv z ad102 E102 M102) := by rw [eE102, eM102]; exact hD
    refine W.eq (g2 := F0 m 16 ls (.ref (ad102 p102) :: [.ref (ad102 p0)])) (by rw [ep102, hag102 p0 h_p0.1] <;> rfl) ?_
    have hl : lv_has ls 1 [(0, .ref (ad102 p0))] := by rw [hag102 p0 h_p0.1]; exact hl
    have hgw102 : Gw E101 E102 := by rw [eE102]; exact gw_new _ _
    have hag0 : ∀ i, i < nE E0 → ad102 i = ad0 i := fun i hi => (hag102 i (Nat.lt_of_lt_of_le hi hE0)).trans (hag0 i hi)
    have hE0 : nE E0 ≤ nE E102 := Nat.le_trans hE0 hgw102.1
    have h_p0 : isO 2 E102 p0 := isO_up hgw102 h_p0
    have h_p102 : isIA E102 p102 := by rw [ep102, eE102]; exact ⟨new_i _ _, by rw [new_T]⟩
    obtain ⟨E103, eE103, h⟩ := nb_e h
    refine m_prF (C := "Ballothall$Count") (T := TX2) (N := 10) (ci := 2) (k := 7) (ty := (.array .int)) hx hb hts iX2 hown hG hP hD hS h_p0.1 h_p0.2 rfl (by decide) w_1093 (fun _ h9 => h9) rfl rfl tyX2_ok nmX2 rfl hin rfl (by decide +kernel) h_p102.1 (fun _ => rfl) (fun _ => rfl) d_4_1_16 (fun H locs hP hD hS => ?_)
    have hP : va_P z.1 classes (wv z ad102 E103 M102) H := by rw [eE103]; exact hP
    have hD : va_D A (wv z ad102 E103 M102) := by rw [eE103]; exact hD
    have hgw103 : Gw E102 E103 := by rw [eE103]; exact gw_ref _ _ _ _
    have hE0 : nE E0 ≤ nE E103 := Nat.le_trans hE0 hgw103.1
    have h_p0 : isO 2 E103 p0 := isO_up hgw103 h_p0
    refine W.eq (g2 := F0 m 19 ls []) rfl ?_
    refine lv_aload_n hx hb d_4_1_19 rfl (lv_at hl 0 rfl) ?_
    refine lv_bipush (v := oI 8) hx hb d_4_1_20 (by decide +kernel) ?_
    obtain ⟨p104, ep104, h⟩ := nb_e h
    obtain ⟨E104, eE104, h⟩ := nb_e h
    obtain ⟨M104, eM104, h⟩ := nb_e h
    refine m_newI (x := (8 : Int)) (N := 8) hx hb (by decide) (by decide) (by decide) (hts _ w_100) hG hP hD hS hA (show _ ≤ mc by omega) (show _ ≤ ms by omega) d_4_1_22 (fun ad104 H hag104 hP hD hS => ?_)
    have hP : va_P z.1 classes (wv z ad104 E104 M104) H := by rw [eE104, eM104]; exact hP
    have hD : va_D A (wv z ad104 E104 M104) := by rw [eE104, eM104]; exact hD
    refine W.eq (g2 := F0 m 24 ls (.ref (ad104 p104) :: [.ref (ad104 p0)])) (by rw [ep104, hag104 p0 h_p0.1] <;> rfl) ?_
    have hl : lv_has ls 1 [(0, .ref (ad104 p0))] := by rw [hag104 p0 h_p0.1]; exact hl
    have hgw104 : Gw E103 E104 := by rw [eE104]; exact gw_new _ _
    have hag0 : ∀ i, i < nE E0 → ad104 i = ad0 i := fun i hi => (hag104 i (Nat.lt_of_lt_of_le hi hE0)).trans (hag0 i hi)
    have hE0 : nE E0 ≤ nE E104 := Nat.le_trans hE0 hgw104.1
    have h_p0 : isO 2 E104 p0 := isO_up hgw104 h_p0
    have h_p104 : isIA E104 p104 := by rw [ep104, eE104]; exact ⟨new_i _ _, by rw [new_T]⟩
    obtain ⟨E105, eE105, h⟩ := nb_e h
    refine m_prF (C := "Ballothall$Count") (T := TX2) (N := 10) (ci := 2) (k := 8) (ty := (.array .int)) hx hb hts iX2 hown hG hP hD hS h_p0.1 h_p0.2 rfl (by decide) w_1096 (fun _ h9 => h9) rfl rfl tyX2_ok nmX2 rfl hin rfl (by decide +kernel) h_p104.1 (fun _ => rfl) (fun _ => rfl) d_4_1_24 (fun H locs hP hD hS => ?_)
    have hP : va_P z.1 classes (wv z ad104 E105 M104) H := by rw [eE105]; exact hP
    have hD : va_D A (wv z ad104 E105 M104) := by rw [eE105]; exact hD
    have hgw105 : Gw E104 E105 := by rw [eE105]; exact gw_ref _ _ _ _
    have hE0 : nE E0 ≤ nE E105 := Nat.le_trans hE0 hgw105.1
    have h_p0 : isO 2 E105 p0 := isO_up hgw105 h_p0
    refine W.eq (g2 := F0 m 27 ls []) rfl ?_
    refine lv_aload_n hx hb d_4_1_27 rfl (lv_at hl 0 rfl) ?_
    refine lv_sipush (v := oI 1170) hx hb d_4_1_28 (by decide +kernel) ?_
    obtain ⟨p106, ep106, h⟩ := nb_e h
    obtain ⟨E106, eE106, h⟩ := nb_e h
    obtain ⟨M106, eM106, h⟩ := nb_e h
    refine m_newI (x := (1170 : Int)) (N := 1170) hx hb (by decide) (by decide) (by decide) (hts _ w_100) hG hP hD hS hA (show _ ≤ mc by omega) (show _ ≤ ms by omega) d_4_1_31 (fun ad106 H hag106 hP hD hS => ?_)
    have hP : va_P z.1 classes (wv z ad106 E106 M106) H := by rw [eE106, eM106]; exact hP
    have hD : va_D A (wv z ad106 E106 M106) := by rw [eE106, eM106]; exact hD
    refine W.eq (g2 := F0 m 33 ls (.ref (ad106 p106) :: [.ref (ad106 p0)])) (by rw [ep106, hag106 p0 h_p0.1] <;> rfl) ?_
    have hl : lv_has ls 1 [(0, .ref (ad106 p0))] := by rw [hag106 p0 h_p0.1]; exact hl
    have hgw106 : Gw E105 E106 := by rw [eE106]; exact gw_new _ _
    have hag0 : ∀ i, i < nE E0 → ad106 i = ad0 i := fun i hi => (hag106 i (Nat.lt_of_lt_of_le hi hE0)).trans (hag0 i hi)
    have hE0 : nE E0 ≤ nE E106 := Nat.le_trans hE0 hgw106.1
    have h_p0 : isO 2 E106 p0 := isO_up hgw106 h_p0
    have h_p106 : isIA E106 p106 := by rw [ep106, eE106]; exact ⟨new_i _ _, by rw [new_T]⟩
    obtain ⟨E107, eE107, h⟩ := nb_e h
    refine m_prF (C := "Ballothall$Count") (T := TX2) (N := 10) (ci := 2) (k := 9) (ty := (.array .int)) hx hb hts iX2 hown hG hP hD hS h_p0.1 h_p0.2 rfl (by decide) w_1098 (fun _ h9 => h9) rfl rfl tyX2_ok nmX2 rfl hin rfl (by decide +kernel) h_p106.1 (fun _ => rfl) (fun _ => rfl) d_4_1_33 (fun H locs hP hD hS => ?_)
    have hP : va_P z.1 classes (wv z ad106 E107 M106) H := by rw [eE107]; exact hP
    have hD : va_D A (wv z ad106 E107 M106) := by rw [eE107]; exact hD
    have hgw107 : Gw E106 E107 := by rw [eE107]; exact gw_ref _ _ _ _
    have hE0 : nE E0 ≤ nE E107 := Nat.le_trans hE0 hgw107.1
    have h_p0 : isO 2 E107 p0 := isO_up hgw107 h_p0
    refine W.eq (g2 := F0 m 36 ls []) rfl ?_
    refine W.wide (k := c1) (n := s1) (by omega) (by omega) ?_
    obtain ⟨rfl, rfl⟩ := in2 h
    exact W.vret hx hb hr (fun t ht hW => qkA hP hD hS ad106 (congrArg (fun q => wv z q E107 M106) (adj_self hag0).symm) rfl ht) hS.2.2 d_4_1_36
  exact key E ad 4 1211 0 0 4 1211 _ _ _ (by decide) (by decide) (by decide) (by decide) (fun _ _ => rfl) (Nat.le_refl _) hts hP hS
set_option maxRecDepth 100000 in
set_option maxHeartbeats 4000000 in
theorem s_Bx_everybody (l : Launch) (z : Zz) (ad : Nat → Nat) (E : Ev) (M : Mm) (r : Int)  (hL : Lay E) (h : f_Bx_everybody E M = some r) : CT l z ⟨"Ballothall$BallotBox", "everybody", "()I"⟩ prog_2_method_2_code 1 (some .int) [.ref (ad 2)] (wv z ad E M) 0 20 0 0 (fun _ => some (.int (oI r))) (fun _ => (wv z ad E M)) := by
  refine CT.of (own := "Ballothall$BallotBox") (by decide +kernel) (Nat.le_of_ble_eq_true rfl) rfl (fun p e s m below meth c A ls hx hb hml hr hts hown hlocks hin hA hG hZ hP hD hS hl => ?_)
  have hl : lv_has ls 1 [(0, .ref (ad 2))] := hl
  have key : ∀ (H : Heap) (locs : List Loc) (args : Array Value), (∀ w ∈ WG, w.before args s = true) → va_P z.1 classes (wv z ad E M) H → va_S A s.heap H locs → W p l e (rmK 0 20 0 0) s m args below meth c H locs 0 0 (MQ below (QK z A (fun _ => some (.int (oI r))) (fun _ => (wv z ad E M))) args s 0 0 A) (F0 m 0 ls []) := by
    intro H locs args hts hP hS
    unfold f_Bx_everybody at h
    refine lv_iconst (v := oI 1) hx hb d_2_2_0 (by decide +kernel) ?_
    refine lv_aload_n hx hb d_2_2_1 rfl (lv_at hl 0 rfl) ?_
    refine m_gi (C := "Ballothall$BallotBox") (T := TX0) (N := 10) (ci := 0) (k := 2) hx hb hts iX0 hown hG hP (yi_2 hL) (yt_2 hL) rfl (by decide) w_51 (fun _ h9 => h9) rfl rfl d_2_2_2 ?_
    obtain ⟨ok100, h⟩ := ck_e h
    refine lv_ishl hx hb d_2_2_5 ?_
    refine nrm (oI_one_shl ok100) ?_
    refine lv_iconst (v := oI 1) hx hb d_2_2_6 (by decide +kernel) ?_
    refine lv_isub hx hb d_2_2_7 ?_
    refine nrm (oI_sub _ _) ?_
    obtain rfl := in1 h
    exact W.iret hx hb hr (fun t ht hW => qkA hP hD hS (fun k => k) rfl rfl ht) hS.2.2 d_2_2_8
  exact key _ _ _ hts hP hS
set_option maxRecDepth 100000 in
set_option maxHeartbeats 4000000 in
theorem b_Na_become_10b (l : Launch) (z : Zz) (ad : Nat → Nat) (E : Ev) (M : Mm) (q0 : Nat) (x3 : Int) (x5 : Int) (t : Nat) (w3 : Int) (w5 : Int) (N : Mm) {Q : State → Prop} {p : Program} {e : Env} {s : State} {m : MethodId} {below : List Frame} {meth : Method} {c : Code} {A : Nat → Prop} {args : Array Value} (hx : p.tables.exec = Jvm.exec) (hb : c.code = prog_10_method_2_code) (hml : c.maxLocals = 6) (hts : ∀ w ∈ WG, w.before args s = true) (hown : s.vm.findClass "Ballothall$Natural" = some m.cls) (hlocks : meth.locks = false) (hA : ∀ q, s.heap.size ≤ q → A q) (hG : KG z s) (hZ : FZ z A s) (hL : Lay E) (h : Na_become_10b E M q0 x3 x5 = some (t, w3, w5, N)) (k0 : t = 0 → ∀ (H : Heap) (locs : List Loc) (ls : Array Slot), va_P z.1 classes (wv z ad E N) H → va_D A (wv z ad E N) → va_S A s.heap H locs → lv_has ls 6 [(0, .ref (ad q0)), (3, .long (oJ w3)), (5, .int (oI w5))] → W p l e (rmK 0 20 0 0) s m args below meth c H locs 0 0 Q (F0 m 10 ls [])) (k1 : t = 1 → ∀ (H : Heap) (locs : List Loc) (ls : Array Slot), va_P z.1 classes (wv z ad E N) H → va_D A (wv z ad E N) → va_S A s.heap H locs → lv_has ls 6 [] → W p l e (rmK 0 20 0 0) s m args below meth c H locs 0 0 Q (F0 m 57 ls [])) : ∀ (H : Heap) (locs : List Loc) (ls : Array Slot), va_P z.1 classes (wv z ad E M) H → va_D A (wv z ad E M) → va_S A s.heap H locs → lv_has ls 6 [(0, .ref (ad q0)), (3, .long (oJ x3)), (5, .int (oI x5))] → W p l e (rmK 0 20 0 0) s m args below meth c H locs 0 0 Q (F0 m 10 ls []) := by
  intro H locs ls hP hD hS hl
  unfold Na_become_10b at h
  obtain ⟨h_q0, h⟩ := ck_e h
  refine lv_iload hx hb d_10_2_10 (lv_at hl 2 rfl) ?_
  refine lv_bipush (v := oI 13) hx hb d_10_2_12 (by decide +kernel) ?_
  obtain ⟨ok100, h⟩ := ck_e h
  refine lv_icmp_ge (tgt := 57) hx hb d_10_2_14 (by decide) (fun c9 => ?_) (fun c9 => ?_)
  · have h := ite_t ((oI_le (a := (13 : Int)) (b := x5) (by decide) ok100).mp c9) h
    obtain ⟨rfl, rfl, rfl, rfl⟩ := in4 h
    exact k1 rfl H locs ls hP hD hS (lv_sub hl [] rfl)
  · have h := ite_f (fun q => c9 ((oI_le (a := (13 : Int)) (b := x5) (by decide) ok100).mpr q)) h
    refine lv_lload_n hx hb d_10_2_17 rfl (lv_at hl 1 rfl) ?_
    refine lv_lconst (v := oJ 0) hx hb d_10_2_18 (by decide +kernel) ?_
    obtain ⟨ok101, h⟩ := ck_e h
    refine W.lcmp hx hb d_10_2_19 ?_
    refine nrm (cmp_val (a := x3) (b := (0 : Int)) ok101 (by decide)) ?_
    refine lv_if_le (tgt := 57) hx hb d_10_2_20 (by decide) (fun c9 => ?_) (fun c9 => ?_)
    · have h := ite_t ((cmp_le x3 (0 : Int)).mp c9) h
      obtain ⟨rfl, rfl, rfl, rfl⟩ := in4 h
      exact k1 rfl H locs ls hP hD hS (lv_sub hl [] rfl)
    · have h := ite_f (fun q => c9 ((cmp_le x3 (0 : Int)).mpr q)) h
      refine lv_aload_n hx hb d_10_2_23 rfl (lv_at hl 0 rfl) ?_
      refine m_gr (j := (q0 + 1)) (C := "Ballothall$Natural") (T := TX8) (N := 2) (ci := 8) (k := 0) hx hb hts iX8 hown hG hP (isNa_i h_q0) (isNa_T h_q0) rfl (by decide) w_294 (fun _ h9 => h9) rfl rfl (isNa_r0 h_q0) d_10_2_24 ?_
      refine lv_iload hx hb d_10_2_27 (lv_at hl 2 rfl) ?_
      refine lv_lload_n hx hb d_10_2_29 rfl (lv_at hl 1 rfl) ?_
      refine lv_ldc2 hx hb hown (hts _ w_605) d_10_2_30 ?_
      refine nrmL (x1 := oJ 1073741823) (by decide +kernel) ?_
      refine lv_land hx hb d_10_2_33 ?_
      refine nrmL (oJ_m30 _) ?_
      refine lv_l2i (v := oI (x3 % 1073741824)) hx hb d_10_2_34 (oJ_i _) ?_
      obtain ⟨ok102, h⟩ := ck_e h
      refine m_is hx hb hG hP hD hS (isNa_i1 h_q0) (isNa_t1 h_q0) ok102 d_10_2_35 (fun H locs hP hD hS => ?_)
      have hP : va_P z.1 classes (wv z ad E (u2 M (q0 + 1) x5.toNat (x3 % 1073741824))) H := hP
      have hD : va_D A (wv z ad E (u2 M (q0 + 1) x5.toNat (x3 % 1073741824))) := hD
      refine lv_lload_n hx hb d_10_2_36 rfl (lv_at hl 1 rfl) ?_
      refine lv_bipush (v := oI 30) hx hb d_10_2_37 (by decide +kernel) ?_
      refine lv_lshr (v := oJ (x3 / 1073741824)) hx hb d_10_2_39 (oJ_shr (b := (30 : Int)) ok101 (by decide) (by decide)) ?_
      refine lv_lstore_n (lv' := [(3, .long (oJ (x3 / 1073741824))), (0, .ref (ad q0)), (5, .int (oI x5))]) hx hb d_10_2_40 rfl hl (by decide) rfl (fun ls hl => ?_)
      refine lv_aload_n hx hb d_10_2_41 rfl (lv_at hl 1 rfl) ?_
      refine lv_dup hx hb d_10_2_42 rfl ?_
      refine m_gi (C := "Ballothall$Natural") (T := TX8) (N := 2) (ci := 8) (k := 1) hx hb hts iX8 hown hG hP (isNa_i h_q0) (isNa_T h_q0) rfl (by decide) w_295 (fun _ h9 => h9) rfl rfl d_10_2_43 ?_
      refine lv_iconst (v := oI 1) hx hb d_10_2_46 (by decide +kernel) ?_
      refine lv_iadd hx hb d_10_2_47 ?_
      refine nrm (oI_add _ _) ?_
      refine m_pi (C := "Ballothall$Natural") (T := TX8) (N := 2) (ci := 8) (k := 1) (ty := .int) hx hb hts iX8 hown hG hP hD hS (isNa_i h_q0) (isNa_T h_q0) rfl (by decide) w_295 (fun _ h9 => h9) rfl rfl tyX8_ok nmX8 rfl (by decide +kernel) rfl rfl d_10_2_48 (fun H locs hP hD hS => ?_)
      have hP : va_P z.1 classes (wv z ad E (u2 (u2 M (q0 + 1) x5.toNat (x3 % 1073741824)) q0 1 (((u2 M (q0 + 1) x5.toNat (x3 % 1073741824)) q0 1) + 1))) H := hP
      have hD : va_D A (wv z ad E (u2 (u2 M (q0 + 1) x5.toNat (x3 % 1073741824)) q0 1 (((u2 M (q0 + 1) x5.toNat (x3 % 1073741824)) q0 1) + 1))) := hD
      obtain ⟨M103, e103, h⟩ := nb_e h
      rw [← e103] at hP hD
      refine lv_iinc (v := oI (x5 + 1)) (lv' := [(5, .int (oI (x5 + 1))), (3, .long (oJ (x3 / 1073741824))), (0, .ref (ad q0))]) hx hb d_10_2_51 hl (k := 2) rfl (oI_add x5 1) (by decide) rfl (fun ls hl => ?_)
      refine lv_goto (tgt := 10) hx hb d_10_2_54 (by decide) ?_
      obtain ⟨rfl, rfl, rfl, rfl⟩ := in4 h
      exact k0 rfl H locs ls hP hD hS (lv_sub hl [2, 1, 0] rfl)
set_option maxRecDepth 100000 in
set_option maxHeartbeats 4000000 in
theorem s_Na_become_10 (l : Launch) (z : Zz) (ad : Nat → Nat) (E : Ev) (q0 : Nat) {Q : State → Prop} {p : Program} {e : Env} {s : State} {m : MethodId} {below : List Frame} {meth : Method} {c : Code} {A : Nat → Prop} {args : Array Value} (hx : p.tables.exec = Jvm.exec) (hb : c.code = prog_10_method_2_code) (hml : c.maxLocals = 6) (hts : ∀ w ∈ WG, w.before args s = true) (hown : s.vm.findClass "Ballothall$Natural" = some m.cls) (hlocks : meth.locks = false) (hA : ∀ q, s.heap.size ≤ q → A q) (hG : KG z s) (hZ : FZ z A s) (hL : Lay E) : ∀ (fu : Nat) (M : Mm) (x3 : Int) (x5 : Int) (t : Nat) (w3 : Int) (w5 : Int) (N : Mm), l_Na_become_10 E q0 fu M x3 x5 = some (t, w3, w5, N) → (t = 1 → ∀ (H : Heap) (locs : List Loc) (ls : Array Slot), va_P z.1 classes (wv z ad E N) H → va_D A (wv z ad E N) → va_S A s.heap H locs → lv_has ls 6 [] → W p l e (rmK 0 20 0 0) s m args below meth c H locs 0 0 Q (F0 m 57 ls [])) → ∀ (H : Heap) (locs : List Loc) (ls : Array Slot), va_P z.1 classes (wv z ad E M) H → va_D A (wv z ad E M) → va_S A s.heap H locs → lv_has ls 6 [(0, .ref (ad q0)), (3, .long (oJ x3)), (5, .int (oI x5))] → W p l e (rmK 0 20 0 0) s m args below meth c H locs 0 0 Q (F0 m 10 ls []) := by
  intro fu
  induction fu with
  | zero =>
    intro M x3 x5 t w3 w5 N h
    have h : (none : Option (Nat × Int × Int × Mm)) = some _ := h
    cases h
  | succ fu ih =>
    intro M x3 x5 t w3 w5 N h k1 H locs ls hP hD hS hl
    obtain ⟨⟨t0, w30, w50, N9⟩, g0, h⟩ := bd_e h
    refine b_Na_become_10b l z ad E M q0 x3 x5 t0 w30 w50 N9 hx hb hml hts hown hlocks hA hG hZ hL g0 (fun e0 => ?_) (fun e0 => ?_) H locs ls hP hD hS hl
    · subst e0
      have h := ite_t rfl h
      exact ih N9 w30 w50 t w3 w5 N h k1
    · subst e0
      have h := ite_f (by decide) h
      obtain ⟨rfl, rfl, rfl, rfl⟩ := in4 h
      exact k1 rfl
set_option maxRecDepth 100000 in
set_option maxHeartbeats 4000000 in
theorem s_Na_become (l : Launch) (z : Zz) (ad : Nat → Nat) (E : Ev) (M : Mm) (p0 : Nat) (x1 : Int) (N : Mm) (hL : Lay E) (h : f_Na_become E M p0 x1 = some N) : CT l z ⟨"Ballothall$Natural", "become", "(J)V"⟩ prog_10_method_2_code 6 none [.ref (ad p0), .long (oJ x1)] (wv z ad E M) 0 20 0 0 (fun _ => none) (fun _ => (wv z ad E N)) := by
  refine CT.of (own := "Ballothall$Natural") (by decide +kernel) (Nat.le_of_ble_eq_true rfl) rfl (fun p e s m below meth c A ls hx hb hml hr hts hown hlocks hin hA hG hZ hP hD hS hl => ?_)
  have hl : lv_has ls 6 [(0, .ref (ad p0)), (1, .long (oJ x1))] := hl
  have key : ∀ (H : Heap) (locs : List Loc) (args : Array Value), (∀ w ∈ WG, w.before args s = true) → va_P z.1 classes (wv z ad E M) H → va_S A s.heap H locs → W p l e (rmK 0 20 0 0) s m args below meth c H locs 0 0 (MQ below (QK z A (fun _ => none) (fun _ => (wv z ad E N))) args s 0 0 A) (F0 m 0 ls []) := by
    intro H locs args hts hP hS
    unfold f_Na_become at h
    obtain ⟨h_p0, h⟩ := ck_e h
    refine lv_lload_n hx hb d_10_2_0 rfl (lv_at hl 1 rfl) ?_
    refine lv_lstore_n (lv' := [(3, .long (oJ x1)), (0, .ref (ad p0)), (1, .long (oJ x1))]) hx hb d_10_2_1 rfl hl (by decide) rfl (fun ls hl => ?_)
    refine lv_aload_n hx hb d_10_2_2 rfl (lv_at hl 1 rfl) ?_
    refine lv_iconst (v := oI 0) hx hb d_10_2_3 (by decide +kernel) ?_
    refine m_pi (C := "Ballothall$Natural") (T := TX8) (N := 2) (ci := 8) (k := 1) (ty := .int) hx hb hts iX8 hown hG hP hD hS (isNa_i h_p0) (isNa_T h_p0) rfl (by decide) w_295 (fun _ h9 => h9) rfl rfl tyX8_ok nmX8 rfl (by decide +kernel) rfl rfl d_10_2_4 (fun H locs hP hD hS => ?_)
    have hP : va_P z.1 classes (wv z ad E (u2 M p0 1 0)) H := hP
    have hD : va_D A (wv z ad E (u2 M p0 1 0)) := hD
    refine lv_iconst (v := oI 0) hx hb d_10_2_7 (by decide +kernel) ?_
    refine lv_istore (lv' := [(5, .int (oI 0)), (3, .long (oJ x1)), (0, .ref (ad p0)), (1, .long (oJ x1))]) hx hb d_10_2_8 hl (by decide) rfl (fun ls hl => ?_)
    obtain ⟨⟨t104, v104_3, v104_5, M104⟩, g104, h⟩ := bd_e h
    obtain ⟨ok104, h⟩ := ck_e h
    refine s_Na_become_10 l z ad E p0 hx hb hml hts hown hlocks hA hG hZ hL FU (u2 M p0 1 0) x1 0 t104 v104_3 v104_5 M104 g104 (fun e104 H locs ls hP hD hS hl => ?_) H locs ls hP hD hS (lv_sub hl [2, 1, 0] rfl)
    obtain rfl := in1 h
    exact W.vret hx hb hr (fun t ht hW => qkA hP hD hS (fun k => k) rfl rfl ht) hS.2.2 d_10_2_57
  exact key _ _ _ hts hP hS
set_option maxRecDepth 100000 in
set_option maxHeartbeats 4000000 in
theorem s_Co_weightOfA (l : Launch) (z : Zz) (ad : Nat → Nat) (E : Ev) (M : Mm) (x1 : Int) (x2 : Int) (r : Nat) (F : Ev) (N : Mm) (h : f_Co_weightOfA E M x1 x2 = some (r, F, N)) : CT l z ⟨"Ballothall$Counting", "weightOf", "(II)LBallothall$Natural;"⟩ prog_5_method_4_code 4 (some (.object "Ballothall$Natural")) [.ref (ad 179), .int (oI x1), .int (oI x2)] (wv z ad E M) 2 60 2 15 (fun u => some (.ref ((adj E ad u) r))) (fun u => wv z (adj E ad u) F N) := by
  refine CT.of (own := "Ballothall$Counting") (by decide +kernel) (Nat.le_of_ble_eq_true rfl) rfl (fun p e s m below meth c A ls hx hb hml hr hts hown hlocks hin hA hG hZ hP hD hS hl => ?_)
  have hl : lv_has ls 4 [(0, .ref (ad 179)), (1, .int (oI x1)), (2, .int (oI x2))] := hl
  have key : ∀ (E0 : Ev) (ad0 : Nat → Nat) (mc ms c0 s0 c1 s1 : Nat) (H : Heap) (locs : List Loc) (args : Array Value), c0 + 2 ≤ c1 → s0 + 15 ≤ s1 → c1 ≤ mc → s1 ≤ ms → (∀ i, i < nE E0 → ad i = ad0 i) → nE E0 ≤ nE E → (∀ w ∈ WG, w.before args s = true) → va_P z.1 classes (wv z ad E M) H → va_S A s.heap H locs → W p l e (rmK 2 60 mc ms) s m args below meth c H locs c0 s0 (MQ below (QK z A (fun u => some (.ref ((adj E0 ad0 u) r))) (fun u => wv z (adj E0 ad0 u) F N)) args s c1 s1 A) (F0 m 0 ls []) := by
    intro E0 ad0 mc ms c0 s0 c1 s1 H locs args hc hs hm hm2 hag0 hE0 hts hP hS
    unfold f_Co_weightOfA at h
    obtain ⟨hL, h⟩ := ck_e h
    refine lv_iload_n hx hb d_5_4_0 rfl (lv_at hl 1 rfl) ?_
    refine lv_bipush (v := oI 8) hx hb d_5_4_1 (by decide +kernel) ?_
    refine lv_imul hx hb d_5_4_3 ?_
    refine nrm (oI_mul _ _) ?_
    refine lv_iload_n hx hb d_5_4_4 rfl (lv_at hl 2 rfl) ?_
    refine lv_iadd hx hb d_5_4_5 ?_
    refine nrm (oI_add _ _) ?_
    refine lv_istore_n (lv' := [(3, .int (oI ((x1 * 8) + x2))), (0, .ref (ad 179)), (1, .int (oI x1)), (2, .int (oI x2))]) hx hb d_5_4_6 rfl hl (by decide) rfl (fun ls hl => ?_)
    refine lv_aload_n hx hb d_5_4_7 rfl (lv_at hl 1 rfl) ?_
    refine m_gr (j := 181) (C := "Ballothall$Counting") (T := TX3) (N := 15) (ci := 3) (k := 4) hx hb hts iX3 hown hG hP (yi_179 hL) (yt_179 hL) rfl (by decide) w_307 (fun _ h9 => h9) rfl rfl (yr_179_4 hL) d_5_4_8 ?_
    refine lv_iload_n hx hb d_5_4_11 rfl (lv_at hl 0 rfl) ?_
    obtain ⟨ok100, h⟩ := ck_e h
    refine m_aO (t := 5) (C := "Ballothall$Natural") hx hb hG hP (yi_181 hL) (yt_181 hL) rfl rfl ok100 d_5_4_12 ?_
    cases hO101 : (rE E 181 ((x1 * 8) + x2).toNat) with
    | none =>
      have h := mO_n hO101 h
      refine W.eq (g2 := F0 m 13 ls [.null]) rfl ?_
      refine lv_ifnonnullN hx hb d_5_4_13 ?_
      refine lv_aload_n hx hb d_5_4_16 rfl (lv_at hl 1 rfl) ?_
      refine m_gr (j := 181) (C := "Ballothall$Counting") (T := TX3) (N := 15) (ci := 3) (k := 4) hx hb hts iX3 hown hG hP (yi_179 hL) (yt_179 hL) rfl (by decide) w_307 (fun _ h9 => h9) rfl rfl (yr_179_4 hL) d_5_4_17 ?_
      refine lv_iload_n hx hb d_5_4_20 rfl (lv_at hl 0 rfl) ?_
      obtain ⟨p102, ep102, h⟩ := nb_e h
      obtain ⟨E102, eE102, h⟩ := nb_e h
      obtain ⟨M102, eM102, h⟩ := nb_e h
      refine m_newO (ci := 8) (C := "Ballothall$Natural") (T := TX8) (n := 2) hx hb hts iX8 tyX8_ok hown w_287 w_289 w_9 rfl (fun _ => fsX8) hG hP hD hS hA (show _ ≤ mc by omega) (show _ ≤ ms by omega) d_5_4_21 (fun ad102 H hag102 hP hD hS => ?_)
      have hP : va_P z.1 classes (wv z ad102 E102 M102) H := by rw [eE102, eM102]; exact hP
      have hD : va_D A (wv z ad102 E102 M102) := by rw [eE102, eM102]; exact hD
      refine W.eq (g2 := F0 m 24 ls (.ref (ad102 p102) :: [.int (oI ((x1 * 8) + x2)), .ref (ad102 181)])) (by rw [ep102, hag102 181 (yi_181 hL)] <;> rfl) ?_
      have hl : lv_has ls 4 [(3, .int (oI ((x1 * 8) + x2))), (0, .ref (ad102 179)), (1, .int (oI x1)), (2, .int (oI x2))] := by rw [hag102 179 (yi_179 hL)]; exact hl
      have hgw102 : Gw E E102 := by rw [eE102]; exact gw_new _ _
      have hL102 : Lay E102 := by rw [eE102]; exact lay_new hL
      have hag0 : ∀ i, i < nE E0 → ad102 i = ad0 i := fun i hi => (hag102 i (Nat.lt_of_lt_of_le hi hE0)).trans (hag0 i hi)
      have hE0 : nE E0 ≤ nE E102 := Nat.le_trans hE0 hgw102.1
      have hL : Lay E102 := hL102
      have h_p102 : isO 8 E102 p102 := by rw [ep102, eE102]; exact ⟨new_i _ _, new_T _ _⟩
      refine lv_dup hx hb d_5_4_24 rfl ?_
      obtain ⟨⟨E103, M103⟩, g103, h⟩ := bd_e h
      obtain ⟨hgw103, h⟩ := ck_e h
      refine kIN (As := []) (rest := [.ref (ad102 p102), .int (oI ((x1 * 8) + x2)), .ref (ad102 181)]) (s_Na_init l z ad102 E102 M102 p102 E103 M103 g103) hx hb hml hown hts w_292 n_290 w_291 rfl w_9 md_72d9bf ⟨Nat.le_of_ble_eq_true rfl, Nat.le_of_ble_eq_true rfl⟩ hG hZ hP hD hS hA rfl hl.1 rfl (Nat.le_of_ble_eq_true rfl) d_5_4_25 ⟨(show _ ≤ mc by omega), (show _ ≤ ms by omega)⟩ (fun u103 H locs hP hD hS => ?_)
      obtain ⟨ad103, had103⟩ : ∃ q, q = adj E102 ad102 u103 := ⟨_, rfl⟩
      have hP : va_P z.1 classes (wv z ad103 E103 M103) H := by rw [had103]; exact hP
      have hD : va_D A (wv z ad103 E103 M103) := by rw [had103]; exact hD
      have hag103 : ∀ i, i < nE E102 → ad103 i = ad102 i := fun i hi => by rw [had103]; exact adj_lt hi
      have hl : lv_has ls 4 [(3, .int (oI ((x1 * 8) + x2))), (0, .ref (ad103 179)), (1, .int (oI x1)), (2, .int (oI x2))] := by rw [hag103 179 (yi_179 hL)]; exact hl
      refine W.eq (g2 := F0 m 28 ls [.ref (ad103 p102), .int (oI ((x1 * 8) + x2)), .ref (ad103 181)]) (by rw [hag103 p102 h_p102.1, hag103 181 (yi_181 hL)] <;> rfl) ?_
      have hag0 : ∀ i, i < nE E0 → ad103 i = ad0 i := fun i hi => (hag103 i (Nat.lt_of_lt_of_le hi hE0)).trans (hag0 i hi)
      have hE0 : nE E0 ≤ nE E103 := Nat.le_trans hE0 hgw103.1
      obtain ⟨hL, h⟩ := ck_e h
      have h_p102 : isO 8 E103 p102 := isO_up hgw103 h_p102
      obtain ⟨E104, eE104, h⟩ := nb_e h
      refine m_as (t := 5) (ci := 8) (r := ("Ballothall$Natural", TX8, 2)) (x := ((x1 * 8) + x2)) hx hb hG hP hD hS (yi_181 hL) (yt_181 hL) rfl rfl h_p102.1 h_p102.2 rfl ok100 d_5_4_28 (fun H locs hP hD hS => ?_)
      have hP : va_P z.1 classes (wv z ad103 E104 M103) H := by rw [eE104]; exact hP
      have hD : va_D A (wv z ad103 E104 M103) := by rw [eE104]; exact hD
      have hgw104 : Gw E103 E104 := by rw [eE104]; exact gw_ref _ _ _ _
      have hL104 : Lay E104 := by rw [eE104]; exact lay_put181 hL
      have hE0 : nE E0 ≤ nE E104 := Nat.le_trans hE0 hgw104.1
      have hL : Lay E104 := hL104
      refine W.eq (g2 := F0 m 29 ls []) rfl ?_
      refine lv_aload_n hx hb d_5_4_29 rfl (lv_at hl 1 rfl) ?_
      refine m_gr (j := 181) (C := "Ballothall$Counting") (T := TX3) (N := 15) (ci := 3) (k := 4) hx hb hts iX3 hown hG hP (yi_179 hL) (yt_179 hL) rfl (by decide) w_307 (fun _ h9 => h9) rfl rfl (yr_179_4 hL) d_5_4_30 ?_
      refine lv_iload_n hx hb d_5_4_33 rfl (lv_at hl 0 rfl) ?_
      obtain ⟨p105, g105, h⟩ := bd_e h
      obtain ⟨h_p105, h⟩ := ck_e h
      refine m_aa (k := p105) (t := 5) (C := "Ballothall$Natural") hx hb hG hP (yi_181 hL) (yt_181 hL) rfl rfl ok100 g105 d_5_4_34 ?_
      refine W.wide (k := c1) (n := s1) (by omega) (by omega) ?_
      obtain ⟨rfl, rfl, rfl⟩ := in3 h
      exact W.aret hx hb hr (Or.inl ⟨_, rfl⟩) (Or.inr ⟨_, rfl⟩) (fun t ht hW => qkA hP hD hS ad103 (congrArg (fun q => wv z q E104 M103) (adj_self hag0).symm) (congrArg (fun q => some (Value.ref (q p105))) (adj_self hag0).symm) ht) hS.2.2 d_5_4_35
    | some p101 =>
      have h := mO_s hO101 h
      refine W.eq (g2 := F0 m 13 ls (.ref (ad p101) :: [])) rfl ?_
      refine lv_ifnonnull (tgt := 29) hx hb d_5_4_13 (by decide) ?_
      refine lv_aload_n hx hb d_5_4_29 rfl (lv_at hl 1 rfl) ?_
      refine m_gr (j := 181) (C := "Ballothall$Counting") (T := TX3) (N := 15) (ci := 3) (k := 4) hx hb hts iX3 hown hG hP (yi_179 hL) (yt_179 hL) rfl (by decide) w_307 (fun _ h9 => h9) rfl rfl (yr_179_4 hL) d_5_4_30 ?_
      refine lv_iload_n hx hb d_5_4_33 rfl (lv_at hl 0 rfl) ?_
      obtain ⟨p106, g106, h⟩ := bd_e h
      obtain ⟨h_p106, h⟩ := ck_e h
      refine m_aa (k := p106) (t := 5) (C := "Ballothall$Natural") hx hb hG hP (yi_181 hL) (yt_181 hL) rfl rfl ok100 g106 d_5_4_34 ?_
      refine W.wide (k := c1) (n := s1) (by omega) (by omega) ?_
      obtain ⟨rfl, rfl, rfl⟩ := in3 h
      exact W.aret hx hb hr (Or.inl ⟨_, rfl⟩) (Or.inr ⟨_, rfl⟩) (fun t ht hW => qkA hP hD hS ad (congrArg (fun q => wv z q E M) (adj_self hag0).symm) (congrArg (fun q => some (Value.ref (q p106))) (adj_self hag0).symm) ht) hS.2.2 d_5_4_35
  exact key E ad 2 15 0 0 2 15 _ _ _ (by decide) (by decide) (by decide) (by decide) (fun _ _ => rfl) (Nat.le_refl _) hts hP hS
set_option maxRecDepth 100000 in
set_option maxHeartbeats 4000000 in
theorem b_Bx_topOf_2b (l : Launch) (z : Zz) (ad : Nat → Nat) (E : Ev) (M : Mm) (x1 : Int) (x2 : Int) (x3 : Int) (t : Nat) (w3 : Int) (w4 : Int)  {Q : State → Prop} {p : Program} {e : Env} {s : State} {m : MethodId} {below : List Frame} {meth : Method} {c : Code} {A : Nat → Prop} {args : Array Value} (hx : p.tables.exec = Jvm.exec) (hb : c.code = prog_2_method_13_code) (hml : c.maxLocals = 5) (hts : ∀ w ∈ WG, w.before args s = true) (hown : s.vm.findClass "Ballothall$BallotBox" = some m.cls) (hlocks : meth.locks = false) (hA : ∀ q, s.heap.size ≤ q → A q) (hG : KG z s) (hZ : FZ z A s) (hL : Lay E) (h : Bx_topOf_2b E M x1 x2 x3 = some (t, w3, w4)) (k0 : t = 0 → ∀ (H : Heap) (locs : List Loc) (ls : Array Slot), va_P z.1 classes (wv z ad E M) H → va_D A (wv z ad E M) → va_S A s.heap H locs → lv_has ls 5 [(0, .ref (ad 2)), (1, .int (oI x1)), (2, .int (oI x2)), (3, .int (oI w3))] → W p l e (rmK 0 20 0 0) s m args below meth c H locs 0 0 Q (F0 m 2 ls [])) (k1 : t = 1 → ∀ (H : Heap) (locs : List Loc) (ls : Array Slot), va_P z.1 classes (wv z ad E M) H → va_D A (wv z ad E M) → va_S A s.heap H locs → lv_has ls 5 [(4, .int (oI w4))] → W p l e (rmK 0 20 0 0) s m args below meth c H locs 0 0 Q (F0 m 29 ls [])) (k2 : t = 2 → ∀ (H : Heap) (locs : List Loc) (ls : Array Slot), va_P z.1 classes (wv z ad E M) H → va_D A (wv z ad E M) → va_S A s.heap H locs → lv_has ls 5 [] → W p l e (rmK 0 20 0 0) s m args below meth c H locs 0 0 Q (F0 m 38 ls [])) : ∀ (H : Heap) (locs : List Loc) (ls : Array Slot), va_P z.1 classes (wv z ad E M) H → va_D A (wv z ad E M) → va_S A s.heap H locs → lv_has ls 5 [(0, .ref (ad 2)), (1, .int (oI x1)), (2, .int (oI x2)), (3, .int (oI x3))] → W p l e (rmK 0 20 0 0) s m args below meth c H locs 0 0 Q (F0 m 2 ls []) := by
  intro H locs ls hP hD hS hl
  unfold Bx_topOf_2b at h
  refine lv_iload_n hx hb d_2_13_2 rfl (lv_at hl 3 rfl) ?_
  refine lv_aload_n hx hb d_2_13_3 rfl (lv_at hl 0 rfl) ?_
  refine m_gr (j := 7) (C := "Ballothall$BallotBox") (T := TX0) (N := 10) (ci := 0) (k := 7) hx hb hts iX0 hown hG hP (yi_2 hL) (yt_2 hL) rfl (by decide) w_72 (fun _ h9 => h9) rfl rfl (yr_2_7 hL) d_2_13_4 ?_
  refine lv_iload_n hx hb d_2_13_7 rfl (lv_at hl 1 rfl) ?_
  obtain ⟨ok100, h⟩ := ck_e h
  refine m_ia hx hb hG hP (yi_7 hL) (yt_7 hL) ok100 d_2_13_8 ?_
  obtain ⟨ok101, h⟩ := ck_e h
  obtain ⟨ok102, h⟩ := ck_e h
  refine lv_icmp_ge (tgt := 38) hx hb d_2_13_9 (by decide) (fun c9 => ?_) (fun c9 => ?_)
  · have h := ite_t ((oI_le (a := (M 7 x1.toNat)) (b := x3) ok102 ok101).mp c9) h
    obtain ⟨rfl, rfl, rfl⟩ := in3 h
    exact k2 rfl H locs ls hP hD hS (lv_sub hl [] rfl)
  · have h := ite_f (fun q => c9 ((oI_le (a := (M 7 x1.toNat)) (b := x3) ok102 ok101).mpr q)) h
    refine lv_aload_n hx hb d_2_13_12 rfl (lv_at hl 0 rfl) ?_
    refine m_gr (j := 8) (C := "Ballothall$BallotBox") (T := TX0) (N := 10) (ci := 0) (k := 8) hx hb hts iX0 hown hG hP (yi_2 hL) (yt_2 hL) rfl (by decide) w_74 (fun _ h9 => h9) rfl rfl (yr_2_8 hL) d_2_13_13 ?_
    refine lv_iload_n hx hb d_2_13_16 rfl (lv_at hl 1 rfl) ?_
    refine m_ar (k := (9 + x1.toNat)) hx hb hG hP (yi_8 hL) (yt_8 hL) ok100 (ya_8 hL (inb_lt ok100)) d_2_13_17 ?_
    refine lv_iload_n hx hb d_2_13_18 rfl (lv_at hl 3 rfl) ?_
    obtain ⟨ok103, h⟩ := ck_e h
    refine m_ia hx hb hG hP (yg_8 hL ok100).1 (yg_8 hL ok100).2 ok103 d_2_13_19 ?_
    refine lv_iload_n hx hb d_2_13_20 rfl (lv_at hl 2 rfl) ?_
    obtain ⟨ok104, h⟩ := ck_e h
    obtain ⟨ok105, h⟩ := ck_e h
    refine lv_iand hx hb d_2_13_21 ?_
    refine nrm (oI_and (a := (M (9 + x1.toNat) x3.toNat)) (b := x2) ok104.1 ok104.2 ok105.1 ok105.2) ?_
    obtain ⟨v106, e106, h⟩ := nb_e h
    refine nrm (congrArg oI e106.symm) ?_
    refine lv_istore (lv' := [(4, .int (oI v106)), (0, .ref (ad 2)), (1, .int (oI x1)), (2, .int (oI x2)), (3, .int (oI x3))]) hx hb d_2_13_22 hl (by decide) rfl (fun ls hl => ?_)
    refine lv_iload hx hb d_2_13_24 (lv_at hl 0 rfl) ?_
    refine lv_if_eq (tgt := 32) hx hb d_2_13_26 (by decide) (fun c9 => ?_) (fun c9 => ?_)
    · have h := ite_t ((oI_eq0 (e106 ▸ (rg_nn (and_nn ok104)))).mp c9) h
      refine lv_iinc (v := oI (x3 + 1)) (lv' := [(3, .int (oI (x3 + 1))), (4, .int (oI v106)), (0, .ref (ad 2)), (1, .int (oI x1)), (2, .int (oI x2))]) hx hb d_2_13_32 hl (k := 4) rfl (oI_add x3 1) (by decide) rfl (fun ls hl => ?_)
      refine lv_goto (tgt := 2) hx hb d_2_13_35 (by decide) ?_
      obtain ⟨rfl, rfl, rfl⟩ := in3 h
      exact k0 rfl H locs ls hP hD hS (lv_sub hl [2, 3, 4, 0] rfl)
    · have h := ite_f (fun q => c9 ((oI_eq0 (e106 ▸ (rg_nn (and_nn ok104)))).mpr q)) h
      obtain ⟨rfl, rfl, rfl⟩ := in3 h
      exact k1 rfl H locs ls hP hD hS (lv_sub hl [0] rfl)
set_option maxRecDepth 100000 in
set_option maxHeartbeats 4000000 in
theorem s_Bx_topOf_2 (l : Launch) (z : Zz) (ad : Nat → Nat) (E : Ev) (x1 : Int) (x2 : Int) {Q : State → Prop} {p : Program} {e : Env} {s : State} {m : MethodId} {below : List Frame} {meth : Method} {c : Code} {A : Nat → Prop} {args : Array Value} (hx : p.tables.exec = Jvm.exec) (hb : c.code = prog_2_method_13_code) (hml : c.maxLocals = 5) (hts : ∀ w ∈ WG, w.before args s = true) (hown : s.vm.findClass "Ballothall$BallotBox" = some m.cls) (hlocks : meth.locks = false) (hA : ∀ q, s.heap.size ≤ q → A q) (hG : KG z s) (hZ : FZ z A s) (hL : Lay E) : ∀ (fu : Nat) (M : Mm) (x3 : Int) (t : Nat) (w3 : Int) (w4 : Int), l_Bx_topOf_2 E x1 x2 fu M x3 = some (t, w3, w4) → (t = 1 → ∀ (H : Heap) (locs : List Loc) (ls : Array Slot), va_P z.1 classes (wv z ad E M) H → va_D A (wv z ad E M) → va_S A s.heap H locs → lv_has ls 5 [(4, .int (oI w4))] → W p l e (rmK 0 20 0 0) s m args below meth c H locs 0 0 Q (F0 m 29 ls [])) → (t = 2 → ∀ (H : Heap) (locs : List Loc) (ls : Array Slot), va_P z.1 classes (wv z ad E M) H → va_D A (wv z ad E M) → va_S A s.heap H locs → lv_has ls 5 [] → W p l e (rmK 0 20 0 0) s m args below meth c H locs 0 0 Q (F0 m 38 ls [])) → ∀ (H : Heap) (locs : List Loc) (ls : Array Slot), va_P z.1 classes (wv z ad E M) H → va_D A (wv z ad E M) → va_S A s.heap H locs → lv_has ls 5 [(0, .ref (ad 2)), (1, .int (oI x1)), (2, .int (oI x2)), (3, .int (oI x3))] → W p l e (rmK 0 20 0 0) s m args below meth c H locs 0 0 Q (F0 m 2 ls []) := by
  intro fu
  induction fu with
  | zero =>
    intro M x3 t w3 w4 h
    have h : (none : Option (Nat × Int × Int)) = some _ := h
    cases h
  | succ fu ih =>
    intro M x3 t w3 w4 h k1 k2 H locs ls hP hD hS hl
    obtain ⟨⟨t0, w30, w40⟩, g0, h⟩ := bd_e h
    refine b_Bx_topOf_2b l z ad E M x1 x2 x3 t0 w30 w40 hx hb hml hts hown hlocks hA hG hZ hL g0 (fun e0 => ?_) (fun e0 => ?_) (fun e0 => ?_) H locs ls hP hD hS hl
    · subst e0
      have h := ite_t rfl h
      exact ih M w30 t w3 w4 h k1 k2
    · subst e0
      have h := ite_f (by decide) h
      obtain ⟨rfl, rfl, rfl⟩ := in3 h
      exact k1 rfl
    · subst e0
      have h := ite_f (by decide) h
      obtain ⟨rfl, rfl, rfl⟩ := in3 h
      exact k2 rfl
set_option maxRecDepth 100000 in
set_option maxHeartbeats 4000000 in
theorem s_Bx_topOf (l : Launch) (z : Zz) (ad : Nat → Nat) (E : Ev) (M : Mm) (x1 : Int) (x2 : Int) (r : Int)  (hL : Lay E) (h : f_Bx_topOf E M x1 x2 = some r) : CT l z ⟨"Ballothall$BallotBox", "topOf", "(II)I"⟩ prog_2_method_13_code 5 (some .int) [.ref (ad 2), .int (oI x1), .int (oI x2)] (wv z ad E M) 0 20 0 0 (fun _ => some (.int (oI r))) (fun _ => (wv z ad E M)) := by
  refine CT.of (own := "Ballothall$BallotBox") (by decide +kernel) (Nat.le_of_ble_eq_true rfl) rfl (fun p e s m below meth c A ls hx hb hml hr hts hown hlocks hin hA hG hZ hP hD hS hl => ?_)
  have hl : lv_has ls 5 [(0, .ref (ad 2)), (1, .int (oI x1)), (2, .int (oI x2))] := hl
  have key : ∀ (H : Heap) (locs : List Loc) (args : Array Value), (∀ w ∈ WG, w.before args s = true) → va_P z.1 classes (wv z ad E M) H → va_S A s.heap H locs → W p l e (rmK 0 20 0 0) s m args below meth c H locs 0 0 (MQ below (QK z A (fun _ => some (.int (oI r))) (fun _ => (wv z ad E M))) args s 0 0 A) (F0 m 0 ls []) := by
    intro H locs args hts hP hS
    unfold f_Bx_topOf at h
    refine lv_iconst (v := oI 0) hx hb d_2_13_0 (by decide +kernel) ?_
    refine lv_istore_n (lv' := [(3, .int (oI 0)), (0, .ref (ad 2)), (1, .int (oI x1)), (2, .int (oI x2))]) hx hb d_2_13_1 rfl hl (by decide) rfl (fun ls hl => ?_)
    obtain ⟨⟨t107, v107_3, v107_4⟩, g107, h⟩ := bd_e h
    refine s_Bx_topOf_2 l z ad E x1 x2 hx hb hml hts hown hlocks hA hG hZ hL FU M 0 t107 v107_3 v107_4 g107 (fun e107 H locs ls hP hD hS hl => ?_) (fun e107 H locs ls hP hD hS hl => ?_) H locs ls hP hD hS (lv_sub hl [1, 2, 3, 0] rfl)
    · subst e107
      have h := ite_t rfl h
      refine lv_iload hx hb d_2_13_29 (lv_at hl 0 rfl) ?_
      obtain rfl := in1 h
      exact W.iret hx hb hr (fun t ht hW => qkA hP hD hS (fun k => k) rfl rfl ht) hS.2.2 d_2_13_31
    · subst e107
      have h := ite_f (by decide) h
      have h := ite_t rfl h
      refine lv_iconst (v := oI 0) hx hb d_2_13_38 (by decide +kernel) ?_
      obtain rfl := in1 h
      exact W.iret hx hb hr (fun t ht hW => qkA hP hD hS (fun k => k) rfl rfl ht) hS.2.2 d_2_13_39
  exact key _ _ _ hts hP hS
set_option maxRecDepth 100000 in
set_option maxHeartbeats 4000000 in
theorem s_Na_limbAt (l : Launch) (z : Zz) (ad : Nat → Nat) (E : Ev) (M : Mm) (p0 : Nat) (x1 : Int) (r : Int)  (hL : Lay E) (h : f_Na_limbAt E M p0 x1 = some r) : CT l z ⟨"Ballothall$Natural", "limbAt", "(I)I"⟩ prog_10_method_7_code 2 (some .int) [.ref (ad p0), .int (oI x1)] (wv z ad E M) 0 20 0 0 (fun _ => some (.int (oI r))) (fun _ => (wv z ad E M)) := by
  refine CT.of (own := "Ballothall$Natural") (by decide +kernel) (Nat.le_of_ble_eq_true rfl) rfl (fun p e s m below meth c A ls hx hb hml hr hts hown hlocks hin hA hG hZ hP hD hS hl => ?_)
  have hl : lv_has ls 2 [(0, .ref (ad p0)), (1, .int (oI x1))] := hl
  have key : ∀ (H : Heap) (locs : List Loc) (args : Array Value), (∀ w ∈ WG, w.before args s = true) → va_P z.1 classes (wv z ad E M) H → va_S A s.heap H locs → W p l e (rmK 0 20 0 0) s m args below meth c H locs 0 0 (MQ below (QK z A (fun _ => some (.int (oI r))) (fun _ => (wv z ad E M))) args s 0 0 A) (F0 m 0 ls []) := by
    intro H locs args hts hP hS
    unfold f_Na_limbAt at h
    obtain ⟨h_p0, h⟩ := ck_e h
    refine lv_iload_n hx hb d_10_7_0 rfl (lv_at hl 1 rfl) ?_
    refine lv_aload_n hx hb d_10_7_1 rfl (lv_at hl 0 rfl) ?_
    refine m_gi (C := "Ballothall$Natural") (T := TX8) (N := 2) (ci := 8) (k := 1) hx hb hts iX8 hown hG hP (isNa_i h_p0) (isNa_T h_p0) rfl (by decide) w_295 (fun _ h9 => h9) rfl rfl d_10_7_2 ?_
    obtain ⟨ok100, h⟩ := ck_e h
    obtain ⟨ok101, h⟩ := ck_e h
    refine lv_icmp_ge (tgt := 17) hx hb d_10_7_5 (by decide) (fun c9 => ?_) (fun c9 => ?_)
    · have h := ite_t ((oI_le (a := (M p0 1)) (b := x1) ok101 ok100).mp c9) h
      refine lv_iconst (v := oI 0) hx hb d_10_7_17 (by decide +kernel) ?_
      obtain rfl := in1 h
      exact W.iret hx hb hr (fun t ht hW => qkA hP hD hS (fun k => k) rfl rfl ht) hS.2.2 d_10_7_18
    · have h := ite_f (fun q => c9 ((oI_le (a := (M p0 1)) (b := x1) ok101 ok100).mpr q)) h
      refine lv_aload_n hx hb d_10_7_8 rfl (lv_at hl 0 rfl) ?_
      refine m_gr (j := (p0 + 1)) (C := "Ballothall$Natural") (T := TX8) (N := 2) (ci := 8) (k := 0) hx hb hts iX8 hown hG hP (isNa_i h_p0) (isNa_T h_p0) rfl (by decide) w_294 (fun _ h9 => h9) rfl rfl (isNa_r0 h_p0) d_10_7_9 ?_
      refine lv_iload_n hx hb d_10_7_12 rfl (lv_at hl 1 rfl) ?_
      obtain ⟨ok102, h⟩ := ck_e h
      refine m_ia hx hb hG hP (isNa_i1 h_p0) (isNa_t1 h_p0) ok102 d_10_7_13 ?_
      refine lv_goto (tgt := 18) hx hb d_10_7_14 (by decide) ?_
      obtain rfl := in1 h
      exact W.iret hx hb hr (fun t ht hW => qkA hP hD hS (fun k => k) rfl rfl ht) hS.2.2 d_10_7_18
  exact key _ _ _ hts hP hS
set_option maxRecDepth 100000 in
set_option maxHeartbeats 4000000 in
theorem b_Na_trimTo_10b (l : Launch) (z : Zz) (ad : Nat → Nat) (E : Ev) (M : Mm) (q0 : Nat) (t : Nat) (N : Mm) {Q : State → Prop} {p : Program} {e : Env} {s : State} {m : MethodId} {below : List Frame} {meth : Method} {c : Code} {A : Nat → Prop} {args : Array Value} (hx : p.tables.exec = Jvm.exec) (hb : c.code = prog_10_method_6_code) (hml : c.maxLocals = 2) (hts : ∀ w ∈ WG, w.before args s = true) (hown : s.vm.findClass "Ballothall$Natural" = some m.cls) (hlocks : meth.locks = false) (hA : ∀ q, s.heap.size ≤ q → A q) (hG : KG z s) (hZ : FZ z A s) (hL : Lay E) (h : Na_trimTo_10b E M q0 = some (t, N)) (k0 : t = 0 → ∀ (H : Heap) (locs : List Loc) (ls : Array Slot), va_P z.1 classes (wv z ad E N) H → va_D A (wv z ad E N) → va_S A s.heap H locs → lv_has ls 2 [(0, .ref (ad q0))] → W p l e (rmK 1 40 0 0) s m args below meth c H locs 0 0 Q (F0 m 10 ls [])) (k1 : t = 1 → ∀ (H : Heap) (locs : List Loc) (ls : Array Slot), va_P z.1 classes (wv z ad E N) H → va_D A (wv z ad E N) → va_S A s.heap H locs → lv_has ls 2 [] → W p l e (rmK 1 40 0 0) s m args below meth c H locs 0 0 Q (F0 m 44 ls [])) : ∀ (H : Heap) (locs : List Loc) (ls : Array Slot), va_P z.1 classes (wv z ad E M) H → va_D A (wv z ad E M) → va_S A s.heap H locs → lv_has ls 2 [(0, .ref (ad q0))] → W p l e (rmK 1 40 0 0) s m args below meth c H locs 0 0 Q (F0 m 10 ls []) := by
  intro H locs ls hP hD hS hl
  unfold Na_trimTo_10b at h
  obtain ⟨h_q0, h⟩ := ck_e h
  refine lv_aload_n hx hb d_10_6_10 rfl (lv_at hl 0 rfl) ?_
  refine m_gi (C := "Ballothall$Natural") (T := TX8) (N := 2) (ci := 8) (k := 1) hx hb hts iX8 hown hG hP (isNa_i h_q0) (isNa_T h_q0) rfl (by decide) w_295 (fun _ h9 => h9) rfl rfl d_10_6_11 ?_
  obtain ⟨ok101, h⟩ := ck_e h
  refine lv_if_le (tgt := 44) hx hb d_10_6_14 (by decide) (fun c9 => ?_) (fun c9 => ?_)
  · have h := ite_t ((oI_le0 ok101).mp c9) h
    obtain ⟨rfl, rfl⟩ := in2 h
    exact k1 rfl H locs ls hP hD hS (lv_sub hl [] rfl)
  · have h := ite_f (fun q => c9 ((oI_le0 ok101).mpr q)) h
    refine lv_aload_n hx hb d_10_6_17 rfl (lv_at hl 0 rfl) ?_
    refine m_gr (j := (q0 + 1)) (C := "Ballothall$Natural") (T := TX8) (N := 2) (ci := 8) (k := 0) hx hb hts iX8 hown hG hP (isNa_i h_q0) (isNa_T h_q0) rfl (by decide) w_294 (fun _ h9 => h9) rfl rfl (isNa_r0 h_q0) d_10_6_18 ?_
    refine lv_aload_n hx hb d_10_6_21 rfl (lv_at hl 0 rfl) ?_
    refine m_gi (C := "Ballothall$Natural") (T := TX8) (N := 2) (ci := 8) (k := 1) hx hb hts iX8 hown hG hP (isNa_i h_q0) (isNa_T h_q0) rfl (by decide) w_295 (fun _ h9 => h9) rfl rfl d_10_6_22 ?_
    refine lv_iconst (v := oI 1) hx hb d_10_6_25 (by decide +kernel) ?_
    refine lv_isub hx hb d_10_6_26 ?_
    refine nrm (oI_sub _ _) ?_
    obtain ⟨ok102, h⟩ := ck_e h
    refine m_ia hx hb hG hP (isNa_i1 h_q0) (isNa_t1 h_q0) ok102 d_10_6_27 ?_
    obtain ⟨ok103, h⟩ := ck_e h
    refine lv_if_ne (tgt := 44) hx hb d_10_6_28 (by decide) (fun c9 => ?_) (fun c9 => ?_)
    · have h := ite_f (fun q => c9 ((oI_eq0 ok103).mpr q)) h
      obtain ⟨rfl, rfl⟩ := in2 h
      exact k1 rfl H locs ls hP hD hS (lv_sub hl [] rfl)
    · have h := ite_t ((oI_eq0 ok103).mp c9) h
      refine lv_aload_n hx hb d_10_6_31 rfl (lv_at hl 0 rfl) ?_
      refine lv_dup hx hb d_10_6_32 rfl ?_
      refine m_gi (C := "Ballothall$Natural") (T := TX8) (N := 2) (ci := 8) (k := 1) hx hb hts iX8 hown hG hP (isNa_i h_q0) (isNa_T h_q0) rfl (by decide) w_295 (fun _ h9 => h9) rfl rfl d_10_6_33 ?_
      refine lv_iconst (v := oI 1) hx hb d_10_6_36 (by decide +kernel) ?_
      refine lv_isub hx hb d_10_6_37 ?_
      refine nrm (oI_sub _ _) ?_
      refine m_pi (C := "Ballothall$Natural") (T := TX8) (N := 2) (ci := 8) (k := 1) (ty := .int) hx hb hts iX8 hown hG hP hD hS (isNa_i h_q0) (isNa_T h_q0) rfl (by decide) w_295 (fun _ h9 => h9) rfl rfl tyX8_ok nmX8 rfl (by decide +kernel) rfl rfl d_10_6_38 (fun H locs hP hD hS => ?_)
      have hP : va_P z.1 classes (wv z ad E (u2 M q0 1 ((M q0 1) - 1))) H := hP
      have hD : va_D A (wv z ad E (u2 M q0 1 ((M q0 1) - 1))) := hD
      refine lv_goto (tgt := 10) hx hb d_10_6_41 (by decide) ?_
      obtain ⟨rfl, rfl⟩ := in2 h
      exact k0 rfl H locs ls hP hD hS (lv_sub hl [0] rfl)
set_option maxRecDepth 100000 in
set_option maxHeartbeats 4000000 in
theorem s_Na_trimTo_10 (l : Launch) (z : Zz) (ad : Nat → Nat) (E : Ev) (q0 : Nat) {Q : State → Prop} {p : Program} {e : Env} {s : State} {m : MethodId} {below : List Frame} {meth : Method} {c : Code} {A : Nat → Prop} {args : Array Value} (hx : p.tables.exec = Jvm.exec) (hb : c.code = prog_10_method_6_code) (hml : c.maxLocals = 2) (hts : ∀ w ∈ WG, w.before args s = true) (hown : s.vm.findClass "Ballothall$Natural" = some m.cls) (hlocks : meth.locks = false) (hA : ∀ q, s.heap.size ≤ q → A q) (hG : KG z s) (hZ : FZ z A s) (hL : Lay E) : ∀ (fu : Nat) (M : Mm) (t : Nat) (N : Mm), l_Na_trimTo_10 E q0 fu M = some (t, N) → (t = 1 → ∀ (H : Heap) (locs : List Loc) (ls : Array Slot), va_P z.1 classes (wv z ad E N) H → va_D A (wv z ad E N) → va_S A s.heap H locs → lv_has ls 2 [] → W p l e (rmK 1 40 0 0) s m args below meth c H locs 0 0 Q (F0 m 44 ls [])) → ∀ (H : Heap) (locs : List Loc) (ls : Array Slot), va_P z.1 classes (wv z ad E M) H → va_D A (wv z ad E M) → va_S A s.heap H locs → lv_has ls 2 [(0, .ref (ad q0))] → W p l e (rmK 1 40 0 0) s m args below meth c H locs 0 0 Q (F0 m 10 ls []) := by
  intro fu
  induction fu with
  | zero =>
    intro M t N h
    have h : (none : Option (Nat × Mm)) = some _ := h
    cases h
  | succ fu ih =>
    intro M t N h k1 H locs ls hP hD hS hl
    obtain ⟨⟨t0, N9⟩, g0, h⟩ := bd_e h
    refine b_Na_trimTo_10b l z ad E M q0 t0 N9 hx hb hml hts hown hlocks hA hG hZ hL g0 (fun e0 => ?_) (fun e0 => ?_) H locs ls hP hD hS hl
    · subst e0
      have h := ite_t rfl h
      exact ih N9 t N h k1
    · subst e0
      have h := ite_f (by decide) h
      obtain ⟨rfl, rfl⟩ := in2 h
      exact k1 rfl
set_option maxRecDepth 100000 in
set_option maxHeartbeats 4000000 in
theorem s_Na_trimTo (l : Launch) (z : Zz) (ad : Nat → Nat) (E : Ev) (M : Mm) (p0 : Nat) (x1 : Int) (N : Mm) (hL : Lay E) (h : f_Na_trimTo E M p0 x1 = some N) : CT l z ⟨"Ballothall$Natural", "trimTo", "(I)V"⟩ prog_10_method_6_code 2 none [.ref (ad p0), .int (oI x1)] (wv z ad E M) 1 40 0 0 (fun _ => none) (fun _ => (wv z ad E N)) := by
  refine CT.of (own := "Ballothall$Natural") (by decide +kernel) (Nat.le_of_ble_eq_true rfl) rfl (fun p e s m below meth c A ls hx hb hml hr hts hown hlocks hin hA hG hZ hP hD hS hl => ?_)
  have hl : lv_has ls 2 [(0, .ref (ad p0)), (1, .int (oI x1))] := hl
  have key : ∀ (H : Heap) (locs : List Loc) (args : Array Value), (∀ w ∈ WG, w.before args s = true) → va_P z.1 classes (wv z ad E M) H → va_S A s.heap H locs → W p l e (rmK 1 40 0 0) s m args below meth c H locs 0 0 (MQ below (QK z A (fun _ => none) (fun _ => (wv z ad E N))) args s 0 0 A) (F0 m 0 ls []) := by
    intro H locs args hts hP hS
    unfold f_Na_trimTo at h
    obtain ⟨h_p0, h⟩ := ck_e h
    refine lv_aload_n hx hb d_10_6_0 rfl (lv_at hl 0 rfl) ?_
    refine lv_iload_n hx hb d_10_6_1 rfl (lv_at hl 1 rfl) ?_
    refine lv_bipush (v := oI 13) hx hb d_10_6_2 (by decide +kernel) ?_
    obtain ⟨ok100, h⟩ := ck_e h
    refine va_mmin hx hb (by rw [hml]; exact hl.1.symm) hown (hts _ w_626) (hts _ w_521) (hts _ w_17) (hts _ w_min) (Nat.le_of_ble_eq_true rfl) (Nat.le_of_ble_eq_true rfl) (Nat.le_of_ble_eq_true rfl) (Nat.le_of_ble_eq_true rfl) d_10_6_4 ?_
    refine nrm (mn_oI (a := x1) (b := (13 : Int)) ok100 (by decide)) ?_
    refine m_pi (C := "Ballothall$Natural") (T := TX8) (N := 2) (ci := 8) (k := 1) (ty := .int) hx hb hts iX8 hown hG hP hD hS (isNa_i h_p0) (isNa_T h_p0) rfl (by decide) w_295 (fun _ h9 => h9) rfl rfl tyX8_ok nmX8 rfl (by decide +kernel) rfl rfl d_10_6_7 (fun H locs hP hD hS => ?_)
    have hP : va_P z.1 classes (wv z ad E (u2 M p0 1 (min x1 13))) H := hP
    have hD : va_D A (wv z ad E (u2 M p0 1 (min x1 13))) := hD
    obtain ⟨⟨t104, M104⟩, g104, h⟩ := bd_e h
    obtain ⟨ok104, h⟩ := ck_e h
    refine s_Na_trimTo_10 l z ad E p0 hx hb hml hts hown hlocks hA hG hZ hL FU (u2 M p0 1 (min x1 13)) t104 M104 g104 (fun e104 H locs ls hP hD hS hl => ?_) H locs ls hP hD hS (lv_sub hl [0] rfl)
    obtain rfl := in1 h
    exact W.vret hx hb hr (fun t ht hW => qkA hP hD hS (fun k => k) rfl rfl ht) hS.2.2 d_10_6_44
  exact key _ _ _ hts hP hS
set_option maxRecDepth 100000 in
set_option maxHeartbeats 4000000 in
theorem b_Na_add_24b (l : Launch) (z : Zz) (ad : Nat → Nat) (E : Ev) (M : Mm) (q0 : Nat) (q1 : Nat) (x2 : Int) (x3 : Int) (x4 : Int) (t : Nat) (w3 : Int) (w4 : Int) (N : Mm) {Q : State → Prop} {p : Program} {e : Env} {s : State} {m : MethodId} {below : List Frame} {meth : Method} {c : Code} {A : Nat → Prop} {args : Array Value} (hx : p.tables.exec = Jvm.exec) (hb : c.code = prog_10_method_10_code) (hml : c.maxLocals = 6) (hts : ∀ w ∈ WG, w.before args s = true) (hown : s.vm.findClass "Ballothall$Natural" = some m.cls) (hlocks : meth.locks = false) (hA : ∀ q, s.heap.size ≤ q → A q) (hG : KG z s) (hZ : FZ z A s) (hL : Lay E) (h : Na_add_24b E M q0 q1 x2 x3 x4 = some (t, w3, w4, N)) (k0 : t = 0 → ∀ (H : Heap) (locs : List Loc) (ls : Array Slot), va_P z.1 classes (wv z ad E N) H → va_D A (wv z ad E N) → va_S A s.heap H locs → lv_has ls 6 [(0, .ref (ad q0)), (1, .ref (ad q1)), (2, .int (oI x2)), (3, .int (oI w3)), (4, .int (oI w4))] → W p l e (rmK 2 61 0 0) s m args below meth c H locs 0 0 Q (F0 m 24 ls [])) (k1 : t = 1 → ∀ (H : Heap) (locs : List Loc) (ls : Array Slot), va_P z.1 classes (wv z ad E N) H → va_D A (wv z ad E N) → va_S A s.heap H locs → lv_has ls 6 [(0, .ref (ad q0)), (2, .int (oI x2))] → W p l e (rmK 2 61 0 0) s m args below meth c H locs 0 0 Q (F0 m 71 ls [])) : ∀ (H : Heap) (locs : List Loc) (ls : Array Slot), va_P z.1 classes (wv z ad E M) H → va_D A (wv z ad E M) → va_S A s.heap H locs → lv_has ls 6 [(0, .ref (ad q0)), (1, .ref (ad q1)), (2, .int (oI x2)), (3, .int (oI x3)), (4, .int (oI x4))] → W p l e (rmK 2 61 0 0) s m args below meth c H locs 0 0 Q (F0 m 24 ls []) := by
  intro H locs ls hP hD hS hl
  unfold Na_add_24b at h
  obtain ⟨h_q0, h⟩ := ck_e h
  obtain ⟨h_q1, h⟩ := ck_e h
  refine lv_iload hx hb d_10_10_24 (lv_at hl 4 rfl) ?_
  refine lv_iload_n hx hb d_10_10_26 rfl (lv_at hl 2 rfl) ?_
  obtain ⟨ok104, h⟩ := ck_e h
  obtain ⟨ok105, h⟩ := ck_e h
  refine lv_icmp_ge (tgt := 71) hx hb d_10_10_27 (by decide) (fun c9 => ?_) (fun c9 => ?_)
  · have h := ite_t ((oI_le (a := x2) (b := x4) ok105 ok104).mp c9) h
    obtain ⟨rfl, rfl, rfl, rfl⟩ := in4 h
    exact k1 rfl H locs ls hP hD hS (lv_sub hl [0, 2] rfl)
  · have h := ite_f (fun q => c9 ((oI_le (a := x2) (b := x4) ok105 ok104).mpr q)) h
    refine lv_aload_n hx hb d_10_10_30 rfl (lv_at hl 0 rfl) ?_
    refine lv_iload hx hb d_10_10_31 (lv_at hl 4 rfl) ?_
    obtain ⟨r106, g106, h⟩ := bd_e h
    refine kV (As := [.int (oI x4)]) (rest := []) (s_Na_limbAt l z ad E M q0 x4 r106 hL g106) hx hb hml hown hts w_637 w_634 w_636 w_s_21c489 w_9 md_149093 ⟨Nat.le_of_ble_eq_true rfl, Nat.le_of_ble_eq_true rfl⟩ hG hZ hP hD hS hA q0 (wv_o (ci := 8) (isNa_i h_q0) (isNa_T h_q0)) rfl rfl rfl hl.1 rfl (Nat.le_of_ble_eq_true rfl) d_10_10_33 ⟨Nat.le_of_ble_eq_true rfl, Nat.le_of_ble_eq_true rfl⟩ (fun _ H locs hP hD hS => ?_)
    have hP : va_P z.1 classes (wv z ad E M) H := hP
    have hD : va_D A (wv z ad E M) := hD
    refine W.eq (g2 := F0 m 36 ls [.int (oI r106)]) rfl ?_
    refine lv_aload_n hx hb d_10_10_36 rfl (lv_at hl 1 rfl) ?_
    refine lv_iload hx hb d_10_10_37 (lv_at hl 4 rfl) ?_
    obtain ⟨r107, g107, h⟩ := bd_e h
    refine kV (As := [.int (oI x4)]) (rest := [.int (oI r106)]) (s_Na_limbAt l z ad E M q1 x4 r107 hL g107) hx hb hml hown hts w_637 w_634 w_636 w_s_21c489 w_9 md_149093 ⟨Nat.le_of_ble_eq_true rfl, Nat.le_of_ble_eq_true rfl⟩ hG hZ hP hD hS hA q1 (wv_o (ci := 8) (isNa_i h_q1) (isNa_T h_q1)) rfl rfl rfl hl.1 rfl (Nat.le_of_ble_eq_true rfl) d_10_10_39 ⟨Nat.le_of_ble_eq_true rfl, Nat.le_of_ble_eq_true rfl⟩ (fun _ H locs hP hD hS => ?_)
    have hP : va_P z.1 classes (wv z ad E M) H := hP
    have hD : va_D A (wv z ad E M) := hD
    refine W.eq (g2 := F0 m 42 ls [.int (oI r107), .int (oI r106)]) rfl ?_
    refine lv_iadd hx hb d_10_10_42 ?_
    refine nrm (oI_add _ _) ?_
    refine lv_iload_n hx hb d_10_10_43 rfl (lv_at hl 3 rfl) ?_
    refine lv_iadd hx hb d_10_10_44 ?_
    refine nrm (oI_add _ _) ?_
    refine lv_istore (lv' := [(5, .int (oI ((r106 + r107) + x3))), (0, .ref (ad q0)), (1, .ref (ad q1)), (2, .int (oI x2)), (3, .int (oI x3)), (4, .int (oI x4))]) hx hb d_10_10_45 hl (by decide) rfl (fun ls hl => ?_)
    refine lv_aload_n hx hb d_10_10_47 rfl (lv_at hl 1 rfl) ?_
    refine m_gr (j := (q0 + 1)) (C := "Ballothall$Natural") (T := TX8) (N := 2) (ci := 8) (k := 0) hx hb hts iX8 hown hG hP (isNa_i h_q0) (isNa_T h_q0) rfl (by decide) w_294 (fun _ h9 => h9) rfl rfl (isNa_r0 h_q0) d_10_10_48 ?_
    refine lv_iload hx hb d_10_10_51 (lv_at hl 5 rfl) ?_
    refine lv_iload hx hb d_10_10_53 (lv_at hl 0 rfl) ?_
    refine lv_ldc hx hb hown (hts _ w_638) d_10_10_55 ?_
    refine nrm (x1 := oI 1073741823) (by decide +kernel) ?_
    refine lv_iand hx hb d_10_10_57 ?_
    refine nrm (oI_m30 _) ?_
    obtain ⟨v108, e108, h⟩ := nb_e h
    refine nrm (congrArg oI e108.symm) ?_
    obtain ⟨ok109, h⟩ := ck_e h
    refine m_is hx hb hG hP hD hS (isNa_i1 h_q0) (isNa_t1 h_q0) ok109 d_10_10_58 (fun H locs hP hD hS => ?_)
    have hP : va_P z.1 classes (wv z ad E (u2 M (q0 + 1) x4.toNat v108)) H := hP
    have hD : va_D A (wv z ad E (u2 M (q0 + 1) x4.toNat v108)) := hD
    refine lv_iload hx hb d_10_10_59 (lv_at hl 0 rfl) ?_
    refine lv_bipush (v := oI 30) hx hb d_10_10_61 (by decide +kernel) ?_
    obtain ⟨ok110, h⟩ := ck_e h
    refine lv_ishr hx hb d_10_10_63 ?_
    refine nrm (x1 := oI (((r106 + r107) + x3) / 1073741824)) (oI_shr (b := 30) ok110 (by decide) (by decide)) ?_
    obtain ⟨v111, e111, h⟩ := nb_e h
    refine nrm (congrArg oI e111.symm) ?_
    refine lv_istore_n (lv' := [(3, .int (oI v111)), (5, .int (oI ((r106 + r107) + x3))), (0, .ref (ad q0)), (1, .ref (ad q1)), (2, .int (oI x2)), (4, .int (oI x4))]) hx hb d_10_10_64 rfl hl (by decide) rfl (fun ls hl => ?_)
    refine lv_iinc (v := oI (x4 + 1)) (lv' := [(4, .int (oI (x4 + 1))), (3, .int (oI v111)), (5, .int (oI ((r106 + r107) + x3))), (0, .ref (ad q0)), (1, .ref (ad q1)), (2, .int (oI x2))]) hx hb d_10_10_65 hl (k := 5) rfl (oI_add x4 1) (by decide) rfl (fun ls hl => ?_)
    refine lv_goto (tgt := 24) hx hb d_10_10_68 (by decide) ?_
    obtain ⟨rfl, rfl, rfl, rfl⟩ := in4 h
    exact k0 rfl H locs ls hP hD hS (lv_sub hl [3, 4, 5, 1, 0] rfl)
set_option maxRecDepth 100000 in
set_option maxHeartbeats 4000000 in
theorem s_Na_add_24 (l : Launch) (z : Zz) (ad : Nat → Nat) (E : Ev) (q0 : Nat) (q1 : Nat) (x2 : Int) {Q : State → Prop} {p : Program} {e : Env} {s : State} {m : MethodId} {below : List Frame} {meth : Method} {c : Code} {A : Nat → Prop} {args : Array Value} (hx : p.tables.exec = Jvm.exec) (hb : c.code = prog_10_method_10_code) (hml : c.maxLocals = 6) (hts : ∀ w ∈ WG, w.before args s = true) (hown : s.vm.findClass "Ballothall$Natural" = some m.cls) (hlocks : meth.locks = false) (hA : ∀ q, s.heap.size ≤ q → A q) (hG : KG z s) (hZ : FZ z A s) (hL : Lay E) : ∀ (fu : Nat) (M : Mm) (x3 : Int) (x4 : Int) (t : Nat) (w3 : Int) (w4 : Int) (N : Mm), l_Na_add_24 E q0 q1 x2 fu M x3 x4 = some (t, w3, w4, N) → (t = 1 → ∀ (H : Heap) (locs : List Loc) (ls : Array Slot), va_P z.1 classes (wv z ad E N) H → va_D A (wv z ad E N) → va_S A s.heap H locs → lv_has ls 6 [(0, .ref (ad q0)), (2, .int (oI x2))] → W p l e (rmK 2 61 0 0) s m args below meth c H locs 0 0 Q (F0 m 71 ls [])) → ∀ (H : Heap) (locs : List Loc) (ls : Array Slot), va_P z.1 classes (wv z ad E M) H → va_D A (wv z ad E M) → va_S A s.heap H locs → lv_has ls 6 [(0, .ref (ad q0)), (1, .ref (ad q1)), (2, .int (oI x2)), (3, .int (oI x3)), (4, .int (oI x4))] → W p l e (rmK 2 61 0 0) s m args below meth c H locs 0 0 Q (F0 m 24 ls []) := by
  intro fu
  induction fu with
  | zero =>
    intro M x3 x4 t w3 w4 N h
    have h : (none : Option (Nat × Int × Int × Mm)) = some _ := h
    cases h
  | succ fu ih =>
    intro M x3 x4 t w3 w4 N h k1 H locs ls hP hD hS hl
    obtain ⟨⟨t0, w30, w40, N9⟩, g0, h⟩ := bd_e h
    refine b_Na_add_24b l z ad E M q0 q1 x2 x3 x4 t0 w30 w40 N9 hx hb hml hts hown hlocks hA hG hZ hL g0 (fun e0 => ?_) (fun e0 => ?_) H locs ls hP hD hS hl
    · subst e0
      have h := ite_t rfl h
      exact ih N9 w30 w40 t w3 w4 N h k1
    · subst e0
      have h := ite_f (by decide) h
      obtain ⟨rfl, rfl, rfl, rfl⟩ := in4 h
      exact k1 rfl
set_option maxRecDepth 100000 in
set_option maxHeartbeats 4000000 in
theorem s_Na_add (l : Launch) (z : Zz) (ad : Nat → Nat) (E : Ev) (M : Mm) (p0 : Nat) (p1 : Nat) (N : Mm) (hL : Lay E) (h : f_Na_add E M p0 p1 = some N) : CT l z ⟨"Ballothall$Natural", "add", "(LBallothall$Natural;)V"⟩ prog_10_method_10_code 6 none [.ref (ad p0), .ref (ad p1)] (wv z ad E M) 2 61 0 0 (fun _ => none) (fun _ => (wv z ad E N)) := by
  refine CT.of (own := "Ballothall$Natural") (by decide +kernel) (Nat.le_of_ble_eq_true rfl) rfl (fun p e s m below meth c A ls hx hb hml hr hts hown hlocks hin hA hG hZ hP hD hS hl => ?_)
  have hl : lv_has ls 6 [(0, .ref (ad p0)), (1, .ref (ad p1))] := hl
  have key : ∀ (H : Heap) (locs : List Loc) (args : Array Value), (∀ w ∈ WG, w.before args s = true) → va_P z.1 classes (wv z ad E M) H → va_S A s.heap H locs → W p l e (rmK 2 61 0 0) s m args below meth c H locs 0 0 (MQ below (QK z A (fun _ => none) (fun _ => (wv z ad E N))) args s 0 0 A) (F0 m 0 ls []) := by
    intro H locs args hts hP hS
    unfold f_Na_add at h
    obtain ⟨h_p0, h⟩ := ck_e h
    obtain ⟨h_p1, h⟩ := ck_e h
    refine lv_aload_n hx hb d_10_10_0 rfl (lv_at hl 0 rfl) ?_
    refine m_gi (C := "Ballothall$Natural") (T := TX8) (N := 2) (ci := 8) (k := 1) hx hb hts iX8 hown hG hP (isNa_i h_p0) (isNa_T h_p0) rfl (by decide) w_295 (fun _ h9 => h9) rfl rfl d_10_10_1 ?_
    refine lv_aload_n hx hb d_10_10_4 rfl (lv_at hl 1 rfl) ?_
    refine m_gi (C := "Ballothall$Natural") (T := TX8) (N := 2) (ci := 8) (k := 1) hx hb hts iX8 hown hG hP (isNa_i h_p1) (isNa_T h_p1) rfl (by decide) w_295 (fun _ h9 => h9) rfl rfl d_10_10_5 ?_
    obtain ⟨ok100, h⟩ := ck_e h
    obtain ⟨ok101, h⟩ := ck_e h
    refine va_mmax hx hb (by rw [hml]; exact hl.1.symm) hown (hts _ w_631) (hts _ w_632) (hts _ w_17) (hts _ w_max) (Nat.le_of_ble_eq_true rfl) (Nat.le_of_ble_eq_true rfl) (Nat.le_of_ble_eq_true rfl) (Nat.le_of_ble_eq_true rfl) d_10_10_8 ?_
    refine nrm (mx_oI (a := (M p0 1)) (b := (M p1 1)) ok100 ok101) ?_
    refine lv_iconst (v := oI 1) hx hb d_10_10_11 (by decide +kernel) ?_
    refine lv_iadd hx hb d_10_10_12 ?_
    refine nrm (oI_add _ _) ?_
    refine lv_bipush (v := oI 13) hx hb d_10_10_13 (by decide +kernel) ?_
    obtain ⟨ok102, h⟩ := ck_e h
    refine va_mmin hx hb (by rw [hml]; exact hl.1.symm) hown (hts _ w_626) (hts _ w_521) (hts _ w_17) (hts _ w_min) (Nat.le_of_ble_eq_true rfl) (Nat.le_of_ble_eq_true rfl) (Nat.le_of_ble_eq_true rfl) (Nat.le_of_ble_eq_true rfl) d_10_10_15 ?_
    refine nrm (mn_oI (a := ((max (M p0 1) (M p1 1)) + 1)) (b := (13 : Int)) ok102 (by decide)) ?_
    obtain ⟨v103, e103, h⟩ := nb_e h
    refine nrm (congrArg oI e103.symm) ?_
    refine lv_istore_n (lv' := [(2, .int (oI v103)), (0, .ref (ad p0)), (1, .ref (ad p1))]) hx hb d_10_10_18 rfl hl (by decide) rfl (fun ls hl => ?_)
    refine lv_iconst (v := oI 0) hx hb d_10_10_19 (by decide +kernel) ?_
    refine lv_istore_n (lv' := [(3, .int (oI 0)), (2, .int (oI v103)), (0, .ref (ad p0)), (1, .ref (ad p1))]) hx hb d_10_10_20 rfl hl (by decide) rfl (fun ls hl => ?_)
    refine lv_iconst (v := oI 0) hx hb d_10_10_21 (by decide +kernel) ?_
    refine lv_istore (lv' := [(4, .int (oI 0)), (3, .int (oI 0)), (2, .int (oI v103)), (0, .ref (ad p0)), (1, .ref (ad p1))]) hx hb d_10_10_22 hl (by decide) rfl (fun ls hl => ?_)
    obtain ⟨⟨t112, v112_3, v112_4, M112⟩, g112, h⟩ := bd_e h
    obtain ⟨ok112, h⟩ := ck_e h
    refine s_Na_add_24 l z ad E p0 p1 v103 hx hb hml hts hown hlocks hA hG hZ hL FU M 0 0 t112 v112_3 v112_4 M112 g112 (fun e112 H locs ls hP hD hS hl => ?_) H locs ls hP hD hS (lv_sub hl [3, 4, 2, 1, 0] rfl)
    refine lv_aload_n hx hb d_10_10_71 rfl (lv_at hl 0 rfl) ?_
    refine lv_iload_n hx hb d_10_10_72 rfl (lv_at hl 1 rfl) ?_
    obtain ⟨M113, g113, h⟩ := bd_e h
    refine kV (As := [.int (oI v103)]) (rest := []) (s_Na_trimTo l z ad E M112 p0 v103 M113 hL g113) hx hb hml hown hts w_625 w_622 w_624 w_s_8e7085 w_9 md_0a866a ⟨Nat.le_of_ble_eq_true rfl, Nat.le_of_ble_eq_true rfl⟩ hG hZ hP hD hS hA p0 (wv_o (ci := 8) (isNa_i h_p0) (isNa_T h_p0)) rfl rfl rfl hl.1 rfl (Nat.le_of_ble_eq_true rfl) d_10_10_73 ⟨Nat.le_of_ble_eq_true rfl, Nat.le_of_ble_eq_true rfl⟩ (fun _ H locs hP hD hS => ?_)
    have hP : va_P z.1 classes (wv z ad E M113) H := hP
    have hD : va_D A (wv z ad E M113) := hD
    refine W.eq (g2 := F0 m 76 ls []) rfl ?_
    obtain rfl := in1 h
    exact W.vret hx hb hr (fun t ht hW => qkA hP hD hS (fun k => k) rfl rfl ht) hS.2.2 d_10_10_76
  exact key _ _ _ hts hP hS
set_option maxRecDepth 100000 in
set_option maxHeartbeats 4000000 in
theorem s_In_bitCount (l : Launch) (z : Zz) (ad : Nat → Nat) (E : Ev) (M : Mm) (x0 : Int) (r : Int)  (hL : Lay E) (h : f_In_bitCount E M x0 = some r) : CT l z ⟨"java/lang/Integer", "bitCount", "(I)I"⟩ prog_32_method_49_code 1 (some .int) [.int (oI x0)] (wv z ad E M) 0 20 0 0 (fun _ => some (.int (oI r))) (fun _ => (wv z ad E M)) := by
  refine CT.of (own := "java/lang/Integer") (by decide +kernel) (Nat.le_of_ble_eq_true rfl) rfl (fun p e s m below meth c A ls hx hb hml hr hts hown hlocks hin hA hG hZ hP hD hS hl => ?_)
  have hl : lv_has ls 1 [(0, .int (oI x0))] := hl
  have key : ∀ (H : Heap) (locs : List Loc) (args : Array Value), (∀ w ∈ WG, w.before args s = true) → va_P z.1 classes (wv z ad E M) H → va_S A s.heap H locs → W p l e (rmK 0 20 0 0) s m args below meth c H locs 0 0 (MQ below (QK z A (fun _ => some (.int (oI r))) (fun _ => (wv z ad E M))) args s 0 0 A) (F0 m 0 ls []) := by
    intro H locs args hts hP hS
    unfold f_In_bitCount at h
    refine lv_iload_n hx hb d_32_49_0 rfl (lv_at hl 0 rfl) ?_
    refine lv_iload_n hx hb d_32_49_1 rfl (lv_at hl 0 rfl) ?_
    refine lv_iconst (v := oI 1) hx hb d_32_49_2 (by decide +kernel) ?_
    refine lv_iushr (v := oI (ushI x0 1)) hx hb d_32_49_3 (oI_ushr _ 1 _ (by decide +kernel)) ?_
    refine lv_ldcw hx hb hown (hts _ w_658) d_32_49_4 ?_
    refine nrm (x1 := oI 1431655765) (by decide +kernel) ?_
    refine lv_iand hx hb d_32_49_7 ?_
    refine nrm (oI_and (a := (ushI x0 1)) (b := (1431655765 : Int)) (ushI_nn (by decide)).1 (ushI_nn (by decide)).2 (show nnI 1431655765 by decide).1 (show nnI 1431655765 by decide).2) ?_
    refine lv_isub hx hb d_32_49_8 ?_
    refine nrm (oI_sub _ _) ?_
    obtain ⟨v100, e100, h⟩ := nb_e h
    refine nrm (congrArg oI e100.symm) ?_
    refine lv_istore_n (lv' := [(0, .int (oI v100))]) hx hb d_32_49_9 rfl hl (by decide) rfl (fun ls hl => ?_)
    refine lv_iload_n hx hb d_32_49_10 rfl (lv_at hl 0 rfl) ?_
    refine lv_ldcw hx hb hown (hts _ w_659) d_32_49_11 ?_
    refine nrm (x1 := oI 858993459) (by decide +kernel) ?_
    obtain ⟨ok101, h⟩ := ck_e h
    refine lv_iand hx hb d_32_49_14 ?_
    refine nrm (oI_and (a := v100) (b := (858993459 : Int)) ok101.1 ok101.2 (show nnI 858993459 by decide).1 (show nnI 858993459 by decide).2) ?_
    refine lv_iload_n hx hb d_32_49_15 rfl (lv_at hl 0 rfl) ?_
    refine lv_iconst (v := oI 2) hx hb d_32_49_16 (by decide +kernel) ?_
    refine lv_iushr (v := oI (ushI v100 2)) hx hb d_32_49_17 (oI_ushr _ 2 _ (by decide +kernel)) ?_
    refine lv_ldcw hx hb hown (hts _ w_659) d_32_49_18 ?_
    refine nrm (x1 := oI 858993459) (by decide +kernel) ?_
    refine lv_iand hx hb d_32_49_21 ?_
    refine nrm (oI_and (a := (ushI v100 2)) (b := (858993459 : Int)) (ushI_nn (by decide)).1 (ushI_nn (by decide)).2 (show nnI 858993459 by decide).1 (show nnI 858993459 by decide).2) ?_
    refine lv_iadd hx hb d_32_49_22 ?_
    refine nrm (oI_add _ _) ?_
    obtain ⟨v102, e102, h⟩ := nb_e h
    refine nrm (congrArg oI e102.symm) ?_
    refine lv_istore_n (lv' := [(0, .int (oI v102))]) hx hb d_32_49_23 rfl hl (by decide) rfl (fun ls hl => ?_)
    refine lv_iload_n hx hb d_32_49_24 rfl (lv_at hl 0 rfl) ?_
    refine lv_iload_n hx hb d_32_49_25 rfl (lv_at hl 0 rfl) ?_
    refine lv_iconst (v := oI 4) hx hb d_32_49_26 (by decide +kernel) ?_
    refine lv_iushr (v := oI (ushI v102 4)) hx hb d_32_49_27 (oI_ushr _ 4 _ (by decide +kernel)) ?_
    refine lv_iadd hx hb d_32_49_28 ?_
    refine nrm (oI_add _ _) ?_
    refine lv_ldcw hx hb hown (hts _ w_660) d_32_49_29 ?_
    refine nrm (x1 := oI 252645135) (by decide +kernel) ?_
    obtain ⟨ok103, h⟩ := ck_e h
    refine lv_iand hx hb d_32_49_32 ?_
    refine nrm (oI_and (a := (v102 + (ushI v102 4))) (b := (252645135 : Int)) ok103.1 ok103.2 (show nnI 252645135 by decide).1 (show nnI 252645135 by decide).2) ?_
    obtain ⟨v104, e104, h⟩ := nb_e h
    refine nrm (congrArg oI e104.symm) ?_
    refine lv_istore_n (lv' := [(0, .int (oI v104))]) hx hb d_32_49_33 rfl hl (by decide) rfl (fun ls hl => ?_)
    refine lv_iload_n hx hb d_32_49_34 rfl (lv_at hl 0 rfl) ?_
    refine lv_iload_n hx hb d_32_49_35 rfl (lv_at hl 0 rfl) ?_
    refine lv_bipush (v := oI 8) hx hb d_32_49_36 (by decide +kernel) ?_
    refine lv_iushr (v := oI (ushI v104 8)) hx hb d_32_49_38 (oI_ushr _ 8 _ (by decide +kernel)) ?_
    refine lv_iadd hx hb d_32_49_39 ?_
    refine nrm (oI_add _ _) ?_
    refine lv_istore_n (lv' := [(0, .int (oI (v104 + (ushI v104 8))))]) hx hb d_32_49_40 rfl hl (by decide) rfl (fun ls hl => ?_)
    refine lv_iload_n hx hb d_32_49_41 rfl (lv_at hl 0 rfl) ?_
    refine lv_iload_n hx hb d_32_49_42 rfl (lv_at hl 0 rfl) ?_
    refine lv_bipush (v := oI 16) hx hb d_32_49_43 (by decide +kernel) ?_
    refine lv_iushr (v := oI (ushI (v104 + (ushI v104 8)) 16)) hx hb d_32_49_45 (oI_ushr _ 16 _ (by decide +kernel)) ?_
    refine lv_iadd hx hb d_32_49_46 ?_
    refine nrm (oI_add _ _) ?_
    obtain ⟨v105, e105, h⟩ := nb_e h
    refine nrm (congrArg oI e105.symm) ?_
    refine lv_istore_n (lv' := [(0, .int (oI v105))]) hx hb d_32_49_47 rfl hl (by decide) rfl (fun ls hl => ?_)
    refine lv_iload_n hx hb d_32_49_48 rfl (lv_at hl 0 rfl) ?_
    refine lv_bipush (v := oI 63) hx hb d_32_49_49 (by decide +kernel) ?_
    refine lv_iand hx hb d_32_49_51 ?_
    refine nrm (oI_m6 _) ?_
    obtain rfl := in1 h
    exact W.iret hx hb hr (fun t ht hW => qkA hP hD hS (fun k => k) rfl rfl ht) hS.2.2 d_32_49_52
  exact key _ _ _ hts hP hS
set_option maxRecDepth 100000 in
set_option maxHeartbeats 4000000 in
theorem b_Na_divideSmall_16b (l : Launch) (z : Zz) (ad : Nat → Nat) (E : Ev) (M : Mm) (q0 : Nat) (x1 : Int) (x2 : Int) (x4 : Int) (t : Nat) (w2 : Int) (w4 : Int) (N : Mm) {Q : State → Prop} {p : Program} {e : Env} {s : State} {m : MethodId} {below : List Frame} {meth : Method} {c : Code} {A : Nat → Prop} {args : Array Value} (hx : p.tables.exec = Jvm.exec) (hb : c.code = prog_10_method_13_code) (hml : c.maxLocals = 7) (hts : ∀ w ∈ WG, w.before args s = true) (hown : s.vm.findClass "Ballothall$Natural" = some m.cls) (hlocks : meth.locks = false) (hA : ∀ q, s.heap.size ≤ q → A q) (hG : KG z s) (hZ : FZ z A s) (hL : Lay E) (h : Na_divideSmall_16b E M q0 x1 x2 x4 = some (t, w2, w4, N)) (k0 : t = 0 → ∀ (H : Heap) (locs : List Loc) (ls : Array Slot), va_P z.1 classes (wv z ad E N) H → va_D A (wv z ad E N) → va_S A s.heap H locs → lv_has ls 7 [(0, .ref (ad q0)), (1, .int (oI x1)), (2, .long (oJ w2)), (4, .int (oI w4))] → W p l e (rmK 2 61 0 0) s m args below meth c H locs 0 0 Q (F0 m 16 ls [])) (k1 : t = 1 → ∀ (H : Heap) (locs : List Loc) (ls : Array Slot), va_P z.1 classes (wv z ad E N) H → va_D A (wv z ad E N) → va_S A s.heap H locs → lv_has ls 7 [(0, .ref (ad q0)), (2, .long (oJ w2))] → W p l e (rmK 2 61 0 0) s m args below meth c H locs 0 0 Q (F0 m 61 ls [])) : ∀ (H : Heap) (locs : List Loc) (ls : Array Slot), va_P z.1 classes (wv z ad E M) H → va_D A (wv z ad E M) → va_S A s.heap H locs → lv_has ls 7 [(0, .ref (ad q0)), (1, .int (oI x1)), (2, .long (oJ x2)), (4, .int (oI x4))] → W p l e (rmK 2 61 0 0) s m args below meth c H locs 0 0 Q (F0 m 16 ls []) := by
  intro H locs ls hP hD hS hl
  unfold Na_divideSmall_16b at h
  obtain ⟨h_q0, h⟩ := ck_e h
  refine lv_iload hx hb d_10_13_16 (lv_at hl 3 rfl) ?_
  obtain ⟨ok101, h⟩ := ck_e h
  refine lv_if_lt (tgt := 61) hx hb d_10_13_18 (by decide) (fun c9 => ?_) (fun c9 => ?_)
  · have h := ite_t ((oI_lt0 ok101).mp c9) h
    obtain ⟨rfl, rfl, rfl, rfl⟩ := in4 h
    exact k1 rfl H locs ls hP hD hS (lv_sub hl [0, 2] rfl)
  · have h := ite_f (fun q => c9 ((oI_lt0 ok101).mpr q)) h
    refine lv_lload_n hx hb d_10_13_21 rfl (lv_at hl 2 rfl) ?_
    refine lv_bipush (v := oI 30) hx hb d_10_13_22 (by decide +kernel) ?_
    refine lv_lshl (v := oJ (x2 * 1073741824)) hx hb d_10_13_24 (oJ_shl (b := (30 : Int)) (by decide) (by decide)) ?_
    refine lv_aload_n hx hb d_10_13_25 rfl (lv_at hl 0 rfl) ?_
    refine m_gr (j := (q0 + 1)) (C := "Ballothall$Natural") (T := TX8) (N := 2) (ci := 8) (k := 0) hx hb hts iX8 hown hG hP (isNa_i h_q0) (isNa_T h_q0) rfl (by decide) w_294 (fun _ h9 => h9) rfl rfl (isNa_r0 h_q0) d_10_13_26 ?_
    refine lv_iload hx hb d_10_13_29 (lv_at hl 3 rfl) ?_
    obtain ⟨ok102, h⟩ := ck_e h
    refine m_ia hx hb hG hP (isNa_i1 h_q0) (isNa_t1 h_q0) ok102 d_10_13_31 ?_
    obtain ⟨ok103, h⟩ := ck_e h
    refine lv_i2l (v := oJ (M (q0 + 1) x4.toNat)) hx hb d_10_13_32 (oI_l ok103) ?_
    refine lv_ladd hx hb d_10_13_33 ?_
    refine nrmL (oJ_add _ _) ?_
    obtain ⟨v104, e104, h⟩ := nb_e h
    refine nrmL (congrArg oJ e104.symm) ?_
    refine lv_lstore (lv' := [(5, .long (oJ v104)), (0, .ref (ad q0)), (1, .int (oI x1)), (2, .long (oJ x2)), (4, .int (oI x4))]) hx hb d_10_13_34 hl (by decide) rfl (fun ls hl => ?_)
    refine lv_aload_n hx hb d_10_13_36 rfl (lv_at hl 1 rfl) ?_
    refine m_gr (j := (q0 + 1)) (C := "Ballothall$Natural") (T := TX8) (N := 2) (ci := 8) (k := 0) hx hb hts iX8 hown hG hP (isNa_i h_q0) (isNa_T h_q0) rfl (by decide) w_294 (fun _ h9 => h9) rfl rfl (isNa_r0 h_q0) d_10_13_37 ?_
    refine lv_iload hx hb d_10_13_40 (lv_at hl 4 rfl) ?_
    refine lv_lload hx hb d_10_13_42 (lv_at hl 0 rfl) ?_
    refine lv_iload_n hx hb d_10_13_44 rfl (lv_at hl 2 rfl) ?_
    obtain ⟨ok105, h⟩ := ck_e h
    refine lv_i2l (v := oJ x1) hx hb d_10_13_45 (oI_l ok105) ?_
    obtain ⟨ok106, h⟩ := ck_e h
    obtain ⟨ok107, h⟩ := ck_e h
    refine lv_ldiv hx hb d_10_13_46 (oJ_nz ok107.1 ok107.2) ?_
    refine nrmL (oJ_div (a := v104) (b := x1) ok106.1 ok106.2 ok107.1 ok107.2) ?_
    refine lv_l2i (v := oI (v104 / x1)) hx hb d_10_13_47 (oJ_i _) ?_
    refine m_is hx hb hG hP hD hS (isNa_i1 h_q0) (isNa_t1 h_q0) ok102 d_10_13_48 (fun H locs hP hD hS => ?_)
    have hP : va_P z.1 classes (wv z ad E (u2 M (q0 + 1) x4.toNat (v104 / x1))) H := hP
    have hD : va_D A (wv z ad E (u2 M (q0 + 1) x4.toNat (v104 / x1))) := hD
    refine lv_lload hx hb d_10_13_49 (lv_at hl 0 rfl) ?_
    refine lv_iload_n hx hb d_10_13_51 rfl (lv_at hl 2 rfl) ?_
    refine lv_i2l (v := oJ x1) hx hb d_10_13_52 (oI_l ok105) ?_
    obtain ⟨ok108, h⟩ := ck_e h
    refine lv_lrem hx hb d_10_13_53 (oJ_nz ok108.1 ok108.2) ?_
    refine nrmL (oJ_rem (a := v104) (b := x1) ok106.1 ok106.2 ok108.1 ok108.2) ?_
    refine lv_lstore_n (lv' := [(2, .long (oJ (v104 % x1))), (5, .long (oJ v104)), (0, .ref (ad q0)), (1, .int (oI x1)), (4, .int (oI x4))]) hx hb d_10_13_54 rfl hl (by decide) rfl (fun ls hl => ?_)
    refine lv_iinc (v := oI (x4 + (-1))) (lv' := [(4, .int (oI (x4 + (-1)))), (2, .long (oJ (v104 % x1))), (5, .long (oJ v104)), (0, .ref (ad q0)), (1, .int (oI x1))]) hx hb d_10_13_55 hl (k := 4) rfl (oI_add x4 (-1)) (by decide) rfl (fun ls hl => ?_)
    refine lv_goto (tgt := 16) hx hb d_10_13_58 (by decide) ?_
    obtain ⟨rfl, rfl, rfl, rfl⟩ := in4 h
    exact k0 rfl H locs ls hP hD hS (lv_sub hl [3, 4, 1, 0] rfl)
set_option maxRecDepth 100000 in
set_option maxHeartbeats 4000000 in
theorem s_Na_divideSmall_16 (l : Launch) (z : Zz) (ad : Nat → Nat) (E : Ev) (q0 : Nat) (x1 : Int) {Q : State → Prop} {p : Program} {e : Env} {s : State} {m : MethodId} {below : List Frame} {meth : Method} {c : Code} {A : Nat → Prop} {args : Array Value} (hx : p.tables.exec = Jvm.exec) (hb : c.code = prog_10_method_13_code) (hml : c.maxLocals = 7) (hts : ∀ w ∈ WG, w.before args s = true) (hown : s.vm.findClass "Ballothall$Natural" = some m.cls) (hlocks : meth.locks = false) (hA : ∀ q, s.heap.size ≤ q → A q) (hG : KG z s) (hZ : FZ z A s) (hL : Lay E) : ∀ (fu : Nat) (M : Mm) (x2 : Int) (x4 : Int) (t : Nat) (w2 : Int) (w4 : Int) (N : Mm), l_Na_divideSmall_16 E q0 x1 fu M x2 x4 = some (t, w2, w4, N) → (t = 1 → ∀ (H : Heap) (locs : List Loc) (ls : Array Slot), va_P z.1 classes (wv z ad E N) H → va_D A (wv z ad E N) → va_S A s.heap H locs → lv_has ls 7 [(0, .ref (ad q0)), (2, .long (oJ w2))] → W p l e (rmK 2 61 0 0) s m args below meth c H locs 0 0 Q (F0 m 61 ls [])) → ∀ (H : Heap) (locs : List Loc) (ls : Array Slot), va_P z.1 classes (wv z ad E M) H → va_D A (wv z ad E M) → va_S A s.heap H locs → lv_has ls 7 [(0, .ref (ad q0)), (1, .int (oI x1)), (2, .long (oJ x2)), (4, .int (oI x4))] → W p l e (rmK 2 61 0 0) s m args below meth c H locs 0 0 Q (F0 m 16 ls []) := by
  intro fu
  induction fu with
  | zero =>
    intro M x2 x4 t w2 w4 N h
    have h : (none : Option (Nat × Int × Int × Mm)) = some _ := h
    cases h
  | succ fu ih =>
    intro M x2 x4 t w2 w4 N h k1 H locs ls hP hD hS hl
    obtain ⟨⟨t0, w20, w40, N9⟩, g0, h⟩ := bd_e h
    refine b_Na_divideSmall_16b l z ad E M q0 x1 x2 x4 t0 w20 w40 N9 hx hb hml hts hown hlocks hA hG hZ hL g0 (fun e0 => ?_) (fun e0 => ?_) H locs ls hP hD hS hl
    · subst e0
      have h := ite_t rfl h
      exact ih N9 w20 w40 t w2 w4 N h k1
    · subst e0
      have h := ite_f (by decide) h
      obtain ⟨rfl, rfl, rfl, rfl⟩ := in4 h
      exact k1 rfl
set_option maxRecDepth 100000 in
set_option maxHeartbeats 4000000 in
theorem s_Na_divideSmall (l : Launch) (z : Zz) (ad : Nat → Nat) (E : Ev) (M : Mm) (p0 : Nat) (x1 : Int) (r : Int) (N : Mm) (hL : Lay E) (h : f_Na_divideSmall E M p0 x1 = some (r, N)) : CT l z ⟨"Ballothall$Natural", "divideSmall", "(I)I"⟩ prog_10_method_13_code 7 (some .int) [.ref (ad p0), .int (oI x1)] (wv z ad E M) 2 61 0 0 (fun _ => some (.int (oI r))) (fun _ => (wv z ad E N)) := by
  refine CT.of (own := "Ballothall$Natural") (by decide +kernel) (Nat.le_of_ble_eq_true rfl) rfl (fun p e s m below meth c A ls hx hb hml hr hts hown hlocks hin hA hG hZ hP hD hS hl => ?_)
  have hl : lv_has ls 7 [(0, .ref (ad p0)), (1, .int (oI x1))] := hl
  have key : ∀ (H : Heap) (locs : List Loc) (args : Array Value), (∀ w ∈ WG, w.before args s = true) → va_P z.1 classes (wv z ad E M) H → va_S A s.heap H locs → W p l e (rmK 2 61 0 0) s m args below meth c H locs 0 0 (MQ below (QK z A (fun _ => some (.int (oI r))) (fun _ => (wv z ad E N))) args s 0 0 A) (F0 m 0 ls []) := by
    intro H locs args hts hP hS
    unfold f_Na_divideSmall at h
    obtain ⟨h_p0, h⟩ := ck_e h
    refine lv_iload_n hx hb d_10_13_0 rfl (lv_at hl 1 rfl) ?_
    obtain ⟨ok100, h⟩ := ck_e h
    refine lv_if_gt (tgt := 6) hx hb d_10_13_1 (by decide) (fun c9 => ?_) (fun c9 => ?_)
    · have h := ite_t ((oI_gt0 ok100).mp c9) h
      refine lv_lconst (v := oJ 0) hx hb d_10_13_6 (by decide +kernel) ?_
      refine lv_lstore_n (lv' := [(2, .long (oJ 0)), (0, .ref (ad p0)), (1, .int (oI x1))]) hx hb d_10_13_7 rfl hl (by decide) rfl (fun ls hl => ?_)
      refine lv_aload_n hx hb d_10_13_8 rfl (lv_at hl 1 rfl) ?_
      refine m_gi (C := "Ballothall$Natural") (T := TX8) (N := 2) (ci := 8) (k := 1) hx hb hts iX8 hown hG hP (isNa_i h_p0) (isNa_T h_p0) rfl (by decide) w_295 (fun _ h9 => h9) rfl rfl d_10_13_9 ?_
      refine lv_iconst (v := oI 1) hx hb d_10_13_12 (by decide +kernel) ?_
      refine lv_isub hx hb d_10_13_13 ?_
      refine nrm (oI_sub _ _) ?_
      refine lv_istore (lv' := [(4, .int (oI ((M p0 1) - 1))), (2, .long (oJ 0)), (0, .ref (ad p0)), (1, .int (oI x1))]) hx hb d_10_13_14 hl (by decide) rfl (fun ls hl => ?_)
      obtain ⟨⟨t109, v109_2, v109_4, M109⟩, g109, h⟩ := bd_e h
      obtain ⟨ok109, h⟩ := ck_e h
      refine s_Na_divideSmall_16 l z ad E p0 x1 hx hb hml hts hown hlocks hA hG hZ hL FU M 0 ((M p0 1) - 1) t109 v109_2 v109_4 M109 g109 (fun e109 H locs ls hP hD hS hl => ?_) H locs ls hP hD hS (lv_sub hl [2, 3, 1, 0] rfl)
      refine lv_aload_n hx hb d_10_13_61 rfl (lv_at hl 0 rfl) ?_
      refine lv_aload_n hx hb d_10_13_62 rfl (lv_at hl 0 rfl) ?_
      refine m_gi (C := "Ballothall$Natural") (T := TX8) (N := 2) (ci := 8) (k := 1) hx hb hts iX8 hown hG hP (isNa_i h_p0) (isNa_T h_p0) rfl (by decide) w_295 (fun _ h9 => h9) rfl rfl d_10_13_63 ?_
      obtain ⟨M110, g110, h⟩ := bd_e h
      refine kV (As := [.int (oI (M109 p0 1))]) (rest := []) (s_Na_trimTo l z ad E M109 p0 (M109 p0 1) M110 hL g110) hx hb hml hown hts w_625 w_622 w_624 w_s_8e7085 w_9 md_0a866a ⟨Nat.le_of_ble_eq_true rfl, Nat.le_of_ble_eq_true rfl⟩ hG hZ hP hD hS hA p0 (wv_o (ci := 8) (isNa_i h_p0) (isNa_T h_p0)) rfl rfl rfl hl.1 rfl (Nat.le_of_ble_eq_true rfl) d_10_13_66 ⟨Nat.le_of_ble_eq_true rfl, Nat.le_of_ble_eq_true rfl⟩ (fun _ H locs hP hD hS => ?_)
      have hP : va_P z.1 classes (wv z ad E M110) H := hP
      have hD : va_D A (wv z ad E M110) := hD
      refine W.eq (g2 := F0 m 69 ls []) rfl ?_
      refine lv_lload_n hx hb d_10_13_69 rfl (lv_at hl 1 rfl) ?_
      refine lv_l2i (v := oI v109_2) hx hb d_10_13_70 (oJ_i _) ?_
      obtain ⟨rfl, rfl⟩ := in2 h
      exact W.iret hx hb hr (fun t ht hW => qkA hP hD hS (fun k => k) rfl rfl ht) hS.2.2 d_10_13_71
    · have h := ite_f (fun q => c9 ((oI_gt0 ok100).mpr q)) h
      refine lv_iconst (v := oI 0) hx hb d_10_13_4 (by decide +kernel) ?_
      obtain ⟨rfl, rfl⟩ := in2 h
      exact W.iret hx hb hr (fun t ht hW => qkA hP hD hS (fun k => k) rfl rfl ht) hS.2.2 d_10_13_5
  exact key _ _ _ hts hP hS
set_option maxRecDepth 100000 in
set_option maxHeartbeats 4000000 in
theorem s_Co_weightOf (l : Launch) (z : Zz) (ad : Nat → Nat) (E : Ev) (M : Mm) (x1 : Int) (x2 : Int) (r : Nat)  (hL : Lay E) (h : f_Co_weightOf E M x1 x2 = some r) : CT l z ⟨"Ballothall$Counting", "weightOf", "(II)LBallothall$Natural;"⟩ prog_5_method_4_code 4 (some (.object "Ballothall$Natural")) [.ref (ad 179), .int (oI x1), .int (oI x2)] (wv z ad E M) 2 60 0 0 (fun _ => some (.ref (ad r))) (fun _ => (wv z ad E M)) := by
  refine CT.of (own := "Ballothall$Counting") (by decide +kernel) (Nat.le_of_ble_eq_true rfl) rfl (fun p e s m below meth c A ls hx hb hml hr hts hown hlocks hin hA hG hZ hP hD hS hl => ?_)
  have hl : lv_has ls 4 [(0, .ref (ad 179)), (1, .int (oI x1)), (2, .int (oI x2))] := hl
  have key : ∀ (H : Heap) (locs : List Loc) (args : Array Value), (∀ w ∈ WG, w.before args s = true) → va_P z.1 classes (wv z ad E M) H → va_S A s.heap H locs → W p l e (rmK 2 60 0 0) s m args below meth c H locs 0 0 (MQ below (QK z A (fun _ => some (.ref (ad r))) (fun _ => (wv z ad E M))) args s 0 0 A) (F0 m 0 ls []) := by
    intro H locs args hts hP hS
    unfold f_Co_weightOf at h
    refine lv_iload_n hx hb d_5_4_0 rfl (lv_at hl 1 rfl) ?_
    refine lv_bipush (v := oI 8) hx hb d_5_4_1 (by decide +kernel) ?_
    refine lv_imul hx hb d_5_4_3 ?_
    refine nrm (oI_mul _ _) ?_
    refine lv_iload_n hx hb d_5_4_4 rfl (lv_at hl 2 rfl) ?_
    refine lv_iadd hx hb d_5_4_5 ?_
    refine nrm (oI_add _ _) ?_
    refine lv_istore_n (lv' := [(3, .int (oI ((x1 * 8) + x2))), (0, .ref (ad 179)), (1, .int (oI x1)), (2, .int (oI x2))]) hx hb d_5_4_6 rfl hl (by decide) rfl (fun ls hl => ?_)
    refine lv_aload_n hx hb d_5_4_7 rfl (lv_at hl 1 rfl) ?_
    refine m_gr (j := 181) (C := "Ballothall$Counting") (T := TX3) (N := 15) (ci := 3) (k := 4) hx hb hts iX3 hown hG hP (yi_179 hL) (yt_179 hL) rfl (by decide) w_307 (fun _ h9 => h9) rfl rfl (yr_179_4 hL) d_5_4_8 ?_
    refine lv_iload_n hx hb d_5_4_11 rfl (lv_at hl 0 rfl) ?_
    obtain ⟨ok100, h⟩ := ck_e h
    obtain ⟨p101, g101, h⟩ := bd_e h
    obtain ⟨h_p101, h⟩ := ck_e h
    refine m_aa (k := p101) (t := 5) (C := "Ballothall$Natural") hx hb hG hP (yi_181 hL) (yt_181 hL) rfl rfl ok100 g101 d_5_4_12 ?_
    refine lv_ifnonnull (tgt := 29) hx hb d_5_4_13 (by decide) ?_
    refine lv_aload_n hx hb d_5_4_29 rfl (lv_at hl 1 rfl) ?_
    refine m_gr (j := 181) (C := "Ballothall$Counting") (T := TX3) (N := 15) (ci := 3) (k := 4) hx hb hts iX3 hown hG hP (yi_179 hL) (yt_179 hL) rfl (by decide) w_307 (fun _ h9 => h9) rfl rfl (yr_179_4 hL) d_5_4_30 ?_
    refine lv_iload_n hx hb d_5_4_33 rfl (lv_at hl 0 rfl) ?_
    obtain ⟨p102, g102, h⟩ := bd_e h
    obtain ⟨h_p102, h⟩ := ck_e h
    refine m_aa (k := p102) (t := 5) (C := "Ballothall$Natural") hx hb hG hP (yi_181 hL) (yt_181 hL) rfl rfl ok100 g102 d_5_4_34 ?_
    obtain rfl := in1 h
    exact W.aret hx hb hr (Or.inl ⟨_, rfl⟩) (Or.inr ⟨_, rfl⟩) (fun t ht hW => qkA hP hD hS (fun k => k) rfl rfl ht) hS.2.2 d_5_4_35
  exact key _ _ _ hts hP hS
set_option maxRecDepth 100000 in
set_option maxHeartbeats 4000000 in
theorem b_Co_passOn_46b (l : Launch) (z : Zz) (ad : Nat → Nat) (E : Ev) (M : Mm) (x1 : Int) (x2 : Int) (x3 : Int) (t : Nat) (w3 : Int) (N : Mm) {Q : State → Prop} {p : Program} {e : Env} {s : State} {m : MethodId} {below : List Frame} {meth : Method} {c : Code} {A : Nat → Prop} {args : Array Value} (hx : p.tables.exec = Jvm.exec) (hb : c.code = prog_5_method_7_code) (hml : c.maxLocals = 4) (hts : ∀ w ∈ WG, w.before args s = true) (hown : s.vm.findClass "Ballothall$Counting" = some m.cls) (hlocks : meth.locks = false) (hA : ∀ q, s.heap.size ≤ q → A q) (hG : KG z s) (hZ : FZ z A s) (hL : Lay E) (h : Co_passOn_46b E M x1 x2 x3 = some (t, w3, N)) (k0 : t = 0 → ∀ (H : Heap) (locs : List Loc) (ls : Array Slot), va_P z.1 classes (wv z ad E N) H → va_D A (wv z ad E N) → va_S A s.heap H locs → lv_has ls 4 [(0, .ref (ad 179)), (1, .int (oI x1)), (2, .int (oI x2)), (3, .int (oI w3))] → W p l e (rmK 3 87 0 0) s m args below meth c H locs 0 0 Q (F0 m 46 ls [])) (k1 : t = 1 → ∀ (H : Heap) (locs : List Loc) (ls : Array Slot), va_P z.1 classes (wv z ad E N) H → va_D A (wv z ad E N) → va_S A s.heap H locs → lv_has ls 4 [] → W p l e (rmK 3 87 0 0) s m args below meth c H locs 0 0 Q (F0 m 97 ls [])) : ∀ (H : Heap) (locs : List Loc) (ls : Array Slot), va_P z.1 classes (wv z ad E M) H → va_D A (wv z ad E M) → va_S A s.heap H locs → lv_has ls 4 [(0, .ref (ad 179)), (1, .int (oI x1)), (2, .int (oI x2)), (3, .int (oI x3))] → W p l e (rmK 3 87 0 0) s m args below meth c H locs 0 0 Q (F0 m 46 ls []) := by
  intro H locs ls hP hD hS hl
  unfold Co_passOn_46b at h
  refine lv_iload_n hx hb d_5_7_46 rfl (lv_at hl 3 rfl) ?_
  refine lv_aload_n hx hb d_5_7_47 rfl (lv_at hl 0 rfl) ?_
  refine m_gr (j := 2) (C := "Ballothall$Counting") (T := TX3) (N := 15) (ci := 3) (k := 0) hx hb hts iX3 hown hG hP (yi_179 hL) (yt_179 hL) rfl (by decide) w_303 (fun _ h9 => h9) rfl rfl (yr_179_0 hL) d_5_7_48 ?_
  refine m_giN (C := "Ballothall$BallotBox") (T := TX0) (N := 10) (ci := 0) (k := 2) hx hb hts iX0 hown hG hP (yi_2 hL) (yt_2 hL) rfl (by decide) n_55 rfl (fun _ h9 => h9) rfl rfl d_5_7_51 ?_
  obtain ⟨ok104, h⟩ := ck_e h
  obtain ⟨ok105, h⟩ := ck_e h
  refine lv_icmp_ge (tgt := 97) hx hb d_5_7_54 (by decide) (fun c9 => ?_) (fun c9 => ?_)
  · have h := ite_t ((oI_le (a := (M 2 2)) (b := x3) ok105 ok104).mp c9) h
    obtain ⟨rfl, rfl, rfl⟩ := in3 h
    exact k1 rfl H locs ls hP hD hS (lv_sub hl [] rfl)
  · have h := ite_f (fun q => c9 ((oI_le (a := (M 2 2)) (b := x3) ok105 ok104).mpr q)) h
    refine lv_iload_n hx hb d_5_7_57 rfl (lv_at hl 2 rfl) ?_
    refine lv_iload_n hx hb d_5_7_58 rfl (lv_at hl 3 rfl) ?_
    obtain ⟨r106, g106, h⟩ := bd_e h
    refine kSN (As := [.int (oI x2), .int (oI x3)]) (rest := []) (s_B_has l z ad E M x2 x3 r106 hL g106) hx hb hml hown hts w_693 n_1143 w_692 w_1 md_26545c ⟨Nat.le_of_ble_eq_true rfl, Nat.le_of_ble_eq_true rfl⟩ hG hZ hP hD hS hA rfl hl.1 rfl (Nat.le_of_ble_eq_true rfl) d_5_7_59 ⟨Nat.le_of_ble_eq_true rfl, Nat.le_of_ble_eq_true rfl⟩ (fun _ H locs hP hD hS => ?_)
    have hP : va_P z.1 classes (wv z ad E M) H := hP
    have hD : va_D A (wv z ad E M) := hD
    refine W.eq (g2 := F0 m 62 ls [.int (oI r106)]) rfl ?_
    obtain ⟨ok107, h⟩ := ck_e h
    refine lv_if_eq (tgt := 91) hx hb d_5_7_62 (by decide) (fun c9 => ?_) (fun c9 => ?_)
    · have h := ite_t ((oI_eq0 ok107).mp c9) h
      refine lv_iinc (v := oI (x3 + 1)) (lv' := [(3, .int (oI (x3 + 1))), (0, .ref (ad 179)), (1, .int (oI x1)), (2, .int (oI x2))]) hx hb d_5_7_91 hl (k := 3) rfl (oI_add x3 1) (by decide) rfl (fun ls hl => ?_)
      refine lv_goto (tgt := 46) hx hb d_5_7_94 (by decide) ?_
      obtain ⟨rfl, rfl, rfl⟩ := in3 h
      exact k0 rfl H locs ls hP hD hS (lv_sub hl [1, 2, 3, 0] rfl)
    · have h := ite_f (fun q => c9 ((oI_eq0 ok107).mpr q)) h
      refine lv_aload_n hx hb d_5_7_65 rfl (lv_at hl 0 rfl) ?_
      refine lv_iload_n hx hb d_5_7_66 rfl (lv_at hl 1 rfl) ?_
      refine lv_iload_n hx hb d_5_7_67 rfl (lv_at hl 3 rfl) ?_
      obtain ⟨r108, g108, h⟩ := bd_e h
      refine kV (As := [.int (oI x1), .int (oI x3)]) (rest := []) (s_Co_weightOf l z ad E M x1 x3 r108 hL g108) hx hb hml hown hts w_1132 w_1129 w_1131 w_s_b275fa w_8 md_759e51 ⟨Nat.le_of_ble_eq_true rfl, Nat.le_of_ble_eq_true rfl⟩ hG hZ hP hD hS hA 179 (wv_o (ci := 3) (yi_179 hL) (yt_179 hL)) rfl rfl rfl hl.1 rfl (Nat.le_of_ble_eq_true rfl) d_5_7_68 ⟨Nat.le_of_ble_eq_true rfl, Nat.le_of_ble_eq_true rfl⟩ (fun _ H locs hP hD hS => ?_)
      have hP : va_P z.1 classes (wv z ad E M) H := hP
      have hD : va_D A (wv z ad E M) := hD
      obtain ⟨h_r108, h⟩ := ck_e h
      refine W.eq (g2 := F0 m 71 ls [.ref (ad r108)]) rfl ?_
      refine lv_aload_n hx hb d_5_7_71 rfl (lv_at hl 0 rfl) ?_
      refine m_gr (j := 185) (C := "Ballothall$Counting") (T := TX3) (N := 15) (ci := 3) (k := 7) hx hb hts iX3 hown hG hP (yi_179 hL) (yt_179 hL) rfl (by decide) w_310 (fun _ h9 => h9) rfl rfl (yr_179_7 hL) d_5_7_72 ?_
      obtain ⟨M109, g109, h⟩ := bd_e h
      refine kVN (As := [.ref (ad 185)]) (rest := []) (s_Na_add l z ad E M r108 185 M109 hL g109) hx hb hml hown hts w_630 n_627 w_629 w_s_f38dc3 w_9 md_c50573 ⟨Nat.le_of_ble_eq_true rfl, Nat.le_of_ble_eq_true rfl⟩ hG hZ hP hD hS hA r108 (wv_o (ci := 8) (isNa_i h_r108) (isNa_T h_r108)) rfl rfl rfl hl.1 rfl (Nat.le_of_ble_eq_true rfl) d_5_7_75 ⟨Nat.le_of_ble_eq_true rfl, Nat.le_of_ble_eq_true rfl⟩ (fun _ H locs hP hD hS => ?_)
      have hP : va_P z.1 classes (wv z ad E M109) H := hP
      have hD : va_D A (wv z ad E M109) := hD
      refine W.eq (g2 := F0 m 78 ls []) rfl ?_
      refine lv_aload_n hx hb d_5_7_78 rfl (lv_at hl 0 rfl) ?_
      refine m_gr (j := 182) (C := "Ballothall$Counting") (T := TX3) (N := 15) (ci := 3) (k := 5) hx hb hts iX3 hown hG hP (yi_179 hL) (yt_179 hL) rfl (by decide) w_308 (fun _ h9 => h9) rfl rfl (yr_179_5 hL) d_5_7_79 ?_
      refine lv_iload_n hx hb d_5_7_82 rfl (lv_at hl 3 rfl) ?_
      obtain ⟨ok110, h⟩ := ck_e h
      refine m_aa (k := (201 + 2 * x3.toNat)) (t := 5) (C := "Ballothall$Natural") hx hb hG hP (yi_182 hL) (yt_182 hL) rfl rfl ok110 (ya_182 hL (inb_lt ok110)) d_5_7_83 ?_
      refine lv_aload_n hx hb d_5_7_84 rfl (lv_at hl 0 rfl) ?_
      refine m_gr (j := 185) (C := "Ballothall$Counting") (T := TX3) (N := 15) (ci := 3) (k := 7) hx hb hts iX3 hown hG hP (yi_179 hL) (yt_179 hL) rfl (by decide) w_310 (fun _ h9 => h9) rfl rfl (yr_179_7 hL) d_5_7_85 ?_
      obtain ⟨M111, g111, h⟩ := bd_e h
      refine kVN (As := [.ref (ad 185)]) (rest := []) (s_Na_add l z ad E M109 (201 + 2 * x3.toNat) 185 M111 hL g111) hx hb hml hown hts w_630 n_627 w_629 w_s_f38dc3 w_9 md_c50573 ⟨Nat.le_of_ble_eq_true rfl, Nat.le_of_ble_eq_true rfl⟩ hG hZ hP hD hS hA (201 + 2 * x3.toNat) (wv_o (ci := 8) (isNa_i (yg_182 hL ok110)) (isNa_T (yg_182 hL ok110))) rfl rfl rfl hl.1 rfl (Nat.le_of_ble_eq_true rfl) d_5_7_88 ⟨Nat.le_of_ble_eq_true rfl, Nat.le_of_ble_eq_true rfl⟩ (fun _ H locs hP hD hS => ?_)
      have hP : va_P z.1 classes (wv z ad E M111) H := hP
      have hD : va_D A (wv z ad E M111) := hD
      refine W.eq (g2 := F0 m 91 ls []) rfl ?_
      refine lv_iinc (v := oI (x3 + 1)) (lv' := [(3, .int (oI (x3 + 1))), (0, .ref (ad 179)), (1, .int (oI x1)), (2, .int (oI x2))]) hx hb d_5_7_91 hl (k := 3) rfl (oI_add x3 1) (by decide) rfl (fun ls hl => ?_)
      refine lv_goto (tgt := 46) hx hb d_5_7_94 (by decide) ?_
      obtain ⟨rfl, rfl, rfl⟩ := in3 h
      exact k0 rfl H locs ls hP hD hS (lv_sub hl [1, 2, 3, 0] rfl)
set_option maxRecDepth 100000 in
set_option maxHeartbeats 4000000 in
theorem s_Co_passOn_46 (l : Launch) (z : Zz) (ad : Nat → Nat) (E : Ev) (x1 : Int) (x2 : Int) {Q : State → Prop} {p : Program} {e : Env} {s : State} {m : MethodId} {below : List Frame} {meth : Method} {c : Code} {A : Nat → Prop} {args : Array Value} (hx : p.tables.exec = Jvm.exec) (hb : c.code = prog_5_method_7_code) (hml : c.maxLocals = 4) (hts : ∀ w ∈ WG, w.before args s = true) (hown : s.vm.findClass "Ballothall$Counting" = some m.cls) (hlocks : meth.locks = false) (hA : ∀ q, s.heap.size ≤ q → A q) (hG : KG z s) (hZ : FZ z A s) (hL : Lay E) : ∀ (fu : Nat) (M : Mm) (x3 : Int) (t : Nat) (w3 : Int) (N : Mm), l_Co_passOn_46 E x1 x2 fu M x3 = some (t, w3, N) → (t = 1 → ∀ (H : Heap) (locs : List Loc) (ls : Array Slot), va_P z.1 classes (wv z ad E N) H → va_D A (wv z ad E N) → va_S A s.heap H locs → lv_has ls 4 [] → W p l e (rmK 3 87 0 0) s m args below meth c H locs 0 0 Q (F0 m 97 ls [])) → ∀ (H : Heap) (locs : List Loc) (ls : Array Slot), va_P z.1 classes (wv z ad E M) H → va_D A (wv z ad E M) → va_S A s.heap H locs → lv_has ls 4 [(0, .ref (ad 179)), (1, .int (oI x1)), (2, .int (oI x2)), (3, .int (oI x3))] → W p l e (rmK 3 87 0 0) s m args below meth c H locs 0 0 Q (F0 m 46 ls []) := by
  intro fu
  induction fu with
  | zero =>
    intro M x3 t w3 N h
    have h : (none : Option (Nat × Int × Mm)) = some _ := h
    cases h
  | succ fu ih =>
    intro M x3 t w3 N h k1 H locs ls hP hD hS hl
    obtain ⟨⟨t0, w30, N9⟩, g0, h⟩ := bd_e h
    refine b_Co_passOn_46b l z ad E M x1 x2 x3 t0 w30 N9 hx hb hml hts hown hlocks hA hG hZ hL g0 (fun e0 => ?_) (fun e0 => ?_) H locs ls hP hD hS hl
    · subst e0
      have h := ite_t rfl h
      exact ih N9 w30 t w3 N h k1
    · subst e0
      have h := ite_f (by decide) h
      obtain ⟨rfl, rfl, rfl⟩ := in3 h
      exact k1 rfl
set_option maxRecDepth 100000 in
set_option maxHeartbeats 4000000 in
theorem s_Co_passOn (l : Launch) (z : Zz) (ad : Nat → Nat) (E : Ev) (M : Mm) (x1 : Int) (N : Mm) (hL : Lay E) (h : f_Co_passOn E M x1 = some N) : CT l z ⟨"Ballothall$Counting", "passOn", "(I)V"⟩ prog_5_method_7_code 4 none [.ref (ad 179), .int (oI x1)] (wv z ad E M) 3 87 0 0 (fun _ => none) (fun _ => (wv z ad E N)) := by
  refine CT.of (own := "Ballothall$Counting") (by decide +kernel) (Nat.le_of_ble_eq_true rfl) rfl (fun p e s m below meth c A ls hx hb hml hr hts hown hlocks hin hA hG hZ hP hD hS hl => ?_)
  have hl : lv_has ls 4 [(0, .ref (ad 179)), (1, .int (oI x1))] := hl
  have key : ∀ (H : Heap) (locs : List Loc) (args : Array Value), (∀ w ∈ WG, w.before args s = true) → va_P z.1 classes (wv z ad E M) H → va_S A s.heap H locs → W p l e (rmK 3 87 0 0) s m args below meth c H locs 0 0 (MQ below (QK z A (fun _ => none) (fun _ => (wv z ad E N))) args s 0 0 A) (F0 m 0 ls []) := by
    intro H locs args hts hP hS
    unfold f_Co_passOn at h
    refine lv_aload_n hx hb d_5_7_0 rfl (lv_at hl 0 rfl) ?_
    refine m_gr (j := 2) (C := "Ballothall$Counting") (T := TX3) (N := 15) (ci := 3) (k := 0) hx hb hts iX3 hown hG hP (yi_179 hL) (yt_179 hL) rfl (by decide) w_303 (fun _ h9 => h9) rfl rfl (yr_179_0 hL) d_5_7_1 ?_
    refine lv_iload_n hx hb d_5_7_4 rfl (lv_at hl 1 rfl) ?_
    refine lv_aload_n hx hb d_5_7_5 rfl (lv_at hl 0 rfl) ?_
    refine m_gi (C := "Ballothall$Counting") (T := TX3) (N := 15) (ci := 3) (k := 3) hx hb hts iX3 hown hG hP (yi_179 hL) (yt_179 hL) rfl (by decide) w_306 (fun _ h9 => h9) rfl rfl d_5_7_6 ?_
    obtain ⟨r100, g100, h⟩ := bd_e h
    refine kVN (As := [.int (oI x1), .int (oI (M 179 3))]) (rest := []) (s_Bx_topOf l z ad E M x1 (M 179 3) r100 hL g100) hx hb hml hown hts w_685 n_1137 w_684 w_s_b213f0 w_2 md_ddec8b ⟨Nat.le_of_ble_eq_true rfl, Nat.le_of_ble_eq_true rfl⟩ hG hZ hP hD hS hA 2 (wv_o (ci := 0) (yi_2 hL) (yt_2 hL)) rfl rfl rfl hl.1 rfl (Nat.le_of_ble_eq_true rfl) d_5_7_9 ⟨Nat.le_of_ble_eq_true rfl, Nat.le_of_ble_eq_true rfl⟩ (fun _ H locs hP hD hS => ?_)
    have hP : va_P z.1 classes (wv z ad E M) H := hP
    have hD : va_D A (wv z ad E M) := hD
    refine W.eq (g2 := F0 m 12 ls [.int (oI r100)]) rfl ?_
    refine lv_istore_n (lv' := [(2, .int (oI r100)), (0, .ref (ad 179)), (1, .int (oI x1))]) hx hb d_5_7_12 rfl hl (by decide) rfl (fun ls hl => ?_)
    refine lv_iload_n hx hb d_5_7_13 rfl (lv_at hl 0 rfl) ?_
    obtain ⟨ok101, h⟩ := ck_e h
    refine lv_if_ne (tgt := 32) hx hb d_5_7_14 (by decide) (fun c9 => ?_) (fun c9 => ?_)
    · have h := ite_f (fun q => c9 ((oI_eq0 ok101).mpr q)) h
      refine lv_aload_n hx hb d_5_7_32 rfl (lv_at hl 1 rfl) ?_
      refine m_gr (j := 185) (C := "Ballothall$Counting") (T := TX3) (N := 15) (ci := 3) (k := 7) hx hb hts iX3 hown hG hP (yi_179 hL) (yt_179 hL) rfl (by decide) w_310 (fun _ h9 => h9) rfl rfl (yr_179_7 hL) d_5_7_33 ?_
      refine lv_iload_n hx hb d_5_7_36 rfl (lv_at hl 0 rfl) ?_
      obtain ⟨r102, g102, h⟩ := bd_e h
      refine kS (As := [.int (oI r100)]) (rest := [.ref (ad 185)]) (s_In_bitCount l z ad E M r100 r102 hL g102) hx hb hml hown hts w_657 w_1138 w_656 w_30 md_eafe8c ⟨Nat.le_of_ble_eq_true rfl, Nat.le_of_ble_eq_true rfl⟩ hG hZ hP hD hS hA rfl hl.1 rfl (Nat.le_of_ble_eq_true rfl) d_5_7_37 ⟨Nat.le_of_ble_eq_true rfl, Nat.le_of_ble_eq_true rfl⟩ (fun _ H locs hP hD hS => ?_)
      have hP : va_P z.1 classes (wv z ad E M) H := hP
      have hD : va_D A (wv z ad E M) := hD
      refine W.eq (g2 := F0 m 40 ls [.int (oI r102), .ref (ad 185)]) rfl ?_
      obtain ⟨⟨r103, M103⟩, g103, h⟩ := bd_e h
      refine kVN (As := [.int (oI r102)]) (rest := []) (s_Na_divideSmall l z ad E M 185 r102 r103 M103 hL g103) hx hb hml hown hts w_1142 n_1139 w_1141 w_s_b783c0 w_9 md_e931a9 ⟨Nat.le_of_ble_eq_true rfl, Nat.le_of_ble_eq_true rfl⟩ hG hZ hP hD hS hA 185 (wv_o (ci := 8) (yi_185 hL) (yt_185 hL)) rfl rfl rfl hl.1 rfl (Nat.le_of_ble_eq_true rfl) d_5_7_40 ⟨Nat.le_of_ble_eq_true rfl, Nat.le_of_ble_eq_true rfl⟩ (fun _ H locs hP hD hS => ?_)
      have hP : va_P z.1 classes (wv z ad E M103) H := hP
      have hD : va_D A (wv z ad E M103) := hD
      refine W.eq (g2 := F0 m 43 ls [.int (oI r103)]) rfl ?_
      refine lv_pop hx hb d_5_7_43 rfl ?_
      refine lv_iconst (v := oI 0) hx hb d_5_7_44 (by decide +kernel) ?_
      refine lv_istore_n (lv' := [(3, .int (oI 0)), (2, .int (oI r100)), (0, .ref (ad 179)), (1, .int (oI x1))]) hx hb d_5_7_45 rfl hl (by decide) rfl (fun ls hl => ?_)
      obtain ⟨⟨t112, v112_3, M112⟩, g112, h⟩ := bd_e h
      obtain ⟨ok112, h⟩ := ck_e h
      refine s_Co_passOn_46 l z ad E x1 r100 hx hb hml hts hown hlocks hA hG hZ hL FU M103 0 t112 v112_3 M112 g112 (fun e112 H locs ls hP hD hS hl => ?_) H locs ls hP hD hS (lv_sub hl [2, 3, 1, 0] rfl)
      obtain rfl := in1 h
      exact W.vret hx hb hr (fun t ht hW => qkA hP hD hS (fun k => k) rfl rfl ht) hS.2.2 d_5_7_97
    · have h := ite_t ((oI_eq0 ok101).mp c9) h
      refine lv_aload_n hx hb d_5_7_17 rfl (lv_at hl 1 rfl) ?_
      refine m_gr (j := 182) (C := "Ballothall$Counting") (T := TX3) (N := 15) (ci := 3) (k := 5) hx hb hts iX3 hown hG hP (yi_179 hL) (yt_179 hL) rfl (by decide) w_308 (fun _ h9 => h9) rfl rfl (yr_179_5 hL) d_5_7_18 ?_
      refine lv_bipush (v := oI 8) hx hb d_5_7_21 (by decide +kernel) ?_
      refine m_aa (k := 217) (t := 5) (C := "Ballothall$Natural") hx hb hG hP (yi_182 hL) (yt_182 hL) rfl rfl (by decide +kernel) ((ya_182 hL (by decide +kernel)).trans (by decide +kernel)) d_5_7_23 ?_
      refine lv_aload_n hx hb d_5_7_24 rfl (lv_at hl 1 rfl) ?_
      refine m_gr (j := 185) (C := "Ballothall$Counting") (T := TX3) (N := 15) (ci := 3) (k := 7) hx hb hts iX3 hown hG hP (yi_179 hL) (yt_179 hL) rfl (by decide) w_310 (fun _ h9 => h9) rfl rfl (yr_179_7 hL) d_5_7_25 ?_
      obtain ⟨M113, g113, h⟩ := bd_e h
      refine kVN (As := [.ref (ad 185)]) (rest := []) (s_Na_add l z ad E M 217 185 M113 hL g113) hx hb hml hown hts w_630 n_627 w_629 w_s_f38dc3 w_9 md_c50573 ⟨Nat.le_of_ble_eq_true rfl, Nat.le_of_ble_eq_true rfl⟩ hG hZ hP hD hS hA 217 (wv_o (ci := 8) (yi_217 hL) (yt_217 hL)) rfl rfl rfl hl.1 rfl (Nat.le_of_ble_eq_true rfl) d_5_7_28 ⟨Nat.le_of_ble_eq_true rfl, Nat.le_of_ble_eq_true rfl⟩ (fun _ H locs hP hD hS => ?_)
      have hP : va_P z.1 classes (wv z ad E M113) H := hP
      have hD : va_D A (wv z ad E M113) := hD
      refine W.eq (g2 := F0 m 31 ls []) rfl ?_
      obtain rfl := in1 h
      exact W.vret hx hb hr (fun t ht hW => qkA hP hD hS (fun k => k) rfl rfl ht) hS.2.2 d_5_7_31
  exact key _ _ _ hts hP hS
