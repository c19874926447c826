set_option maxRecDepth 100000 in
set_option maxHeartbeats 4000000 in
theorem s_B_needIndex (l : Launch) (z : Zz) (ad : Nat → Nat) (E : Ev) (M : Mm) (x0 : Int) (x1 : Int)  (hL : Lay E) (h : f_B_needIndex E M x0 x1 = some ()) : CT l z ⟨"Ballothall", "needIndex", "(II)V"⟩ prog_1_method_56_code 2 none [.int (oI x0), .int (oI x1)] (wv z ad E M) 0 20 0 0 (fun _ => none) (fun _ => (wv z ad E M)) := by
  refine CT.of (own := "Ballothall") (by decide +kernel) (Nat.le_of_ble_eq_true rfl) rfl (fun p e s m below meth c A ls hx hb hml hr hts hown hlocks hin hA hG hZ hP hD hS hl => ?_)
  have hl : lv_has ls 2 [(0, .int (oI x0)), (1, .int (oI x1))] := hl
  have key : ∀ (H : Heap) (locs : List Loc) (args : Array Value), (∀ w ∈ WG, w.before args s = true) → va_P z.1 classes (wv z ad E M) H → va_S A s.heap H locs → W p l e (rmK 0 20 0 0) s m args below meth c H locs 0 0 (MQ below (QK z A (fun _ => none) (fun _ => (wv z ad E M))) args s 0 0 A) (F0 m 0 ls []) := by
    intro H locs args hts hP hS
    unfold f_B_needIndex at h
    refine lv_iload_n hx hb d_1_56_0 rfl (lv_at hl 0 rfl) ?_
    obtain ⟨ok0, h⟩ := ck_e h
    refine lv_if_lt (tgt := 9) hx hb d_1_56_1 (by decide) (fun c9 => ?_) (fun c9 => ?_)
    · have h := ite_t ((oI_lt0 ok0).mp c9) h
      cases h
    · have h := ite_f (fun q => c9 ((oI_lt0 ok0).mpr q)) h
      refine lv_iload_n hx hb d_1_56_4 rfl (lv_at hl 0 rfl) ?_
      refine lv_iload_n hx hb d_1_56_5 rfl (lv_at hl 1 rfl) ?_
      obtain ⟨ok1, h⟩ := ck_e h
      refine lv_icmp_lt (tgt := 20) hx hb d_1_56_6 (by decide) (fun c9 => ?_) (fun c9 => ?_)
      · have h := ite_t ((oI_lt (a := x0) (b := x1) ok0 ok1).mp c9) h
        clear h
        exact W.vret hx hb hr (fun t ht hW => qkA hP hD hS (fun k => k) rfl rfl ht) hS.2.2 d_1_56_20
      · have h := ite_f (fun q => c9 ((oI_lt (a := x0) (b := x1) ok0 ok1).mpr q)) h
        cases h
  exact key _ _ _ hts hP hS
set_option maxRecDepth 100000 in
set_option maxHeartbeats 4000000 in
theorem s_B_countOf (l : Launch) (z : Zz) (ad : Nat → Nat) (E : Ev) (M : Mm) (x1 : Int) (r : Int)  (hL : Lay E) (h : f_B_countOf E M x1 = some r) : CT l z ⟨"Ballothall", "countOf", "(I)I"⟩ prog_1_method_7_code 2 (some .int) [.ref (ad 1), .int (oI x1)] (wv z ad E M) 1 41 0 0 (fun _ => some (.int (oI r))) (fun _ => (wv z ad E M)) := by
  refine CT.of (own := "Ballothall") (by decide +kernel) (Nat.le_of_ble_eq_true rfl) rfl (fun p e s m below meth c A ls hx hb hml hr hts hown hlocks hin hA hG hZ hP hD hS hl => ?_)
  have hl : lv_has ls 2 [(0, .ref (ad 1)), (1, .int (oI x1))] := hl
  have key : ∀ (H : Heap) (locs : List Loc) (args : Array Value), (∀ w ∈ WG, w.before args s = true) → va_P z.1 classes (wv z ad E M) H → va_S A s.heap H locs → W p l e (rmK 1 41 0 0) s m args below meth c H locs 0 0 (MQ below (QK z A (fun _ => some (.int (oI r))) (fun _ => (wv z ad E M))) args s 0 0 A) (F0 m 0 ls []) := by
    intro H locs args hts hP hS
    unfold f_B_countOf at h
    refine lv_iload_n hx hb d_1_7_0 rfl (lv_at hl 1 rfl) ?_
    refine lv_aload_n hx hb d_1_7_1 rfl (lv_at hl 0 rfl) ?_
    refine m_gr (j := 2) (C := "Ballothall") (T := TX11) (N := 14) (ci := 11) (k := 0) hx hb hts iX11 hown hG hP (yi_1 hL) (yt_1 hL) rfl (by decide) w_397 (fun _ h9 => h9) rfl rfl (yr_1_0 hL) d_1_7_2 ?_
    refine m_giN (C := "Ballothall$BallotBox") (T := TX0) (N := 10) (ci := 0) (k := 3) hx hb hts iX0 hown hG hP (yi_2 hL) (yt_2 hL) rfl (by decide) n_58 rfl (fun _ h9 => h9) rfl rfl d_1_7_5 ?_
    obtain ⟨_, g0, h⟩ := bd_e h
    refine kS (As := [.int (oI x1), .int (oI (M 2 3))]) (rest := []) (s_B_needIndex l z ad E M x1 (M 2 3) hL g0) hx hb hml hown hts w_529 w_527 w_528 w_1 md_6cb26b ⟨Nat.le_of_ble_eq_true rfl, Nat.le_of_ble_eq_true rfl⟩ hG hZ hP hD hS hA rfl hl.1 rfl (Nat.le_of_ble_eq_true rfl) d_1_7_8 ⟨Nat.le_of_ble_eq_true rfl, Nat.le_of_ble_eq_true rfl⟩ (fun _ H locs hP hD hS => ?_)
    have hP : va_P z.1 classes (wv z ad E M) H := hP
    have hD : va_D A (wv z ad E M) := hD
    refine W.eq (g2 := F0 m 11 ls []) rfl ?_
    refine lv_aload_n hx hb d_1_7_11 rfl (lv_at hl 0 rfl) ?_
    refine m_gr (j := 2) (C := "Ballothall") (T := TX11) (N := 14) (ci := 11) (k := 0) hx hb hts iX11 hown hG hP (yi_1 hL) (yt_1 hL) rfl (by decide) w_397 (fun _ h9 => h9) rfl rfl (yr_1_0 hL) d_1_7_12 ?_
    refine m_grN (j := 5) (C := "Ballothall$BallotBox") (T := TX0) (N := 10) (ci := 0) (k := 5) hx hb hts iX0 hown hG hP (yi_2 hL) (yt_2 hL) rfl (by decide) n_66 rfl (fun _ h9 => h9) rfl rfl (yr_2_5 hL) d_1_7_15 ?_
    refine lv_iload_n hx hb d_1_7_18 rfl (lv_at hl 1 rfl) ?_
    obtain ⟨ok1, h⟩ := ck_e h
    refine m_ia hx hb hG hP (yi_5 hL) (yt_5 hL) ok1 d_1_7_19 ?_
    obtain rfl := in1 h
    exact W.iret hx hb hr (fun t ht hW => qkA hP hD hS (fun k => k) rfl rfl ht) hS.2.2 d_1_7_20
  exact key _ _ _ hts hP hS
set_option maxRecDepth 100000 in
set_option maxHeartbeats 4000000 in
theorem b_Bx_rankOf_2b (l : Launch) (z : Zz) (ad : Nat → Nat) (E : Ev) (M : Mm) (x1 : Int) (x2 : Int) (x3 : Int) (t : Nat) (w3 : Int)  {Q : State → Prop} {p : Program} {e : Env} {s : State} {m : MethodId} {below : List Frame} {meth : Method} {c : Code} {A : Nat → Prop} {args : Array Value} (hx : p.tables.exec = Jvm.exec) (hb : c.code = prog_2_method_12_code) (hml : c.maxLocals = 4) (hts : ∀ w ∈ WG, w.before args s = true) (hown : s.vm.findClass "Ballothall$BallotBox" = some m.cls) (hlocks : meth.locks = false) (hA : ∀ q, s.heap.size ≤ q → A q) (hG : KG z s) (hZ : FZ z A s) (hL : Lay E) (h : Bx_rankOf_2b E M x1 x2 x3 = some (t, w3)) (k0 : t = 0 → ∀ (H : Heap) (locs : List Loc) (ls : Array Slot), va_P z.1 classes (wv z ad E M) H → va_D A (wv z ad E M) → va_S A s.heap H locs → lv_has ls 4 [(0, .ref (ad 2)), (1, .int (oI x1)), (2, .int (oI x2)), (3, .int (oI w3))] → W p l e (rmK 1 41 0 0) s m args below meth c H locs 0 0 Q (F0 m 2 ls [])) (k1 : t = 1 → ∀ (H : Heap) (locs : List Loc) (ls : Array Slot), va_P z.1 classes (wv z ad E M) H → va_D A (wv z ad E M) → va_S A s.heap H locs → lv_has ls 4 [(3, .int (oI w3))] → W p l e (rmK 1 41 0 0) s m args below meth c H locs 0 0 Q (F0 m 27 ls [])) (k2 : t = 2 → ∀ (H : Heap) (locs : List Loc) (ls : Array Slot), va_P z.1 classes (wv z ad E M) H → va_D A (wv z ad E M) → va_S A s.heap H locs → lv_has ls 4 [(0, .ref (ad 2)), (1, .int (oI x1))] → W p l e (rmK 1 41 0 0) s m args below meth c H locs 0 0 Q (F0 m 35 ls [])) : ∀ (H : Heap) (locs : List Loc) (ls : Array Slot), va_P z.1 classes (wv z ad E M) H → va_D A (wv z ad E M) → va_S A s.heap H locs → lv_has ls 4 [(0, .ref (ad 2)), (1, .int (oI x1)), (2, .int (oI x2)), (3, .int (oI x3))] → W p l e (rmK 1 41 0 0) s m args below meth c H locs 0 0 Q (F0 m 2 ls []) := by
  intro H locs ls hP hD hS hl
  unfold Bx_rankOf_2b at h
  refine lv_iload_n hx hb d_2_12_2 rfl (lv_at hl 3 rfl) ?_
  refine lv_aload_n hx hb d_2_12_3 rfl (lv_at hl 0 rfl) ?_
  refine m_gr (j := 7) (C := "Ballothall$BallotBox") (T := TX0) (N := 10) (ci := 0) (k := 7) hx hb hts iX0 hown hG hP (yi_2 hL) (yt_2 hL) rfl (by decide) w_72 (fun _ h9 => h9) rfl rfl (yr_2_7 hL) d_2_12_4 ?_
  refine lv_iload_n hx hb d_2_12_7 rfl (lv_at hl 1 rfl) ?_
  obtain ⟨ok0, h⟩ := ck_e h
  refine m_ia hx hb hG hP (yi_7 hL) (yt_7 hL) ok0 d_2_12_8 ?_
  obtain ⟨ok1, h⟩ := ck_e h
  obtain ⟨ok2, h⟩ := ck_e h
  refine lv_icmp_ge (tgt := 35) hx hb d_2_12_9 (by decide) (fun c9 => ?_) (fun c9 => ?_)
  · have h := ite_t ((oI_le (a := (M 7 x1.toNat)) (b := x3) ok2 ok1).mp c9) h
    obtain ⟨rfl, rfl⟩ := in2 h
    exact k2 rfl H locs ls hP hD hS (lv_sub hl [0, 1] rfl)
  · have h := ite_f (fun q => c9 ((oI_le (a := (M 7 x1.toNat)) (b := x3) ok2 ok1).mpr q)) h
    refine lv_aload_n hx hb d_2_12_12 rfl (lv_at hl 0 rfl) ?_
    refine m_gr (j := 8) (C := "Ballothall$BallotBox") (T := TX0) (N := 10) (ci := 0) (k := 8) hx hb hts iX0 hown hG hP (yi_2 hL) (yt_2 hL) rfl (by decide) w_74 (fun _ h9 => h9) rfl rfl (yr_2_8 hL) d_2_12_13 ?_
    refine lv_iload_n hx hb d_2_12_16 rfl (lv_at hl 1 rfl) ?_
    refine m_ar (k := (9 + x1.toNat)) hx hb hG hP (yi_8 hL) (yt_8 hL) ok0 (ya_8 hL (inb_lt ok0)) d_2_12_17 ?_
    refine lv_iload_n hx hb d_2_12_18 rfl (lv_at hl 3 rfl) ?_
    obtain ⟨ok3, h⟩ := ck_e h
    refine m_ia hx hb hG hP (yg_8 hL ok0).1 (yg_8 hL ok0).2 ok3 d_2_12_19 ?_
    refine lv_iload_n hx hb d_2_12_20 rfl (lv_at hl 2 rfl) ?_
    obtain ⟨r4, g4, h⟩ := bd_e h
    refine kSN (As := [.int (oI (M (9 + x1.toNat) x3.toNat)), .int (oI x2)]) (rest := []) (s_B_has l z ad E M (M (9 + x1.toNat) x3.toNat) x2 r4 hL g4) hx hb hml hown hts w_693 n_1031 w_692 w_1 md_26545c ⟨Nat.le_of_ble_eq_true rfl, Nat.le_of_ble_eq_true rfl⟩ hG hZ hP hD hS hA rfl hl.1 rfl (Nat.le_of_ble_eq_true rfl) d_2_12_21 ⟨Nat.le_of_ble_eq_true rfl, Nat.le_of_ble_eq_true rfl⟩ (fun _ H locs hP hD hS => ?_)
    have hP : va_P z.1 classes (wv z ad E M) H := hP
    have hD : va_D A (wv z ad E M) := hD
    refine W.eq (g2 := F0 m 24 ls [.int (oI r4)]) rfl ?_
    obtain ⟨ok5, h⟩ := ck_e h
    refine lv_if_eq (tgt := 29) hx hb d_2_12_24 (by decide) (fun c9 => ?_) (fun c9 => ?_)
    · have h := ite_t ((oI_eq0 ok5).mp c9) h
      refine lv_iinc (v := oI (x3 + 1)) (lv' := [(3, .int (oI (x3 + 1))), (0, .ref (ad 2)), (1, .int (oI x1)), (2, .int (oI x2))]) hx hb d_2_12_29 hl (k := 3) rfl (oI_add x3 1) (by decide) rfl (fun ls hl => ?_)
      refine lv_goto (tgt := 2) hx hb d_2_12_32 (by decide) ?_
      obtain ⟨rfl, rfl⟩ := in2 h
      exact k0 rfl H locs ls hP hD hS (lv_sub hl [1, 2, 3, 0] rfl)
    · have h := ite_f (fun q => c9 ((oI_eq0 ok5).mpr q)) h
      obtain ⟨rfl, rfl⟩ := in2 h
      exact k1 rfl H locs ls hP hD hS (lv_sub hl [3] rfl)
set_option maxRecDepth 100000 in
set_option maxHeartbeats 4000000 in
theorem s_Bx_rankOf_2 (l : Launch) (z : Zz) (ad : Nat → Nat) (E : Ev) (x1 : Int) (x2 : Int) {Q : State → Prop} {p : Program} {e : Env} {s : State} {m : MethodId} {below : List Frame} {meth : Method} {c : Code} {A : Nat → Prop} {args : Array Value} (hx : p.tables.exec = Jvm.exec) (hb : c.code = prog_2_method_12_code) (hml : c.maxLocals = 4) (hts : ∀ w ∈ WG, w.before args s = true) (hown : s.vm.findClass "Ballothall$BallotBox" = some m.cls) (hlocks : meth.locks = false) (hA : ∀ q, s.heap.size ≤ q → A q) (hG : KG z s) (hZ : FZ z A s) (hL : Lay E) : ∀ (fu : Nat) (M : Mm) (x3 : Int) (t : Nat) (w3 : Int), l_Bx_rankOf_2 E x1 x2 fu M x3 = some (t, w3) → (t = 1 → ∀ (H : Heap) (locs : List Loc) (ls : Array Slot), va_P z.1 classes (wv z ad E M) H → va_D A (wv z ad E M) → va_S A s.heap H locs → lv_has ls 4 [(3, .int (oI w3))] → W p l e (rmK 1 41 0 0) s m args below meth c H locs 0 0 Q (F0 m 27 ls [])) → (t = 2 → ∀ (H : Heap) (locs : List Loc) (ls : Array Slot), va_P z.1 classes (wv z ad E M) H → va_D A (wv z ad E M) → va_S A s.heap H locs → lv_has ls 4 [(0, .ref (ad 2)), (1, .int (oI x1))] → W p l e (rmK 1 41 0 0) s m args below meth c H locs 0 0 Q (F0 m 35 ls [])) → ∀ (H : Heap) (locs : List Loc) (ls : Array Slot), va_P z.1 classes (wv z ad E M) H → va_D A (wv z ad E M) → va_S A s.heap H locs → lv_has ls 4 [(0, .ref (ad 2)), (1, .int (oI x1)), (2, .int (oI x2)), (3, .int (oI x3))] → W p l e (rmK 1 41 0 0) s m args below meth c H locs 0 0 Q (F0 m 2 ls []) := by
  intro fu
  induction fu with
  | zero =>
    intro M x3 t w3 h
    have h : (none : Option (Nat × Int)) = some _ := h
    cases h
  | succ fu ih =>
    intro M x3 t w3 h k1 k2 H locs ls hP hD hS hl
    obtain ⟨⟨t0, w30⟩, g0, h⟩ := bd_e h
    refine b_Bx_rankOf_2b l z ad E M x1 x2 x3 t0 w30 hx hb hml hts hown hlocks hA hG hZ hL g0 (fun e0 => ?_) (fun e0 => ?_) (fun e0 => ?_) H locs ls hP hD hS hl
    · subst e0
      have h := ite_t rfl h
      exact ih M w30 t w3 h k1 k2
    · subst e0
      have h := ite_f (by decide) h
      obtain ⟨rfl, rfl⟩ := in2 h
      exact k1 rfl
    · subst e0
      have h := ite_f (by decide) h
      obtain ⟨rfl, rfl⟩ := in2 h
      exact k2 rfl
set_option maxRecDepth 100000 in
set_option maxHeartbeats 4000000 in
theorem s_Bx_rankOf (l : Launch) (z : Zz) (ad : Nat → Nat) (E : Ev) (M : Mm) (x1 : Int) (x2 : Int) (r : Int)  (hL : Lay E) (h : f_Bx_rankOf E M x1 x2 = some r) : CT l z ⟨"Ballothall$BallotBox", "rankOf", "(II)I"⟩ prog_2_method_12_code 4 (some .int) [.ref (ad 2), .int (oI x1), .int (oI x2)] (wv z ad E M) 1 41 0 0 (fun _ => some (.int (oI r))) (fun _ => (wv z ad E M)) := by
  refine CT.of (own := "Ballothall$BallotBox") (by decide +kernel) (Nat.le_of_ble_eq_true rfl) rfl (fun p e s m below meth c A ls hx hb hml hr hts hown hlocks hin hA hG hZ hP hD hS hl => ?_)
  have hl : lv_has ls 4 [(0, .ref (ad 2)), (1, .int (oI x1)), (2, .int (oI x2))] := hl
  have key : ∀ (H : Heap) (locs : List Loc) (args : Array Value), (∀ w ∈ WG, w.before args s = true) → va_P z.1 classes (wv z ad E M) H → va_S A s.heap H locs → W p l e (rmK 1 41 0 0) s m args below meth c H locs 0 0 (MQ below (QK z A (fun _ => some (.int (oI r))) (fun _ => (wv z ad E M))) args s 0 0 A) (F0 m 0 ls []) := by
    intro H locs args hts hP hS
    unfold f_Bx_rankOf at h
    refine lv_iconst (v := oI 0) hx hb d_2_12_0 (by decide +kernel) ?_
    refine lv_istore_n (lv' := [(3, .int (oI 0)), (0, .ref (ad 2)), (1, .int (oI x1)), (2, .int (oI x2))]) hx hb d_2_12_1 rfl hl (by decide) rfl (fun ls hl => ?_)
    obtain ⟨⟨t6, v6_3⟩, g6, h⟩ := bd_e h
    refine s_Bx_rankOf_2 l z ad E x1 x2 hx hb hml hts hown hlocks hA hG hZ hL FU M 0 t6 v6_3 g6 (fun e6 H locs ls hP hD hS hl => ?_) (fun e6 H locs ls hP hD hS hl => ?_) H locs ls hP hD hS (lv_sub hl [1, 2, 3, 0] rfl)
    · subst e6
      have h := ite_t rfl h
      refine lv_iload_n hx hb d_2_12_27 rfl (lv_at hl 0 rfl) ?_
      obtain rfl := in1 h
      exact W.iret hx hb hr (fun t ht hW => qkA hP hD hS (fun k => k) rfl rfl ht) hS.2.2 d_2_12_28
    · subst e6
      have h := ite_f (by decide) h
      have h := ite_t rfl h
      refine lv_aload_n hx hb d_2_12_35 rfl (lv_at hl 0 rfl) ?_
      refine m_gr (j := 7) (C := "Ballothall$BallotBox") (T := TX0) (N := 10) (ci := 0) (k := 7) hx hb hts iX0 hown hG hP (yi_2 hL) (yt_2 hL) rfl (by decide) w_72 (fun _ h9 => h9) rfl rfl (yr_2_7 hL) d_2_12_36 ?_
      refine lv_iload_n hx hb d_2_12_39 rfl (lv_at hl 1 rfl) ?_
      obtain ⟨ok7, h⟩ := ck_e h
      refine m_ia hx hb hG hP (yi_7 hL) (yt_7 hL) ok7 d_2_12_40 ?_
      obtain rfl := in1 h
      exact W.iret hx hb hr (fun t ht hW => qkA hP hD hS (fun k => k) rfl rfl ht) hS.2.2 d_2_12_41
  exact key _ _ _ hts hP hS
set_option maxRecDepth 100000 in
set_option maxHeartbeats 4000000 in
theorem s_B_kindAt (l : Launch) (z : Zz) (ad : Nat → Nat) (E : Ev) (M : Mm) (x1 : Int) (x2 : Int) (x3 : Int) (r : Int)  (hL : Lay E) (h : f_B_kindAt E M x1 x2 x3 = some r) : CT l z ⟨"Ballothall", "kindAt", "(IIZ)I"⟩ prog_1_method_8_code 4 (some .int) [.ref (ad 1), .int (oI x1), .int (oI x2), .int (oI x3)] (wv z ad E M) 2 64 0 0 (fun _ => some (.int (oI r))) (fun _ => (wv z ad E M)) := by
  refine CT.of (own := "Ballothall") (by decide +kernel) (Nat.le_of_ble_eq_true rfl) rfl (fun p e s m below meth c A ls hx hb hml hr hts hown hlocks hin hA hG hZ hP hD hS hl => ?_)
  have hl : lv_has ls 4 [(0, .ref (ad 1)), (1, .int (oI x1)), (2, .int (oI x2)), (3, .int (oI x3))] := hl
  have key : ∀ (H : Heap) (locs : List Loc) (args : Array Value), (∀ w ∈ WG, w.before args s = true) → va_P z.1 classes (wv z ad E M) H → va_S A s.heap H locs → W p l e (rmK 2 64 0 0) s m args below meth c H locs 0 0 (MQ below (QK z A (fun _ => some (.int (oI r))) (fun _ => (wv z ad E M))) args s 0 0 A) (F0 m 0 ls []) := by
    intro H locs args hts hP hS
    unfold f_B_kindAt at h
    refine lv_iload_n hx hb d_1_8_0 rfl (lv_at hl 1 rfl) ?_
    refine lv_aload_n hx hb d_1_8_1 rfl (lv_at hl 0 rfl) ?_
    refine m_gr (j := 2) (C := "Ballothall") (T := TX11) (N := 14) (ci := 11) (k := 0) hx hb hts iX11 hown hG hP (yi_1 hL) (yt_1 hL) rfl (by decide) w_397 (fun _ h9 => h9) rfl rfl (yr_1_0 hL) d_1_8_2 ?_
    refine m_giN (C := "Ballothall$BallotBox") (T := TX0) (N := 10) (ci := 0) (k := 3) hx hb hts iX0 hown hG hP (yi_2 hL) (yt_2 hL) rfl (by decide) n_58 rfl (fun _ h9 => h9) rfl rfl d_1_8_5 ?_
    obtain ⟨_, g0, h⟩ := bd_e h
    refine kS (As := [.int (oI x1), .int (oI (M 2 3))]) (rest := []) (s_B_needIndex l z ad E M x1 (M 2 3) hL g0) hx hb hml hown hts w_529 w_527 w_528 w_1 md_6cb26b ⟨Nat.le_of_ble_eq_true rfl, Nat.le_of_ble_eq_true rfl⟩ hG hZ hP hD hS hA rfl hl.1 rfl (Nat.le_of_ble_eq_true rfl) d_1_8_8 ⟨Nat.le_of_ble_eq_true rfl, Nat.le_of_ble_eq_true rfl⟩ (fun _ H locs hP hD hS => ?_)
    have hP : va_P z.1 classes (wv z ad E M) H := hP
    have hD : va_D A (wv z ad E M) := hD
    refine W.eq (g2 := F0 m 11 ls []) rfl ?_
    refine lv_iload_n hx hb d_1_8_11 rfl (lv_at hl 2 rfl) ?_
    refine lv_aload_n hx hb d_1_8_12 rfl (lv_at hl 0 rfl) ?_
    refine m_gr (j := 2) (C := "Ballothall") (T := TX11) (N := 14) (ci := 11) (k := 0) hx hb hts iX11 hown hG hP (yi_1 hL) (yt_1 hL) rfl (by decide) w_397 (fun _ h9 => h9) rfl rfl (yr_1_0 hL) d_1_8_13 ?_
    refine m_giN (C := "Ballothall$BallotBox") (T := TX0) (N := 10) (ci := 0) (k := 2) hx hb hts iX0 hown hG hP (yi_2 hL) (yt_2 hL) rfl (by decide) n_52 rfl (fun _ h9 => h9) rfl rfl d_1_8_16 ?_
    obtain ⟨_, g1, h⟩ := bd_e h
    refine kS (As := [.int (oI x2), .int (oI (M 2 2))]) (rest := []) (s_B_needIndex l z ad E M x2 (M 2 2) hL g1) hx hb hml hown hts w_529 w_527 w_528 w_1 md_6cb26b ⟨Nat.le_of_ble_eq_true rfl, Nat.le_of_ble_eq_true rfl⟩ hG hZ hP hD hS hA rfl hl.1 rfl (Nat.le_of_ble_eq_true rfl) d_1_8_19 ⟨Nat.le_of_ble_eq_true rfl, Nat.le_of_ble_eq_true rfl⟩ (fun _ H locs hP hD hS => ?_)
    have hP : va_P z.1 classes (wv z ad E M) H := hP
    have hD : va_D A (wv z ad E M) := hD
    refine W.eq (g2 := F0 m 22 ls []) rfl ?_
    refine lv_iload_n hx hb d_1_8_22 rfl (lv_at hl 3 rfl) ?_
    obtain ⟨ok2, h⟩ := ck_e h
    refine lv_if_eq (tgt := 38) hx hb d_1_8_23 (by decide) (fun c9 => ?_) (fun c9 => ?_)
    · have h := ite_t ((oI_eq0 ok2).mp c9) h
      refine lv_aload_n hx hb d_1_8_38 rfl (lv_at hl 0 rfl) ?_
      refine m_gr (j := 2) (C := "Ballothall") (T := TX11) (N := 14) (ci := 11) (k := 0) hx hb hts iX11 hown hG hP (yi_1 hL) (yt_1 hL) rfl (by decide) w_397 (fun _ h9 => h9) rfl rfl (yr_1_0 hL) d_1_8_39 ?_
      refine m_grN (j := 6) (C := "Ballothall$BallotBox") (T := TX0) (N := 10) (ci := 0) (k := 6) hx hb hts iX0 hown hG hP (yi_2 hL) (yt_2 hL) rfl (by decide) n_71 rfl (fun _ h9 => h9) rfl rfl (yr_2_6 hL) d_1_8_42 ?_
      refine lv_iload_n hx hb d_1_8_45 rfl (lv_at hl 1 rfl) ?_
      obtain ⟨ok3, h⟩ := ck_e h
      refine m_ia hx hb hG hP (yi_6 hL) (yt_6 hL) ok3 d_1_8_46 ?_
      refine lv_iload_n hx hb d_1_8_47 rfl (lv_at hl 2 rfl) ?_
      obtain ⟨ok4, h⟩ := ck_e h
      obtain ⟨ok5, h⟩ := ck_e h
      refine lv_ishr hx hb d_1_8_48 ?_
      refine nrm (oI_shr (a := (M 6 x1.toNat)) ok4 ok5.1 ok5.2) ?_
      refine lv_iconst (v := oI 1) hx hb d_1_8_49 (by decide +kernel) ?_
      refine lv_iand hx hb d_1_8_50 ?_
      refine nrm (oI_m1 _) ?_
      obtain rfl := in1 h
      exact W.iret hx hb hr (fun t ht hW => qkA hP hD hS (fun k => k) rfl rfl ht) hS.2.2 d_1_8_51
    · have h := ite_f (fun q => c9 ((oI_eq0 ok2).mpr q)) h
      refine lv_aload_n hx hb d_1_8_26 rfl (lv_at hl 0 rfl) ?_
      refine m_gr (j := 2) (C := "Ballothall") (T := TX11) (N := 14) (ci := 11) (k := 0) hx hb hts iX11 hown hG hP (yi_1 hL) (yt_1 hL) rfl (by decide) w_397 (fun _ h9 => h9) rfl rfl (yr_1_0 hL) d_1_8_27 ?_
      refine lv_iload_n hx hb d_1_8_30 rfl (lv_at hl 1 rfl) ?_
      refine lv_iload_n hx hb d_1_8_31 rfl (lv_at hl 2 rfl) ?_
      obtain ⟨r6, g6, h⟩ := bd_e h
      refine kVN (As := [.int (oI x1), .int (oI x2)]) (rest := []) (s_Bx_rankOf l z ad E M x1 x2 r6 hL g6) hx hb hml hown hts w_1062 n_1059 w_1061 w_s_6d1705 w_2 md_f4341f ⟨Nat.le_of_ble_eq_true rfl, Nat.le_of_ble_eq_true rfl⟩ hG hZ hP hD hS hA 2 (wv_o (ci := 0) (yi_2 hL) (yt_2 hL)) rfl rfl rfl hl.1 rfl (Nat.le_of_ble_eq_true rfl) d_1_8_32 ⟨Nat.le_of_ble_eq_true rfl, Nat.le_of_ble_eq_true rfl⟩ (fun _ H locs hP hD hS => ?_)
      have hP : va_P z.1 classes (wv z ad E M) H := hP
      have hD : va_D A (wv z ad E M) := hD
      refine W.eq (g2 := F0 m 35 ls [.int (oI r6)]) rfl ?_
      refine lv_goto (tgt := 51) hx hb d_1_8_35 (by decide) ?_
      obtain rfl := in1 h
      exact W.iret hx hb hr (fun t ht hW => qkA hP hD hS (fun k => k) rfl rfl ht) hS.2.2 d_1_8_51
  exact key _ _ _ hts hP hS
set_option maxRecDepth 100000 in
set_option maxHeartbeats 4000000 in
theorem b_La_ballots_18b (l : Launch) (z : Zz) (E0 : Ev) (ad0 : Nat → Nat) (ad : Nat → Nat) (E : Ev) (M : Mm) (q1 : Nat) (q2 : Nat) (q3 : Nat) (q4 : Nat) (x5 : Int) (t : Nat) (w5 : Int) (F : Ev) (N : Mm) {Q : State → Prop} {p : Program} {e : Env} {s : State} {m : MethodId} {below : List Frame} {meth : Method} {c : Code} {A : Nat → Prop} {args : Array Value} (hx : p.tables.exec = Jvm.exec) (hb : c.code = method_4_code) (hml : c.maxLocals = 14) (hts : ∀ w ∈ WG, w.before args s = true) (hown : s.vm.findClass "BallothallLaw" = some m.cls) (hlocks : meth.locks = false) (hA : ∀ q, s.heap.size ≤ q → A q) (hG : KG z s) (hZ : FZ z A s) (mc ms c0 s0 c1 s1 : Nat) (hc : c0 + 0 ≤ c1) (hs : s0 + 0 ≤ s1) (hm : c1 ≤ mc) (hm2 : s1 ≤ ms) (hag0 : ∀ i, i < nE E0 → ad i = ad0 i) (hE0 : nE E0 ≤ nE E) (h : La_ballots_18b E M q1 q2 q3 q4 x5 = some (t, w5, F, N)) (k0 : ∀ (ad1 : Nat → Nat), (∀ i, i < nE E0 → ad1 i = ad0 i) → nE E0 ≤ nE F → t = 0 → ∀ (H : Heap) (locs : List Loc) (ls : Array Slot), va_P z.1 classes (wv z ad1 F N) H → va_D A (wv z ad1 F N) → va_S A s.heap H locs → lv_has ls 14 [(0, .ref (ad1 1)), (1, .ref (ad1 q1)), (2, .ref (ad1 q2)), (3, .ref (ad1 q3)), (4, .ref (ad1 q4)), (5, .int (oI w5))] → W p l e (rmK 6 171 mc ms) s m args below meth c H locs c1 s1 Q (F0 m 18 ls [])) (k1 : ∀ (ad1 : Nat → Nat), (∀ i, i < nE E0 → ad1 i = ad0 i) → nE E0 ≤ nE F → t = 1 → ∀ (H : Heap) (locs : List Loc) (ls : Array Slot), va_P z.1 classes (wv z ad1 F N) H → va_D A (wv z ad1 F N) → va_S A s.heap H locs → lv_has ls 14 [(0, .ref (ad1 1)), (1, .ref (ad1 q1)), (2, .ref (ad1 q2)), (3, .ref (ad1 q3)), (4, .ref (ad1 q4))] → W p l e (rmK 6 171 mc ms) s m args below meth c H locs c1 s1 Q (F0 m 66 ls [])) : ∀ (H : Heap) (locs : List Loc) (ls : Array Slot), va_P z.1 classes (wv z ad E M) H → va_D A (wv z ad E M) → va_S A s.heap H locs → lv_has ls 14 [(0, .ref (ad 1)), (1, .ref (ad q1)), (2, .ref (ad q2)), (3, .ref (ad q3)), (4, .ref (ad q4)), (5, .int (oI x5))] → W p l e (rmK 6 171 mc ms) s m args below meth c H locs c0 s0 Q (F0 m 18 ls []) := by
  intro H locs ls hP hD hS hl
  unfold La_ballots_18b at h
  obtain ⟨hL, h⟩ := ck_e h
  obtain ⟨h_q1, h⟩ := ck_e h
  obtain ⟨h_q2, h⟩ := ck_e h
  obtain ⟨h_q3, h⟩ := ck_e h
  obtain ⟨h_q4, h⟩ := ck_e h
  refine lv_iload hx hb d_L4_18 (lv_at hl 5 rfl) ?_
  refine lv_aload_n hx hb d_L4_20 rfl (lv_at hl 1 rfl) ?_
  refine m_giN (C := "BallothallLaw$Box") (T := TX12) (N := 4) (ci := 12) (k := 0) hx hb hts iX12 hown hG hP h_q1.1 h_q1.2 rfl (by decide) n_775 rfl (fun _ h9 => h9) rfl rfl d_L4_21 ?_
  obtain ⟨ok4, h⟩ := ck_e h
  obtain ⟨ok5, h⟩ := ck_e h
  refine lv_icmp_ge (tgt := 66) hx hb d_L4_24 (by decide) (fun c9 => ?_) (fun c9 => ?_)
  · have h := ite_t ((oI_le (a := (M q1 0)) (b := x5) ok5 ok4).mp c9) h
    obtain ⟨rfl, rfl, rfl, rfl⟩ := in4 h
    exact W.wide (by omega) (by omega) (k1 ad hag0 hE0 rfl H locs ls hP hD hS (lv_sub hl [0, 1, 2, 3, 4] rfl))
  · have h := ite_f (fun q => c9 ((oI_le (a := (M q1 0)) (b := x5) ok5 ok4).mpr q)) h
    refine lv_aload_n hx hb d_L4_27 rfl (lv_at hl 2 rfl) ?_
    refine lv_iload hx hb d_L4_28 (lv_at hl 5 rfl) ?_
    refine lv_iconst (v := oI 1) hx hb d_L4_30 (by decide +kernel) ?_
    refine lv_iadd hx hb d_L4_31 ?_
    refine nrm (oI_add _ _) ?_
    obtain ⟨⟨r6, M6⟩, g6, h⟩ := bd_e h
    refine kS (As := [.ref (ad q2), .int (oI (x5 + 1))]) (rest := []) (s_La_next l z ad E M q2 (x5 + 1) r6 M6 hL g6) hx hb hml hown hts w_797 w_795 w_796 w_0 md_199d8f ⟨Nat.le_of_ble_eq_true rfl, Nat.le_of_ble_eq_true rfl⟩ hG hZ hP hD hS hA rfl hl.1 rfl (Nat.le_of_ble_eq_true rfl) d_L4_32 ⟨(show _ ≤ mc by omega), (show _ ≤ ms by omega)⟩ (fun _ H locs hP hD hS => ?_)
    have hP : va_P z.1 classes (wv z ad E M6) H := hP
    have hD : va_D A (wv z ad E M6) := hD
    refine W.eq (g2 := F0 m 35 ls [.int (oI r6)]) rfl ?_
    refine lv_istore (lv' := [(6, .int (oI r6)), (0, .ref (ad 1)), (1, .ref (ad q1)), (2, .ref (ad q2)), (3, .ref (ad q3)), (4, .ref (ad q4)), (5, .int (oI x5))]) hx hb d_L4_35 hl (by decide) rfl (fun ls hl => ?_)
    refine lv_aload hx hb d_L4_37 (lv_at hl 5 rfl) ?_
    refine lv_iload hx hb d_L4_39 (lv_at hl 6 rfl) ?_
    refine lv_aload hx hb d_L4_41 (lv_at hl 5 rfl) ?_
    refine lv_iload hx hb d_L4_43 (lv_at hl 0 rfl) ?_
    obtain ⟨ok7, h⟩ := ck_e h
    refine m_ia hx hb hG hP h_q4.1 (isIA_T h_q4) ok7 d_L4_45 ?_
    obtain ⟨ok8, h⟩ := ck_e h
    refine m_is hx hb hG hP hD hS h_q4.1 (isIA_T h_q4) ok8 d_L4_46 (fun H locs hP hD hS => ?_)
    have hP : va_P z.1 classes (wv z ad E (u2 M6 q4 x5.toNat (M6 q4 r6.toNat))) H := hP
    have hD : va_D A (wv z ad E (u2 M6 q4 x5.toNat (M6 q4 r6.toNat))) := hD
    refine lv_aload hx hb d_L4_47 (lv_at hl 5 rfl) ?_
    refine lv_iload hx hb d_L4_49 (lv_at hl 0 rfl) ?_
    refine lv_iload hx hb d_L4_51 (lv_at hl 6 rfl) ?_
    refine m_is hx hb hG hP hD hS h_q4.1 (isIA_T h_q4) ok7 d_L4_53 (fun H locs hP hD hS => ?_)
    have hP : va_P z.1 classes (wv z ad E (u2 (u2 M6 q4 x5.toNat (M6 q4 r6.toNat)) q4 r6.toNat x5)) H := hP
    have hD : va_D A (wv z ad E (u2 (u2 M6 q4 x5.toNat (M6 q4 r6.toNat)) q4 r6.toNat x5)) := hD
    refine lv_aload_n hx hb d_L4_54 rfl (lv_at hl 4 rfl) ?_
    refine lv_iload hx hb d_L4_55 (lv_at hl 6 rfl) ?_
    refine lv_bipush (v := oI 9) hx hb d_L4_57 (by decide +kernel) ?_
    obtain ⟨ok9, h⟩ := ck_e h
    refine m_is hx hb hG hP hD hS h_q3.1 (isIA_T h_q3) ok9 d_L4_59 (fun H locs hP hD hS => ?_)
    have hP : va_P z.1 classes (wv z ad E (u2 (u2 (u2 M6 q4 x5.toNat (M6 q4 r6.toNat)) q4 r6.toNat x5) q3 x5.toNat 9)) H := hP
    have hD : va_D A (wv z ad E (u2 (u2 (u2 M6 q4 x5.toNat (M6 q4 r6.toNat)) q4 r6.toNat x5) q3 x5.toNat 9)) := hD
    refine lv_iinc (v := oI (x5 + 1)) (lv' := [(5, .int (oI (x5 + 1))), (6, .int (oI r6)), (0, .ref (ad 1)), (1, .ref (ad q1)), (2, .ref (ad q2)), (3, .ref (ad q3)), (4, .ref (ad q4))]) hx hb d_L4_60 hl (k := 6) rfl (oI_add x5 1) (by decide) rfl (fun ls hl => ?_)
    refine lv_goto (tgt := 18) hx hb d_L4_63 (by decide) ?_
    obtain ⟨rfl, rfl, rfl, rfl⟩ := in4 h
    exact W.wide (by omega) (by omega) (k0 ad hag0 hE0 rfl H locs ls hP hD hS (lv_sub hl [2, 3, 4, 5, 6, 0] rfl))
set_option maxRecDepth 100000 in
set_option maxHeartbeats 4000000 in
theorem s_La_ballots_18 (l : Launch) (z : Zz) (E0 : Ev) (ad0 : Nat → Nat) (q1 : Nat) (q2 : Nat) (q3 : Nat) (q4 : Nat) {Q : State → Prop} {p : Program} {e : Env} {s : State} {m : MethodId} {below : List Frame} {meth : Method} {c : Code} {A : Nat → Prop} {args : Array Value} (hx : p.tables.exec = Jvm.exec) (hb : c.code = method_4_code) (hml : c.maxLocals = 14) (hts : ∀ w ∈ WG, w.before args s = true) (hown : s.vm.findClass "BallothallLaw" = some m.cls) (hlocks : meth.locks = false) (hA : ∀ q, s.heap.size ≤ q → A q) (hG : KG z s) (hZ : FZ z A s) (mc ms c1 s1 : Nat) (hm : c1 ≤ mc) (hm2 : s1 ≤ ms) : ∀ (fu c0 s0 : Nat) (ad : Nat → Nat) (E : Ev) (M : Mm) (x5 : Int) (t : Nat) (w5 : Int) (F : Ev) (N : Mm), c0 + fu * 0 ≤ c1 → s0 + fu * 0 ≤ s1 → (∀ i, i < nE E0 → ad i = ad0 i) → nE E0 ≤ nE E → l_La_ballots_18 q1 q2 q3 q4 fu E M x5 = some (t, w5, F, N) → (∀ (ad1 : Nat → Nat), (∀ i, i < nE E0 → ad1 i = ad0 i) → nE E0 ≤ nE F → t = 1 → ∀ (H : Heap) (locs : List Loc) (ls : Array Slot), va_P z.1 classes (wv z ad1 F N) H → va_D A (wv z ad1 F N) → va_S A s.heap H locs → lv_has ls 14 [(0, .ref (ad1 1)), (1, .ref (ad1 q1)), (2, .ref (ad1 q2)), (3, .ref (ad1 q3)), (4, .ref (ad1 q4))] → W p l e (rmK 6 171 mc ms) s m args below meth c H locs c1 s1 Q (F0 m 66 ls [])) → ∀ (H : Heap) (locs : List Loc) (ls : Array Slot), va_P z.1 classes (wv z ad E M) H → va_D A (wv z ad E M) → va_S A s.heap H locs → lv_has ls 14 [(0, .ref (ad 1)), (1, .ref (ad q1)), (2, .ref (ad q2)), (3, .ref (ad q3)), (4, .ref (ad q4)), (5, .int (oI x5))] → W p l e (rmK 6 171 mc ms) s m args below meth c H locs c0 s0 Q (F0 m 18 ls []) := by
  intro fu
  induction fu with
  | zero =>
    intro c0 s0 ad E M x5 t w5 F N hc hs hag0 hE0 h
    have h : (none : Option (Nat × Int × Ev × Mm)) = some _ := h
    cases h
  | succ fu ih =>
    intro c0 s0 ad E M x5 t w5 F N hc hs hag0 hE0 h k1 H locs ls hP hD hS hl
    obtain ⟨⟨t0, w50, F9, N9⟩, g0, h⟩ := bd_e h
    refine W.wide (Nat.le_refl _) (Nat.le_refl _) (b_La_ballots_18b l z E0 ad0 ad E M q1 q2 q3 q4 x5 t0 w50 F9 N9 hx hb hml hts hown hlocks hA hG hZ mc ms c0 s0 (c0 + 0) (s0 + 0) (Nat.le_refl _) (Nat.le_refl _) (by omega) (by omega) hag0 hE0 g0 (fun ad1 ha he e0 => ?_) (fun ad1 ha he e0 => ?_) H locs ls hP hD hS hl)
    · subst e0
      have h := ite_t rfl h
      exact ih (c0 + 0) (s0 + 0) ad1 F9 N9 w50 t w5 F N (by omega) (by omega) ha he h k1
    · subst e0
      have h := ite_f (by decide) h
      obtain ⟨rfl, rfl, rfl, rfl⟩ := in4 h
      exact fun H locs ls hP hD hS hl => W.wide (by omega) (by omega) (k1 ad1 ha he rfl H locs ls hP hD hS hl)
set_option maxRecDepth 100000 in
set_option maxHeartbeats 4000000 in
theorem b_La_ballots_j207 (l : Launch) (z : Zz) (E0 : Ev) (ad0 : Nat → Nat) (ad : Nat → Nat) (E : Ev) (M : Mm) (q1 : Nat) (q2 : Nat) (q3 : Nat) (q4 : Nat) (x5 : Int) (q6 : Nat) (x7 : Int) (x8 : Int) (x9 : Int) (t : Nat) (w7 : Int) (w8 : Int) (w9 : Int) (F : Ev) (N : Mm) {Q : State → Prop} {p : Program} {e : Env} {s : State} {m : MethodId} {below : List Frame} {meth : Method} {c : Code} {A : Nat → Prop} {args : Array Value} (hx : p.tables.exec = Jvm.exec) (hb : c.code = method_4_code) (hml : c.maxLocals = 14) (hts : ∀ w ∈ WG, w.before args s = true) (hown : s.vm.findClass "BallothallLaw" = some m.cls) (hlocks : meth.locks = false) (hA : ∀ q, s.heap.size ≤ q → A q) (hG : KG z s) (hZ : FZ z A s) (mc ms c0 s0 c1 s1 : Nat) (hc : c0 + 0 ≤ c1) (hs : s0 + 0 ≤ s1) (hm : c1 ≤ mc) (hm2 : s1 ≤ ms) (hag0 : ∀ i, i < nE E0 → ad i = ad0 i) (hE0 : nE E0 ≤ nE E) (h : La_ballots_j207 E M q1 q2 q3 q4 x5 q6 x7 x8 x9 = some (t, w7, w8, w9, F, N)) (k0 : ∀ (ad1 : Nat → Nat), (∀ i, i < nE E0 → ad1 i = ad0 i) → nE E0 ≤ nE F → t = 0 → ∀ (H : Heap) (locs : List Loc) (ls : Array Slot), va_P z.1 classes (wv z ad1 F N) H → va_D A (wv z ad1 F N) → va_S A s.heap H locs → lv_has ls 14 [(0, .ref (ad1 1)), (1, .ref (ad1 q1)), (2, .ref (ad1 q2)), (3, .ref (ad1 q3)), (4, .ref (ad1 q4)), (5, .int (oI x5)), (6, .ref (ad1 q6)), (7, .int (oI w7)), (8, .int (oI w8)), (9, .int (oI w9))] → W p l e (rmK 6 171 mc ms) s m args below meth c H locs c1 s1 Q (F0 m 109 ls [])) (k1 : ∀ (ad1 : Nat → Nat), (∀ i, i < nE E0 → ad1 i = ad0 i) → nE E0 ≤ nE F → t = 1 → ∀ (H : Heap) (locs : List Loc) (ls : Array Slot), va_P z.1 classes (wv z ad1 F N) H → va_D A (wv z ad1 F N) → va_S A s.heap H locs → lv_has ls 14 [(0, .ref (ad1 1)), (1, .ref (ad1 q1)), (2, .ref (ad1 q2)), (3, .ref (ad1 q3)), (5, .int (oI x5)), (6, .ref (ad1 q6)), (7, .int (oI w7))] → W p l e (rmK 6 171 mc ms) s m args below meth c H locs c1 s1 Q (F0 m 238 ls [])) : ∀ (H : Heap) (locs : List Loc) (ls : Array Slot), va_P z.1 classes (wv z ad E M) H → va_D A (wv z ad E M) → va_S A s.heap H locs → lv_has ls 14 [(0, .ref (ad 1)), (1, .ref (ad q1)), (2, .ref (ad q2)), (3, .ref (ad q3)), (4, .ref (ad q4)), (5, .int (oI x5)), (6, .ref (ad q6)), (7, .int (oI x7)), (8, .int (oI x8)), (9, .int (oI x9))] → W p l e (rmK 6 171 mc ms) s m args below meth c H locs c0 s0 Q (F0 m 207 ls []) := by
  intro H locs ls hP hD hS hl
  unfold La_ballots_j207 at h
  obtain ⟨hL, h⟩ := ck_e h
  obtain ⟨h_q1, h⟩ := ck_e h
  obtain ⟨h_q2, h⟩ := ck_e h
  obtain ⟨h_q3, h⟩ := ck_e h
  obtain ⟨h_q4, h⟩ := ck_e h
  obtain ⟨h_q6, h⟩ := ck_e h
  refine lv_aload_n hx hb d_L4_207 rfl (lv_at hl 3 rfl) ?_
  refine lv_aload hx hb d_L4_208 (lv_at hl 4 rfl) ?_
  refine lv_iload hx hb d_L4_210 (lv_at hl 9 rfl) ?_
  obtain ⟨ok18, h⟩ := ck_e h
  refine m_ia hx hb hG hP h_q4.1 (isIA_T h_q4) ok18 d_L4_212 ?_
  refine lv_iload hx hb d_L4_213 (lv_at hl 7 rfl) ?_
  obtain ⟨ok19, h⟩ := ck_e h
  refine m_is hx hb hG hP hD hS h_q3.1 (isIA_T h_q3) ok19 d_L4_215 (fun H locs hP hD hS => ?_)
  have hP : va_P z.1 classes (wv z ad E (u2 M q3 (M q4 x9.toNat).toNat x7)) H := hP
  have hD : va_D A (wv z ad E (u2 M q3 (M q4 x9.toNat).toNat x7)) := hD
  refine lv_aload hx hb d_L4_216 (lv_at hl 6 rfl) ?_
  refine lv_bipush (v := oI 65) hx hb d_L4_218 (by decide +kernel) ?_
  refine lv_aload hx hb d_L4_220 (lv_at hl 4 rfl) ?_
  refine lv_iload hx hb d_L4_222 (lv_at hl 9 rfl) ?_
  refine m_ia hx hb hG hP h_q4.1 (isIA_T h_q4) ok18 d_L4_224 ?_
  refine lv_iadd hx hb d_L4_225 ?_
  refine nrm (oI_add _ _) ?_
  obtain ⟨ok20, h⟩ := ck_e h
  refine lv_i2c (v := oI (65 + ((u2 M q3 (M q4 x9.toNat).toNat x7) q4 x9.toNat))) hx hb d_L4_226 (oI_c ok20) ?_
  obtain ⟨⟨r21, M21⟩, g21, h⟩ := bd_e h
  refine kV (As := [.int (oI (65 + ((u2 M q3 (M q4 x9.toNat).toNat x7) q4 x9.toNat)))]) (rest := []) (s_Sb_appendC l z ad E (u2 M q3 (M q4 x9.toNat).toNat x7) q6 (65 + ((u2 M q3 (M q4 x9.toNat).toNat x7) q4 x9.toNat)) r21 M21 hL g21) hx hb hml hown hts w_836 w_833 w_834 w_835 w_19 md_515737 ⟨Nat.le_of_ble_eq_true rfl, Nat.le_of_ble_eq_true rfl⟩ hG hZ hP hD hS hA q6 (wv_o (ci := 14) h_q6.1 h_q6.2) rfl rfl rfl hl.1 rfl (Nat.le_of_ble_eq_true rfl) d_L4_227 ⟨(show _ ≤ mc by omega), (show _ ≤ ms by omega)⟩ (fun _ H locs hP hD hS => ?_)
  have hP : va_P z.1 classes (wv z ad E M21) H := hP
  have hD : va_D A (wv z ad E M21) := hD
  obtain ⟨h_r21, h⟩ := ck_e h
  refine W.eq (g2 := F0 m 230 ls [.ref (ad r21)]) rfl ?_
  refine lv_astore (lv' := [(10, .ref (ad r21)), (0, .ref (ad 1)), (1, .ref (ad q1)), (2, .ref (ad q2)), (3, .ref (ad q3)), (4, .ref (ad q4)), (5, .int (oI x5)), (6, .ref (ad q6)), (7, .int (oI x7)), (8, .int (oI x8)), (9, .int (oI x9))]) hx hb d_L4_230 hl (by decide) rfl (fun ls hl => ?_)
  refine lv_iinc (v := oI (x9 + 1)) (lv' := [(9, .int (oI (x9 + 1))), (10, .ref (ad r21)), (0, .ref (ad 1)), (1, .ref (ad q1)), (2, .ref (ad q2)), (3, .ref (ad q3)), (4, .ref (ad q4)), (5, .int (oI x5)), (6, .ref (ad q6)), (7, .int (oI x7)), (8, .int (oI x8))]) hx hb d_L4_232 hl (k := 10) rfl (oI_add x9 1) (by decide) rfl (fun ls hl => ?_)
  refine lv_goto (tgt := 109) hx hb d_L4_235 (by decide) ?_
  obtain ⟨rfl, rfl, rfl, rfl, rfl, rfl⟩ := in6 h
  exact W.wide (by omega) (by omega) (k0 ad hag0 hE0 rfl H locs ls hP hD hS (lv_sub hl [2, 3, 4, 5, 6, 7, 8, 9, 10, 0] rfl))
set_option maxRecDepth 100000 in
set_option maxHeartbeats 4000000 in
theorem b_La_ballots_j202 (l : Launch) (z : Zz) (E0 : Ev) (ad0 : Nat → Nat) (ad : Nat → Nat) (E : Ev) (M : Mm) (q1 : Nat) (q2 : Nat) (q3 : Nat) (q4 : Nat) (x5 : Int) (q6 : Nat) (x7 : Int) (x8 : Int) (x9 : Int) (y0 : Int) (y1 : Nat) (t : Nat) (w7 : Int) (w8 : Int) (w9 : Int) (F : Ev) (N : Mm) {Q : State → Prop} {p : Program} {e : Env} {s : State} {m : MethodId} {below : List Frame} {meth : Method} {c : Code} {A : Nat → Prop} {args : Array Value} (hx : p.tables.exec = Jvm.exec) (hb : c.code = method_4_code) (hml : c.maxLocals = 14) (hts : ∀ w ∈ WG, w.before args s = true) (hown : s.vm.findClass "BallothallLaw" = some m.cls) (hlocks : meth.locks = false) (hA : ∀ q, s.heap.size ≤ q → A q) (hG : KG z s) (hZ : FZ z A s) (mc ms c0 s0 c1 s1 : Nat) (hc : c0 + 0 ≤ c1) (hs : s0 + 0 ≤ s1) (hm : c1 ≤ mc) (hm2 : s1 ≤ ms) (hag0 : ∀ i, i < nE E0 → ad i = ad0 i) (hE0 : nE E0 ≤ nE E) (h : La_ballots_j202 E M q1 q2 q3 q4 x5 q6 x7 x8 x9 y0 y1 = some (t, w7, w8, w9, F, N)) (k0 : ∀ (ad1 : Nat → Nat), (∀ i, i < nE E0 → ad1 i = ad0 i) → nE E0 ≤ nE F → t = 0 → ∀ (H : Heap) (locs : List Loc) (ls : Array Slot), va_P z.1 classes (wv z ad1 F N) H → va_D A (wv z ad1 F N) → va_S A s.heap H locs → lv_has ls 14 [(0, .ref (ad1 1)), (1, .ref (ad1 q1)), (2, .ref (ad1 q2)), (3, .ref (ad1 q3)), (4, .ref (ad1 q4)), (5, .int (oI x5)), (6, .ref (ad1 q6)), (7, .int (oI w7)), (8, .int (oI w8)), (9, .int (oI w9))] → W p l e (rmK 6 171 mc ms) s m args below meth c H locs c1 s1 Q (F0 m 109 ls [])) (k1 : ∀ (ad1 : Nat → Nat), (∀ i, i < nE E0 → ad1 i = ad0 i) → nE E0 ≤ nE F → t = 1 → ∀ (H : Heap) (locs : List Loc) (ls : Array Slot), va_P z.1 classes (wv z ad1 F N) H → va_D A (wv z ad1 F N) → va_S A s.heap H locs → lv_has ls 14 [(0, .ref (ad1 1)), (1, .ref (ad1 q1)), (2, .ref (ad1 q2)), (3, .ref (ad1 q3)), (5, .int (oI x5)), (6, .ref (ad1 q6)), (7, .int (oI w7))] → W p l e (rmK 6 171 mc ms) s m args below meth c H locs c1 s1 Q (F0 m 238 ls [])) : ∀ (H : Heap) (locs : List Loc) (ls : Array Slot), va_P z.1 classes (wv z ad E M) H → va_D A (wv z ad E M) → va_S A s.heap H locs → lv_has ls 14 [(0, .ref (ad 1)), (1, .ref (ad q1)), (2, .ref (ad q2)), (3, .ref (ad q3)), (4, .ref (ad q4)), (5, .int (oI x5)), (6, .ref (ad q6)), (7, .int (oI x7)), (8, .int (oI x8)), (9, .int (oI x9))] → W p l e (rmK 6 171 mc ms) s m args below meth c H locs c0 s0 Q (F0 m 202 ls [.int (oI y0), .ref (ad y1)]) := by
  intro H locs ls hP hD hS hl
  unfold La_ballots_j202 at h
  obtain ⟨hL, h⟩ := ck_e h
  obtain ⟨h_q1, h⟩ := ck_e h
  obtain ⟨h_q2, h⟩ := ck_e h
  obtain ⟨h_q3, h⟩ := ck_e h
  obtain ⟨h_q4, h⟩ := ck_e h
  obtain ⟨h_q6, h⟩ := ck_e h
  obtain ⟨h_y1, h⟩ := ck_e h
  obtain ⟨⟨r28, M28⟩, g28, h⟩ := bd_e h
  refine kV (As := [.int (oI y0)]) (rest := []) (s_Sb_appendC l z ad E M y1 y0 r28 M28 hL g28) hx hb hml hown hts w_836 w_833 w_834 w_835 w_19 md_515737 ⟨Nat.le_of_ble_eq_true rfl, Nat.le_of_ble_eq_true rfl⟩ hG hZ hP hD hS hA y1 (wv_o (ci := 14) h_y1.1 h_y1.2) rfl rfl rfl hl.1 rfl (Nat.le_of_ble_eq_true rfl) d_L4_202 ⟨(show _ ≤ mc by omega), (show _ ≤ ms by omega)⟩ (fun _ H locs hP hD hS => ?_)
  have hP : va_P z.1 classes (wv z ad E M28) H := hP
  have hD : va_D A (wv z ad E M28) := hD
  obtain ⟨h_r28, h⟩ := ck_e h
  refine W.eq (g2 := F0 m 205 ls [.ref (ad r28)]) rfl ?_
  refine lv_astore (lv' := [(12, .ref (ad r28)), (0, .ref (ad 1)), (1, .ref (ad q1)), (2, .ref (ad q2)), (3, .ref (ad q3)), (4, .ref (ad q4)), (5, .int (oI x5)), (6, .ref (ad q6)), (7, .int (oI x7)), (8, .int (oI x8)), (9, .int (oI x9))]) hx hb d_L4_205 hl (by decide) rfl (fun ls hl => ?_)
  exact b_La_ballots_j207 l z E0 ad0 ad E M28 q1 q2 q3 q4 x5 q6 x7 x8 x9 t w7 w8 w9 F N hx hb hml hts hown hlocks hA hG hZ mc ms _ _ c1 s1 (by omega) (by omega) hm hm2 hag0 hE0 h k0 k1 H locs ls hP hD hS (lv_sub hl [1, 2, 3, 4, 5, 6, 7, 8, 9, 10] rfl)
set_option maxRecDepth 100000 in
set_option maxHeartbeats 4000000 in
theorem b_La_ballots_j176 (l : Launch) (z : Zz) (E0 : Ev) (ad0 : Nat → Nat) (ad : Nat → Nat) (E : Ev) (M : Mm) (q1 : Nat) (q2 : Nat) (q3 : Nat) (q4 : Nat) (x5 : Int) (q6 : Nat) (x7 : Int) (x9 : Int) (x10 : Int) (x11 : Int) (y0 : Int) (t : Nat) (w7 : Int) (w8 : Int) (w9 : Int) (F : Ev) (N : Mm) {Q : State → Prop} {p : Program} {e : Env} {s : State} {m : MethodId} {below : List Frame} {meth : Method} {c : Code} {A : Nat → Prop} {args : Array Value} (hx : p.tables.exec = Jvm.exec) (hb : c.code = method_4_code) (hml : c.maxLocals = 14) (hts : ∀ w ∈ WG, w.before args s = true) (hown : s.vm.findClass "BallothallLaw" = some m.cls) (hlocks : meth.locks = false) (hA : ∀ q, s.heap.size ≤ q → A q) (hG : KG z s) (hZ : FZ z A s) (mc ms c0 s0 c1 s1 : Nat) (hc : c0 + 0 ≤ c1) (hs : s0 + 0 ≤ s1) (hm : c1 ≤ mc) (hm2 : s1 ≤ ms) (hag0 : ∀ i, i < nE E0 → ad i = ad0 i) (hE0 : nE E0 ≤ nE E) (h : La_ballots_j176 E M q1 q2 q3 q4 x5 q6 x7 x9 x10 x11 y0 = some (t, w7, w8, w9, F, N)) (k0 : ∀ (ad1 : Nat → Nat), (∀ i, i < nE E0 → ad1 i = ad0 i) → nE E0 ≤ nE F → t = 0 → ∀ (H : Heap) (locs : List Loc) (ls : Array Slot), va_P z.1 classes (wv z ad1 F N) H → va_D A (wv z ad1 F N) → va_S A s.heap H locs → lv_has ls 14 [(0, .ref (ad1 1)), (1, .ref (ad1 q1)), (2, .ref (ad1 q2)), (3, .ref (ad1 q3)), (4, .ref (ad1 q4)), (5, .int (oI x5)), (6, .ref (ad1 q6)), (7, .int (oI w7)), (8, .int (oI w8)), (9, .int (oI w9))] → W p l e (rmK 6 171 mc ms) s m args below meth c H locs c1 s1 Q (F0 m 109 ls [])) (k1 : ∀ (ad1 : Nat → Nat), (∀ i, i < nE E0 → ad1 i = ad0 i) → nE E0 ≤ nE F → t = 1 → ∀ (H : Heap) (locs : List Loc) (ls : Array Slot), va_P z.1 classes (wv z ad1 F N) H → va_D A (wv z ad1 F N) → va_S A s.heap H locs → lv_has ls 14 [(0, .ref (ad1 1)), (1, .ref (ad1 q1)), (2, .ref (ad1 q2)), (3, .ref (ad1 q3)), (5, .int (oI x5)), (6, .ref (ad1 q6)), (7, .int (oI w7))] → W p l e (rmK 6 171 mc ms) s m args below meth c H locs c1 s1 Q (F0 m 238 ls [])) : ∀ (H : Heap) (locs : List Loc) (ls : Array Slot), va_P z.1 classes (wv z ad E M) H → va_D A (wv z ad E M) → va_S A s.heap H locs → lv_has ls 14 [(0, .ref (ad 1)), (1, .ref (ad q1)), (2, .ref (ad q2)), (3, .ref (ad q3)), (4, .ref (ad q4)), (5, .int (oI x5)), (6, .ref (ad q6)), (7, .int (oI x7)), (9, .int (oI x9)), (10, .int (oI x10)), (11, .int (oI x11))] → W p l e (rmK 6 171 mc ms) s m args below meth c H locs c0 s0 Q (F0 m 176 ls [.int (oI y0)]) := by
  intro H locs ls hP hD hS hl
  unfold La_ballots_j176 at h
  obtain ⟨hL, h⟩ := ck_e h
  obtain ⟨h_q1, h⟩ := ck_e h
  obtain ⟨h_q2, h⟩ := ck_e h
  obtain ⟨h_q3, h⟩ := ck_e h
  obtain ⟨h_q4, h⟩ := ck_e h
  obtain ⟨h_q6, h⟩ := ck_e h
  refine lv_istore (lv' := [(8, .int (oI y0)), (0, .ref (ad 1)), (1, .ref (ad q1)), (2, .ref (ad q2)), (3, .ref (ad q3)), (4, .ref (ad q4)), (5, .int (oI x5)), (6, .ref (ad q6)), (7, .int (oI x7)), (9, .int (oI x9)), (10, .int (oI x10)), (11, .int (oI x11))]) hx hb d_L4_176 hl (by decide) rfl (fun ls hl => ?_)
  refine lv_aload hx hb d_L4_178 (lv_at hl 7 rfl) ?_
  refine lv_iload hx hb d_L4_180 (lv_at hl 10 rfl) ?_
  obtain ⟨ok26, h⟩ := ck_e h
  refine lv_if_ne (tgt := 190) hx hb d_L4_182 (by decide) (fun c9 => ?_) (fun c9 => ?_)
  · have h := ite_f (fun q => c9 ((oI_eq0 ok26).mpr q)) h
    refine lv_iload hx hb d_L4_190 (lv_at hl 11 rfl) ?_
    obtain ⟨ok27, h⟩ := ck_e h
    refine lv_if_eq (tgt := 200) hx hb d_L4_192 (by decide) (fun c9 => ?_) (fun c9 => ?_)
    · have h := ite_t ((oI_eq0 ok27).mp c9) h
      refine lv_bipush (v := oI 62) hx hb d_L4_200 (by decide +kernel) ?_
      exact b_La_ballots_j202 l z E0 ad0 ad E M q1 q2 q3 q4 x5 q6 x7 y0 x9 62 q6 t w7 w8 w9 F N hx hb hml hts hown hlocks hA hG hZ mc ms _ _ c1 s1 (by omega) (by omega) hm hm2 hag0 hE0 h k0 k1 H locs ls hP hD hS (lv_sub hl [1, 2, 3, 4, 5, 6, 7, 8, 0, 9] rfl)
    · have h := ite_f (fun q => c9 ((oI_eq0 ok27).mpr q)) h
      refine lv_bipush (v := oI 124) hx hb d_L4_195 (by decide +kernel) ?_
      refine lv_goto (tgt := 202) hx hb d_L4_197 (by decide) ?_
      exact b_La_ballots_j202 l z E0 ad0 ad E M q1 q2 q3 q4 x5 q6 x7 y0 x9 124 q6 t w7 w8 w9 F N hx hb hml hts hown hlocks hA hG hZ mc ms _ _ c1 s1 (by omega) (by omega) hm hm2 hag0 hE0 h k0 k1 H locs ls hP hD hS (lv_sub hl [1, 2, 3, 4, 5, 6, 7, 8, 0, 9] rfl)
  · have h := ite_t ((oI_eq0 ok26).mp c9) h
    refine lv_bipush (v := oI 61) hx hb d_L4_185 (by decide +kernel) ?_
    refine lv_goto (tgt := 202) hx hb d_L4_187 (by decide) ?_
    exact b_La_ballots_j202 l z E0 ad0 ad E M q1 q2 q3 q4 x5 q6 x7 y0 x9 61 q6 t w7 w8 w9 F N hx hb hml hts hown hlocks hA hG hZ mc ms _ _ c1 s1 (by omega) (by omega) hm hm2 hag0 hE0 h k0 k1 H locs ls hP hD hS (lv_sub hl [1, 2, 3, 4, 5, 6, 7, 8, 0, 9] rfl)
set_option maxRecDepth 100000 in
set_option maxHeartbeats 4000000 in
theorem b_La_ballots_j159 (l : Launch) (z : Zz) (E0 : Ev) (ad0 : Nat → Nat) (ad : Nat → Nat) (E : Ev) (M : Mm) (q1 : Nat) (q2 : Nat) (q3 : Nat) (q4 : Nat) (x5 : Int) (q6 : Nat) (x7 : Int) (x8 : Int) (x9 : Int) (x10 : Int) (y0 : Int) (t : Nat) (w7 : Int) (w8 : Int) (w9 : Int) (F : Ev) (N : Mm) {Q : State → Prop} {p : Program} {e : Env} {s : State} {m : MethodId} {below : List Frame} {meth : Method} {c : Code} {A : Nat → Prop} {args : Array Value} (hx : p.tables.exec = Jvm.exec) (hb : c.code = method_4_code) (hml : c.maxLocals = 14) (hts : ∀ w ∈ WG, w.before args s = true) (hown : s.vm.findClass "BallothallLaw" = some m.cls) (hlocks : meth.locks = false) (hA : ∀ q, s.heap.size ≤ q → A q) (hG : KG z s) (hZ : FZ z A s) (mc ms c0 s0 c1 s1 : Nat) (hc : c0 + 0 ≤ c1) (hs : s0 + 0 ≤ s1) (hm : c1 ≤ mc) (hm2 : s1 ≤ ms) (hag0 : ∀ i, i < nE E0 → ad i = ad0 i) (hE0 : nE E0 ≤ nE E) (h : La_ballots_j159 E M q1 q2 q3 q4 x5 q6 x7 x8 x9 x10 y0 = some (t, w7, w8, w9, F, N)) (k0 : ∀ (ad1 : Nat → Nat), (∀ i, i < nE E0 → ad1 i = ad0 i) → nE E0 ≤ nE F → t = 0 → ∀ (H : Heap) (locs : List Loc) (ls : Array Slot), va_P z.1 classes (wv z ad1 F N) H → va_D A (wv z ad1 F N) → va_S A s.heap H locs → lv_has ls 14 [(0, .ref (ad1 1)), (1, .ref (ad1 q1)), (2, .ref (ad1 q2)), (3, .ref (ad1 q3)), (4, .ref (ad1 q4)), (5, .int (oI x5)), (6, .ref (ad1 q6)), (7, .int (oI w7)), (8, .int (oI w8)), (9, .int (oI w9))] → W p l e (rmK 6 171 mc ms) s m args below meth c H locs c1 s1 Q (F0 m 109 ls [])) (k1 : ∀ (ad1 : Nat → Nat), (∀ i, i < nE E0 → ad1 i = ad0 i) → nE E0 ≤ nE F → t = 1 → ∀ (H : Heap) (locs : List Loc) (ls : Array Slot), va_P z.1 classes (wv z ad1 F N) H → va_D A (wv z ad1 F N) → va_S A s.heap H locs → lv_has ls 14 [(0, .ref (ad1 1)), (1, .ref (ad1 q1)), (2, .ref (ad1 q2)), (3, .ref (ad1 q3)), (5, .int (oI x5)), (6, .ref (ad1 q6)), (7, .int (oI w7))] → W p l e (rmK 6 171 mc ms) s m args below meth c H locs c1 s1 Q (F0 m 238 ls [])) : ∀ (H : Heap) (locs : List Loc) (ls : Array Slot), va_P z.1 classes (wv z ad E M) H → va_D A (wv z ad E M) → va_S A s.heap H locs → lv_has ls 14 [(0, .ref (ad 1)), (1, .ref (ad q1)), (2, .ref (ad q2)), (3, .ref (ad q3)), (4, .ref (ad q4)), (5, .int (oI x5)), (6, .ref (ad q6)), (7, .int (oI x7)), (8, .int (oI x8)), (9, .int (oI x9)), (10, .int (oI x10))] → W p l e (rmK 6 171 mc ms) s m args below meth c H locs c0 s0 Q (F0 m 159 ls [.int (oI y0)]) := by
  intro H locs ls hP hD hS hl
  unfold La_ballots_j159 at h
  obtain ⟨hL, h⟩ := ck_e h
  obtain ⟨h_q1, h⟩ := ck_e h
  obtain ⟨h_q2, h⟩ := ck_e h
  obtain ⟨h_q3, h⟩ := ck_e h
  obtain ⟨h_q4, h⟩ := ck_e h
  obtain ⟨h_q6, h⟩ := ck_e h
  refine lv_istore (lv' := [(11, .int (oI y0)), (0, .ref (ad 1)), (1, .ref (ad q1)), (2, .ref (ad q2)), (3, .ref (ad q3)), (4, .ref (ad q4)), (5, .int (oI x5)), (6, .ref (ad q6)), (7, .int (oI x7)), (8, .int (oI x8)), (9, .int (oI x9)), (10, .int (oI x10))]) hx hb d_L4_159 hl (by decide) rfl (fun ls hl => ?_)
  refine lv_iload hx hb d_L4_161 (lv_at hl 9 rfl) ?_
  obtain ⟨ok25, h⟩ := ck_e h
  refine lv_if_ne (tgt := 171) hx hb d_L4_163 (by decide) (fun c9 => ?_) (fun c9 => ?_)
  · have h := ite_f (fun q => c9 ((oI_eq0 ok25).mpr q)) h
    refine lv_iconst (v := oI 1) hx hb d_L4_171 (by decide +kernel) ?_
    refine lv_goto (tgt := 176) hx hb d_L4_172 (by decide) ?_
    exact b_La_ballots_j176 l z E0 ad0 ad E M q1 q2 q3 q4 x5 q6 x7 x9 x10 y0 1 t w7 w8 w9 F N hx hb hml hts hown hlocks hA hG hZ mc ms _ _ c1 s1 (by omega) (by omega) hm hm2 hag0 hE0 h k0 k1 H locs ls hP hD hS (lv_sub hl [1, 2, 3, 4, 5, 6, 7, 8, 10, 11, 0] rfl)
  · have h := ite_t ((oI_eq0 ok25).mp c9) h
    refine lv_iload hx hb d_L4_166 (lv_at hl 0 rfl) ?_
    obtain ⟨ok29, h⟩ := ck_e h
    refine lv_if_eq (tgt := 175) hx hb d_L4_168 (by decide) (fun c9 => ?_) (fun c9 => ?_)
    · have h := ite_t ((oI_eq0 ok29).mp c9) h
      refine lv_iconst (v := oI 0) hx hb d_L4_175 (by decide +kernel) ?_
      exact b_La_ballots_j176 l z E0 ad0 ad E M q1 q2 q3 q4 x5 q6 x7 x9 x10 y0 0 t w7 w8 w9 F N hx hb hml hts hown hlocks hA hG hZ mc ms _ _ c1 s1 (by omega) (by omega) hm hm2 hag0 hE0 h k0 k1 H locs ls hP hD hS (lv_sub hl [1, 2, 3, 4, 5, 6, 7, 8, 10, 11, 0] rfl)
    · have h := ite_f (fun q => c9 ((oI_eq0 ok29).mpr q)) h
      refine lv_iconst (v := oI 1) hx hb d_L4_171 (by decide +kernel) ?_
      refine lv_goto (tgt := 176) hx hb d_L4_172 (by decide) ?_
      exact b_La_ballots_j176 l z E0 ad0 ad E M q1 q2 q3 q4 x5 q6 x7 x9 x10 y0 1 t w7 w8 w9 F N hx hb hml hts hown hlocks hA hG hZ mc ms _ _ c1 s1 (by omega) (by omega) hm hm2 hag0 hE0 h k0 k1 H locs ls hP hD hS (lv_sub hl [1, 2, 3, 4, 5, 6, 7, 8, 10, 11, 0] rfl)
set_option maxRecDepth 100000 in
set_option maxHeartbeats 4000000 in
theorem b_La_ballots_j140 (l : Launch) (z : Zz) (E0 : Ev) (ad0 : Nat → Nat) (ad : Nat → Nat) (E : Ev) (M : Mm) (q1 : Nat) (q2 : Nat) (q3 : Nat) (q4 : Nat) (x5 : Int) (q6 : Nat) (x8 : Int) (x9 : Int) (x10 : Int) (y0 : Int) (y1 : Int) (t : Nat) (w7 : Int) (w8 : Int) (w9 : Int) (F : Ev) (N : Mm) {Q : State → Prop} {p : Program} {e : Env} {s : State} {m : MethodId} {below : List Frame} {meth : Method} {c : Code} {A : Nat → Prop} {args : Array Value} (hx : p.tables.exec = Jvm.exec) (hb : c.code = method_4_code) (hml : c.maxLocals = 14) (hts : ∀ w ∈ WG, w.before args s = true) (hown : s.vm.findClass "BallothallLaw" = some m.cls) (hlocks : meth.locks = false) (hA : ∀ q, s.heap.size ≤ q → A q) (hG : KG z s) (hZ : FZ z A s) (mc ms c0 s0 c1 s1 : Nat) (hc : c0 + 0 ≤ c1) (hs : s0 + 0 ≤ s1) (hm : c1 ≤ mc) (hm2 : s1 ≤ ms) (hag0 : ∀ i, i < nE E0 → ad i = ad0 i) (hE0 : nE E0 ≤ nE E) (h : La_ballots_j140 E M q1 q2 q3 q4 x5 q6 x8 x9 x10 y0 y1 = some (t, w7, w8, w9, F, N)) (k0 : ∀ (ad1 : Nat → Nat), (∀ i, i < nE E0 → ad1 i = ad0 i) → nE E0 ≤ nE F → t = 0 → ∀ (H : Heap) (locs : List Loc) (ls : Array Slot), va_P z.1 classes (wv z ad1 F N) H → va_D A (wv z ad1 F N) → va_S A s.heap H locs → lv_has ls 14 [(0, .ref (ad1 1)), (1, .ref (ad1 q1)), (2, .ref (ad1 q2)), (3, .ref (ad1 q3)), (4, .ref (ad1 q4)), (5, .int (oI x5)), (6, .ref (ad1 q6)), (7, .int (oI w7)), (8, .int (oI w8)), (9, .int (oI w9))] → W p l e (rmK 6 171 mc ms) s m args below meth c H locs c1 s1 Q (F0 m 109 ls [])) (k1 : ∀ (ad1 : Nat → Nat), (∀ i, i < nE E0 → ad1 i = ad0 i) → nE E0 ≤ nE F → t = 1 → ∀ (H : Heap) (locs : List Loc) (ls : Array Slot), va_P z.1 classes (wv z ad1 F N) H → va_D A (wv z ad1 F N) → va_S A s.heap H locs → lv_has ls 14 [(0, .ref (ad1 1)), (1, .ref (ad1 q1)), (2, .ref (ad1 q2)), (3, .ref (ad1 q3)), (5, .int (oI x5)), (6, .ref (ad1 q6)), (7, .int (oI w7))] → W p l e (rmK 6 171 mc ms) s m args below meth c H locs c1 s1 Q (F0 m 238 ls [])) : ∀ (H : Heap) (locs : List Loc) (ls : Array Slot), va_P z.1 classes (wv z ad E M) H → va_D A (wv z ad E M) → va_S A s.heap H locs → lv_has ls 14 [(0, .ref (ad 1)), (1, .ref (ad q1)), (2, .ref (ad q2)), (3, .ref (ad q3)), (4, .ref (ad q4)), (5, .int (oI x5)), (6, .ref (ad q6)), (8, .int (oI x8)), (9, .int (oI x9)), (10, .int (oI x10))] → W p l e (rmK 6 171 mc ms) s m args below meth c H locs c0 s0 Q (F0 m 140 ls [.int (oI y0), .int (oI y1)]) := by
  intro H locs ls hP hD hS hl
  unfold La_ballots_j140 at h
  obtain ⟨hL, h⟩ := ck_e h
  obtain ⟨h_q1, h⟩ := ck_e h
  obtain ⟨h_q2, h⟩ := ck_e h
  obtain ⟨h_q3, h⟩ := ck_e h
  obtain ⟨h_q4, h⟩ := ck_e h
  obtain ⟨h_q6, h⟩ := ck_e h
  refine lv_iadd hx hb d_L4_140 ?_
  refine nrm (oI_add _ _) ?_
  refine lv_istore (lv' := [(7, .int (oI (y1 + y0))), (0, .ref (ad 1)), (1, .ref (ad q1)), (2, .ref (ad q2)), (3, .ref (ad q3)), (4, .ref (ad q4)), (5, .int (oI x5)), (6, .ref (ad q6)), (8, .int (oI x8)), (9, .int (oI x9)), (10, .int (oI x10))]) hx hb d_L4_141 hl (by decide) rfl (fun ls hl => ?_)
  refine lv_iload hx hb d_L4_143 (lv_at hl 10 rfl) ?_
  refine lv_iconst (v := oI 1) hx hb d_L4_145 (by decide +kernel) ?_
  obtain ⟨ok24, h⟩ := ck_e h
  refine lv_icmp_ne (tgt := 158) hx hb d_L4_146 (by decide) (fun c9 => ?_) (fun c9 => ?_)
  · have h := ite_f (fun q => c9 ((oI_eq (a := x10) (b := (1 : Int)) ok24 (by decide)).mpr q)) h
    refine lv_iconst (v := oI 0) hx hb d_L4_158 (by decide +kernel) ?_
    exact b_La_ballots_j159 l z E0 ad0 ad E M q1 q2 q3 q4 x5 q6 (y1 + y0) x8 x9 x10 0 t w7 w8 w9 F N hx hb hml hts hown hlocks hA hG hZ mc ms _ _ c1 s1 (by omega) (by omega) hm hm2 hag0 hE0 h k0 k1 H locs ls hP hD hS (lv_sub hl [1, 2, 3, 4, 5, 6, 7, 0, 8, 9, 10] rfl)
  · have h := ite_t ((oI_eq (a := x10) (b := (1 : Int)) ok24 (by decide)).mp c9) h
    refine lv_iload hx hb d_L4_149 (lv_at hl 8 rfl) ?_
    obtain ⟨ok30, h⟩ := ck_e h
    refine lv_if_ne (tgt := 158) hx hb d_L4_151 (by decide) (fun c9 => ?_) (fun c9 => ?_)
    · have h := ite_f (fun q => c9 ((oI_eq0 ok30).mpr q)) h
      refine lv_iconst (v := oI 0) hx hb d_L4_158 (by decide +kernel) ?_
      exact b_La_ballots_j159 l z E0 ad0 ad E M q1 q2 q3 q4 x5 q6 (y1 + y0) x8 x9 x10 0 t w7 w8 w9 F N hx hb hml hts hown hlocks hA hG hZ mc ms _ _ c1 s1 (by omega) (by omega) hm hm2 hag0 hE0 h k0 k1 H locs ls hP hD hS (lv_sub hl [1, 2, 3, 4, 5, 6, 7, 0, 8, 9, 10] rfl)
    · have h := ite_t ((oI_eq0 ok30).mp c9) h
      refine lv_iconst (v := oI 1) hx hb d_L4_154 (by decide +kernel) ?_
      refine lv_goto (tgt := 159) hx hb d_L4_155 (by decide) ?_
      exact b_La_ballots_j159 l z E0 ad0 ad E M q1 q2 q3 q4 x5 q6 (y1 + y0) x8 x9 x10 1 t w7 w8 w9 F N hx hb hml hts hown hlocks hA hG hZ mc ms _ _ c1 s1 (by omega) (by omega) hm hm2 hag0 hE0 h k0 k1 H locs ls hP hD hS (lv_sub hl [1, 2, 3, 4, 5, 6, 7, 0, 8, 9, 10] rfl)
set_option maxRecDepth 100000 in
set_option maxHeartbeats 4000000 in
theorem b_La_ballots_109b (l : Launch) (z : Zz) (E0 : Ev) (ad0 : Nat → Nat) (ad : Nat → Nat) (E : Ev) (M : Mm) (q1 : Nat) (q2 : Nat) (q3 : Nat) (q4 : Nat) (x5 : Int) (q6 : Nat) (x7 : Int) (x8 : Int) (x9 : Int) (t : Nat) (w7 : Int) (w8 : Int) (w9 : Int) (F : Ev) (N : Mm) {Q : State → Prop} {p : Program} {e : Env} {s : State} {m : MethodId} {below : List Frame} {meth : Method} {c : Code} {A : Nat → Prop} {args : Array Value} (hx : p.tables.exec = Jvm.exec) (hb : c.code = method_4_code) (hml : c.maxLocals = 14) (hts : ∀ w ∈ WG, w.before args s = true) (hown : s.vm.findClass "BallothallLaw" = some m.cls) (hlocks : meth.locks = false) (hA : ∀ q, s.heap.size ≤ q → A q) (hG : KG z s) (hZ : FZ z A s) (mc ms c0 s0 c1 s1 : Nat) (hc : c0 + 0 ≤ c1) (hs : s0 + 0 ≤ s1) (hm : c1 ≤ mc) (hm2 : s1 ≤ ms) (hag0 : ∀ i, i < nE E0 → ad i = ad0 i) (hE0 : nE E0 ≤ nE E) (h : La_ballots_109b E M q1 q2 q3 q4 x5 q6 x7 x8 x9 = some (t, w7, w8, w9, F, N)) (k0 : ∀ (ad1 : Nat → Nat), (∀ i, i < nE E0 → ad1 i = ad0 i) → nE E0 ≤ nE F → t = 0 → ∀ (H : Heap) (locs : List Loc) (ls : Array Slot), va_P z.1 classes (wv z ad1 F N) H → va_D A (wv z ad1 F N) → va_S A s.heap H locs → lv_has ls 14 [(0, .ref (ad1 1)), (1, .ref (ad1 q1)), (2, .ref (ad1 q2)), (3, .ref (ad1 q3)), (4, .ref (ad1 q4)), (5, .int (oI x5)), (6, .ref (ad1 q6)), (7, .int (oI w7)), (8, .int (oI w8)), (9, .int (oI w9))] → W p l e (rmK 6 171 mc ms) s m args below meth c H locs c1 s1 Q (F0 m 109 ls [])) (k1 : ∀ (ad1 : Nat → Nat), (∀ i, i < nE E0 → ad1 i = ad0 i) → nE E0 ≤ nE F → t = 1 → ∀ (H : Heap) (locs : List Loc) (ls : Array Slot), va_P z.1 classes (wv z ad1 F N) H → va_D A (wv z ad1 F N) → va_S A s.heap H locs → lv_has ls 14 [(0, .ref (ad1 1)), (1, .ref (ad1 q1)), (2, .ref (ad1 q2)), (3, .ref (ad1 q3)), (5, .int (oI x5)), (6, .ref (ad1 q6)), (7, .int (oI w7))] → W p l e (rmK 6 171 mc ms) s m args below meth c H locs c1 s1 Q (F0 m 238 ls [])) : ∀ (H : Heap) (locs : List Loc) (ls : Array Slot), va_P z.1 classes (wv z ad E M) H → va_D A (wv z ad E M) → va_S A s.heap H locs → lv_has ls 14 [(0, .ref (ad 1)), (1, .ref (ad q1)), (2, .ref (ad q2)), (3, .ref (ad q3)), (4, .ref (ad q4)), (5, .int (oI x5)), (6, .ref (ad q6)), (7, .int (oI x7)), (8, .int (oI x8)), (9, .int (oI x9))] → W p l e (rmK 6 171 mc ms) s m args below meth c H locs c0 s0 Q (F0 m 109 ls []) := by
  intro H locs ls hP hD hS hl
  unfold La_ballots_109b at h
  obtain ⟨hL, h⟩ := ck_e h
  obtain ⟨h_q1, h⟩ := ck_e h
  obtain ⟨h_q2, h⟩ := ck_e h
  obtain ⟨h_q3, h⟩ := ck_e h
  obtain ⟨h_q4, h⟩ := ck_e h
  obtain ⟨h_q6, h⟩ := ck_e h
  refine lv_iload hx hb d_L4_109 (lv_at hl 9 rfl) ?_
  refine lv_iload hx hb d_L4_111 (lv_at hl 5 rfl) ?_
  obtain ⟨ok16, h⟩ := ck_e h
  obtain ⟨ok17, h⟩ := ck_e h
  refine lv_icmp_ge (tgt := 238) hx hb d_L4_113 (by decide) (fun c9 => ?_) (fun c9 => ?_)
  · have h := ite_t ((oI_le (a := x5) (b := x9) ok17 ok16).mp c9) h
    obtain ⟨rfl, rfl, rfl, rfl, rfl, rfl⟩ := in6 h
    exact W.wide (by omega) (by omega) (k1 ad hag0 hE0 rfl H locs ls hP hD hS (lv_sub hl [0, 1, 2, 3, 5, 6, 7] rfl))
  · have h := ite_f (fun q => c9 ((oI_le (a := x5) (b := x9) ok17 ok16).mpr q)) h
    refine lv_iload hx hb d_L4_116 (lv_at hl 9 rfl) ?_
    refine lv_if_le (tgt := 207) hx hb d_L4_118 (by decide) (fun c9 => ?_) (fun c9 => ?_)
    · have h := ite_t ((oI_le0 ok16).mp c9) h
      exact b_La_ballots_j207 l z E0 ad0 ad E M q1 q2 q3 q4 x5 q6 x7 x8 x9 t w7 w8 w9 F N hx hb hml hts hown hlocks hA hG hZ mc ms _ _ c1 s1 (by omega) (by omega) hm hm2 hag0 hE0 h k0 k1 H locs ls hP hD hS (lv_sub hl [0, 1, 2, 3, 4, 5, 6, 7, 8, 9] rfl)
    · have h := ite_f (fun q => c9 ((oI_le0 ok16).mpr q)) h
      refine lv_aload_n hx hb d_L4_121 rfl (lv_at hl 2 rfl) ?_
      refine lv_iconst (v := oI 4) hx hb d_L4_122 (by decide +kernel) ?_
      obtain ⟨⟨r22, M22⟩, g22, h⟩ := bd_e h
      refine kS (As := [.ref (ad q2), .int (oI 4)]) (rest := []) (s_La_next l z ad E M q2 4 r22 M22 hL g22) hx hb hml hown hts w_797 w_795 w_796 w_0 md_199d8f ⟨Nat.le_of_ble_eq_true rfl, Nat.le_of_ble_eq_true rfl⟩ hG hZ hP hD hS hA rfl hl.1 rfl (Nat.le_of_ble_eq_true rfl) d_L4_123 ⟨(show _ ≤ mc by omega), (show _ ≤ ms by omega)⟩ (fun _ H locs hP hD hS => ?_)
      have hP : va_P z.1 classes (wv z ad E M22) H := hP
      have hD : va_D A (wv z ad E M22) := hD
      refine W.eq (g2 := F0 m 126 ls [.int (oI r22)]) rfl ?_
      refine lv_istore (lv' := [(10, .int (oI r22)), (0, .ref (ad 1)), (1, .ref (ad q1)), (2, .ref (ad q2)), (3, .ref (ad q3)), (4, .ref (ad q4)), (5, .int (oI x5)), (6, .ref (ad q6)), (7, .int (oI x7)), (8, .int (oI x8)), (9, .int (oI x9))]) hx hb d_L4_126 hl (by decide) rfl (fun ls hl => ?_)
      refine lv_iload hx hb d_L4_128 (lv_at hl 8 rfl) ?_
      refine lv_iload hx hb d_L4_130 (lv_at hl 0 rfl) ?_
      obtain ⟨ok23, h⟩ := ck_e h
      refine lv_if_ne (tgt := 139) hx hb d_L4_132 (by decide) (fun c9 => ?_) (fun c9 => ?_)
      · have h := ite_f (fun q => c9 ((oI_eq0 ok23).mpr q)) h
        refine lv_iconst (v := oI 1) hx hb d_L4_139 (by decide +kernel) ?_
        exact b_La_ballots_j140 l z E0 ad0 ad E M22 q1 q2 q3 q4 x5 q6 x8 x9 r22 1 x7 t w7 w8 w9 F N hx hb hml hts hown hlocks hA hG hZ mc ms _ _ c1 s1 (by omega) (by omega) hm hm2 hag0 hE0 h k0 k1 H locs ls hP hD hS (lv_sub hl [1, 2, 3, 4, 5, 6, 7, 9, 10, 0] rfl)
      · have h := ite_t ((oI_eq0 ok23).mp c9) h
        refine lv_iconst (v := oI 0) hx hb d_L4_135 (by decide +kernel) ?_
        refine lv_goto (tgt := 140) hx hb d_L4_136 (by decide) ?_
        exact b_La_ballots_j140 l z E0 ad0 ad E M22 q1 q2 q3 q4 x5 q6 x8 x9 r22 0 x7 t w7 w8 w9 F N hx hb hml hts hown hlocks hA hG hZ mc ms _ _ c1 s1 (by omega) (by omega) hm hm2 hag0 hE0 h k0 k1 H locs ls hP hD hS (lv_sub hl [1, 2, 3, 4, 5, 6, 7, 9, 10, 0] rfl)
set_option maxRecDepth 100000 in
set_option maxHeartbeats 4000000 in
theorem s_La_ballots_109 (l : Launch) (z : Zz) (E0 : Ev) (ad0 : Nat → Nat) (q1 : Nat) (q2 : Nat) (q3 : Nat) (q4 : Nat) (x5 : Int) (q6 : Nat) {Q : State → Prop} {p : Program} {e : Env} {s : State} {m : MethodId} {below : List Frame} {meth : Method} {c : Code} {A : Nat → Prop} {args : Array Value} (hx : p.tables.exec = Jvm.exec) (hb : c.code = method_4_code) (hml : c.maxLocals = 14) (hts : ∀ w ∈ WG, w.before args s = true) (hown : s.vm.findClass "BallothallLaw" = some m.cls) (hlocks : meth.locks = false) (hA : ∀ q, s.heap.size ≤ q → A q) (hG : KG z s) (hZ : FZ z A s) (mc ms c1 s1 : Nat) (hm : c1 ≤ mc) (hm2 : s1 ≤ ms) : ∀ (fu c0 s0 : Nat) (ad : Nat → Nat) (E : Ev) (M : Mm) (x7 : Int) (x8 : Int) (x9 : Int) (t : Nat) (w7 : Int) (w8 : Int) (w9 : Int) (F : Ev) (N : Mm), c0 + fu * 0 ≤ c1 → s0 + fu * 0 ≤ s1 → (∀ i, i < nE E0 → ad i = ad0 i) → nE E0 ≤ nE E → l_La_ballots_109 q1 q2 q3 q4 x5 q6 fu E M x7 x8 x9 = some (t, w7, w8, w9, F, N) → (∀ (ad1 : Nat → Nat), (∀ i, i < nE E0 → ad1 i = ad0 i) → nE E0 ≤ nE F → t = 1 → ∀ (H : Heap) (locs : List Loc) (ls : Array Slot), va_P z.1 classes (wv z ad1 F N) H → va_D A (wv z ad1 F N) → va_S A s.heap H locs → lv_has ls 14 [(0, .ref (ad1 1)), (1, .ref (ad1 q1)), (2, .ref (ad1 q2)), (3, .ref (ad1 q3)), (5, .int (oI x5)), (6, .ref (ad1 q6)), (7, .int (oI w7))] → W p l e (rmK 6 171 mc ms) s m args below meth c H locs c1 s1 Q (F0 m 238 ls [])) → ∀ (H : Heap) (locs : List Loc) (ls : Array Slot), va_P z.1 classes (wv z ad E M) H → va_D A (wv z ad E M) → va_S A s.heap H locs → lv_has ls 14 [(0, .ref (ad 1)), (1, .ref (ad q1)), (2, .ref (ad q2)), (3, .ref (ad q3)), (4, .ref (ad q4)), (5, .int (oI x5)), (6, .ref (ad q6)), (7, .int (oI x7)), (8, .int (oI x8)), (9, .int (oI x9))] → W p l e (rmK 6 171 mc ms) s m args below meth c H locs c0 s0 Q (F0 m 109 ls []) := by
  intro fu
  induction fu with
  | zero =>
    intro c0 s0 ad E M x7 x8 x9 t w7 w8 w9 F N hc hs hag0 hE0 h
    have h : (none : Option (Nat × Int × Int × Int × Ev × Mm)) = some _ := h
    cases h
  | succ fu ih =>
    intro c0 s0 ad E M x7 x8 x9 t w7 w8 w9 F N hc hs hag0 hE0 h k1 H locs ls hP hD hS hl
    obtain ⟨⟨t0, w70, w80, w90, F9, N9⟩, g0, h⟩ := bd_e h
    refine W.wide (Nat.le_refl _) (Nat.le_refl _) (b_La_ballots_109b l z E0 ad0 ad E M q1 q2 q3 q4 x5 q6 x7 x8 x9 t0 w70 w80 w90 F9 N9 hx hb hml hts hown hlocks hA hG hZ mc ms c0 s0 (c0 + 0) (s0 + 0) (Nat.le_refl _) (Nat.le_refl _) (by omega) (by omega) hag0 hE0 g0 (fun ad1 ha he e0 => ?_) (fun ad1 ha he e0 => ?_) H locs ls hP hD hS hl)
    · subst e0
      have h := ite_t rfl h
      exact ih (c0 + 0) (s0 + 0) ad1 F9 N9 w70 w80 w90 t w7 w8 w9 F N (by omega) (by omega) ha he h k1
    · subst e0
      have h := ite_f (by decide) h
      obtain ⟨rfl, rfl, rfl, rfl, rfl, rfl⟩ := in6 h
      exact fun H locs ls hP hD hS hl => W.wide (by omega) (by omega) (k1 ad1 ha he rfl H locs ls hP hD hS hl)
set_option maxRecDepth 100000 in
set_option maxHeartbeats 4000000 in
theorem b_La_ballots_j438 (l : Launch) (z : Zz) (E0 : Ev) (ad0 : Nat → Nat) (ad : Nat → Nat) (E : Ev) (M : Mm) (q1 : Nat) (q3 : Nat) (x5 : Int) (x7 : Int) (x10 : Int) (x12 : Int) (y0 : Int) (y1 : Int) (t : Nat) (w11 : Int) (w12 : Int) (F : Ev) (N : Mm) {Q : State → Prop} {p : Program} {e : Env} {s : State} {m : MethodId} {below : List Frame} {meth : Method} {c : Code} {A : Nat → Prop} {args : Array Value} (hx : p.tables.exec = Jvm.exec) (hb : c.code = method_4_code) (hml : c.maxLocals = 14) (hts : ∀ w ∈ WG, w.before args s = true) (hown : s.vm.findClass "BallothallLaw" = some m.cls) (hlocks : meth.locks = false) (hA : ∀ q, s.heap.size ≤ q → A q) (hG : KG z s) (hZ : FZ z A s) (mc ms c0 s0 c1 s1 : Nat) (hc : c0 + 0 ≤ c1) (hs : s0 + 0 ≤ s1) (hm : c1 ≤ mc) (hm2 : s1 ≤ ms) (hag0 : ∀ i, i < nE E0 → ad i = ad0 i) (hE0 : nE E0 ≤ nE E) (h : La_ballots_j438 E M q1 q3 x5 x7 x10 x12 y0 y1 = some (t, w11, w12, F, N)) (k0 : ∀ (ad1 : Nat → Nat), (∀ i, i < nE E0 → ad1 i = ad0 i) → nE E0 ≤ nE F → t = 0 → ∀ (H : Heap) (locs : List Loc) (ls : Array Slot), va_P z.1 classes (wv z ad1 F N) H → va_D A (wv z ad1 F N) → va_S A s.heap H locs → lv_has ls 14 [(0, .ref (ad1 1)), (1, .ref (ad1 q1)), (3, .ref (ad1 q3)), (5, .int (oI x5)), (7, .int (oI x7)), (10, .int (oI x10)), (11, .int (oI w11)), (12, .int (oI w12))] → W p l e (rmK 6 171 mc ms) s m args below meth c H locs c1 s1 Q (F0 m 360 ls [])) (k1 : ∀ (ad1 : Nat → Nat), (∀ i, i < nE E0 → ad1 i = ad0 i) → nE E0 ≤ nE F → t = 1 → ∀ (H : Heap) (locs : List Loc) (ls : Array Slot), va_P z.1 classes (wv z ad1 F N) H → va_D A (wv z ad1 F N) → va_S A s.heap H locs → lv_has ls 14 [(11, .int (oI w11))] → W p l e (rmK 6 171 mc ms) s m args below meth c H locs c1 s1 Q (F0 m 454 ls [])) : ∀ (H : Heap) (locs : List Loc) (ls : Array Slot), va_P z.1 classes (wv z ad E M) H → va_D A (wv z ad E M) → va_S A s.heap H locs → lv_has ls 14 [(0, .ref (ad 1)), (1, .ref (ad q1)), (3, .ref (ad q3)), (5, .int (oI x5)), (7, .int (oI x7)), (10, .int (oI x10)), (12, .int (oI x12))] → W p l e (rmK 6 171 mc ms) s m args below meth c H locs c0 s0 Q (F0 m 438 ls [.int (oI y0), .int (oI y1)]) := by
  intro H locs ls hP hD hS hl
  unfold La_ballots_j438 at h
  obtain ⟨hL, h⟩ := ck_e h
  obtain ⟨h_q1, h⟩ := ck_e h
  obtain ⟨h_q3, h⟩ := ck_e h
  obtain ⟨ok59, h⟩ := ck_e h
  obtain ⟨ok60, h⟩ := ck_e h
  refine lv_icmp_ne (tgt := 445) hx hb d_L4_438 (by decide) (fun c9 => ?_) (fun c9 => ?_)
  · have h := ite_f (fun q => c9 ((oI_eq (a := y1) (b := y0) ok59 ok60).mpr q)) h
    refine lv_iconst (v := oI 0) hx hb d_L4_445 (by decide +kernel) ?_
    refine lv_istore (lv' := [(11, .int (oI 0)), (0, .ref (ad 1)), (1, .ref (ad q1)), (3, .ref (ad q3)), (5, .int (oI x5)), (7, .int (oI x7)), (10, .int (oI x10)), (12, .int (oI x12))]) hx hb d_L4_446 hl (by decide) rfl (fun ls hl => ?_)
    refine lv_iinc (v := oI (x12 + 1)) (lv' := [(12, .int (oI (x12 + 1))), (11, .int (oI 0)), (0, .ref (ad 1)), (1, .ref (ad q1)), (3, .ref (ad q3)), (5, .int (oI x5)), (7, .int (oI x7)), (10, .int (oI x10))]) hx hb d_L4_448 hl (k := 7) rfl (oI_add x12 1) (by decide) rfl (fun ls hl => ?_)
    refine lv_goto (tgt := 360) hx hb d_L4_451 (by decide) ?_
    obtain ⟨rfl, rfl, rfl, rfl, rfl⟩ := in5 h
    exact W.wide (by omega) (by omega) (k0 ad hag0 hE0 rfl H locs ls hP hD hS (lv_sub hl [2, 3, 4, 5, 6, 7, 1, 0] rfl))
  · have h := ite_t ((oI_eq (a := y1) (b := y0) ok59 ok60).mp c9) h
    refine lv_iconst (v := oI 1) hx hb d_L4_441 (by decide +kernel) ?_
    refine lv_goto (tgt := 446) hx hb d_L4_442 (by decide) ?_
    refine lv_istore (lv' := [(11, .int (oI 1)), (0, .ref (ad 1)), (1, .ref (ad q1)), (3, .ref (ad q3)), (5, .int (oI x5)), (7, .int (oI x7)), (10, .int (oI x10)), (12, .int (oI x12))]) hx hb d_L4_446 hl (by decide) rfl (fun ls hl => ?_)
    refine lv_iinc (v := oI (x12 + 1)) (lv' := [(12, .int (oI (x12 + 1))), (11, .int (oI 1)), (0, .ref (ad 1)), (1, .ref (ad q1)), (3, .ref (ad q3)), (5, .int (oI x5)), (7, .int (oI x7)), (10, .int (oI x10))]) hx hb d_L4_448 hl (k := 7) rfl (oI_add x12 1) (by decide) rfl (fun ls hl => ?_)
    refine lv_goto (tgt := 360) hx hb d_L4_451 (by decide) ?_
    obtain ⟨rfl, rfl, rfl, rfl, rfl⟩ := in5 h
    exact W.wide (by omega) (by omega) (k0 ad hag0 hE0 rfl H locs ls hP hD hS (lv_sub hl [2, 3, 4, 5, 6, 7, 1, 0] rfl))
set_option maxRecDepth 100000 in
set_option maxHeartbeats 4000000 in
theorem b_La_ballots_360b (l : Launch) (z : Zz) (E0 : Ev) (ad0 : Nat → Nat) (ad : Nat → Nat) (E : Ev) (M : Mm) (q1 : Nat) (q3 : Nat) (x5 : Int) (x7 : Int) (x10 : Int) (x11 : Int) (x12 : Int) (t : Nat) (w11 : Int) (w12 : Int) (F : Ev) (N : Mm) {Q : State → Prop} {p : Program} {e : Env} {s : State} {m : MethodId} {below : List Frame} {meth : Method} {c : Code} {A : Nat → Prop} {args : Array Value} (hx : p.tables.exec = Jvm.exec) (hb : c.code = method_4_code) (hml : c.maxLocals = 14) (hts : ∀ w ∈ WG, w.before args s = true) (hown : s.vm.findClass "BallothallLaw" = some m.cls) (hlocks : meth.locks = false) (hA : ∀ q, s.heap.size ≤ q → A q) (hG : KG z s) (hZ : FZ z A s) (mc ms c0 s0 c1 s1 : Nat) (hc : c0 + 0 ≤ c1) (hs : s0 + 0 ≤ s1) (hm : c1 ≤ mc) (hm2 : s1 ≤ ms) (hag0 : ∀ i, i < nE E0 → ad i = ad0 i) (hE0 : nE E0 ≤ nE E) (h : La_ballots_360b E M q1 q3 x5 x7 x10 x11 x12 = some (t, w11, w12, F, N)) (k0 : ∀ (ad1 : Nat → Nat), (∀ i, i < nE E0 → ad1 i = ad0 i) → nE E0 ≤ nE F → t = 0 → ∀ (H : Heap) (locs : List Loc) (ls : Array Slot), va_P z.1 classes (wv z ad1 F N) H → va_D A (wv z ad1 F N) → va_S A s.heap H locs → lv_has ls 14 [(0, .ref (ad1 1)), (1, .ref (ad1 q1)), (3, .ref (ad1 q3)), (5, .int (oI x5)), (7, .int (oI x7)), (10, .int (oI x10)), (11, .int (oI w11)), (12, .int (oI w12))] → W p l e (rmK 6 171 mc ms) s m args below meth c H locs c1 s1 Q (F0 m 360 ls [])) (k1 : ∀ (ad1 : Nat → Nat), (∀ i, i < nE E0 → ad1 i = ad0 i) → nE E0 ≤ nE F → t = 1 → ∀ (H : Heap) (locs : List Loc) (ls : Array Slot), va_P z.1 classes (wv z ad1 F N) H → va_D A (wv z ad1 F N) → va_S A s.heap H locs → lv_has ls 14 [(11, .int (oI w11))] → W p l e (rmK 6 171 mc ms) s m args below meth c H locs c1 s1 Q (F0 m 454 ls [])) : ∀ (H : Heap) (locs : List Loc) (ls : Array Slot), va_P z.1 classes (wv z ad E M) H → va_D A (wv z ad E M) → va_S A s.heap H locs → lv_has ls 14 [(0, .ref (ad 1)), (1, .ref (ad q1)), (3, .ref (ad q3)), (5, .int (oI x5)), (7, .int (oI x7)), (10, .int (oI x10)), (11, .int (oI x11)), (12, .int (oI x12))] → W p l e (rmK 6 171 mc ms) s m args below meth c H locs c0 s0 Q (F0 m 360 ls []) := by
  intro H locs ls hP hD hS hl
  unfold La_ballots_360b at h
  obtain ⟨hL, h⟩ := ck_e h
  obtain ⟨h_q1, h⟩ := ck_e h
  obtain ⟨h_q3, h⟩ := ck_e h
  refine lv_iload hx hb d_L4_360 (lv_at hl 7 rfl) ?_
  refine lv_aload_n hx hb d_L4_362 rfl (lv_at hl 1 rfl) ?_
  refine m_giN (C := "BallothallLaw$Box") (T := TX12) (N := 4) (ci := 12) (k := 0) hx hb hts iX12 hown hG hP h_q1.1 h_q1.2 rfl (by decide) n_775 rfl (fun _ h9 => h9) rfl rfl d_L4_363 ?_
  obtain ⟨ok47, h⟩ := ck_e h
  obtain ⟨ok48, h⟩ := ck_e h
  refine lv_icmp_ge (tgt := 454) hx hb d_L4_366 (by decide) (fun c9 => ?_) (fun c9 => ?_)
  · have h := ite_t ((oI_le (a := (M q1 0)) (b := x12) ok48 ok47).mp c9) h
    obtain ⟨rfl, rfl, rfl, rfl, rfl⟩ := in5 h
    exact W.wide (by omega) (by omega) (k1 ad hag0 hE0 rfl H locs ls hP hD hS (lv_sub hl [6] rfl))
  · have h := ite_f (fun q => c9 ((oI_le (a := (M q1 0)) (b := x12) ok48 ok47).mpr q)) h
    refine lv_aload_n hx hb d_L4_369 rfl (lv_at hl 0 rfl) ?_
    refine lv_iload hx hb d_L4_370 (lv_at hl 5 rfl) ?_
    refine lv_iload hx hb d_L4_372 (lv_at hl 7 rfl) ?_
    refine lv_iconst (v := oI 1) hx hb d_L4_374 (by decide +kernel) ?_
    obtain ⟨r49, g49, h⟩ := bd_e h
    refine kV (As := [.int (oI x10), .int (oI x12), .int (oI 1)]) (rest := []) (s_B_kindAt l z ad E M x10 x12 1 r49 hL g49) hx hb hml hown hts w_1058 w_1055 w_1056 w_1057 w_1 md_b67c3a ⟨Nat.le_of_ble_eq_true rfl, Nat.le_of_ble_eq_true rfl⟩ hG hZ hP hD hS hA 1 (wv_o (ci := 11) (yi_1 hL) (yt_1 hL)) rfl rfl rfl hl.1 rfl (Nat.le_of_ble_eq_true rfl) d_L4_375 ⟨(show _ ≤ mc by omega), (show _ ≤ ms by omega)⟩ (fun _ H locs hP hD hS => ?_)
    have hP : va_P z.1 classes (wv z ad E M) H := hP
    have hD : va_D A (wv z ad E M) := hD
    refine W.eq (g2 := F0 m 378 ls [.int (oI r49)]) rfl ?_
    refine lv_istore (lv' := [(13, .int (oI r49)), (0, .ref (ad 1)), (1, .ref (ad q1)), (3, .ref (ad q3)), (5, .int (oI x5)), (7, .int (oI x7)), (10, .int (oI x10)), (11, .int (oI x11)), (12, .int (oI x12))]) hx hb d_L4_378 hl (by decide) rfl (fun ls hl => ?_)
    refine lv_iload hx hb d_L4_380 (lv_at hl 7 rfl) ?_
    obtain ⟨ok50, h⟩ := ck_e h
    refine lv_if_eq (tgt := 445) hx hb d_L4_382 (by decide) (fun c9 => ?_) (fun c9 => ?_)
    · have h := ite_t ((oI_eq0 ok50).mp c9) h
      refine lv_iconst (v := oI 0) hx hb d_L4_445 (by decide +kernel) ?_
      refine lv_istore (lv' := [(11, .int (oI 0)), (13, .int (oI r49)), (0, .ref (ad 1)), (1, .ref (ad q1)), (3, .ref (ad q3)), (5, .int (oI x5)), (7, .int (oI x7)), (10, .int (oI x10)), (12, .int (oI x12))]) hx hb d_L4_446 hl (by decide) rfl (fun ls hl => ?_)
      refine lv_iinc (v := oI (x12 + 1)) (lv' := [(12, .int (oI (x12 + 1))), (11, .int (oI 0)), (13, .int (oI r49)), (0, .ref (ad 1)), (1, .ref (ad q1)), (3, .ref (ad q3)), (5, .int (oI x5)), (7, .int (oI x7)), (10, .int (oI x10))]) hx hb d_L4_448 hl (k := 8) rfl (oI_add x12 1) (by decide) rfl (fun ls hl => ?_)
      refine lv_goto (tgt := 360) hx hb d_L4_451 (by decide) ?_
      obtain ⟨rfl, rfl, rfl, rfl, rfl⟩ := in5 h
      exact W.wide (by omega) (by omega) (k0 ad hag0 hE0 rfl H locs ls hP hD hS (lv_sub hl [3, 4, 5, 6, 7, 8, 1, 0] rfl))
    · have h := ite_f (fun q => c9 ((oI_eq0 ok50).mpr q)) h
      refine lv_aload_n hx hb d_L4_385 rfl (lv_at hl 2 rfl) ?_
      obtain ⟨p51, g51, h⟩ := bd_e h
      obtain ⟨h_p51, h⟩ := ck_e h
      refine m_grN (j := p51) (C := "BallothallLaw$Box") (T := TX12) (N := 4) (ci := 12) (k := 1) hx hb hts iX12 hown hG hP h_q1.1 h_q1.2 rfl (by decide) n_777 rfl (fun _ h9 => h9) rfl rfl g51 d_L4_386 ?_
      refine lv_iload hx hb d_L4_389 (lv_at hl 6 rfl) ?_
      obtain ⟨ok52, h⟩ := ck_e h
      obtain ⟨p53, g53, h⟩ := bd_e h
      obtain ⟨h_p53, h⟩ := ck_e h
      refine m_ar (k := p53) hx hb hG hP h_p51.1 (isQ_T h_p51) ok52 g53 d_L4_391 ?_
      refine lv_iload hx hb d_L4_392 (lv_at hl 8 rfl) ?_
      obtain ⟨ok54, h⟩ := ck_e h
      refine m_ia hx hb hG hP h_p53.1 (isIA_T h_p53) ok54 d_L4_394 ?_
      refine lv_aload_n hx hb d_L4_395 rfl (lv_at hl 3 rfl) ?_
      refine lv_iload hx hb d_L4_396 (lv_at hl 8 rfl) ?_
      obtain ⟨ok55, h⟩ := ck_e h
      refine m_ia hx hb hG hP h_q3.1 (isIA_T h_q3) ok55 d_L4_398 ?_
      obtain ⟨ok56, h⟩ := ck_e h
      obtain ⟨ok57, h⟩ := ck_e h
      refine lv_icmp_ne (tgt := 445) hx hb d_L4_399 (by decide) (fun c9 => ?_) (fun c9 => ?_)
      · have h := ite_f (fun q => c9 ((oI_eq (a := (M p53 x12.toNat)) (b := (M q3 x12.toNat)) ok56 ok57).mpr q)) h
        refine lv_iconst (v := oI 0) hx hb d_L4_445 (by decide +kernel) ?_
        refine lv_istore (lv' := [(11, .int (oI 0)), (13, .int (oI r49)), (0, .ref (ad 1)), (1, .ref (ad q1)), (3, .ref (ad q3)), (5, .int (oI x5)), (7, .int (oI x7)), (10, .int (oI x10)), (12, .int (oI x12))]) hx hb d_L4_446 hl (by decide) rfl (fun ls hl => ?_)
        refine lv_iinc (v := oI (x12 + 1)) (lv' := [(12, .int (oI (x12 + 1))), (11, .int (oI 0)), (13, .int (oI r49)), (0, .ref (ad 1)), (1, .ref (ad q1)), (3, .ref (ad q3)), (5, .int (oI x5)), (7, .int (oI x7)), (10, .int (oI x10))]) hx hb d_L4_448 hl (k := 8) rfl (oI_add x12 1) (by decide) rfl (fun ls hl => ?_)
        refine lv_goto (tgt := 360) hx hb d_L4_451 (by decide) ?_
        obtain ⟨rfl, rfl, rfl, rfl, rfl⟩ := in5 h
        exact W.wide (by omega) (by omega) (k0 ad hag0 hE0 rfl H locs ls hP hD hS (lv_sub hl [3, 4, 5, 6, 7, 8, 1, 0] rfl))
      · have h := ite_t ((oI_eq (a := (M p53 x12.toNat)) (b := (M q3 x12.toNat)) ok56 ok57).mp c9) h
        refine lv_aload_n hx hb d_L4_402 rfl (lv_at hl 3 rfl) ?_
        refine lv_iload hx hb d_L4_403 (lv_at hl 8 rfl) ?_
        refine m_ia hx hb hG hP h_q3.1 (isIA_T h_q3) ok55 d_L4_405 ?_
        refine lv_bipush (v := oI 9) hx hb d_L4_406 (by decide +kernel) ?_
        refine lv_icmp_ge (tgt := 423) hx hb d_L4_408 (by decide) (fun c9 => ?_) (fun c9 => ?_)
        · have h := ite_t ((oI_le (a := (9 : Int)) (b := (M q3 x12.toNat)) (by decide) ok57).mp c9) h
          refine lv_iload hx hb d_L4_423 (lv_at hl 0 rfl) ?_
          refine lv_iload hx hb d_L4_425 (lv_at hl 4 rfl) ?_
          obtain ⟨ok58, h⟩ := ck_e h
          refine lv_if_ne (tgt := 434) hx hb d_L4_427 (by decide) (fun c9 => ?_) (fun c9 => ?_)
          · have h := ite_f (fun q => c9 ((oI_eq0 ok58).mpr q)) h
            refine lv_iload hx hb d_L4_434 (lv_at hl 5 rfl) ?_
            refine lv_iconst (v := oI 1) hx hb d_L4_436 (by decide +kernel) ?_
            refine lv_iadd hx hb d_L4_437 ?_
            refine nrm (oI_add _ _) ?_
            exact b_La_ballots_j438 l z E0 ad0 ad E M q1 q3 x5 x7 x10 x12 (x7 + 1) r49 t w11 w12 F N hx hb hml hts hown hlocks hA hG hZ mc ms _ _ c1 s1 (by omega) (by omega) hm hm2 hag0 hE0 h k0 k1 H locs ls hP hD hS (lv_sub hl [1, 2, 3, 4, 5, 6, 8] rfl)
          · have h := ite_t ((oI_eq0 ok58).mp c9) h
            refine lv_iconst (v := oI 0) hx hb d_L4_430 (by decide +kernel) ?_
            refine lv_goto (tgt := 438) hx hb d_L4_431 (by decide) ?_
            exact b_La_ballots_j438 l z E0 ad0 ad E M q1 q3 x5 x7 x10 x12 0 r49 t w11 w12 F N hx hb hml hts hown hlocks hA hG hZ mc ms _ _ c1 s1 (by omega) (by omega) hm hm2 hag0 hE0 h k0 k1 H locs ls hP hD hS (lv_sub hl [1, 2, 3, 4, 5, 6, 8] rfl)
        · have h := ite_f (fun q => c9 ((oI_le (a := (9 : Int)) (b := (M q3 x12.toNat)) (by decide) ok57).mpr q)) h
          refine lv_iload hx hb d_L4_411 (lv_at hl 0 rfl) ?_
          refine lv_aload_n hx hb d_L4_413 rfl (lv_at hl 3 rfl) ?_
          refine lv_iload hx hb d_L4_414 (lv_at hl 8 rfl) ?_
          refine m_ia hx hb hG hP h_q3.1 (isIA_T h_q3) ok55 d_L4_416 ?_
          obtain ⟨ok61, h⟩ := ck_e h
          refine lv_icmp_ne (tgt := 445) hx hb d_L4_417 (by decide) (fun c9 => ?_) (fun c9 => ?_)
          · have h := ite_f (fun q => c9 ((oI_eq (a := r49) (b := (M q3 x12.toNat)) ok61 ok57).mpr q)) h
            refine lv_iconst (v := oI 0) hx hb d_L4_445 (by decide +kernel) ?_
            refine lv_istore (lv' := [(11, .int (oI 0)), (13, .int (oI r49)), (0, .ref (ad 1)), (1, .ref (ad q1)), (3, .ref (ad q3)), (5, .int (oI x5)), (7, .int (oI x7)), (10, .int (oI x10)), (12, .int (oI x12))]) hx hb d_L4_446 hl (by decide) rfl (fun ls hl => ?_)
            refine lv_iinc (v := oI (x12 + 1)) (lv' := [(12, .int (oI (x12 + 1))), (11, .int (oI 0)), (13, .int (oI r49)), (0, .ref (ad 1)), (1, .ref (ad q1)), (3, .ref (ad q3)), (5, .int (oI x5)), (7, .int (oI x7)), (10, .int (oI x10))]) hx hb d_L4_448 hl (k := 8) rfl (oI_add x12 1) (by decide) rfl (fun ls hl => ?_)
            refine lv_goto (tgt := 360) hx hb d_L4_451 (by decide) ?_
            obtain ⟨rfl, rfl, rfl, rfl, rfl⟩ := in5 h
            exact W.wide (by omega) (by omega) (k0 ad hag0 hE0 rfl H locs ls hP hD hS (lv_sub hl [3, 4, 5, 6, 7, 8, 1, 0] rfl))
          · have h := ite_t ((oI_eq (a := r49) (b := (M q3 x12.toNat)) ok61 ok57).mp c9) h
            refine lv_goto (tgt := 441) hx hb d_L4_420 (by decide) ?_
            refine lv_iconst (v := oI 1) hx hb d_L4_441 (by decide +kernel) ?_
            refine lv_goto (tgt := 446) hx hb d_L4_442 (by decide) ?_
            refine lv_istore (lv' := [(11, .int (oI 1)), (13, .int (oI r49)), (0, .ref (ad 1)), (1, .ref (ad q1)), (3, .ref (ad q3)), (5, .int (oI x5)), (7, .int (oI x7)), (10, .int (oI x10)), (12, .int (oI x12))]) hx hb d_L4_446 hl (by decide) rfl (fun ls hl => ?_)
            refine lv_iinc (v := oI (x12 + 1)) (lv' := [(12, .int (oI (x12 + 1))), (11, .int (oI 1)), (13, .int (oI r49)), (0, .ref (ad 1)), (1, .ref (ad q1)), (3, .ref (ad q3)), (5, .int (oI x5)), (7, .int (oI x7)), (10, .int (oI x10))]) hx hb d_L4_448 hl (k := 8) rfl (oI_add x12 1) (by decide) rfl (fun ls hl => ?_)
            refine lv_goto (tgt := 360) hx hb d_L4_451 (by decide) ?_
            obtain ⟨rfl, rfl, rfl, rfl, rfl⟩ := in5 h
            exact W.wide (by omega) (by omega) (k0 ad hag0 hE0 rfl H locs ls hP hD hS (lv_sub hl [3, 4, 5, 6, 7, 8, 1, 0] rfl))
set_option maxRecDepth 100000 in
set_option maxHeartbeats 4000000 in
theorem s_La_ballots_360 (l : Launch) (z : Zz) (E0 : Ev) (ad0 : Nat → Nat) (q1 : Nat) (q3 : Nat) (x5 : Int) (x7 : Int) (x10 : Int) {Q : State → Prop} {p : Program} {e : Env} {s : State} {m : MethodId} {below : List Frame} {meth : Method} {c : Code} {A : Nat → Prop} {args : Array Value} (hx : p.tables.exec = Jvm.exec) (hb : c.code = method_4_code) (hml : c.maxLocals = 14) (hts : ∀ w ∈ WG, w.before args s = true) (hown : s.vm.findClass "BallothallLaw" = some m.cls) (hlocks : meth.locks = false) (hA : ∀ q, s.heap.size ≤ q → A q) (hG : KG z s) (hZ : FZ z A s) (mc ms c1 s1 : Nat) (hm : c1 ≤ mc) (hm2 : s1 ≤ ms) : ∀ (fu c0 s0 : Nat) (ad : Nat → Nat) (E : Ev) (M : Mm) (x11 : Int) (x12 : Int) (t : Nat) (w11 : Int) (w12 : Int) (F : Ev) (N : Mm), c0 + fu * 0 ≤ c1 → s0 + fu * 0 ≤ s1 → (∀ i, i < nE E0 → ad i = ad0 i) → nE E0 ≤ nE E → l_La_ballots_360 q1 q3 x5 x7 x10 fu E M x11 x12 = some (t, w11, w12, F, N) → (∀ (ad1 : Nat → Nat), (∀ i, i < nE E0 → ad1 i = ad0 i) → nE E0 ≤ nE F → t = 1 → ∀ (H : Heap) (locs : List Loc) (ls : Array Slot), va_P z.1 classes (wv z ad1 F N) H → va_D A (wv z ad1 F N) → va_S A s.heap H locs → lv_has ls 14 [(11, .int (oI w11))] → W p l e (rmK 6 171 mc ms) s m args below meth c H locs c1 s1 Q (F0 m 454 ls [])) → ∀ (H : Heap) (locs : List Loc) (ls : Array Slot), va_P z.1 classes (wv z ad E M) H → va_D A (wv z ad E M) → va_S A s.heap H locs → lv_has ls 14 [(0, .ref (ad 1)), (1, .ref (ad q1)), (3, .ref (ad q3)), (5, .int (oI x5)), (7, .int (oI x7)), (10, .int (oI x10)), (11, .int (oI x11)), (12, .int (oI x12))] → W p l e (rmK 6 171 mc ms) s m args below meth c H locs c0 s0 Q (F0 m 360 ls []) := by
  intro fu
  induction fu with
  | zero =>
    intro c0 s0 ad E M x11 x12 t w11 w12 F N hc hs hag0 hE0 h
    have h : (none : Option (Nat × Int × Int × Ev × Mm)) = some _ := h
    cases h
  | succ fu ih =>
    intro c0 s0 ad E M x11 x12 t w11 w12 F N hc hs hag0 hE0 h k1 H locs ls hP hD hS hl
    obtain ⟨⟨t0, w110, w120, F9, N9⟩, g0, h⟩ := bd_e h
    refine W.wide (Nat.le_refl _) (Nat.le_refl _) (b_La_ballots_360b l z E0 ad0 ad E M q1 q3 x5 x7 x10 x11 x12 t0 w110 w120 F9 N9 hx hb hml hts hown hlocks hA hG hZ mc ms c0 s0 (c0 + 0) (s0 + 0) (Nat.le_refl _) (Nat.le_refl _) (by omega) (by omega) hag0 hE0 g0 (fun ad1 ha he e0 => ?_) (fun ad1 ha he e0 => ?_) H locs ls hP hD hS hl)
    · subst e0
      have h := ite_t rfl h
      exact ih (c0 + 0) (s0 + 0) ad1 F9 N9 w110 w120 t w11 w12 F N (by omega) (by omega) ha he h k1
    · subst e0
      have h := ite_f (by decide) h
      obtain ⟨rfl, rfl, rfl, rfl, rfl⟩ := in5 h
      exact fun H locs ls hP hD hS hl => W.wide (by omega) (by omega) (k1 ad1 ha he rfl H locs ls hP hD hS hl)
set_option maxRecDepth 100000 in
set_option maxHeartbeats 4000000 in
theorem b_La_ballots_j322 (l : Launch) (z : Zz) (E0 : Ev) (ad0 : Nat → Nat) (ad : Nat → Nat) (E : Ev) (M : Mm) (q1 : Nat) (q3 : Nat) (x5 : Int) (x7 : Int) (x9 : Int) (x10 : Int) (r : Int) (F : Ev) (N : Mm) {p : Program} {e : Env} {s : State} {m : MethodId} {below : List Frame} {meth : Method} {c : Code} {A : Nat → Prop} {args : Array Value} (hx : p.tables.exec = Jvm.exec) (hb : c.code = method_4_code) (hml : c.maxLocals = 14) (hts : ∀ w ∈ WG, w.before args s = true) (hown : s.vm.findClass "BallothallLaw" = some m.cls) (hlocks : meth.locks = false) (hA : ∀ q, s.heap.size ≤ q → A q) (hG : KG z s) (hZ : FZ z A s) (hr : meth.sig.returnType = (some .boolean)) (mc ms c0 s0 c1 s1 : Nat) (hc : c0 + 0 ≤ c1) (hs : s0 + 0 ≤ s1) (hm : c1 ≤ mc) (hm2 : s1 ≤ ms) (hag0 : ∀ i, i < nE E0 → ad i = ad0 i) (hE0 : nE E0 ≤ nE E) (h : La_ballots_j322 E M q1 q3 x5 x7 x9 x10 = some (r, F, N)) : ∀ (H : Heap) (locs : List Loc) (ls : Array Slot), va_P z.1 classes (wv z ad E M) H → va_D A (wv z ad E M) → va_S A s.heap H locs → lv_has ls 14 [(0, .ref (ad 1)), (1, .ref (ad q1)), (3, .ref (ad q3)), (5, .int (oI x5)), (7, .int (oI x7)), (9, .int (oI x9)), (10, .int (oI x10))] → W p l e (rmK 6 171 mc ms) s m args below meth c H locs c0 s0 (MQ below (QK z A (fun u => some (.int (oI r))) (fun u => wv z (adj E0 ad0 u) F N)) args s c1 s1 A) (F0 m 322 ls []) := by
  intro H locs ls hP hD hS hl
  unfold La_ballots_j322 at h
  obtain ⟨hL, h⟩ := ck_e h
  obtain ⟨h_q1, h⟩ := ck_e h
  obtain ⟨h_q3, h⟩ := ck_e h
  refine lv_aload_n hx hb d_L4_322 rfl (lv_at hl 1 rfl) ?_
  obtain ⟨p40, g40, h⟩ := bd_e h
  obtain ⟨h_p40, h⟩ := ck_e h
  refine m_grN (j := p40) (C := "BallothallLaw$Box") (T := TX12) (N := 4) (ci := 12) (k := 2) hx hb hts iX12 hown hG hP h_q1.1 h_q1.2 rfl (by decide) n_779 rfl (fun _ h9 => h9) rfl rfl g40 d_L4_323 ?_
  refine lv_iload hx hb d_L4_326 (lv_at hl 6 rfl) ?_
  refine lv_dup2_11 hx hb d_L4_328 rfl rfl ?_
  obtain ⟨ok41, h⟩ := ck_e h
  refine m_ia hx hb hG hP h_p40.1 (isIA_T h_p40) ok41 d_L4_329 ?_
  refine lv_iload hx hb d_L4_330 (lv_at hl 5 rfl) ?_
  refine lv_iadd hx hb d_L4_332 ?_
  refine nrm (oI_add _ _) ?_
  refine m_is hx hb hG hP hD hS h_p40.1 (isIA_T h_p40) ok41 d_L4_333 (fun H locs hP hD hS => ?_)
  have hP : va_P z.1 classes (wv z ad E (u2 M p40 x10.toNat ((M p40 x10.toNat) + x9))) H := hP
  have hD : va_D A (wv z ad E (u2 M p40 x10.toNat ((M p40 x10.toNat) + x9))) := hD
  refine lv_aload_n hx hb d_L4_334 rfl (lv_at hl 0 rfl) ?_
  refine lv_iload hx hb d_L4_335 (lv_at hl 6 rfl) ?_
  obtain ⟨r42, g42, h⟩ := bd_e h
  refine kV (As := [.int (oI x10)]) (rest := []) (s_B_countOf l z ad E (u2 M p40 x10.toNat ((M p40 x10.toNat) + x9)) x10 r42 hL g42) hx hb hml hown hts w_1054 w_1051 w_1052 w_1053 w_1 md_2bddb0 ⟨Nat.le_of_ble_eq_true rfl, Nat.le_of_ble_eq_true rfl⟩ hG hZ hP hD hS hA 1 (wv_o (ci := 11) (yi_1 hL) (yt_1 hL)) rfl rfl rfl hl.1 rfl (Nat.le_of_ble_eq_true rfl) d_L4_337 ⟨(show _ ≤ mc by omega), (show _ ≤ ms by omega)⟩ (fun _ H locs hP hD hS => ?_)
  have hP : va_P z.1 classes (wv z ad E (u2 M p40 x10.toNat ((M p40 x10.toNat) + x9))) H := hP
  have hD : va_D A (wv z ad E (u2 M p40 x10.toNat ((M p40 x10.toNat) + x9))) := hD
  refine W.eq (g2 := F0 m 340 ls [.int (oI r42)]) rfl ?_
  refine lv_aload_n hx hb d_L4_340 rfl (lv_at hl 1 rfl) ?_
  obtain ⟨p43, g43, h⟩ := bd_e h
  obtain ⟨h_p43, h⟩ := ck_e h
  refine m_grN (j := p43) (C := "BallothallLaw$Box") (T := TX12) (N := 4) (ci := 12) (k := 2) hx hb hts iX12 hown hG hP h_q1.1 h_q1.2 rfl (by decide) n_779 rfl (fun _ h9 => h9) rfl rfl g43 d_L4_341 ?_
  refine lv_iload hx hb d_L4_344 (lv_at hl 6 rfl) ?_
  obtain ⟨ok44, h⟩ := ck_e h
  refine m_ia hx hb hG hP h_p43.1 (isIA_T h_p43) ok44 d_L4_346 ?_
  obtain ⟨ok45, h⟩ := ck_e h
  obtain ⟨ok46, h⟩ := ck_e h
  refine lv_icmp_ne (tgt := 354) hx hb d_L4_347 (by decide) (fun c9 => ?_) (fun c9 => ?_)
  · have h := ite_f (fun q => c9 ((oI_eq (a := r42) (b := ((u2 M p40 x10.toNat ((M p40 x10.toNat) + x9)) p43 x10.toNat)) ok45 ok46).mpr q)) h
    refine lv_iconst (v := oI 0) hx hb d_L4_354 (by decide +kernel) ?_
    refine lv_istore (lv' := [(11, .int (oI 0)), (0, .ref (ad 1)), (1, .ref (ad q1)), (3, .ref (ad q3)), (5, .int (oI x5)), (7, .int (oI x7)), (9, .int (oI x9)), (10, .int (oI x10))]) hx hb d_L4_355 hl (by decide) rfl (fun ls hl => ?_)
    refine lv_iconst (v := oI 0) hx hb d_L4_357 (by decide +kernel) ?_
    refine lv_istore (lv' := [(12, .int (oI 0)), (11, .int (oI 0)), (0, .ref (ad 1)), (1, .ref (ad q1)), (3, .ref (ad q3)), (5, .int (oI x5)), (7, .int (oI x7)), (9, .int (oI x9)), (10, .int (oI x10))]) hx hb d_L4_358 hl (by decide) rfl (fun ls hl => ?_)
    obtain ⟨⟨t62, v62_11, v62_12, E62, M62⟩, g62, h⟩ := bd_e h
    obtain ⟨hgw62, h⟩ := ck_e h
    obtain ⟨hL62, h⟩ := ck_e h
    obtain ⟨ok62, h⟩ := ck_e h
    refine s_La_ballots_360 l z E ad q1 q3 x5 x7 x10 hx hb hml hts hown hlocks hA hG hZ mc ms (c0 + 0) (s0 + 0) (by omega) (by omega) 5000 _ _ ad E (u2 M p40 x10.toNat ((M p40 x10.toNat) + x9)) 0 0 t62 v62_11 v62_12 E62 M62 (by omega) (by omega) (fun _ _ => rfl) (Nat.le_refl _) g62 (fun ad62 hag62 hEE62 e62 H locs ls hP hD hS hl => ?_) H locs ls hP hD hS (lv_sub hl [2, 3, 4, 5, 6, 8, 1, 0] rfl)
    have hag0 : ∀ i, i < nE E0 → ad62 i = ad0 i := fun i hi => (hag62 i (Nat.lt_of_lt_of_le hi hE0)).trans (hag0 i hi)
    have hE0 : nE E0 ≤ nE E62 := Nat.le_trans hE0 hgw62.1
    have hL : Lay E62 := hL62
    refine lv_iload hx hb d_L4_454 (lv_at hl 0 rfl) ?_
    refine W.wide (k := c1) (n := s1) (by omega) (by omega) ?_
    obtain ⟨ok63, h⟩ := ck_e h
    obtain ⟨rfl, rfl, rfl⟩ := in3 h
    exact W.zret hx hb hr (nz_b ok63) (fun t ht hW => qkA hP hD hS ad62 (congrArg (fun q => wv z q E62 M62) (adj_self hag0).symm) rfl ht) hS.2.2 d_L4_456
  · have h := ite_t ((oI_eq (a := r42) (b := ((u2 M p40 x10.toNat ((M p40 x10.toNat) + x9)) p43 x10.toNat)) ok45 ok46).mp c9) h
    refine lv_iconst (v := oI 1) hx hb d_L4_350 (by decide +kernel) ?_
    refine lv_goto (tgt := 355) hx hb d_L4_351 (by decide) ?_
    refine lv_istore (lv' := [(11, .int (oI 1)), (0, .ref (ad 1)), (1, .ref (ad q1)), (3, .ref (ad q3)), (5, .int (oI x5)), (7, .int (oI x7)), (9, .int (oI x9)), (10, .int (oI x10))]) hx hb d_L4_355 hl (by decide) rfl (fun ls hl => ?_)
    refine lv_iconst (v := oI 0) hx hb d_L4_357 (by decide +kernel) ?_
    refine lv_istore (lv' := [(12, .int (oI 0)), (11, .int (oI 1)), (0, .ref (ad 1)), (1, .ref (ad q1)), (3, .ref (ad q3)), (5, .int (oI x5)), (7, .int (oI x7)), (9, .int (oI x9)), (10, .int (oI x10))]) hx hb d_L4_358 hl (by decide) rfl (fun ls hl => ?_)
    obtain ⟨⟨t64, v64_11, v64_12, E64, M64⟩, g64, h⟩ := bd_e h
    obtain ⟨hgw64, h⟩ := ck_e h
    obtain ⟨hL64, h⟩ := ck_e h
    obtain ⟨ok64, h⟩ := ck_e h
    refine s_La_ballots_360 l z E ad q1 q3 x5 x7 x10 hx hb hml hts hown hlocks hA hG hZ mc ms (c0 + 0) (s0 + 0) (by omega) (by omega) 5000 _ _ ad E (u2 M p40 x10.toNat ((M p40 x10.toNat) + x9)) 1 0 t64 v64_11 v64_12 E64 M64 (by omega) (by omega) (fun _ _ => rfl) (Nat.le_refl _) g64 (fun ad64 hag64 hEE64 e64 H locs ls hP hD hS hl => ?_) H locs ls hP hD hS (lv_sub hl [2, 3, 4, 5, 6, 8, 1, 0] rfl)
    have hag0 : ∀ i, i < nE E0 → ad64 i = ad0 i := fun i hi => (hag64 i (Nat.lt_of_lt_of_le hi hE0)).trans (hag0 i hi)
    have hE0 : nE E0 ≤ nE E64 := Nat.le_trans hE0 hgw64.1
    have hL : Lay E64 := hL64
    refine lv_iload hx hb d_L4_454 (lv_at hl 0 rfl) ?_
    refine W.wide (k := c1) (n := s1) (by omega) (by omega) ?_
    obtain ⟨ok65, h⟩ := ck_e h
    obtain ⟨rfl, rfl, rfl⟩ := in3 h
    exact W.zret hx hb hr (nz_b ok65) (fun t ht hW => qkA hP hD hS ad64 (congrArg (fun q => wv z q E64 M64) (adj_self hag0).symm) rfl ht) hS.2.2 d_L4_456
set_option maxRecDepth 100000 in
set_option maxHeartbeats 4000000 in
theorem b_La_ballots_j265 (l : Launch) (z : Zz) (E0 : Ev) (ad0 : Nat → Nat) (ad : Nat → Nat) (E : Ev) (M : Mm) (q1 : Nat) (q3 : Nat) (x5 : Int) (x7 : Int) (y0 : Int) (y1 : Nat) (y2 : Int) (r : Int) (F : Ev) (N : Mm) {p : Program} {e : Env} {s : State} {m : MethodId} {below : List Frame} {meth : Method} {c : Code} {A : Nat → Prop} {args : Array Value} (hx : p.tables.exec = Jvm.exec) (hb : c.code = method_4_code) (hml : c.maxLocals = 14) (hts : ∀ w ∈ WG, w.before args s = true) (hown : s.vm.findClass "BallothallLaw" = some m.cls) (hlocks : meth.locks = false) (hA : ∀ q, s.heap.size ≤ q → A q) (hG : KG z s) (hZ : FZ z A s) (hr : meth.sig.returnType = (some .boolean)) (mc ms c0 s0 c1 s1 : Nat) (hc : c0 + 0 ≤ c1) (hs : s0 + 0 ≤ s1) (hm : c1 ≤ mc) (hm2 : s1 ≤ ms) (hag0 : ∀ i, i < nE E0 → ad i = ad0 i) (hE0 : nE E0 ≤ nE E) (h : La_ballots_j265 E M q1 q3 x5 x7 y0 y1 y2 = some (r, F, N)) : ∀ (H : Heap) (locs : List Loc) (ls : Array Slot), va_P z.1 classes (wv z ad E M) H → va_D A (wv z ad E M) → va_S A s.heap H locs → lv_has ls 14 [(0, .ref (ad 1)), (1, .ref (ad q1)), (3, .ref (ad q3)), (5, .int (oI x5)), (7, .int (oI x7))] → W p l e (rmK 6 171 mc ms) s m args below meth c H locs c0 s0 (MQ below (QK z A (fun u => some (.int (oI r))) (fun u => wv z (adj E0 ad0 u) F N)) args s c1 s1 A) (F0 m 265 ls [.int (oI y0), .ref (ad y1), .int (oI y2)]) := by
  intro H locs ls hP hD hS hl
  unfold La_ballots_j265 at h
  obtain ⟨hL, h⟩ := ck_e h
  obtain ⟨h_q1, h⟩ := ck_e h
  obtain ⟨h_q3, h⟩ := ck_e h
  obtain ⟨h_y1, h⟩ := ck_e h
  obtain ⟨⟨r36, M36⟩, g36, h⟩ := bd_e h
  refine kS (As := [.ref (ad y1), .int (oI y0)]) (rest := [.int (oI y2)]) (s_La_next l z ad E M y1 y0 r36 M36 hL g36) hx hb hml hown hts w_797 w_795 w_796 w_0 md_199d8f ⟨Nat.le_of_ble_eq_true rfl, Nat.le_of_ble_eq_true rfl⟩ hG hZ hP hD hS hA rfl hl.1 rfl (Nat.le_of_ble_eq_true rfl) d_L4_265 ⟨(show _ ≤ mc by omega), (show _ ≤ ms by omega)⟩ (fun _ H locs hP hD hS => ?_)
  have hP : va_P z.1 classes (wv z ad E M36) H := hP
  have hD : va_D A (wv z ad E M36) := hD
  refine W.eq (g2 := F0 m 268 ls [.int (oI r36), .int (oI y2)]) rfl ?_
  refine lv_iadd hx hb d_L4_268 ?_
  refine nrm (oI_add _ _) ?_
  refine lv_istore (lv' := [(9, .int (oI (y2 + r36))), (0, .ref (ad 1)), (1, .ref (ad q1)), (3, .ref (ad q3)), (5, .int (oI x5)), (7, .int (oI x7))]) hx hb d_L4_269 hl (by decide) rfl (fun ls hl => ?_)
  refine lv_aload_n hx hb d_L4_271 rfl (lv_at hl 1 rfl) ?_
  refine lv_iload hx hb d_L4_272 (lv_at hl 0 rfl) ?_
  obtain ⟨⟨r37, M37⟩, g37, h⟩ := bd_e h
  refine kV (As := [.int (oI (y2 + r36))]) (rest := []) (s_B_ballots l z ad E M36 (y2 + r36) r37 M37 hL g37) hx hb hml hown hts w_1021 w_1018 w_1019 w_1020 w_1 md_7edbe8 ⟨Nat.le_of_ble_eq_true rfl, Nat.le_of_ble_eq_true rfl⟩ hG hZ hP hD hS hA 1 (wv_o (ci := 11) (yi_1 hL) (yt_1 hL)) rfl rfl rfl hl.1 rfl (Nat.le_of_ble_eq_true rfl) d_L4_274 ⟨(show _ ≤ mc by omega), (show _ ≤ ms by omega)⟩ (fun _ H locs hP hD hS => ?_)
  have hP : va_P z.1 classes (wv z ad E M37) H := hP
  have hD : va_D A (wv z ad E M37) := hD
  refine W.eq (g2 := F0 m 277 ls [.int (oI r37)]) rfl ?_
  refine lv_istore (lv' := [(10, .int (oI r37)), (9, .int (oI (y2 + r36))), (0, .ref (ad 1)), (1, .ref (ad q1)), (3, .ref (ad q3)), (5, .int (oI x5)), (7, .int (oI x7))]) hx hb d_L4_277 hl (by decide) rfl (fun ls hl => ?_)
  refine lv_iload hx hb d_L4_279 (lv_at hl 0 rfl) ?_
  obtain ⟨ok38, h⟩ := ck_e h
  refine lv_if_lt (tgt := 293) hx hb d_L4_281 (by decide) (fun c9 => ?_) (fun c9 => ?_)
  · have h := ite_t ((oI_lt0 ok38).mp c9) h
    refine lv_iconst (v := oI 0) hx hb d_L4_293 (by decide +kernel) ?_
    refine W.wide (k := c1) (n := s1) (by omega) (by omega) ?_
    obtain ⟨rfl, rfl, rfl⟩ := in3 h
    exact W.zret hx hb hr rfl (fun t ht hW => qkA hP hD hS ad (congrArg (fun q => wv z q E M37) (adj_self hag0).symm) rfl ht) hS.2.2 d_L4_294
  · have h := ite_f (fun q => c9 ((oI_lt0 ok38).mpr q)) h
    refine lv_iload hx hb d_L4_284 (lv_at hl 0 rfl) ?_
    refine lv_aload_n hx hb d_L4_286 rfl (lv_at hl 3 rfl) ?_
    refine m_giN (C := "BallothallLaw$Box") (T := TX12) (N := 4) (ci := 12) (k := 3) hx hb hts iX12 hown hG hP h_q1.1 h_q1.2 rfl (by decide) n_781 rfl (fun _ h9 => h9) rfl rfl d_L4_287 ?_
    obtain ⟨ok39, h⟩ := ck_e h
    refine lv_icmp_le (tgt := 295) hx hb d_L4_290 (by decide) (fun c9 => ?_) (fun c9 => ?_)
    · have h := ite_t ((oI_le (a := r37) (b := (M37 q1 3)) ok38 ok39).mp c9) h
      refine lv_iload hx hb d_L4_295 (lv_at hl 0 rfl) ?_
      refine lv_aload_n hx hb d_L4_297 rfl (lv_at hl 3 rfl) ?_
      refine m_giN (C := "BallothallLaw$Box") (T := TX12) (N := 4) (ci := 12) (k := 3) hx hb hts iX12 hown hG hP h_q1.1 h_q1.2 rfl (by decide) n_781 rfl (fun _ h9 => h9) rfl rfl d_L4_298 ?_
      refine lv_icmp_ne (tgt := 322) hx hb d_L4_301 (by decide) (fun c9 => ?_) (fun c9 => ?_)
      · have h := ite_f (fun q => c9 ((oI_eq (a := r37) (b := (M37 q1 3)) ok38 ok39).mpr q)) h
        exact b_La_ballots_j322 l z E0 ad0 ad E M37 q1 q3 x5 x7 (y2 + r36) r37 r F N hx hb hml hts hown hlocks hA hG hZ hr mc ms _ _ c1 s1 (by omega) (by omega) hm hm2 hag0 hE0 h H locs ls hP hD hS (lv_sub hl [2, 3, 4, 5, 6, 1, 0] rfl)
      · have h := ite_t ((oI_eq (a := r37) (b := (M37 q1 3)) ok38 ok39).mp c9) h
        refine lv_aload_n hx hb d_L4_304 rfl (lv_at hl 3 rfl) ?_
        obtain ⟨p66, g66, h⟩ := bd_e h
        obtain ⟨h_p66, h⟩ := ck_e h
        refine m_grN (j := p66) (C := "BallothallLaw$Box") (T := TX12) (N := 4) (ci := 12) (k := 1) hx hb hts iX12 hown hG hP h_q1.1 h_q1.2 rfl (by decide) n_777 rfl (fun _ h9 => h9) rfl rfl g66 d_L4_305 ?_
        refine lv_iload hx hb d_L4_308 (lv_at hl 0 rfl) ?_
        refine lv_aload_n hx hb d_L4_310 rfl (lv_at hl 4 rfl) ?_
        obtain ⟨ok67, h⟩ := ck_e h
        obtain ⟨E68, eE68, h⟩ := nb_e h
        refine m_asA (x := r37) hx hb hG hP hD hS h_p66.1 (isQ_T h_p66) h_q3.1 (isIA_T h_q3) ok67 d_L4_311 (fun H locs hP hD hS => ?_)
        have hP : va_P z.1 classes (wv z ad E68 M37) H := by rw [eE68]; exact hP
        have hD : va_D A (wv z ad E68 M37) := by rw [eE68]; exact hD
        have hgw68 : Gw E E68 := by rw [eE68]; exact gw_ref _ _ _ _
        have hE0 : nE E0 ≤ nE E68 := Nat.le_trans hE0 hgw68.1
        obtain ⟨hL, h⟩ := ck_e h
        have h_q1 : isO 12 E68 q1 := isO_up hgw68 h_q1
        have h_q3 : isIA E68 q3 := isA_up hgw68 h_q3
        refine W.eq (g2 := F0 m 312 ls []) rfl ?_
        refine lv_aload_n hx hb d_L4_312 rfl (lv_at hl 3 rfl) ?_
        refine lv_dup hx hb d_L4_313 rfl ?_
        refine m_giN (C := "BallothallLaw$Box") (T := TX12) (N := 4) (ci := 12) (k := 3) hx hb hts iX12 hown hG hP h_q1.1 h_q1.2 rfl (by decide) n_781 rfl (fun _ h9 => h9) rfl rfl d_L4_314 ?_
        refine lv_iconst (v := oI 1) hx hb d_L4_317 (by decide +kernel) ?_
        refine lv_iadd hx hb d_L4_318 ?_
        refine nrm (oI_add _ _) ?_
        refine m_piN (C := "BallothallLaw$Box") (T := TX12) (N := 4) (ci := 12) (k := 3) (ty := .int) hx hb hts iX12 hown hG hP hD hS h_q1.1 h_q1.2 rfl (by decide) n_781 rfl (fun _ h9 => h9) rfl rfl tyX12_ok nmX12 rfl (by decide +kernel) rfl rfl d_L4_319 (fun H locs hP hD hS => ?_)
        have hP : va_P z.1 classes (wv z ad E68 (u2 M37 q1 3 ((M37 q1 3) + 1))) H := hP
        have hD : va_D A (wv z ad E68 (u2 M37 q1 3 ((M37 q1 3) + 1))) := hD
        exact b_La_ballots_j322 l z E0 ad0 ad E68 (u2 M37 q1 3 ((M37 q1 3) + 1)) q1 q3 x5 x7 (y2 + r36) r37 r F N hx hb hml hts hown hlocks hA hG hZ hr mc ms _ _ c1 s1 (by omega) (by omega) hm hm2 hag0 hE0 h H locs ls hP hD hS (lv_sub hl [2, 3, 4, 5, 6, 1, 0] rfl)
    · have h := ite_f (fun q => c9 ((oI_le (a := r37) (b := (M37 q1 3)) ok38 ok39).mpr q)) h
      refine lv_iconst (v := oI 0) hx hb d_L4_293 (by decide +kernel) ?_
      refine W.wide (k := c1) (n := s1) (by omega) (by omega) ?_
      obtain ⟨rfl, rfl, rfl⟩ := in3 h
      exact W.zret hx hb hr rfl (fun t ht hW => qkA hP hD hS ad (congrArg (fun q => wv z q E M37) (adj_self hag0).symm) rfl ht) hS.2.2 d_L4_294
set_option maxRecDepth 100000 in
set_option maxHeartbeats 4000000 in
theorem b_La_ballots_j89 (l : Launch) (z : Zz) (E0 : Ev) (ad0 : Nat → Nat) (ad : Nat → Nat) (E : Ev) (M : Mm) (q1 : Nat) (q2 : Nat) (q3 : Nat) (q4 : Nat) (y0 : Int) (r : Int) (F : Ev) (N : Mm) {p : Program} {e : Env} {s : State} {m : MethodId} {below : List Frame} {meth : Method} {c : Code} {A : Nat → Prop} {args : Array Value} (hx : p.tables.exec = Jvm.exec) (hb : c.code = method_4_code) (hml : c.maxLocals = 14) (hts : ∀ w ∈ WG, w.before args s = true) (hown : s.vm.findClass "BallothallLaw" = some m.cls) (hlocks : meth.locks = false) (hA : ∀ q, s.heap.size ≤ q → A q) (hG : KG z s) (hZ : FZ z A s) (hr : meth.sig.returnType = (some .boolean)) (mc ms c0 s0 c1 s1 : Nat) (hc : c0 + 4 ≤ c1) (hs : s0 + 136 ≤ s1) (hm : c1 ≤ mc) (hm2 : s1 ≤ ms) (hag0 : ∀ i, i < nE E0 → ad i = ad0 i) (hE0 : nE E0 ≤ nE E) (h : La_ballots_j89 E M q1 q2 q3 q4 y0 = some (r, F, N)) : ∀ (H : Heap) (locs : List Loc) (ls : Array Slot), va_P z.1 classes (wv z ad E M) H → va_D A (wv z ad E M) → va_S A s.heap H locs → lv_has ls 14 [(0, .ref (ad 1)), (1, .ref (ad q1)), (2, .ref (ad q2)), (3, .ref (ad q3)), (4, .ref (ad q4))] → W p l e (rmK 6 171 mc ms) s m args below meth c H locs c0 s0 (MQ below (QK z A (fun u => some (.int (oI r))) (fun u => wv z (adj E0 ad0 u) F N)) args s c1 s1 A) (F0 m 89 ls [.int (oI y0)]) := by
  intro H locs ls hP hD hS hl
  unfold La_ballots_j89 at h
  obtain ⟨hL, h⟩ := ck_e h
  obtain ⟨h_q1, h⟩ := ck_e h
  obtain ⟨h_q2, h⟩ := ck_e h
  obtain ⟨h_q3, h⟩ := ck_e h
  obtain ⟨h_q4, h⟩ := ck_e h
  refine lv_istore (lv' := [(5, .int (oI y0)), (0, .ref (ad 1)), (1, .ref (ad q1)), (2, .ref (ad q2)), (3, .ref (ad q3)), (4, .ref (ad q4))]) hx hb d_L4_89 hl (by decide) rfl (fun ls hl => ?_)
  obtain ⟨p14, ep14, h⟩ := nb_e h
  obtain ⟨E14, eE14, h⟩ := nb_e h
  obtain ⟨M14, eM14, h⟩ := nb_e h
  refine m_newO (ci := 14) (C := "java/lang/StringBuilder") (T := TX14) (n := 4) hx hb hts iX14 tyX14_ok hown w_802 w_803 w_19 rfl (fun _ => fsX14) hG hP hD hS hA (show _ ≤ mc by omega) (show _ ≤ ms by omega) d_L4_91 (fun ad14 H hag14 hP hD hS => ?_)
  have hP : va_P z.1 classes (wv z ad14 E14 M14) H := by rw [eE14, eM14]; exact hP
  have hD : va_D A (wv z ad14 E14 M14) := by rw [eE14, eM14]; exact hD
  refine W.eq (g2 := F0 m 94 ls (.ref (ad14 p14) :: [])) (by rw [ep14] <;> rfl) ?_
  have hl : lv_has ls 14 [(5, .int (oI y0)), (0, .ref (ad14 1)), (1, .ref (ad14 q1)), (2, .ref (ad14 q2)), (3, .ref (ad14 q3)), (4, .ref (ad14 q4))] := by rw [hag14 1 (yi_1 hL), hag14 q1 h_q1.1, hag14 q2 h_q2.1, hag14 q3 h_q3.1, hag14 q4 h_q4.1]; exact hl
  have hgw14 : Gw E E14 := by rw [eE14]; exact gw_new _ _
  have hL14 : Lay E14 := by rw [eE14]; exact lay_new hL
  have hag0 : ∀ i, i < nE E0 → ad14 i = ad0 i := fun i hi => (hag14 i (Nat.lt_of_lt_of_le hi hE0)).trans (hag0 i hi)
  have hE0 : nE E0 ≤ nE E14 := Nat.le_trans hE0 hgw14.1
  have hL : Lay E14 := hL14
  have h_q1 : isO 12 E14 q1 := isO_up hgw14 h_q1
  have h_q2 : isIA E14 q2 := isA_up hgw14 h_q2
  have h_q3 : isIA E14 q3 := isA_up hgw14 h_q3
  have h_q4 : isIA E14 q4 := isA_up hgw14 h_q4
  have h_p14 : isO 14 E14 p14 := by rw [ep14, eE14]; exact ⟨new_i _ _, new_T _ _⟩
  refine lv_dup hx hb d_L4_94 rfl ?_
  obtain ⟨⟨E15, M15⟩, g15, h⟩ := bd_e h
  obtain ⟨hgw15, h⟩ := ck_e h
  refine kI (As := []) (rest := [.ref (ad14 p14)]) (s_Sb_init l z ad14 E14 M14 p14 E15 M15 g15) hx hb hml hown hts w_806 w_804 w_805 rfl w_19 md_9cd983 ⟨Nat.le_of_ble_eq_true rfl, Nat.le_of_ble_eq_true rfl⟩ hG hZ hP hD hS hA rfl hl.1 rfl (Nat.le_of_ble_eq_true rfl) d_L4_95 ⟨(show _ ≤ mc by omega), (show _ ≤ ms by omega)⟩ (fun u15 H locs hP hD hS => ?_)
  obtain ⟨ad15, had15⟩ : ∃ q, q = adj E14 ad14 u15 := ⟨_, rfl⟩
  have hP : va_P z.1 classes (wv z ad15 E15 M15) H := by rw [had15]; exact hP
  have hD : va_D A (wv z ad15 E15 M15) := by rw [had15]; exact hD
  have hag15 : ∀ i, i < nE E14 → ad15 i = ad14 i := fun i hi => by rw [had15]; exact adj_lt hi
  have hl : lv_has ls 14 [(5, .int (oI y0)), (0, .ref (ad15 1)), (1, .ref (ad15 q1)), (2, .ref (ad15 q2)), (3, .ref (ad15 q3)), (4, .ref (ad15 q4))] := by rw [hag15 1 (yi_1 hL), hag15 q1 h_q1.1, hag15 q2 h_q2.1, hag15 q3 h_q3.1, hag15 q4 h_q4.1]; exact hl
  refine W.eq (g2 := F0 m 98 ls [.ref (ad15 p14)]) (by rw [hag15 p14 h_p14.1] <;> rfl) ?_
  have hag0 : ∀ i, i < nE E0 → ad15 i = ad0 i := fun i hi => (hag15 i (Nat.lt_of_lt_of_le hi hE0)).trans (hag0 i hi)
  have hE0 : nE E0 ≤ nE E15 := Nat.le_trans hE0 hgw15.1
  obtain ⟨hL, h⟩ := ck_e h
  have h_q1 : isO 12 E15 q1 := isO_up hgw15 h_q1
  have h_q2 : isIA E15 q2 := isA_up hgw15 h_q2
  have h_q3 : isIA E15 q3 := isA_up hgw15 h_q3
  have h_q4 : isIA E15 q4 := isA_up hgw15 h_q4
  have h_p14 : isO 14 E15 p14 := isO_up hgw15 h_p14
  refine lv_astore (lv' := [(6, .ref (ad15 p14)), (5, .int (oI y0)), (0, .ref (ad15 1)), (1, .ref (ad15 q1)), (2, .ref (ad15 q2)), (3, .ref (ad15 q3)), (4, .ref (ad15 q4))]) hx hb d_L4_98 hl (by decide) rfl (fun ls hl => ?_)
  refine lv_iconst (v := oI 0) hx hb d_L4_100 (by decide +kernel) ?_
  refine lv_istore (lv' := [(7, .int (oI 0)), (6, .ref (ad15 p14)), (5, .int (oI y0)), (0, .ref (ad15 1)), (1, .ref (ad15 q1)), (2, .ref (ad15 q2)), (3, .ref (ad15 q3)), (4, .ref (ad15 q4))]) hx hb d_L4_101 hl (by decide) rfl (fun ls hl => ?_)
  refine lv_iconst (v := oI 0) hx hb d_L4_103 (by decide +kernel) ?_
  refine lv_istore (lv' := [(8, .int (oI 0)), (7, .int (oI 0)), (6, .ref (ad15 p14)), (5, .int (oI y0)), (0, .ref (ad15 1)), (1, .ref (ad15 q1)), (2, .ref (ad15 q2)), (3, .ref (ad15 q3)), (4, .ref (ad15 q4))]) hx hb d_L4_104 hl (by decide) rfl (fun ls hl => ?_)
  refine lv_iconst (v := oI 0) hx hb d_L4_106 (by decide +kernel) ?_
  refine lv_istore (lv' := [(9, .int (oI 0)), (8, .int (oI 0)), (7, .int (oI 0)), (6, .ref (ad15 p14)), (5, .int (oI y0)), (0, .ref (ad15 1)), (1, .ref (ad15 q1)), (2, .ref (ad15 q2)), (3, .ref (ad15 q3)), (4, .ref (ad15 q4))]) hx hb d_L4_107 hl (by decide) rfl (fun ls hl => ?_)
  obtain ⟨⟨t31, v31_7, v31_8, v31_9, E31, M31⟩, g31, h⟩ := bd_e h
  obtain ⟨hgw31, h⟩ := ck_e h
  obtain ⟨hL31, h⟩ := ck_e h
  obtain ⟨ok31, h⟩ := ck_e h
  refine s_La_ballots_109 l z E15 ad15 q1 q2 q3 q4 y0 p14 hx hb hml hts hown hlocks hA hG hZ mc ms (c0 + 2) (s0 + 68) (by omega) (by omega) 5000 _ _ ad15 E15 M15 0 0 0 t31 v31_7 v31_8 v31_9 E31 M31 (by omega) (by omega) (fun _ _ => rfl) (Nat.le_refl _) g31 (fun ad31 hag31 hEE31 e31 H locs ls hP hD hS hl => ?_) H locs ls hP hD hS (lv_sub hl [5, 6, 7, 8, 9, 4, 3, 2, 1, 0] rfl)
  have hag0 : ∀ i, i < nE E0 → ad31 i = ad0 i := fun i hi => (hag31 i (Nat.lt_of_lt_of_le hi hE0)).trans (hag0 i hi)
  have hE0 : nE E0 ≤ nE E31 := Nat.le_trans hE0 hgw31.1
  have hL : Lay E31 := hL31
  have h_q1 : isO 12 E31 q1 := isO_up hgw31 h_q1
  have h_q2 : isIA E31 q2 := isA_up hgw31 h_q2
  have h_q3 : isIA E31 q3 := isA_up hgw31 h_q3
  have h_p14 : isO 14 E31 p14 := isO_up hgw31 h_p14
  refine lv_aload_n hx hb d_L4_238 rfl (lv_at hl 0 rfl) ?_
  refine lv_aload hx hb d_L4_239 (lv_at hl 5 rfl) ?_
  obtain ⟨⟨r32, E32, M32⟩, g32, h⟩ := bd_e h
  obtain ⟨hgw32, h⟩ := ck_e h
  refine kV (As := []) (rest := [.ref (ad31 1)]) (s_Sb_toString l z ad31 E31 M31 p14 r32 E32 M32 g32) hx hb hml hown hts w_925 w_922 w_923 w_924 w_19 md_a8ce1c ⟨Nat.le_of_ble_eq_true rfl, Nat.le_of_ble_eq_true rfl⟩ hG hZ hP hD hS hA p14 (wv_o (ci := 14) h_p14.1 h_p14.2) rfl rfl rfl hl.1 rfl (Nat.le_of_ble_eq_true rfl) d_L4_241 ⟨(show _ ≤ mc by omega), (show _ ≤ ms by omega)⟩ (fun u32 H locs hP hD hS => ?_)
  obtain ⟨ad32, had32⟩ : ∃ q, q = adj E31 ad31 u32 := ⟨_, rfl⟩
  have hP : va_P z.1 classes (wv z ad32 E32 M32) H := by rw [had32]; exact hP
  have hD : va_D A (wv z ad32 E32 M32) := by rw [had32]; exact hD
  have hag32 : ∀ i, i < nE E31 → ad32 i = ad31 i := fun i hi => by rw [had32]; exact adj_lt hi
  have hl : lv_has ls 14 [(0, .ref (ad32 1)), (1, .ref (ad32 q1)), (2, .ref (ad32 q2)), (3, .ref (ad32 q3)), (5, .int (oI y0)), (6, .ref (ad32 p14)), (7, .int (oI v31_7))] := by rw [hag32 1 (yi_1 hL), hag32 q1 h_q1.1, hag32 q2 h_q2.1, hag32 q3 h_q3.1, hag32 p14 h_p14.1]; exact hl
  refine W.eq (g2 := F0 m 244 ls (.ref (ad32 r32) :: [.ref (ad32 1)])) (by rw [hag32 1 (yi_1 hL), had32] <;> rfl) ?_
  have hag0 : ∀ i, i < nE E0 → ad32 i = ad0 i := fun i hi => (hag32 i (Nat.lt_of_lt_of_le hi hE0)).trans (hag0 i hi)
  have hE0 : nE E0 ≤ nE E32 := Nat.le_trans hE0 hgw32.1
  obtain ⟨hL, h⟩ := ck_e h
  have h_q1 : isO 12 E32 q1 := isO_up hgw32 h_q1
  have h_q2 : isIA E32 q2 := isA_up hgw32 h_q2
  have h_q3 : isIA E32 q3 := isA_up hgw32 h_q3
  have h_p14 : isO 14 E32 p14 := isO_up hgw32 h_p14
  obtain ⟨h_r32, h⟩ := ck_e h
  obtain ⟨M33, g33, h⟩ := bd_e h
  refine kS (As := [.ref (ad32 1), .ref (ad32 r32)]) (rest := []) (s_La_type l z ad32 E32 M32 r32 M33 hL g33) hx hb hml hown hts w_985 w_983 w_984 w_0 md_7e8d41 ⟨Nat.le_of_ble_eq_true rfl, Nat.le_of_ble_eq_true rfl⟩ hG hZ hP hD hS hA rfl hl.1 rfl (Nat.le_of_ble_eq_true rfl) d_L4_244 ⟨(show _ ≤ mc by omega), (show _ ≤ ms by omega)⟩ (fun _ H locs hP hD hS => ?_)
  have hP : va_P z.1 classes (wv z ad32 E32 M33) H := hP
  have hD : va_D A (wv z ad32 E32 M33) := hD
  refine W.eq (g2 := F0 m 247 ls []) rfl ?_
  refine lv_iconst (v := oI 1) hx hb d_L4_247 (by decide +kernel) ?_
  refine lv_aload_n hx hb d_L4_248 rfl (lv_at hl 2 rfl) ?_
  refine lv_aload_n hx hb d_L4_249 rfl (lv_at hl 2 rfl) ?_
  refine lv_iconst (v := oI 3) hx hb d_L4_250 (by decide +kernel) ?_
  obtain ⟨⟨r34, M34⟩, g34, h⟩ := bd_e h
  refine kS (As := [.ref (ad32 q2), .int (oI 3)]) (rest := [.ref (ad32 q2), .int (oI 1)]) (s_La_next l z ad32 E32 M33 q2 3 r34 M34 hL g34) hx hb hml hown hts w_797 w_795 w_796 w_0 md_199d8f ⟨Nat.le_of_ble_eq_true rfl, Nat.le_of_ble_eq_true rfl⟩ hG hZ hP hD hS hA rfl hl.1 rfl (Nat.le_of_ble_eq_true rfl) d_L4_251 ⟨(show _ ≤ mc by omega), (show _ ≤ ms by omega)⟩ (fun _ H locs hP hD hS => ?_)
  have hP : va_P z.1 classes (wv z ad32 E32 M34) H := hP
  have hD : va_D A (wv z ad32 E32 M34) := hD
  refine W.eq (g2 := F0 m 254 ls [.int (oI r34), .ref (ad32 q2), .int (oI 1)]) rfl ?_
  obtain ⟨ok35, h⟩ := ck_e h
  refine lv_if_ne (tgt := 263) hx hb d_L4_254 (by decide) (fun c9 => ?_) (fun c9 => ?_)
  · have h := ite_f (fun q => c9 ((oI_eq0 ok35).mpr q)) h
    refine lv_bipush (v := oI 12) hx hb d_L4_263 (by decide +kernel) ?_
    exact b_La_ballots_j265 l z E0 ad0 ad32 E32 M34 q1 q3 y0 v31_7 12 q2 1 r F N hx hb hml hts hown hlocks hA hG hZ hr mc ms _ _ c1 s1 (by omega) (by omega) hm hm2 hag0 hE0 h H locs ls hP hD hS (lv_sub hl [0, 1, 3, 4, 6] rfl)
  · have h := ite_t ((oI_eq0 ok35).mp c9) h
    refine lv_sipush (v := oI 900) hx hb d_L4_257 (by decide +kernel) ?_
    refine lv_goto (tgt := 265) hx hb d_L4_260 (by decide) ?_
    exact b_La_ballots_j265 l z E0 ad0 ad32 E32 M34 q1 q3 y0 v31_7 900 q2 1 r F N hx hb hml hts hown hlocks hA hG hZ hr mc ms _ _ c1 s1 (by omega) (by omega) hm hm2 hag0 hE0 h H locs ls hP hD hS (lv_sub hl [0, 1, 3, 4, 6] rfl)
set_option maxRecDepth 100000 in
set_option maxHeartbeats 4000000 in
theorem s_La_ballots (l : Launch) (z : Zz) (ad : Nat → Nat) (E : Ev) (M : Mm) (p1 : Nat) (p2 : Nat) (r : Int) (F : Ev) (N : Mm) (h : f_La_ballots E M p1 p2 = some (r, F, N)) : CT l z ⟨"BallothallLaw", "ballots", "(LBallothall;LBallothallLaw$Box;[I)Z"⟩ method_4_code 14 (some .boolean) [.ref (ad 1), .ref (ad p1), .ref (ad p2)] (wv z ad E M) 6 171 6 264 (fun u => some (.int (oI r))) (fun u => wv z (adj E ad u) F N) := by
  refine CT.of (own := "BallothallLaw") (by decide +kernel) (Nat.le_of_ble_eq_true rfl) rfl (fun p e s m below meth c A ls hx hb hml hr hts hown hlocks hin hA hG hZ hP hD hS hl => ?_)
  have hl : lv_has ls 14 [(0, .ref (ad 1)), (1, .ref (ad p1)), (2, .ref (ad p2))] := hl
  have key : ∀ (E0 : Ev) (ad0 : Nat → Nat) (mc ms c0 s0 c1 s1 : Nat) (H : Heap) (locs : List Loc) (args : Array Value), c0 + 6 ≤ c1 → s0 + 264 ≤ s1 → c1 ≤ mc → s1 ≤ ms → (∀ i, i < nE E0 → ad i = ad0 i) → nE E0 ≤ nE E → (∀ w ∈ WG, w.before args s = true) → va_P z.1 classes (wv z ad E M) H → va_S A s.heap H locs → W p l e (rmK 6 171 mc ms) s m args below meth c H locs c0 s0 (MQ below (QK z A (fun u => some (.int (oI r))) (fun u => wv z (adj E0 ad0 u) F N)) args s c1 s1 A) (F0 m 0 ls []) := by
    intro E0 ad0 mc ms c0 s0 c1 s1 H locs args hc hs hm hm2 hag0 hE0 hts hP hS
    unfold f_La_ballots at h
    obtain ⟨hL, h⟩ := ck_e h
    obtain ⟨h_p1, h⟩ := ck_e h
    obtain ⟨h_p2, h⟩ := ck_e h
    refine lv_aload_n hx hb d_L4_0 rfl (lv_at hl 1 rfl) ?_
    refine m_giN (C := "BallothallLaw$Box") (T := TX12) (N := 4) (ci := 12) (k := 0) hx hb hts iX12 hown hG hP h_p1.1 h_p1.2 rfl (by decide) n_775 rfl (fun _ h9 => h9) rfl rfl d_L4_1 ?_
    obtain ⟨ok0, h⟩ := ck_e h
    obtain ⟨p1, ep1, h⟩ := nb_e h
    obtain ⟨E1, eE1, h⟩ := nb_e h
    obtain ⟨M1, eM1, h⟩ := nb_e h
    refine m_newI (x := (M p1 0)) (N := 64) hx hb ok0.1 ok0.2 (by decide) (hts _ w_100) hG hP hD hS hA (show _ ≤ mc by omega) (show _ ≤ ms by omega) d_L4_4 (fun ad1 H hag1 hP hD hS => ?_)
    have hP : va_P z.1 classes (wv z ad1 E1 M1) H := by rw [eE1, eM1]; exact hP
    have hD : va_D A (wv z ad1 E1 M1) := by rw [eE1, eM1]; exact hD
    refine W.eq (g2 := F0 m 6 ls (.ref (ad1 p1) :: [])) (by rw [ep1] <;> rfl) ?_
    have hl : lv_has ls 14 [(0, .ref (ad1 1)), (1, .ref (ad1 p1)), (2, .ref (ad1 p2))] := by rw [hag1 1 (yi_1 hL), hag1 p1 h_p1.1, hag1 p2 h_p2.1]; exact hl
    have hgw1 : Gw E E1 := by rw [eE1]; exact gw_new _ _
    have hL1 : Lay E1 := by rw [eE1]; exact lay_new hL
    have hag0 : ∀ i, i < nE E0 → ad1 i = ad0 i := fun i hi => (hag1 i (Nat.lt_of_lt_of_le hi hE0)).trans (hag0 i hi)
    have hE0 : nE E0 ≤ nE E1 := Nat.le_trans hE0 hgw1.1
    have hL : Lay E1 := hL1
    have h_p1 : isO 12 E1 p1 := isO_up hgw1 h_p1
    have h_p2 : isIA E1 p2 := isA_up hgw1 h_p2
    have h_p1 : isIA E1 p1 := by rw [ep1, eE1]; exact ⟨new_i _ _, by rw [new_T]⟩
    refine lv_astore_n (lv' := [(3, .ref (ad1 p1)), (0, .ref (ad1 1)), (1, .ref (ad1 p1)), (2, .ref (ad1 p2))]) hx hb d_L4_6 rfl hl (by decide) rfl (fun ls hl => ?_)
    refine lv_aload_n hx hb d_L4_7 rfl (lv_at hl 2 rfl) ?_
    refine m_giN (C := "BallothallLaw$Box") (T := TX12) (N := 4) (ci := 12) (k := 0) hx hb hts iX12 hown hG hP h_p1.1 h_p1.2 rfl (by decide) n_775 rfl (fun _ h9 => h9) rfl rfl d_L4_8 ?_
    obtain ⟨ok2, h⟩ := ck_e h
    obtain ⟨p3, ep3, h⟩ := nb_e h
    obtain ⟨E3, eE3, h⟩ := nb_e h
    obtain ⟨M3, eM3, h⟩ := nb_e h
    refine m_newI (x := (M1 p1 0)) (N := 64) hx hb ok2.1 ok2.2 (by decide) (hts _ w_100) hG hP hD hS hA (show _ ≤ mc by omega) (show _ ≤ ms by omega) d_L4_11 (fun ad3 H hag3 hP hD hS => ?_)
    have hP : va_P z.1 classes (wv z ad3 E3 M3) H := by rw [eE3, eM3]; exact hP
    have hD : va_D A (wv z ad3 E3 M3) := by rw [eE3, eM3]; exact hD
    refine W.eq (g2 := F0 m 13 ls (.ref (ad3 p3) :: [])) (by rw [ep3] <;> rfl) ?_
    have hl : lv_has ls 14 [(3, .ref (ad3 p1)), (0, .ref (ad3 1)), (1, .ref (ad3 p1)), (2, .ref (ad3 p2))] := by rw [hag3 p1 h_p1.1, hag3 1 (yi_1 hL), hag3 p2 h_p2.1]; exact hl
    have hgw3 : Gw E1 E3 := by rw [eE3]; exact gw_new _ _
    have hL3 : Lay E3 := by rw [eE3]; exact lay_new hL
    have hag0 : ∀ i, i < nE E0 → ad3 i = ad0 i := fun i hi => (hag3 i (Nat.lt_of_lt_of_le hi hE0)).trans (hag0 i hi)
    have hE0 : nE E0 ≤ nE E3 := Nat.le_trans hE0 hgw3.1
    have hL : Lay E3 := hL3
    have h_p1 : isIA E3 p1 := isA_up hgw3 h_p1
    have h_p2 : isIA E3 p2 := isA_up hgw3 h_p2
    have h_p3 : isIA E3 p3 := by rw [ep3, eE3]; exact ⟨new_i _ _, by rw [new_T]⟩
    refine lv_astore (lv' := [(4, .ref (ad3 p3)), (3, .ref (ad3 p1)), (0, .ref (ad3 1)), (1, .ref (ad3 p1)), (2, .ref (ad3 p2))]) hx hb d_L4_13 hl (by decide) rfl (fun ls hl => ?_)
    refine lv_iconst (v := oI 0) hx hb d_L4_15 (by decide +kernel) ?_
    refine lv_istore (lv' := [(5, .int (oI 0)), (4, .ref (ad3 p3)), (3, .ref (ad3 p1)), (0, .ref (ad3 1)), (1, .ref (ad3 p1)), (2, .ref (ad3 p2))]) hx hb d_L4_16 hl (by decide) rfl (fun ls hl => ?_)
    obtain ⟨⟨t10, v10_5, E10, M10⟩, g10, h⟩ := bd_e h
    obtain ⟨hgw10, h⟩ := ck_e h
    obtain ⟨hL10, h⟩ := ck_e h
    obtain ⟨ok10, h⟩ := ck_e h
    refine s_La_ballots_18 l z E3 ad3 p1 p2 p1 p3 hx hb hml hts hown hlocks hA hG hZ mc ms (c0 + 2) (s0 + 128) (by omega) (by omega) 5000 _ _ ad3 E3 M3 0 t10 v10_5 E10 M10 (by omega) (by omega) (fun _ _ => rfl) (Nat.le_refl _) g10 (fun ad10 hag10 hEE10 e10 H locs ls hP hD hS hl => ?_) H locs ls hP hD hS (lv_sub hl [3, 4, 5, 2, 1, 0] rfl)
    have hag0 : ∀ i, i < nE E0 → ad10 i = ad0 i := fun i hi => (hag10 i (Nat.lt_of_lt_of_le hi hE0)).trans (hag0 i hi)
    have hE0 : nE E0 ≤ nE E10 := Nat.le_trans hE0 hgw10.1
    have hL : Lay E10 := hL10
    have h_p1 : isO 12 E10 p1 := isO_up hgw10 h_p1
    have h_p2 : isIA E10 p2 := isA_up hgw10 h_p2
    have h_p3 : isIA E10 p3 := isA_up hgw10 h_p3
    refine lv_aload_n hx hb d_L4_66 rfl (lv_at hl 2 rfl) ?_
    refine lv_bipush (v := oI 9) hx hb d_L4_67 (by decide +kernel) ?_
    obtain ⟨⟨r11, M11⟩, g11, h⟩ := bd_e h
    refine kS (As := [.ref (ad10 p2), .int (oI 9)]) (rest := []) (s_La_next l z ad10 E10 M10 p2 9 r11 M11 hL g11) hx hb hml hown hts w_797 w_795 w_796 w_0 md_199d8f ⟨Nat.le_of_ble_eq_true rfl, Nat.le_of_ble_eq_true rfl⟩ hG hZ hP hD hS hA rfl hl.1 rfl (Nat.le_of_ble_eq_true rfl) d_L4_69 ⟨(show _ ≤ mc by omega), (show _ ≤ ms by omega)⟩ (fun _ H locs hP hD hS => ?_)
    have hP : va_P z.1 classes (wv z ad10 E10 M11) H := hP
    have hD : va_D A (wv z ad10 E10 M11) := hD
    refine W.eq (g2 := F0 m 72 ls [.int (oI r11)]) rfl ?_
    obtain ⟨ok12, h⟩ := ck_e h
    refine lv_if_ne (tgt := 79) hx hb d_L4_72 (by decide) (fun c9 => ?_) (fun c9 => ?_)
    · have h := ite_f (fun q => c9 ((oI_eq0 ok12).mpr q)) h
      refine lv_iconst (v := oI 1) hx hb d_L4_79 (by decide +kernel) ?_
      refine lv_aload_n hx hb d_L4_80 rfl (lv_at hl 2 rfl) ?_
      refine lv_aload_n hx hb d_L4_81 rfl (lv_at hl 1 rfl) ?_
      refine m_giN (C := "BallothallLaw$Box") (T := TX12) (N := 4) (ci := 12) (k := 0) hx hb hts iX12 hown hG hP h_p1.1 h_p1.2 rfl (by decide) n_775 rfl (fun _ h9 => h9) rfl rfl d_L4_82 ?_
      obtain ⟨⟨r13, M13⟩, g13, h⟩ := bd_e h
      refine kS (As := [.ref (ad10 p2), .int (oI (M11 p1 0))]) (rest := [.int (oI 1)]) (s_La_next l z ad10 E10 M11 p2 (M11 p1 0) r13 M13 hL g13) hx hb hml hown hts w_797 w_795 w_796 w_0 md_199d8f ⟨Nat.le_of_ble_eq_true rfl, Nat.le_of_ble_eq_true rfl⟩ hG hZ hP hD hS hA rfl hl.1 rfl (Nat.le_of_ble_eq_true rfl) d_L4_85 ⟨(show _ ≤ mc by omega), (show _ ≤ ms by omega)⟩ (fun _ H locs hP hD hS => ?_)
      have hP : va_P z.1 classes (wv z ad10 E10 M13) H := hP
      have hD : va_D A (wv z ad10 E10 M13) := hD
      refine W.eq (g2 := F0 m 88 ls [.int (oI r13), .int (oI 1)]) rfl ?_
      refine lv_iadd hx hb d_L4_88 ?_
      refine nrm (oI_add _ _) ?_
      exact b_La_ballots_j89 l z E0 ad0 ad10 E10 M13 p1 p2 p1 p3 (1 + r13) r F N hx hb hml hts hown hlocks hA hG hZ hr mc ms _ _ c1 s1 (by omega) (by omega) hm hm2 hag0 hE0 h H locs ls hP hD hS (lv_sub hl [0, 1, 2, 3, 4] rfl)
    · have h := ite_t ((oI_eq0 ok12).mp c9) h
      refine lv_iconst (v := oI 0) hx hb d_L4_75 (by decide +kernel) ?_
      refine lv_goto (tgt := 89) hx hb d_L4_76 (by decide) ?_
      exact b_La_ballots_j89 l z E0 ad0 ad10 E10 M11 p1 p2 p1 p3 0 r F N hx hb hml hts hown hlocks hA hG hZ hr mc ms _ _ c1 s1 (by omega) (by omega) hm hm2 hag0 hE0 h H locs ls hP hD hS (lv_sub hl [0, 1, 2, 3, 4] rfl)
  exact key E ad 6 264 0 0 6 264 _ _ _ (by decide) (by decide) (by decide) (by decide) (fun _ _ => rfl) (Nat.le_refl _) hts hP hS
set_option maxRecDepth 100000 in
set_option maxHeartbeats 4000000 in
theorem b_B_setLot_j76 (l : Launch) (z : Zz) (ad : Nat → Nat) (E : Ev) (M : Mm) (x2 : Int) (x5 : Int) (y0 : Int) (r : Int) (N : Mm) {p : Program} {e : Env} {s : State} {m : MethodId} {below : List Frame} {meth : Method} {c : Code} {A : Nat → Prop} {args : Array Value} (hx : p.tables.exec = Jvm.exec) (hb : c.code = prog_1_method_3_code) (hml : c.maxLocals = 6) (hts : ∀ w ∈ WG, w.before args s = true) (hown : s.vm.findClass "Ballothall" = some m.cls) (hlocks : meth.locks = false) (hA : ∀ q, s.heap.size ≤ q → A q) (hG : KG z s) (hZ : FZ z A s) (hL : Lay E) (hr : meth.sig.returnType = (some .int)) (h : B_setLot_j76 E M x2 x5 y0 = some (r, N)) : ∀ (H : Heap) (locs : List Loc) (ls : Array Slot), va_P z.1 classes (wv z ad E M) H → va_D A (wv z ad E M) → va_S A s.heap H locs → lv_has ls 6 [(2, .int (oI x2)), (5, .int (oI x5))] → W p l e (rmK 2 63 0 0) s m args below meth c H locs 0 0 (MQ below (QK z A (fun _ => some (.int (oI r))) (fun _ => (wv z ad E N))) args s 0 0 A) (F0 m 76 ls [.int (oI y0), .ref (ad 1)]) := by
  intro H locs ls hP hD hS hl
  unfold B_setLot_j76 at h
  refine lv_iload_n hx hb d_1_3_76 rfl (lv_at hl 0 rfl) ?_
  refine lv_iload hx hb d_1_3_77 (lv_at hl 1 rfl) ?_
  obtain ⟨M6, g6, h⟩ := bd_e h
  refine kV (As := [.int (oI y0), .int (oI x2), .int (oI x5)]) (rest := []) (s_B_remember l z ad E M y0 x2 x5 M6 hL g6) hx hb hml hown hts w_519 w_516 w_518 w_s_b872b3 w_1 md_7af0bb ⟨Nat.le_of_ble_eq_true rfl, Nat.le_of_ble_eq_true rfl⟩ hG hZ hP hD hS hA 1 (wv_o (ci := 11) (yi_1 hL) (yt_1 hL)) rfl rfl rfl hl.1 rfl (Nat.le_of_ble_eq_true rfl) d_1_3_79 ⟨Nat.le_of_ble_eq_true rfl, Nat.le_of_ble_eq_true rfl⟩ (fun _ H locs hP hD hS => ?_)
  have hP : va_P z.1 classes (wv z ad E M6) H := hP
  have hD : va_D A (wv z ad E M6) := hD
  refine W.eq (g2 := F0 m 82 ls []) rfl ?_
  refine lv_iload hx hb d_1_3_82 (lv_at hl 1 rfl) ?_
  obtain ⟨rfl, rfl⟩ := in2 h
  exact W.iret hx hb hr (fun t ht hW => qkA hP hD hS (fun k => k) rfl rfl ht) hS.2.2 d_1_3_84
set_option maxRecDepth 100000 in
set_option maxHeartbeats 4000000 in
theorem b_B_setLot_j53 (l : Launch) (z : Zz) (ad : Nat → Nat) (E : Ev) (M : Mm) (x1 : Int) (x2 : Int) (x3 : Int) (y0 : Nat) (r : Int) (N : Mm) {p : Program} {e : Env} {s : State} {m : MethodId} {below : List Frame} {meth : Method} {c : Code} {A : Nat → Prop} {args : Array Value} (hx : p.tables.exec = Jvm.exec) (hb : c.code = prog_1_method_3_code) (hml : c.maxLocals = 6) (hts : ∀ w ∈ WG, w.before args s = true) (hown : s.vm.findClass "Ballothall" = some m.cls) (hlocks : meth.locks = false) (hA : ∀ q, s.heap.size ≤ q → A q) (hG : KG z s) (hZ : FZ z A s) (hL : Lay E) (hr : meth.sig.returnType = (some .int)) (h : B_setLot_j53 E M x1 x2 x3 y0 = some (r, N)) : ∀ (H : Heap) (locs : List Loc) (ls : Array Slot), va_P z.1 classes (wv z ad E M) H → va_D A (wv z ad E M) → va_S A s.heap H locs → lv_has ls 6 [(0, .ref (ad 1)), (1, .int (oI x1)), (2, .int (oI x2)), (3, .int (oI x3))] → W p l e (rmK 2 63 0 0) s m args below meth c H locs 0 0 (MQ below (QK z A (fun _ => some (.int (oI r))) (fun _ => (wv z ad E N))) args s 0 0 A) (F0 m 53 ls [.ref (ad y0)]) := by
  intro H locs ls hP hD hS hl
  unfold B_setLot_j53 at h
  obtain ⟨h_y0, h⟩ := ck_e h
  refine lv_astore (lv' := [(4, .ref (ad y0)), (0, .ref (ad 1)), (1, .int (oI x1)), (2, .int (oI x2)), (3, .int (oI x3))]) hx hb d_1_3_53 hl (by decide) rfl (fun ls hl => ?_)
  refine lv_aload hx hb d_1_3_55 (lv_at hl 0 rfl) ?_
  refine lv_iload_n hx hb d_1_3_57 rfl (lv_at hl 3 rfl) ?_
  obtain ⟨ok4, h⟩ := ck_e h
  refine m_ia hx hb hG hP h_y0.1 (isIA_T h_y0) ok4 d_1_3_58 ?_
  refine lv_istore (lv' := [(5, .int (oI (M y0 x2.toNat))), (4, .ref (ad y0)), (0, .ref (ad 1)), (1, .int (oI x1)), (2, .int (oI x2)), (3, .int (oI x3))]) hx hb d_1_3_59 hl (by decide) rfl (fun ls hl => ?_)
  refine lv_aload hx hb d_1_3_61 (lv_at hl 1 rfl) ?_
  refine lv_iload_n hx hb d_1_3_63 rfl (lv_at hl 4 rfl) ?_
  refine lv_iload_n hx hb d_1_3_64 rfl (lv_at hl 5 rfl) ?_
  refine m_is hx hb hG hP hD hS h_y0.1 (isIA_T h_y0) ok4 d_1_3_65 (fun H locs hP hD hS => ?_)
  have hP : va_P z.1 classes (wv z ad E (u2 M y0 x2.toNat x3)) H := hP
  have hD : va_D A (wv z ad E (u2 M y0 x2.toNat x3)) := hD
  refine lv_aload_n hx hb d_1_3_66 rfl (lv_at hl 2 rfl) ?_
  refine lv_iload_n hx hb d_1_3_67 rfl (lv_at hl 3 rfl) ?_
  obtain ⟨ok5, h⟩ := ck_e h
  refine lv_if_eq (tgt := 75) hx hb d_1_3_68 (by decide) (fun c9 => ?_) (fun c9 => ?_)
  · have h := ite_t ((oI_eq0 ok5).mp c9) h
    refine lv_iconst (v := oI 1) hx hb d_1_3_75 (by decide +kernel) ?_
    exact b_B_setLot_j76 l z ad E (u2 M y0 x2.toNat x3) x2 (M y0 x2.toNat) 1 r N hx hb hml hts hown hlocks hA hG hZ hL hr h H locs ls hP hD hS (lv_sub hl [4, 0] rfl)
  · have h := ite_f (fun q => c9 ((oI_eq0 ok5).mpr q)) h
    refine lv_iconst (v := oI 2) hx hb d_1_3_71 (by decide +kernel) ?_
    refine lv_goto (tgt := 76) hx hb d_1_3_72 (by decide) ?_
    exact b_B_setLot_j76 l z ad E (u2 M y0 x2.toNat x3) x2 (M y0 x2.toNat) 2 r N hx hb hml hts hown hlocks hA hG hZ hL hr h H locs ls hP hD hS (lv_sub hl [4, 0] rfl)
set_option maxRecDepth 100000 in
set_option maxHeartbeats 4000000 in
theorem b_B_setLot_j22 (l : Launch) (z : Zz) (ad : Nat → Nat) (E : Ev) (M : Mm) (x1 : Int) (x2 : Int) (x3 : Int) (y0 : Int) (y1 : Int) (r : Int) (N : Mm) {p : Program} {e : Env} {s : State} {m : MethodId} {below : List Frame} {meth : Method} {c : Code} {A : Nat → Prop} {args : Array Value} (hx : p.tables.exec = Jvm.exec) (hb : c.code = prog_1_method_3_code) (hml : c.maxLocals = 6) (hts : ∀ w ∈ WG, w.before args s = true) (hown : s.vm.findClass "Ballothall" = some m.cls) (hlocks : meth.locks = false) (hA : ∀ q, s.heap.size ≤ q → A q) (hG : KG z s) (hZ : FZ z A s) (hL : Lay E) (hr : meth.sig.returnType = (some .int)) (h : B_setLot_j22 E M x1 x2 x3 y0 y1 = some (r, N)) : ∀ (H : Heap) (locs : List Loc) (ls : Array Slot), va_P z.1 classes (wv z ad E M) H → va_D A (wv z ad E M) → va_S A s.heap H locs → lv_has ls 6 [(0, .ref (ad 1)), (1, .int (oI x1)), (2, .int (oI x2)), (3, .int (oI x3))] → W p l e (rmK 2 63 0 0) s m args below meth c H locs 0 0 (MQ below (QK z A (fun _ => some (.int (oI r))) (fun _ => (wv z ad E N))) args s 0 0 A) (F0 m 22 ls [.int (oI y0), .int (oI y1)]) := by
  intro H locs ls hP hD hS hl
  unfold B_setLot_j22 at h
  obtain ⟨_, g1, h⟩ := bd_e h
  refine kS (As := [.int (oI y1), .int (oI y0)]) (rest := []) (s_B_needIndex l z ad E M y1 y0 hL g1) hx hb hml hown hts w_529 w_527 w_528 w_1 md_6cb26b ⟨Nat.le_of_ble_eq_true rfl, Nat.le_of_ble_eq_true rfl⟩ hG hZ hP hD hS hA rfl hl.1 rfl (Nat.le_of_ble_eq_true rfl) d_1_3_22 ⟨Nat.le_of_ble_eq_true rfl, Nat.le_of_ble_eq_true rfl⟩ (fun _ H locs hP hD hS => ?_)
  have hP : va_P z.1 classes (wv z ad E M) H := hP
  have hD : va_D A (wv z ad E M) := hD
  refine W.eq (g2 := F0 m 25 ls []) rfl ?_
  refine lv_iload_n hx hb d_1_3_25 rfl (lv_at hl 3 rfl) ?_
  refine lv_iconst (v := oI 0) hx hb d_1_3_26 (by decide +kernel) ?_
  refine lv_bipush (v := oI 99) hx hb d_1_3_27 (by decide +kernel) ?_
  obtain ⟨_, g2, h⟩ := bd_e h
  refine kS (As := [.int (oI x3), .int (oI 0), .int (oI 99)]) (rest := []) (s_B_needRange l z ad E M x3 0 99 hL g2) hx hb hml hown hts w_548 w_546 w_547 w_1 md_519134 ⟨Nat.le_of_ble_eq_true rfl, Nat.le_of_ble_eq_true rfl⟩ hG hZ hP hD hS hA rfl hl.1 rfl (Nat.le_of_ble_eq_true rfl) d_1_3_29 ⟨Nat.le_of_ble_eq_true rfl, Nat.le_of_ble_eq_true rfl⟩ (fun _ H locs hP hD hS => ?_)
  have hP : va_P z.1 classes (wv z ad E M) H := hP
  have hD : va_D A (wv z ad E M) := hD
  refine W.eq (g2 := F0 m 32 ls []) rfl ?_
  refine lv_iload_n hx hb d_1_3_32 rfl (lv_at hl 1 rfl) ?_
  obtain ⟨ok3, h⟩ := ck_e h
  refine lv_if_eq (tgt := 46) hx hb d_1_3_33 (by decide) (fun c9 => ?_) (fun c9 => ?_)
  · have h := ite_t ((oI_eq0 ok3).mp c9) h
    refine lv_aload_n hx hb d_1_3_46 rfl (lv_at hl 0 rfl) ?_
    refine m_gr (j := 2) (C := "Ballothall") (T := TX11) (N := 14) (ci := 11) (k := 0) hx hb hts iX11 hown hG hP (yi_1 hL) (yt_1 hL) rfl (by decide) w_397 (fun _ h9 => h9) rfl rfl (yr_1_0 hL) d_1_3_47 ?_
    refine m_grN (j := 4) (C := "Ballothall$BallotBox") (T := TX0) (N := 10) (ci := 0) (k := 4) hx hb hts iX0 hown hG hP (yi_2 hL) (yt_2 hL) rfl (by decide) n_62 rfl (fun _ h9 => h9) rfl rfl (yr_2_4 hL) d_1_3_50 ?_
    exact b_B_setLot_j53 l z ad E M x1 x2 x3 4 r N hx hb hml hts hown hlocks hA hG hZ hL hr h H locs ls hP hD hS (lv_sub hl [0, 1, 2, 3] rfl)
  · have h := ite_f (fun q => c9 ((oI_eq0 ok3).mpr q)) h
    refine lv_aload_n hx hb d_1_3_36 rfl (lv_at hl 0 rfl) ?_
    refine m_gr (j := 53) (C := "Ballothall") (T := TX11) (N := 14) (ci := 11) (k := 3) hx hb hts iX11 hown hG hP (yi_1 hL) (yt_1 hL) rfl (by decide) w_400 (fun _ h9 => h9) rfl rfl (yr_1_3 hL) d_1_3_37 ?_
    refine m_grN (j := 56) (C := "Ballothall$Lists") (T := TX7) (N := 11) (ci := 7) (k := 3) hx hb hts iX7 hown hG hP (yi_53 hL) (yt_53 hL) rfl (by decide) n_248 rfl (fun _ h9 => h9) rfl rfl (yr_53_3 hL) d_1_3_40 ?_
    refine lv_goto (tgt := 53) hx hb d_1_3_43 (by decide) ?_
    exact b_B_setLot_j53 l z ad E M x1 x2 x3 56 r N hx hb hml hts hown hlocks hA hG hZ hL hr h H locs ls hP hD hS (lv_sub hl [0, 1, 2, 3] rfl)
set_option maxRecDepth 100000 in
set_option maxHeartbeats 4000000 in
theorem s_B_setLot (l : Launch) (z : Zz) (ad : Nat → Nat) (E : Ev) (M : Mm) (x1 : Int) (x2 : Int) (x3 : Int) (r : Int) (N : Mm) (hL : Lay E) (h : f_B_setLot E M x1 x2 x3 = some (r, N)) : CT l z ⟨"Ballothall", "setLot", "(ZII)I"⟩ prog_1_method_3_code 6 (some .int) [.ref (ad 1), .int (oI x1), .int (oI x2), .int (oI x3)] (wv z ad E M) 2 63 0 0 (fun _ => some (.int (oI r))) (fun _ => (wv z ad E N)) := by
  refine CT.of (own := "Ballothall") (by decide +kernel) (Nat.le_of_ble_eq_true rfl) rfl (fun p e s m below meth c A ls hx hb hml hr hts hown hlocks hin hA hG hZ hP hD hS hl => ?_)
  have hl : lv_has ls 6 [(0, .ref (ad 1)), (1, .int (oI x1)), (2, .int (oI x2)), (3, .int (oI x3))] := hl
  have key : ∀ (H : Heap) (locs : List Loc) (args : Array Value), (∀ w ∈ WG, w.before args s = true) → va_P z.1 classes (wv z ad E M) H → va_S A s.heap H locs → W p l e (rmK 2 63 0 0) s m args below meth c H locs 0 0 (MQ below (QK z A (fun _ => some (.int (oI r))) (fun _ => (wv z ad E N))) args s 0 0 A) (F0 m 0 ls []) := by
    intro H locs args hts hP hS
    unfold f_B_setLot at h
    refine lv_iload_n hx hb d_1_3_0 rfl (lv_at hl 2 rfl) ?_
    refine lv_iload_n hx hb d_1_3_1 rfl (lv_at hl 1 rfl) ?_
    obtain ⟨ok0, h⟩ := ck_e h
    refine lv_if_eq (tgt := 15) hx hb d_1_3_2 (by decide) (fun c9 => ?_) (fun c9 => ?_)
    · have h := ite_t ((oI_eq0 ok0).mp c9) h
      refine lv_aload_n hx hb d_1_3_15 rfl (lv_at hl 0 rfl) ?_
      refine m_gr (j := 2) (C := "Ballothall") (T := TX11) (N := 14) (ci := 11) (k := 0) hx hb hts iX11 hown hG hP (yi_1 hL) (yt_1 hL) rfl (by decide) w_397 (fun _ h9 => h9) rfl rfl (yr_1_0 hL) d_1_3_16 ?_
      refine m_giN (C := "Ballothall$BallotBox") (T := TX0) (N := 10) (ci := 0) (k := 2) hx hb hts iX0 hown hG hP (yi_2 hL) (yt_2 hL) rfl (by decide) n_52 rfl (fun _ h9 => h9) rfl rfl d_1_3_19 ?_
      exact b_B_setLot_j22 l z ad E M x1 x2 x3 (M 2 2) x2 r N hx hb hml hts hown hlocks hA hG hZ hL hr h H locs ls hP hD hS (lv_sub hl [0, 1, 2, 3] rfl)
    · have h := ite_f (fun q => c9 ((oI_eq0 ok0).mpr q)) h
      refine lv_aload_n hx hb d_1_3_5 rfl (lv_at hl 0 rfl) ?_
      refine m_gr (j := 53) (C := "Ballothall") (T := TX11) (N := 14) (ci := 11) (k := 3) hx hb hts iX11 hown hG hP (yi_1 hL) (yt_1 hL) rfl (by decide) w_400 (fun _ h9 => h9) rfl rfl (yr_1_3 hL) d_1_3_6 ?_
      refine m_giN (C := "Ballothall$Lists") (T := TX7) (N := 11) (ci := 7) (k := 0) hx hb hts iX7 hown hG hP (yi_53 hL) (yt_53 hL) rfl (by decide) n_243 rfl (fun _ h9 => h9) rfl rfl d_1_3_9 ?_
      refine lv_goto (tgt := 22) hx hb d_1_3_12 (by decide) ?_
      exact b_B_setLot_j22 l z ad E M x1 x2 x3 (M 53 0) x2 r N hx hb hml hts hown hlocks hA hG hZ hL hr h H locs ls hP hD hS (lv_sub hl [0, 1, 2, 3] rfl)
  exact key _ _ _ hts hP hS
set_option maxRecDepth 100000 in
set_option maxHeartbeats 4000000 in
theorem b_Bx_ballotsOf_5b (l : Launch) (z : Zz) (ad : Nat → Nat) (E : Ev) (M : Mm) (q1 : Nat) (x2 : Int) (x3 : Int) (x4 : Int) (t : Nat) (w3 : Int) (w4 : Int)  {Q : State → Prop} {p : Program} {e : Env} {s : State} {m : MethodId} {below : List Frame} {meth : Method} {c : Code} {A : Nat → Prop} {args : Array Value} (hx : p.tables.exec = Jvm.exec) (hb : c.code = prog_2_method_4_code) (hml : c.maxLocals = 5) (hts : ∀ w ∈ WG, w.before args s = true) (hown : s.vm.findClass "Ballothall$BallotBox" = some m.cls) (hlocks : meth.locks = false) (hA : ∀ q, s.heap.size ≤ q → A q) (hG : KG z s) (hZ : FZ z A s) (hL : Lay E) (h : Bx_ballotsOf_5b E M q1 x2 x3 x4 = some (t, w3, w4)) (k0 : t = 0 → ∀ (H : Heap) (locs : List Loc) (ls : Array Slot), va_P z.1 classes (wv z ad E M) H → va_D A (wv z ad E M) → va_S A s.heap H locs → lv_has ls 5 [(1, .ref (ad q1)), (2, .int (oI x2)), (3, .int (oI w3)), (4, .int (oI w4))] → W p l e (rmK 0 20 0 0) s m args below meth c H locs 0 0 Q (F0 m 5 ls [])) (k1 : t = 1 → ∀ (H : Heap) (locs : List Loc) (ls : Array Slot), va_P z.1 classes (wv z ad E M) H → va_D A (wv z ad E M) → va_S A s.heap H locs → lv_has ls 5 [(3, .int (oI w3))] → W p l e (rmK 0 20 0 0) s m args below meth c H locs 0 0 Q (F0 m 24 ls [])) : ∀ (H : Heap) (locs : List Loc) (ls : Array Slot), va_P z.1 classes (wv z ad E M) H → va_D A (wv z ad E M) → va_S A s.heap H locs → lv_has ls 5 [(1, .ref (ad q1)), (2, .int (oI x2)), (3, .int (oI x3)), (4, .int (oI x4))] → W p l e (rmK 0 20 0 0) s m args below meth c H locs 0 0 Q (F0 m 5 ls []) := by
  intro H locs ls hP hD hS hl
  unfold Bx_ballotsOf_5b at h
  obtain ⟨h_q1, h⟩ := ck_e h
  refine lv_iload hx hb d_2_4_5 (lv_at hl 3 rfl) ?_
  refine lv_iload_n hx hb d_2_4_7 rfl (lv_at hl 1 rfl) ?_
  obtain ⟨ok0, h⟩ := ck_e h
  obtain ⟨ok1, h⟩ := ck_e h
  refine lv_icmp_ge (tgt := 24) hx hb d_2_4_8 (by decide) (fun c9 => ?_) (fun c9 => ?_)
  · have h := ite_t ((oI_le (a := x2) (b := x4) ok1 ok0).mp c9) h
    obtain ⟨rfl, rfl, rfl⟩ := in3 h
    exact k1 rfl H locs ls hP hD hS (lv_sub hl [2] rfl)
  · have h := ite_f (fun q => c9 ((oI_le (a := x2) (b := x4) ok1 ok0).mpr q)) h
    refine lv_iload_n hx hb d_2_4_11 rfl (lv_at hl 2 rfl) ?_
    refine lv_aload_n hx hb d_2_4_12 rfl (lv_at hl 0 rfl) ?_
    refine lv_iload hx hb d_2_4_13 (lv_at hl 3 rfl) ?_
    obtain ⟨ok2, h⟩ := ck_e h
    refine m_ia hx hb hG hP h_q1.1 (isIA_T h_q1) ok2 d_2_4_15 ?_
    refine lv_iadd hx hb d_2_4_16 ?_
    refine nrm (oI_add _ _) ?_
    refine lv_istore_n (lv' := [(3, .int (oI (x3 + (M q1 x4.toNat)))), (1, .ref (ad q1)), (2, .int (oI x2)), (4, .int (oI x4))]) hx hb d_2_4_17 rfl hl (by decide) rfl (fun ls hl => ?_)
    refine lv_iinc (v := oI (x4 + 1)) (lv' := [(4, .int (oI (x4 + 1))), (3, .int (oI (x3 + (M q1 x4.toNat)))), (1, .ref (ad q1)), (2, .int (oI x2))]) hx hb d_2_4_18 hl (k := 3) rfl (oI_add x4 1) (by decide) rfl (fun ls hl => ?_)
    refine lv_goto (tgt := 5) hx hb d_2_4_21 (by decide) ?_
    obtain ⟨rfl, rfl, rfl⟩ := in3 h
    exact k0 rfl H locs ls hP hD hS (lv_sub hl [2, 3, 1, 0] rfl)
