set_option maxRecDepth 100000 in
set_option maxHeartbeats 4000000 in
theorem s_B_needIndex (l : Launch) (z : Zz) (ad : Nat → Nat) (E : Ev) (M : Mm) (x0 : Int) (x1 : Int)  (hL : Lay E) (h : f_B_needIndex E M x0 x1 = some ()) : CT l z ⟨"Ballothall", "needIndex", "(II)V"⟩ prog_1_method_56_code 2 none [.int (oI x0), .int (oI x1)] (wv z ad E M) 0 20 0 0 (fun _ => none) (fun _ => (wv z ad E M)) := by
  refine CT.of (own := "Ballothall") (by decide +kernel) (Nat.le_of_ble_eq_true rfl) rfl (fun p e s m below meth c A ls hx hb hml hr hts hown hlocks hin hA hG hZ hP hD hS hl => ?_)
  have hl : lv_has ls 2 [(0, .int (oI x0)), (1, .int (oI x1))] := hl
  have key : ∀ (H : Heap) (locs : List Loc) (args : Array Value), (∀ w ∈ WG, w.before args s = true) → va_P z.1 classes (wv z ad E M) H → va_S A s.heap H locs → W p l e (rmK 0 20 0 0) s m args below meth c H locs 0 0 (MQ below (QK z A (fun _ => none) (fun _ => (wv z ad E M))) args s 0 0 A) (F0 m 0 ls []) := by
    intro H locs args hts hP hS
    unfold f_B_needIndex at h
    refine lv_iload_n hx hb d_1_56_0 rfl (lv_at hl 0 rfl) ?_
    obtain ⟨ok100, h⟩ := ck_e h
    refine lv_if_lt (tgt := 9) hx hb d_1_56_1 (by decide) (fun c9 => ?_) (fun c9 => ?_)
    · have h := ite_t ((oI_lt0 ok100).mp c9) h
      cases h
    · have h := ite_f (fun q => c9 ((oI_lt0 ok100).mpr q)) h
      refine lv_iload_n hx hb d_1_56_4 rfl (lv_at hl 0 rfl) ?_
      refine lv_iload_n hx hb d_1_56_5 rfl (lv_at hl 1 rfl) ?_
      obtain ⟨ok101, h⟩ := ck_e h
      refine lv_icmp_lt (tgt := 20) hx hb d_1_56_6 (by decide) (fun c9 => ?_) (fun c9 => ?_)
      · have h := ite_t ((oI_lt (a := x0) (b := x1) ok100 ok101).mp c9) h
        clear h
        exact W.vret hx hb hr (fun t ht hW => qkA hP hD hS (fun k => k) rfl rfl ht) hS.2.2 d_1_56_20
      · have h := ite_f (fun q => c9 ((oI_lt (a := x0) (b := x1) ok100 ok101).mpr q)) h
        cases h
  exact key _ _ _ hts hP hS
set_option maxRecDepth 100000 in
set_option maxHeartbeats 4000000 in
theorem s_B_countOf (l : Launch) (z : Zz) (ad : Nat → Nat) (E : Ev) (M : Mm) (x1 : Int) (r : Int)  (hL : Lay E) (h : f_B_countOf E M x1 = some r) : CT l z ⟨"Ballothall", "countOf", "(I)I"⟩ prog_1_method_7_code 2 (some .int) [.ref (ad 1), .int (oI x1)] (wv z ad E M) 1 41 0 0 (fun _ => some (.int (oI r))) (fun _ => (wv z ad E M)) := by
  refine CT.of (own := "Ballothall") (by decide +kernel) (Nat.le_of_ble_eq_true rfl) rfl (fun p e s m below meth c A ls hx hb hml hr hts hown hlocks hin hA hG hZ hP hD hS hl => ?_)
  have hl : lv_has ls 2 [(0, .ref (ad 1)), (1, .int (oI x1))] := hl
  have key : ∀ (H : Heap) (locs : List Loc) (args : Array Value), (∀ w ∈ WG, w.before args s = true) → va_P z.1 classes (wv z ad E M) H → va_S A s.heap H locs → W p l e (rmK 1 41 0 0) s m args below meth c H locs 0 0 (MQ below (QK z A (fun _ => some (.int (oI r))) (fun _ => (wv z ad E M))) args s 0 0 A) (F0 m 0 ls []) := by
    intro H locs args hts hP hS
    unfold f_B_countOf at h
    refine lv_iload_n hx hb d_1_7_0 rfl (lv_at hl 1 rfl) ?_
    refine lv_aload_n hx hb d_1_7_1 rfl (lv_at hl 0 rfl) ?_
    refine m_gr (j := 2) (C := "Ballothall") (T := TX11) (N := 14) (ci := 11) (k := 0) hx hb hts iX11 hown hG hP (yi_1 hL) (yt_1 hL) rfl (by decide) w_397 (fun _ h9 => h9) rfl rfl (yr_1_0 hL) d_1_7_2 ?_
    refine m_giN (C := "Ballothall$BallotBox") (T := TX0) (N := 10) (ci := 0) (k := 3) hx hb hts iX0 hown hG hP (yi_2 hL) (yt_2 hL) rfl (by decide) n_58 rfl (fun _ h9 => h9) rfl rfl d_1_7_5 ?_
    obtain ⟨_, g100, h⟩ := bd_e h
    refine kS (As := [.int (oI x1), .int (oI (M 2 3))]) (rest := []) (s_B_needIndex l z ad E M x1 (M 2 3) hL g100) hx hb hml hown hts w_529 w_527 w_528 w_1 md_6cb26b ⟨Nat.le_of_ble_eq_true rfl, Nat.le_of_ble_eq_true rfl⟩ hG hZ hP hD hS hA rfl hl.1 rfl (Nat.le_of_ble_eq_true rfl) d_1_7_8 ⟨Nat.le_of_ble_eq_true rfl, Nat.le_of_ble_eq_true rfl⟩ (fun _ H locs hP hD hS => ?_)
    have hP : va_P z.1 classes (wv z ad E M) H := hP
    have hD : va_D A (wv z ad E M) := hD
    refine W.eq (g2 := F0 m 11 ls []) rfl ?_
    refine lv_aload_n hx hb d_1_7_11 rfl (lv_at hl 0 rfl) ?_
    refine m_gr (j := 2) (C := "Ballothall") (T := TX11) (N := 14) (ci := 11) (k := 0) hx hb hts iX11 hown hG hP (yi_1 hL) (yt_1 hL) rfl (by decide) w_397 (fun _ h9 => h9) rfl rfl (yr_1_0 hL) d_1_7_12 ?_
    refine m_grN (j := 5) (C := "Ballothall$BallotBox") (T := TX0) (N := 10) (ci := 0) (k := 5) hx hb hts iX0 hown hG hP (yi_2 hL) (yt_2 hL) rfl (by decide) n_66 rfl (fun _ h9 => h9) rfl rfl (yr_2_5 hL) d_1_7_15 ?_
    refine lv_iload_n hx hb d_1_7_18 rfl (lv_at hl 1 rfl) ?_
    obtain ⟨ok101, h⟩ := ck_e h
    refine m_ia hx hb hG hP (yi_5 hL) (yt_5 hL) ok101 d_1_7_19 ?_
    obtain rfl := in1 h
    exact W.iret hx hb hr (fun t ht hW => qkA hP hD hS (fun k => k) rfl rfl ht) hS.2.2 d_1_7_20
  exact key _ _ _ hts hP hS
set_option maxRecDepth 100000 in
set_option maxHeartbeats 4000000 in
theorem b_Bx_rankOf_2b (l : Launch) (z : Zz) (ad : Nat → Nat) (E : Ev) (M : Mm) (x1 : Int) (x2 : Int) (x3 : Int) (t : Nat) (w3 : Int)  {Q : State → Prop} {p : Program} {e : Env} {s : State} {m : MethodId} {below : List Frame} {meth : Method} {c : Code} {A : Nat → Prop} {args : Array Value} (hx : p.tables.exec = Jvm.exec) (hb : c.code = prog_2_method_12_code) (hml : c.maxLocals = 4) (hts : ∀ w ∈ WG, w.before args s = true) (hown : s.vm.findClass "Ballothall$BallotBox" = some m.cls) (hlocks : meth.locks = false) (hA : ∀ q, s.heap.size ≤ q → A q) (hG : KG z s) (hZ : FZ z A s) (hL : Lay E) (h : Bx_rankOf_2b E M x1 x2 x3 = some (t, w3)) (k0 : t = 0 → ∀ (H : Heap) (locs : List Loc) (ls : Array Slot), va_P z.1 classes (wv z ad E M) H → va_D A (wv z ad E M) → va_S A s.heap H locs → lv_has ls 4 [(0, .ref (ad 2)), (1, .int (oI x1)), (2, .int (oI x2)), (3, .int (oI w3))] → W p l e (rmK 1 41 0 0) s m args below meth c H locs 0 0 Q (F0 m 2 ls [])) (k1 : t = 1 → ∀ (H : Heap) (locs : List Loc) (ls : Array Slot), va_P z.1 classes (wv z ad E M) H → va_D A (wv z ad E M) → va_S A s.heap H locs → lv_has ls 4 [(3, .int (oI w3))] → W p l e (rmK 1 41 0 0) s m args below meth c H locs 0 0 Q (F0 m 27 ls [])) (k2 : t = 2 → ∀ (H : Heap) (locs : List Loc) (ls : Array Slot), va_P z.1 classes (wv z ad E M) H → va_D A (wv z ad E M) → va_S A s.heap H locs → lv_has ls 4 [(0, .ref (ad 2)), (1, .int (oI x1))] → W p l e (rmK 1 41 0 0) s m args below meth c H locs 0 0 Q (F0 m 35 ls [])) : ∀ (H : Heap) (locs : List Loc) (ls : Array Slot), va_P z.1 classes (wv z ad E M) H → va_D A (wv z ad E M) → va_S A s.heap H locs → lv_has ls 4 [(0, .ref (ad 2)), (1, .int (oI x1)), (2, .int (oI x2)), (3, .int (oI x3))] → W p l e (rmK 1 41 0 0) s m args below meth c H locs 0 0 Q (F0 m 2 ls []) := by
  intro H locs ls hP hD hS hl
  unfold Bx_rankOf_2b at h
  refine lv_iload_n hx hb d_2_12_2 rfl (lv_at hl 3 rfl) ?_
  refine lv_aload_n hx hb d_2_12_3 rfl (lv_at hl 0 rfl) ?_
  refine m_gr (j := 7) (C := "Ballothall$BallotBox") (T := TX0) (N := 10) (ci := 0) (k := 7) hx hb hts iX0 hown hG hP (yi_2 hL) (yt_2 hL) rfl (by decide) w_72 (fun _ h9 => h9) rfl rfl (yr_2_7 hL) d_2_12_4 ?_
  refine lv_iload_n hx hb d_2_12_7 rfl (lv_at hl 1 rfl) ?_
  obtain ⟨ok100, h⟩ := ck_e h
  refine m_ia hx hb hG hP (yi_7 hL) (yt_7 hL) ok100 d_2_12_8 ?_
  obtain ⟨ok101, h⟩ := ck_e h
  obtain ⟨ok102, h⟩ := ck_e h
  refine lv_icmp_ge (tgt := 35) hx hb d_2_12_9 (by decide) (fun c9 => ?_) (fun c9 => ?_)
  · have h := ite_t ((oI_le (a := (M 7 x1.toNat)) (b := x3) ok102 ok101).mp c9) h
    obtain ⟨rfl, rfl⟩ := in2 h
    exact k2 rfl H locs ls hP hD hS (lv_sub hl [0, 1] rfl)
  · have h := ite_f (fun q => c9 ((oI_le (a := (M 7 x1.toNat)) (b := x3) ok102 ok101).mpr q)) h
    refine lv_aload_n hx hb d_2_12_12 rfl (lv_at hl 0 rfl) ?_
    refine m_gr (j := 8) (C := "Ballothall$BallotBox") (T := TX0) (N := 10) (ci := 0) (k := 8) hx hb hts iX0 hown hG hP (yi_2 hL) (yt_2 hL) rfl (by decide) w_74 (fun _ h9 => h9) rfl rfl (yr_2_8 hL) d_2_12_13 ?_
    refine lv_iload_n hx hb d_2_12_16 rfl (lv_at hl 1 rfl) ?_
    refine m_ar (k := (9 + x1.toNat)) hx hb hG hP (yi_8 hL) (yt_8 hL) ok100 (ya_8 hL (inb_lt ok100)) d_2_12_17 ?_
    refine lv_iload_n hx hb d_2_12_18 rfl (lv_at hl 3 rfl) ?_
    obtain ⟨ok103, h⟩ := ck_e h
    refine m_ia hx hb hG hP (yg_8 hL ok100).1 (yg_8 hL ok100).2 ok103 d_2_12_19 ?_
    refine lv_iload_n hx hb d_2_12_20 rfl (lv_at hl 2 rfl) ?_
    obtain ⟨r104, g104, h⟩ := bd_e h
    refine kSN (As := [.int (oI (M (9 + x1.toNat) x3.toNat)), .int (oI x2)]) (rest := []) (s_B_has l z ad E M (M (9 + x1.toNat) x3.toNat) x2 r104 hL g104) hx hb hml hown hts w_693 n_1031 w_692 w_1 md_26545c ⟨Nat.le_of_ble_eq_true rfl, Nat.le_of_ble_eq_true rfl⟩ hG hZ hP hD hS hA rfl hl.1 rfl (Nat.le_of_ble_eq_true rfl) d_2_12_21 ⟨Nat.le_of_ble_eq_true rfl, Nat.le_of_ble_eq_true rfl⟩ (fun _ H locs hP hD hS => ?_)
    have hP : va_P z.1 classes (wv z ad E M) H := hP
    have hD : va_D A (wv z ad E M) := hD
    refine W.eq (g2 := F0 m 24 ls [.int (oI r104)]) rfl ?_
    obtain ⟨ok105, h⟩ := ck_e h
    refine lv_if_eq (tgt := 29) hx hb d_2_12_24 (by decide) (fun c9 => ?_) (fun c9 => ?_)
    · have h := ite_t ((oI_eq0 ok105).mp c9) h
      refine lv_iinc (v := oI (x3 + 1)) (lv' := [(3, .int (oI (x3 + 1))), (0, .ref (ad 2)), (1, .int (oI x1)), (2, .int (oI x2))]) hx hb d_2_12_29 hl (k := 3) rfl (oI_add x3 1) (by decide) rfl (fun ls hl => ?_)
      refine lv_goto (tgt := 2) hx hb d_2_12_32 (by decide) ?_
      obtain ⟨rfl, rfl⟩ := in2 h
      exact k0 rfl H locs ls hP hD hS (lv_sub hl [1, 2, 3, 0] rfl)
    · have h := ite_f (fun q => c9 ((oI_eq0 ok105).mpr q)) h
      obtain ⟨rfl, rfl⟩ := in2 h
      exact k1 rfl H locs ls hP hD hS (lv_sub hl [3] rfl)
set_option maxRecDepth 100000 in
set_option maxHeartbeats 4000000 in
theorem s_Bx_rankOf_2 (l : Launch) (z : Zz) (ad : Nat → Nat) (E : Ev) (x1 : Int) (x2 : Int) {Q : State → Prop} {p : Program} {e : Env} {s : State} {m : MethodId} {below : List Frame} {meth : Method} {c : Code} {A : Nat → Prop} {args : Array Value} (hx : p.tables.exec = Jvm.exec) (hb : c.code = prog_2_method_12_code) (hml : c.maxLocals = 4) (hts : ∀ w ∈ WG, w.before args s = true) (hown : s.vm.findClass "Ballothall$BallotBox" = some m.cls) (hlocks : meth.locks = false) (hA : ∀ q, s.heap.size ≤ q → A q) (hG : KG z s) (hZ : FZ z A s) (hL : Lay E) : ∀ (fu : Nat) (M : Mm) (x3 : Int) (t : Nat) (w3 : Int), l_Bx_rankOf_2 E x1 x2 fu M x3 = some (t, w3) → (t = 1 → ∀ (H : Heap) (locs : List Loc) (ls : Array Slot), va_P z.1 classes (wv z ad E M) H → va_D A (wv z ad E M) → va_S A s.heap H locs → lv_has ls 4 [(3, .int (oI w3))] → W p l e (rmK 1 41 0 0) s m args below meth c H locs 0 0 Q (F0 m 27 ls [])) → (t = 2 → ∀ (H : Heap) (locs : List Loc) (ls : Array Slot), va_P z.1 classes (wv z ad E M) H → va_D A (wv z ad E M) → va_S A s.heap H locs → lv_has ls 4 [(0, .ref (ad 2)), (1, .int (oI x1))] → W p l e (rmK 1 41 0 0) s m args below meth c H locs 0 0 Q (F0 m 35 ls [])) → ∀ (H : Heap) (locs : List Loc) (ls : Array Slot), va_P z.1 classes (wv z ad E M) H → va_D A (wv z ad E M) → va_S A s.heap H locs → lv_has ls 4 [(0, .ref (ad 2)), (1, .int (oI x1)), (2, .int (oI x2)), (3, .int (oI x3))] → W p l e (rmK 1 41 0 0) s m args below meth c H locs 0 0 Q (F0 m 2 ls []) := by
  intro fu
  induction fu with
  | zero =>
    intro M x3 t w3 h
    have h : (none : Option (Nat × Int)) = some _ := h
    cases h
  | succ fu ih =>
    intro M x3 t w3 h k1 k2 H locs ls hP hD hS hl
    obtain ⟨⟨t0, w30⟩, g0, h⟩ := bd_e h
    refine b_Bx_rankOf_2b l z ad E M x1 x2 x3 t0 w30 hx hb hml hts hown hlocks hA hG hZ hL g0 (fun e0 => ?_) (fun e0 => ?_) (fun e0 => ?_) H locs ls hP hD hS hl
    · subst e0
      have h := ite_t rfl h
      exact ih M w30 t w3 h k1 k2
    · subst e0
      have h := ite_f (by decide) h
      obtain ⟨rfl, rfl⟩ := in2 h
      exact k1 rfl
    · subst e0
      have h := ite_f (by decide) h
      obtain ⟨rfl, rfl⟩ := in2 h
      exact k2 rfl
set_option maxRecDepth 100000 in
set_option maxHeartbeats 4000000 in
theorem s_Bx_rankOf (l : Launch) (z : Zz) (ad : Nat → Nat) (E : Ev) (M : Mm) (x1 : Int) (x2 : Int) (r : Int)  (hL : Lay E) (h : f_Bx_rankOf E M x1 x2 = some r) : CT l z ⟨"Ballothall$BallotBox", "rankOf", "(II)I"⟩ prog_2_method_12_code 4 (some .int) [.ref (ad 2), .int (oI x1), .int (oI x2)] (wv z ad E M) 1 41 0 0 (fun _ => some (.int (oI r))) (fun _ => (wv z ad E M)) := by
  refine CT.of (own := "Ballothall$BallotBox") (by decide +kernel) (Nat.le_of_ble_eq_true rfl) rfl (fun p e s m below meth c A ls hx hb hml hr hts hown hlocks hin hA hG hZ hP hD hS hl => ?_)
  have hl : lv_has ls 4 [(0, .ref (ad 2)), (1, .int (oI x1)), (2, .int (oI x2))] := hl
  have key : ∀ (H : Heap) (locs : List Loc) (args : Array Value), (∀ w ∈ WG, w.before args s = true) → va_P z.1 classes (wv z ad E M) H → va_S A s.heap H locs → W p l e (rmK 1 41 0 0) s m args below meth c H locs 0 0 (MQ below (QK z A (fun _ => some (.int (oI r))) (fun _ => (wv z ad E M))) args s 0 0 A) (F0 m 0 ls []) := by
    intro H locs args hts hP hS
    unfold f_Bx_rankOf at h
    refine lv_iconst (v := oI 0) hx hb d_2_12_0 (by decide +kernel) ?_
    refine lv_istore_n (lv' := [(3, .int (oI 0)), (0, .ref (ad 2)), (1, .int (oI x1)), (2, .int (oI x2))]) hx hb d_2_12_1 rfl hl (by decide) rfl (fun ls hl => ?_)
    obtain ⟨⟨t106, v106_3⟩, g106, h⟩ := bd_e h
    refine s_Bx_rankOf_2 l z ad E x1 x2 hx hb hml hts hown hlocks hA hG hZ hL FU M 0 t106 v106_3 g106 (fun e106 H locs ls hP hD hS hl => ?_) (fun e106 H locs ls hP hD hS hl => ?_) H locs ls hP hD hS (lv_sub hl [1, 2, 3, 0] rfl)
    · subst e106
      have h := ite_t rfl h
      refine lv_iload_n hx hb d_2_12_27 rfl (lv_at hl 0 rfl) ?_
      obtain rfl := in1 h
      exact W.iret hx hb hr (fun t ht hW => qkA hP hD hS (fun k => k) rfl rfl ht) hS.2.2 d_2_12_28
    · subst e106
      have h := ite_f (by decide) h
      have h := ite_t rfl h
      refine lv_aload_n hx hb d_2_12_35 rfl (lv_at hl 0 rfl) ?_
      refine m_gr (j := 7) (C := "Ballothall$BallotBox") (T := TX0) (N := 10) (ci := 0) (k := 7) hx hb hts iX0 hown hG hP (yi_2 hL) (yt_2 hL) rfl (by decide) w_72 (fun _ h9 => h9) rfl rfl (yr_2_7 hL) d_2_12_36 ?_
      refine lv_iload_n hx hb d_2_12_39 rfl (lv_at hl 1 rfl) ?_
      obtain ⟨ok107, h⟩ := ck_e h
      refine m_ia hx hb hG hP (yi_7 hL) (yt_7 hL) ok107 d_2_12_40 ?_
      obtain rfl := in1 h
      exact W.iret hx hb hr (fun t ht hW => qkA hP hD hS (fun k => k) rfl rfl ht) hS.2.2 d_2_12_41
  exact key _ _ _ hts hP hS
set_option maxRecDepth 100000 in
set_option maxHeartbeats 4000000 in
theorem s_B_kindAt (l : Launch) (z : Zz) (ad : Nat → Nat) (E : Ev) (M : Mm) (x1 : Int) (x2 : Int) (x3 : Int) (r : Int)  (hL : Lay E) (h : f_B_kindAt E M x1 x2 x3 = some r) : CT l z ⟨"Ballothall", "kindAt", "(IIZ)I"⟩ prog_1_method_8_code 4 (some .int) [.ref (ad 1), .int (oI x1), .int (oI x2), .int (oI x3)] (wv z ad E M) 2 64 0 0 (fun _ => some (.int (oI r))) (fun _ => (wv z ad E M)) := by
  refine CT.of (own := "Ballothall") (by decide +kernel) (Nat.le_of_ble_eq_true rfl) rfl (fun p e s m below meth c A ls hx hb hml hr hts hown hlocks hin hA hG hZ hP hD hS hl => ?_)
  have hl : lv_has ls 4 [(0, .ref (ad 1)), (1, .int (oI x1)), (2, .int (oI x2)), (3, .int (oI x3))] := hl
  have key : ∀ (H : Heap) (locs : List Loc) (args : Array Value), (∀ w ∈ WG, w.before args s = true) → va_P z.1 classes (wv z ad E M) H → va_S A s.heap H locs → W p l e (rmK 2 64 0 0) s m args below meth c H locs 0 0 (MQ below (QK z A (fun _ => some (.int (oI r))) (fun _ => (wv z ad E M))) args s 0 0 A) (F0 m 0 ls []) := by
    intro H locs args hts hP hS
    unfold f_B_kindAt at h
    refine lv_iload_n hx hb d_1_8_0 rfl (lv_at hl 1 rfl) ?_
    refine lv_aload_n hx hb d_1_8_1 rfl (lv_at hl 0 rfl) ?_
    refine m_gr (j := 2) (C := "Ballothall") (T := TX11) (N := 14) (ci := 11) (k := 0) hx hb hts iX11 hown hG hP (yi_1 hL) (yt_1 hL) rfl (by decide) w_397 (fun _ h9 => h9) rfl rfl (yr_1_0 hL) d_1_8_2 ?_
    refine m_giN (C := "Ballothall$BallotBox") (T := TX0) (N := 10) (ci := 0) (k := 3) hx hb hts iX0 hown hG hP (yi_2 hL) (yt_2 hL) rfl (by decide) n_58 rfl (fun _ h9 => h9) rfl rfl d_1_8_5 ?_
    obtain ⟨_, g100, h⟩ := bd_e h
    refine kS (As := [.int (oI x1), .int (oI (M 2 3))]) (rest := []) (s_B_needIndex l z ad E M x1 (M 2 3) hL g100) hx hb hml hown hts w_529 w_527 w_528 w_1 md_6cb26b ⟨Nat.le_of_ble_eq_true rfl, Nat.le_of_ble_eq_true rfl⟩ hG hZ hP hD hS hA rfl hl.1 rfl (Nat.le_of_ble_eq_true rfl) d_1_8_8 ⟨Nat.le_of_ble_eq_true rfl, Nat.le_of_ble_eq_true rfl⟩ (fun _ H locs hP hD hS => ?_)
    have hP : va_P z.1 classes (wv z ad E M) H := hP
    have hD : va_D A (wv z ad E M) := hD
    refine W.eq (g2 := F0 m 11 ls []) rfl ?_
    refine lv_iload_n hx hb d_1_8_11 rfl (lv_at hl 2 rfl) ?_
    refine lv_aload_n hx hb d_1_8_12 rfl (lv_at hl 0 rfl) ?_
    refine m_gr (j := 2) (C := "Ballothall") (T := TX11) (N := 14) (ci := 11) (k := 0) hx hb hts iX11 hown hG hP (yi_1 hL) (yt_1 hL) rfl (by decide) w_397 (fun _ h9 => h9) rfl rfl (yr_1_0 hL) d_1_8_13 ?_
    refine m_giN (C := "Ballothall$BallotBox") (T := TX0) (N := 10) (ci := 0) (k := 2) hx hb hts iX0 hown hG hP (yi_2 hL) (yt_2 hL) rfl (by decide) n_52 rfl (fun _ h9 => h9) rfl rfl d_1_8_16 ?_
    obtain ⟨_, g101, h⟩ := bd_e h
    refine kS (As := [.int (oI x2), .int (oI (M 2 2))]) (rest := []) (s_B_needIndex l z ad E M x2 (M 2 2) hL g101) hx hb hml hown hts w_529 w_527 w_528 w_1 md_6cb26b ⟨Nat.le_of_ble_eq_true rfl, Nat.le_of_ble_eq_true rfl⟩ hG hZ hP hD hS hA rfl hl.1 rfl (Nat.le_of_ble_eq_true rfl) d_1_8_19 ⟨Nat.le_of_ble_eq_true rfl, Nat.le_of_ble_eq_true rfl⟩ (fun _ H locs hP hD hS => ?_)
    have hP : va_P z.1 classes (wv z ad E M) H := hP
    have hD : va_D A (wv z ad E M) := hD
    refine W.eq (g2 := F0 m 22 ls []) rfl ?_
    refine lv_iload_n hx hb d_1_8_22 rfl (lv_at hl 3 rfl) ?_
    obtain ⟨ok102, h⟩ := ck_e h
    refine lv_if_eq (tgt := 38) hx hb d_1_8_23 (by decide) (fun c9 => ?_) (fun c9 => ?_)
    · have h := ite_t ((oI_eq0 ok102).mp c9) h
      refine lv_aload_n hx hb d_1_8_38 rfl (lv_at hl 0 rfl) ?_
      refine m_gr (j := 2) (C := "Ballothall") (T := TX11) (N := 14) (ci := 11) (k := 0) hx hb hts iX11 hown hG hP (yi_1 hL) (yt_1 hL) rfl (by decide) w_397 (fun _ h9 => h9) rfl rfl (yr_1_0 hL) d_1_8_39 ?_
      refine m_grN (j := 6) (C := "Ballothall$BallotBox") (T := TX0) (N := 10) (ci := 0) (k := 6) hx hb hts iX0 hown hG hP (yi_2 hL) (yt_2 hL) rfl (by decide) n_71 rfl (fun _ h9 => h9) rfl rfl (yr_2_6 hL) d_1_8_42 ?_
      refine lv_iload_n hx hb d_1_8_45 rfl (lv_at hl 1 rfl) ?_
      obtain ⟨ok103, h⟩ := ck_e h
      refine m_ia hx hb hG hP (yi_6 hL) (yt_6 hL) ok103 d_1_8_46 ?_
      refine lv_iload_n hx hb d_1_8_47 rfl (lv_at hl 2 rfl) ?_
      obtain ⟨ok104, h⟩ := ck_e h
      obtain ⟨ok105, h⟩ := ck_e h
      refine lv_ishr hx hb d_1_8_48 ?_
      refine nrm (oI_shr (a := (M 6 x1.toNat)) ok104 ok105.1 ok105.2) ?_
      refine lv_iconst (v := oI 1) hx hb d_1_8_49 (by decide +kernel) ?_
      refine lv_iand hx hb d_1_8_50 ?_
      refine nrm (oI_m1 _) ?_
      obtain rfl := in1 h
      exact W.iret hx hb hr (fun t ht hW => qkA hP hD hS (fun k => k) rfl rfl ht) hS.2.2 d_1_8_51
    · have h := ite_f (fun q => c9 ((oI_eq0 ok102).mpr q)) h
      refine lv_aload_n hx hb d_1_8_26 rfl (lv_at hl 0 rfl) ?_
      refine m_gr (j := 2) (C := "Ballothall") (T := TX11) (N := 14) (ci := 11) (k := 0) hx hb hts iX11 hown hG hP (yi_1 hL) (yt_1 hL) rfl (by decide) w_397 (fun _ h9 => h9) rfl rfl (yr_1_0 hL) d_1_8_27 ?_
      refine lv_iload_n hx hb d_1_8_30 rfl (lv_at hl 1 rfl) ?_
      refine lv_iload_n hx hb d_1_8_31 rfl (lv_at hl 2 rfl) ?_
      obtain ⟨r106, g106, h⟩ := bd_e h
      refine kVN (As := [.int (oI x1), .int (oI x2)]) (rest := []) (s_Bx_rankOf l z ad E M x1 x2 r106 hL g106) hx hb hml hown hts w_1062 n_1059 w_1061 w_s_6d1705 w_2 md_f4341f ⟨Nat.le_of_ble_eq_true rfl, Nat.le_of_ble_eq_true rfl⟩ hG hZ hP hD hS hA 2 (wv_o (ci := 0) (yi_2 hL) (yt_2 hL)) rfl rfl rfl hl.1 rfl (Nat.le_of_ble_eq_true rfl) d_1_8_32 ⟨Nat.le_of_ble_eq_true rfl, Nat.le_of_ble_eq_true rfl⟩ (fun _ H locs hP hD hS => ?_)
      have hP : va_P z.1 classes (wv z ad E M) H := hP
      have hD : va_D A (wv z ad E M) := hD
      refine W.eq (g2 := F0 m 35 ls [.int (oI r106)]) rfl ?_
      refine lv_goto (tgt := 51) hx hb d_1_8_35 (by decide) ?_
      obtain rfl := in1 h
      exact W.iret hx hb hr (fun t ht hW => qkA hP hD hS (fun k => k) rfl rfl ht) hS.2.2 d_1_8_51
  exact key _ _ _ hts hP hS
set_option maxRecDepth 100000 in
set_option maxHeartbeats 4000000 in
theorem b_La_ballots_18b (l : Launch) (z : Zz) (E0 : Ev) (ad0 : Nat → Nat) (ad : Nat → Nat) (E : Ev) (M : Mm) (q1 : Nat) (q2 : Nat) (q3 : Nat) (q4 : Nat) (x5 : Int) (t : Nat) (w5 : Int) (F : Ev) (N : Mm) {Q : State → Prop} {p : Program} {e : Env} {s : State} {m : MethodId} {below : List Frame} {meth : Method} {c : Code} {A : Nat → Prop} {args : Array Value} (hx : p.tables.exec = Jvm.exec) (hb : c.code = method_4_code) (hml : c.maxLocals = 14) (hts : ∀ w ∈ WG, w.before args s = true) (hown : s.vm.findClass "BallothallLaw" = some m.cls) (hlocks : meth.locks = false) (hA : ∀ q, s.heap.size ≤ q → A q) (hG : KG z s) (hZ : FZ z A s) (mc ms c0 s0 c1 s1 : Nat) (hc : c0 + 0 ≤ c1) (hs : s0 + 0 ≤ s1) (hm : c1 ≤ mc) (hm2 : s1 ≤ ms) (hag0 : ∀ i, i < nE E0 → ad i = ad0 i) (hE0 : nE E0 ≤ nE E) (h : La_ballots_18b E M q1 q2 q3 q4 x5 = some (t, w5, F, N)) (k0 : ∀ (ad1 : Nat → Nat), (∀ i, i < nE E0 → ad1 i = ad0 i) → nE E0 ≤ nE F → t = 0 → ∀ (H : Heap) (locs : List Loc) (ls : Array Slot), va_P z.1 classes (wv z ad1 F N) H → va_D A (wv z ad1 F N) → va_S A s.heap H locs → lv_has ls 14 [(0, .ref (ad1 1)), (1, .ref (ad1 q1)), (2, .ref (ad1 q2)), (3, .ref (ad1 q3)), (4, .ref (ad1 q4)), (5, .int (oI w5))] → W p l e (rmK 6 171 mc ms) s m args below meth c H locs c1 s1 Q (F0 m 18 ls [])) (k1 : ∀ (ad1 : Nat → Nat), (∀ i, i < nE E0 → ad1 i = ad0 i) → nE E0 ≤ nE F → t = 1 → ∀ (H : Heap) (locs : List Loc) (ls : Array Slot), va_P z.1 classes (wv z ad1 F N) H → va_D A (wv z ad1 F N) → va_S A s.heap H locs → lv_has ls 14 [(0, .ref (ad1 1)), (1, .ref (ad1 q1)), (2, .ref (ad1 q2)), (3, .ref (ad1 q3)), (4, .ref (ad1 q4))] → W p l e (rmK 6 171 mc ms) s m args below meth c H locs c1 s1 Q (F0 m 66 ls [])) : ∀ (H : Heap) (locs : List Loc) (ls : Array Slot), va_P z.1 classes (wv z ad E M) H → va_D A (wv z ad E M) → va_S A s.heap H locs → lv_has ls 14 [(0, .ref (ad 1)), (1, .ref (ad q1)), (2, .ref (ad q2)), (3, .ref (ad q3)), (4, .ref (ad q4)), (5, .int (oI x5))] → W p l e (rmK 6 171 mc ms) s m args below meth c H locs c0 s0 Q (F0 m 18 ls []) := by
  intro H locs ls hP hD hS hl
  unfold La_ballots_18b at h
  obtain ⟨hL, h⟩ := ck_e h
  obtain ⟨h_q1, h⟩ := ck_e h
  obtain ⟨h_q2, h⟩ := ck_e h
  obtain ⟨h_q3, h⟩ := ck_e h
  obtain ⟨h_q4, h⟩ := ck_e h
  refine lv_iload hx hb d_L4_18 (lv_at hl 5 rfl) ?_
  refine lv_aload_n hx hb d_L4_20 rfl (lv_at hl 1 rfl) ?_
  refine m_giN (C := "BallothallLaw$Box") (T := TX12) (N := 4) (ci := 12) (k := 0) hx hb hts iX12 hown hG hP h_q1.1 h_q1.2 rfl (by decide) n_775 rfl (fun _ h9 => h9) rfl rfl d_L4_21 ?_
  obtain ⟨ok104, h⟩ := ck_e h
  obtain ⟨ok105, h⟩ := ck_e h
  refine lv_icmp_ge (tgt := 66) hx hb d_L4_24 (by decide) (fun c9 => ?_) (fun c9 => ?_)
  · have h := ite_t ((oI_le (a := (M q1 0)) (b := x5) ok105 ok104).mp c9) h
    obtain ⟨rfl, rfl, rfl, rfl⟩ := in4 h
    exact W.wide (by omega) (by omega) (k1 ad hag0 hE0 rfl H locs ls hP hD hS (lv_sub hl [0, 1, 2, 3, 4] rfl))
  · have h := ite_f (fun q => c9 ((oI_le (a := (M q1 0)) (b := x5) ok105 ok104).mpr q)) h
    refine lv_aload_n hx hb d_L4_27 rfl (lv_at hl 2 rfl) ?_
    refine lv_iload hx hb d_L4_28 (lv_at hl 5 rfl) ?_
    refine lv_iconst (v := oI 1) hx hb d_L4_30 (by decide +kernel) ?_
    refine lv_iadd hx hb d_L4_31 ?_
    refine nrm (oI_add _ _) ?_
    obtain ⟨⟨r106, M106⟩, g106, h⟩ := bd_e h
    refine kS (As := [.ref (ad q2), .int (oI (x5 + 1))]) (rest := []) (s_La_next l z ad E M q2 (x5 + 1) r106 M106 hL g106) hx hb hml hown hts w_797 w_795 w_796 w_0 md_199d8f ⟨Nat.le_of_ble_eq_true rfl, Nat.le_of_ble_eq_true rfl⟩ hG hZ hP hD hS hA rfl hl.1 rfl (Nat.le_of_ble_eq_true rfl) d_L4_32 ⟨(show _ ≤ mc by omega), (show _ ≤ ms by omega)⟩ (fun _ H locs hP hD hS => ?_)
    have hP : va_P z.1 classes (wv z ad E M106) H := hP
    have hD : va_D A (wv z ad E M106) := hD
    refine W.eq (g2 := F0 m 35 ls [.int (oI r106)]) rfl ?_
    refine lv_istore (lv' := [(6, .int (oI r106)), (0, .ref (ad 1)), (1, .ref (ad q1)), (2, .ref (ad q2)), (3, .ref (ad q3)), (4, .ref (ad q4)), (5, .int (oI x5))]) hx hb d_L4_35 hl (by decide) rfl (fun ls hl => ?_)
    refine lv_aload hx hb d_L4_37 (lv_at hl 5 rfl) ?_
    refine lv_iload hx hb d_L4_39 (lv_at hl 6 rfl) ?_
    refine lv_aload hx hb d_L4_41 (lv_at hl 5 rfl) ?_
    refine lv_iload hx hb d_L4_43 (lv_at hl 0 rfl) ?_
    obtain ⟨ok107, h⟩ := ck_e h
    refine m_ia hx hb hG hP h_q4.1 (isIA_T h_q4) ok107 d_L4_45 ?_
    obtain ⟨ok108, h⟩ := ck_e h
    refine m_is hx hb hG hP hD hS h_q4.1 (isIA_T h_q4) ok108 d_L4_46 (fun H locs hP hD hS => ?_)
    have hP : va_P z.1 classes (wv z ad E (u2 M106 q4 x5.toNat (M106 q4 r106.toNat))) H := hP
    have hD : va_D A (wv z ad E (u2 M106 q4 x5.toNat (M106 q4 r106.toNat))) := hD
    refine lv_aload hx hb d_L4_47 (lv_at hl 5 rfl) ?_
    refine lv_iload hx hb d_L4_49 (lv_at hl 0 rfl) ?_
    refine lv_iload hx hb d_L4_51 (lv_at hl 6 rfl) ?_
    refine m_is hx hb hG hP hD hS h_q4.1 (isIA_T h_q4) ok107 d_L4_53 (fun H locs hP hD hS => ?_)
    have hP : va_P z.1 classes (wv z ad E (u2 (u2 M106 q4 x5.toNat (M106 q4 r106.toNat)) q4 r106.toNat x5)) H := hP
    have hD : va_D A (wv z ad E (u2 (u2 M106 q4 x5.toNat (M106 q4 r106.toNat)) q4 r106.toNat x5)) := hD
    refine lv_aload_n hx hb d_L4_54 rfl (lv_at hl 4 rfl) ?_
    refine lv_iload hx hb d_L4_55 (lv_at hl 6 rfl) ?_
    refine lv_bipush (v := oI 9) hx hb d_L4_57 (by decide +kernel) ?_
    obtain ⟨ok109, h⟩ := ck_e h
    refine m_is hx hb hG hP hD hS h_q3.1 (isIA_T h_q3) ok109 d_L4_59 (fun H locs hP hD hS => ?_)
    have hP : va_P z.1 classes (wv z ad E (u2 (u2 (u2 M106 q4 x5.toNat (M106 q4 r106.toNat)) q4 r106.toNat x5) q3 x5.toNat 9)) H := hP
    have hD : va_D A (wv z ad E (u2 (u2 (u2 M106 q4 x5.toNat (M106 q4 r106.toNat)) q4 r106.toNat x5) q3 x5.toNat 9)) := hD
    refine lv_iinc (v := oI (x5 + 1)) (lv' := [(5, .int (oI (x5 + 1))), (6, .int (oI r106)), (0, .ref (ad 1)), (1, .ref (ad q1)), (2, .ref (ad q2)), (3, .ref (ad q3)), (4, .ref (ad q4))]) hx hb d_L4_60 hl (k := 6) rfl (oI_add x5 1) (by decide) rfl (fun ls hl => ?_)
    refine lv_goto (tgt := 18) hx hb d_L4_63 (by decide) ?_
    obtain ⟨rfl, rfl, rfl, rfl⟩ := in4 h
    exact W.wide (by omega) (by omega) (k0 ad hag0 hE0 rfl H locs ls hP hD hS (lv_sub hl [2, 3, 4, 5, 6, 0] rfl))
set_option maxRecDepth 100000 in
set_option maxHeartbeats 4000000 in
theorem s_La_ballots_18 (l : Launch) (z : Zz) (E0 : Ev) (ad0 : Nat → Nat) (q1 : Nat) (q2 : Nat) (q3 : Nat) (q4 : Nat) {Q : State → Prop} {p : Program} {e : Env} {s : State} {m : MethodId} {below : List Frame} {meth : Method} {c : Code} {A : Nat → Prop} {args : Array Value} (hx : p.tables.exec = Jvm.exec) (hb : c.code = method_4_code) (hml : c.maxLocals = 14) (hts : ∀ w ∈ WG, w.before args s = true) (hown : s.vm.findClass "BallothallLaw" = some m.cls) (hlocks : meth.locks = false) (hA : ∀ q, s.heap.size ≤ q → A q) (hG : KG z s) (hZ : FZ z A s) (mc ms c1 s1 : Nat) (hm : c1 ≤ mc) (hm2 : s1 ≤ ms) : ∀ (fu c0 s0 : Nat) (ad : Nat → Nat) (E : Ev) (M : Mm) (x5 : Int) (t : Nat) (w5 : Int) (F : Ev) (N : Mm), c0 + fu * 0 ≤ c1 → s0 + fu * 0 ≤ s1 → (∀ i, i < nE E0 → ad i = ad0 i) → nE E0 ≤ nE E → l_La_ballots_18 q1 q2 q3 q4 fu E M x5 = some (t, w5, F, N) → (∀ (ad1 : Nat → Nat), (∀ i, i < nE E0 → ad1 i = ad0 i) → nE E0 ≤ nE F → t = 1 → ∀ (H : Heap) (locs : List Loc) (ls : Array Slot), va_P z.1 classes (wv z ad1 F N) H → va_D A (wv z ad1 F N) → va_S A s.heap H locs → lv_has ls 14 [(0, .ref (ad1 1)), (1, .ref (ad1 q1)), (2, .ref (ad1 q2)), (3, .ref (ad1 q3)), (4, .ref (ad1 q4))] → W p l e (rmK 6 171 mc ms) s m args below meth c H locs c1 s1 Q (F0 m 66 ls [])) → ∀ (H : Heap) (locs : List Loc) (ls : Array Slot), va_P z.1 classes (wv z ad E M) H → va_D A (wv z ad E M) → va_S A s.heap H locs → lv_has ls 14 [(0, .ref (ad 1)), (1, .ref (ad q1)), (2, .ref (ad q2)), (3, .ref (ad q3)), (4, .ref (ad q4)), (5, .int (oI x5))] → W p l e (rmK 6 171 mc ms) s m args below meth c H locs c0 s0 Q (F0 m 18 ls []) := by
  intro fu
  induction fu with
  | zero =>
    intro c0 s0 ad E M x5 t w5 F N hc hs hag0 hE0 h
    have h : (none : Option (Nat × Int × Ev × Mm)) = some _ := h
    cases h
  | succ fu ih =>
    intro c0 s0 ad E M x5 t w5 F N hc hs hag0 hE0 h k1 H locs ls hP hD hS hl
    obtain ⟨⟨t0, w50, F9, N9⟩, g0, h⟩ := bd_e h
    refine W.wide (Nat.le_refl _) (Nat.le_refl _) (b_La_ballots_18b l z E0 ad0 ad E M q1 q2 q3 q4 x5 t0 w50 F9 N9 hx hb hml hts hown hlocks hA hG hZ mc ms c0 s0 (c0 + 0) (s0 + 0) (Nat.le_refl _) (Nat.le_refl _) (by omega) (by omega) hag0 hE0 g0 (fun ad1 ha he e0 => ?_) (fun ad1 ha he e0 => ?_) H locs ls hP hD hS hl)
    · subst e0
      have h := ite_t rfl h
      exact ih (c0 + 0) (s0 + 0) ad1 F9 N9 w50 t w5 F N (by omega) (by omega) ha he h k1
    · subst e0
      have h := ite_f (by decide) h
      obtain ⟨rfl, rfl, rfl, rfl⟩ := in4 h
      exact fun H locs ls hP hD hS hl => W.wide (by omega) (by omega) (k1 ad1 ha he rfl H locs ls hP hD hS hl)
set_option maxRecDepth 100000 in
set_option maxHeartbeats 4000000 in
theorem b_La_ballots_j207 (l : Launch) (z : Zz) (E0 : Ev) (ad0 : Nat → Nat) (ad : Nat → Nat) (E : Ev) (M : Mm) (q1 : Nat) (q2 : Nat) (q3 : Nat) (q4 : Nat) (x5 : Int) (q6 : Nat) (x7 : Int) (x8 : Int) (x9 : Int) (t : Nat) (w7 : Int) (w8 : Int) (w9 : Int) (F : Ev) (N : Mm) {Q : State → Prop} {p : Program} {e : Env} {s : State} {m : MethodId} {below : List Frame} {meth : Method} {c : Code} {A : Nat → Prop} {args : Array Value} (hx : p.tables.exec = Jvm.exec) (hb : c.code = method_4_code) (hml : c.maxLocals = 14) (hts : ∀ w ∈ WG, w.before args s = true) (hown : s.vm.findClass "BallothallLaw" = some m.cls) (hlocks : meth.locks = false) (hA : ∀ q, s.heap.size ≤ q → A q) (hG : KG z s) (hZ : FZ z A s) (mc ms c0 s0 c1 s1 : Nat) (hc : c0 + 0 ≤ c1) (hs : s0 + 0 ≤ s1) (hm : c1 ≤ mc) (hm2 : s1 ≤ ms) (hag0 : ∀ i, i < nE E0 → ad i = ad0 i) (hE0 : nE E0 ≤ nE E) (h : La_ballots_j207 E M q1 q2 q3 q4 x5 q6 x7 x8 x9 = some (t, w7, w8, w9, F, N)) (k0 : ∀ (ad1 : Nat → Nat), (∀ i, i < nE E0 → ad1 i = ad0 i) → nE E0 ≤ nE F → t = 0 → ∀ (H : Heap) (locs : List Loc) (ls : Array Slot), va_P z.1 classes (wv z ad1 F N) H → va_D A (wv z ad1 F N) → va_S A s.heap H locs → lv_has ls 14 [(0, .ref (ad1 1)), (1, .ref (ad1 q1)), (2, .ref (ad1 q2)), (3, .ref (ad1 q3)), (4, .ref (ad1 q4)), (5, .int (oI x5)), (6, .ref (ad1 q6)), (7, .int (oI w7)), (8, .int (oI w8)), (9, .int (oI w9))] → W p l e (rmK 6 171 mc ms) s m args below meth c H locs c1 s1 Q (F0 m 109 ls [])) (k1 : ∀ (ad1 : Nat → Nat), (∀ i, i < nE E0 → ad1 i = ad0 i) → nE E0 ≤ nE F → t = 1 → ∀ (H : Heap) (locs : List Loc) (ls : Array Slot), va_P z.1 classes (wv z ad1 F N) H → va_D A (wv z ad1 F N) → va_S A s.heap H locs → lv_has ls 14 [(0, .ref (ad1 1)), (1, .ref (ad1 q1)), (2, .ref (ad1 q2)), (3, .ref (ad1 q3)), (5, .int (oI x5)), (6, .ref (ad1 q6)), (7, .int (oI w7))] → W p l e (rmK 6 171 mc ms) s m args below meth c H locs c1 s1 Q (F0 m 238 ls [])) : ∀ (H : Heap) (locs : List Loc) (ls : Array Slot), va_P z.1 classes (wv z ad E M) H → va_D A (wv z ad E M) → va_S A s.heap H locs → lv_has ls 14 [(0, .ref (ad 1)), (1, .ref (ad q1)), (2, .ref (ad q2)), (3, .ref (ad q3)), (4, .ref (ad q4)), (5, .int (oI x5)), (6, .ref (ad q6)), (7, .int (oI x7)), (8, .int (oI x8)), (9, .int (oI x9))] → W p l e (rmK 6 171 mc ms) s m args below meth c H locs c0 s0 Q (F0 m 207 ls []) := by
  intro H locs ls hP hD hS hl
  unfold La_ballots_j207 at h
  obtain ⟨hL, h⟩ := ck_e h
  obtain ⟨h_q1, h⟩ := ck_e h
  obtain ⟨h_q2, h⟩ := ck_e h
  obtain ⟨h_q3, h⟩ := ck_e h
  obtain ⟨h_q4, h⟩ := ck_e h
  obtain ⟨h_q6, h⟩ := ck_e h
  refine lv_aload_n hx hb d_L4_207 rfl (lv_at hl 3 rfl) ?_
  refine lv_aload hx hb d_L4_208 (lv_at hl 4 rfl) ?_
  refine lv_iload hx hb d_L4_210 (lv_at hl 9 rfl) ?_
  obtain ⟨ok118, h⟩ := ck_e h
  refine m_ia hx hb hG hP h_q4.1 (isIA_T h_q4) ok118 d_L4_212 ?_
  refine lv_iload hx hb d_L4_213 (lv_at hl 7 rfl) ?_
  obtain ⟨ok119, h⟩ := ck_e h
  refine m_is hx hb hG hP hD hS h_q3.1 (isIA_T h_q3) ok119 d_L4_215 (fun H locs hP hD hS => ?_)
  have hP : va_P z.1 classes (wv z ad E (u2 M q3 (M q4 x9.toNat).toNat x7)) H := hP
  have hD : va_D A (wv z ad E (u2 M q3 (M q4 x9.toNat).toNat x7)) := hD
  refine lv_aload hx hb d_L4_216 (lv_at hl 6 rfl) ?_
  refine lv_bipush (v := oI 65) hx hb d_L4_218 (by decide +kernel) ?_
  refine lv_aload hx hb d_L4_220 (lv_at hl 4 rfl) ?_
  refine lv_iload hx hb d_L4_222 (lv_at hl 9 rfl) ?_
  refine m_ia hx hb hG hP h_q4.1 (isIA_T h_q4) ok118 d_L4_224 ?_
  refine lv_iadd hx hb d_L4_225 ?_
  refine nrm (oI_add _ _) ?_
  obtain ⟨ok120, h⟩ := ck_e h
  refine lv_i2c (v := oI (65 + ((u2 M q3 (M q4 x9.toNat).toNat x7) q4 x9.toNat))) hx hb d_L4_226 (oI_c ok120) ?_
  obtain ⟨⟨r121, M121⟩, g121, h⟩ := bd_e h
  refine kV (As := [.int (oI (65 + ((u2 M q3 (M q4 x9.toNat).toNat x7) q4 x9.toNat)))]) (rest := []) (s_Sb_appendC l z ad E (u2 M q3 (M q4 x9.toNat).toNat x7) q6 (65 + ((u2 M q3 (M q4 x9.toNat).toNat x7) q4 x9.toNat)) r121 M121 hL g121) hx hb hml hown hts w_836 w_833 w_834 w_835 w_19 md_515737 ⟨Nat.le_of_ble_eq_true rfl, Nat.le_of_ble_eq_true rfl⟩ hG hZ hP hD hS hA q6 (wv_o (ci := 14) h_q6.1 h_q6.2) rfl rfl rfl hl.1 rfl (Nat.le_of_ble_eq_true rfl) d_L4_227 ⟨(show _ ≤ mc by omega), (show _ ≤ ms by omega)⟩ (fun _ H locs hP hD hS => ?_)
  have hP : va_P z.1 classes (wv z ad E M121) H := hP
  have hD : va_D A (wv z ad E M121) := hD
  obtain ⟨h_r121, h⟩ := ck_e h
  refine W.eq (g2 := F0 m 230 ls [.ref (ad r121)]) rfl ?_
  refine lv_astore (lv' := [(10, .ref (ad r121)), (0, .ref (ad 1)), (1, .ref (ad q1)), (2, .ref (ad q2)), (3, .ref (ad q3)), (4, .ref (ad q4)), (5, .int (oI x5)), (6, .ref (ad q6)), (7, .int (oI x7)), (8, .int (oI x8)), (9, .int (oI x9))]) hx hb d_L4_230 hl (by decide) rfl (fun ls hl => ?_)
  refine lv_iinc (v := oI (x9 + 1)) (lv' := [(9, .int (oI (x9 + 1))), (10, .ref (ad r121)), (0, .ref (ad 1)), (1, .ref (ad q1)), (2, .ref (ad q2)), (3, .ref (ad q3)), (4, .ref (ad q4)), (5, .int (oI x5)), (6, .ref (ad q6)), (7, .int (oI x7)), (8, .int (oI x8))]) hx hb d_L4_232 hl (k := 10) rfl (oI_add x9 1) (by decide) rfl (fun ls hl => ?_)
  refine lv_goto (tgt := 109) hx hb d_L4_235 (by decide) ?_
  obtain ⟨rfl, rfl, rfl, rfl, rfl, rfl⟩ := in6 h
  exact W.wide (by omega) (by omega) (k0 ad hag0 hE0 rfl H locs ls hP hD hS (lv_sub hl [2, 3, 4, 5, 6, 7, 8, 9, 10, 0] rfl))
set_option maxRecDepth 100000 in
set_option maxHeartbeats 4000000 in
theorem b_La_ballots_j202 (l : Launch) (z : Zz) (E0 : Ev) (ad0 : Nat → Nat) (ad : Nat → Nat) (E : Ev) (M : Mm) (q1 : Nat) (q2 : Nat) (q3 : Nat) (q4 : Nat) (x5 : Int) (q6 : Nat) (x7 : Int) (x8 : Int) (x9 : Int) (y0 : Int) (y1 : Nat) (t : Nat) (w7 : Int) (w8 : Int) (w9 : Int) (F : Ev) (N : Mm) {Q : State → Prop} {p : Program} {e : Env} {s : State} {m : MethodId} {below : List Frame} {meth : Method} {c : Code} {A : Nat → Prop} {args : Array Value} (hx : p.tables.exec = Jvm.exec) (hb : c.code = method_4_code) (hml : c.maxLocals = 14) (hts : ∀ w ∈ WG, w.before args s = true) (hown : s.vm.findClass "BallothallLaw" = some m.cls) (hlocks : meth.locks = false) (hA : ∀ q, s.heap.size ≤ q → A q) (hG : KG z s) (hZ : FZ z A s) (mc ms c0 s0 c1 s1 : Nat) (hc : c0 + 0 ≤ c1) (hs : s0 + 0 ≤ s1) (hm : c1 ≤ mc) (hm2 : s1 ≤ ms) (hag0 : ∀ i, i < nE E0 → ad i = ad0 i) (hE0 : nE E0 ≤ nE E) (h : La_ballots_j202 E M q1 q2 q3 q4 x5 q6 x7 x8 x9 y0 y1 = some (t, w7, w8, w9, F, N)) (k0 : ∀ (ad1 : Nat → Nat), (∀ i, i < nE E0 → ad1 i = ad0 i) → nE E0 ≤ nE F → t = 0 → ∀ (H : Heap) (locs : List Loc) (ls : Array Slot), va_P z.1 classes (wv z ad1 F N) H → va_D A (wv z ad1 F N) → va_S A s.heap H locs → lv_has ls 14 [(0, .ref (ad1 1)), (1, .ref (ad1 q1)), (2, .ref (ad1 q2)), (3, .ref (ad1 q3)), (4, .ref (ad1 q4)), (5, .int (oI x5)), (6, .ref (ad1 q6)), (7, .int (oI w7)), (8, .int (oI w8)), (9, .int (oI w9))] → W p l e (rmK 6 171 mc ms) s m args below meth c H locs c1 s1 Q (F0 m 109 ls [])) (k1 : ∀ (ad1 : Nat → Nat), (∀ i, i < nE E0 → ad1 i = ad0 i) → nE E0 ≤ nE F → t = 1 → ∀ (H : Heap) (locs : List Loc) (ls : Array Slot), va_P z.1 classes (wv z ad1 F N) H → va_D A (wv z ad1 F N) → va_S A s.heap H locs → lv_has ls 14 [(0, .ref (ad1 1)), (1, .ref (ad1 q1)), (2, .ref (ad1 q2)), (3, .ref (ad1 q3)), (5, .int (oI x5)), (6, .ref (ad1 q6)), (7, .int (oI w7))] → W p l e (rmK 6 171 mc ms) s m args below meth c H locs c1 s1 Q (F0 m 238 ls [])) : ∀ (H : Heap) (locs : List Loc) (ls : Array Slot), va_P z.1 classes (wv z ad E M) H → va_D A (wv z ad E M) → va_S A s.heap H locs → lv_has ls 14 [(0, .ref (ad 1)), (1, .ref (ad q1)), (2, .ref (ad q2)), (3, .ref (ad q3)), (4, .ref (ad q4)), (5, .int (oI x5)), (6, .ref (ad q6)), (7, .int (oI x7)), (8, .int (oI x8)), (9, .int (oI x9))] → W p l e (rmK 6 171 mc ms) s m args below meth c H locs c0 s0 Q (F0 m 202 ls [.int (oI y0), .ref (ad y1)]) := by
  intro H locs ls hP hD hS hl
  unfold La_ballots_j202 at h
  obtain ⟨hL, h⟩ := ck_e h
  obtain ⟨h_q1, h⟩ := ck_e h
  obtain ⟨h_q2, h⟩ := ck_e h
  obtain ⟨h_q3, h⟩ := ck_e h
  obtain ⟨h_q4, h⟩ := ck_e h
  obtain ⟨h_q6, h⟩ := ck_e h
  obtain ⟨h_y1, h⟩ := ck_e h
  obtain ⟨⟨r128, M128⟩, g128, h⟩ := bd_e h
  refine kV (As := [.int (oI y0)]) (rest := []) (s_Sb_appendC l z ad E M y1 y0 r128 M128 hL g128) hx hb hml hown hts w_836 w_833 w_834 w_835 w_19 md_515737 ⟨Nat.le_of_ble_eq_true rfl, Nat.le_of_ble_eq_true rfl⟩ hG hZ hP hD hS hA y1 (wv_o (ci := 14) h_y1.1 h_y1.2) rfl rfl rfl hl.1 rfl (Nat.le_of_ble_eq_true rfl) d_L4_202 ⟨(show _ ≤ mc by omega), (show _ ≤ ms by omega)⟩ (fun _ H locs hP hD hS => ?_)
  have hP : va_P z.1 classes (wv z ad E M128) H := hP
  have hD : va_D A (wv z ad E M128) := hD
  obtain ⟨h_r128, h⟩ := ck_e h
  refine W.eq (g2 := F0 m 205 ls [.ref (ad r128)]) rfl ?_
  refine lv_astore (lv' := [(12, .ref (ad r128)), (0, .ref (ad 1)), (1, .ref (ad q1)), (2, .ref (ad q2)), (3, .ref (ad q3)), (4, .ref (ad q4)), (5, .int (oI x5)), (6, .ref (ad q6)), (7, .int (oI x7)), (8, .int (oI x8)), (9, .int (oI x9))]) hx hb d_L4_205 hl (by decide) rfl (fun ls hl => ?_)
  exact b_La_ballots_j207 l z E0 ad0 ad E M128 q1 q2 q3 q4 x5 q6 x7 x8 x9 t w7 w8 w9 F N hx hb hml hts hown hlocks hA hG hZ mc ms _ _ c1 s1 (by omega) (by omega) hm hm2 hag0 hE0 h k0 k1 H locs ls hP hD hS (lv_sub hl [1, 2, 3, 4, 5, 6, 7, 8, 9, 10] rfl)
set_option maxRecDepth 100000 in
set_option maxHeartbeats 4000000 in
theorem b_La_ballots_j176 (l : Launch) (z : Zz) (E0 : Ev) (ad0 : Nat → Nat) (ad : Nat → Nat) (E : Ev) (M : Mm) (q1 : Nat) (q2 : Nat) (q3 : Nat) (q4 : Nat) (x5 : Int) (q6 : Nat) (x7 : Int) (x9 : Int) (x10 : Int) (x11 : Int) (y0 : Int) (t : Nat) (w7 : Int) (w8 : Int) (w9 : Int) (F : Ev) (N : Mm) {Q : State → Prop} {p : Program} {e : Env} {s : State} {m : MethodId} {below : List Frame} {meth : Method} {c : Code} {A : Nat → Prop} {args : Array Value} (hx : p.tables.exec = Jvm.exec) (hb : c.code = method_4_code) (hml : c.maxLocals = 14) (hts : ∀ w ∈ WG, w.before args s = true) (hown : s.vm.findClass "BallothallLaw" = some m.cls) (hlocks : meth.locks = false) (hA : ∀ q, s.heap.size ≤ q → A q) (hG : KG z s) (hZ : FZ z A s) (mc ms c0 s0 c1 s1 : Nat) (hc : c0 + 0 ≤ c1) (hs : s0 + 0 ≤ s1) (hm : c1 ≤ mc) (hm2 : s1 ≤ ms) (hag0 : ∀ i, i < nE E0 → ad i = ad0 i) (hE0 : nE E0 ≤ nE E) (h : La_ballots_j176 E M q1 q2 q3 q4 x5 q6 x7 x9 x10 x11 y0 = some (t, w7, w8, w9, F, N)) (k0 : ∀ (ad1 : Nat → Nat), (∀ i, i < nE E0 → ad1 i = ad0 i) → nE E0 ≤ nE F → t = 0 → ∀ (H : Heap) (locs : List Loc) (ls : Array Slot), va_P z.1 classes (wv z ad1 F N) H → va_D A (wv z ad1 F N) → va_S A s.heap H locs → lv_has ls 14 [(0, .ref (ad1 1)), (1, .ref (ad1 q1)), (2, .ref (ad1 q2)), (3, .ref (ad1 q3)), (4, .ref (ad1 q4)), (5, .int (oI x5)), (6, .ref (ad1 q6)), (7, .int (oI w7)), (8, .int (oI w8)), (9, .int (oI w9))] → W p l e (rmK 6 171 mc ms) s m args below meth c H locs c1 s1 Q (F0 m 109 ls [])) (k1 : ∀ (ad1 : Nat → Nat), (∀ i, i < nE E0 → ad1 i = ad0 i) → nE E0 ≤ nE F → t = 1 → ∀ (H : Heap) (locs : List Loc) (ls : Array Slot), va_P z.1 classes (wv z ad1 F N) H → va_D A (wv z ad1 F N) → va_S A s.heap H locs → lv_has ls 14 [(0, .ref (ad1 1)), (1, .ref (ad1 q1)), (2, .ref (ad1 q2)), (3, .ref (ad1 q3)), (5, .int (oI x5)), (6, .ref (ad1 q6)), (7, .int (oI w7))] → W p l e (rmK 6 171 mc ms) s m args below meth c H locs c1 s1 Q (F0 m 238 ls [])) : ∀ (H : Heap) (locs : List Loc) (ls : Array Slot), va_P z.1 classes (wv z ad E M) H → va_D A (wv z ad E M) → va_S A s.heap H locs → lv_has ls 14 [(0, .ref (ad 1)), (1, .ref (ad q1)), (2, .ref (ad q2)), (3, .ref (ad q3)), (4, .ref (ad q4)), (5, .int (oI x5)), (6, .ref (ad q6)), (7, .int (oI x7)), (9, .int (oI x9)), (10, .int (oI x10)), (11, .int (oI x11))] → W p l e (rmK 6 171 mc ms) s m args below meth c H locs c0 s0 Q (F0 m 176 ls [.int (oI y0)]) := by
  intro H locs ls hP hD hS hl
  unfold La_ballots_j176 at h
  obtain ⟨hL, h⟩ := ck_e h
  obtain ⟨h_q1, h⟩ := ck_e h
  obtain ⟨h_q2, h⟩ := ck_e h
  obtain ⟨h_q3, h⟩ := ck_e h
  obtain ⟨h_q4, h⟩ := ck_e h
  obtain ⟨h_q6, h⟩ := ck_e h
  refine lv_istore (lv' := [(8, .int (oI y0)), (0, .ref (ad 1)), (1, .ref (ad q1)), (2, .ref (ad q2)), (3, .ref (ad q3)), (4, .ref (ad q4)), (5, .int (oI x5)), (6, .ref (ad q6)), (7, .int (oI x7)), (9, .int (oI x9)), (10, .int (oI x10)), (11, .int (oI x11))]) hx hb d_L4_176 hl (by decide) rfl (fun ls hl => ?_)
  refine lv_aload hx hb d_L4_178 (lv_at hl 7 rfl) ?_
  refine lv_iload hx hb d_L4_180 (lv_at hl 10 rfl) ?_
  obtain ⟨ok126, h⟩ := ck_e h
  refine lv_if_ne (tgt := 190) hx hb d_L4_182 (by decide) (fun c9 => ?_) (fun c9 => ?_)
  · have h := ite_f (fun q => c9 ((oI_eq0 ok126).mpr q)) h
    refine lv_iload hx hb d_L4_190 (lv_at hl 11 rfl) ?_
    obtain ⟨ok127, h⟩ := ck_e h
    refine lv_if_eq (tgt := 200) hx hb d_L4_192 (by decide) (fun c9 => ?_) (fun c9 => ?_)
    · have h := ite_t ((oI_eq0 ok127).mp c9) h
      refine lv_bipush (v := oI 62) hx hb d_L4_200 (by decide +kernel) ?_
      exact b_La_ballots_j202 l z E0 ad0 ad E M q1 q2 q3 q4 x5 q6 x7 y0 x9 62 q6 t w7 w8 w9 F N hx hb hml hts hown hlocks hA hG hZ mc ms _ _ c1 s1 (by omega) (by omega) hm hm2 hag0 hE0 h k0 k1 H locs ls hP hD hS (lv_sub hl [1, 2, 3, 4, 5, 6, 7, 8, 0, 9] rfl)
    · have h := ite_f (fun q => c9 ((oI_eq0 ok127).mpr q)) h
      refine lv_bipush (v := oI 124) hx hb d_L4_195 (by decide +kernel) ?_
      refine lv_goto (tgt := 202) hx hb d_L4_197 (by decide) ?_
      exact b_La_ballots_j202 l z E0 ad0 ad E M q1 q2 q3 q4 x5 q6 x7 y0 x9 124 q6 t w7 w8 w9 F N hx hb hml hts hown hlocks hA hG hZ mc ms _ _ c1 s1 (by omega) (by omega) hm hm2 hag0 hE0 h k0 k1 H locs ls hP hD hS (lv_sub hl [1, 2, 3, 4, 5, 6, 7, 8, 0, 9] rfl)
  · have h := ite_t ((oI_eq0 ok126).mp c9) h
    refine lv_bipush (v := oI 61) hx hb d_L4_185 (by decide +kernel) ?_
    refine lv_goto (tgt := 202) hx hb d_L4_187 (by decide) ?_
    exact b_La_ballots_j202 l z E0 ad0 ad E M q1 q2 q3 q4 x5 q6 x7 y0 x9 61 q6 t w7 w8 w9 F N hx hb hml hts hown hlocks hA hG hZ mc ms _ _ c1 s1 (by omega) (by omega) hm hm2 hag0 hE0 h k0 k1 H locs ls hP hD hS (lv_sub hl [1, 2, 3, 4, 5, 6, 7, 8, 0, 9] rfl)
set_option maxRecDepth 100000 in
set_option maxHeartbeats 4000000 in
theorem b_La_ballots_j159 (l : Launch) (z : Zz) (E0 : Ev) (ad0 : Nat → Nat) (ad : Nat → Nat) (E : Ev) (M : Mm) (q1 : Nat) (q2 : Nat) (q3 : Nat) (q4 : Nat) (x5 : Int) (q6 : Nat) (x7 : Int) (x8 : Int) (x9 : Int) (x10 : Int) (y0 : Int) (t : Nat) (w7 : Int) (w8 : Int) (w9 : Int) (F : Ev) (N : Mm) {Q : State → Prop} {p : Program} {e : Env} {s : State} {m : MethodId} {below : List Frame} {meth : Method} {c : Code} {A : Nat → Prop} {args : Array Value} (hx : p.tables.exec = Jvm.exec) (hb : c.code = method_4_code) (hml : c.maxLocals = 14) (hts : ∀ w ∈ WG, w.before args s = true) (hown : s.vm.findClass "BallothallLaw" = some m.cls) (hlocks : meth.locks = false) (hA : ∀ q, s.heap.size ≤ q → A q) (hG : KG z s) (hZ : FZ z A s) (mc ms c0 s0 c1 s1 : Nat) (hc : c0 + 0 ≤ c1) (hs : s0 + 0 ≤ s1) (hm : c1 ≤ mc) (hm2 : s1 ≤ ms) (hag0 : ∀ i, i < nE E0 → ad i = ad0 i) (hE0 : nE E0 ≤ nE E) (h : La_ballots_j159 E M q1 q2 q3 q4 x5 q6 x7 x8 x9 x10 y0 = some (t, w7, w8, w9, F, N)) (k0 : ∀ (ad1 : Nat → Nat), (∀ i, i < nE E0 → ad1 i = ad0 i) → nE E0 ≤ nE F → t = 0 → ∀ (H : Heap) (locs : List Loc) (ls : Array Slot), va_P z.1 classes (wv z ad1 F N) H → va_D A (wv z ad1 F N) → va_S A s.heap H locs → lv_has ls 14 [(0, .ref (ad1 1)), (1, .ref (ad1 q1)), (2, .ref (ad1 q2)), (3, .ref (ad1 q3)), (4, .ref (ad1 q4)), (5, .int (oI x5)), (6, .ref (ad1 q6)), (7, .int (oI w7)), (8, .int (oI w8)), (9, .int (oI w9))] → W p l e (rmK 6 171 mc ms) s m args below meth c H locs c1 s1 Q (F0 m 109 ls [])) (k1 : ∀ (ad1 : Nat → Nat), (∀ i, i < nE E0 → ad1 i = ad0 i) → nE E0 ≤ nE F → t = 1 → ∀ (H : Heap) (locs : List Loc) (ls : Array Slot), va_P z.1 classes (wv z ad1 F N) H → va_D A (wv z ad1 F N) → va_S A s.heap H locs → lv_has ls 14 [(0, .ref (ad1 1)), (1, .ref (ad1 q1)), (2, .ref (ad1 q2)), (3, .ref (ad1 q3)), (5, .int (oI x5)), (6, .ref (ad1 q6)), (7, .int (oI w7))] → W p l e (rmK 6 171 mc ms) s m args below meth c H locs c1 s1 Q (F0 m 238 ls [])) : ∀ (H : Heap) (locs : List Loc) (ls : Array Slot), va_P z.1 classes (wv z ad E M) H → va_D A (wv z ad E M) → va_S A s.heap H locs → lv_has ls 14 [(0, .ref (ad 1)), (1, .ref (ad q1)), (2, .ref (ad q2)), (3, .ref (ad q3)), (4, .ref (ad q4)), (5, .int (oI x5)), (6, .ref (ad q6)), (7, .int (oI x7)), (8, .int (oI x8)), (9, .int (oI x9)), (10, .int (oI x10))] → W p l e (rmK 6 171 mc ms) s m args below meth c H locs c0 s0 Q (F0 m 159 ls [.int (oI y0)]) := by
  intro H locs ls hP hD hS hl
  unfold La_ballots_j159 at h
  obtain ⟨hL, h⟩ := ck_e h
  obtain ⟨h_q1, h⟩ := ck_e h
  obtain ⟨h_q2, h⟩ := ck_e h
  obtain ⟨h_q3, h⟩ := ck_e h
  obtain ⟨h_q4, h⟩ := ck_e h
  obtain ⟨h_q6, h⟩ := ck_e h
  refine lv_istore (lv' := [(11, .int (oI y0)), (0, .ref (ad 1)), (1, .ref (ad q1)), (2, .ref (ad q2)), (3, .ref (ad q3)), (4, .ref (ad q4)), (5, .int (oI x5)), (6, .ref (ad q6)), (7, .int (oI x7)), (8, .int (oI x8)), (9, .int (oI x9)), (10, .int (oI x10))]) hx hb d_L4_159 hl (by decide) rfl (fun ls hl => ?_)
  refine lv_iload hx hb d_L4_161 (lv_at hl 9 rfl) ?_
  obtain ⟨ok125, h⟩ := ck_e h
  refine lv_if_ne (tgt := 171) hx hb d_L4_163 (by decide) (fun c9 => ?_) (fun c9 => ?_)
  · have h := ite_f (fun q => c9 ((oI_eq0 ok125).mpr q)) h
    refine lv_iconst (v := oI 1) hx hb d_L4_171 (by decide +kernel) ?_
    refine lv_goto (tgt := 176) hx hb d_L4_172 (by decide) ?_
    exact b_La_ballots_j176 l z E0 ad0 ad E M q1 q2 q3 q4 x5 q6 x7 x9 x10 y0 1 t w7 w8 w9 F N hx hb hml hts hown hlocks hA hG hZ mc ms _ _ c1 s1 (by omega) (by omega) hm hm2 hag0 hE0 h k0 k1 H locs ls hP hD hS (lv_sub hl [1, 2, 3, 4, 5, 6, 7, 8, 10, 11, 0] rfl)
  · have h := ite_t ((oI_eq0 ok125).mp c9) h
    refine lv_iload hx hb d_L4_166 (lv_at hl 0 rfl) ?_
    obtain ⟨ok129, h⟩ := ck_e h
    refine lv_if_eq (tgt := 175) hx hb d_L4_168 (by decide) (fun c9 => ?_) (fun c9 => ?_)
    · have h := ite_t ((oI_eq0 ok129).mp c9) h
      refine lv_iconst (v := oI 0) hx hb d_L4_175 (by decide +kernel) ?_
      exact b_La_ballots_j176 l z E0 ad0 ad E M q1 q2 q3 q4 x5 q6 x7 x9 x10 y0 0 t w7 w8 w9 F N hx hb hml hts hown hlocks hA hG hZ mc ms _ _ c1 s1 (by omega) (by omega) hm hm2 hag0 hE0 h k0 k1 H locs ls hP hD hS (lv_sub hl [1, 2, 3, 4, 5, 6, 7, 8, 10, 11, 0] rfl)
    · have h := ite_f (fun q => c9 ((oI_eq0 ok129).mpr q)) h
      refine lv_iconst (v := oI 1) hx hb d_L4_171 (by decide +kernel) ?_
      refine lv_goto (tgt := 176) hx hb d_L4_172 (by decide) ?_
      exact b_La_ballots_j176 l z E0 ad0 ad E M q1 q2 q3 q4 x5 q6 x7 x9 x10 y0 1 t w7 w8 w9 F N hx hb hml hts hown hlocks hA hG hZ mc ms _ _ c1 s1 (by omega) (by omega) hm hm2 hag0 hE0 h k0 k1 H locs ls hP hD hS (lv_sub hl [1, 2, 3, 4, 5, 6, 7, 8, 10, 11, 0] rfl)
set_option maxRecDepth 100000 in
set_option maxHeartbeats 4000000 in
theorem b_La_ballots_j140 (l : Launch) (z : Zz) (E0 : Ev) (ad0 : Nat → Nat) (ad : Nat → Nat) (E : Ev) (M : Mm) (q1 : Nat) (q2 : Nat) (q3 : Nat) (q4 : Nat) (x5 : Int) (q6 : Nat) (x8 : Int) (x9 : Int) (x10 : Int) (y0 : Int) (y1 : Int) (t : Nat) (w7 : Int) (w8 : Int) (w9 : Int) (F : Ev) (N : Mm) {Q : State → Prop} {p : Program} {e : Env} {s : State} {m : MethodId} {below : List Frame} {meth : Method} {c : Code} {A : Nat → Prop} {args : Array Value} (hx : p.tables.exec = Jvm.exec) (hb : c.code = method_4_code) (hml : c.maxLocals = 14) (hts : ∀ w ∈ WG, w.before args s = true) (hown : s.vm.findClass "BallothallLaw" = some m.cls) (hlocks : meth.locks = false) (hA : ∀ q, s.heap.size ≤ q → A q) (hG : KG z s) (hZ : FZ z A s) (mc ms c0 s0 c1 s1 : Nat) (hc : c0 + 0 ≤ c1) (hs : s0 + 0 ≤ s1) (hm : c1 ≤ mc) (hm2 : s1 ≤ ms) (hag0 : ∀ i, i < nE E0 → ad i = ad0 i) (hE0 : nE E0 ≤ nE E) (h : La_ballots_j140 E M q1 q2 q3 q4 x5 q6 x8 x9 x10 y0 y1 = some (t, w7, w8, w9, F, N)) (k0 : ∀ (ad1 : Nat → Nat), (∀ i, i < nE E0 → ad1 i = ad0 i) → nE E0 ≤ nE F → t = 0 → ∀ (H : Heap) (locs : List Loc) (ls : Array Slot), va_P z.1 classes (wv z ad1 F N) H → va_D A (wv z ad1 F N) → va_S A s.heap H locs → lv_has ls 14 [(0, .ref (ad1 1)), (1, .ref (ad1 q1)), (2, .ref (ad1 q2)), (3, .ref (ad1 q3)), (4, .ref (ad1 q4)), (5, .int (oI x5)), (6, .ref (ad1 q6)), (7, .int (oI w7)), (8, .int (oI w8)), (9, .int (oI w9))] → W p l e (rmK 6 171 mc ms) s m args below meth c H locs c1 s1 Q (F0 m 109 ls [])) (k1 : ∀ (ad1 : Nat → Nat), (∀ i, i < nE E0 → ad1 i = ad0 i) → nE E0 ≤ nE F → t = 1 → ∀ (H : Heap) (locs : List Loc) (ls : Array Slot), va_P z.1 classes (wv z ad1 F N) H → va_D A (wv z ad1 F N) → va_S A s.heap H locs → lv_has ls 14 [(0, .ref (ad1 1)), (1, .ref (ad1 q1)), (2, .ref (ad1 q2)), (3, .ref (ad1 q3)), (5, .int (oI x5)), (6, .ref (ad1 q6)), (7, .int (oI w7))] → W p l e (rmK 6 171 mc ms) s m args below meth c H locs c1 s1 Q (F0 m 238 ls [])) : ∀ (H : Heap) (locs : List Loc) (ls : Array Slot), va_P z.1 classes (wv z ad E M) H → va_D A (wv z ad E M) → va_S A s.heap H locs → lv_has ls 14 [(0, .ref (ad 1)), (1, .ref (ad q1)), (2, .ref (ad q2)), (3, .ref (ad q3)), (4, .ref (ad q4)), (5, .int (oI x5)), (6, .ref (ad q6)), (8, .int (oI x8)), (9, .int (oI x9)), (10, .int (oI x10))] → W p l e (rmK 6 171 mc ms) s m args below meth c H locs c0 s0 Q (F0 m 140 ls [.int (oI y0), .int (oI y1)]) := by
  intro H locs ls hP hD hS hl
  unfold La_ballots_j140 at h
  obtain ⟨hL, h⟩ := ck_e h
  obtain ⟨h_q1, h⟩ := ck_e h
  obtain ⟨h_q2, h⟩ := ck_e h
  obtain ⟨h_q3, h⟩ := ck_e h
  obtain ⟨h_q4, h⟩ := ck_e h
  obtain ⟨h_q6, h⟩ := ck_e h
  refine lv_iadd hx hb d_L4_140 ?_
  refine nrm (oI_add _ _) ?_
  refine lv_istore (lv' := [(7, .int (oI (y1 + y0))), (0, .ref (ad 1)), (1, .ref (ad q1)), (2, .ref (ad q2)), (3, .ref (ad q3)), (4, .ref (ad q4)), (5, .int (oI x5)), (6, .ref (ad q6)), (8, .int (oI x8)), (9, .int (oI x9)), (10, .int (oI x10))]) hx hb d_L4_141 hl (by decide) rfl (fun ls hl => ?_)
  refine lv_iload hx hb d_L4_143 (lv_at hl 10 rfl) ?_
  refine lv_iconst (v := oI 1) hx hb d_L4_145 (by decide +kernel) ?_
  obtain ⟨ok124, h⟩ := ck_e h
  refine lv_icmp_ne (tgt := 158) hx hb d_L4_146 (by decide) (fun c9 => ?_) (fun c9 => ?_)
  · have h := ite_f (fun q => c9 ((oI_eq (a := x10) (b := (1 : Int)) ok124 (by decide)).mpr q)) h
    refine lv_iconst (v := oI 0) hx hb d_L4_158 (by decide +kernel) ?_
    exact b_La_ballots_j159 l z E0 ad0 ad E M q1 q2 q3 q4 x5 q6 (y1 + y0) x8 x9 x10 0 t w7 w8 w9 F N hx hb hml hts hown hlocks hA hG hZ mc ms _ _ c1 s1 (by omega) (by omega) hm hm2 hag0 hE0 h k0 k1 H locs ls hP hD hS (lv_sub hl [1, 2, 3, 4, 5, 6, 7, 0, 8, 9, 10] rfl)
  · have h := ite_t ((oI_eq (a := x10) (b := (1 : Int)) ok124 (by decide)).mp c9) h
    refine lv_iload hx hb d_L4_149 (lv_at hl 8 rfl) ?_
    obtain ⟨ok130, h⟩ := ck_e h
    refine lv_if_ne (tgt := 158) hx hb d_L4_151 (by decide) (fun c9 => ?_) (fun c9 => ?_)
    · have h := ite_f (fun q => c9 ((oI_eq0 ok130).mpr q)) h
      refine lv_iconst (v := oI 0) hx hb d_L4_158 (by decide +kernel) ?_
      exact b_La_ballots_j159 l z E0 ad0 ad E M q1 q2 q3 q4 x5 q6 (y1 + y0) x8 x9 x10 0 t w7 w8 w9 F N hx hb hml hts hown hlocks hA hG hZ mc ms _ _ c1 s1 (by omega) (by omega) hm hm2 hag0 hE0 h k0 k1 H locs ls hP hD hS (lv_sub hl [1, 2, 3, 4, 5, 6, 7, 0, 8, 9, 10] rfl)
    · have h := ite_t ((oI_eq0 ok130).mp c9) h
      refine lv_iconst (v := oI 1) hx hb d_L4_154 (by decide +kernel) ?_
      refine lv_goto (tgt := 159) hx hb d_L4_155 (by decide) ?_
      exact b_La_ballots_j159 l z E0 ad0 ad E M q1 q2 q3 q4 x5 q6 (y1 + y0) x8 x9 x10 1 t w7 w8 w9 F N hx hb hml hts hown hlocks hA hG hZ mc ms _ _ c1 s1 (by omega) (by omega) hm hm2 hag0 hE0 h k0 k1 H locs ls hP hD hS (lv_sub hl [1, 2, 3, 4, 5, 6, 7, 0, 8, 9, 10] rfl)
set_option maxRecDepth 100000 in
set_option maxHeartbeats 4000000 in
theorem b_La_ballots_109b (l : Launch) (z : Zz) (E0 : Ev) (ad0 : Nat → Nat) (ad : Nat → Nat) (E : Ev) (M : Mm) (q1 : Nat) (q2 : Nat) (q3 : Nat) (q4 : Nat) (x5 : Int) (q6 : Nat) (x7 : Int) (x8 : Int) (x9 : Int) (t : Nat) (w7 : Int) (w8 : Int) (w9 : Int) (F : Ev) (N : Mm) {Q : State → Prop} {p : Program} {e : Env} {s : State} {m : MethodId} {below : List Frame} {meth : Method} {c : Code} {A : Nat → Prop} {args : Array Value} (hx : p.tables.exec = Jvm.exec) (hb : c.code = method_4_code) (hml : c.maxLocals = 14) (hts : ∀ w ∈ WG, w.before args s = true) (hown : s.vm.findClass "BallothallLaw" = some m.cls) (hlocks : meth.locks = false) (hA : ∀ q, s.heap.size ≤ q → A q) (hG : KG z s) (hZ : FZ z A s) (mc ms c0 s0 c1 s1 : Nat) (hc : c0 + 0 ≤ c1) (hs : s0 + 0 ≤ s1) (hm : c1 ≤ mc) (hm2 : s1 ≤ ms) (hag0 : ∀ i, i < nE E0 → ad i = ad0 i) (hE0 : nE E0 ≤ nE E) (h : La_ballots_109b E M q1 q2 q3 q4 x5 q6 x7 x8 x9 = some (t, w7, w8, w9, F, N)) (k0 : ∀ (ad1 : Nat → Nat), (∀ i, i < nE E0 → ad1 i = ad0 i) → nE E0 ≤ nE F → t = 0 → ∀ (H : Heap) (locs : List Loc) (ls : Array Slot), va_P z.1 classes (wv z ad1 F N) H → va_D A (wv z ad1 F N) → va_S A s.heap H locs → lv_has ls 14 [(0, .ref (ad1 1)), (1, .ref (ad1 q1)), (2, .ref (ad1 q2)), (3, .ref (ad1 q3)), (4, .ref (ad1 q4)), (5, .int (oI x5)), (6, .ref (ad1 q6)), (7, .int (oI w7)), (8, .int (oI w8)), (9, .int (oI w9))] → W p l e (rmK 6 171 mc ms) s m args below meth c H locs c1 s1 Q (F0 m 109 ls [])) (k1 : ∀ (ad1 : Nat → Nat), (∀ i, i < nE E0 → ad1 i = ad0 i) → nE E0 ≤ nE F → t = 1 → ∀ (H : Heap) (locs : List Loc) (ls : Array Slot), va_P z.1 classes (wv z ad1 F N) H → va_D A (wv z ad1 F N) → va_S A s.heap H locs → lv_has ls 14 [(0, .ref (ad1 1)), (1, .ref (ad1 q1)), (2, .ref (ad1 q2)), (3, .ref (ad1 q3)), (5, .int (oI x5)), (6, .ref (ad1 q6)), (7, .int (oI w7))] → W p l e (rmK 6 171 mc ms) s m args below meth c H locs c1 s1 Q (F0 m 238 ls [])) : ∀ (H : Heap) (locs : List Loc) (ls : Array Slot), va_P z.1 classes (wv z ad E M) H → va_D A (wv z ad E M) → va_S A s.heap H locs → lv_has ls 14 [(0, .ref (ad 1)), (1, .ref (ad q1)), (2, .ref (ad q2)), (3, .ref (ad q3)), (4, .ref (ad q4)), (5, .int (oI x5)), (6, .ref (ad q6)), (7, .int (oI x7)), (8, .int (oI x8)), (9, .int (oI x9))] → W p l e (rmK 6 171 mc ms) s m args below meth c H locs c0 s0 Q (F0 m 109 ls []) := by
  intro H locs ls hP hD hS hl
  unfold La_ballots_109b at h
  obtain ⟨hL, h⟩ := ck_e h
  obtain ⟨h_q1, h⟩ := ck_e h
  obtain ⟨h_q2, h⟩ := ck_e h
  obtain ⟨h_q3, h⟩ := ck_e h
  obtain ⟨h_q4, h⟩ := ck_e h
  obtain ⟨h_q6, h⟩ := ck_e h
  refine lv_iload hx hb d_L4_109 (lv_at hl 9 rfl) ?_
  refine lv_iload hx hb d_L4_111 (lv_at hl 5 rfl) ?_
  obtain ⟨ok116, h⟩ := ck_e h
  obtain ⟨ok117, h⟩ := ck_e h
  refine lv_icmp_ge (tgt := 238) hx hb d_L4_113 (by decide) (fun c9 => ?_) (fun c9 => ?_)
  · have h := ite_t ((oI_le (a := x5) (b := x9) ok117 ok116).mp c9) h
    obtain ⟨rfl, rfl, rfl, rfl, rfl, rfl⟩ := in6 h
    exact W.wide (by omega) (by omega) (k1 ad hag0 hE0 rfl H locs ls hP hD hS (lv_sub hl [0, 1, 2, 3, 5, 6, 7] rfl))
  · have h := ite_f (fun q => c9 ((oI_le (a := x5) (b := x9) ok117 ok116).mpr q)) h
    refine lv_iload hx hb d_L4_116 (lv_at hl 9 rfl) ?_
    refine lv_if_le (tgt := 207) hx hb d_L4_118 (by decide) (fun c9 => ?_) (fun c9 => ?_)
    · have h := ite_t ((oI_le0 ok116).mp c9) h
      exact b_La_ballots_j207 l z E0 ad0 ad E M q1 q2 q3 q4 x5 q6 x7 x8 x9 t w7 w8 w9 F N hx hb hml hts hown hlocks hA hG hZ mc ms _ _ c1 s1 (by omega) (by omega) hm hm2 hag0 hE0 h k0 k1 H locs ls hP hD hS (lv_sub hl [0, 1, 2, 3, 4, 5, 6, 7, 8, 9] rfl)
    · have h := ite_f (fun q => c9 ((oI_le0 ok116).mpr q)) h
      refine lv_aload_n hx hb d_L4_121 rfl (lv_at hl 2 rfl) ?_
      refine lv_iconst (v := oI 4) hx hb d_L4_122 (by decide +kernel) ?_
      obtain ⟨⟨r122, M122⟩, g122, h⟩ := bd_e h
      refine kS (As := [.ref (ad q2), .int (oI 4)]) (rest := []) (s_La_next l z ad E M q2 4 r122 M122 hL g122) hx hb hml hown hts w_797 w_795 w_796 w_0 md_199d8f ⟨Nat.le_of_ble_eq_true rfl, Nat.le_of_ble_eq_true rfl⟩ hG hZ hP hD hS hA rfl hl.1 rfl (Nat.le_of_ble_eq_true rfl) d_L4_123 ⟨(show _ ≤ mc by omega), (show _ ≤ ms by omega)⟩ (fun _ H locs hP hD hS => ?_)
      have hP : va_P z.1 classes (wv z ad E M122) H := hP
      have hD : va_D A (wv z ad E M122) := hD
      refine W.eq (g2 := F0 m 126 ls [.int (oI r122)]) rfl ?_
      refine lv_istore (lv' := [(10, .int (oI r122)), (0, .ref (ad 1)), (1, .ref (ad q1)), (2, .ref (ad q2)), (3, .ref (ad q3)), (4, .ref (ad q4)), (5, .int (oI x5)), (6, .ref (ad q6)), (7, .int (oI x7)), (8, .int (oI x8)), (9, .int (oI x9))]) hx hb d_L4_126 hl (by decide) rfl (fun ls hl => ?_)
      refine lv_iload hx hb d_L4_128 (lv_at hl 8 rfl) ?_
      refine lv_iload hx hb d_L4_130 (lv_at hl 0 rfl) ?_
      obtain ⟨ok123, h⟩ := ck_e h
      refine lv_if_ne (tgt := 139) hx hb d_L4_132 (by decide) (fun c9 => ?_) (fun c9 => ?_)
      · have h := ite_f (fun q => c9 ((oI_eq0 ok123).mpr q)) h
        refine lv_iconst (v := oI 1) hx hb d_L4_139 (by decide +kernel) ?_
        exact b_La_ballots_j140 l z E0 ad0 ad E M122 q1 q2 q3 q4 x5 q6 x8 x9 r122 1 x7 t w7 w8 w9 F N hx hb hml hts hown hlocks hA hG hZ mc ms _ _ c1 s1 (by omega) (by omega) hm hm2 hag0 hE0 h k0 k1 H locs ls hP hD hS (lv_sub hl [1, 2, 3, 4, 5, 6, 7, 9, 10, 0] rfl)
      · have h := ite_t ((oI_eq0 ok123).mp c9) h
        refine lv_iconst (v := oI 0) hx hb d_L4_135 (by decide +kernel) ?_
        refine lv_goto (tgt := 140) hx hb d_L4_136 (by decide) ?_
        exact b_La_ballots_j140 l z E0 ad0 ad E M122 q1 q2 q3 q4 x5 q6 x8 x9 r122 0 x7 t w7 w8 w9 F N hx hb hml hts hown hlocks hA hG hZ mc ms _ _ c1 s1 (by omega) (by omega) hm hm2 hag0 hE0 h k0 k1 H locs ls hP hD hS (lv_sub hl [1, 2, 3, 4, 5, 6, 7, 9, 10, 0] rfl)
set_option maxRecDepth 100000 in
set_option maxHeartbeats 4000000 in
theorem s_La_ballots_109 (l : Launch) (z : Zz) (E0 : Ev) (ad0 : Nat → Nat) (q1 : Nat) (q2 : Nat) (q3 : Nat) (q4 : Nat) (x5 : Int) (q6 : Nat) {Q : State → Prop} {p : Program} {e : Env} {s : State} {m : MethodId} {below : List Frame} {meth : Method} {c : Code} {A : Nat → Prop} {args : Array Value} (hx : p.tables.exec = Jvm.exec) (hb : c.code = method_4_code) (hml : c.maxLocals = 14) (hts : ∀ w ∈ WG, w.before args s = true) (hown : s.vm.findClass "BallothallLaw" = some m.cls) (hlocks : meth.locks = false) (hA : ∀ q, s.heap.size ≤ q → A q) (hG : KG z s) (hZ : FZ z A s) (mc ms c1 s1 : Nat) (hm : c1 ≤ mc) (hm2 : s1 ≤ ms) : ∀ (fu c0 s0 : Nat) (ad : Nat → Nat) (E : Ev) (M : Mm) (x7 : Int) (x8 : Int) (x9 : Int) (t : Nat) (w7 : Int) (w8 : Int) (w9 : Int) (F : Ev) (N : Mm), c0 + fu * 0 ≤ c1 → s0 + fu * 0 ≤ s1 → (∀ i, i < nE E0 → ad i = ad0 i) → nE E0 ≤ nE E → l_La_ballots_109 q1 q2 q3 q4 x5 q6 fu E M x7 x8 x9 = some (t, w7, w8, w9, F, N) → (∀ (ad1 : Nat → Nat), (∀ i, i < nE E0 → ad1 i = ad0 i) → nE E0 ≤ nE F → t = 1 → ∀ (H : Heap) (locs : List Loc) (ls : Array Slot), va_P z.1 classes (wv z ad1 F N) H → va_D A (wv z ad1 F N) → va_S A s.heap H locs → lv_has ls 14 [(0, .ref (ad1 1)), (1, .ref (ad1 q1)), (2, .ref (ad1 q2)), (3, .ref (ad1 q3)), (5, .int (oI x5)), (6, .ref (ad1 q6)), (7, .int (oI w7))] → W p l e (rmK 6 171 mc ms) s m args below meth c H locs c1 s1 Q (F0 m 238 ls [])) → ∀ (H : Heap) (locs : List Loc) (ls : Array Slot), va_P z.1 classes (wv z ad E M) H → va_D A (wv z ad E M) → va_S A s.heap H locs → lv_has ls 14 [(0, .ref (ad 1)), (1, .ref (ad q1)), (2, .ref (ad q2)), (3, .ref (ad q3)), (4, .ref (ad q4)), (5, .int (oI x5)), (6, .ref (ad q6)), (7, .int (oI x7)), (8, .int (oI x8)), (9, .int (oI x9))] → W p l e (rmK 6 171 mc ms) s m args below meth c H locs c0 s0 Q (F0 m 109 ls []) := by
  intro fu
  induction fu with
  | zero =>
    intro c0 s0 ad E M x7 x8 x9 t w7 w8 w9 F N hc hs hag0 hE0 h
    have h : (none : Option (Nat × Int × Int × Int × Ev × Mm)) = some _ := h
    cases h
  | succ fu ih =>
    intro c0 s0 ad E M x7 x8 x9 t w7 w8 w9 F N hc hs hag0 hE0 h k1 H locs ls hP hD hS hl
    obtain ⟨⟨t0, w70, w80, w90, F9, N9⟩, g0, h⟩ := bd_e h
    refine W.wide (Nat.le_refl _) (Nat.le_refl _) (b_La_ballots_109b l z E0 ad0 ad E M q1 q2 q3 q4 x5 q6 x7 x8 x9 t0 w70 w80 w90 F9 N9 hx hb hml hts hown hlocks hA hG hZ mc ms c0 s0 (c0 + 0) (s0 + 0) (Nat.le_refl _) (Nat.le_refl _) (by omega) (by omega) hag0 hE0 g0 (fun ad1 ha he e0 => ?_) (fun ad1 ha he e0 => ?_) H locs ls hP hD hS hl)
    · subst e0
      have h := ite_t rfl h
      exact ih (c0 + 0) (s0 + 0) ad1 F9 N9 w70 w80 w90 t w7 w8 w9 F N (by omega) (by omega) ha he h k1
    · subst e0
      have h := ite_f (by decide) h
      obtain ⟨rfl, rfl, rfl, rfl, rfl, rfl⟩ := in6 h
      exact fun H locs ls hP hD hS hl => W.wide (by omega) (by omega) (k1 ad1 ha he rfl H locs ls hP hD hS hl)
set_option maxRecDepth 100000 in
set_option maxHeartbeats 4000000 in
theorem b_La_ballots_j438 (l : Launch) (z : Zz) (E0 : Ev) (ad0 : Nat → Nat) (ad : Nat → Nat) (E : Ev) (M : Mm) (q1 : Nat) (q3 : Nat) (x5 : Int) (x7 : Int) (x10 : Int) (x12 : Int) (y0 : Int) (y1 : Int) (t : Nat) (w11 : Int) (w12 : Int) (F : Ev) (N : Mm) {Q : State → Prop} {p : Program} {e : Env} {s : State} {m : MethodId} {below : List Frame} {meth : Method} {c : Code} {A : Nat → Prop} {args : Array Value} (hx : p.tables.exec = Jvm.exec) (hb : c.code = method_4_code) (hml : c.maxLocals = 14) (hts : ∀ w ∈ WG, w.before args s = true) (hown : s.vm.findClass "BallothallLaw" = some m.cls) (hlocks : meth.locks = false) (hA : ∀ q, s.heap.size ≤ q → A q) (hG : KG z s) (hZ : FZ z A s) (mc ms c0 s0 c1 s1 : Nat) (hc : c0 + 0 ≤ c1) (hs : s0 + 0 ≤ s1) (hm : c1 ≤ mc) (hm2 : s1 ≤ ms) (hag0 : ∀ i, i < nE E0 → ad i = ad0 i) (hE0 : nE E0 ≤ nE E) (h : La_ballots_j438 E M q1 q3 x5 x7 x10 x12 y0 y1 = some (t, w11, w12, F, N)) (k0 : ∀ (ad1 : Nat → Nat), (∀ i, i < nE E0 → ad1 i = ad0 i) → nE E0 ≤ nE F → t = 0 → ∀ (H : Heap) (locs : List Loc) (ls : Array Slot), va_P z.1 classes (wv z ad1 F N) H → va_D A (wv z ad1 F N) → va_S A s.heap H locs → lv_has ls 14 [(0, .ref (ad1 1)), (1, .ref (ad1 q1)), (3, .ref (ad1 q3)), (5, .int (oI x5)), (7, .int (oI x7)), (10, .int (oI x10)), (11, .int (oI w11)), (12, .int (oI w12))] → W p l e (rmK 6 171 mc ms) s m args below meth c H locs c1 s1 Q (F0 m 360 ls [])) (k1 : ∀ (ad1 : Nat → Nat), (∀ i, i < nE E0 → ad1 i = ad0 i) → nE E0 ≤ nE F → t = 1 → ∀ (H : Heap) (locs : List Loc) (ls : Array Slot), va_P z.1 classes (wv z ad1 F N) H → va_D A (wv z ad1 F N) → va_S A s.heap H locs → lv_has ls 14 [(11, .int (oI w11))] → W p l e (rmK 6 171 mc ms) s m args below meth c H locs c1 s1 Q (F0 m 454 ls [])) : ∀ (H : Heap) (locs : List Loc) (ls : Array Slot), va_P z.1 classes (wv z ad E M) H → va_D A (wv z ad E M) → va_S A s.heap H locs → lv_has ls 14 [(0, .ref (ad 1)), (1, .ref (ad q1)), (3, .ref (ad q3)), (5, .int (oI x5)), (7, .int (oI x7)), (10, .int (oI x10)), (12, .int (oI x12))] → W p l e (rmK 6 171 mc ms) s m args below meth c H locs c0 s0 Q (F0 m 438 ls [.int (oI y0), .int (oI y1)]) := by
  intro H locs ls hP hD hS hl
  unfold La_ballots_j438 at h
  obtain ⟨hL, h⟩ := ck_e h
  obtain ⟨h_q1, h⟩ := ck_e h
  obtain ⟨h_q3, h⟩ := ck_e h
  obtain ⟨ok159, h⟩ := ck_e h
  obtain ⟨ok160, h⟩ := ck_e h
  refine lv_icmp_ne (tgt := 445) hx hb d_L4_438 (by decide) (fun c9 => ?_) (fun c9 => ?_)
  · have h := ite_f (fun q => c9 ((oI_eq (a := y1) (b := y0) ok159 ok160).mpr q)) h
    refine lv_iconst (v := oI 0) hx hb d_L4_445 (by decide +kernel) ?_
    refine lv_istore (lv' := [(11, .int (oI 0)), (0, .ref (ad 1)), (1, .ref (ad q1)), (3, .ref (ad q3)), (5, .int (oI x5)), (7, .int (oI x7)), (10, .int (oI x10)), (12, .int (oI x12))]) hx hb d_L4_446 hl (by decide) rfl (fun ls hl => ?_)
    refine lv_iinc (v := oI (x12 + 1)) (lv' := [(12, .int (oI (x12 + 1))), (11, .int (oI 0)), (0, .ref (ad 1)), (1, .ref (ad q1)), (3, .ref (ad q3)), (5, .int (oI x5)), (7, .int (oI x7)), (10, .int (oI x10))]) hx hb d_L4_448 hl (k := 7) rfl (oI_add x12 1) (by decide) rfl (fun ls hl => ?_)
    refine lv_goto (tgt := 360) hx hb d_L4_451 (by decide) ?_
    obtain ⟨rfl, rfl, rfl, rfl, rfl⟩ := in5 h
    exact W.wide (by omega) (by omega) (k0 ad hag0 hE0 rfl H locs ls hP hD hS (lv_sub hl [2, 3, 4, 5, 6, 7, 1, 0] rfl))
  · have h := ite_t ((oI_eq (a := y1) (b := y0) ok159 ok160).mp c9) h
    refine lv_iconst (v := oI 1) hx hb d_L4_441 (by decide +kernel) ?_
    refine lv_goto (tgt := 446) hx hb d_L4_442 (by decide) ?_
    refine lv_istore (lv' := [(11, .int (oI 1)), (0, .ref (ad 1)), (1, .ref (ad q1)), (3, .ref (ad q3)), (5, .int (oI x5)), (7, .int (oI x7)), (10, .int (oI x10)), (12, .int (oI x12))]) hx hb d_L4_446 hl (by decide) rfl (fun ls hl => ?_)
    refine lv_iinc (v := oI (x12 + 1)) (lv' := [(12, .int (oI (x12 + 1))), (11, .int (oI 1)), (0, .ref (ad 1)), (1, .ref (ad q1)), (3, .ref (ad q3)), (5, .int (oI x5)), (7, .int (oI x7)), (10, .int (oI x10))]) hx hb d_L4_448 hl (k := 7) rfl (oI_add x12 1) (by decide) rfl (fun ls hl => ?_)
    refine lv_goto (tgt := 360) hx hb d_L4_451 (by decide) ?_
    obtain ⟨rfl, rfl, rfl, rfl, rfl⟩ := in5 h
    exact W.wide (by omega) (by omega) (k0 ad hag0 hE0 rfl H locs ls hP hD hS (lv_sub hl [2, 3, 4, 5, 6, 7, 1, 0] rfl))
set_option maxRecDepth 100000 in
set_option maxHeartbeats 4000000 in
theorem b_La_ballots_360b (l : Launch) (z : Zz) (E0 : Ev) (ad0 : Nat → Nat) (ad : Nat → Nat) (E : Ev) (M : Mm) (q1 : Nat) (q3 : Nat) (x5 : Int) (x7 : Int) (x10 : Int) (x11 : Int) (x12 : Int) (t : Nat) (w11 : Int) (w12 : Int) (F : Ev) (N : Mm) {Q : State → Prop} {p : Program} {e : Env} {s : State} {m : MethodId} {below : List Frame} {meth : Method} {c : Code} {A : Nat → Prop} {args : Array Value} (hx : p.tables.exec = Jvm.exec) (hb : c.code = method_4_code) (hml : c.maxLocals = 14) (hts : ∀ w ∈ WG, w.before args s = true) (hown : s.vm.findClass "BallothallLaw" = some m.cls) (hlocks : meth.locks = false) (hA : ∀ q, s.heap.size ≤ q → A q) (hG : KG z s) (hZ : FZ z A s) (mc ms c0 s0 c1 s1 : Nat) (hc : c0 + 0 ≤ c1) (hs : s0 + 0 ≤ s1) (hm : c1 ≤ mc) (hm2 : s1 ≤ ms) (hag0 : ∀ i, i < nE E0 → ad i = ad0 i) (hE0 : nE E0 ≤ nE E) (h : La_ballots_360b E M q1 q3 x5 x7 x10 x11 x12 = some (t, w11, w12, F, N)) (k0 : ∀ (ad1 : Nat → Nat), (∀ i, i < nE E0 → ad1 i = ad0 i) → nE E0 ≤ nE F → t = 0 → ∀ (H : Heap) (locs : List Loc) (ls : Array Slot), va_P z.1 classes (wv z ad1 F N) H → va_D A (wv z ad1 F N) → va_S A s.heap H locs → lv_has ls 14 [(0, .ref (ad1 1)), (1, .ref (ad1 q1)), (3, .ref (ad1 q3)), (5, .int (oI x5)), (7, .int (oI x7)), (10, .int (oI x10)), (11, .int (oI w11)), (12, .int (oI w12))] → W p l e (rmK 6 171 mc ms) s m args below meth c H locs c1 s1 Q (F0 m 360 ls [])) (k1 : ∀ (ad1 : Nat → Nat), (∀ i, i < nE E0 → ad1 i = ad0 i) → nE E0 ≤ nE F → t = 1 → ∀ (H : Heap) (locs : List Loc) (ls : Array Slot), va_P z.1 classes (wv z ad1 F N) H → va_D A (wv z ad1 F N) → va_S A s.heap H locs → lv_has ls 14 [(11, .int (oI w11))] → W p l e (rmK 6 171 mc ms) s m args below meth c H locs c1 s1 Q (F0 m 454 ls [])) : ∀ (H : Heap) (locs : List Loc) (ls : Array Slot), va_P z.1 classes (wv z ad E M) H → va_D A (wv z ad E M) → va_S A s.heap H locs → lv_has ls 14 [(0, .ref (ad 1)), (1, .ref (ad q1)), (3, .ref (ad q3)), (5, .int (oI x5)), (7, .int (oI x7)), (10, .int (oI x10)), (11, .int (oI x11)), (12, .int (oI x12))] → W p l e (rmK 6 171 mc ms) s m args below meth c H locs c0 s0 Q (F0 m 360 ls []) := by
  intro H locs ls hP hD hS hl
  unfold La_ballots_360b at h
  obtain ⟨hL, h⟩ := ck_e h
  obtain ⟨h_q1, h⟩ := ck_e h
  obtain ⟨h_q3, h⟩ := ck_e h
  refine lv_iload hx hb d_L4_360 (lv_at hl 7 rfl) ?_
  refine lv_aload_n hx hb d_L4_362 rfl (lv_at hl 1 rfl) ?_
  refine m_giN (C := "BallothallLaw$Box") (T := TX12) (N := 4) (ci := 12) (k := 0) hx hb hts iX12 hown hG hP h_q1.1 h_q1.2 rfl (by decide) n_775 rfl (fun _ h9 => h9) rfl rfl d_L4_363 ?_
  obtain ⟨ok147, h⟩ := ck_e h
  obtain ⟨ok148, h⟩ := ck_e h
  refine lv_icmp_ge (tgt := 454) hx hb d_L4_366 (by decide) (fun c9 => ?_) (fun c9 => ?_)
  · have h := ite_t ((oI_le (a := (M q1 0)) (b := x12) ok148 ok147).mp c9) h
    obtain ⟨rfl, rfl, rfl, rfl, rfl⟩ := in5 h
    exact W.wide (by omega) (by omega) (k1 ad hag0 hE0 rfl H locs ls hP hD hS (lv_sub hl [6] rfl))
  · have h := ite_f (fun q => c9 ((oI_le (a := (M q1 0)) (b := x12) ok148 ok147).mpr q)) h
    refine lv_aload_n hx hb d_L4_369 rfl (lv_at hl 0 rfl) ?_
    refine lv_iload hx hb d_L4_370 (lv_at hl 5 rfl) ?_
    refine lv_iload hx hb d_L4_372 (lv_at hl 7 rfl) ?_
    refine lv_iconst (v := oI 1) hx hb d_L4_374 (by decide +kernel) ?_
    obtain ⟨r149, g149, h⟩ := bd_e h
    refine kV (As := [.int (oI x10), .int (oI x12), .int (oI 1)]) (rest := []) (s_B_kindAt l z ad E M x10 x12 1 r149 hL g149) hx hb hml hown hts w_1058 w_1055 w_1056 w_1057 w_1 md_b67c3a ⟨Nat.le_of_ble_eq_true rfl, Nat.le_of_ble_eq_true rfl⟩ hG hZ hP hD hS hA 1 (wv_o (ci := 11) (yi_1 hL) (yt_1 hL)) rfl rfl rfl hl.1 rfl (Nat.le_of_ble_eq_true rfl) d_L4_375 ⟨(show _ ≤ mc by omega), (show _ ≤ ms by omega)⟩ (fun _ H locs hP hD hS => ?_)
    have hP : va_P z.1 classes (wv z ad E M) H := hP
    have hD : va_D A (wv z ad E M) := hD
    refine W.eq (g2 := F0 m 378 ls [.int (oI r149)]) rfl ?_
    refine lv_istore (lv' := [(13, .int (oI r149)), (0, .ref (ad 1)), (1, .ref (ad q1)), (3, .ref (ad q3)), (5, .int (oI x5)), (7, .int (oI x7)), (10, .int (oI x10)), (11, .int (oI x11)), (12, .int (oI x12))]) hx hb d_L4_378 hl (by decide) rfl (fun ls hl => ?_)
    refine lv_iload hx hb d_L4_380 (lv_at hl 7 rfl) ?_
    obtain ⟨ok150, h⟩ := ck_e h
    refine lv_if_eq (tgt := 445) hx hb d_L4_382 (by decide) (fun c9 => ?_) (fun c9 => ?_)
    · have h := ite_t ((oI_eq0 ok150).mp c9) h
      refine lv_iconst (v := oI 0) hx hb d_L4_445 (by decide +kernel) ?_
      refine lv_istore (lv' := [(11, .int (oI 0)), (13, .int (oI r149)), (0, .ref (ad 1)), (1, .ref (ad q1)), (3, .ref (ad q3)), (5, .int (oI x5)), (7, .int (oI x7)), (10, .int (oI x10)), (12, .int (oI x12))]) hx hb d_L4_446 hl (by decide) rfl (fun ls hl => ?_)
      refine lv_iinc (v := oI (x12 + 1)) (lv' := [(12, .int (oI (x12 + 1))), (11, .int (oI 0)), (13, .int (oI r149)), (0, .ref (ad 1)), (1, .ref (ad q1)), (3, .ref (ad q3)), (5, .int (oI x5)), (7, .int (oI x7)), (10, .int (oI x10))]) hx hb d_L4_448 hl (k := 8) rfl (oI_add x12 1) (by decide) rfl (fun ls hl => ?_)
      refine lv_goto (tgt := 360) hx hb d_L4_451 (by decide) ?_
      obtain ⟨rfl, rfl, rfl, rfl, rfl⟩ := in5 h
      exact W.wide (by omega) (by omega) (k0 ad hag0 hE0 rfl H locs ls hP hD hS (lv_sub hl [3, 4, 5, 6, 7, 8, 1, 0] rfl))
    · have h := ite_f (fun q => c9 ((oI_eq0 ok150).mpr q)) h
      refine lv_aload_n hx hb d_L4_385 rfl (lv_at hl 2 rfl) ?_
      obtain ⟨p151, g151, h⟩ := bd_e h
      obtain ⟨h_p151, h⟩ := ck_e h
      refine m_grN (j := p151) (C := "BallothallLaw$Box") (T := TX12) (N := 4) (ci := 12) (k := 1) hx hb hts iX12 hown hG hP h_q1.1 h_q1.2 rfl (by decide) n_777 rfl (fun _ h9 => h9) rfl rfl g151 d_L4_386 ?_
      refine lv_iload hx hb d_L4_389 (lv_at hl 6 rfl) ?_
      obtain ⟨ok152, h⟩ := ck_e h
      obtain ⟨p153, g153, h⟩ := bd_e h
      obtain ⟨h_p153, h⟩ := ck_e h
      refine m_ar (k := p153) hx hb hG hP h_p151.1 (isQ_T h_p151) ok152 g153 d_L4_391 ?_
      refine lv_iload hx hb d_L4_392 (lv_at hl 8 rfl) ?_
      obtain ⟨ok154, h⟩ := ck_e h
      refine m_ia hx hb hG hP h_p153.1 (isIA_T h_p153) ok154 d_L4_394 ?_
      refine lv_aload_n hx hb d_L4_395 rfl (lv_at hl 3 rfl) ?_
      refine lv_iload hx hb d_L4_396 (lv_at hl 8 rfl) ?_
      obtain ⟨ok155, h⟩ := ck_e h
      refine m_ia hx hb hG hP h_q3.1 (isIA_T h_q3) ok155 d_L4_398 ?_
      obtain ⟨ok156, h⟩ := ck_e h
      obtain ⟨ok157, h⟩ := ck_e h
      refine lv_icmp_ne (tgt := 445) hx hb d_L4_399 (by decide) (fun c9 => ?_) (fun c9 => ?_)
      · have h := ite_f (fun q => c9 ((oI_eq (a := (M p153 x12.toNat)) (b := (M q3 x12.toNat)) ok156 ok157).mpr q)) h
        refine lv_iconst (v := oI 0) hx hb d_L4_445 (by decide +kernel) ?_
        refine lv_istore (lv' := [(11, .int (oI 0)), (13, .int (oI r149)), (0, .ref (ad 1)), (1, .ref (ad q1)), (3, .ref (ad q3)), (5, .int (oI x5)), (7, .int (oI x7)), (10, .int (oI x10)), (12, .int (oI x12))]) hx hb d_L4_446 hl (by decide) rfl (fun ls hl => ?_)
        refine lv_iinc (v := oI (x12 + 1)) (lv' := [(12, .int (oI (x12 + 1))), (11, .int (oI 0)), (13, .int (oI r149)), (0, .ref (ad 1)), (1, .ref (ad q1)), (3, .ref (ad q3)), (5, .int (oI x5)), (7, .int (oI x7)), (10, .int (oI x10))]) hx hb d_L4_448 hl (k := 8) rfl (oI_add x12 1) (by decide) rfl (fun ls hl => ?_)
        refine lv_goto (tgt := 360) hx hb d_L4_451 (by decide) ?_
        obtain ⟨rfl, rfl, rfl, rfl, rfl⟩ := in5 h
        exact W.wide (by omega) (by omega) (k0 ad hag0 hE0 rfl H locs ls hP hD hS (lv_sub hl [3, 4, 5, 6, 7, 8, 1, 0] rfl))
      · have h := ite_t ((oI_eq (a := (M p153 x12.toNat)) (b := (M q3 x12.toNat)) ok156 ok157).mp c9) h
        refine lv_aload_n hx hb d_L4_402 rfl (lv_at hl 3 rfl) ?_
        refine lv_iload hx hb d_L4_403 (lv_at hl 8 rfl) ?_
        refine m_ia hx hb hG hP h_q3.1 (isIA_T h_q3) ok155 d_L4_405 ?_
        refine lv_bipush (v := oI 9) hx hb d_L4_406 (by decide +kernel) ?_
        refine lv_icmp_ge (tgt := 423) hx hb d_L4_408 (by decide) (fun c9 => ?_) (fun c9 => ?_)
        · have h := ite_t ((oI_le (a := (9 : Int)) (b := (M q3 x12.toNat)) (by decide) ok157).mp c9) h
          refine lv_iload hx hb d_L4_423 (lv_at hl 0 rfl) ?_
          refine lv_iload hx hb d_L4_425 (lv_at hl 4 rfl) ?_
          obtain ⟨ok158, h⟩ := ck_e h
          refine lv_if_ne (tgt := 434) hx hb d_L4_427 (by decide) (fun c9 => ?_) (fun c9 => ?_)
          · have h := ite_f (fun q => c9 ((oI_eq0 ok158).mpr q)) h
            refine lv_iload hx hb d_L4_434 (lv_at hl 5 rfl) ?_
            refine lv_iconst (v := oI 1) hx hb d_L4_436 (by decide +kernel) ?_
            refine lv_iadd hx hb d_L4_437 ?_
            refine nrm (oI_add _ _) ?_
            exact b_La_ballots_j438 l z E0 ad0 ad E M q1 q3 x5 x7 x10 x12 (x7 + 1) r149 t w11 w12 F N hx hb hml hts hown hlocks hA hG hZ mc ms _ _ c1 s1 (by omega) (by omega) hm hm2 hag0 hE0 h k0 k1 H locs ls hP hD hS (lv_sub hl [1, 2, 3, 4, 5, 6, 8] rfl)
          · have h := ite_t ((oI_eq0 ok158).mp c9) h
            refine lv_iconst (v := oI 0) hx hb d_L4_430 (by decide +kernel) ?_
            refine lv_goto (tgt := 438) hx hb d_L4_431 (by decide) ?_
            exact b_La_ballots_j438 l z E0 ad0 ad E M q1 q3 x5 x7 x10 x12 0 r149 t w11 w12 F N hx hb hml hts hown hlocks hA hG hZ mc ms _ _ c1 s1 (by omega) (by omega) hm hm2 hag0 hE0 h k0 k1 H locs ls hP hD hS (lv_sub hl [1, 2, 3, 4, 5, 6, 8] rfl)
        · have h := ite_f (fun q => c9 ((oI_le (a := (9 : Int)) (b := (M q3 x12.toNat)) (by decide) ok157).mpr q)) h
          refine lv_iload hx hb d_L4_411 (lv_at hl 0 rfl) ?_
          refine lv_aload_n hx hb d_L4_413 rfl (lv_at hl 3 rfl) ?_
          refine lv_iload hx hb d_L4_414 (lv_at hl 8 rfl) ?_
          refine m_ia hx hb hG hP h_q3.1 (isIA_T h_q3) ok155 d_L4_416 ?_
          obtain ⟨ok161, h⟩ := ck_e h
          refine lv_icmp_ne (tgt := 445) hx hb d_L4_417 (by decide) (fun c9 => ?_) (fun c9 => ?_)
          · have h := ite_f (fun q => c9 ((oI_eq (a := r149) (b := (M q3 x12.toNat)) ok161 ok157).mpr q)) h
            refine lv_iconst (v := oI 0) hx hb d_L4_445 (by decide +kernel) ?_
            refine lv_istore (lv' := [(11, .int (oI 0)), (13, .int (oI r149)), (0, .ref (ad 1)), (1, .ref (ad q1)), (3, .ref (ad q3)), (5, .int (oI x5)), (7, .int (oI x7)), (10, .int (oI x10)), (12, .int (oI x12))]) hx hb d_L4_446 hl (by decide) rfl (fun ls hl => ?_)
            refine lv_iinc (v := oI (x12 + 1)) (lv' := [(12, .int (oI (x12 + 1))), (11, .int (oI 0)), (13, .int (oI r149)), (0, .ref (ad 1)), (1, .ref (ad q1)), (3, .ref (ad q3)), (5, .int (oI x5)), (7, .int (oI x7)), (10, .int (oI x10))]) hx hb d_L4_448 hl (k := 8) rfl (oI_add x12 1) (by decide) rfl (fun ls hl => ?_)
            refine lv_goto (tgt := 360) hx hb d_L4_451 (by decide) ?_
            obtain ⟨rfl, rfl, rfl, rfl, rfl⟩ := in5 h
            exact W.wide (by omega) (by omega) (k0 ad hag0 hE0 rfl H locs ls hP hD hS (lv_sub hl [3, 4, 5, 6, 7, 8, 1, 0] rfl))
          · have h := ite_t ((oI_eq (a := r149) (b := (M q3 x12.toNat)) ok161 ok157).mp c9) h
            refine lv_goto (tgt := 441) hx hb d_L4_420 (by decide) ?_
            refine lv_iconst (v := oI 1) hx hb d_L4_441 (by decide +kernel) ?_
            refine lv_goto (tgt := 446) hx hb d_L4_442 (by decide) ?_
            refine lv_istore (lv' := [(11, .int (oI 1)), (13, .int (oI r149)), (0, .ref (ad 1)), (1, .ref (ad q1)), (3, .ref (ad q3)), (5, .int (oI x5)), (7, .int (oI x7)), (10, .int (oI x10)), (12, .int (oI x12))]) hx hb d_L4_446 hl (by decide) rfl (fun ls hl => ?_)
            refine lv_iinc (v := oI (x12 + 1)) (lv' := [(12, .int (oI (x12 + 1))), (11, .int (oI 1)), (13, .int (oI r149)), (0, .ref (ad 1)), (1, .ref (ad q1)), (3, .ref (ad q3)), (5, .int (oI x5)), (7, .int (oI x7)), (10, .int (oI x10))]) hx hb d_L4_448 hl (k := 8) rfl (oI_add x12 1) (by decide) rfl (fun ls hl => ?_)
            refine lv_goto (tgt := 360) hx hb d_L4_451 (by decide) ?_
            obtain ⟨rfl, rfl, rfl, rfl, rfl⟩ := in5 h
            exact W.wide (by omega) (by omega) (k0 ad hag0 hE0 rfl H locs ls hP hD hS (lv_sub hl [3, 4, 5, 6, 7, 8, 1, 0] rfl))
set_option maxRecDepth 100000 in
set_option maxHeartbeats 4000000 in
theorem s_La_ballots_360 (l : Launch) (z : Zz) (E0 : Ev) (ad0 : Nat → Nat) (q1 : Nat) (q3 : Nat) (x5 : Int) (x7 : Int) (x10 : Int) {Q : State → Prop} {p : Program} {e : Env} {s : State} {m : MethodId} {below : List Frame} {meth : Method} {c : Code} {A : Nat → Prop} {args : Array Value} (hx : p.tables.exec = Jvm.exec) (hb : c.code = method_4_code) (hml : c.maxLocals = 14) (hts : ∀ w ∈ WG, w.before args s = true) (hown : s.vm.findClass "BallothallLaw" = some m.cls) (hlocks : meth.locks = false) (hA : ∀ q, s.heap.size ≤ q → A q) (hG : KG z s) (hZ : FZ z A s) (mc ms c1 s1 : Nat) (hm : c1 ≤ mc) (hm2 : s1 ≤ ms) : ∀ (fu c0 s0 : Nat) (ad : Nat → Nat) (E : Ev) (M : Mm) (x11 : Int) (x12 : Int) (t : Nat) (w11 : Int) (w12 : Int) (F : Ev) (N : Mm), c0 + fu * 0 ≤ c1 → s0 + fu * 0 ≤ s1 → (∀ i, i < nE E0 → ad i = ad0 i) → nE E0 ≤ nE E → l_La_ballots_360 q1 q3 x5 x7 x10 fu E M x11 x12 = some (t, w11, w12, F, N) → (∀ (ad1 : Nat → Nat), (∀ i, i < nE E0 → ad1 i = ad0 i) → nE E0 ≤ nE F → t = 1 → ∀ (H : Heap) (locs : List Loc) (ls : Array Slot), va_P z.1 classes (wv z ad1 F N) H → va_D A (wv z ad1 F N) → va_S A s.heap H locs → lv_has ls 14 [(11, .int (oI w11))] → W p l e (rmK 6 171 mc ms) s m args below meth c H locs c1 s1 Q (F0 m 454 ls [])) → ∀ (H : Heap) (locs : List Loc) (ls : Array Slot), va_P z.1 classes (wv z ad E M) H → va_D A (wv z ad E M) → va_S A s.heap H locs → lv_has ls 14 [(0, .ref (ad 1)), (1, .ref (ad q1)), (3, .ref (ad q3)), (5, .int (oI x5)), (7, .int (oI x7)), (10, .int (oI x10)), (11, .int (oI x11)), (12, .int (oI x12))] → W p l e (rmK 6 171 mc ms) s m args below meth c H locs c0 s0 Q (F0 m 360 ls []) := by
  intro fu
  induction fu with
  | zero =>
    intro c0 s0 ad E M x11 x12 t w11 w12 F N hc hs hag0 hE0 h
    have h : (none : Option (Nat × Int × Int × Ev × Mm)) = some _ := h
    cases h
  | succ fu ih =>
    intro c0 s0 ad E M x11 x12 t w11 w12 F N hc hs hag0 hE0 h k1 H locs ls hP hD hS hl
    obtain ⟨⟨t0, w110, w120, F9, N9⟩, g0, h⟩ := bd_e h
    refine W.wide (Nat.le_refl _) (Nat.le_refl _) (b_La_ballots_360b l z E0 ad0 ad E M q1 q3 x5 x7 x10 x11 x12 t0 w110 w120 F9 N9 hx hb hml hts hown hlocks hA hG hZ mc ms c0 s0 (c0 + 0) (s0 + 0) (Nat.le_refl _) (Nat.le_refl _) (by omega) (by omega) hag0 hE0 g0 (fun ad1 ha he e0 => ?_) (fun ad1 ha he e0 => ?_) H locs ls hP hD hS hl)
    · subst e0
      have h := ite_t rfl h
      exact ih (c0 + 0) (s0 + 0) ad1 F9 N9 w110 w120 t w11 w12 F N (by omega) (by omega) ha he h k1
    · subst e0
      have h := ite_f (by decide) h
      obtain ⟨rfl, rfl, rfl, rfl, rfl⟩ := in5 h
      exact fun H locs ls hP hD hS hl => W.wide (by omega) (by omega) (k1 ad1 ha he rfl H locs ls hP hD hS hl)
set_option maxRecDepth 100000 in
set_option maxHeartbeats 4000000 in
theorem b_La_ballots_j322 (l : Launch) (z : Zz) (E0 : Ev) (ad0 : Nat → Nat) (ad : Nat → Nat) (E : Ev) (M : Mm) (q1 : Nat) (q3 : Nat) (x5 : Int) (x7 : Int) (x9 : Int) (x10 : Int) (r : Int) (F : Ev) (N : Mm) {p : Program} {e : Env} {s : State} {m : MethodId} {below : List Frame} {meth : Method} {c : Code} {A : Nat → Prop} {args : Array Value} (hx : p.tables.exec = Jvm.exec) (hb : c.code = method_4_code) (hml : c.maxLocals = 14) (hts : ∀ w ∈ WG, w.before args s = true) (hown : s.vm.findClass "BallothallLaw" = some m.cls) (hlocks : meth.locks = false) (hA : ∀ q, s.heap.size ≤ q → A q) (hG : KG z s) (hZ : FZ z A s) (hr : meth.sig.returnType = (some .boolean)) (mc ms c0 s0 c1 s1 : Nat) (hc : c0 + 0 ≤ c1) (hs : s0 + 0 ≤ s1) (hm : c1 ≤ mc) (hm2 : s1 ≤ ms) (hag0 : ∀ i, i < nE E0 → ad i = ad0 i) (hE0 : nE E0 ≤ nE E) (h : La_ballots_j322 E M q1 q3 x5 x7 x9 x10 = some (r, F, N)) : ∀ (H : Heap) (locs : List Loc) (ls : Array Slot), va_P z.1 classes (wv z ad E M) H → va_D A (wv z ad E M) → va_S A s.heap H locs → lv_has ls 14 [(0, .ref (ad 1)), (1, .ref (ad q1)), (3, .ref (ad q3)), (5, .int (oI x5)), (7, .int (oI x7)), (9, .int (oI x9)), (10, .int (oI x10))] → W p l e (rmK 6 171 mc ms) s m args below meth c H locs c0 s0 (MQ below (QK z A (fun u => some (.int (oI r))) (fun u => wv z (adj E0 ad0 u) F N)) args s c1 s1 A) (F0 m 322 ls []) := by
  intro H locs ls hP hD hS hl
  unfold La_ballots_j322 at h
  obtain ⟨hL, h⟩ := ck_e h
  obtain ⟨h_q1, h⟩ := ck_e h
  obtain ⟨h_q3, h⟩ := ck_e h
  refine lv_aload_n hx hb d_L4_322 rfl (lv_at hl 1 rfl) ?_
  obtain ⟨p140, g140, h⟩ := bd_e h
  obtain ⟨h_p140, h⟩ := ck_e h
  refine m_grN (j := p140) (C := "BallothallLaw$Box") (T := TX12) (N := 4) (ci := 12) (k := 2) hx hb hts iX12 hown hG hP h_q1.1 h_q1.2 rfl (by decide) n_779 rfl (fun _ h9 => h9) rfl rfl g140 d_L4_323 ?_
  refine lv_iload hx hb d_L4_326 (lv_at hl 6 rfl) ?_
  refine lv_dup2_11 hx hb d_L4_328 rfl rfl ?_
  obtain ⟨ok141, h⟩ := ck_e h
  refine m_ia hx hb hG hP h_p140.1 (isIA_T h_p140) ok141 d_L4_329 ?_
  refine lv_iload hx hb d_L4_330 (lv_at hl 5 rfl) ?_
  refine lv_iadd hx hb d_L4_332 ?_
  refine nrm (oI_add _ _) ?_
  refine m_is hx hb hG hP hD hS h_p140.1 (isIA_T h_p140) ok141 d_L4_333 (fun H locs hP hD hS => ?_)
  have hP : va_P z.1 classes (wv z ad E (u2 M p140 x10.toNat ((M p140 x10.toNat) + x9))) H := hP
  have hD : va_D A (wv z ad E (u2 M p140 x10.toNat ((M p140 x10.toNat) + x9))) := hD
  refine lv_aload_n hx hb d_L4_334 rfl (lv_at hl 0 rfl) ?_
  refine lv_iload hx hb d_L4_335 (lv_at hl 6 rfl) ?_
  obtain ⟨r142, g142, h⟩ := bd_e h
  refine kV (As := [.int (oI x10)]) (rest := []) (s_B_countOf l z ad E (u2 M p140 x10.toNat ((M p140 x10.toNat) + x9)) x10 r142 hL g142) hx hb hml hown hts w_1054 w_1051 w_1052 w_1053 w_1 md_2bddb0 ⟨Nat.le_of_ble_eq_true rfl, Nat.le_of_ble_eq_true rfl⟩ hG hZ hP hD hS hA 1 (wv_o (ci := 11) (yi_1 hL) (yt_1 hL)) rfl rfl rfl hl.1 rfl (Nat.le_of_ble_eq_true rfl) d_L4_337 ⟨(show _ ≤ mc by omega), (show _ ≤ ms by omega)⟩ (fun _ H locs hP hD hS => ?_)
  have hP : va_P z.1 classes (wv z ad E (u2 M p140 x10.toNat ((M p140 x10.toNat) + x9))) H := hP
  have hD : va_D A (wv z ad E (u2 M p140 x10.toNat ((M p140 x10.toNat) + x9))) := hD
  refine W.eq (g2 := F0 m 340 ls [.int (oI r142)]) rfl ?_
  refine lv_aload_n hx hb d_L4_340 rfl (lv_at hl 1 rfl) ?_
  obtain ⟨p143, g143, h⟩ := bd_e h
  obtain ⟨h_p143, h⟩ := ck_e h
  refine m_grN (j := p143) (C := "BallothallLaw$Box") (T := TX12) (N := 4) (ci := 12) (k := 2) hx hb hts iX12 hown hG hP h_q1.1 h_q1.2 rfl (by decide) n_779 rfl (fun _ h9 => h9) rfl rfl g143 d_L4_341 ?_
  refine lv_iload hx hb d_L4_344 (lv_at hl 6 rfl) ?_
  obtain ⟨ok144, h⟩ := ck_e h
  refine m_ia hx hb hG hP h_p143.1 (isIA_T h_p143) ok144 d_L4_346 ?_
  obtain ⟨ok145, h⟩ := ck_e h
  obtain ⟨ok146, h⟩ := ck_e h
  refine lv_icmp_ne (tgt := 354) hx hb d_L4_347 (by decide) (fun c9 => ?_) (fun c9 => ?_)
  · have h := ite_f (fun q => c9 ((oI_eq (a := r142) (b := ((u2 M p140 x10.toNat ((M p140 x10.toNat) + x9)) p143 x10.toNat)) ok145 ok146).mpr q)) h
    refine lv_iconst (v := oI 0) hx hb d_L4_354 (by decide +kernel) ?_
    refine lv_istore (lv' := [(11, .int (oI 0)), (0, .ref (ad 1)), (1, .ref (ad q1)), (3, .ref (ad q3)), (5, .int (oI x5)), (7, .int (oI x7)), (9, .int (oI x9)), (10, .int (oI x10))]) hx hb d_L4_355 hl (by decide) rfl (fun ls hl => ?_)
    refine lv_iconst (v := oI 0) hx hb d_L4_357 (by decide +kernel) ?_
    refine lv_istore (lv' := [(12, .int (oI 0)), (11, .int (oI 0)), (0, .ref (ad 1)), (1, .ref (ad q1)), (3, .ref (ad q3)), (5, .int (oI x5)), (7, .int (oI x7)), (9, .int (oI x9)), (10, .int (oI x10))]) hx hb d_L4_358 hl (by decide) rfl (fun ls hl => ?_)
    obtain ⟨⟨t162, v162_11, v162_12, E162, M162⟩, g162, h⟩ := bd_e h
    obtain ⟨hgw162, h⟩ := ck_e h
    obtain ⟨hL162, h⟩ := ck_e h
    obtain ⟨ok162, h⟩ := ck_e h
    refine s_La_ballots_360 l z E ad q1 q3 x5 x7 x10 hx hb hml hts hown hlocks hA hG hZ mc ms (c0 + 0) (s0 + 0) (by omega) (by omega) 5000 _ _ ad E (u2 M p140 x10.toNat ((M p140 x10.toNat) + x9)) 0 0 t162 v162_11 v162_12 E162 M162 (by omega) (by omega) (fun _ _ => rfl) (Nat.le_refl _) g162 (fun ad162 hag162 hEE162 e162 H locs ls hP hD hS hl => ?_) H locs ls hP hD hS (lv_sub hl [2, 3, 4, 5, 6, 8, 1, 0] rfl)
    have hag0 : ∀ i, i < nE E0 → ad162 i = ad0 i := fun i hi => (hag162 i (Nat.lt_of_lt_of_le hi hE0)).trans (hag0 i hi)
    have hE0 : nE E0 ≤ nE E162 := Nat.le_trans hE0 hgw162.1
    have hL : Lay E162 := hL162
    refine lv_iload hx hb d_L4_454 (lv_at hl 0 rfl) ?_
    refine W.wide (k := c1) (n := s1) (by omega) (by omega) ?_
    obtain ⟨ok163, h⟩ := ck_e h
    obtain ⟨rfl, rfl, rfl⟩ := in3 h
    exact W.zret hx hb hr (nz_b ok163) (fun t ht hW => qkA hP hD hS ad162 (congrArg (fun q => wv z q E162 M162) (adj_self hag0).symm) rfl ht) hS.2.2 d_L4_456
  · have h := ite_t ((oI_eq (a := r142) (b := ((u2 M p140 x10.toNat ((M p140 x10.toNat) + x9)) p143 x10.toNat)) ok145 ok146).mp c9) h
    refine lv_iconst (v := oI 1) hx hb d_L4_350 (by decide +kernel) ?_
    refine lv_goto (tgt := 355) hx hb d_L4_351 (by decide) ?_
    refine lv_istore (lv' := [(11, .int (oI 1)), (0, .ref (ad 1)), (1, .ref (ad q1)), (3, .ref (ad q3)), (5, .int (oI x5)), (7, .int (oI x7)), (9, .int (oI x9)), (10, .int (oI x10))]) hx hb d_L4_355 hl (by decide) rfl (fun ls hl => ?_)
    refine lv_iconst (v := oI 0) hx hb d_L4_357 (by decide +kernel) ?_
    refine lv_istore (lv' := [(12, .int (oI 0)), (11, .int (oI 1)), (0, .ref (ad 1)), (1, .ref (ad q1)), (3, .ref (ad q3)), (5, .int (oI x5)), (7, .int (oI x7)), (9, .int (oI x9)), (10, .int (oI x10))]) hx hb d_L4_358 hl (by decide) rfl (fun ls hl => ?_)
    obtain ⟨⟨t164, v164_11, v164_12, E164, M164⟩, g164, h⟩ := bd_e h
    obtain ⟨hgw164, h⟩ := ck_e h
    obtain ⟨hL164, h⟩ := ck_e h
    obtain ⟨ok164, h⟩ := ck_e h
    refine s_La_ballots_360 l z E ad q1 q3 x5 x7 x10 hx hb hml hts hown hlocks hA hG hZ mc ms (c0 + 0) (s0 + 0) (by omega) (by omega) 5000 _ _ ad E (u2 M p140 x10.toNat ((M p140 x10.toNat) + x9)) 1 0 t164 v164_11 v164_12 E164 M164 (by omega) (by omega) (fun _ _ => rfl) (Nat.le_refl _) g164 (fun ad164 hag164 hEE164 e164 H locs ls hP hD hS hl => ?_) H locs ls hP hD hS (lv_sub hl [2, 3, 4, 5, 6, 8, 1, 0] rfl)
    have hag0 : ∀ i, i < nE E0 → ad164 i = ad0 i := fun i hi => (hag164 i (Nat.lt_of_lt_of_le hi hE0)).trans (hag0 i hi)
    have hE0 : nE E0 ≤ nE E164 := Nat.le_trans hE0 hgw164.1
    have hL : Lay E164 := hL164
    refine lv_iload hx hb d_L4_454 (lv_at hl 0 rfl) ?_
    refine W.wide (k := c1) (n := s1) (by omega) (by omega) ?_
    obtain ⟨ok165, h⟩ := ck_e h
    obtain ⟨rfl, rfl, rfl⟩ := in3 h
    exact W.zret hx hb hr (nz_b ok165) (fun t ht hW => qkA hP hD hS ad164 (congrArg (fun q => wv z q E164 M164) (adj_self hag0).symm) rfl ht) hS.2.2 d_L4_456
set_option maxRecDepth 100000 in
set_option maxHeartbeats 4000000 in
theorem b_La_ballots_j265 (l : Launch) (z : Zz) (E0 : Ev) (ad0 : Nat → Nat) (ad : Nat → Nat) (E : Ev) (M : Mm) (q1 : Nat) (q3 : Nat) (x5 : Int) (x7 : Int) (y0 : Int) (y1 : Nat) (y2 : Int) (r : Int) (F : Ev) (N : Mm) {p : Program} {e : Env} {s : State} {m : MethodId} {below : List Frame} {meth : Method} {c : Code} {A : Nat → Prop} {args : Array Value} (hx : p.tables.exec = Jvm.exec) (hb : c.code = method_4_code) (hml : c.maxLocals = 14) (hts : ∀ w ∈ WG, w.before args s = true) (hown : s.vm.findClass "BallothallLaw" = some m.cls) (hlocks : meth.locks = false) (hA : ∀ q, s.heap.size ≤ q → A q) (hG : KG z s) (hZ : FZ z A s) (hr : meth.sig.returnType = (some .boolean)) (mc ms c0 s0 c1 s1 : Nat) (hc : c0 + 0 ≤ c1) (hs : s0 + 0 ≤ s1) (hm : c1 ≤ mc) (hm2 : s1 ≤ ms) (hag0 : ∀ i, i < nE E0 → ad i = ad0 i) (hE0 : nE E0 ≤ nE E) (h : La_ballots_j265 E M q1 q3 x5 x7 y0 y1 y2 = some (r, F, N)) : ∀ (H : Heap) (locs : List Loc) (ls : Array Slot), va_P z.1 classes (wv z ad E M) H → va_D A (wv z ad E M) → va_S A s.heap H locs → lv_has ls 14 [(0, .ref (ad 1)), (1, .ref (ad q1)), (3, .ref (ad q3)), (5, .int (oI x5)), (7, .int (oI x7))] → W p l e (rmK 6 171 mc ms) s m args below meth c H locs c0 s0 (MQ below (QK z A (fun u => some (.int (oI r))) (fun u => wv z (adj E0 ad0 u) F N)) args s c1 s1 A) (F0 m 265 ls [.int (oI y0), .ref (ad y1), .int (oI y2)]) := by
  intro H locs ls hP hD hS hl
  unfold La_ballots_j265 at h
  obtain ⟨hL, h⟩ := ck_e h
  obtain ⟨h_q1, h⟩ := ck_e h
  obtain ⟨h_q3, h⟩ := ck_e h
  obtain ⟨h_y1, h⟩ := ck_e h
  obtain ⟨⟨r136, M136⟩, g136, h⟩ := bd_e h
  refine kS (As := [.ref (ad y1), .int (oI y0)]) (rest := [.int (oI y2)]) (s_La_next l z ad E M y1 y0 r136 M136 hL g136) hx hb hml hown hts w_797 w_795 w_796 w_0 md_199d8f ⟨Nat.le_of_ble_eq_true rfl, Nat.le_of_ble_eq_true rfl⟩ hG hZ hP hD hS hA rfl hl.1 rfl (Nat.le_of_ble_eq_true rfl) d_L4_265 ⟨(show _ ≤ mc by omega), (show _ ≤ ms by omega)⟩ (fun _ H locs hP hD hS => ?_)
  have hP : va_P z.1 classes (wv z ad E M136) H := hP
  have hD : va_D A (wv z ad E M136) := hD
  refine W.eq (g2 := F0 m 268 ls [.int (oI r136), .int (oI y2)]) rfl ?_
  refine lv_iadd hx hb d_L4_268 ?_
  refine nrm (oI_add _ _) ?_
  refine lv_istore (lv' := [(9, .int (oI (y2 + r136))), (0, .ref (ad 1)), (1, .ref (ad q1)), (3, .ref (ad q3)), (5, .int (oI x5)), (7, .int (oI x7))]) hx hb d_L4_269 hl (by decide) rfl (fun ls hl => ?_)
  refine lv_aload_n hx hb d_L4_271 rfl (lv_at hl 1 rfl) ?_
  refine lv_iload hx hb d_L4_272 (lv_at hl 0 rfl) ?_
  obtain ⟨⟨r137, M137⟩, g137, h⟩ := bd_e h
  refine kV (As := [.int (oI (y2 + r136))]) (rest := []) (s_B_ballots l z ad E M136 (y2 + r136) r137 M137 hL g137) hx hb hml hown hts w_1021 w_1018 w_1019 w_1020 w_1 md_7edbe8 ⟨Nat.le_of_ble_eq_true rfl, Nat.le_of_ble_eq_true rfl⟩ hG hZ hP hD hS hA 1 (wv_o (ci := 11) (yi_1 hL) (yt_1 hL)) rfl rfl rfl hl.1 rfl (Nat.le_of_ble_eq_true rfl) d_L4_274 ⟨(show _ ≤ mc by omega), (show _ ≤ ms by omega)⟩ (fun _ H locs hP hD hS => ?_)
  have hP : va_P z.1 classes (wv z ad E M137) H := hP
  have hD : va_D A (wv z ad E M137) := hD
  refine W.eq (g2 := F0 m 277 ls [.int (oI r137)]) rfl ?_
  refine lv_istore (lv' := [(10, .int (oI r137)), (9, .int (oI (y2 + r136))), (0, .ref (ad 1)), (1, .ref (ad q1)), (3, .ref (ad q3)), (5, .int (oI x5)), (7, .int (oI x7))]) hx hb d_L4_277 hl (by decide) rfl (fun ls hl => ?_)
  refine lv_iload hx hb d_L4_279 (lv_at hl 0 rfl) ?_
  obtain ⟨ok138, h⟩ := ck_e h
  refine lv_if_lt (tgt := 293) hx hb d_L4_281 (by decide) (fun c9 => ?_) (fun c9 => ?_)
  · have h := ite_t ((oI_lt0 ok138).mp c9) h
    refine lv_iconst (v := oI 0) hx hb d_L4_293 (by decide +kernel) ?_
    refine W.wide (k := c1) (n := s1) (by omega) (by omega) ?_
    obtain ⟨rfl, rfl, rfl⟩ := in3 h
    exact W.zret hx hb hr rfl (fun t ht hW => qkA hP hD hS ad (congrArg (fun q => wv z q E M137) (adj_self hag0).symm) rfl ht) hS.2.2 d_L4_294
  · have h := ite_f (fun q => c9 ((oI_lt0 ok138).mpr q)) h
    refine lv_iload hx hb d_L4_284 (lv_at hl 0 rfl) ?_
    refine lv_aload_n hx hb d_L4_286 rfl (lv_at hl 3 rfl) ?_
    refine m_giN (C := "BallothallLaw$Box") (T := TX12) (N := 4) (ci := 12) (k := 3) hx hb hts iX12 hown hG hP h_q1.1 h_q1.2 rfl (by decide) n_781 rfl (fun _ h9 => h9) rfl rfl d_L4_287 ?_
    obtain ⟨ok139, h⟩ := ck_e h
    refine lv_icmp_le (tgt := 295) hx hb d_L4_290 (by decide) (fun c9 => ?_) (fun c9 => ?_)
    · have h := ite_t ((oI_le (a := r137) (b := (M137 q1 3)) ok138 ok139).mp c9) h
      refine lv_iload hx hb d_L4_295 (lv_at hl 0 rfl) ?_
      refine lv_aload_n hx hb d_L4_297 rfl (lv_at hl 3 rfl) ?_
      refine m_giN (C := "BallothallLaw$Box") (T := TX12) (N := 4) (ci := 12) (k := 3) hx hb hts iX12 hown hG hP h_q1.1 h_q1.2 rfl (by decide) n_781 rfl (fun _ h9 => h9) rfl rfl d_L4_298 ?_
      refine lv_icmp_ne (tgt := 322) hx hb d_L4_301 (by decide) (fun c9 => ?_) (fun c9 => ?_)
      · have h := ite_f (fun q => c9 ((oI_eq (a := r137) (b := (M137 q1 3)) ok138 ok139).mpr q)) h
        exact b_La_ballots_j322 l z E0 ad0 ad E M137 q1 q3 x5 x7 (y2 + r136) r137 r F N hx hb hml hts hown hlocks hA hG hZ hr mc ms _ _ c1 s1 (by omega) (by omega) hm hm2 hag0 hE0 h H locs ls hP hD hS (lv_sub hl [2, 3, 4, 5, 6, 1, 0] rfl)
      · have h := ite_t ((oI_eq (a := r137) (b := (M137 q1 3)) ok138 ok139).mp c9) h
        refine lv_aload_n hx hb d_L4_304 rfl (lv_at hl 3 rfl) ?_
        obtain ⟨p166, g166, h⟩ := bd_e h
        obtain ⟨h_p166, h⟩ := ck_e h
        refine m_grN (j := p166) (C := "BallothallLaw$Box") (T := TX12) (N := 4) (ci := 12) (k := 1) hx hb hts iX12 hown hG hP h_q1.1 h_q1.2 rfl (by decide) n_777 rfl (fun _ h9 => h9) rfl rfl g166 d_L4_305 ?_
        refine lv_iload hx hb d_L4_308 (lv_at hl 0 rfl) ?_
        refine lv_aload_n hx hb d_L4_310 rfl (lv_at hl 4 rfl) ?_
        obtain ⟨ok167, h⟩ := ck_e h
        obtain ⟨E168, eE168, h⟩ := nb_e h
        refine m_asA (x := r137) hx hb hG hP hD hS h_p166.1 (isQ_T h_p166) h_q3.1 (isIA_T h_q3) ok167 d_L4_311 (fun H locs hP hD hS => ?_)
        have hP : va_P z.1 classes (wv z ad E168 M137) H := by rw [eE168]; exact hP
        have hD : va_D A (wv z ad E168 M137) := by rw [eE168]; exact hD
        have hgw168 : Gw E E168 := by rw [eE168]; exact gw_ref _ _ _ _
        have hE0 : nE E0 ≤ nE E168 := Nat.le_trans hE0 hgw168.1
        obtain ⟨hL, h⟩ := ck_e h
        have h_q1 : isO 12 E168 q1 := isO_up hgw168 h_q1
        have h_q3 : isIA E168 q3 := isA_up hgw168 h_q3
        refine W.eq (g2 := F0 m 312 ls []) rfl ?_
        refine lv_aload_n hx hb d_L4_312 rfl (lv_at hl 3 rfl) ?_
        refine lv_dup hx hb d_L4_313 rfl ?_
        refine m_giN (C := "BallothallLaw$Box") (T := TX12) (N := 4) (ci := 12) (k := 3) hx hb hts iX12 hown hG hP h_q1.1 h_q1.2 rfl (by decide) n_781 rfl (fun _ h9 => h9) rfl rfl d_L4_314 ?_
        refine lv_iconst (v := oI 1) hx hb d_L4_317 (by decide +kernel) ?_
        refine lv_iadd hx hb d_L4_318 ?_
        refine nrm (oI_add _ _) ?_
        refine m_piN (C := "BallothallLaw$Box") (T := TX12) (N := 4) (ci := 12) (k := 3) (ty := .int) hx hb hts iX12 hown hG hP hD hS h_q1.1 h_q1.2 rfl (by decide) n_781 rfl (fun _ h9 => h9) rfl rfl tyX12_ok nmX12 rfl (by decide +kernel) rfl rfl d_L4_319 (fun H locs hP hD hS => ?_)
        have hP : va_P z.1 classes (wv z ad E168 (u2 M137 q1 3 ((M137 q1 3) + 1))) H := hP
        have hD : va_D A (wv z ad E168 (u2 M137 q1 3 ((M137 q1 3) + 1))) := hD
        exact b_La_ballots_j322 l z E0 ad0 ad E168 (u2 M137 q1 3 ((M137 q1 3) + 1)) q1 q3 x5 x7 (y2 + r136) r137 r F N hx hb hml hts hown hlocks hA hG hZ hr mc ms _ _ c1 s1 (by omega) (by omega) hm hm2 hag0 hE0 h H locs ls hP hD hS (lv_sub hl [2, 3, 4, 5, 6, 1, 0] rfl)
    · have h := ite_f (fun q => c9 ((oI_le (a := r137) (b := (M137 q1 3)) ok138 ok139).mpr q)) h
      refine lv_iconst (v := oI 0) hx hb d_L4_293 (by decide +kernel) ?_
      refine W.wide (k := c1) (n := s1) (by omega) (by omega) ?_
      obtain ⟨rfl, rfl, rfl⟩ := in3 h
      exact W.zret hx hb hr rfl (fun t ht hW => qkA hP hD hS ad (congrArg (fun q => wv z q E M137) (adj_self hag0).symm) rfl ht) hS.2.2 d_L4_294
set_option maxRecDepth 100000 in
set_option maxHeartbeats 4000000 in
theorem b_La_ballots_j89 (l : Launch) (z : Zz) (E0 : Ev) (ad0 : Nat → Nat) (ad : Nat → Nat) (E : Ev) (M : Mm) (q1 : Nat) (q2 : Nat) (q3 : Nat) (q4 : Nat) (y0 : Int) (r : Int) (F : Ev) (N : Mm) {p : Program} {e : Env} {s : State} {m : MethodId} {below : List Frame} {meth : Method} {c : Code} {A : Nat → Prop} {args : Array Value} (hx : p.tables.exec = Jvm.exec) (hb : c.code = method_4_code) (hml : c.maxLocals = 14) (hts : ∀ w ∈ WG, w.before args s = true) (hown : s.vm.findClass "BallothallLaw" = some m.cls) (hlocks : meth.locks = false) (hA : ∀ q, s.heap.size ≤ q → A q) (hG : KG z s) (hZ : FZ z A s) (hr : meth.sig.returnType = (some .boolean)) (mc ms c0 s0 c1 s1 : Nat) (hc : c0 + 4 ≤ c1) (hs : s0 + 136 ≤ s1) (hm : c1 ≤ mc) (hm2 : s1 ≤ ms) (hag0 : ∀ i, i < nE E0 → ad i = ad0 i) (hE0 : nE E0 ≤ nE E) (h : La_ballots_j89 E M q1 q2 q3 q4 y0 = some (r, F, N)) : ∀ (H : Heap) (locs : List Loc) (ls : Array Slot), va_P z.1 classes (wv z ad E M) H → va_D A (wv z ad E M) → va_S A s.heap H locs → lv_has ls 14 [(0, .ref (ad 1)), (1, .ref (ad q1)), (2, .ref (ad q2)), (3, .ref (ad q3)), (4, .ref (ad q4))] → W p l e (rmK 6 171 mc ms) s m args below meth c H locs c0 s0 (MQ below (QK z A (fun u => some (.int (oI r))) (fun u => wv z (adj E0 ad0 u) F N)) args s c1 s1 A) (F0 m 89 ls [.int (oI y0)]) := by
  intro H locs ls hP hD hS hl
  unfold La_ballots_j89 at h
  obtain ⟨hL, h⟩ := ck_e h
  obtain ⟨h_q1, h⟩ := ck_e h
  obtain ⟨h_q2, h⟩ := ck_e h
  obtain ⟨h_q3, h⟩ := ck_e h
  obtain ⟨h_q4, h⟩ := ck_e h
  refine lv_istore (lv' := [(5, .int (oI y0)), (0, .ref (ad 1)), (1, .ref (ad q1)), (2, .ref (ad q2)), (3, .ref (ad q3)), (4, .ref (ad q4))]) hx hb d_L4_89 hl (by decide) rfl (fun ls hl => ?_)
  obtain ⟨p114, ep114, h⟩ := nb_e h
  obtain ⟨E114, eE114, h⟩ := nb_e h
  obtain ⟨M114, eM114, h⟩ := nb_e h
  refine m_newO (ci := 14) (C := "java/lang/StringBuilder") (T := TX14) (n := 4) hx hb hts iX14 tyX14_ok hown w_802 w_803 w_19 rfl (fun _ => fsX14) hG hP hD hS hA (show _ ≤ mc by omega) (show _ ≤ ms by omega) d_L4_91 (fun ad114 H hag114 hP hD hS => ?_)
  have hP : va_P z.1 classes (wv z ad114 E114 M114) H := by rw [eE114, eM114]; exact hP
  have hD : va_D A (wv z ad114 E114 M114) := by rw [eE114, eM114]; exact hD
  refine W.eq (g2 := F0 m 94 ls (.ref (ad114 p114) :: [])) (by rw [ep114] <;> rfl) ?_
  have hl : lv_has ls 14 [(5, .int (oI y0)), (0, .ref (ad114 1)), (1, .ref (ad114 q1)), (2, .ref (ad114 q2)), (3, .ref (ad114 q3)), (4, .ref (ad114 q4))] := by rw [hag114 1 (yi_1 hL), hag114 q1 h_q1.1, hag114 q2 h_q2.1, hag114 q3 h_q3.1, hag114 q4 h_q4.1]; exact hl
  have hgw114 : Gw E E114 := by rw [eE114]; exact gw_new _ _
  have hL114 : Lay E114 := by rw [eE114]; exact lay_new hL
  have hag0 : ∀ i, i < nE E0 → ad114 i = ad0 i := fun i hi => (hag114 i (Nat.lt_of_lt_of_le hi hE0)).trans (hag0 i hi)
  have hE0 : nE E0 ≤ nE E114 := Nat.le_trans hE0 hgw114.1
  have hL : Lay E114 := hL114
  have h_q1 : isO 12 E114 q1 := isO_up hgw114 h_q1
  have h_q2 : isIA E114 q2 := isA_up hgw114 h_q2
  have h_q3 : isIA E114 q3 := isA_up hgw114 h_q3
  have h_q4 : isIA E114 q4 := isA_up hgw114 h_q4
  have h_p114 : isO 14 E114 p114 := by rw [ep114, eE114]; exact ⟨new_i _ _, new_T _ _⟩
  refine lv_dup hx hb d_L4_94 rfl ?_
  obtain ⟨⟨E115, M115⟩, g115, h⟩ := bd_e h
  obtain ⟨hgw115, h⟩ := ck_e h
  refine kI (As := []) (rest := [.ref (ad114 p114)]) (s_Sb_init l z ad114 E114 M114 p114 E115 M115 g115) hx hb hml hown hts w_806 w_804 w_805 rfl w_19 md_9cd983 ⟨Nat.le_of_ble_eq_true rfl, Nat.le_of_ble_eq_true rfl⟩ hG hZ hP hD hS hA rfl hl.1 rfl (Nat.le_of_ble_eq_true rfl) d_L4_95 ⟨(show _ ≤ mc by omega), (show _ ≤ ms by omega)⟩ (fun u115 H locs hP hD hS => ?_)
  obtain ⟨ad115, had115⟩ : ∃ q, q = adj E114 ad114 u115 := ⟨_, rfl⟩
  have hP : va_P z.1 classes (wv z ad115 E115 M115) H := by rw [had115]; exact hP
  have hD : va_D A (wv z ad115 E115 M115) := by rw [had115]; exact hD
  have hag115 : ∀ i, i < nE E114 → ad115 i = ad114 i := fun i hi => by rw [had115]; exact adj_lt hi
  have hl : lv_has ls 14 [(5, .int (oI y0)), (0, .ref (ad115 1)), (1, .ref (ad115 q1)), (2, .ref (ad115 q2)), (3, .ref (ad115 q3)), (4, .ref (ad115 q4))] := by rw [hag115 1 (yi_1 hL), hag115 q1 h_q1.1, hag115 q2 h_q2.1, hag115 q3 h_q3.1, hag115 q4 h_q4.1]; exact hl
  refine W.eq (g2 := F0 m 98 ls [.ref (ad115 p114)]) (by rw [hag115 p114 h_p114.1] <;> rfl) ?_
  have hag0 : ∀ i, i < nE E0 → ad115 i = ad0 i := fun i hi => (hag115 i (Nat.lt_of_lt_of_le hi hE0)).trans (hag0 i hi)
  have hE0 : nE E0 ≤ nE E115 := Nat.le_trans hE0 hgw115.1
  obtain ⟨hL, h⟩ := ck_e h
  have h_q1 : isO 12 E115 q1 := isO_up hgw115 h_q1
  have h_q2 : isIA E115 q2 := isA_up hgw115 h_q2
  have h_q3 : isIA E115 q3 := isA_up hgw115 h_q3
  have h_q4 : isIA E115 q4 := isA_up hgw115 h_q4
  have h_p114 : isO 14 E115 p114 := isO_up hgw115 h_p114
  refine lv_astore (lv' := [(6, .ref (ad115 p114)), (5, .int (oI y0)), (0, .ref (ad115 1)), (1, .ref (ad115 q1)), (2, .ref (ad115 q2)), (3, .ref (ad115 q3)), (4, .ref (ad115 q4))]) hx hb d_L4_98 hl (by decide) rfl (fun ls hl => ?_)
  refine lv_iconst (v := oI 0) hx hb d_L4_100 (by decide +kernel) ?_
  refine lv_istore (lv' := [(7, .int (oI 0)), (6, .ref (ad115 p114)), (5, .int (oI y0)), (0, .ref (ad115 1)), (1, .ref (ad115 q1)), (2, .ref (ad115 q2)), (3, .ref (ad115 q3)), (4, .ref (ad115 q4))]) hx hb d_L4_101 hl (by decide) rfl (fun ls hl => ?_)
  refine lv_iconst (v := oI 0) hx hb d_L4_103 (by decide +kernel) ?_
  refine lv_istore (lv' := [(8, .int (oI 0)), (7, .int (oI 0)), (6, .ref (ad115 p114)), (5, .int (oI y0)), (0, .ref (ad115 1)), (1, .ref (ad115 q1)), (2, .ref (ad115 q2)), (3, .ref (ad115 q3)), (4, .ref (ad115 q4))]) hx hb d_L4_104 hl (by decide) rfl (fun ls hl => ?_)
  refine lv_iconst (v := oI 0) hx hb d_L4_106 (by decide +kernel) ?_
  refine lv_istore (lv' := [(9, .int (oI 0)), (8, .int (oI 0)), (7, .int (oI 0)), (6, .ref (ad115 p114)), (5, .int (oI y0)), (0, .ref (ad115 1)), (1, .ref (ad115 q1)), (2, .ref (ad115 q2)), (3, .ref (ad115 q3)), (4, .ref (ad115 q4))]) hx hb d_L4_107 hl (by decide) rfl (fun ls hl => ?_)
  obtain ⟨⟨t131, v131_7, v131_8, v131_9, E131, M131⟩, g131, h⟩ := bd_e h
  obtain ⟨hgw131, h⟩ := ck_e h
  obtain ⟨hL131, h⟩ := ck_e h
  obtain ⟨ok131, h⟩ := ck_e h
  refine s_La_ballots_109 l z E115 ad115 q1 q2 q3 q4 y0 p114 hx hb hml hts hown hlocks hA hG hZ mc ms (c0 + 2) (s0 + 68) (by omega) (by omega) 5000 _ _ ad115 E115 M115 0 0 0 t131 v131_7 v131_8 v131_9 E131 M131 (by omega) (by omega) (fun _ _ => rfl) (Nat.le_refl _) g131 (fun ad131 hag131 hEE131 e131 H locs ls hP hD hS hl => ?_) H locs ls hP hD hS (lv_sub hl [5, 6, 7, 8, 9, 4, 3, 2, 1, 0] rfl)
  have hag0 : ∀ i, i < nE E0 → ad131 i = ad0 i := fun i hi => (hag131 i (Nat.lt_of_lt_of_le hi hE0)).trans (hag0 i hi)
  have hE0 : nE E0 ≤ nE E131 := Nat.le_trans hE0 hgw131.1
  have hL : Lay E131 := hL131
  have h_q1 : isO 12 E131 q1 := isO_up hgw131 h_q1
  have h_q2 : isIA E131 q2 := isA_up hgw131 h_q2
  have h_q3 : isIA E131 q3 := isA_up hgw131 h_q3
  have h_p114 : isO 14 E131 p114 := isO_up hgw131 h_p114
  refine lv_aload_n hx hb d_L4_238 rfl (lv_at hl 0 rfl) ?_
  refine lv_aload hx hb d_L4_239 (lv_at hl 5 rfl) ?_
  obtain ⟨⟨r132, E132, M132⟩, g132, h⟩ := bd_e h
  obtain ⟨hgw132, h⟩ := ck_e h
  refine kV (As := []) (rest := [.ref (ad131 1)]) (s_Sb_toString l z ad131 E131 M131 p114 r132 E132 M132 g132) hx hb hml hown hts w_925 w_922 w_923 w_924 w_19 md_a8ce1c ⟨Nat.le_of_ble_eq_true rfl, Nat.le_of_ble_eq_true rfl⟩ hG hZ hP hD hS hA p114 (wv_o (ci := 14) h_p114.1 h_p114.2) rfl rfl rfl hl.1 rfl (Nat.le_of_ble_eq_true rfl) d_L4_241 ⟨(show _ ≤ mc by omega), (show _ ≤ ms by omega)⟩ (fun u132 H locs hP hD hS => ?_)
  obtain ⟨ad132, had132⟩ : ∃ q, q = adj E131 ad131 u132 := ⟨_, rfl⟩
  have hP : va_P z.1 classes (wv z ad132 E132 M132) H := by rw [had132]; exact hP
  have hD : va_D A (wv z ad132 E132 M132) := by rw [had132]; exact hD
  have hag132 : ∀ i, i < nE E131 → ad132 i = ad131 i := fun i hi => by rw [had132]; exact adj_lt hi
  have hl : lv_has ls 14 [(0, .ref (ad132 1)), (1, .ref (ad132 q1)), (2, .ref (ad132 q2)), (3, .ref (ad132 q3)), (5, .int (oI y0)), (6, .ref (ad132 p114)), (7, .int (oI v131_7))] := by rw [hag132 1 (yi_1 hL), hag132 q1 h_q1.1, hag132 q2 h_q2.1, hag132 q3 h_q3.1, hag132 p114 h_p114.1]; exact hl
  refine W.eq (g2 := F0 m 244 ls (.ref (ad132 r132) :: [.ref (ad132 1)])) (by rw [hag132 1 (yi_1 hL), had132] <;> rfl) ?_
  have hag0 : ∀ i, i < nE E0 → ad132 i = ad0 i := fun i hi => (hag132 i (Nat.lt_of_lt_of_le hi hE0)).trans (hag0 i hi)
  have hE0 : nE E0 ≤ nE E132 := Nat.le_trans hE0 hgw132.1
  obtain ⟨hL, h⟩ := ck_e h
  have h_q1 : isO 12 E132 q1 := isO_up hgw132 h_q1
  have h_q2 : isIA E132 q2 := isA_up hgw132 h_q2
  have h_q3 : isIA E132 q3 := isA_up hgw132 h_q3
  have h_p114 : isO 14 E132 p114 := isO_up hgw132 h_p114
  obtain ⟨h_r132, h⟩ := ck_e h
  obtain ⟨M133, g133, h⟩ := bd_e h
  refine kS (As := [.ref (ad132 1), .ref (ad132 r132)]) (rest := []) (s_La_type l z ad132 E132 M132 r132 M133 hL g133) hx hb hml hown hts w_985 w_983 w_984 w_0 md_7e8d41 ⟨Nat.le_of_ble_eq_true rfl, Nat.le_of_ble_eq_true rfl⟩ hG hZ hP hD hS hA rfl hl.1 rfl (Nat.le_of_ble_eq_true rfl) d_L4_244 ⟨(show _ ≤ mc by omega), (show _ ≤ ms by omega)⟩ (fun _ H locs hP hD hS => ?_)
  have hP : va_P z.1 classes (wv z ad132 E132 M133) H := hP
  have hD : va_D A (wv z ad132 E132 M133) := hD
  refine W.eq (g2 := F0 m 247 ls []) rfl ?_
  refine lv_iconst (v := oI 1) hx hb d_L4_247 (by decide +kernel) ?_
  refine lv_aload_n hx hb d_L4_248 rfl (lv_at hl 2 rfl) ?_
  refine lv_aload_n hx hb d_L4_249 rfl (lv_at hl 2 rfl) ?_
  refine lv_iconst (v := oI 3) hx hb d_L4_250 (by decide +kernel) ?_
  obtain ⟨⟨r134, M134⟩, g134, h⟩ := bd_e h
  refine kS (As := [.ref (ad132 q2), .int (oI 3)]) (rest := [.ref (ad132 q2), .int (oI 1)]) (s_La_next l z ad132 E132 M133 q2 3 r134 M134 hL g134) hx hb hml hown hts w_797 w_795 w_796 w_0 md_199d8f ⟨Nat.le_of_ble_eq_true rfl, Nat.le_of_ble_eq_true rfl⟩ hG hZ hP hD hS hA rfl hl.1 rfl (Nat.le_of_ble_eq_true rfl) d_L4_251 ⟨(show _ ≤ mc by omega), (show _ ≤ ms by omega)⟩ (fun _ H locs hP hD hS => ?_)
  have hP : va_P z.1 classes (wv z ad132 E132 M134) H := hP
  have hD : va_D A (wv z ad132 E132 M134) := hD
  refine W.eq (g2 := F0 m 254 ls [.int (oI r134), .ref (ad132 q2), .int (oI 1)]) rfl ?_
  obtain ⟨ok135, h⟩ := ck_e h
  refine lv_if_ne (tgt := 263) hx hb d_L4_254 (by decide) (fun c9 => ?_) (fun c9 => ?_)
  · have h := ite_f (fun q => c9 ((oI_eq0 ok135).mpr q)) h
    refine lv_bipush (v := oI 12) hx hb d_L4_263 (by decide +kernel) ?_
    exact b_La_ballots_j265 l z E0 ad0 ad132 E132 M134 q1 q3 y0 v131_7 12 q2 1 r F N hx hb hml hts hown hlocks hA hG hZ hr mc ms _ _ c1 s1 (by omega) (by omega) hm hm2 hag0 hE0 h H locs ls hP hD hS (lv_sub hl [0, 1, 3, 4, 6] rfl)
  · have h := ite_t ((oI_eq0 ok135).mp c9) h
    refine lv_sipush (v := oI 900) hx hb d_L4_257 (by decide +kernel) ?_
    refine lv_goto (tgt := 265) hx hb d_L4_260 (by decide) ?_
    exact b_La_ballots_j265 l z E0 ad0 ad132 E132 M134 q1 q3 y0 v131_7 900 q2 1 r F N hx hb hml hts hown hlocks hA hG hZ hr mc ms _ _ c1 s1 (by omega) (by omega) hm hm2 hag0 hE0 h H locs ls hP hD hS (lv_sub hl [0, 1, 3, 4, 6] rfl)
set_option maxRecDepth 100000 in
set_option maxHeartbeats 4000000 in
theorem s_La_ballots (l : Launch) (z : Zz) (ad : Nat → Nat) (E : Ev) (M : Mm) (p1 : Nat) (p2 : Nat) (r : Int) (F : Ev) (N : Mm) (h : f_La_ballots E M p1 p2 = some (r, F, N)) : CT l z ⟨"BallothallLaw", "ballots", "(LBallothall;LBallothallLaw$Box;[I)Z"⟩ method_4_code 14 (some .boolean) [.ref (ad 1), .ref (ad p1), .ref (ad p2)] (wv z ad E M) 6 171 6 264 (fun u => some (.int (oI r))) (fun u => wv z (adj E ad u) F N) := by
  refine CT.of (own := "BallothallLaw") (by decide +kernel) (Nat.le_of_ble_eq_true rfl) rfl (fun p e s m below meth c A ls hx hb hml hr hts hown hlocks hin hA hG hZ hP hD hS hl => ?_)
  have hl : lv_has ls 14 [(0, .ref (ad 1)), (1, .ref (ad p1)), (2, .ref (ad p2))] := hl
  have key : ∀ (E0 : Ev) (ad0 : Nat → Nat) (mc ms c0 s0 c1 s1 : Nat) (H : Heap) (locs : List Loc) (args : Array Value), c0 + 6 ≤ c1 → s0 + 264 ≤ s1 → c1 ≤ mc → s1 ≤ ms → (∀ i, i < nE E0 → ad i = ad0 i) → nE E0 ≤ nE E → (∀ w ∈ WG, w.before args s = true) → va_P z.1 classes (wv z ad E M) H → va_S A s.heap H locs → W p l e (rmK 6 171 mc ms) s m args below meth c H locs c0 s0 (MQ below (QK z A (fun u => some (.int (oI r))) (fun u => wv z (adj E0 ad0 u) F N)) args s c1 s1 A) (F0 m 0 ls []) := by
    intro E0 ad0 mc ms c0 s0 c1 s1 H locs args hc hs hm hm2 hag0 hE0 hts hP hS
    unfold f_La_ballots at h
    obtain ⟨hL, h⟩ := ck_e h
    obtain ⟨h_p1, h⟩ := ck_e h
    obtain ⟨h_p2, h⟩ := ck_e h
    refine lv_aload_n hx hb d_L4_0 rfl (lv_at hl 1 rfl) ?_
    refine m_giN (C := "BallothallLaw$Box") (T := TX12) (N := 4) (ci := 12) (k := 0) hx hb hts iX12 hown hG hP h_p1.1 h_p1.2 rfl (by decide) n_775 rfl (fun _ h9 => h9) rfl rfl d_L4_1 ?_
    obtain ⟨ok100, h⟩ := ck_e h
    obtain ⟨p101, ep101, h⟩ := nb_e h
    obtain ⟨E101, eE101, h⟩ := nb_e h
    obtain ⟨M101, eM101, h⟩ := nb_e h
    refine m_newI (x := (M p1 0)) (N := 64) hx hb ok100.1 ok100.2 (by decide) (hts _ w_100) hG hP hD hS hA (show _ ≤ mc by omega) (show _ ≤ ms by omega) d_L4_4 (fun ad101 H hag101 hP hD hS => ?_)
    have hP : va_P z.1 classes (wv z ad101 E101 M101) H := by rw [eE101, eM101]; exact hP
    have hD : va_D A (wv z ad101 E101 M101) := by rw [eE101, eM101]; exact hD
    refine W.eq (g2 := F0 m 6 ls (.ref (ad101 p101) :: [])) (by rw [ep101] <;> rfl) ?_
    have hl : lv_has ls 14 [(0, .ref (ad101 1)), (1, .ref (ad101 p1)), (2, .ref (ad101 p2))] := by rw [hag101 1 (yi_1 hL), hag101 p1 h_p1.1, hag101 p2 h_p2.1]; exact hl
    have hgw101 : Gw E E101 := by rw [eE101]; exact gw_new _ _
    have hL101 : Lay E101 := by rw [eE101]; exact lay_new hL
    have hag0 : ∀ i, i < nE E0 → ad101 i = ad0 i := fun i hi => (hag101 i (Nat.lt_of_lt_of_le hi hE0)).trans (hag0 i hi)
    have hE0 : nE E0 ≤ nE E101 := Nat.le_trans hE0 hgw101.1
    have hL : Lay E101 := hL101
    have h_p1 : isO 12 E101 p1 := isO_up hgw101 h_p1
    have h_p2 : isIA E101 p2 := isA_up hgw101 h_p2
    have h_p101 : isIA E101 p101 := by rw [ep101, eE101]; exact ⟨new_i _ _, by rw [new_T]⟩
    refine lv_astore_n (lv' := [(3, .ref (ad101 p101)), (0, .ref (ad101 1)), (1, .ref (ad101 p1)), (2, .ref (ad101 p2))]) hx hb d_L4_6 rfl hl (by decide) rfl (fun ls hl => ?_)
    refine lv_aload_n hx hb d_L4_7 rfl (lv_at hl 2 rfl) ?_
    refine m_giN (C := "BallothallLaw$Box") (T := TX12) (N := 4) (ci := 12) (k := 0) hx hb hts iX12 hown hG hP h_p1.1 h_p1.2 rfl (by decide) n_775 rfl (fun _ h9 => h9) rfl rfl d_L4_8 ?_
    obtain ⟨ok102, h⟩ := ck_e h
    obtain ⟨p103, ep103, h⟩ := nb_e h
    obtain ⟨E103, eE103, h⟩ := nb_e h
    obtain ⟨M103, eM103, h⟩ := nb_e h
    refine m_newI (x := (M101 p1 0)) (N := 64) hx hb ok102.1 ok102.2 (by decide) (hts _ w_100) hG hP hD hS hA (show _ ≤ mc by omega) (show _ ≤ ms by omega) d_L4_11 (fun ad103 H hag103 hP hD hS => ?_)
    have hP : va_P z.1 classes (wv z ad103 E103 M103) H := by rw [eE103, eM103]; exact hP
    have hD : va_D A (wv z ad103 E103 M103) := by rw [eE103, eM103]; exact hD
    refine W.eq (g2 := F0 m 13 ls (.ref (ad103 p103) :: [])) (by rw [ep103] <;> rfl) ?_
    have hl : lv_has ls 14 [(3, .ref (ad103 p101)), (0, .ref (ad103 1)), (1, .ref (ad103 p1)), (2, .ref (ad103 p2))] := by rw [hag103 p101 h_p101.1, hag103 1 (yi_1 hL), hag103 p1 h_p1.1, hag103 p2 h_p2.1]; exact hl
    have hgw103 : Gw E101 E103 := by rw [eE103]; exact gw_new _ _
    have hL103 : Lay E103 := by rw [eE103]; exact lay_new hL
    have hag0 : ∀ i, i < nE E0 → ad103 i = ad0 i := fun i hi => (hag103 i (Nat.lt_of_lt_of_le hi hE0)).trans (hag0 i hi)
    have hE0 : nE E0 ≤ nE E103 := Nat.le_trans hE0 hgw103.1
    have hL : Lay E103 := hL103
    have h_p101 : isIA E103 p101 := isA_up hgw103 h_p101
    have h_p1 : isO 12 E103 p1 := isO_up hgw103 h_p1
    have h_p2 : isIA E103 p2 := isA_up hgw103 h_p2
    have h_p103 : isIA E103 p103 := by rw [ep103, eE103]; exact ⟨new_i _ _, by rw [new_T]⟩
    refine lv_astore (lv' := [(4, .ref (ad103 p103)), (3, .ref (ad103 p101)), (0, .ref (ad103 1)), (1, .ref (ad103 p1)), (2, .ref (ad103 p2))]) hx hb d_L4_13 hl (by decide) rfl (fun ls hl => ?_)
    refine lv_iconst (v := oI 0) hx hb d_L4_15 (by decide +kernel) ?_
    refine lv_istore (lv' := [(5, .int (oI 0)), (4, .ref (ad103 p103)), (3, .ref (ad103 p101)), (0, .ref (ad103 1)), (1, .ref (ad103 p1)), (2, .ref (ad103 p2))]) hx hb d_L4_16 hl (by decide) rfl (fun ls hl => ?_)
    obtain ⟨⟨t110, v110_5, E110, M110⟩, g110, h⟩ := bd_e h
    obtain ⟨hgw110, h⟩ := ck_e h
    obtain ⟨hL110, h⟩ := ck_e h
    obtain ⟨ok110, h⟩ := ck_e h
    refine s_La_ballots_18 l z E103 ad103 p1 p2 p101 p103 hx hb hml hts hown hlocks hA hG hZ mc ms (c0 + 2) (s0 + 128) (by omega) (by omega) 5000 _ _ ad103 E103 M103 0 t110 v110_5 E110 M110 (by omega) (by omega) (fun _ _ => rfl) (Nat.le_refl _) g110 (fun ad110 hag110 hEE110 e110 H locs ls hP hD hS hl => ?_) H locs ls hP hD hS (lv_sub hl [3, 4, 5, 2, 1, 0] rfl)
    have hag0 : ∀ i, i < nE E0 → ad110 i = ad0 i := fun i hi => (hag110 i (Nat.lt_of_lt_of_le hi hE0)).trans (hag0 i hi)
    have hE0 : nE E0 ≤ nE E110 := Nat.le_trans hE0 hgw110.1
    have hL : Lay E110 := hL110
    have h_p1 : isO 12 E110 p1 := isO_up hgw110 h_p1
    have h_p2 : isIA E110 p2 := isA_up hgw110 h_p2
    have h_p101 : isIA E110 p101 := isA_up hgw110 h_p101
    have h_p103 : isIA E110 p103 := isA_up hgw110 h_p103
    refine lv_aload_n hx hb d_L4_66 rfl (lv_at hl 2 rfl) ?_
    refine lv_bipush (v := oI 9) hx hb d_L4_67 (by decide +kernel) ?_
    obtain ⟨⟨r111, M111⟩, g111, h⟩ := bd_e h
    refine kS (As := [.ref (ad110 p2), .int (oI 9)]) (rest := []) (s_La_next l z ad110 E110 M110 p2 9 r111 M111 hL g111) hx hb hml hown hts w_797 w_795 w_796 w_0 md_199d8f ⟨Nat.le_of_ble_eq_true rfl, Nat.le_of_ble_eq_true rfl⟩ hG hZ hP hD hS hA rfl hl.1 rfl (Nat.le_of_ble_eq_true rfl) d_L4_69 ⟨(show _ ≤ mc by omega), (show _ ≤ ms by omega)⟩ (fun _ H locs hP hD hS => ?_)
    have hP : va_P z.1 classes (wv z ad110 E110 M111) H := hP
    have hD : va_D A (wv z ad110 E110 M111) := hD
    refine W.eq (g2 := F0 m 72 ls [.int (oI r111)]) rfl ?_
    obtain ⟨ok112, h⟩ := ck_e h
    refine lv_if_ne (tgt := 79) hx hb d_L4_72 (by decide) (fun c9 => ?_) (fun c9 => ?_)
    · have h := ite_f (fun q => c9 ((oI_eq0 ok112).mpr q)) h
      refine lv_iconst (v := oI 1) hx hb d_L4_79 (by decide +kernel) ?_
      refine lv_aload_n hx hb d_L4_80 rfl (lv_at hl 2 rfl) ?_
      refine lv_aload_n hx hb d_L4_81 rfl (lv_at hl 1 rfl) ?_
      refine m_giN (C := "BallothallLaw$Box") (T := TX12) (N := 4) (ci := 12) (k := 0) hx hb hts iX12 hown hG hP h_p1.1 h_p1.2 rfl (by decide) n_775 rfl (fun _ h9 => h9) rfl rfl d_L4_82 ?_
      obtain ⟨⟨r113, M113⟩, g113, h⟩ := bd_e h
      refine kS (As := [.ref (ad110 p2), .int (oI (M111 p1 0))]) (rest := [.int (oI 1)]) (s_La_next l z ad110 E110 M111 p2 (M111 p1 0) r113 M113 hL g113) hx hb hml hown hts w_797 w_795 w_796 w_0 md_199d8f ⟨Nat.le_of_ble_eq_true rfl, Nat.le_of_ble_eq_true rfl⟩ hG hZ hP hD hS hA rfl hl.1 rfl (Nat.le_of_ble_eq_true rfl) d_L4_85 ⟨(show _ ≤ mc by omega), (show _ ≤ ms by omega)⟩ (fun _ H locs hP hD hS => ?_)
      have hP : va_P z.1 classes (wv z ad110 E110 M113) H := hP
      have hD : va_D A (wv z ad110 E110 M113) := hD
      refine W.eq (g2 := F0 m 88 ls [.int (oI r113), .int (oI 1)]) rfl ?_
      refine lv_iadd hx hb d_L4_88 ?_
      refine nrm (oI_add _ _) ?_
      exact b_La_ballots_j89 l z E0 ad0 ad110 E110 M113 p1 p2 p101 p103 (1 + r113) r F N hx hb hml hts hown hlocks hA hG hZ hr mc ms _ _ c1 s1 (by omega) (by omega) hm hm2 hag0 hE0 h H locs ls hP hD hS (lv_sub hl [0, 1, 2, 3, 4] rfl)
    · have h := ite_t ((oI_eq0 ok112).mp c9) h
      refine lv_iconst (v := oI 0) hx hb d_L4_75 (by decide +kernel) ?_
      refine lv_goto (tgt := 89) hx hb d_L4_76 (by decide) ?_
      exact b_La_ballots_j89 l z E0 ad0 ad110 E110 M111 p1 p2 p101 p103 0 r F N hx hb hml hts hown hlocks hA hG hZ hr mc ms _ _ c1 s1 (by omega) (by omega) hm hm2 hag0 hE0 h H locs ls hP hD hS (lv_sub hl [0, 1, 2, 3, 4] rfl)
  exact key E ad 6 264 0 0 6 264 _ _ _ (by decide) (by decide) (by decide) (by decide) (fun _ _ => rfl) (Nat.le_refl _) hts hP hS
set_option maxRecDepth 100000 in
set_option maxHeartbeats 4000000 in
theorem b_B_setLot_j76 (l : Launch) (z : Zz) (ad : Nat → Nat) (E : Ev) (M : Mm) (x2 : Int) (x5 : Int) (y0 : Int) (r : Int) (N : Mm) {p : Program} {e : Env} {s : State} {m : MethodId} {below : List Frame} {meth : Method} {c : Code} {A : Nat → Prop} {args : Array Value} (hx : p.tables.exec = Jvm.exec) (hb : c.code = prog_1_method_3_code) (hml : c.maxLocals = 6) (hts : ∀ w ∈ WG, w.before args s = true) (hown : s.vm.findClass "Ballothall" = some m.cls) (hlocks : meth.locks = false) (hA : ∀ q, s.heap.size ≤ q → A q) (hG : KG z s) (hZ : FZ z A s) (hL : Lay E) (hr : meth.sig.returnType = (some .int)) (h : B_setLot_j76 E M x2 x5 y0 = some (r, N)) : ∀ (H : Heap) (locs : List Loc) (ls : Array Slot), va_P z.1 classes (wv z ad E M) H → va_D A (wv z ad E M) → va_S A s.heap H locs → lv_has ls 6 [(2, .int (oI x2)), (5, .int (oI x5))] → W p l e (rmK 2 63 0 0) s m args below meth c H locs 0 0 (MQ below (QK z A (fun _ => some (.int (oI r))) (fun _ => (wv z ad E N))) args s 0 0 A) (F0 m 76 ls [.int (oI y0), .ref (ad 1)]) := by
  intro H locs ls hP hD hS hl
  unfold B_setLot_j76 at h
  refine lv_iload_n hx hb d_1_3_76 rfl (lv_at hl 0 rfl) ?_
  refine lv_iload hx hb d_1_3_77 (lv_at hl 1 rfl) ?_
  obtain ⟨M106, g106, h⟩ := bd_e h
  refine kV (As := [.int (oI y0), .int (oI x2), .int (oI x5)]) (rest := []) (s_B_remember l z ad E M y0 x2 x5 M106 hL g106) hx hb hml hown hts w_519 w_516 w_518 w_s_b872b3 w_1 md_7af0bb ⟨Nat.le_of_ble_eq_true rfl, Nat.le_of_ble_eq_true rfl⟩ hG hZ hP hD hS hA 1 (wv_o (ci := 11) (yi_1 hL) (yt_1 hL)) rfl rfl rfl hl.1 rfl (Nat.le_of_ble_eq_true rfl) d_1_3_79 ⟨Nat.le_of_ble_eq_true rfl, Nat.le_of_ble_eq_true rfl⟩ (fun _ H locs hP hD hS => ?_)
  have hP : va_P z.1 classes (wv z ad E M106) H := hP
  have hD : va_D A (wv z ad E M106) := hD
  refine W.eq (g2 := F0 m 82 ls []) rfl ?_
  refine lv_iload hx hb d_1_3_82 (lv_at hl 1 rfl) ?_
  obtain ⟨rfl, rfl⟩ := in2 h
  exact W.iret hx hb hr (fun t ht hW => qkA hP hD hS (fun k => k) rfl rfl ht) hS.2.2 d_1_3_84
set_option maxRecDepth 100000 in
set_option maxHeartbeats 4000000 in
theorem b_B_setLot_j53 (l : Launch) (z : Zz) (ad : Nat → Nat) (E : Ev) (M : Mm) (x1 : Int) (x2 : Int) (x3 : Int) (y0 : Nat) (r : Int) (N : Mm) {p : Program} {e : Env} {s : State} {m : MethodId} {below : List Frame} {meth : Method} {c : Code} {A : Nat → Prop} {args : Array Value} (hx : p.tables.exec = Jvm.exec) (hb : c.code = prog_1_method_3_code) (hml : c.maxLocals = 6) (hts : ∀ w ∈ WG, w.before args s = true) (hown : s.vm.findClass "Ballothall" = some m.cls) (hlocks : meth.locks = false) (hA : ∀ q, s.heap.size ≤ q → A q) (hG : KG z s) (hZ : FZ z A s) (hL : Lay E) (hr : meth.sig.returnType = (some .int)) (h : B_setLot_j53 E M x1 x2 x3 y0 = some (r, N)) : ∀ (H : Heap) (locs : List Loc) (ls : Array Slot), va_P z.1 classes (wv z ad E M) H → va_D A (wv z ad E M) → va_S A s.heap H locs → lv_has ls 6 [(0, .ref (ad 1)), (1, .int (oI x1)), (2, .int (oI x2)), (3, .int (oI x3))] → W p l e (rmK 2 63 0 0) s m args below meth c H locs 0 0 (MQ below (QK z A (fun _ => some (.int (oI r))) (fun _ => (wv z ad E N))) args s 0 0 A) (F0 m 53 ls [.ref (ad y0)]) := by
  intro H locs ls hP hD hS hl
  unfold B_setLot_j53 at h
  obtain ⟨h_y0, h⟩ := ck_e h
  refine lv_astore (lv' := [(4, .ref (ad y0)), (0, .ref (ad 1)), (1, .int (oI x1)), (2, .int (oI x2)), (3, .int (oI x3))]) hx hb d_1_3_53 hl (by decide) rfl (fun ls hl => ?_)
  refine lv_aload hx hb d_1_3_55 (lv_at hl 0 rfl) ?_
  refine lv_iload_n hx hb d_1_3_57 rfl (lv_at hl 3 rfl) ?_
  obtain ⟨ok104, h⟩ := ck_e h
  refine m_ia hx hb hG hP h_y0.1 (isIA_T h_y0) ok104 d_1_3_58 ?_
  refine lv_istore (lv' := [(5, .int (oI (M y0 x2.toNat))), (4, .ref (ad y0)), (0, .ref (ad 1)), (1, .int (oI x1)), (2, .int (oI x2)), (3, .int (oI x3))]) hx hb d_1_3_59 hl (by decide) rfl (fun ls hl => ?_)
  refine lv_aload hx hb d_1_3_61 (lv_at hl 1 rfl) ?_
  refine lv_iload_n hx hb d_1_3_63 rfl (lv_at hl 4 rfl) ?_
  refine lv_iload_n hx hb d_1_3_64 rfl (lv_at hl 5 rfl) ?_
  refine m_is hx hb hG hP hD hS h_y0.1 (isIA_T h_y0) ok104 d_1_3_65 (fun H locs hP hD hS => ?_)
  have hP : va_P z.1 classes (wv z ad E (u2 M y0 x2.toNat x3)) H := hP
  have hD : va_D A (wv z ad E (u2 M y0 x2.toNat x3)) := hD
  refine lv_aload_n hx hb d_1_3_66 rfl (lv_at hl 2 rfl) ?_
  refine lv_iload_n hx hb d_1_3_67 rfl (lv_at hl 3 rfl) ?_
  obtain ⟨ok105, h⟩ := ck_e h
  refine lv_if_eq (tgt := 75) hx hb d_1_3_68 (by decide) (fun c9 => ?_) (fun c9 => ?_)
  · have h := ite_t ((oI_eq0 ok105).mp c9) h
    refine lv_iconst (v := oI 1) hx hb d_1_3_75 (by decide +kernel) ?_
    exact b_B_setLot_j76 l z ad E (u2 M y0 x2.toNat x3) x2 (M y0 x2.toNat) 1 r N hx hb hml hts hown hlocks hA hG hZ hL hr h H locs ls hP hD hS (lv_sub hl [4, 0] rfl)
  · have h := ite_f (fun q => c9 ((oI_eq0 ok105).mpr q)) h
    refine lv_iconst (v := oI 2) hx hb d_1_3_71 (by decide +kernel) ?_
    refine lv_goto (tgt := 76) hx hb d_1_3_72 (by decide) ?_
    exact b_B_setLot_j76 l z ad E (u2 M y0 x2.toNat x3) x2 (M y0 x2.toNat) 2 r N hx hb hml hts hown hlocks hA hG hZ hL hr h H locs ls hP hD hS (lv_sub hl [4, 0] rfl)
set_option maxRecDepth 100000 in
set_option maxHeartbeats 4000000 in
theorem b_B_setLot_j22 (l : Launch) (z : Zz) (ad : Nat → Nat) (E : Ev) (M : Mm) (x1 : Int) (x2 : Int) (x3 : Int) (y0 : Int) (y1 : Int) (r : Int) (N : Mm) {p : Program} {e : Env} {s : State} {m : MethodId} {below : List Frame} {meth : Method} {c : Code} {A : Nat → Prop} {args : Array Value} (hx : p.tables.exec = Jvm.exec) (hb : c.code = prog_1_method_3_code) (hml : c.maxLocals = 6) (hts : ∀ w ∈ WG, w.before args s = true) (hown : s.vm.findClass "Ballothall" = some m.cls) (hlocks : meth.locks = false) (hA : ∀ q, s.heap.size ≤ q → A q) (hG : KG z s) (hZ : FZ z A s) (hL : Lay E) (hr : meth.sig.returnType = (some .int)) (h : B_setLot_j22 E M x1 x2 x3 y0 y1 = some (r, N)) : ∀ (H : Heap) (locs : List Loc) (ls : Array Slot), va_P z.1 classes (wv z ad E M) H → va_D A (wv z ad E M) → va_S A s.heap H locs → lv_has ls 6 [(0, .ref (ad 1)), (1, .int (oI x1)), (2, .int (oI x2)), (3, .int (oI x3))] → W p l e (rmK 2 63 0 0) s m args below meth c H locs 0 0 (MQ below (QK z A (fun _ => some (.int (oI r))) (fun _ => (wv z ad E N))) args s 0 0 A) (F0 m 22 ls [.int (oI y0), .int (oI y1)]) := by
  intro H locs ls hP hD hS hl
  unfold B_setLot_j22 at h
  obtain ⟨_, g101, h⟩ := bd_e h
  refine kS (As := [.int (oI y1), .int (oI y0)]) (rest := []) (s_B_needIndex l z ad E M y1 y0 hL g101) hx hb hml hown hts w_529 w_527 w_528 w_1 md_6cb26b ⟨Nat.le_of_ble_eq_true rfl, Nat.le_of_ble_eq_true rfl⟩ hG hZ hP hD hS hA rfl hl.1 rfl (Nat.le_of_ble_eq_true rfl) d_1_3_22 ⟨Nat.le_of_ble_eq_true rfl, Nat.le_of_ble_eq_true rfl⟩ (fun _ H locs hP hD hS => ?_)
  have hP : va_P z.1 classes (wv z ad E M) H := hP
  have hD : va_D A (wv z ad E M) := hD
  refine W.eq (g2 := F0 m 25 ls []) rfl ?_
  refine lv_iload_n hx hb d_1_3_25 rfl (lv_at hl 3 rfl) ?_
  refine lv_iconst (v := oI 0) hx hb d_1_3_26 (by decide +kernel) ?_
  refine lv_bipush (v := oI 99) hx hb d_1_3_27 (by decide +kernel) ?_
  obtain ⟨_, g102, h⟩ := bd_e h
  refine kS (As := [.int (oI x3), .int (oI 0), .int (oI 99)]) (rest := []) (s_B_needRange l z ad E M x3 0 99 hL g102) hx hb hml hown hts w_548 w_546 w_547 w_1 md_519134 ⟨Nat.le_of_ble_eq_true rfl, Nat.le_of_ble_eq_true rfl⟩ hG hZ hP hD hS hA rfl hl.1 rfl (Nat.le_of_ble_eq_true rfl) d_1_3_29 ⟨Nat.le_of_ble_eq_true rfl, Nat.le_of_ble_eq_true rfl⟩ (fun _ H locs hP hD hS => ?_)
  have hP : va_P z.1 classes (wv z ad E M) H := hP
  have hD : va_D A (wv z ad E M) := hD
  refine W.eq (g2 := F0 m 32 ls []) rfl ?_
  refine lv_iload_n hx hb d_1_3_32 rfl (lv_at hl 1 rfl) ?_
  obtain ⟨ok103, h⟩ := ck_e h
  refine lv_if_eq (tgt := 46) hx hb d_1_3_33 (by decide) (fun c9 => ?_) (fun c9 => ?_)
  · have h := ite_t ((oI_eq0 ok103).mp c9) h
    refine lv_aload_n hx hb d_1_3_46 rfl (lv_at hl 0 rfl) ?_
    refine m_gr (j := 2) (C := "Ballothall") (T := TX11) (N := 14) (ci := 11) (k := 0) hx hb hts iX11 hown hG hP (yi_1 hL) (yt_1 hL) rfl (by decide) w_397 (fun _ h9 => h9) rfl rfl (yr_1_0 hL) d_1_3_47 ?_
    refine m_grN (j := 4) (C := "Ballothall$BallotBox") (T := TX0) (N := 10) (ci := 0) (k := 4) hx hb hts iX0 hown hG hP (yi_2 hL) (yt_2 hL) rfl (by decide) n_62 rfl (fun _ h9 => h9) rfl rfl (yr_2_4 hL) d_1_3_50 ?_
    exact b_B_setLot_j53 l z ad E M x1 x2 x3 4 r N hx hb hml hts hown hlocks hA hG hZ hL hr h H locs ls hP hD hS (lv_sub hl [0, 1, 2, 3] rfl)
  · have h := ite_f (fun q => c9 ((oI_eq0 ok103).mpr q)) h
    refine lv_aload_n hx hb d_1_3_36 rfl (lv_at hl 0 rfl) ?_
    refine m_gr (j := 53) (C := "Ballothall") (T := TX11) (N := 14) (ci := 11) (k := 3) hx hb hts iX11 hown hG hP (yi_1 hL) (yt_1 hL) rfl (by decide) w_400 (fun _ h9 => h9) rfl rfl (yr_1_3 hL) d_1_3_37 ?_
    refine m_grN (j := 56) (C := "Ballothall$Lists") (T := TX7) (N := 11) (ci := 7) (k := 3) hx hb hts iX7 hown hG hP (yi_53 hL) (yt_53 hL) rfl (by decide) n_248 rfl (fun _ h9 => h9) rfl rfl (yr_53_3 hL) d_1_3_40 ?_
    refine lv_goto (tgt := 53) hx hb d_1_3_43 (by decide) ?_
    exact b_B_setLot_j53 l z ad E M x1 x2 x3 56 r N hx hb hml hts hown hlocks hA hG hZ hL hr h H locs ls hP hD hS (lv_sub hl [0, 1, 2, 3] rfl)
set_option maxRecDepth 100000 in
set_option maxHeartbeats 4000000 in
theorem s_B_setLot (l : Launch) (z : Zz) (ad : Nat → Nat) (E : Ev) (M : Mm) (x1 : Int) (x2 : Int) (x3 : Int) (r : Int) (N : Mm) (hL : Lay E) (h : f_B_setLot E M x1 x2 x3 = some (r, N)) : CT l z ⟨"Ballothall", "setLot", "(ZII)I"⟩ prog_1_method_3_code 6 (some .int) [.ref (ad 1), .int (oI x1), .int (oI x2), .int (oI x3)] (wv z ad E M) 2 63 0 0 (fun _ => some (.int (oI r))) (fun _ => (wv z ad E N)) := by
  refine CT.of (own := "Ballothall") (by decide +kernel) (Nat.le_of_ble_eq_true rfl) rfl (fun p e s m below meth c A ls hx hb hml hr hts hown hlocks hin hA hG hZ hP hD hS hl => ?_)
  have hl : lv_has ls 6 [(0, .ref (ad 1)), (1, .int (oI x1)), (2, .int (oI x2)), (3, .int (oI x3))] := hl
  have key : ∀ (H : Heap) (locs : List Loc) (args : Array Value), (∀ w ∈ WG, w.before args s = true) → va_P z.1 classes (wv z ad E M) H → va_S A s.heap H locs → W p l e (rmK 2 63 0 0) s m args below meth c H locs 0 0 (MQ below (QK z A (fun _ => some (.int (oI r))) (fun _ => (wv z ad E N))) args s 0 0 A) (F0 m 0 ls []) := by
    intro H locs args hts hP hS
    unfold f_B_setLot at h
    refine lv_iload_n hx hb d_1_3_0 rfl (lv_at hl 2 rfl) ?_
    refine lv_iload_n hx hb d_1_3_1 rfl (lv_at hl 1 rfl) ?_
    obtain ⟨ok100, h⟩ := ck_e h
    refine lv_if_eq (tgt := 15) hx hb d_1_3_2 (by decide) (fun c9 => ?_) (fun c9 => ?_)
    · have h := ite_t ((oI_eq0 ok100).mp c9) h
      refine lv_aload_n hx hb d_1_3_15 rfl (lv_at hl 0 rfl) ?_
      refine m_gr (j := 2) (C := "Ballothall") (T := TX11) (N := 14) (ci := 11) (k := 0) hx hb hts iX11 hown hG hP (yi_1 hL) (yt_1 hL) rfl (by decide) w_397 (fun _ h9 => h9) rfl rfl (yr_1_0 hL) d_1_3_16 ?_
      refine m_giN (C := "Ballothall$BallotBox") (T := TX0) (N := 10) (ci := 0) (k := 2) hx hb hts iX0 hown hG hP (yi_2 hL) (yt_2 hL) rfl (by decide) n_52 rfl (fun _ h9 => h9) rfl rfl d_1_3_19 ?_
      exact b_B_setLot_j22 l z ad E M x1 x2 x3 (M 2 2) x2 r N hx hb hml hts hown hlocks hA hG hZ hL hr h H locs ls hP hD hS (lv_sub hl [0, 1, 2, 3] rfl)
    · have h := ite_f (fun q => c9 ((oI_eq0 ok100).mpr q)) h
      refine lv_aload_n hx hb d_1_3_5 rfl (lv_at hl 0 rfl) ?_
      refine m_gr (j := 53) (C := "Ballothall") (T := TX11) (N := 14) (ci := 11) (k := 3) hx hb hts iX11 hown hG hP (yi_1 hL) (yt_1 hL) rfl (by decide) w_400 (fun _ h9 => h9) rfl rfl (yr_1_3 hL) d_1_3_6 ?_
      refine m_giN (C := "Ballothall$Lists") (T := TX7) (N := 11) (ci := 7) (k := 0) hx hb hts iX7 hown hG hP (yi_53 hL) (yt_53 hL) rfl (by decide) n_243 rfl (fun _ h9 => h9) rfl rfl d_1_3_9 ?_
      refine lv_goto (tgt := 22) hx hb d_1_3_12 (by decide) ?_
      exact b_B_setLot_j22 l z ad E M x1 x2 x3 (M 53 0) x2 r N hx hb hml hts hown hlocks hA hG hZ hL hr h H locs ls hP hD hS (lv_sub hl [0, 1, 2, 3] rfl)
  exact key _ _ _ hts hP hS
set_option maxRecDepth 100000 in
set_option maxHeartbeats 4000000 in
theorem b_Bx_ballotsOf_5b (l : Launch) (z : Zz) (ad : Nat → Nat) (E : Ev) (M : Mm) (q1 : Nat) (x2 : Int) (x3 : Int) (x4 : Int) (t : Nat) (w3 : Int) (w4 : Int)  {Q : State → Prop} {p : Program} {e : Env} {s : State} {m : MethodId} {below : List Frame} {meth : Method} {c : Code} {A : Nat → Prop} {args : Array Value} (hx : p.tables.exec = Jvm.exec) (hb : c.code = prog_2_method_4_code) (hml : c.maxLocals = 5) (hts : ∀ w ∈ WG, w.before args s = true) (hown : s.vm.findClass "Ballothall$BallotBox" = some m.cls) (hlocks : meth.locks = false) (hA : ∀ q, s.heap.size ≤ q → A q) (hG : KG z s) (hZ : FZ z A s) (hL : Lay E) (h : Bx_ballotsOf_5b E M q1 x2 x3 x4 = some (t, w3, w4)) (k0 : t = 0 → ∀ (H : Heap) (locs : List Loc) (ls : Array Slot), va_P z.1 classes (wv z ad E M) H → va_D A (wv z ad E M) → va_S A s.heap H locs → lv_has ls 5 [(1, .ref (ad q1)), (2, .int (oI x2)), (3, .int (oI w3)), (4, .int (oI w4))] → W p l e (rmK 0 20 0 0) s m args below meth c H locs 0 0 Q (F0 m 5 ls [])) (k1 : t = 1 → ∀ (H : Heap) (locs : List Loc) (ls : Array Slot), va_P z.1 classes (wv z ad E M) H → va_D A (wv z ad E M) → va_S A s.heap H locs → lv_has ls 5 [(3, .int (oI w3))] → W p l e (rmK 0 20 0 0) s m args below meth c H locs 0 0 Q (F0 m 24 ls [])) : ∀ (H : Heap) (locs : List Loc) (ls : Array Slot), va_P z.1 classes (wv z ad E M) H → va_D A (wv z ad E M) → va_S A s.heap H locs → lv_has ls 5 [(1, .ref (ad q1)), (2, .int (oI x2)), (3, .int (oI x3)), (4, .int (oI x4))] → W p l e (rmK 0 20 0 0) s m args below meth c H locs 0 0 Q (F0 m 5 ls []) := by
  intro H locs ls hP hD hS hl
  unfold Bx_ballotsOf_5b at h
  obtain ⟨h_q1, h⟩ := ck_e h
  refine lv_iload hx hb d_2_4_5 (lv_at hl 3 rfl) ?_
  refine lv_iload_n hx hb d_2_4_7 rfl (lv_at hl 1 rfl) ?_
  obtain ⟨ok100, h⟩ := ck_e h
  obtain ⟨ok101, h⟩ := ck_e h
  refine lv_icmp_ge (tgt := 24) hx hb d_2_4_8 (by decide) (fun c9 => ?_) (fun c9 => ?_)
  · have h := ite_t ((oI_le (a := x2) (b := x4) ok101 ok100).mp c9) h
    obtain ⟨rfl, rfl, rfl⟩ := in3 h
    exact k1 rfl H locs ls hP hD hS (lv_sub hl [2] rfl)
  · have h := ite_f (fun q => c9 ((oI_le (a := x2) (b := x4) ok101 ok100).mpr q)) h
    refine lv_iload_n hx hb d_2_4_11 rfl (lv_at hl 2 rfl) ?_
    refine lv_aload_n hx hb d_2_4_12 rfl (lv_at hl 0 rfl) ?_
    refine lv_iload hx hb d_2_4_13 (lv_at hl 3 rfl) ?_
    obtain ⟨ok102, h⟩ := ck_e h
    refine m_ia hx hb hG hP h_q1.1 (isIA_T h_q1) ok102 d_2_4_15 ?_
    refine lv_iadd hx hb d_2_4_16 ?_
    refine nrm (oI_add _ _) ?_
    refine lv_istore_n (lv' := [(3, .int (oI (x3 + (M q1 x4.toNat)))), (1, .ref (ad q1)), (2, .int (oI x2)), (4, .int (oI x4))]) hx hb d_2_4_17 rfl hl (by decide) rfl (fun ls hl => ?_)
    refine lv_iinc (v := oI (x4 + 1)) (lv' := [(4, .int (oI (x4 + 1))), (3, .int (oI (x3 + (M q1 x4.toNat)))), (1, .ref (ad q1)), (2, .int (oI x2))]) hx hb d_2_4_18 hl (k := 3) rfl (oI_add x4 1) (by decide) rfl (fun ls hl => ?_)
    refine lv_goto (tgt := 5) hx hb d_2_4_21 (by decide) ?_
    obtain ⟨rfl, rfl, rfl⟩ := in3 h
    exact k0 rfl H locs ls hP hD hS (lv_sub hl [2, 3, 1, 0] rfl)
