set_option maxRecDepth 100000 in
set_option maxHeartbeats 4000000 in
theorem b_Bx_rankOf_2b (l : Launch) (z : Zz) (ad : Nat → Nat) (E : Ev) (M : Mm) (x1 : Int) (x2 : Int) (x3 : Int) (t : Nat) (w3 : Int)  {Q : State → Prop} {p : Program} {e : Env} {s : State} {m : MethodId} {below : List Frame} {meth : Method} {c : Code} {A : Nat → Prop} {args : Array Value} (hx : p.tables.exec = Jvm.exec) (hb : c.code = prog_2_method_12_code) (hml : c.maxLocals = 4) (hts : ∀ w ∈ WG, w.before args s = true) (hown : s.vm.findClass "Ballothall$BallotBox" = some m.cls) (hlocks : meth.locks = false) (hA : ∀ q, s.heap.size ≤ q → A q) (hG : KG z s) (hZ : FZ z A s) (hL : Lay E) (h : Bx_rankOf_2b E M x1 x2 x3 = some (t, w3)) (k0 : t = 0 → ∀ (H : Heap) (locs : List Loc) (ls : Array Slot), va_P z.1 classes (wv z ad E M) H → va_D A (wv z ad E M) → va_S A s.heap H locs → lv_has ls 4 [(0, .ref (ad 2)), (1, .int (oI x1)), (2, .int (oI x2)), (3, .int (oI w3))] → W p l e (rmK 1 41 0 0) s m args below meth c H locs 0 0 Q (F0 m 2 ls [])) (k1 : t = 1 → ∀ (H : Heap) (locs : List Loc) (ls : Array Slot), va_P z.1 classes (wv z ad E M) H → va_D A (wv z ad E M) → va_S A s.heap H locs → lv_has ls 4 [(3, .int (oI w3))] → W p l e (rmK 1 41 0 0) s m args below meth c H locs 0 0 Q (F0 m 27 ls [])) (k2 : t = 2 → ∀ (H : Heap) (locs : List Loc) (ls : Array Slot), va_P z.1 classes (wv z ad E M) H → va_D A (wv z ad E M) → va_S A s.heap H locs → lv_has ls 4 [(0, .ref (ad 2)), (1, .int (oI x1))] → W p l e (rmK 1 41 0 0) s m args below meth c H locs 0 0 Q (F0 m 35 ls [])) : ∀ (H : Heap) (locs : List Loc) (ls : Array Slot), va_P z.1 classes (wv z ad E M) H → va_D A (wv z ad E M) → va_S A s.heap H locs → lv_has ls 4 [(0, .ref (ad 2)), (1, .int (oI x1)), (2, .int (oI x2)), (3, .int (oI x3))] → W p l e (rmK 1 41 0 0) s m args below meth c H locs 0 0 Q (F0 m 2 ls []) := by
  intro H locs ls hP hD hS hl
  unfold Bx_rankOf_2b at h
  refine lv_iload_n hx hb d_2_12_2 rfl (lv_at hl 3 rfl) ?_
  refine lv_aload_n hx hb d_2_12_3 rfl (lv_at hl 0 rfl) ?_
  refine m_gr (j := 7) (C := "Ballothall$BallotBox") (T := TX0) (N := 10) (ci := 0) (k := 7) hx hb hts iX0 hown hG hP (yi_2 hL) (yt_2 hL) rfl (by decide) w_72 (fun _ h9 => h9) rfl rfl (yr_2_7 hL) d_2_12_4 ?_
  refine lv_iload_n hx hb d_2_12_7 rfl (lv_at hl 1 rfl) ?_
  obtain ⟨ok0, h⟩ := ck_e h
  refine m_ia hx hb hG hP (yi_7 hL) (yt_7 hL) ok0 d_2_12_8 ?_
  obtain ⟨ok1, h⟩ := ck_e h
  obtain ⟨ok2, h⟩ := ck_e h
  refine lv_icmp_ge (tgt := 35) hx hb d_2_12_9 (by decide) (fun c9 => ?_) (fun c9 => ?_)
  · have h := ite_t ((oI_le (a := (M 7 x1.toNat)) (b := x3) ok2 ok1).mp c9) h
    obtain ⟨rfl, rfl⟩ := in2 h
    exact k2 rfl H locs ls hP hD hS (lv_sub hl [0, 1] rfl)
  · have h := ite_f (fun q => c9 ((oI_le (a := (M 7 x1.toNat)) (b := x3) ok2 ok1).mpr q)) h
    refine lv_aload_n hx hb d_2_12_12 rfl (lv_at hl 0 rfl) ?_
    refine m_gr (j := 8) (C := "Ballothall$BallotBox") (T := TX0) (N := 10) (ci := 0) (k := 8) hx hb hts iX0 hown hG hP (yi_2 hL) (yt_2 hL) rfl (by decide) w_74 (fun _ h9 => h9) rfl rfl (yr_2_8 hL) d_2_12_13 ?_
    refine lv_iload_n hx hb d_2_12_16 rfl (lv_at hl 1 rfl) ?_
    refine m_ar (k := (9 + x1.toNat)) hx hb hG hP (yi_8 hL) (yt_8 hL) ok0 (ya_8 hL (inb_lt ok0)) d_2_12_17 ?_
    refine lv_iload_n hx hb d_2_12_18 rfl (lv_at hl 3 rfl) ?_
    obtain ⟨ok3, h⟩ := ck_e h
    refine m_ia hx hb hG hP (yg_8 hL ok0).1 (yg_8 hL ok0).2 ok3 d_2_12_19 ?_
    refine lv_iload_n hx hb d_2_12_20 rfl (lv_at hl 2 rfl) ?_
    obtain ⟨r4, g4, h⟩ := bd_e h
    refine kSN (As := [.int (oI (M (9 + x1.toNat) x3.toNat)), .int (oI x2)]) (rest := []) (s_B_has l z ad E M (M (9 + x1.toNat) x3.toNat) x2 r4 hL g4) hx hb hml hown hts w_693 n_1031 w_692 w_1 md_26545c ⟨Nat.le_of_ble_eq_true rfl, Nat.le_of_ble_eq_true rfl⟩ hG hZ hP hD hS hA rfl hl.1 rfl (Nat.le_of_ble_eq_true rfl) d_2_12_21 ⟨Nat.le_of_ble_eq_true rfl, Nat.le_of_ble_eq_true rfl⟩ (fun _ H locs hP hD hS => ?_)
    have hP : va_P z.1 classes (wv z ad E M) H := hP
    have hD : va_D A (wv z ad E M) := hD
    refine W.eq (g2 := F0 m 24 ls [.int (oI r4)]) rfl ?_
    obtain ⟨ok5, h⟩ := ck_e h
    refine lv_if_eq (tgt := 29) hx hb d_2_12_24 (by decide) (fun c9 => ?_) (fun c9 => ?_)
    · have h := ite_t ((oI_eq0 ok5).mp c9) h
      refine lv_iinc (v := oI (x3 + 1)) (lv' := [(3, .int (oI (x3 + 1))), (0, .ref (ad 2)), (1, .int (oI x1)), (2, .int (oI x2))]) hx hb d_2_12_29 hl (k := 3) rfl (oI_add x3 1) (by decide) rfl (fun ls hl => ?_)
      refine lv_goto (tgt := 2) hx hb d_2_12_32 (by decide) ?_
      obtain ⟨rfl, rfl⟩ := in2 h
      exact k0 rfl H locs ls hP hD hS (lv_sub hl [1, 2, 3, 0] rfl)
    · have h := ite_f (fun q => c9 ((oI_eq0 ok5).mpr q)) h
      obtain ⟨rfl, rfl⟩ := in2 h
      exact k1 rfl H locs ls hP hD hS (lv_sub hl [3] rfl)
set_option maxRecDepth 100000 in
set_option maxHeartbeats 4000000 in
theorem s_Bx_rankOf_2 (l : Launch) (z : Zz) (ad : Nat → Nat) (E : Ev) (x1 : Int) (x2 : Int) {Q : State → Prop} {p : Program} {e : Env} {s : State} {m : MethodId} {below : List Frame} {meth : Method} {c : Code} {A : Nat → Prop} {args : Array Value} (hx : p.tables.exec = Jvm.exec) (hb : c.code = prog_2_method_12_code) (hml : c.maxLocals = 4) (hts : ∀ w ∈ WG, w.before args s = true) (hown : s.vm.findClass "Ballothall$BallotBox" = some m.cls) (hlocks : meth.locks = false) (hA : ∀ q, s.heap.size ≤ q → A q) (hG : KG z s) (hZ : FZ z A s) (hL : Lay E) : ∀ (fu : Nat) (M : Mm) (x3 : Int) (t : Nat) (w3 : Int), l_Bx_rankOf_2 E x1 x2 fu M x3 = some (t, w3) → (t = 1 → ∀ (H : Heap) (locs : List Loc) (ls : Array Slot), va_P z.1 classes (wv z ad E M) H → va_D A (wv z ad E M) → va_S A s.heap H locs → lv_has ls 4 [(3, .int (oI w3))] → W p l e (rmK 1 41 0 0) s m args below meth c H locs 0 0 Q (F0 m 27 ls [])) → (t = 2 → ∀ (H : Heap) (locs : List Loc) (ls : Array Slot), va_P z.1 classes (wv z ad E M) H → va_D A (wv z ad E M) → va_S A s.heap H locs → lv_has ls 4 [(0, .ref (ad 2)), (1, .int (oI x1))] → W p l e (rmK 1 41 0 0) s m args below meth c H locs 0 0 Q (F0 m 35 ls [])) → ∀ (H : Heap) (locs : List Loc) (ls : Array Slot), va_P z.1 classes (wv z ad E M) H → va_D A (wv z ad E M) → va_S A s.heap H locs → lv_has ls 4 [(0, .ref (ad 2)), (1, .int (oI x1)), (2, .int (oI x2)), (3, .int (oI x3))] → W p l e (rmK 1 41 0 0) s m args below meth c H locs 0 0 Q (F0 m 2 ls []) := by
  intro fu
  induction fu with
  | zero =>
    intro M x3 t w3 h
    have h : (none : Option (Nat × Int)) = some _ := h
    cases h
  | succ fu ih =>
    intro M x3 t w3 h k1 k2 H locs ls hP hD hS hl
    obtain ⟨⟨t0, w30⟩, g0, h⟩ := bd_e h
    refine b_Bx_rankOf_2b l z ad E M x1 x2 x3 t0 w30 hx hb hml hts hown hlocks hA hG hZ hL g0 (fun e0 => ?_) (fun e0 => ?_) (fun e0 => ?_) H locs ls hP hD hS hl
    · subst e0
      have h := ite_t rfl h
      exact ih M w30 t w3 h k1 k2
    · subst e0
      have h := ite_f (by decide) h
      obtain ⟨rfl, rfl⟩ := in2 h
      exact k1 rfl
    · subst e0
      have h := ite_f (by decide) h
      obtain ⟨rfl, rfl⟩ := in2 h
      exact k2 rfl
set_option maxRecDepth 100000 in
set_option maxHeartbeats 4000000 in
theorem s_Bx_rankOf (l : Launch) (z : Zz) (ad : Nat → Nat) (E : Ev) (M : Mm) (x1 : Int) (x2 : Int) (r : Int)  (hL : Lay E) (h : f_Bx_rankOf E M x1 x2 = some r) : CT l z ⟨"Ballothall$BallotBox", "rankOf", "(II)I"⟩ prog_2_method_12_code 4 (some .int) [.ref (ad 2), .int (oI x1), .int (oI x2)] (wv z ad E M) 1 41 0 0 (fun _ => some (.int (oI r))) (fun _ => (wv z ad E M)) := by
  refine CT.of (own := "Ballothall$BallotBox") (by decide +kernel) (Nat.le_of_ble_eq_true rfl) rfl (fun p e s m below meth c A ls hx hb hml hr hts hown hlocks hin hA hG hZ hP hD hS hl => ?_)
  have hl : lv_has ls 4 [(0, .ref (ad 2)), (1, .int (oI x1)), (2, .int (oI x2))] := hl
  have key : ∀ (H : Heap) (locs : List Loc) (args : Array Value), (∀ w ∈ WG, w.before args s = true) → va_P z.1 classes (wv z ad E M) H → va_S A s.heap H locs → W p l e (rmK 1 41 0 0) s m args below meth c H locs 0 0 (MQ below (QK z A (fun _ => some (.int (oI r))) (fun _ => (wv z ad E M))) args s 0 0 A) (F0 m 0 ls []) := by
    intro H locs args hts hP hS
    unfold f_Bx_rankOf at h
    refine lv_iconst (v := oI 0) hx hb d_2_12_0 (by decide +kernel) ?_
    refine lv_istore_n (lv' := [(3, .int (oI 0)), (0, .ref (ad 2)), (1, .int (oI x1)), (2, .int (oI x2))]) hx hb d_2_12_1 rfl hl (by decide) rfl (fun ls hl => ?_)
    obtain ⟨⟨t6, v6_3⟩, g6, h⟩ := bd_e h
    refine s_Bx_rankOf_2 l z ad E x1 x2 hx hb hml hts hown hlocks hA hG hZ hL FU M 0 t6 v6_3 g6 (fun e6 H locs ls hP hD hS hl => ?_) (fun e6 H locs ls hP hD hS hl => ?_) H locs ls hP hD hS (lv_sub hl [1, 2, 3, 0] rfl)
    · subst e6
      have h := ite_t rfl h
      refine lv_iload_n hx hb d_2_12_27 rfl (lv_at hl 0 rfl) ?_
      obtain rfl := in1 h
      exact W.iret hx hb hr (fun t ht hW => qkA hP hD hS (fun k => k) rfl rfl ht) hS.2.2 d_2_12_28
    · subst e6
      have h := ite_f (by decide) h
      have h := ite_t rfl h
      refine lv_aload_n hx hb d_2_12_35 rfl (lv_at hl 0 rfl) ?_
      refine m_gr (j := 7) (C := "Ballothall$BallotBox") (T := TX0) (N := 10) (ci := 0) (k := 7) hx hb hts iX0 hown hG hP (yi_2 hL) (yt_2 hL) rfl (by decide) w_72 (fun _ h9 => h9) rfl rfl (yr_2_7 hL) d_2_12_36 ?_
      refine lv_iload_n hx hb d_2_12_39 rfl (lv_at hl 1 rfl) ?_
      obtain ⟨ok7, h⟩ := ck_e h
      refine m_ia hx hb hG hP (yi_7 hL) (yt_7 hL) ok7 d_2_12_40 ?_
      obtain rfl := in1 h
      exact W.iret hx hb hr (fun t ht hW => qkA hP hD hS (fun k => k) rfl rfl ht) hS.2.2 d_2_12_41
  exact key _ _ _ hts hP hS
set_option maxRecDepth 100000 in
set_option maxHeartbeats 4000000 in
theorem b_Fb_aheadOf_16b (l : Launch) (z : Zz) (ad : Nat → Nat) (E : Ev) (M : Mm) (x1 : Int) (x4 : Int) (x3 : Int) (x5 : Int) (t : Nat) (w3 : Int) (w5 : Int)  {Q : State → Prop} {p : Program} {e : Env} {s : State} {m : MethodId} {below : List Frame} {meth : Method} {c : Code} {A : Nat → Prop} {args : Array Value} (hx : p.tables.exec = Jvm.exec) (hb : c.code = prog_7_method_3_code) (hml : c.maxLocals = 6) (hts : ∀ w ∈ WG, w.before args s = true) (hown : s.vm.findClass "Ballothall$FalseBallot" = some m.cls) (hlocks : meth.locks = false) (hA : ∀ q, s.heap.size ≤ q → A q) (hG : KG z s) (hZ : FZ z A s) (hL : Lay E) (h : Fb_aheadOf_16b E M x1 x4 x3 x5 = some (t, w3, w5)) (k0 : t = 0 → ∀ (H : Heap) (locs : List Loc) (ls : Array Slot), va_P z.1 classes (wv z ad E M) H → va_D A (wv z ad E M) → va_S A s.heap H locs → lv_has ls 6 [(0, .ref (ad 51)), (1, .int (oI x1)), (3, .int (oI w3)), (4, .int (oI x4)), (5, .int (oI w5))] → W p l e (rmK 2 64 0 0) s m args below meth c H locs 0 0 Q (F0 m 16 ls [])) (k1 : t = 1 → ∀ (H : Heap) (locs : List Loc) (ls : Array Slot), va_P z.1 classes (wv z ad E M) H → va_D A (wv z ad E M) → va_S A s.heap H locs → lv_has ls 6 [(3, .int (oI w3))] → W p l e (rmK 2 64 0 0) s m args below meth c H locs 0 0 Q (F0 m 44 ls [])) : ∀ (H : Heap) (locs : List Loc) (ls : Array Slot), va_P z.1 classes (wv z ad E M) H → va_D A (wv z ad E M) → va_S A s.heap H locs → lv_has ls 6 [(0, .ref (ad 51)), (1, .int (oI x1)), (3, .int (oI x3)), (4, .int (oI x4)), (5, .int (oI x5))] → W p l e (rmK 2 64 0 0) s m args below meth c H locs 0 0 Q (F0 m 16 ls []) := by
  intro H locs ls hP hD hS hl
  unfold Fb_aheadOf_16b at h
  refine lv_iload hx hb d_7_3_16 (lv_at hl 4 rfl) ?_
  refine lv_iload hx hb d_7_3_18 (lv_at hl 3 rfl) ?_
  obtain ⟨ok1, h⟩ := ck_e h
  obtain ⟨ok2, h⟩ := ck_e h
  refine lv_icmp_ge (tgt := 44) hx hb d_7_3_20 (by decide) (fun c9 => ?_) (fun c9 => ?_)
  · have h := ite_t ((oI_le (a := x4) (b := x5) ok2 ok1).mp c9) h
    obtain ⟨rfl, rfl, rfl⟩ := in3 h
    exact k1 rfl H locs ls hP hD hS (lv_sub hl [2] rfl)
  · have h := ite_f (fun q => c9 ((oI_le (a := x4) (b := x5) ok2 ok1).mpr q)) h
    refine lv_iload_n hx hb d_7_3_23 rfl (lv_at hl 2 rfl) ?_
    refine lv_aload_n hx hb d_7_3_24 rfl (lv_at hl 0 rfl) ?_
    refine m_gr (j := 2) (C := "Ballothall$FalseBallot") (T := TX5) (N := 3) (ci := 5) (k := 0) hx hb hts iX5 hown hG hP (yi_51 hL) (yt_51 hL) rfl (by decide) w_152 (fun _ h9 => h9) rfl rfl (yr_51_0 hL) d_7_3_25 ?_
    refine m_grN (j := 8) (C := "Ballothall$BallotBox") (T := TX0) (N := 10) (ci := 0) (k := 8) hx hb hts iX0 hown hG hP (yi_2 hL) (yt_2 hL) rfl (by decide) n_75 rfl (fun _ h9 => h9) rfl rfl (yr_2_8 hL) d_7_3_28 ?_
    refine lv_iload_n hx hb d_7_3_31 rfl (lv_at hl 1 rfl) ?_
    obtain ⟨ok3, h⟩ := ck_e h
    refine m_ar (k := (9 + x1.toNat)) hx hb hG hP (yi_8 hL) (yt_8 hL) ok3 (ya_8 hL (inb_lt ok3)) d_7_3_32 ?_
    refine lv_iload hx hb d_7_3_33 (lv_at hl 4 rfl) ?_
    obtain ⟨ok4, h⟩ := ck_e h
    refine m_ia hx hb hG hP (yg_8 hL ok3).1 (yg_8 hL ok3).2 ok4 d_7_3_35 ?_
    obtain ⟨ok5, h⟩ := ck_e h
    obtain ⟨ok6, h⟩ := ck_e h
    refine lv_ior hx hb d_7_3_36 ?_
    refine nrm (oI_or (a := x3) (b := (M (9 + x1.toNat) x5.toNat)) ok5.1 ok5.2 ok6.1 ok6.2) ?_
    obtain ⟨v7, e7, h⟩ := nb_e h
    refine nrm (congrArg oI e7.symm) ?_
    refine lv_istore_n (lv' := [(3, .int (oI v7)), (0, .ref (ad 51)), (1, .int (oI x1)), (4, .int (oI x4)), (5, .int (oI x5))]) hx hb d_7_3_37 rfl hl (by decide) rfl (fun ls hl => ?_)
    refine lv_iinc (v := oI (x5 + 1)) (lv' := [(5, .int (oI (x5 + 1))), (3, .int (oI v7)), (0, .ref (ad 51)), (1, .int (oI x1)), (4, .int (oI x4))]) hx hb d_7_3_38 hl (k := 4) rfl (oI_add x5 1) (by decide) rfl (fun ls hl => ?_)
    refine lv_goto (tgt := 16) hx hb d_7_3_41 (by decide) ?_
    obtain ⟨rfl, rfl, rfl⟩ := in3 h
    exact k0 rfl H locs ls hP hD hS (lv_sub hl [2, 3, 1, 4, 0] rfl)
set_option maxRecDepth 100000 in
set_option maxHeartbeats 4000000 in
theorem s_Fb_aheadOf_16 (l : Launch) (z : Zz) (ad : Nat → Nat) (E : Ev) (x1 : Int) (x4 : Int) {Q : State → Prop} {p : Program} {e : Env} {s : State} {m : MethodId} {below : List Frame} {meth : Method} {c : Code} {A : Nat → Prop} {args : Array Value} (hx : p.tables.exec = Jvm.exec) (hb : c.code = prog_7_method_3_code) (hml : c.maxLocals = 6) (hts : ∀ w ∈ WG, w.before args s = true) (hown : s.vm.findClass "Ballothall$FalseBallot" = some m.cls) (hlocks : meth.locks = false) (hA : ∀ q, s.heap.size ≤ q → A q) (hG : KG z s) (hZ : FZ z A s) (hL : Lay E) : ∀ (fu : Nat) (M : Mm) (x3 : Int) (x5 : Int) (t : Nat) (w3 : Int) (w5 : Int), l_Fb_aheadOf_16 E x1 x4 fu M x3 x5 = some (t, w3, w5) → (t = 1 → ∀ (H : Heap) (locs : List Loc) (ls : Array Slot), va_P z.1 classes (wv z ad E M) H → va_D A (wv z ad E M) → va_S A s.heap H locs → lv_has ls 6 [(3, .int (oI w3))] → W p l e (rmK 2 64 0 0) s m args below meth c H locs 0 0 Q (F0 m 44 ls [])) → ∀ (H : Heap) (locs : List Loc) (ls : Array Slot), va_P z.1 classes (wv z ad E M) H → va_D A (wv z ad E M) → va_S A s.heap H locs → lv_has ls 6 [(0, .ref (ad 51)), (1, .int (oI x1)), (3, .int (oI x3)), (4, .int (oI x4)), (5, .int (oI x5))] → W p l e (rmK 2 64 0 0) s m args below meth c H locs 0 0 Q (F0 m 16 ls []) := by
  intro fu
  induction fu with
  | zero =>
    intro M x3 x5 t w3 w5 h
    have h : (none : Option (Nat × Int × Int)) = some _ := h
    cases h
  | succ fu ih =>
    intro M x3 x5 t w3 w5 h k1 H locs ls hP hD hS hl
    obtain ⟨⟨t0, w30, w50⟩, g0, h⟩ := bd_e h
    refine b_Fb_aheadOf_16b l z ad E M x1 x4 x3 x5 t0 w30 w50 hx hb hml hts hown hlocks hA hG hZ hL g0 (fun e0 => ?_) (fun e0 => ?_) H locs ls hP hD hS hl
    · subst e0
      have h := ite_t rfl h
      exact ih M w30 w50 t w3 w5 h k1
    · subst e0
      have h := ite_f (by decide) h
      obtain ⟨rfl, rfl, rfl⟩ := in3 h
      exact k1 rfl
set_option maxRecDepth 100000 in
set_option maxHeartbeats 4000000 in
theorem s_Fb_aheadOf (l : Launch) (z : Zz) (ad : Nat → Nat) (E : Ev) (M : Mm) (x1 : Int) (x2 : Int) (r : Int)  (hL : Lay E) (h : f_Fb_aheadOf E M x1 x2 = some r) : CT l z ⟨"Ballothall$FalseBallot", "aheadOf", "(II)I"⟩ prog_7_method_3_code 6 (some .int) [.ref (ad 51), .int (oI x1), .int (oI x2)] (wv z ad E M) 2 64 0 0 (fun _ => some (.int (oI r))) (fun _ => (wv z ad E M)) := by
  refine CT.of (own := "Ballothall$FalseBallot") (by decide +kernel) (Nat.le_of_ble_eq_true rfl) rfl (fun p e s m below meth c A ls hx hb hml hr hts hown hlocks hin hA hG hZ hP hD hS hl => ?_)
  have hl : lv_has ls 6 [(0, .ref (ad 51)), (1, .int (oI x1)), (2, .int (oI x2))] := hl
  have key : ∀ (H : Heap) (locs : List Loc) (args : Array Value), (∀ w ∈ WG, w.before args s = true) → va_P z.1 classes (wv z ad E M) H → va_S A s.heap H locs → W p l e (rmK 2 64 0 0) s m args below meth c H locs 0 0 (MQ below (QK z A (fun _ => some (.int (oI r))) (fun _ => (wv z ad E M))) args s 0 0 A) (F0 m 0 ls []) := by
    intro H locs args hts hP hS
    unfold f_Fb_aheadOf at h
    refine lv_iconst (v := oI 0) hx hb d_7_3_0 (by decide +kernel) ?_
    refine lv_istore_n (lv' := [(3, .int (oI 0)), (0, .ref (ad 51)), (1, .int (oI x1)), (2, .int (oI x2))]) hx hb d_7_3_1 rfl hl (by decide) rfl (fun ls hl => ?_)
    refine lv_aload_n hx hb d_7_3_2 rfl (lv_at hl 1 rfl) ?_
    refine m_gr (j := 2) (C := "Ballothall$FalseBallot") (T := TX5) (N := 3) (ci := 5) (k := 0) hx hb hts iX5 hown hG hP (yi_51 hL) (yt_51 hL) rfl (by decide) w_152 (fun _ h9 => h9) rfl rfl (yr_51_0 hL) d_7_3_3 ?_
    refine lv_iload_n hx hb d_7_3_6 rfl (lv_at hl 2 rfl) ?_
    refine lv_iload_n hx hb d_7_3_7 rfl (lv_at hl 3 rfl) ?_
    obtain ⟨r0, g0, h⟩ := bd_e h
    refine kVN (As := [.int (oI x1), .int (oI x2)]) (rest := []) (s_Bx_rankOf l z ad E M x1 x2 r0 hL g0) hx hb hml hown hts w_1062 n_1412 w_1061 w_s_6d1705 w_2 md_f4341f ⟨Nat.le_of_ble_eq_true rfl, Nat.le_of_ble_eq_true rfl⟩ hG hZ hP hD hS hA 2 (wv_o (ci := 0) (yi_2 hL) (yt_2 hL)) rfl rfl rfl hl.1 rfl (Nat.le_of_ble_eq_true rfl) d_7_3_8 ⟨Nat.le_of_ble_eq_true rfl, Nat.le_of_ble_eq_true rfl⟩ (fun _ H locs hP hD hS => ?_)
    have hP : va_P z.1 classes (wv z ad E M) H := hP
    have hD : va_D A (wv z ad E M) := hD
    refine W.eq (g2 := F0 m 11 ls [.int (oI r0)]) rfl ?_
    refine lv_istore (lv' := [(4, .int (oI r0)), (3, .int (oI 0)), (0, .ref (ad 51)), (1, .int (oI x1)), (2, .int (oI x2))]) hx hb d_7_3_11 hl (by decide) rfl (fun ls hl => ?_)
    refine lv_iconst (v := oI 0) hx hb d_7_3_13 (by decide +kernel) ?_
    refine lv_istore (lv' := [(5, .int (oI 0)), (4, .int (oI r0)), (3, .int (oI 0)), (0, .ref (ad 51)), (1, .int (oI x1)), (2, .int (oI x2))]) hx hb d_7_3_14 hl (by decide) rfl (fun ls hl => ?_)
    obtain ⟨⟨t8, v8_3, v8_5⟩, g8, h⟩ := bd_e h
    obtain ⟨ok8, h⟩ := ck_e h
    refine s_Fb_aheadOf_16 l z ad E x1 r0 hx hb hml hts hown hlocks hA hG hZ hL FU M 0 0 t8 v8_3 v8_5 g8 (fun e8 H locs ls hP hD hS hl => ?_) H locs ls hP hD hS (lv_sub hl [3, 4, 2, 1, 0] rfl)
    refine lv_iload_n hx hb d_7_3_44 rfl (lv_at hl 0 rfl) ?_
    obtain rfl := in1 h
    exact W.iret hx hb hr (fun t ht hW => qkA hP hD hS (fun k => k) rfl rfl ht) hS.2.2 d_7_3_45
  exact key _ _ _ hts hP hS
set_option maxRecDepth 100000 in
set_option maxHeartbeats 4000000 in
theorem b_Fb_writeTrial_9b (l : Launch) (z : Zz) (ad : Nat → Nat) (E : Ev) (M : Mm) (x1 : Int) (t : Nat) (w1 : Int) (N : Mm) {Q : State → Prop} {p : Program} {e : Env} {s : State} {m : MethodId} {below : List Frame} {meth : Method} {c : Code} {A : Nat → Prop} {args : Array Value} (hx : p.tables.exec = Jvm.exec) (hb : c.code = prog_7_method_5_code) (hml : c.maxLocals = 2) (hts : ∀ w ∈ WG, w.before args s = true) (hown : s.vm.findClass "Ballothall$FalseBallot" = some m.cls) (hlocks : meth.locks = false) (hA : ∀ q, s.heap.size ≤ q → A q) (hG : KG z s) (hZ : FZ z A s) (hL : Lay E) (h : Fb_writeTrial_9b E M x1 = some (t, w1, N)) (k0 : t = 0 → ∀ (H : Heap) (locs : List Loc) (ls : Array Slot), va_P z.1 classes (wv z ad E N) H → va_D A (wv z ad E N) → va_S A s.heap H locs → lv_has ls 2 [(0, .ref (ad 51)), (1, .int (oI w1))] → W p l e (rmK 2 63 0 0) s m args below meth c H locs 0 0 Q (F0 m 9 ls [])) (k1 : t = 1 → ∀ (H : Heap) (locs : List Loc) (ls : Array Slot), va_P z.1 classes (wv z ad E N) H → va_D A (wv z ad E N) → va_S A s.heap H locs → lv_has ls 2 [(0, .ref (ad 51))] → W p l e (rmK 2 63 0 0) s m args below meth c H locs 0 0 Q (F0 m 40 ls [])) : ∀ (H : Heap) (locs : List Loc) (ls : Array Slot), va_P z.1 classes (wv z ad E M) H → va_D A (wv z ad E M) → va_S A s.heap H locs → lv_has ls 2 [(0, .ref (ad 51)), (1, .int (oI x1))] → W p l e (rmK 2 63 0 0) s m args below meth c H locs 0 0 Q (F0 m 9 ls []) := by
  intro H locs ls hP hD hS hl
  unfold Fb_writeTrial_9b at h
  refine lv_iload_n hx hb d_7_5_9 rfl (lv_at hl 1 rfl) ?_
  refine lv_aload_n hx hb d_7_5_10 rfl (lv_at hl 0 rfl) ?_
  refine m_gr (j := 2) (C := "Ballothall$FalseBallot") (T := TX5) (N := 3) (ci := 5) (k := 0) hx hb hts iX5 hown hG hP (yi_51 hL) (yt_51 hL) rfl (by decide) w_152 (fun _ h9 => h9) rfl rfl (yr_51_0 hL) d_7_5_11 ?_
  refine m_giN (C := "Ballothall$BallotBox") (T := TX0) (N := 10) (ci := 0) (k := 2) hx hb hts iX0 hown hG hP (yi_2 hL) (yt_2 hL) rfl (by decide) n_54 rfl (fun _ h9 => h9) rfl rfl d_7_5_14 ?_
  obtain ⟨ok1, h⟩ := ck_e h
  obtain ⟨ok2, h⟩ := ck_e h
  refine lv_icmp_ge (tgt := 40) hx hb d_7_5_17 (by decide) (fun c9 => ?_) (fun c9 => ?_)
  · have h := ite_t ((oI_le (a := (M 2 2)) (b := x1) ok2 ok1).mp c9) h
    obtain ⟨rfl, rfl, rfl⟩ := in3 h
    exact k1 rfl H locs ls hP hD hS (lv_sub hl [0] rfl)
  · have h := ite_f (fun q => c9 ((oI_le (a := (M 2 2)) (b := x1) ok2 ok1).mpr q)) h
    refine lv_aload_n hx hb d_7_5_20 rfl (lv_at hl 0 rfl) ?_
    refine m_gr (j := 2) (C := "Ballothall$FalseBallot") (T := TX5) (N := 3) (ci := 5) (k := 0) hx hb hts iX5 hown hG hP (yi_51 hL) (yt_51 hL) rfl (by decide) w_152 (fun _ h9 => h9) rfl rfl (yr_51_0 hL) d_7_5_21 ?_
    refine lv_aload_n hx hb d_7_5_24 rfl (lv_at hl 0 rfl) ?_
    refine m_gr (j := 52) (C := "Ballothall$FalseBallot") (T := TX5) (N := 3) (ci := 5) (k := 2) hx hb hts iX5 hown hG hP (yi_51 hL) (yt_51 hL) rfl (by decide) w_154 (fun _ h9 => h9) rfl rfl (yr_51_2 hL) d_7_5_25 ?_
    refine lv_iload_n hx hb d_7_5_28 rfl (lv_at hl 1 rfl) ?_
    obtain ⟨ok3, h⟩ := ck_e h
    refine m_ia hx hb hG hP (yi_52 hL) (yt_52 hL) ok3 d_7_5_29 ?_
    refine lv_iconst (v := oI 1) hx hb d_7_5_30 (by decide +kernel) ?_
    obtain ⟨M4, g4, h⟩ := bd_e h
    refine kVN (As := [.int (oI (M 52 x1.toNat)), .int (oI 1)]) (rest := []) (s_Bx_rankOnTrial l z ad E M (M 52 x1.toNat) 1 M4 hL g4) hx hb hml hown hts w_1035 n_1424 w_1034 w_s_4aec52 w_2 md_7079fc ⟨Nat.le_of_ble_eq_true rfl, Nat.le_of_ble_eq_true rfl⟩ hG hZ hP hD hS hA 2 (wv_o (ci := 0) (yi_2 hL) (yt_2 hL)) rfl rfl rfl hl.1 rfl (Nat.le_of_ble_eq_true rfl) d_7_5_31 ⟨Nat.le_of_ble_eq_true rfl, Nat.le_of_ble_eq_true rfl⟩ (fun _ H locs hP hD hS => ?_)
    have hP : va_P z.1 classes (wv z ad E M4) H := hP
    have hD : va_D A (wv z ad E M4) := hD
    refine W.eq (g2 := F0 m 34 ls []) rfl ?_
    refine lv_iinc (v := oI (x1 + 1)) (lv' := [(1, .int (oI (x1 + 1))), (0, .ref (ad 51))]) hx hb d_7_5_34 hl (k := 1) rfl (oI_add x1 1) (by decide) rfl (fun ls hl => ?_)
    refine lv_goto (tgt := 9) hx hb d_7_5_37 (by decide) ?_
    obtain ⟨rfl, rfl, rfl⟩ := in3 h
    exact k0 rfl H locs ls hP hD hS (lv_sub hl [1, 0] rfl)
set_option maxRecDepth 100000 in
set_option maxHeartbeats 4000000 in
theorem s_Fb_writeTrial_9 (l : Launch) (z : Zz) (ad : Nat → Nat) (E : Ev) {Q : State → Prop} {p : Program} {e : Env} {s : State} {m : MethodId} {below : List Frame} {meth : Method} {c : Code} {A : Nat → Prop} {args : Array Value} (hx : p.tables.exec = Jvm.exec) (hb : c.code = prog_7_method_5_code) (hml : c.maxLocals = 2) (hts : ∀ w ∈ WG, w.before args s = true) (hown : s.vm.findClass "Ballothall$FalseBallot" = some m.cls) (hlocks : meth.locks = false) (hA : ∀ q, s.heap.size ≤ q → A q) (hG : KG z s) (hZ : FZ z A s) (hL : Lay E) : ∀ (fu : Nat) (M : Mm) (x1 : Int) (t : Nat) (w1 : Int) (N : Mm), l_Fb_writeTrial_9 E fu M x1 = some (t, w1, N) → (t = 1 → ∀ (H : Heap) (locs : List Loc) (ls : Array Slot), va_P z.1 classes (wv z ad E N) H → va_D A (wv z ad E N) → va_S A s.heap H locs → lv_has ls 2 [(0, .ref (ad 51))] → W p l e (rmK 2 63 0 0) s m args below meth c H locs 0 0 Q (F0 m 40 ls [])) → ∀ (H : Heap) (locs : List Loc) (ls : Array Slot), va_P z.1 classes (wv z ad E M) H → va_D A (wv z ad E M) → va_S A s.heap H locs → lv_has ls 2 [(0, .ref (ad 51)), (1, .int (oI x1))] → W p l e (rmK 2 63 0 0) s m args below meth c H locs 0 0 Q (F0 m 9 ls []) := by
  intro fu
  induction fu with
  | zero =>
    intro M x1 t w1 N h
    have h : (none : Option (Nat × Int × Mm)) = some _ := h
    cases h
  | succ fu ih =>
    intro M x1 t w1 N h k1 H locs ls hP hD hS hl
    obtain ⟨⟨t0, w10, N9⟩, g0, h⟩ := bd_e h
    refine b_Fb_writeTrial_9b l z ad E M x1 t0 w10 N9 hx hb hml hts hown hlocks hA hG hZ hL g0 (fun e0 => ?_) (fun e0 => ?_) H locs ls hP hD hS hl
    · subst e0
      have h := ite_t rfl h
      exact ih N9 w10 t w1 N h k1
    · subst e0
      have h := ite_f (by decide) h
      obtain ⟨rfl, rfl, rfl⟩ := in3 h
      exact k1 rfl
set_option maxRecDepth 100000 in
set_option maxHeartbeats 4000000 in
theorem s_Fb_writeTrial (l : Launch) (z : Zz) (ad : Nat → Nat) (E : Ev) (M : Mm) (N : Mm) (hL : Lay E) (h : f_Fb_writeTrial E M = some N) : CT l z ⟨"Ballothall$FalseBallot", "writeTrial", "()V"⟩ prog_7_method_5_code 2 none [.ref (ad 51)] (wv z ad E M) 2 63 0 0 (fun _ => none) (fun _ => (wv z ad E N)) := by
  refine CT.of (own := "Ballothall$FalseBallot") (by decide +kernel) (Nat.le_of_ble_eq_true rfl) rfl (fun p e s m below meth c A ls hx hb hml hr hts hown hlocks hin hA hG hZ hP hD hS hl => ?_)
  have hl : lv_has ls 2 [(0, .ref (ad 51))] := hl
  have key : ∀ (H : Heap) (locs : List Loc) (args : Array Value), (∀ w ∈ WG, w.before args s = true) → va_P z.1 classes (wv z ad E M) H → va_S A s.heap H locs → W p l e (rmK 2 63 0 0) s m args below meth c H locs 0 0 (MQ below (QK z A (fun _ => none) (fun _ => (wv z ad E N))) args s 0 0 A) (F0 m 0 ls []) := by
    intro H locs args hts hP hS
    unfold f_Fb_writeTrial at h
    refine lv_aload_n hx hb d_7_5_0 rfl (lv_at hl 0 rfl) ?_
    refine m_gr (j := 2) (C := "Ballothall$FalseBallot") (T := TX5) (N := 3) (ci := 5) (k := 0) hx hb hts iX5 hown hG hP (yi_51 hL) (yt_51 hL) rfl (by decide) w_152 (fun _ h9 => h9) rfl rfl (yr_51_0 hL) d_7_5_1 ?_
    obtain ⟨M0, g0, h⟩ := bd_e h
    refine kVN (As := []) (rest := []) (s_Bx_clearTrial l z ad E M M0 hL g0) hx hb hml hown hts w_1030 n_1423 w_1029 w_s_7c1b22 w_2 md_12822f ⟨Nat.le_of_ble_eq_true rfl, Nat.le_of_ble_eq_true rfl⟩ hG hZ hP hD hS hA 2 (wv_o (ci := 0) (yi_2 hL) (yt_2 hL)) rfl rfl rfl hl.1 rfl (Nat.le_of_ble_eq_true rfl) d_7_5_4 ⟨Nat.le_of_ble_eq_true rfl, Nat.le_of_ble_eq_true rfl⟩ (fun _ H locs hP hD hS => ?_)
    have hP : va_P z.1 classes (wv z ad E M0) H := hP
    have hD : va_D A (wv z ad E M0) := hD
    refine W.eq (g2 := F0 m 7 ls []) rfl ?_
    refine lv_iconst (v := oI 0) hx hb d_7_5_7 (by decide +kernel) ?_
    refine lv_istore_n (lv' := [(1, .int (oI 0)), (0, .ref (ad 51))]) hx hb d_7_5_8 rfl hl (by decide) rfl (fun ls hl => ?_)
    obtain ⟨⟨t5, v5_1, M5⟩, g5, h⟩ := bd_e h
    obtain ⟨ok5, h⟩ := ck_e h
    refine s_Fb_writeTrial_9 l z ad E hx hb hml hts hown hlocks hA hG hZ hL FU M0 0 t5 v5_1 M5 g5 (fun e5 H locs ls hP hD hS hl => ?_) H locs ls hP hD hS (lv_sub hl [1, 0] rfl)
    refine lv_aload_n hx hb d_7_5_40 rfl (lv_at hl 0 rfl) ?_
    refine m_gr (j := 2) (C := "Ballothall$FalseBallot") (T := TX5) (N := 3) (ci := 5) (k := 0) hx hb hts iX5 hown hG hP (yi_51 hL) (yt_51 hL) rfl (by decide) w_152 (fun _ h9 => h9) rfl rfl (yr_51_0 hL) d_7_5_41 ?_
    refine m_grN (j := 6) (C := "Ballothall$BallotBox") (T := TX0) (N := 10) (ci := 0) (k := 6) hx hb hts iX0 hown hG hP (yi_2 hL) (yt_2 hL) rfl (by decide) n_70 rfl (fun _ h9 => h9) rfl rfl (yr_2_6 hL) d_7_5_44 ?_
    refine lv_bipush (v := oI 30) hx hb d_7_5_47 (by decide +kernel) ?_
    refine lv_aload_n hx hb d_7_5_49 rfl (lv_at hl 0 rfl) ?_
    refine m_gr (j := 2) (C := "Ballothall$FalseBallot") (T := TX5) (N := 3) (ci := 5) (k := 0) hx hb hts iX5 hown hG hP (yi_51 hL) (yt_51 hL) rfl (by decide) w_152 (fun _ h9 => h9) rfl rfl (yr_51_0 hL) d_7_5_50 ?_
    refine m_grN (j := 8) (C := "Ballothall$BallotBox") (T := TX0) (N := 10) (ci := 0) (k := 8) hx hb hts iX0 hown hG hP (yi_2 hL) (yt_2 hL) rfl (by decide) n_75 rfl (fun _ h9 => h9) rfl rfl (yr_2_8 hL) d_7_5_53 ?_
    refine lv_bipush (v := oI 30) hx hb d_7_5_56 (by decide +kernel) ?_
    refine m_ar (k := 39) hx hb hG hP (yi_8 hL) (yt_8 hL) (by decide +kernel) ((ya_8 hL (by decide +kernel)).trans (by decide +kernel)) d_7_5_58 ?_
    refine lv_iconst (v := oI 0) hx hb d_7_5_59 (by decide +kernel) ?_
    refine m_ia hx hb hG hP (yi_39 hL) (yt_39 hL) (by decide +kernel) d_7_5_60 ?_
    refine nrm (x1 := oI (M5 39 0)) rfl ?_
    refine m_is hx hb hG hP hD hS (yi_6 hL) (yt_6 hL) (by decide +kernel) d_7_5_61 (fun H locs hP hD hS => ?_)
    have hP : va_P z.1 classes (wv z ad E (u2 M5 6 30 (M5 39 0))) H := hP
    have hD : va_D A (wv z ad E (u2 M5 6 30 (M5 39 0))) := hD
    obtain rfl := in1 h
    exact W.vret hx hb hr (fun t ht hW => qkA hP hD hS (fun k => k) rfl rfl ht) hS.2.2 d_7_5_62
  exact key _ _ _ hts hP hS
set_option maxRecDepth 100000 in
set_option maxHeartbeats 4000000 in
theorem s_Fb_swap (l : Launch) (z : Zz) (ad : Nat → Nat) (E : Ev) (M : Mm) (x1 : Int) (x2 : Int) (N : Mm) (hL : Lay E) (h : f_Fb_swap E M x1 x2 = some N) : CT l z ⟨"Ballothall$FalseBallot", "swap", "(II)V"⟩ prog_7_method_7_code 4 none [.ref (ad 51), .int (oI x1), .int (oI x2)] (wv z ad E M) 0 20 0 0 (fun _ => none) (fun _ => (wv z ad E N)) := by
  refine CT.of (own := "Ballothall$FalseBallot") (by decide +kernel) (Nat.le_of_ble_eq_true rfl) rfl (fun p e s m below meth c A ls hx hb hml hr hts hown hlocks hin hA hG hZ hP hD hS hl => ?_)
  have hl : lv_has ls 4 [(0, .ref (ad 51)), (1, .int (oI x1)), (2, .int (oI x2))] := hl
  have key : ∀ (H : Heap) (locs : List Loc) (args : Array Value), (∀ w ∈ WG, w.before args s = true) → va_P z.1 classes (wv z ad E M) H → va_S A s.heap H locs → W p l e (rmK 0 20 0 0) s m args below meth c H locs 0 0 (MQ below (QK z A (fun _ => none) (fun _ => (wv z ad E N))) args s 0 0 A) (F0 m 0 ls []) := by
    intro H locs args hts hP hS
    unfold f_Fb_swap at h
    refine lv_aload_n hx hb d_7_7_0 rfl (lv_at hl 0 rfl) ?_
    refine m_gr (j := 52) (C := "Ballothall$FalseBallot") (T := TX5) (N := 3) (ci := 5) (k := 2) hx hb hts iX5 hown hG hP (yi_51 hL) (yt_51 hL) rfl (by decide) w_154 (fun _ h9 => h9) rfl rfl (yr_51_2 hL) d_7_7_1 ?_
    refine lv_iload_n hx hb d_7_7_4 rfl (lv_at hl 1 rfl) ?_
    obtain ⟨ok0, h⟩ := ck_e h
    refine m_ia hx hb hG hP (yi_52 hL) (yt_52 hL) ok0 d_7_7_5 ?_
    refine lv_istore_n (lv' := [(3, .int (oI (M 52 x1.toNat))), (0, .ref (ad 51)), (1, .int (oI x1)), (2, .int (oI x2))]) hx hb d_7_7_6 rfl hl (by decide) rfl (fun ls hl => ?_)
    refine lv_aload_n hx hb d_7_7_7 rfl (lv_at hl 1 rfl) ?_
    refine m_gr (j := 52) (C := "Ballothall$FalseBallot") (T := TX5) (N := 3) (ci := 5) (k := 2) hx hb hts iX5 hown hG hP (yi_51 hL) (yt_51 hL) rfl (by decide) w_154 (fun _ h9 => h9) rfl rfl (yr_51_2 hL) d_7_7_8 ?_
    refine lv_iload_n hx hb d_7_7_11 rfl (lv_at hl 2 rfl) ?_
    refine lv_aload_n hx hb d_7_7_12 rfl (lv_at hl 1 rfl) ?_
    refine m_gr (j := 52) (C := "Ballothall$FalseBallot") (T := TX5) (N := 3) (ci := 5) (k := 2) hx hb hts iX5 hown hG hP (yi_51 hL) (yt_51 hL) rfl (by decide) w_154 (fun _ h9 => h9) rfl rfl (yr_51_2 hL) d_7_7_13 ?_
    refine lv_iload_n hx hb d_7_7_16 rfl (lv_at hl 3 rfl) ?_
    obtain ⟨ok1, h⟩ := ck_e h
    refine m_ia hx hb hG hP (yi_52 hL) (yt_52 hL) ok1 d_7_7_17 ?_
    refine m_is hx hb hG hP hD hS (yi_52 hL) (yt_52 hL) ok0 d_7_7_18 (fun H locs hP hD hS => ?_)
    have hP : va_P z.1 classes (wv z ad E (u2 M 52 x1.toNat (M 52 x2.toNat))) H := hP
    have hD : va_D A (wv z ad E (u2 M 52 x1.toNat (M 52 x2.toNat))) := hD
    refine lv_aload_n hx hb d_7_7_19 rfl (lv_at hl 1 rfl) ?_
    refine m_gr (j := 52) (C := "Ballothall$FalseBallot") (T := TX5) (N := 3) (ci := 5) (k := 2) hx hb hts iX5 hown hG hP (yi_51 hL) (yt_51 hL) rfl (by decide) w_154 (fun _ h9 => h9) rfl rfl (yr_51_2 hL) d_7_7_20 ?_
    refine lv_iload_n hx hb d_7_7_23 rfl (lv_at hl 3 rfl) ?_
    refine lv_iload_n hx hb d_7_7_24 rfl (lv_at hl 0 rfl) ?_
    refine m_is hx hb hG hP hD hS (yi_52 hL) (yt_52 hL) ok1 d_7_7_25 (fun H locs hP hD hS => ?_)
    have hP : va_P z.1 classes (wv z ad E (u2 (u2 M 52 x1.toNat (M 52 x2.toNat)) 52 x2.toNat (M 52 x1.toNat))) H := hP
    have hD : va_D A (wv z ad E (u2 (u2 M 52 x1.toNat (M 52 x2.toNat)) 52 x2.toNat (M 52 x1.toNat))) := hD
    obtain rfl := in1 h
    exact W.vret hx hb hr (fun t ht hW => qkA hP hD hS (fun k => k) rfl rfl ht) hS.2.2 d_7_7_26
  exact key _ _ _ hts hP hS
set_option maxRecDepth 100000 in
set_option maxHeartbeats 4000000 in
theorem b_Fb_goToNextOrder_14b (l : Launch) (z : Zz) (ad : Nat → Nat) (E : Ev) (M : Mm) (x1 : Int) (x2 : Int) (t : Nat) (w2 : Int) (N : Mm) {Q : State → Prop} {p : Program} {e : Env} {s : State} {m : MethodId} {below : List Frame} {meth : Method} {c : Code} {A : Nat → Prop} {args : Array Value} (hx : p.tables.exec = Jvm.exec) (hb : c.code = prog_7_method_6_code) (hml : c.maxLocals = 6) (hts : ∀ w ∈ WG, w.before args s = true) (hown : s.vm.findClass "Ballothall$FalseBallot" = some m.cls) (hlocks : meth.locks = false) (hA : ∀ q, s.heap.size ≤ q → A q) (hG : KG z s) (hZ : FZ z A s) (hL : Lay E) (h : Fb_goToNextOrder_14b E M x1 x2 = some (t, w2, N)) (k0 : t = 0 → ∀ (H : Heap) (locs : List Loc) (ls : Array Slot), va_P z.1 classes (wv z ad E N) H → va_D A (wv z ad E N) → va_S A s.heap H locs → lv_has ls 6 [(0, .ref (ad 51)), (1, .int (oI x1)), (2, .int (oI w2))] → W p l e (rmK 1 43 0 0) s m args below meth c H locs 0 0 Q (F0 m 14 ls [])) (k1 : t = 1 → ∀ (H : Heap) (locs : List Loc) (ls : Array Slot), va_P z.1 classes (wv z ad E N) H → va_D A (wv z ad E N) → va_S A s.heap H locs → lv_has ls 6 [(0, .ref (ad 51)), (1, .int (oI x1)), (2, .int (oI w2))] → W p l e (rmK 1 43 0 0) s m args below meth c H locs 0 0 Q (F0 m 41 ls [])) : ∀ (H : Heap) (locs : List Loc) (ls : Array Slot), va_P z.1 classes (wv z ad E M) H → va_D A (wv z ad E M) → va_S A s.heap H locs → lv_has ls 6 [(0, .ref (ad 51)), (1, .int (oI x1)), (2, .int (oI x2))] → W p l e (rmK 1 43 0 0) s m args below meth c H locs 0 0 Q (F0 m 14 ls []) := by
  intro H locs ls hP hD hS hl
  unfold Fb_goToNextOrder_14b at h
  refine lv_iload_n hx hb d_7_6_14 rfl (lv_at hl 2 rfl) ?_
  obtain ⟨ok0, h⟩ := ck_e h
  refine lv_if_lt (tgt := 41) hx hb d_7_6_15 (by decide) (fun c9 => ?_) (fun c9 => ?_)
  · have h := ite_t ((oI_lt0 ok0).mp c9) h
    obtain ⟨rfl, rfl, rfl⟩ := in3 h
    exact k1 rfl H locs ls hP hD hS (lv_sub hl [0, 1, 2] rfl)
  · have h := ite_f (fun q => c9 ((oI_lt0 ok0).mpr q)) h
    refine lv_aload_n hx hb d_7_6_18 rfl (lv_at hl 0 rfl) ?_
    refine m_gr (j := 52) (C := "Ballothall$FalseBallot") (T := TX5) (N := 3) (ci := 5) (k := 2) hx hb hts iX5 hown hG hP (yi_51 hL) (yt_51 hL) rfl (by decide) w_154 (fun _ h9 => h9) rfl rfl (yr_51_2 hL) d_7_6_19 ?_
    refine lv_iload_n hx hb d_7_6_22 rfl (lv_at hl 2 rfl) ?_
    obtain ⟨ok1, h⟩ := ck_e h
    refine m_ia hx hb hG hP (yi_52 hL) (yt_52 hL) ok1 d_7_6_23 ?_
    refine lv_aload_n hx hb d_7_6_24 rfl (lv_at hl 0 rfl) ?_
    refine m_gr (j := 52) (C := "Ballothall$FalseBallot") (T := TX5) (N := 3) (ci := 5) (k := 2) hx hb hts iX5 hown hG hP (yi_51 hL) (yt_51 hL) rfl (by decide) w_154 (fun _ h9 => h9) rfl rfl (yr_51_2 hL) d_7_6_25 ?_
    refine lv_iload_n hx hb d_7_6_28 rfl (lv_at hl 2 rfl) ?_
    refine lv_iconst (v := oI 1) hx hb d_7_6_29 (by decide +kernel) ?_
    refine lv_iadd hx hb d_7_6_30 ?_
    refine nrm (oI_add _ _) ?_
    obtain ⟨ok2, h⟩ := ck_e h
    refine m_ia hx hb hG hP (yi_52 hL) (yt_52 hL) ok2 d_7_6_31 ?_
    obtain ⟨ok3, h⟩ := ck_e h
    obtain ⟨ok4, h⟩ := ck_e h
    refine lv_icmp_le (tgt := 41) hx hb d_7_6_32 (by decide) (fun c9 => ?_) (fun c9 => ?_)
    · have h := ite_t ((oI_le (a := (M 52 x2.toNat)) (b := (M 52 (x2 + 1).toNat)) ok3 ok4).mp c9) h
      obtain ⟨rfl, rfl, rfl⟩ := in3 h
      exact k1 rfl H locs ls hP hD hS (lv_sub hl [0, 1, 2] rfl)
    · have h := ite_f (fun q => c9 ((oI_le (a := (M 52 x2.toNat)) (b := (M 52 (x2 + 1).toNat)) ok3 ok4).mpr q)) h
      refine lv_iinc (v := oI (x2 + (-1))) (lv' := [(2, .int (oI (x2 + (-1)))), (0, .ref (ad 51)), (1, .int (oI x1))]) hx hb d_7_6_35 hl (k := 2) rfl (oI_add x2 (-1)) (by decide) rfl (fun ls hl => ?_)
      refine lv_goto (tgt := 14) hx hb d_7_6_38 (by decide) ?_
      obtain ⟨rfl, rfl, rfl⟩ := in3 h
      exact k0 rfl H locs ls hP hD hS (lv_sub hl [1, 2, 0] rfl)
set_option maxRecDepth 100000 in
set_option maxHeartbeats 4000000 in
theorem s_Fb_goToNextOrder_14 (l : Launch) (z : Zz) (ad : Nat → Nat) (E : Ev) (x1 : Int) {Q : State → Prop} {p : Program} {e : Env} {s : State} {m : MethodId} {below : List Frame} {meth : Method} {c : Code} {A : Nat → Prop} {args : Array Value} (hx : p.tables.exec = Jvm.exec) (hb : c.code = prog_7_method_6_code) (hml : c.maxLocals = 6) (hts : ∀ w ∈ WG, w.before args s = true) (hown : s.vm.findClass "Ballothall$FalseBallot" = some m.cls) (hlocks : meth.locks = false) (hA : ∀ q, s.heap.size ≤ q → A q) (hG : KG z s) (hZ : FZ z A s) (hL : Lay E) : ∀ (fu : Nat) (M : Mm) (x2 : Int) (t : Nat) (w2 : Int) (N : Mm), l_Fb_goToNextOrder_14 E x1 fu M x2 = some (t, w2, N) → (t = 1 → ∀ (H : Heap) (locs : List Loc) (ls : Array Slot), va_P z.1 classes (wv z ad E N) H → va_D A (wv z ad E N) → va_S A s.heap H locs → lv_has ls 6 [(0, .ref (ad 51)), (1, .int (oI x1)), (2, .int (oI w2))] → W p l e (rmK 1 43 0 0) s m args below meth c H locs 0 0 Q (F0 m 41 ls [])) → ∀ (H : Heap) (locs : List Loc) (ls : Array Slot), va_P z.1 classes (wv z ad E M) H → va_D A (wv z ad E M) → va_S A s.heap H locs → lv_has ls 6 [(0, .ref (ad 51)), (1, .int (oI x1)), (2, .int (oI x2))] → W p l e (rmK 1 43 0 0) s m args below meth c H locs 0 0 Q (F0 m 14 ls []) := by
  intro fu
  induction fu with
  | zero =>
    intro M x2 t w2 N h
    have h : (none : Option (Nat × Int × Mm)) = some _ := h
    cases h
  | succ fu ih =>
    intro M x2 t w2 N h k1 H locs ls hP hD hS hl
    obtain ⟨⟨t0, w20, N9⟩, g0, h⟩ := bd_e h
    refine b_Fb_goToNextOrder_14b l z ad E M x1 x2 t0 w20 N9 hx hb hml hts hown hlocks hA hG hZ hL g0 (fun e0 => ?_) (fun e0 => ?_) H locs ls hP hD hS hl
    · subst e0
      have h := ite_t rfl h
      exact ih N9 w20 t w2 N h k1
    · subst e0
      have h := ite_f (by decide) h
      obtain ⟨rfl, rfl, rfl⟩ := in3 h
      exact k1 rfl
set_option maxRecDepth 100000 in
set_option maxHeartbeats 4000000 in
theorem b_Fb_goToNextOrder_48b (l : Launch) (z : Zz) (ad : Nat → Nat) (E : Ev) (M : Mm) (x1 : Int) (x2 : Int) (x3 : Int) (t : Nat) (w3 : Int) (N : Mm) {Q : State → Prop} {p : Program} {e : Env} {s : State} {m : MethodId} {below : List Frame} {meth : Method} {c : Code} {A : Nat → Prop} {args : Array Value} (hx : p.tables.exec = Jvm.exec) (hb : c.code = prog_7_method_6_code) (hml : c.maxLocals = 6) (hts : ∀ w ∈ WG, w.before args s = true) (hown : s.vm.findClass "Ballothall$FalseBallot" = some m.cls) (hlocks : meth.locks = false) (hA : ∀ q, s.heap.size ≤ q → A q) (hG : KG z s) (hZ : FZ z A s) (hL : Lay E) (h : Fb_goToNextOrder_48b E M x1 x2 x3 = some (t, w3, N)) (k0 : t = 0 → ∀ (H : Heap) (locs : List Loc) (ls : Array Slot), va_P z.1 classes (wv z ad E N) H → va_D A (wv z ad E N) → va_S A s.heap H locs → lv_has ls 6 [(0, .ref (ad 51)), (1, .int (oI x1)), (2, .int (oI x2)), (3, .int (oI w3))] → W p l e (rmK 1 43 0 0) s m args below meth c H locs 0 0 Q (F0 m 48 ls [])) (k1 : t = 1 → ∀ (H : Heap) (locs : List Loc) (ls : Array Slot), va_P z.1 classes (wv z ad E N) H → va_D A (wv z ad E N) → va_S A s.heap H locs → lv_has ls 6 [(0, .ref (ad 51)), (1, .int (oI x1)), (2, .int (oI x2)), (3, .int (oI w3))] → W p l e (rmK 1 43 0 0) s m args below meth c H locs 0 0 Q (F0 m 74 ls [])) : ∀ (H : Heap) (locs : List Loc) (ls : Array Slot), va_P z.1 classes (wv z ad E M) H → va_D A (wv z ad E M) → va_S A s.heap H locs → lv_has ls 6 [(0, .ref (ad 51)), (1, .int (oI x1)), (2, .int (oI x2)), (3, .int (oI x3))] → W p l e (rmK 1 43 0 0) s m args below meth c H locs 0 0 Q (F0 m 48 ls []) := by
  intro H locs ls hP hD hS hl
  unfold Fb_goToNextOrder_48b at h
  refine lv_iload_n hx hb d_7_6_48 rfl (lv_at hl 3 rfl) ?_
  refine lv_iload_n hx hb d_7_6_49 rfl (lv_at hl 2 rfl) ?_
  obtain ⟨ok7, h⟩ := ck_e h
  obtain ⟨ok8, h⟩ := ck_e h
  refine lv_icmp_le (tgt := 74) hx hb d_7_6_50 (by decide) (fun c9 => ?_) (fun c9 => ?_)
  · have h := ite_t ((oI_le (a := x3) (b := x2) ok7 ok8).mp c9) h
    obtain ⟨rfl, rfl, rfl⟩ := in3 h
    exact k1 rfl H locs ls hP hD hS (lv_sub hl [0, 1, 2, 3] rfl)
  · have h := ite_f (fun q => c9 ((oI_le (a := x3) (b := x2) ok7 ok8).mpr q)) h
    refine lv_aload_n hx hb d_7_6_53 rfl (lv_at hl 0 rfl) ?_
    refine m_gr (j := 52) (C := "Ballothall$FalseBallot") (T := TX5) (N := 3) (ci := 5) (k := 2) hx hb hts iX5 hown hG hP (yi_51 hL) (yt_51 hL) rfl (by decide) w_154 (fun _ h9 => h9) rfl rfl (yr_51_2 hL) d_7_6_54 ?_
    refine lv_iload_n hx hb d_7_6_57 rfl (lv_at hl 3 rfl) ?_
    obtain ⟨ok9, h⟩ := ck_e h
    refine m_ia hx hb hG hP (yi_52 hL) (yt_52 hL) ok9 d_7_6_58 ?_
    refine lv_aload_n hx hb d_7_6_59 rfl (lv_at hl 0 rfl) ?_
    refine m_gr (j := 52) (C := "Ballothall$FalseBallot") (T := TX5) (N := 3) (ci := 5) (k := 2) hx hb hts iX5 hown hG hP (yi_51 hL) (yt_51 hL) rfl (by decide) w_154 (fun _ h9 => h9) rfl rfl (yr_51_2 hL) d_7_6_60 ?_
    refine lv_iload_n hx hb d_7_6_63 rfl (lv_at hl 2 rfl) ?_
    obtain ⟨ok10, h⟩ := ck_e h
    refine m_ia hx hb hG hP (yi_52 hL) (yt_52 hL) ok10 d_7_6_64 ?_
    obtain ⟨ok11, h⟩ := ck_e h
    obtain ⟨ok12, h⟩ := ck_e h
    refine lv_icmp_ge (tgt := 74) hx hb d_7_6_65 (by decide) (fun c9 => ?_) (fun c9 => ?_)
    · have h := ite_t ((oI_le (a := (M 52 x2.toNat)) (b := (M 52 x3.toNat)) ok12 ok11).mp c9) h
      obtain ⟨rfl, rfl, rfl⟩ := in3 h
      exact k1 rfl H locs ls hP hD hS (lv_sub hl [0, 1, 2, 3] rfl)
    · have h := ite_f (fun q => c9 ((oI_le (a := (M 52 x2.toNat)) (b := (M 52 x3.toNat)) ok12 ok11).mpr q)) h
      refine lv_iinc (v := oI (x3 + (-1))) (lv' := [(3, .int (oI (x3 + (-1)))), (0, .ref (ad 51)), (1, .int (oI x1)), (2, .int (oI x2))]) hx hb d_7_6_68 hl (k := 3) rfl (oI_add x3 (-1)) (by decide) rfl (fun ls hl => ?_)
      refine lv_goto (tgt := 48) hx hb d_7_6_71 (by decide) ?_
      obtain ⟨rfl, rfl, rfl⟩ := in3 h
      exact k0 rfl H locs ls hP hD hS (lv_sub hl [1, 2, 3, 0] rfl)
set_option maxRecDepth 100000 in
set_option maxHeartbeats 4000000 in
theorem s_Fb_goToNextOrder_48 (l : Launch) (z : Zz) (ad : Nat → Nat) (E : Ev) (x1 : Int) (x2 : Int) {Q : State → Prop} {p : Program} {e : Env} {s : State} {m : MethodId} {below : List Frame} {meth : Method} {c : Code} {A : Nat → Prop} {args : Array Value} (hx : p.tables.exec = Jvm.exec) (hb : c.code = prog_7_method_6_code) (hml : c.maxLocals = 6) (hts : ∀ w ∈ WG, w.before args s = true) (hown : s.vm.findClass "Ballothall$FalseBallot" = some m.cls) (hlocks : meth.locks = false) (hA : ∀ q, s.heap.size ≤ q → A q) (hG : KG z s) (hZ : FZ z A s) (hL : Lay E) : ∀ (fu : Nat) (M : Mm) (x3 : Int) (t : Nat) (w3 : Int) (N : Mm), l_Fb_goToNextOrder_48 E x1 x2 fu M x3 = some (t, w3, N) → (t = 1 → ∀ (H : Heap) (locs : List Loc) (ls : Array Slot), va_P z.1 classes (wv z ad E N) H → va_D A (wv z ad E N) → va_S A s.heap H locs → lv_has ls 6 [(0, .ref (ad 51)), (1, .int (oI x1)), (2, .int (oI x2)), (3, .int (oI w3))] → W p l e (rmK 1 43 0 0) s m args below meth c H locs 0 0 Q (F0 m 74 ls [])) → ∀ (H : Heap) (locs : List Loc) (ls : Array Slot), va_P z.1 classes (wv z ad E M) H → va_D A (wv z ad E M) → va_S A s.heap H locs → lv_has ls 6 [(0, .ref (ad 51)), (1, .int (oI x1)), (2, .int (oI x2)), (3, .int (oI x3))] → W p l e (rmK 1 43 0 0) s m args below meth c H locs 0 0 Q (F0 m 48 ls []) := by
  intro fu
  induction fu with
  | zero =>
    intro M x3 t w3 N h
    have h : (none : Option (Nat × Int × Mm)) = some _ := h
    cases h
  | succ fu ih =>
    intro M x3 t w3 N h k1 H locs ls hP hD hS hl
    obtain ⟨⟨t0, w30, N9⟩, g0, h⟩ := bd_e h
    refine b_Fb_goToNextOrder_48b l z ad E M x1 x2 x3 t0 w30 N9 hx hb hml hts hown hlocks hA hG hZ hL g0 (fun e0 => ?_) (fun e0 => ?_) H locs ls hP hD hS hl
    · subst e0
      have h := ite_t rfl h
      exact ih N9 w30 t w3 N h k1
    · subst e0
      have h := ite_f (by decide) h
      obtain ⟨rfl, rfl, rfl⟩ := in3 h
      exact k1 rfl
set_option maxRecDepth 100000 in
set_option maxHeartbeats 4000000 in
theorem b_Fb_goToNextOrder_88b (l : Launch) (z : Zz) (ad : Nat → Nat) (E : Ev) (M : Mm) (x4 : Int) (x5 : Int) (t : Nat) (w4 : Int) (w5 : Int) (N : Mm) {Q : State → Prop} {p : Program} {e : Env} {s : State} {m : MethodId} {below : List Frame} {meth : Method} {c : Code} {A : Nat → Prop} {args : Array Value} (hx : p.tables.exec = Jvm.exec) (hb : c.code = prog_7_method_6_code) (hml : c.maxLocals = 6) (hts : ∀ w ∈ WG, w.before args s = true) (hown : s.vm.findClass "Ballothall$FalseBallot" = some m.cls) (hlocks : meth.locks = false) (hA : ∀ q, s.heap.size ≤ q → A q) (hG : KG z s) (hZ : FZ z A s) (hL : Lay E) (h : Fb_goToNextOrder_88b E M x4 x5 = some (t, w4, w5, N)) (k0 : t = 0 → ∀ (H : Heap) (locs : List Loc) (ls : Array Slot), va_P z.1 classes (wv z ad E N) H → va_D A (wv z ad E N) → va_S A s.heap H locs → lv_has ls 6 [(0, .ref (ad 51)), (4, .int (oI w4)), (5, .int (oI w5))] → W p l e (rmK 1 43 0 0) s m args below meth c H locs 0 0 Q (F0 m 88 ls [])) (k1 : t = 1 → ∀ (H : Heap) (locs : List Loc) (ls : Array Slot), va_P z.1 classes (wv z ad E N) H → va_D A (wv z ad E N) → va_S A s.heap H locs → lv_has ls 6 [] → W p l e (rmK 1 43 0 0) s m args below meth c H locs 0 0 Q (F0 m 112 ls [])) : ∀ (H : Heap) (locs : List Loc) (ls : Array Slot), va_P z.1 classes (wv z ad E M) H → va_D A (wv z ad E M) → va_S A s.heap H locs → lv_has ls 6 [(0, .ref (ad 51)), (4, .int (oI x4)), (5, .int (oI x5))] → W p l e (rmK 1 43 0 0) s m args below meth c H locs 0 0 Q (F0 m 88 ls []) := by
  intro H locs ls hP hD hS hl
  unfold Fb_goToNextOrder_88b at h
  refine lv_iload hx hb d_7_6_88 (lv_at hl 1 rfl) ?_
  refine lv_iload hx hb d_7_6_90 (lv_at hl 2 rfl) ?_
  obtain ⟨ok15, h⟩ := ck_e h
  obtain ⟨ok16, h⟩ := ck_e h
  refine lv_icmp_ge (tgt := 112) hx hb d_7_6_92 (by decide) (fun c9 => ?_) (fun c9 => ?_)
  · have h := ite_t ((oI_le (a := x5) (b := x4) ok16 ok15).mp c9) h
    obtain ⟨rfl, rfl, rfl, rfl⟩ := in4 h
    exact k1 rfl H locs ls hP hD hS (lv_sub hl [] rfl)
  · have h := ite_f (fun q => c9 ((oI_le (a := x5) (b := x4) ok16 ok15).mpr q)) h
    refine lv_aload_n hx hb d_7_6_95 rfl (lv_at hl 0 rfl) ?_
    refine lv_iload hx hb d_7_6_96 (lv_at hl 1 rfl) ?_
    refine lv_iload hx hb d_7_6_98 (lv_at hl 2 rfl) ?_
    obtain ⟨M17, g17, h⟩ := bd_e h
    refine kV (As := [.int (oI x4), .int (oI x5)]) (rest := []) (s_Fb_swap l z ad E M x4 x5 M17 hL g17) hx hb hml hown hts w_1433 w_1430 w_1432 w_s_4247c6 w_4 md_950878 ⟨Nat.le_of_ble_eq_true rfl, Nat.le_of_ble_eq_true rfl⟩ hG hZ hP hD hS hA 51 (wv_o (ci := 5) (yi_51 hL) (yt_51 hL)) rfl rfl rfl hl.1 rfl (Nat.le_of_ble_eq_true rfl) d_7_6_100 ⟨Nat.le_of_ble_eq_true rfl, Nat.le_of_ble_eq_true rfl⟩ (fun _ H locs hP hD hS => ?_)
    have hP : va_P z.1 classes (wv z ad E M17) H := hP
    have hD : va_D A (wv z ad E M17) := hD
    refine W.eq (g2 := F0 m 103 ls []) rfl ?_
    refine lv_iinc (v := oI (x4 + 1)) (lv' := [(4, .int (oI (x4 + 1))), (0, .ref (ad 51)), (5, .int (oI x5))]) hx hb d_7_6_103 hl (k := 1) rfl (oI_add x4 1) (by decide) rfl (fun ls hl => ?_)
    refine lv_iinc (v := oI (x5 + (-1))) (lv' := [(5, .int (oI (x5 + (-1)))), (4, .int (oI (x4 + 1))), (0, .ref (ad 51))]) hx hb d_7_6_106 hl (k := 2) rfl (oI_add x5 (-1)) (by decide) rfl (fun ls hl => ?_)
    refine lv_goto (tgt := 88) hx hb d_7_6_109 (by decide) ?_
    obtain ⟨rfl, rfl, rfl, rfl⟩ := in4 h
    exact k0 rfl H locs ls hP hD hS (lv_sub hl [2, 1, 0] rfl)
set_option maxRecDepth 100000 in
set_option maxHeartbeats 4000000 in
theorem s_Fb_goToNextOrder_88 (l : Launch) (z : Zz) (ad : Nat → Nat) (E : Ev) {Q : State → Prop} {p : Program} {e : Env} {s : State} {m : MethodId} {below : List Frame} {meth : Method} {c : Code} {A : Nat → Prop} {args : Array Value} (hx : p.tables.exec = Jvm.exec) (hb : c.code = prog_7_method_6_code) (hml : c.maxLocals = 6) (hts : ∀ w ∈ WG, w.before args s = true) (hown : s.vm.findClass "Ballothall$FalseBallot" = some m.cls) (hlocks : meth.locks = false) (hA : ∀ q, s.heap.size ≤ q → A q) (hG : KG z s) (hZ : FZ z A s) (hL : Lay E) : ∀ (fu : Nat) (M : Mm) (x4 : Int) (x5 : Int) (t : Nat) (w4 : Int) (w5 : Int) (N : Mm), l_Fb_goToNextOrder_88 E fu M x4 x5 = some (t, w4, w5, N) → (t = 1 → ∀ (H : Heap) (locs : List Loc) (ls : Array Slot), va_P z.1 classes (wv z ad E N) H → va_D A (wv z ad E N) → va_S A s.heap H locs → lv_has ls 6 [] → W p l e (rmK 1 43 0 0) s m args below meth c H locs 0 0 Q (F0 m 112 ls [])) → ∀ (H : Heap) (locs : List Loc) (ls : Array Slot), va_P z.1 classes (wv z ad E M) H → va_D A (wv z ad E M) → va_S A s.heap H locs → lv_has ls 6 [(0, .ref (ad 51)), (4, .int (oI x4)), (5, .int (oI x5))] → W p l e (rmK 1 43 0 0) s m args below meth c H locs 0 0 Q (F0 m 88 ls []) := by
  intro fu
  induction fu with
  | zero =>
    intro M x4 x5 t w4 w5 N h
    have h : (none : Option (Nat × Int × Int × Mm)) = some _ := h
    cases h
  | succ fu ih =>
    intro M x4 x5 t w4 w5 N h k1 H locs ls hP hD hS hl
    obtain ⟨⟨t0, w40, w50, N9⟩, g0, h⟩ := bd_e h
    refine b_Fb_goToNextOrder_88b l z ad E M x4 x5 t0 w40 w50 N9 hx hb hml hts hown hlocks hA hG hZ hL g0 (fun e0 => ?_) (fun e0 => ?_) H locs ls hP hD hS hl
    · subst e0
      have h := ite_t rfl h
      exact ih N9 w40 w50 t w4 w5 N h k1
    · subst e0
      have h := ite_f (by decide) h
      obtain ⟨rfl, rfl, rfl, rfl⟩ := in4 h
      exact k1 rfl
set_option maxRecDepth 100000 in
set_option maxHeartbeats 4000000 in
theorem b_Fb_goToNextOrder_j74 (l : Launch) (z : Zz) (ad : Nat → Nat) (E : Ev) (M : Mm) (x1 : Int) (x2 : Int) (x3 : Int) (N : Mm) {p : Program} {e : Env} {s : State} {m : MethodId} {below : List Frame} {meth : Method} {c : Code} {A : Nat → Prop} {args : Array Value} (hx : p.tables.exec = Jvm.exec) (hb : c.code = prog_7_method_6_code) (hml : c.maxLocals = 6) (hts : ∀ w ∈ WG, w.before args s = true) (hown : s.vm.findClass "Ballothall$FalseBallot" = some m.cls) (hlocks : meth.locks = false) (hA : ∀ q, s.heap.size ≤ q → A q) (hG : KG z s) (hZ : FZ z A s) (hL : Lay E) (hr : meth.sig.returnType = none) (h : Fb_goToNextOrder_j74 E M x1 x2 x3 = some N) : ∀ (H : Heap) (locs : List Loc) (ls : Array Slot), va_P z.1 classes (wv z ad E M) H → va_D A (wv z ad E M) → va_S A s.heap H locs → lv_has ls 6 [(0, .ref (ad 51)), (1, .int (oI x1)), (2, .int (oI x2)), (3, .int (oI x3))] → W p l e (rmK 1 43 0 0) s m args below meth c H locs 0 0 (MQ below (QK z A (fun _ => none) (fun _ => (wv z ad E N))) args s 0 0 A) (F0 m 74 ls []) := by
  intro H locs ls hP hD hS hl
  unfold Fb_goToNextOrder_j74 at h
  refine lv_aload_n hx hb d_7_6_74 rfl (lv_at hl 0 rfl) ?_
  refine lv_iload_n hx hb d_7_6_75 rfl (lv_at hl 2 rfl) ?_
  refine lv_iload_n hx hb d_7_6_76 rfl (lv_at hl 3 rfl) ?_
  obtain ⟨M14, g14, h⟩ := bd_e h
  refine kV (As := [.int (oI x2), .int (oI x3)]) (rest := []) (s_Fb_swap l z ad E M x2 x3 M14 hL g14) hx hb hml hown hts w_1433 w_1430 w_1432 w_s_4247c6 w_4 md_950878 ⟨Nat.le_of_ble_eq_true rfl, Nat.le_of_ble_eq_true rfl⟩ hG hZ hP hD hS hA 51 (wv_o (ci := 5) (yi_51 hL) (yt_51 hL)) rfl rfl rfl hl.1 rfl (Nat.le_of_ble_eq_true rfl) d_7_6_77 ⟨Nat.le_of_ble_eq_true rfl, Nat.le_of_ble_eq_true rfl⟩ (fun _ H locs hP hD hS => ?_)
  have hP : va_P z.1 classes (wv z ad E M14) H := hP
  have hD : va_D A (wv z ad E M14) := hD
  refine W.eq (g2 := F0 m 80 ls []) rfl ?_
  refine lv_iload_n hx hb d_7_6_80 rfl (lv_at hl 2 rfl) ?_
  refine lv_iconst (v := oI 1) hx hb d_7_6_81 (by decide +kernel) ?_
  refine lv_iadd hx hb d_7_6_82 ?_
  refine nrm (oI_add _ _) ?_
  refine lv_istore (lv' := [(4, .int (oI (x2 + 1))), (0, .ref (ad 51)), (1, .int (oI x1)), (2, .int (oI x2)), (3, .int (oI x3))]) hx hb d_7_6_83 hl (by decide) rfl (fun ls hl => ?_)
  refine lv_iload_n hx hb d_7_6_85 rfl (lv_at hl 2 rfl) ?_
  refine lv_istore (lv' := [(5, .int (oI x1)), (4, .int (oI (x2 + 1))), (0, .ref (ad 51)), (1, .int (oI x1)), (2, .int (oI x2)), (3, .int (oI x3))]) hx hb d_7_6_86 hl (by decide) rfl (fun ls hl => ?_)
  obtain ⟨⟨t18, v18_4, v18_5, M18⟩, g18, h⟩ := bd_e h
  obtain ⟨ok18, h⟩ := ck_e h
  refine s_Fb_goToNextOrder_88 l z ad E hx hb hml hts hown hlocks hA hG hZ hL FU M14 (x2 + 1) x1 t18 v18_4 v18_5 M18 g18 (fun e18 H locs ls hP hD hS hl => ?_) H locs ls hP hD hS (lv_sub hl [2, 1, 0] rfl)
  obtain rfl := in1 h
  exact W.vret hx hb hr (fun t ht hW => qkA hP hD hS (fun k => k) rfl rfl ht) hS.2.2 d_7_6_112
set_option maxRecDepth 100000 in
set_option maxHeartbeats 4000000 in
theorem b_Fb_goToNextOrder_j41 (l : Launch) (z : Zz) (ad : Nat → Nat) (E : Ev) (M : Mm) (x1 : Int) (x2 : Int) (N : Mm) {p : Program} {e : Env} {s : State} {m : MethodId} {below : List Frame} {meth : Method} {c : Code} {A : Nat → Prop} {args : Array Value} (hx : p.tables.exec = Jvm.exec) (hb : c.code = prog_7_method_6_code) (hml : c.maxLocals = 6) (hts : ∀ w ∈ WG, w.before args s = true) (hown : s.vm.findClass "Ballothall$FalseBallot" = some m.cls) (hlocks : meth.locks = false) (hA : ∀ q, s.heap.size ≤ q → A q) (hG : KG z s) (hZ : FZ z A s) (hL : Lay E) (hr : meth.sig.returnType = none) (h : Fb_goToNextOrder_j41 E M x1 x2 = some N) : ∀ (H : Heap) (locs : List Loc) (ls : Array Slot), va_P z.1 classes (wv z ad E M) H → va_D A (wv z ad E M) → va_S A s.heap H locs → lv_has ls 6 [(0, .ref (ad 51)), (1, .int (oI x1)), (2, .int (oI x2))] → W p l e (rmK 1 43 0 0) s m args below meth c H locs 0 0 (MQ below (QK z A (fun _ => none) (fun _ => (wv z ad E N))) args s 0 0 A) (F0 m 41 ls []) := by
  intro H locs ls hP hD hS hl
  unfold Fb_goToNextOrder_j41 at h
  refine lv_iload_n hx hb d_7_6_41 rfl (lv_at hl 2 rfl) ?_
  obtain ⟨ok6, h⟩ := ck_e h
  refine lv_if_ge (tgt := 46) hx hb d_7_6_42 (by decide) (fun c9 => ?_) (fun c9 => ?_)
  · have h := ite_t ((oI_ge0 ok6).mp c9) h
    refine lv_iload_n hx hb d_7_6_46 rfl (lv_at hl 1 rfl) ?_
    refine lv_istore_n (lv' := [(3, .int (oI x1)), (0, .ref (ad 51)), (1, .int (oI x1)), (2, .int (oI x2))]) hx hb d_7_6_47 rfl hl (by decide) rfl (fun ls hl => ?_)
    obtain ⟨⟨t13, v13_3, M13⟩, g13, h⟩ := bd_e h
    obtain ⟨ok13, h⟩ := ck_e h
    refine s_Fb_goToNextOrder_48 l z ad E x1 x2 hx hb hml hts hown hlocks hA hG hZ hL FU M x1 t13 v13_3 M13 g13 (fun e13 H locs ls hP hD hS hl => ?_) H locs ls hP hD hS (lv_sub hl [1, 2, 3, 0] rfl)
    exact b_Fb_goToNextOrder_j74 l z ad E M13 x1 x2 v13_3 N hx hb hml hts hown hlocks hA hG hZ hL hr h H locs ls hP hD hS (lv_sub hl [0, 1, 2, 3] rfl)
  · have h := ite_f (fun q => c9 ((oI_ge0 ok6).mpr q)) h
    obtain rfl := in1 h
    exact W.vret hx hb hr (fun t ht hW => qkA hP hD hS (fun k => k) rfl rfl ht) hS.2.2 d_7_6_45
set_option maxRecDepth 100000 in
set_option maxHeartbeats 4000000 in
theorem s_Fb_goToNextOrder (l : Launch) (z : Zz) (ad : Nat → Nat) (E : Ev) (M : Mm) (N : Mm) (hL : Lay E) (h : f_Fb_goToNextOrder E M = some N) : CT l z ⟨"Ballothall$FalseBallot", "goToNextOrder", "()V"⟩ prog_7_method_6_code 6 none [.ref (ad 51)] (wv z ad E M) 1 43 0 0 (fun _ => none) (fun _ => (wv z ad E N)) := by
  refine CT.of (own := "Ballothall$FalseBallot") (by decide +kernel) (Nat.le_of_ble_eq_true rfl) rfl (fun p e s m below meth c A ls hx hb hml hr hts hown hlocks hin hA hG hZ hP hD hS hl => ?_)
  have hl : lv_has ls 6 [(0, .ref (ad 51))] := hl
  have key : ∀ (H : Heap) (locs : List Loc) (args : Array Value), (∀ w ∈ WG, w.before args s = true) → va_P z.1 classes (wv z ad E M) H → va_S A s.heap H locs → W p l e (rmK 1 43 0 0) s m args below meth c H locs 0 0 (MQ below (QK z A (fun _ => none) (fun _ => (wv z ad E N))) args s 0 0 A) (F0 m 0 ls []) := by
    intro H locs args hts hP hS
    unfold f_Fb_goToNextOrder at h
    refine lv_aload_n hx hb d_7_6_0 rfl (lv_at hl 0 rfl) ?_
    refine m_gr (j := 2) (C := "Ballothall$FalseBallot") (T := TX5) (N := 3) (ci := 5) (k := 0) hx hb hts iX5 hown hG hP (yi_51 hL) (yt_51 hL) rfl (by decide) w_152 (fun _ h9 => h9) rfl rfl (yr_51_0 hL) d_7_6_1 ?_
    refine m_giN (C := "Ballothall$BallotBox") (T := TX0) (N := 10) (ci := 0) (k := 2) hx hb hts iX0 hown hG hP (yi_2 hL) (yt_2 hL) rfl (by decide) n_54 rfl (fun _ h9 => h9) rfl rfl d_7_6_4 ?_
    refine lv_iconst (v := oI 1) hx hb d_7_6_7 (by decide +kernel) ?_
    refine lv_isub hx hb d_7_6_8 ?_
    refine nrm (oI_sub _ _) ?_
    refine lv_istore_n (lv' := [(1, .int (oI ((M 2 2) - 1))), (0, .ref (ad 51))]) hx hb d_7_6_9 rfl hl (by decide) rfl (fun ls hl => ?_)
    refine lv_iload_n hx hb d_7_6_10 rfl (lv_at hl 0 rfl) ?_
    refine lv_iconst (v := oI 1) hx hb d_7_6_11 (by decide +kernel) ?_
    refine lv_isub hx hb d_7_6_12 ?_
    refine nrm (oI_sub _ _) ?_
    refine lv_istore_n (lv' := [(2, .int (oI (((M 2 2) - 1) - 1))), (1, .int (oI ((M 2 2) - 1))), (0, .ref (ad 51))]) hx hb d_7_6_13 rfl hl (by decide) rfl (fun ls hl => ?_)
    obtain ⟨⟨t5, v5_2, M5⟩, g5, h⟩ := bd_e h
    obtain ⟨ok5, h⟩ := ck_e h
    refine s_Fb_goToNextOrder_14 l z ad E ((M 2 2) - 1) hx hb hml hts hown hlocks hA hG hZ hL FU M (((M 2 2) - 1) - 1) t5 v5_2 M5 g5 (fun e5 H locs ls hP hD hS hl => ?_) H locs ls hP hD hS (lv_sub hl [2, 1, 0] rfl)
    exact b_Fb_goToNextOrder_j41 l z ad E M5 ((M 2 2) - 1) v5_2 N hx hb hml hts hown hlocks hA hG hZ hL hr h H locs ls hP hD hS (lv_sub hl [0, 1, 2] rfl)
  exact key _ _ _ hts hP hS
set_option maxRecDepth 100000 in
set_option maxHeartbeats 4000000 in
theorem b_Fb_findOrder_2b (l : Launch) (z : Zz) (ad : Nat → Nat) (E : Ev) (M : Mm) (x1 : Int) (x2 : Int) (x3 : Int) (t : Nat) (w3 : Int) (N : Mm) {Q : State → Prop} {p : Program} {e : Env} {s : State} {m : MethodId} {below : List Frame} {meth : Method} {c : Code} {A : Nat → Prop} {args : Array Value} (hx : p.tables.exec = Jvm.exec) (hb : c.code = prog_7_method_4_code) (hml : c.maxLocals = 7) (hts : ∀ w ∈ WG, w.before args s = true) (hown : s.vm.findClass "Ballothall$FalseBallot" = some m.cls) (hlocks : meth.locks = false) (hA : ∀ q, s.heap.size ≤ q → A q) (hG : KG z s) (hZ : FZ z A s) (hL : Lay E) (h : Fb_findOrder_2b E M x1 x2 x3 = some (t, w3, N)) (k0 : t = 0 → ∀ (H : Heap) (locs : List Loc) (ls : Array Slot), va_P z.1 classes (wv z ad E N) H → va_D A (wv z ad E N) → va_S A s.heap H locs → lv_has ls 7 [(0, .ref (ad 51)), (1, .int (oI x1)), (2, .int (oI x2)), (3, .int (oI w3))] → W p l e (rmK 5 135 0 0) s m args below meth c H locs 0 0 Q (F0 m 2 ls [])) (k1 : t = 1 → ∀ (H : Heap) (locs : List Loc) (ls : Array Slot), va_P z.1 classes (wv z ad E N) H → va_D A (wv z ad E N) → va_S A s.heap H locs → lv_has ls 7 [(0, .ref (ad 51)), (1, .int (oI x1)), (2, .int (oI x2))] → W p l e (rmK 5 135 0 0) s m args below meth c H locs 0 0 Q (F0 m 20 ls [])) : ∀ (H : Heap) (locs : List Loc) (ls : Array Slot), va_P z.1 classes (wv z ad E M) H → va_D A (wv z ad E M) → va_S A s.heap H locs → lv_has ls 7 [(0, .ref (ad 51)), (1, .int (oI x1)), (2, .int (oI x2)), (3, .int (oI x3))] → W p l e (rmK 5 135 0 0) s m args below meth c H locs 0 0 Q (F0 m 2 ls []) := by
  intro H locs ls hP hD hS hl
  unfold Fb_findOrder_2b at h
  refine lv_iload_n hx hb d_7_4_2 rfl (lv_at hl 3 rfl) ?_
  refine lv_iconst (v := oI 5) hx hb d_7_4_3 (by decide +kernel) ?_
  obtain ⟨ok0, h⟩ := ck_e h
  refine lv_icmp_ge (tgt := 20) hx hb d_7_4_4 (by decide) (fun c9 => ?_) (fun c9 => ?_)
  · have h := ite_t ((oI_le (a := (5 : Int)) (b := x3) (by decide) ok0).mp c9) h
    obtain ⟨rfl, rfl, rfl⟩ := in3 h
    exact k1 rfl H locs ls hP hD hS (lv_sub hl [0, 1, 2] rfl)
  · have h := ite_f (fun q => c9 ((oI_le (a := (5 : Int)) (b := x3) (by decide) ok0).mpr q)) h
    refine lv_aload_n hx hb d_7_4_7 rfl (lv_at hl 0 rfl) ?_
    refine m_gr (j := 52) (C := "Ballothall$FalseBallot") (T := TX5) (N := 3) (ci := 5) (k := 2) hx hb hts iX5 hown hG hP (yi_51 hL) (yt_51 hL) rfl (by decide) w_154 (fun _ h9 => h9) rfl rfl (yr_51_2 hL) d_7_4_8 ?_
    refine lv_iload_n hx hb d_7_4_11 rfl (lv_at hl 3 rfl) ?_
    refine lv_iload_n hx hb d_7_4_12 rfl (lv_at hl 3 rfl) ?_
    obtain ⟨ok1, h⟩ := ck_e h
    refine m_is hx hb hG hP hD hS (yi_52 hL) (yt_52 hL) ok1 d_7_4_13 (fun H locs hP hD hS => ?_)
    have hP : va_P z.1 classes (wv z ad E (u2 M 52 x3.toNat x3)) H := hP
    have hD : va_D A (wv z ad E (u2 M 52 x3.toNat x3)) := hD
    refine lv_iinc (v := oI (x3 + 1)) (lv' := [(3, .int (oI (x3 + 1))), (0, .ref (ad 51)), (1, .int (oI x1)), (2, .int (oI x2))]) hx hb d_7_4_14 hl (k := 3) rfl (oI_add x3 1) (by decide) rfl (fun ls hl => ?_)
    refine lv_goto (tgt := 2) hx hb d_7_4_17 (by decide) ?_
    obtain ⟨rfl, rfl, rfl⟩ := in3 h
    exact k0 rfl H locs ls hP hD hS (lv_sub hl [1, 2, 3, 0] rfl)
set_option maxRecDepth 100000 in
set_option maxHeartbeats 4000000 in
theorem s_Fb_findOrder_2 (l : Launch) (z : Zz) (ad : Nat → Nat) (E : Ev) (x1 : Int) (x2 : Int) {Q : State → Prop} {p : Program} {e : Env} {s : State} {m : MethodId} {below : List Frame} {meth : Method} {c : Code} {A : Nat → Prop} {args : Array Value} (hx : p.tables.exec = Jvm.exec) (hb : c.code = prog_7_method_4_code) (hml : c.maxLocals = 7) (hts : ∀ w ∈ WG, w.before args s = true) (hown : s.vm.findClass "Ballothall$FalseBallot" = some m.cls) (hlocks : meth.locks = false) (hA : ∀ q, s.heap.size ≤ q → A q) (hG : KG z s) (hZ : FZ z A s) (hL : Lay E) : ∀ (fu : Nat) (M : Mm) (x3 : Int) (t : Nat) (w3 : Int) (N : Mm), l_Fb_findOrder_2 E x1 x2 fu M x3 = some (t, w3, N) → (t = 1 → ∀ (H : Heap) (locs : List Loc) (ls : Array Slot), va_P z.1 classes (wv z ad E N) H → va_D A (wv z ad E N) → va_S A s.heap H locs → lv_has ls 7 [(0, .ref (ad 51)), (1, .int (oI x1)), (2, .int (oI x2))] → W p l e (rmK 5 135 0 0) s m args below meth c H locs 0 0 Q (F0 m 20 ls [])) → ∀ (H : Heap) (locs : List Loc) (ls : Array Slot), va_P z.1 classes (wv z ad E M) H → va_D A (wv z ad E M) → va_S A s.heap H locs → lv_has ls 7 [(0, .ref (ad 51)), (1, .int (oI x1)), (2, .int (oI x2)), (3, .int (oI x3))] → W p l e (rmK 5 135 0 0) s m args below meth c H locs 0 0 Q (F0 m 2 ls []) := by
  intro fu
  induction fu with
  | zero =>
    intro M x3 t w3 N h
    have h : (none : Option (Nat × Int × Mm)) = some _ := h
    cases h
  | succ fu ih =>
    intro M x3 t w3 N h k1 H locs ls hP hD hS hl
    obtain ⟨⟨t0, w30, N9⟩, g0, h⟩ := bd_e h
    refine b_Fb_findOrder_2b l z ad E M x1 x2 x3 t0 w30 N9 hx hb hml hts hown hlocks hA hG hZ hL g0 (fun e0 => ?_) (fun e0 => ?_) H locs ls hP hD hS hl
    · subst e0
      have h := ite_t rfl h
      exact ih N9 w30 t w3 N h k1
    · subst e0
      have h := ite_f (by decide) h
      obtain ⟨rfl, rfl, rfl⟩ := in3 h
      exact k1 rfl
set_option maxRecDepth 100000 in
set_option maxHeartbeats 4000000 in
theorem b_Fb_findOrder_j94 (l : Launch) (z : Zz) (ad : Nat → Nat) (E : Ev) (M : Mm) (x1 : Int) (x2 : Int) (x3 : Int) (x5 : Int) (t : Nat) (w5 : Int) (N : Mm) {Q : State → Prop} {p : Program} {e : Env} {s : State} {m : MethodId} {below : List Frame} {meth : Method} {c : Code} {A : Nat → Prop} {args : Array Value} (hx : p.tables.exec = Jvm.exec) (hb : c.code = prog_7_method_4_code) (hml : c.maxLocals = 7) (hts : ∀ w ∈ WG, w.before args s = true) (hown : s.vm.findClass "Ballothall$FalseBallot" = some m.cls) (hlocks : meth.locks = false) (hA : ∀ q, s.heap.size ≤ q → A q) (hG : KG z s) (hZ : FZ z A s) (hL : Lay E) (h : Fb_findOrder_j94 E M x1 x2 x3 x5 = some (t, w5, N)) (k0 : t = 0 → ∀ (H : Heap) (locs : List Loc) (ls : Array Slot), va_P z.1 classes (wv z ad E N) H → va_D A (wv z ad E N) → va_S A s.heap H locs → lv_has ls 7 [(0, .ref (ad 51)), (1, .int (oI x1)), (2, .int (oI x2)), (3, .long (oJ x3)), (5, .int (oI w5))] → W p l e (rmK 5 135 0 0) s m args below meth c H locs 0 0 Q (F0 m 35 ls [])) (k1 : t = 1 → ∀ (H : Heap) (locs : List Loc) (ls : Array Slot), va_P z.1 classes (wv z ad E N) H → va_D A (wv z ad E N) → va_S A s.heap H locs → lv_has ls 7 [] → W p l e (rmK 5 135 0 0) s m args below meth c H locs 0 0 Q (F0 m 92 ls [])) (k2 : t = 2 → ∀ (H : Heap) (locs : List Loc) (ls : Array Slot), va_P z.1 classes (wv z ad E N) H → va_D A (wv z ad E N) → va_S A s.heap H locs → lv_has ls 7 [] → W p l e (rmK 5 135 0 0) s m args below meth c H locs 0 0 Q (F0 m 104 ls [])) : ∀ (H : Heap) (locs : List Loc) (ls : Array Slot), va_P z.1 classes (wv z ad E M) H → va_D A (wv z ad E M) → va_S A s.heap H locs → lv_has ls 7 [(0, .ref (ad 51)), (1, .int (oI x1)), (2, .int (oI x2)), (3, .long (oJ x3)), (5, .int (oI x5))] → W p l e (rmK 5 135 0 0) s m args below meth c H locs 0 0 Q (F0 m 94 ls []) := by
  intro H locs ls hP hD hS hl
  unfold Fb_findOrder_j94 at h
  refine lv_aload_n hx hb d_7_4_94 rfl (lv_at hl 0 rfl) ?_
  obtain ⟨M12, g12, h⟩ := bd_e h
  refine kV (As := []) (rest := []) (s_Fb_goToNextOrder l z ad E M M12 hL g12) hx hb hml hown hts w_1429 w_1426 w_1428 w_s_8750fd w_4 md_202b03 ⟨Nat.le_of_ble_eq_true rfl, Nat.le_of_ble_eq_true rfl⟩ hG hZ hP hD hS hA 51 (wv_o (ci := 5) (yi_51 hL) (yt_51 hL)) rfl rfl rfl hl.1 rfl (Nat.le_of_ble_eq_true rfl) d_7_4_95 ⟨Nat.le_of_ble_eq_true rfl, Nat.le_of_ble_eq_true rfl⟩ (fun _ H locs hP hD hS => ?_)
  have hP : va_P z.1 classes (wv z ad E M12) H := hP
  have hD : va_D A (wv z ad E M12) := hD
  refine W.eq (g2 := F0 m 98 ls []) rfl ?_
  refine lv_iinc (v := oI (x5 + 1)) (lv' := [(5, .int (oI (x5 + 1))), (0, .ref (ad 51)), (1, .int (oI x1)), (2, .int (oI x2)), (3, .long (oJ x3))]) hx hb d_7_4_98 hl (k := 4) rfl (oI_add x5 1) (by decide) rfl (fun ls hl => ?_)
  refine lv_goto (tgt := 35) hx hb d_7_4_101 (by decide) ?_
  obtain ⟨rfl, rfl, rfl⟩ := in3 h
  exact k0 rfl H locs ls hP hD hS (lv_sub hl [1, 2, 3, 4, 0] rfl)
set_option maxRecDepth 100000 in
set_option maxHeartbeats 4000000 in
theorem b_Fb_findOrder_35b (l : Launch) (z : Zz) (ad : Nat → Nat) (E : Ev) (M : Mm) (x1 : Int) (x2 : Int) (x3 : Int) (x5 : Int) (t : Nat) (w5 : Int) (N : Mm) {Q : State → Prop} {p : Program} {e : Env} {s : State} {m : MethodId} {below : List Frame} {meth : Method} {c : Code} {A : Nat → Prop} {args : Array Value} (hx : p.tables.exec = Jvm.exec) (hb : c.code = prog_7_method_4_code) (hml : c.maxLocals = 7) (hts : ∀ w ∈ WG, w.before args s = true) (hown : s.vm.findClass "Ballothall$FalseBallot" = some m.cls) (hlocks : meth.locks = false) (hA : ∀ q, s.heap.size ≤ q → A q) (hG : KG z s) (hZ : FZ z A s) (hL : Lay E) (h : Fb_findOrder_35b E M x1 x2 x3 x5 = some (t, w5, N)) (k0 : t = 0 → ∀ (H : Heap) (locs : List Loc) (ls : Array Slot), va_P z.1 classes (wv z ad E N) H → va_D A (wv z ad E N) → va_S A s.heap H locs → lv_has ls 7 [(0, .ref (ad 51)), (1, .int (oI x1)), (2, .int (oI x2)), (3, .long (oJ x3)), (5, .int (oI w5))] → W p l e (rmK 5 135 0 0) s m args below meth c H locs 0 0 Q (F0 m 35 ls [])) (k1 : t = 1 → ∀ (H : Heap) (locs : List Loc) (ls : Array Slot), va_P z.1 classes (wv z ad E N) H → va_D A (wv z ad E N) → va_S A s.heap H locs → lv_has ls 7 [] → W p l e (rmK 5 135 0 0) s m args below meth c H locs 0 0 Q (F0 m 92 ls [])) (k2 : t = 2 → ∀ (H : Heap) (locs : List Loc) (ls : Array Slot), va_P z.1 classes (wv z ad E N) H → va_D A (wv z ad E N) → va_S A s.heap H locs → lv_has ls 7 [] → W p l e (rmK 5 135 0 0) s m args below meth c H locs 0 0 Q (F0 m 104 ls [])) : ∀ (H : Heap) (locs : List Loc) (ls : Array Slot), va_P z.1 classes (wv z ad E M) H → va_D A (wv z ad E M) → va_S A s.heap H locs → lv_has ls 7 [(0, .ref (ad 51)), (1, .int (oI x1)), (2, .int (oI x2)), (3, .long (oJ x3)), (5, .int (oI x5))] → W p l e (rmK 5 135 0 0) s m args below meth c H locs 0 0 Q (F0 m 35 ls []) := by
  intro H locs ls hP hD hS hl
  unfold Fb_findOrder_35b at h
  refine lv_iload hx hb d_7_4_35 (lv_at hl 4 rfl) ?_
  obtain ⟨ok5, h⟩ := ck_e h
  refine lv_i2l (v := oJ x5) hx hb d_7_4_37 (oI_l ok5) ?_
  refine lv_lload_n hx hb d_7_4_38 rfl (lv_at hl 3 rfl) ?_
  obtain ⟨ok6, h⟩ := ck_e h
  refine W.lcmp hx hb d_7_4_39 ?_
  refine nrm (cmp_val (a := x5) (b := x3) (rg_ij ok5) ok6) ?_
  refine lv_if_ge (tgt := 104) hx hb d_7_4_40 (by decide) (fun c9 => ?_) (fun c9 => ?_)
  · have h := ite_t ((cmp_ge x5 x3).mp c9) h
    obtain ⟨rfl, rfl, rfl⟩ := in3 h
    exact k2 rfl H locs ls hP hD hS (lv_sub hl [] rfl)
  · have h := ite_f (fun q => c9 ((cmp_ge x5 x3).mpr q)) h
    refine lv_aload_n hx hb d_7_4_43 rfl (lv_at hl 0 rfl) ?_
    obtain ⟨M7, g7, h⟩ := bd_e h
    refine kV (As := []) (rest := []) (s_Fb_writeTrial l z ad E M M7 hL g7) hx hb hml hown hts w_1422 w_1419 w_1421 w_s_897e6a w_4 md_fc3851 ⟨Nat.le_of_ble_eq_true rfl, Nat.le_of_ble_eq_true rfl⟩ hG hZ hP hD hS hA 51 (wv_o (ci := 5) (yi_51 hL) (yt_51 hL)) rfl rfl rfl hl.1 rfl (Nat.le_of_ble_eq_true rfl) d_7_4_44 ⟨Nat.le_of_ble_eq_true rfl, Nat.le_of_ble_eq_true rfl⟩ (fun _ H locs hP hD hS => ?_)
    have hP : va_P z.1 classes (wv z ad E M7) H := hP
    have hD : va_D A (wv z ad E M7) := hD
    refine W.eq (g2 := F0 m 47 ls []) rfl ?_
    refine lv_aload_n hx hb d_7_4_47 rfl (lv_at hl 0 rfl) ?_
    refine m_gr (j := 41) (C := "Ballothall$FalseBallot") (T := TX5) (N := 3) (ci := 5) (k := 1) hx hb hts iX5 hown hG hP (yi_51 hL) (yt_51 hL) rfl (by decide) w_153 (fun _ h9 => h9) rfl rfl (yr_51_1 hL) d_7_4_48 ?_
    refine lv_bipush (v := oI 30) hx hb d_7_4_51 (by decide +kernel) ?_
    refine lv_iconst (v := oI 1) hx hb d_7_4_53 (by decide +kernel) ?_
    obtain ⟨M8, g8, h⟩ := bd_e h
    refine kVN (As := [.int (oI 30), .int (oI 1)]) (rest := []) (s_Po_change l z ad E M7 30 1 M8 hL g8) hx hb hml hown hts w_677 n_1413 w_676 w_s_d035ed w_3 md_d775df ⟨Nat.le_of_ble_eq_true rfl, Nat.le_of_ble_eq_true rfl⟩ hG hZ hP hD hS hA 41 (wv_o (ci := 9) (yi_41 hL) (yt_41 hL)) rfl rfl rfl hl.1 rfl (Nat.le_of_ble_eq_true rfl) d_7_4_54 ⟨Nat.le_of_ble_eq_true rfl, Nat.le_of_ble_eq_true rfl⟩ (fun _ H locs hP hD hS => ?_)
    have hP : va_P z.1 classes (wv z ad E M8) H := hP
    have hD : va_D A (wv z ad E M8) := hD
    refine W.eq (g2 := F0 m 57 ls []) rfl ?_
    refine lv_aload_n hx hb d_7_4_57 rfl (lv_at hl 0 rfl) ?_
    refine m_gr (j := 41) (C := "Ballothall$FalseBallot") (T := TX5) (N := 3) (ci := 5) (k := 1) hx hb hts iX5 hown hG hP (yi_51 hL) (yt_51 hL) rfl (by decide) w_153 (fun _ h9 => h9) rfl rfl (yr_51_1 hL) d_7_4_58 ?_
    refine lv_iload_n hx hb d_7_4_61 rfl (lv_at hl 1 rfl) ?_
    obtain ⟨⟨r9, M9⟩, g9, h⟩ := bd_e h
    refine kVN (As := [.int (oI x1)]) (rest := []) (s_Po_bestBy l z ad E M8 x1 r9 M9 hL g9) hx hb hml hown hts w_1374 n_1371 w_1373 w_s_0765de w_3 md_2b9f88 ⟨Nat.le_of_ble_eq_true rfl, Nat.le_of_ble_eq_true rfl⟩ hG hZ hP hD hS hA 41 (wv_o (ci := 9) (yi_41 hL) (yt_41 hL)) rfl rfl rfl hl.1 rfl (Nat.le_of_ble_eq_true rfl) d_7_4_62 ⟨Nat.le_of_ble_eq_true rfl, Nat.le_of_ble_eq_true rfl⟩ (fun _ H locs hP hD hS => ?_)
    have hP : va_P z.1 classes (wv z ad E M9) H := hP
    have hD : va_D A (wv z ad E M9) := hD
    refine W.eq (g2 := F0 m 65 ls [.int (oI r9)]) rfl ?_
    refine lv_istore (lv' := [(6, .int (oI r9)), (0, .ref (ad 51)), (1, .int (oI x1)), (2, .int (oI x2)), (3, .long (oJ x3)), (5, .int (oI x5))]) hx hb d_7_4_65 hl (by decide) rfl (fun ls hl => ?_)
    refine lv_aload_n hx hb d_7_4_67 rfl (lv_at hl 1 rfl) ?_
    refine m_gr (j := 41) (C := "Ballothall$FalseBallot") (T := TX5) (N := 3) (ci := 5) (k := 1) hx hb hts iX5 hown hG hP (yi_51 hL) (yt_51 hL) rfl (by decide) w_153 (fun _ h9 => h9) rfl rfl (yr_51_1 hL) d_7_4_68 ?_
    refine lv_bipush (v := oI 30) hx hb d_7_4_71 (by decide +kernel) ?_
    refine lv_iconst (v := oI (-1)) hx hb d_7_4_73 (by decide +kernel) ?_
    obtain ⟨M10, g10, h⟩ := bd_e h
    refine kVN (As := [.int (oI 30), .int (oI (-1))]) (rest := []) (s_Po_change l z ad E M9 30 (-1) M10 hL g10) hx hb hml hown hts w_677 n_1413 w_676 w_s_d035ed w_3 md_d775df ⟨Nat.le_of_ble_eq_true rfl, Nat.le_of_ble_eq_true rfl⟩ hG hZ hP hD hS hA 41 (wv_o (ci := 9) (yi_41 hL) (yt_41 hL)) rfl rfl rfl hl.1 rfl (Nat.le_of_ble_eq_true rfl) d_7_4_74 ⟨Nat.le_of_ble_eq_true rfl, Nat.le_of_ble_eq_true rfl⟩ (fun _ H locs hP hD hS => ?_)
    have hP : va_P z.1 classes (wv z ad E M10) H := hP
    have hD : va_D A (wv z ad E M10) := hD
    refine W.eq (g2 := F0 m 77 ls []) rfl ?_
    refine lv_iload hx hb d_7_4_77 (lv_at hl 0 rfl) ?_
    refine lv_iconst (v := oI (-1)) hx hb d_7_4_79 (by decide +kernel) ?_
    obtain ⟨ok11, h⟩ := ck_e h
    refine lv_icmp_eq (tgt := 94) hx hb d_7_4_80 (by decide) (fun c9 => ?_) (fun c9 => ?_)
    · have h := ite_t ((oI_eq (a := r9) (b := (-1 : Int)) ok11 (by decide)).mp c9) h
      exact b_Fb_findOrder_j94 l z ad E M10 x1 x2 x3 x5 t w5 N hx hb hml hts hown hlocks hA hG hZ hL h k0 k1 k2 H locs ls hP hD hS (lv_sub hl [1, 2, 3, 4, 5] rfl)
    · have h := ite_f (fun q => c9 ((oI_eq (a := r9) (b := (-1 : Int)) ok11 (by decide)).mpr q)) h
      refine lv_iload_n hx hb d_7_4_83 rfl (lv_at hl 3 rfl) ?_
      refine lv_iload hx hb d_7_4_84 (lv_at hl 0 rfl) ?_
      obtain ⟨r13, g13, h⟩ := bd_e h
      refine kSN (As := [.int (oI x2), .int (oI r9)]) (rest := []) (s_B_has l z ad E M10 x2 r9 r13 hL g13) hx hb hml hown hts w_693 n_1425 w_692 w_1 md_26545c ⟨Nat.le_of_ble_eq_true rfl, Nat.le_of_ble_eq_true rfl⟩ hG hZ hP hD hS hA rfl hl.1 rfl (Nat.le_of_ble_eq_true rfl) d_7_4_86 ⟨Nat.le_of_ble_eq_true rfl, Nat.le_of_ble_eq_true rfl⟩ (fun _ H locs hP hD hS => ?_)
      have hP : va_P z.1 classes (wv z ad E M10) H := hP
      have hD : va_D A (wv z ad E M10) := hD
      refine W.eq (g2 := F0 m 89 ls [.int (oI r13)]) rfl ?_
      obtain ⟨ok14, h⟩ := ck_e h
      refine lv_if_eq (tgt := 94) hx hb d_7_4_89 (by decide) (fun c9 => ?_) (fun c9 => ?_)
      · have h := ite_t ((oI_eq0 ok14).mp c9) h
        exact b_Fb_findOrder_j94 l z ad E M10 x1 x2 x3 x5 t w5 N hx hb hml hts hown hlocks hA hG hZ hL h k0 k1 k2 H locs ls hP hD hS (lv_sub hl [1, 2, 3, 4, 5] rfl)
      · have h := ite_f (fun q => c9 ((oI_eq0 ok14).mpr q)) h
        obtain ⟨rfl, rfl, rfl⟩ := in3 h
        exact k1 rfl H locs ls hP hD hS (lv_sub hl [] rfl)
set_option maxRecDepth 100000 in
set_option maxHeartbeats 4000000 in
theorem s_Fb_findOrder_35 (l : Launch) (z : Zz) (ad : Nat → Nat) (E : Ev) (x1 : Int) (x2 : Int) (x3 : Int) {Q : State → Prop} {p : Program} {e : Env} {s : State} {m : MethodId} {below : List Frame} {meth : Method} {c : Code} {A : Nat → Prop} {args : Array Value} (hx : p.tables.exec = Jvm.exec) (hb : c.code = prog_7_method_4_code) (hml : c.maxLocals = 7) (hts : ∀ w ∈ WG, w.before args s = true) (hown : s.vm.findClass "Ballothall$FalseBallot" = some m.cls) (hlocks : meth.locks = false) (hA : ∀ q, s.heap.size ≤ q → A q) (hG : KG z s) (hZ : FZ z A s) (hL : Lay E) : ∀ (fu : Nat) (M : Mm) (x5 : Int) (t : Nat) (w5 : Int) (N : Mm), l_Fb_findOrder_35 E x1 x2 x3 fu M x5 = some (t, w5, N) → (t = 1 → ∀ (H : Heap) (locs : List Loc) (ls : Array Slot), va_P z.1 classes (wv z ad E N) H → va_D A (wv z ad E N) → va_S A s.heap H locs → lv_has ls 7 [] → W p l e (rmK 5 135 0 0) s m args below meth c H locs 0 0 Q (F0 m 92 ls [])) → (t = 2 → ∀ (H : Heap) (locs : List Loc) (ls : Array Slot), va_P z.1 classes (wv z ad E N) H → va_D A (wv z ad E N) → va_S A s.heap H locs → lv_has ls 7 [] → W p l e (rmK 5 135 0 0) s m args below meth c H locs 0 0 Q (F0 m 104 ls [])) → ∀ (H : Heap) (locs : List Loc) (ls : Array Slot), va_P z.1 classes (wv z ad E M) H → va_D A (wv z ad E M) → va_S A s.heap H locs → lv_has ls 7 [(0, .ref (ad 51)), (1, .int (oI x1)), (2, .int (oI x2)), (3, .long (oJ x3)), (5, .int (oI x5))] → W p l e (rmK 5 135 0 0) s m args below meth c H locs 0 0 Q (F0 m 35 ls []) := by
  intro fu
  induction fu with
  | zero =>
    intro M x5 t w5 N h
    have h : (none : Option (Nat × Int × Mm)) = some _ := h
    cases h
  | succ fu ih =>
    intro M x5 t w5 N h k1 k2 H locs ls hP hD hS hl
    obtain ⟨⟨t0, w50, N9⟩, g0, h⟩ := bd_e h
    refine b_Fb_findOrder_35b l z ad E M x1 x2 x3 x5 t0 w50 N9 hx hb hml hts hown hlocks hA hG hZ hL g0 (fun e0 => ?_) (fun e0 => ?_) (fun e0 => ?_) H locs ls hP hD hS hl
    · subst e0
      have h := ite_t rfl h
      exact ih N9 w50 t w5 N h k1 k2
    · subst e0
      have h := ite_f (by decide) h
      obtain ⟨rfl, rfl, rfl⟩ := in3 h
      exact k1 rfl
    · subst e0
      have h := ite_f (by decide) h
      obtain ⟨rfl, rfl, rfl⟩ := in3 h
      exact k2 rfl
set_option maxRecDepth 100000 in
set_option maxHeartbeats 4000000 in
theorem s_Fb_findOrder (l : Launch) (z : Zz) (ad : Nat → Nat) (E : Ev) (M : Mm) (x1 : Int) (x2 : Int) (r : Int) (N : Mm) (hL : Lay E) (h : f_Fb_findOrder E M x1 x2 = some (r, N)) : CT l z ⟨"Ballothall$FalseBallot", "findOrder", "(II)Z"⟩ prog_7_method_4_code 7 (some .boolean) [.ref (ad 51), .int (oI x1), .int (oI x2)] (wv z ad E M) 5 135 0 0 (fun _ => some (.int (oI r))) (fun _ => (wv z ad E N)) := by
  refine CT.of (own := "Ballothall$FalseBallot") (by decide +kernel) (Nat.le_of_ble_eq_true rfl) rfl (fun p e s m below meth c A ls hx hb hml hr hts hown hlocks hin hA hG hZ hP hD hS hl => ?_)
  have hl : lv_has ls 7 [(0, .ref (ad 51)), (1, .int (oI x1)), (2, .int (oI x2))] := hl
  have key : ∀ (H : Heap) (locs : List Loc) (args : Array Value), (∀ w ∈ WG, w.before args s = true) → va_P z.1 classes (wv z ad E M) H → va_S A s.heap H locs → W p l e (rmK 5 135 0 0) s m args below meth c H locs 0 0 (MQ below (QK z A (fun _ => some (.int (oI r))) (fun _ => (wv z ad E N))) args s 0 0 A) (F0 m 0 ls []) := by
    intro H locs args hts hP hS
    unfold f_Fb_findOrder at h
    refine lv_iconst (v := oI 0) hx hb d_7_4_0 (by decide +kernel) ?_
    refine lv_istore_n (lv' := [(3, .int (oI 0)), (0, .ref (ad 51)), (1, .int (oI x1)), (2, .int (oI x2))]) hx hb d_7_4_1 rfl hl (by decide) rfl (fun ls hl => ?_)
    obtain ⟨⟨t2, v2_3, M2⟩, g2, h⟩ := bd_e h
    obtain ⟨ok2, h⟩ := ck_e h
    refine s_Fb_findOrder_2 l z ad E x1 x2 hx hb hml hts hown hlocks hA hG hZ hL FU M 0 t2 v2_3 M2 g2 (fun e2 H locs ls hP hD hS hl => ?_) H locs ls hP hD hS (lv_sub hl [1, 2, 3, 0] rfl)
    obtain ⟨fa, hf1, hf2, hf3, hf4⟩ := hZ.1
    refine va_getsN hx hb hf1 hS hown (va_Nw.use rfl (hG.2.1 _ n_1418 rfl)) (fun _ h9 => h9) d_7_4_20 ?_
    refine lv_aload_n hx hb d_7_4_23 rfl (lv_at hl 0 rfl) ?_
    refine m_gr (j := 2) (C := "Ballothall$FalseBallot") (T := TX5) (N := 3) (ci := 5) (k := 0) hx hb hts iX5 hown hG hP (yi_51 hL) (yt_51 hL) rfl (by decide) w_152 (fun _ h9 => h9) rfl rfl (yr_51_0 hL) d_7_4_24 ?_
    refine m_giN (C := "Ballothall$BallotBox") (T := TX0) (N := 10) (ci := 0) (k := 2) hx hb hts iX0 hown hG hP (yi_2 hL) (yt_2 hL) rfl (by decide) n_54 rfl (fun _ h9 => h9) rfl rfl d_7_4_27 ?_
    obtain ⟨ok4, h⟩ := ck_e h
    refine m_fl hx hb hG hS hf2 hf3 hf4 ok4 d_7_4_30 ?_
    refine lv_lstore_n (lv' := [(3, .long (oJ (facF (M2 2 2).toNat))), (0, .ref (ad 51)), (1, .int (oI x1)), (2, .int (oI x2))]) hx hb d_7_4_31 rfl hl (by decide) rfl (fun ls hl => ?_)
    refine lv_iconst (v := oI 0) hx hb d_7_4_32 (by decide +kernel) ?_
    refine lv_istore (lv' := [(5, .int (oI 0)), (3, .long (oJ (facF (M2 2 2).toNat))), (0, .ref (ad 51)), (1, .int (oI x1)), (2, .int (oI x2))]) hx hb d_7_4_33 hl (by decide) rfl (fun ls hl => ?_)
    obtain ⟨⟨t15, v15_5, M15⟩, g15, h⟩ := bd_e h
    refine s_Fb_findOrder_35 l z ad E x1 x2 (facF (M2 2 2).toNat) hx hb hml hts hown hlocks hA hG hZ hL FU M2 0 t15 v15_5 M15 g15 (fun e15 H locs ls hP hD hS hl => ?_) (fun e15 H locs ls hP hD hS hl => ?_) H locs ls hP hD hS (lv_sub hl [2, 3, 4, 1, 0] rfl)
    · subst e15
      have h := ite_t rfl h
      refine lv_iconst (v := oI 1) hx hb d_7_4_92 (by decide +kernel) ?_
      obtain ⟨rfl, rfl⟩ := in2 h
      exact W.zret hx hb hr rfl (fun t ht hW => qkA hP hD hS (fun k => k) rfl rfl ht) hS.2.2 d_7_4_93
    · subst e15
      have h := ite_f (by decide) h
      have h := ite_t rfl h
      refine lv_iconst (v := oI 0) hx hb d_7_4_104 (by decide +kernel) ?_
      obtain ⟨rfl, rfl⟩ := in2 h
      exact W.zret hx hb hr rfl (fun t ht hW => qkA hP hD hS (fun k => k) rfl rfl ht) hS.2.2 d_7_4_105
  exact key _ _ _ hts hP hS
set_option maxRecDepth 100000 in
set_option maxHeartbeats 4000000 in
theorem b_Fb_findKind_j65 (l : Launch) (z : Zz) (ad : Nat → Nat) (E : Ev) (M : Mm) (x1 : Int) (x2 : Int) (x3 : Int) (y0 : Int) (t : Nat) (w3 : Int) (N : Mm) {Q : State → Prop} {p : Program} {e : Env} {s : State} {m : MethodId} {below : List Frame} {meth : Method} {c : Code} {A : Nat → Prop} {args : Array Value} (hx : p.tables.exec = Jvm.exec) (hb : c.code = prog_7_method_2_code) (hml : c.maxLocals = 5) (hts : ∀ w ∈ WG, w.before args s = true) (hown : s.vm.findClass "Ballothall$FalseBallot" = some m.cls) (hlocks : meth.locks = false) (hA : ∀ q, s.heap.size ≤ q → A q) (hG : KG z s) (hZ : FZ z A s) (hL : Lay E) (h : Fb_findKind_j65 E M x1 x2 x3 y0 = some (t, w3, N)) (k0 : t = 0 → ∀ (H : Heap) (locs : List Loc) (ls : Array Slot), va_P z.1 classes (wv z ad E N) H → va_D A (wv z ad E N) → va_S A s.heap H locs → lv_has ls 5 [(0, .ref (ad 51)), (1, .int (oI x1)), (2, .int (oI x2)), (3, .int (oI w3))] → W p l e (rmK 6 161 0 0) s m args below meth c H locs 0 0 Q (F0 m 32 ls [])) (k1 : t = 1 → ∀ (H : Heap) (locs : List Loc) (ls : Array Slot), va_P z.1 classes (wv z ad E N) H → va_D A (wv z ad E N) → va_S A s.heap H locs → lv_has ls 5 [(3, .int (oI w3))] → W p l e (rmK 6 161 0 0) s m args below meth c H locs 0 0 Q (F0 m 91 ls [])) (k2 : t = 2 → ∀ (H : Heap) (locs : List Loc) (ls : Array Slot), va_P z.1 classes (wv z ad E N) H → va_D A (wv z ad E N) → va_S A s.heap H locs → lv_has ls 5 [] → W p l e (rmK 6 161 0 0) s m args below meth c H locs 0 0 Q (F0 m 108 ls [])) : ∀ (H : Heap) (locs : List Loc) (ls : Array Slot), va_P z.1 classes (wv z ad E M) H → va_D A (wv z ad E M) → va_S A s.heap H locs → lv_has ls 5 [(0, .ref (ad 51)), (1, .int (oI x1)), (2, .int (oI x2)), (3, .int (oI x3))] → W p l e (rmK 6 161 0 0) s m args below meth c H locs 0 0 Q (F0 m 65 ls [.int (oI y0)]) := by
  intro H locs ls hP hD hS hl
  unfold Fb_findKind_j65 at h
  refine lv_istore (lv' := [(4, .int (oI y0)), (0, .ref (ad 51)), (1, .int (oI x1)), (2, .int (oI x2)), (3, .int (oI x3))]) hx hb d_7_2_65 hl (by decide) rfl (fun ls hl => ?_)
  refine lv_iload hx hb d_7_2_67 (lv_at hl 0 rfl) ?_
  obtain ⟨ok8, h⟩ := ck_e h
  refine lv_if_eq (tgt := 102) hx hb d_7_2_69 (by decide) (fun c9 => ?_) (fun c9 => ?_)
  · have h := ite_t ((oI_eq0 ok8).mp c9) h
    refine lv_iinc (v := oI (x3 + 1)) (lv' := [(3, .int (oI (x3 + 1))), (4, .int (oI y0)), (0, .ref (ad 51)), (1, .int (oI x1)), (2, .int (oI x2))]) hx hb d_7_2_102 hl (k := 4) rfl (oI_add x3 1) (by decide) rfl (fun ls hl => ?_)
    refine lv_goto (tgt := 32) hx hb d_7_2_105 (by decide) ?_
    obtain ⟨rfl, rfl, rfl⟩ := in3 h
    exact k0 rfl H locs ls hP hD hS (lv_sub hl [2, 3, 4, 0] rfl)
  · have h := ite_f (fun q => c9 ((oI_eq0 ok8).mpr q)) h
    refine lv_aload_n hx hb d_7_2_72 rfl (lv_at hl 1 rfl) ?_
    refine m_gr (j := 41) (C := "Ballothall$FalseBallot") (T := TX5) (N := 3) (ci := 5) (k := 1) hx hb hts iX5 hown hG hP (yi_51 hL) (yt_51 hL) rfl (by decide) w_153 (fun _ h9 => h9) rfl rfl (yr_51_1 hL) d_7_2_73 ?_
    refine lv_iload_n hx hb d_7_2_76 rfl (lv_at hl 4 rfl) ?_
    refine lv_iconst (v := oI (-1)) hx hb d_7_2_77 (by decide +kernel) ?_
    obtain ⟨M9, g9, h⟩ := bd_e h
    refine kVN (As := [.int (oI x3), .int (oI (-1))]) (rest := []) (s_Po_change l z ad E M x3 (-1) M9 hL g9) hx hb hml hown hts w_677 n_1413 w_676 w_s_d035ed w_3 md_d775df ⟨Nat.le_of_ble_eq_true rfl, Nat.le_of_ble_eq_true rfl⟩ hG hZ hP hD hS hA 41 (wv_o (ci := 9) (yi_41 hL) (yt_41 hL)) rfl rfl rfl hl.1 rfl (Nat.le_of_ble_eq_true rfl) d_7_2_78 ⟨Nat.le_of_ble_eq_true rfl, Nat.le_of_ble_eq_true rfl⟩ (fun _ H locs hP hD hS => ?_)
    have hP : va_P z.1 classes (wv z ad E M9) H := hP
    have hD : va_D A (wv z ad E M9) := hD
    refine W.eq (g2 := F0 m 81 ls []) rfl ?_
    refine lv_aload_n hx hb d_7_2_81 rfl (lv_at hl 1 rfl) ?_
    refine lv_iload_n hx hb d_7_2_82 rfl (lv_at hl 2 rfl) ?_
    refine lv_iload hx hb d_7_2_83 (lv_at hl 0 rfl) ?_
    obtain ⟨⟨r10, M10⟩, g10, h⟩ := bd_e h
    refine kV (As := [.int (oI x1), .int (oI y0)]) (rest := []) (s_Fb_findOrder l z ad E M9 x1 y0 r10 M10 hL g10) hx hb hml hown hts w_1417 w_1414 w_1416 w_s_c26e58 w_4 md_0e0b7f ⟨Nat.le_of_ble_eq_true rfl, Nat.le_of_ble_eq_true rfl⟩ hG hZ hP hD hS hA 51 (wv_o (ci := 5) (yi_51 hL) (yt_51 hL)) rfl rfl rfl hl.1 rfl (Nat.le_of_ble_eq_true rfl) d_7_2_85 ⟨Nat.le_of_ble_eq_true rfl, Nat.le_of_ble_eq_true rfl⟩ (fun _ H locs hP hD hS => ?_)
    have hP : va_P z.1 classes (wv z ad E M10) H := hP
    have hD : va_D A (wv z ad E M10) := hD
    refine W.eq (g2 := F0 m 88 ls [.int (oI r10)]) rfl ?_
    obtain ⟨ok11, h⟩ := ck_e h
    refine lv_if_eq (tgt := 93) hx hb d_7_2_88 (by decide) (fun c9 => ?_) (fun c9 => ?_)
    · have h := ite_t ((oI_eq0 ok11).mp c9) h
      refine lv_aload_n hx hb d_7_2_93 rfl (lv_at hl 1 rfl) ?_
      refine m_gr (j := 41) (C := "Ballothall$FalseBallot") (T := TX5) (N := 3) (ci := 5) (k := 1) hx hb hts iX5 hown hG hP (yi_51 hL) (yt_51 hL) rfl (by decide) w_153 (fun _ h9 => h9) rfl rfl (yr_51_1 hL) d_7_2_94 ?_
      refine lv_iload_n hx hb d_7_2_97 rfl (lv_at hl 4 rfl) ?_
      refine lv_iconst (v := oI 1) hx hb d_7_2_98 (by decide +kernel) ?_
      obtain ⟨M12, g12, h⟩ := bd_e h
      refine kVN (As := [.int (oI x3), .int (oI 1)]) (rest := []) (s_Po_change l z ad E M10 x3 1 M12 hL g12) hx hb hml hown hts w_677 n_1413 w_676 w_s_d035ed w_3 md_d775df ⟨Nat.le_of_ble_eq_true rfl, Nat.le_of_ble_eq_true rfl⟩ hG hZ hP hD hS hA 41 (wv_o (ci := 9) (yi_41 hL) (yt_41 hL)) rfl rfl rfl hl.1 rfl (Nat.le_of_ble_eq_true rfl) d_7_2_99 ⟨Nat.le_of_ble_eq_true rfl, Nat.le_of_ble_eq_true rfl⟩ (fun _ H locs hP hD hS => ?_)
      have hP : va_P z.1 classes (wv z ad E M12) H := hP
      have hD : va_D A (wv z ad E M12) := hD
      refine W.eq (g2 := F0 m 102 ls []) rfl ?_
      refine lv_iinc (v := oI (x3 + 1)) (lv' := [(3, .int (oI (x3 + 1))), (4, .int (oI y0)), (0, .ref (ad 51)), (1, .int (oI x1)), (2, .int (oI x2))]) hx hb d_7_2_102 hl (k := 4) rfl (oI_add x3 1) (by decide) rfl (fun ls hl => ?_)
      refine lv_goto (tgt := 32) hx hb d_7_2_105 (by decide) ?_
      obtain ⟨rfl, rfl, rfl⟩ := in3 h
      exact k0 rfl H locs ls hP hD hS (lv_sub hl [2, 3, 4, 0] rfl)
    · have h := ite_f (fun q => c9 ((oI_eq0 ok11).mpr q)) h
      obtain ⟨rfl, rfl, rfl⟩ := in3 h
      exact k1 rfl H locs ls hP hD hS (lv_sub hl [4] rfl)
set_option maxRecDepth 100000 in
set_option maxHeartbeats 4000000 in
theorem b_Fb_findKind_32b (l : Launch) (z : Zz) (ad : Nat → Nat) (E : Ev) (M : Mm) (x1 : Int) (x2 : Int) (x3 : Int) (t : Nat) (w3 : Int) (N : Mm) {Q : State → Prop} {p : Program} {e : Env} {s : State} {m : MethodId} {below : List Frame} {meth : Method} {c : Code} {A : Nat → Prop} {args : Array Value} (hx : p.tables.exec = Jvm.exec) (hb : c.code = prog_7_method_2_code) (hml : c.maxLocals = 5) (hts : ∀ w ∈ WG, w.before args s = true) (hown : s.vm.findClass "Ballothall$FalseBallot" = some m.cls) (hlocks : meth.locks = false) (hA : ∀ q, s.heap.size ≤ q → A q) (hG : KG z s) (hZ : FZ z A s) (hL : Lay E) (h : Fb_findKind_32b E M x1 x2 x3 = some (t, w3, N)) (k0 : t = 0 → ∀ (H : Heap) (locs : List Loc) (ls : Array Slot), va_P z.1 classes (wv z ad E N) H → va_D A (wv z ad E N) → va_S A s.heap H locs → lv_has ls 5 [(0, .ref (ad 51)), (1, .int (oI x1)), (2, .int (oI x2)), (3, .int (oI w3))] → W p l e (rmK 6 161 0 0) s m args below meth c H locs 0 0 Q (F0 m 32 ls [])) (k1 : t = 1 → ∀ (H : Heap) (locs : List Loc) (ls : Array Slot), va_P z.1 classes (wv z ad E N) H → va_D A (wv z ad E N) → va_S A s.heap H locs → lv_has ls 5 [(3, .int (oI w3))] → W p l e (rmK 6 161 0 0) s m args below meth c H locs 0 0 Q (F0 m 91 ls [])) (k2 : t = 2 → ∀ (H : Heap) (locs : List Loc) (ls : Array Slot), va_P z.1 classes (wv z ad E N) H → va_D A (wv z ad E N) → va_S A s.heap H locs → lv_has ls 5 [] → W p l e (rmK 6 161 0 0) s m args below meth c H locs 0 0 Q (F0 m 108 ls [])) : ∀ (H : Heap) (locs : List Loc) (ls : Array Slot), va_P z.1 classes (wv z ad E M) H → va_D A (wv z ad E M) → va_S A s.heap H locs → lv_has ls 5 [(0, .ref (ad 51)), (1, .int (oI x1)), (2, .int (oI x2)), (3, .int (oI x3))] → W p l e (rmK 6 161 0 0) s m args below meth c H locs 0 0 Q (F0 m 32 ls []) := by
  intro H locs ls hP hD hS hl
  unfold Fb_findKind_32b at h
  refine lv_iload_n hx hb d_7_2_32 rfl (lv_at hl 3 rfl) ?_
  refine lv_aload_n hx hb d_7_2_33 rfl (lv_at hl 0 rfl) ?_
  refine m_gr (j := 2) (C := "Ballothall$FalseBallot") (T := TX5) (N := 3) (ci := 5) (k := 0) hx hb hts iX5 hown hG hP (yi_51 hL) (yt_51 hL) rfl (by decide) w_152 (fun _ h9 => h9) rfl rfl (yr_51_0 hL) d_7_2_34 ?_
  refine m_giN (C := "Ballothall$BallotBox") (T := TX0) (N := 10) (ci := 0) (k := 3) hx hb hts iX0 hown hG hP (yi_2 hL) (yt_2 hL) rfl (by decide) n_56 rfl (fun _ h9 => h9) rfl rfl d_7_2_37 ?_
  obtain ⟨ok4, h⟩ := ck_e h
  obtain ⟨ok5, h⟩ := ck_e h
  refine lv_icmp_ge (tgt := 108) hx hb d_7_2_40 (by decide) (fun c9 => ?_) (fun c9 => ?_)
  · have h := ite_t ((oI_le (a := (M 2 3)) (b := x3) ok5 ok4).mp c9) h
    obtain ⟨rfl, rfl, rfl⟩ := in3 h
    exact k2 rfl H locs ls hP hD hS (lv_sub hl [] rfl)
  · have h := ite_f (fun q => c9 ((oI_le (a := (M 2 3)) (b := x3) ok5 ok4).mpr q)) h
    refine lv_aload_n hx hb d_7_2_43 rfl (lv_at hl 0 rfl) ?_
    refine m_gr (j := 2) (C := "Ballothall$FalseBallot") (T := TX5) (N := 3) (ci := 5) (k := 0) hx hb hts iX5 hown hG hP (yi_51 hL) (yt_51 hL) rfl (by decide) w_152 (fun _ h9 => h9) rfl rfl (yr_51_0 hL) d_7_2_44 ?_
    refine m_grN (j := 5) (C := "Ballothall$BallotBox") (T := TX0) (N := 10) (ci := 0) (k := 5) hx hb hts iX0 hown hG hP (yi_2 hL) (yt_2 hL) rfl (by decide) n_64 rfl (fun _ h9 => h9) rfl rfl (yr_2_5 hL) d_7_2_47 ?_
    refine lv_iload_n hx hb d_7_2_50 rfl (lv_at hl 3 rfl) ?_
    obtain ⟨ok6, h⟩ := ck_e h
    refine m_ia hx hb hG hP (yi_5 hL) (yt_5 hL) ok6 d_7_2_51 ?_
    obtain ⟨ok7, h⟩ := ck_e h
    refine lv_if_le (tgt := 64) hx hb d_7_2_52 (by decide) (fun c9 => ?_) (fun c9 => ?_)
    · have h := ite_t ((oI_le0 ok7).mp c9) h
      refine lv_iconst (v := oI 0) hx hb d_7_2_64 (by decide +kernel) ?_
      exact b_Fb_findKind_j65 l z ad E M x1 x2 x3 0 t w3 N hx hb hml hts hown hlocks hA hG hZ hL h k0 k1 k2 H locs ls hP hD hS (lv_sub hl [0, 1, 2, 3] rfl)
    · have h := ite_f (fun q => c9 ((oI_le0 ok7).mpr q)) h
      refine lv_aload_n hx hb d_7_2_55 rfl (lv_at hl 0 rfl) ?_
      refine lv_iload_n hx hb d_7_2_56 rfl (lv_at hl 3 rfl) ?_
      refine lv_iload_n hx hb d_7_2_57 rfl (lv_at hl 2 rfl) ?_
      obtain ⟨r13, g13, h⟩ := bd_e h
      refine kV (As := [.int (oI x3), .int (oI x2)]) (rest := []) (s_Fb_aheadOf l z ad E M x3 x2 r13 hL g13) hx hb hml hown hts w_1411 w_1408 w_1410 w_s_8e50a8 w_4 md_eafa96 ⟨Nat.le_of_ble_eq_true rfl, Nat.le_of_ble_eq_true rfl⟩ hG hZ hP hD hS hA 51 (wv_o (ci := 5) (yi_51 hL) (yt_51 hL)) rfl rfl rfl hl.1 rfl (Nat.le_of_ble_eq_true rfl) d_7_2_58 ⟨Nat.le_of_ble_eq_true rfl, Nat.le_of_ble_eq_true rfl⟩ (fun _ H locs hP hD hS => ?_)
      have hP : va_P z.1 classes (wv z ad E M) H := hP
      have hD : va_D A (wv z ad E M) := hD
      refine W.eq (g2 := F0 m 61 ls [.int (oI r13)]) rfl ?_
      refine lv_goto (tgt := 65) hx hb d_7_2_61 (by decide) ?_
      exact b_Fb_findKind_j65 l z ad E M x1 x2 x3 r13 t w3 N hx hb hml hts hown hlocks hA hG hZ hL h k0 k1 k2 H locs ls hP hD hS (lv_sub hl [0, 1, 2, 3] rfl)
set_option maxRecDepth 100000 in
set_option maxHeartbeats 4000000 in
theorem s_Fb_findKind_32 (l : Launch) (z : Zz) (ad : Nat → Nat) (E : Ev) (x1 : Int) (x2 : Int) {Q : State → Prop} {p : Program} {e : Env} {s : State} {m : MethodId} {below : List Frame} {meth : Method} {c : Code} {A : Nat → Prop} {args : Array Value} (hx : p.tables.exec = Jvm.exec) (hb : c.code = prog_7_method_2_code) (hml : c.maxLocals = 5) (hts : ∀ w ∈ WG, w.before args s = true) (hown : s.vm.findClass "Ballothall$FalseBallot" = some m.cls) (hlocks : meth.locks = false) (hA : ∀ q, s.heap.size ≤ q → A q) (hG : KG z s) (hZ : FZ z A s) (hL : Lay E) : ∀ (fu : Nat) (M : Mm) (x3 : Int) (t : Nat) (w3 : Int) (N : Mm), l_Fb_findKind_32 E x1 x2 fu M x3 = some (t, w3, N) → (t = 1 → ∀ (H : Heap) (locs : List Loc) (ls : Array Slot), va_P z.1 classes (wv z ad E N) H → va_D A (wv z ad E N) → va_S A s.heap H locs → lv_has ls 5 [(3, .int (oI w3))] → W p l e (rmK 6 161 0 0) s m args below meth c H locs 0 0 Q (F0 m 91 ls [])) → (t = 2 → ∀ (H : Heap) (locs : List Loc) (ls : Array Slot), va_P z.1 classes (wv z ad E N) H → va_D A (wv z ad E N) → va_S A s.heap H locs → lv_has ls 5 [] → W p l e (rmK 6 161 0 0) s m args below meth c H locs 0 0 Q (F0 m 108 ls [])) → ∀ (H : Heap) (locs : List Loc) (ls : Array Slot), va_P z.1 classes (wv z ad E M) H → va_D A (wv z ad E M) → va_S A s.heap H locs → lv_has ls 5 [(0, .ref (ad 51)), (1, .int (oI x1)), (2, .int (oI x2)), (3, .int (oI x3))] → W p l e (rmK 6 161 0 0) s m args below meth c H locs 0 0 Q (F0 m 32 ls []) := by
  intro fu
  induction fu with
  | zero =>
    intro M x3 t w3 N h
    have h : (none : Option (Nat × Int × Mm)) = some _ := h
    cases h
  | succ fu ih =>
    intro M x3 t w3 N h k1 k2 H locs ls hP hD hS hl
    obtain ⟨⟨t0, w30, N9⟩, g0, h⟩ := bd_e h
    refine b_Fb_findKind_32b l z ad E M x1 x2 x3 t0 w30 N9 hx hb hml hts hown hlocks hA hG hZ hL g0 (fun e0 => ?_) (fun e0 => ?_) (fun e0 => ?_) H locs ls hP hD hS hl
    · subst e0
      have h := ite_t rfl h
      exact ih N9 w30 t w3 N h k1 k2
    · subst e0
      have h := ite_f (by decide) h
      obtain ⟨rfl, rfl, rfl⟩ := in3 h
      exact k1 rfl
    · subst e0
      have h := ite_f (by decide) h
      obtain ⟨rfl, rfl, rfl⟩ := in3 h
      exact k2 rfl
set_option maxRecDepth 100000 in
set_option maxHeartbeats 4000000 in
theorem s_Fb_findKind (l : Launch) (z : Zz) (ad : Nat → Nat) (E : Ev) (M : Mm) (x1 : Int) (r : Int) (N : Mm) (hL : Lay E) (h : f_Fb_findKind E M x1 = some (r, N)) : CT l z ⟨"Ballothall$FalseBallot", "findKind", "(I)I"⟩ prog_7_method_2_code 5 (some .int) [.ref (ad 51), .int (oI x1)] (wv z ad E M) 6 161 0 0 (fun _ => some (.int (oI r))) (fun _ => (wv z ad E N)) := by
  refine CT.of (own := "Ballothall$FalseBallot") (by decide +kernel) (Nat.le_of_ble_eq_true rfl) rfl (fun p e s m below meth c A ls hx hb hml hr hts hown hlocks hin hA hG hZ hP hD hS hl => ?_)
  have hl : lv_has ls 5 [(0, .ref (ad 51)), (1, .int (oI x1))] := hl
  have key : ∀ (H : Heap) (locs : List Loc) (args : Array Value), (∀ w ∈ WG, w.before args s = true) → va_P z.1 classes (wv z ad E M) H → va_S A s.heap H locs → W p l e (rmK 6 161 0 0) s m args below meth c H locs 0 0 (MQ below (QK z A (fun _ => some (.int (oI r))) (fun _ => (wv z ad E N))) args s 0 0 A) (F0 m 0 ls []) := by
    intro H locs args hts hP hS
    unfold f_Fb_findKind at h
    refine lv_aload_n hx hb d_7_2_0 rfl (lv_at hl 0 rfl) ?_
    refine m_gr (j := 41) (C := "Ballothall$FalseBallot") (T := TX5) (N := 3) (ci := 5) (k := 1) hx hb hts iX5 hown hG hP (yi_51 hL) (yt_51 hL) rfl (by decide) w_153 (fun _ h9 => h9) rfl rfl (yr_51_1 hL) d_7_2_1 ?_
    refine lv_aload_n hx hb d_7_2_4 rfl (lv_at hl 0 rfl) ?_
    refine m_gr (j := 2) (C := "Ballothall$FalseBallot") (T := TX5) (N := 3) (ci := 5) (k := 0) hx hb hts iX5 hown hG hP (yi_51 hL) (yt_51 hL) rfl (by decide) w_152 (fun _ h9 => h9) rfl rfl (yr_51_0 hL) d_7_2_5 ?_
    obtain ⟨r0, g0, h⟩ := bd_e h
    refine kVN (As := []) (rest := [.ref (ad 41)]) (s_Bx_everybody l z ad E M r0 hL g0) hx hb hml hown hts w_668 n_1369 w_667 w_s_8b8b67 w_2 md_b59579 ⟨Nat.le_of_ble_eq_true rfl, Nat.le_of_ble_eq_true rfl⟩ hG hZ hP hD hS hA 2 (wv_o (ci := 0) (yi_2 hL) (yt_2 hL)) rfl rfl rfl hl.1 rfl (Nat.le_of_ble_eq_true rfl) d_7_2_8 ⟨Nat.le_of_ble_eq_true rfl, Nat.le_of_ble_eq_true rfl⟩ (fun _ H locs hP hD hS => ?_)
    have hP : va_P z.1 classes (wv z ad E M) H := hP
    have hD : va_D A (wv z ad E M) := hD
    refine W.eq (g2 := F0 m 11 ls [.int (oI r0), .ref (ad 41)]) rfl ?_
    obtain ⟨M1, g1, h⟩ := bd_e h
    refine kVN (As := [.int (oI r0)]) (rest := []) (s_Po_open l z ad E M r0 M1 hL g1) hx hb hml hown hts w_672 n_1370 w_671 w_s_229dc4 w_3 md_60bc9b ⟨Nat.le_of_ble_eq_true rfl, Nat.le_of_ble_eq_true rfl⟩ hG hZ hP hD hS hA 41 (wv_o (ci := 9) (yi_41 hL) (yt_41 hL)) rfl rfl rfl hl.1 rfl (Nat.le_of_ble_eq_true rfl) d_7_2_11 ⟨Nat.le_of_ble_eq_true rfl, Nat.le_of_ble_eq_true rfl⟩ (fun _ H locs hP hD hS => ?_)
    have hP : va_P z.1 classes (wv z ad E M1) H := hP
    have hD : va_D A (wv z ad E M1) := hD
    refine W.eq (g2 := F0 m 14 ls []) rfl ?_
    refine lv_aload_n hx hb d_7_2_14 rfl (lv_at hl 0 rfl) ?_
    refine m_gr (j := 41) (C := "Ballothall$FalseBallot") (T := TX5) (N := 3) (ci := 5) (k := 1) hx hb hts iX5 hown hG hP (yi_51 hL) (yt_51 hL) rfl (by decide) w_153 (fun _ h9 => h9) rfl rfl (yr_51_1 hL) d_7_2_15 ?_
    refine lv_iload_n hx hb d_7_2_18 rfl (lv_at hl 1 rfl) ?_
    obtain ⟨⟨r2, M2⟩, g2, h⟩ := bd_e h
    refine kVN (As := [.int (oI x1)]) (rest := []) (s_Po_bestBy l z ad E M1 x1 r2 M2 hL g2) hx hb hml hown hts w_1374 n_1371 w_1373 w_s_0765de w_3 md_2b9f88 ⟨Nat.le_of_ble_eq_true rfl, Nat.le_of_ble_eq_true rfl⟩ hG hZ hP hD hS hA 41 (wv_o (ci := 9) (yi_41 hL) (yt_41 hL)) rfl rfl rfl hl.1 rfl (Nat.le_of_ble_eq_true rfl) d_7_2_19 ⟨Nat.le_of_ble_eq_true rfl, Nat.le_of_ble_eq_true rfl⟩ (fun _ H locs hP hD hS => ?_)
    have hP : va_P z.1 classes (wv z ad E M2) H := hP
    have hD : va_D A (wv z ad E M2) := hD
    refine W.eq (g2 := F0 m 22 ls [.int (oI r2)]) rfl ?_
    refine lv_istore_n (lv' := [(2, .int (oI r2)), (0, .ref (ad 51)), (1, .int (oI x1))]) hx hb d_7_2_22 rfl hl (by decide) rfl (fun ls hl => ?_)
    refine lv_iload_n hx hb d_7_2_23 rfl (lv_at hl 0 rfl) ?_
    refine lv_iconst (v := oI (-1)) hx hb d_7_2_24 (by decide +kernel) ?_
    obtain ⟨ok3, h⟩ := ck_e h
    refine lv_icmp_ne (tgt := 30) hx hb d_7_2_25 (by decide) (fun c9 => ?_) (fun c9 => ?_)
    · have h := ite_f (fun q => c9 ((oI_eq (a := r2) (b := (-1 : Int)) ok3 (by decide)).mpr q)) h
      refine lv_iconst (v := oI 0) hx hb d_7_2_30 (by decide +kernel) ?_
      refine lv_istore_n (lv' := [(3, .int (oI 0)), (2, .int (oI r2)), (0, .ref (ad 51)), (1, .int (oI x1))]) hx hb d_7_2_31 rfl hl (by decide) rfl (fun ls hl => ?_)
      obtain ⟨⟨t14, v14_3, M14⟩, g14, h⟩ := bd_e h
      refine s_Fb_findKind_32 l z ad E x1 r2 hx hb hml hts hown hlocks hA hG hZ hL FU M2 0 t14 v14_3 M14 g14 (fun e14 H locs ls hP hD hS hl => ?_) (fun e14 H locs ls hP hD hS hl => ?_) H locs ls hP hD hS (lv_sub hl [2, 3, 1, 0] rfl)
      · subst e14
        have h := ite_t rfl h
        refine lv_iload_n hx hb d_7_2_91 rfl (lv_at hl 0 rfl) ?_
        obtain ⟨rfl, rfl⟩ := in2 h
        exact W.iret hx hb hr (fun t ht hW => qkA hP hD hS (fun k => k) rfl rfl ht) hS.2.2 d_7_2_92
      · subst e14
        have h := ite_f (by decide) h
        have h := ite_t rfl h
        refine lv_iconst (v := oI (-1)) hx hb d_7_2_108 (by decide +kernel) ?_
        obtain ⟨rfl, rfl⟩ := in2 h
        exact W.iret hx hb hr (fun t ht hW => qkA hP hD hS (fun k => k) rfl rfl ht) hS.2.2 d_7_2_109
    · have h := ite_t ((oI_eq (a := r2) (b := (-1 : Int)) ok3 (by decide)).mp c9) h
      refine lv_iconst (v := oI (-1)) hx hb d_7_2_28 (by decide +kernel) ?_
      obtain ⟨rfl, rfl⟩ := in2 h
      exact W.iret hx hb hr (fun t ht hW => qkA hP hD hS (fun k => k) rfl rfl ht) hS.2.2 d_7_2_29
  exact key _ _ _ hts hP hS
set_option maxRecDepth 100000 in
set_option maxHeartbeats 4000000 in
theorem s_B_gain (l : Launch) (z : Zz) (ad : Nat → Nat) (E : Ev) (M : Mm) (x1 : Int) (r : Int) (N : Mm) (hL : Lay E) (h : f_B_gain E M x1 = some (r, N)) : CT l z ⟨"Ballothall", "gain", "(I)I"⟩ prog_1_method_36_code 2 (some .int) [.ref (ad 1), .int (oI x1)] (wv z ad E M) 7 185 0 0 (fun _ => some (.int (oI r))) (fun _ => (wv z ad E N)) := by
  refine CT.of (own := "Ballothall") (by decide +kernel) (Nat.le_of_ble_eq_true rfl) rfl (fun p e s m below meth c A ls hx hb hml hr hts hown hlocks hin hA hG hZ hP hD hS hl => ?_)
  have hl : lv_has ls 2 [(0, .ref (ad 1)), (1, .int (oI x1))] := hl
  have key : ∀ (H : Heap) (locs : List Loc) (args : Array Value), (∀ w ∈ WG, w.before args s = true) → va_P z.1 classes (wv z ad E M) H → va_S A s.heap H locs → W p l e (rmK 7 185 0 0) s m args below meth c H locs 0 0 (MQ below (QK z A (fun _ => some (.int (oI r))) (fun _ => (wv z ad E N))) args s 0 0 A) (F0 m 0 ls []) := by
    intro H locs args hts hP hS
    unfold f_B_gain at h
    refine lv_iload_n hx hb d_1_36_0 rfl (lv_at hl 1 rfl) ?_
    refine lv_iconst (v := oI 0) hx hb d_1_36_1 (by decide +kernel) ?_
    refine lv_iconst (v := oI 4) hx hb d_1_36_2 (by decide +kernel) ?_
    obtain ⟨_, g0, h⟩ := bd_e h
    refine kS (As := [.int (oI x1), .int (oI 0), .int (oI 4)]) (rest := []) (s_B_needRange l z ad E M x1 0 4 hL g0) hx hb hml hown hts w_548 w_546 w_547 w_1 md_519134 ⟨Nat.le_of_ble_eq_true rfl, Nat.le_of_ble_eq_true rfl⟩ hG hZ hP hD hS hA rfl hl.1 rfl (Nat.le_of_ble_eq_true rfl) d_1_36_3 ⟨Nat.le_of_ble_eq_true rfl, Nat.le_of_ble_eq_true rfl⟩ (fun _ H locs hP hD hS => ?_)
    have hP : va_P z.1 classes (wv z ad E M) H := hP
    have hD : va_D A (wv z ad E M) := hD
    refine W.eq (g2 := F0 m 6 ls []) rfl ?_
    refine lv_aload_n hx hb d_1_36_6 rfl (lv_at hl 0 rfl) ?_
    obtain ⟨_, g1, h⟩ := bd_e h
    refine kV (As := []) (rest := []) (s_B_needFewCandidates l z ad E M hL g1) hx hb hml hown hts w_1363 w_1360 w_1362 w_s_bfc401 w_1 md_38a853 ⟨Nat.le_of_ble_eq_true rfl, Nat.le_of_ble_eq_true rfl⟩ hG hZ hP hD hS hA 1 (wv_o (ci := 11) (yi_1 hL) (yt_1 hL)) rfl rfl rfl hl.1 rfl (Nat.le_of_ble_eq_true rfl) d_1_36_7 ⟨Nat.le_of_ble_eq_true rfl, Nat.le_of_ble_eq_true rfl⟩ (fun _ H locs hP hD hS => ?_)
    have hP : va_P z.1 classes (wv z ad E M) H := hP
    have hD : va_D A (wv z ad E M) := hD
    refine W.eq (g2 := F0 m 10 ls []) rfl ?_
    refine lv_aload_n hx hb d_1_36_10 rfl (lv_at hl 0 rfl) ?_
    refine m_gr (j := 51) (C := "Ballothall") (T := TX11) (N := 14) (ci := 11) (k := 2) hx hb hts iX11 hown hG hP (yi_1 hL) (yt_1 hL) rfl (by decide) w_399 (fun _ h9 => h9) rfl rfl (yr_1_2 hL) d_1_36_11 ?_
    refine lv_iload_n hx hb d_1_36_14 rfl (lv_at hl 1 rfl) ?_
    obtain ⟨⟨r2, M2⟩, g2, h⟩ := bd_e h
    refine kVN (As := [.int (oI x1)]) (rest := []) (s_Fb_findKind l z ad E M x1 r2 M2 hL g2) hx hb hml hown hts w_1368 n_1365 w_1367 w_s_93fc6e w_4 md_b41941 ⟨Nat.le_of_ble_eq_true rfl, Nat.le_of_ble_eq_true rfl⟩ hG hZ hP hD hS hA 51 (wv_o (ci := 5) (yi_51 hL) (yt_51 hL)) rfl rfl rfl hl.1 rfl (Nat.le_of_ble_eq_true rfl) d_1_36_15 ⟨Nat.le_of_ble_eq_true rfl, Nat.le_of_ble_eq_true rfl⟩ (fun _ H locs hP hD hS => ?_)
    have hP : va_P z.1 classes (wv z ad E M2) H := hP
    have hD : va_D A (wv z ad E M2) := hD
    refine W.eq (g2 := F0 m 18 ls [.int (oI r2)]) rfl ?_
    obtain ⟨rfl, rfl⟩ := in2 h
    exact W.iret hx hb hr (fun t ht hW => qkA hP hD hS (fun k => k) rfl rfl ht) hS.2.2 d_1_36_18
  exact key _ _ _ hts hP hS
set_option maxRecDepth 100000 in
set_option maxHeartbeats 4000000 in
theorem b_B_gainAt_j34 (l : Launch) (z : Zz) (ad : Nat → Nat) (E : Ev) (M : Mm) (x2 : Int) (y0 : Int) (y1 : Int) (r : Int) (N : Mm) {p : Program} {e : Env} {s : State} {m : MethodId} {below : List Frame} {meth : Method} {c : Code} {A : Nat → Prop} {args : Array Value} (hx : p.tables.exec = Jvm.exec) (hb : c.code = prog_1_method_37_code) (hml : c.maxLocals = 3) (hts : ∀ w ∈ WG, w.before args s = true) (hown : s.vm.findClass "Ballothall" = some m.cls) (hlocks : meth.locks = false) (hA : ∀ q, s.heap.size ≤ q → A q) (hG : KG z s) (hZ : FZ z A s) (hL : Lay E) (hr : meth.sig.returnType = (some .int)) (h : B_gainAt_j34 E M x2 y0 y1 = some (r, N)) : ∀ (H : Heap) (locs : List Loc) (ls : Array Slot), va_P z.1 classes (wv z ad E M) H → va_D A (wv z ad E M) → va_S A s.heap H locs → lv_has ls 3 [(0, .ref (ad 1)), (2, .int (oI x2))] → W p l e (rmK 7 185 0 0) s m args below meth c H locs 0 0 (MQ below (QK z A (fun _ => some (.int (oI r))) (fun _ => (wv z ad E N))) args s 0 0 A) (F0 m 34 ls [.int (oI y0), .int (oI y1)]) := by
  intro H locs ls hP hD hS hl
  unfold B_gainAt_j34 at h
  obtain ⟨_, g4, h⟩ := bd_e h
  refine kS (As := [.int (oI y1), .int (oI y0)]) (rest := []) (s_B_needPlace l z ad E M y1 y0 hL g4) hx hb hml hown hts w_1343 w_1341 w_1342 w_1 md_541664 ⟨Nat.le_of_ble_eq_true rfl, Nat.le_of_ble_eq_true rfl⟩ hG hZ hP hD hS hA rfl hl.1 rfl (Nat.le_of_ble_eq_true rfl) d_1_37_34 ⟨Nat.le_of_ble_eq_true rfl, Nat.le_of_ble_eq_true rfl⟩ (fun _ H locs hP hD hS => ?_)
  have hP : va_P z.1 classes (wv z ad E M) H := hP
  have hD : va_D A (wv z ad E M) := hD
  refine W.eq (g2 := F0 m 37 ls []) rfl ?_
  refine lv_aload_n hx hb d_1_37_37 rfl (lv_at hl 0 rfl) ?_
  refine m_gr (j := 51) (C := "Ballothall") (T := TX11) (N := 14) (ci := 11) (k := 2) hx hb hts iX11 hown hG hP (yi_1 hL) (yt_1 hL) rfl (by decide) w_399 (fun _ h9 => h9) rfl rfl (yr_1_2 hL) d_1_37_38 ?_
  refine m_grN (j := 52) (C := "Ballothall$FalseBallot") (T := TX5) (N := 3) (ci := 5) (k := 2) hx hb hts iX5 hown hG hP (yi_51 hL) (yt_51 hL) rfl (by decide) n_155 rfl (fun _ h9 => h9) rfl rfl (yr_51_2 hL) d_1_37_41 ?_
  refine lv_iload_n hx hb d_1_37_44 rfl (lv_at hl 1 rfl) ?_
  obtain ⟨ok5, h⟩ := ck_e h
  refine m_ia hx hb hG hP (yi_52 hL) (yt_52 hL) ok5 d_1_37_45 ?_
  obtain ⟨rfl, rfl⟩ := in2 h
  exact W.iret hx hb hr (fun t ht hW => qkA hP hD hS (fun k => k) rfl rfl ht) hS.2.2 d_1_37_46
set_option maxRecDepth 100000 in
set_option maxHeartbeats 4000000 in
theorem s_B_gainAt (l : Launch) (z : Zz) (ad : Nat → Nat) (E : Ev) (M : Mm) (x1 : Int) (x2 : Int) (r : Int) (N : Mm) (hL : Lay E) (h : f_B_gainAt E M x1 x2 = some (r, N)) : CT l z ⟨"Ballothall", "gainAt", "(II)I"⟩ prog_1_method_37_code 3 (some .int) [.ref (ad 1), .int (oI x1), .int (oI x2)] (wv z ad E M) 7 185 0 0 (fun _ => some (.int (oI r))) (fun _ => (wv z ad E N)) := by
  refine CT.of (own := "Ballothall") (by decide +kernel) (Nat.le_of_ble_eq_true rfl) rfl (fun p e s m below meth c A ls hx hb hml hr hts hown hlocks hin hA hG hZ hP hD hS hl => ?_)
  have hl : lv_has ls 3 [(0, .ref (ad 1)), (1, .int (oI x1)), (2, .int (oI x2))] := hl
  have key : ∀ (H : Heap) (locs : List Loc) (args : Array Value), (∀ w ∈ WG, w.before args s = true) → va_P z.1 classes (wv z ad E M) H → va_S A s.heap H locs → W p l e (rmK 7 185 0 0) s m args below meth c H locs 0 0 (MQ below (QK z A (fun _ => some (.int (oI r))) (fun _ => (wv z ad E N))) args s 0 0 A) (F0 m 0 ls []) := by
    intro H locs args hts hP hS
    unfold f_B_gainAt at h
    refine lv_iload_n hx hb d_1_37_0 rfl (lv_at hl 1 rfl) ?_
    refine lv_iconst (v := oI 0) hx hb d_1_37_1 (by decide +kernel) ?_
    refine lv_iconst (v := oI 4) hx hb d_1_37_2 (by decide +kernel) ?_
    obtain ⟨_, g0, h⟩ := bd_e h
    refine kS (As := [.int (oI x1), .int (oI 0), .int (oI 4)]) (rest := []) (s_B_needRange l z ad E M x1 0 4 hL g0) hx hb hml hown hts w_548 w_546 w_547 w_1 md_519134 ⟨Nat.le_of_ble_eq_true rfl, Nat.le_of_ble_eq_true rfl⟩ hG hZ hP hD hS hA rfl hl.1 rfl (Nat.le_of_ble_eq_true rfl) d_1_37_3 ⟨Nat.le_of_ble_eq_true rfl, Nat.le_of_ble_eq_true rfl⟩ (fun _ H locs hP hD hS => ?_)
    have hP : va_P z.1 classes (wv z ad E M) H := hP
    have hD : va_D A (wv z ad E M) := hD
    refine W.eq (g2 := F0 m 6 ls []) rfl ?_
    refine lv_aload_n hx hb d_1_37_6 rfl (lv_at hl 0 rfl) ?_
    obtain ⟨_, g1, h⟩ := bd_e h
    refine kV (As := []) (rest := []) (s_B_needFewCandidates l z ad E M hL g1) hx hb hml hown hts w_1363 w_1360 w_1362 w_s_bfc401 w_1 md_38a853 ⟨Nat.le_of_ble_eq_true rfl, Nat.le_of_ble_eq_true rfl⟩ hG hZ hP hD hS hA 1 (wv_o (ci := 11) (yi_1 hL) (yt_1 hL)) rfl rfl rfl hl.1 rfl (Nat.le_of_ble_eq_true rfl) d_1_37_7 ⟨Nat.le_of_ble_eq_true rfl, Nat.le_of_ble_eq_true rfl⟩ (fun _ H locs hP hD hS => ?_)
    have hP : va_P z.1 classes (wv z ad E M) H := hP
    have hD : va_D A (wv z ad E M) := hD
    refine W.eq (g2 := F0 m 10 ls []) rfl ?_
    refine lv_iload_n hx hb d_1_37_10 rfl (lv_at hl 2 rfl) ?_
    refine lv_aload_n hx hb d_1_37_11 rfl (lv_at hl 0 rfl) ?_
    refine m_gr (j := 51) (C := "Ballothall") (T := TX11) (N := 14) (ci := 11) (k := 2) hx hb hts iX11 hown hG hP (yi_1 hL) (yt_1 hL) rfl (by decide) w_399 (fun _ h9 => h9) rfl rfl (yr_1_2 hL) d_1_37_12 ?_
    refine lv_iload_n hx hb d_1_37_15 rfl (lv_at hl 1 rfl) ?_
    obtain ⟨⟨r2, M2⟩, g2, h⟩ := bd_e h
    refine kVN (As := [.int (oI x1)]) (rest := [.int (oI x2)]) (s_Fb_findKind l z ad E M x1 r2 M2 hL g2) hx hb hml hown hts w_1368 n_1365 w_1367 w_s_93fc6e w_4 md_b41941 ⟨Nat.le_of_ble_eq_true rfl, Nat.le_of_ble_eq_true rfl⟩ hG hZ hP hD hS hA 51 (wv_o (ci := 5) (yi_51 hL) (yt_51 hL)) rfl rfl rfl hl.1 rfl (Nat.le_of_ble_eq_true rfl) d_1_37_16 ⟨Nat.le_of_ble_eq_true rfl, Nat.le_of_ble_eq_true rfl⟩ (fun _ H locs hP hD hS => ?_)
    have hP : va_P z.1 classes (wv z ad E M2) H := hP
    have hD : va_D A (wv z ad E M2) := hD
    refine W.eq (g2 := F0 m 19 ls [.int (oI r2), .int (oI x2)]) rfl ?_
    refine lv_iconst (v := oI (-1)) hx hb d_1_37_19 (by decide +kernel) ?_
    obtain ⟨ok3, h⟩ := ck_e h
    refine lv_icmp_ne (tgt := 27) hx hb d_1_37_20 (by decide) (fun c9 => ?_) (fun c9 => ?_)
    · have h := ite_f (fun q => c9 ((oI_eq (a := r2) (b := (-1 : Int)) ok3 (by decide)).mpr q)) h
      refine lv_aload_n hx hb d_1_37_27 rfl (lv_at hl 0 rfl) ?_
      refine m_gr (j := 2) (C := "Ballothall") (T := TX11) (N := 14) (ci := 11) (k := 0) hx hb hts iX11 hown hG hP (yi_1 hL) (yt_1 hL) rfl (by decide) w_397 (fun _ h9 => h9) rfl rfl (yr_1_0 hL) d_1_37_28 ?_
      refine m_giN (C := "Ballothall$BallotBox") (T := TX0) (N := 10) (ci := 0) (k := 2) hx hb hts iX0 hown hG hP (yi_2 hL) (yt_2 hL) rfl (by decide) n_52 rfl (fun _ h9 => h9) rfl rfl d_1_37_31 ?_
      exact b_B_gainAt_j34 l z ad E M2 x2 (M2 2 2) x2 r N hx hb hml hts hown hlocks hA hG hZ hL hr h H locs ls hP hD hS (lv_sub hl [0, 2] rfl)
    · have h := ite_t ((oI_eq (a := r2) (b := (-1 : Int)) ok3 (by decide)).mp c9) h
      refine lv_iconst (v := oI 0) hx hb d_1_37_23 (by decide +kernel) ?_
      refine lv_goto (tgt := 34) hx hb d_1_37_24 (by decide) ?_
      exact b_B_gainAt_j34 l z ad E M2 x2 0 x2 r N hx hb hml hts hown hlocks hA hG hZ hL hr h H locs ls hP hD hS (lv_sub hl [0, 2] rfl)
  exact key _ _ _ hts hP hS
set_option maxRecDepth 100000 in
set_option maxHeartbeats 4000000 in
theorem s_B_greatestDistrict (l : Launch) (z : Zz) (ad : Nat → Nat) (E : Ev) (M : Mm) (x1 : Int) (r : Int) (N : Mm) (hL : Lay E) (h : f_B_greatestDistrict E M x1 = some (r, N)) : CT l z ⟨"Ballothall", "greatestDistrict", "(I)I"⟩ prog_1_method_42_code 2 (some .int) [.ref (ad 1), .int (oI x1)] (wv z ad E M) 3 91 0 0 (fun _ => some (.int (oI r))) (fun _ => (wv z ad E N)) := by
  refine CT.of (own := "Ballothall") (by decide +kernel) (Nat.le_of_ble_eq_true rfl) rfl (fun p e s m below meth c A ls hx hb hml hr hts hown hlocks hin hA hG hZ hP hD hS hl => ?_)
  have hl : lv_has ls 2 [(0, .ref (ad 1)), (1, .int (oI x1))] := hl
  have key : ∀ (H : Heap) (locs : List Loc) (args : Array Value), (∀ w ∈ WG, w.before args s = true) → va_P z.1 classes (wv z ad E M) H → va_S A s.heap H locs → W p l e (rmK 3 91 0 0) s m args below meth c H locs 0 0 (MQ below (QK z A (fun _ => some (.int (oI r))) (fun _ => (wv z ad E N))) args s 0 0 A) (F0 m 0 ls []) := by
    intro H locs args hts hP hS
    unfold f_B_greatestDistrict at h
    refine lv_iload_n hx hb d_1_42_0 rfl (lv_at hl 1 rfl) ?_
    refine lv_iconst (v := oI 1) hx hb d_1_42_1 (by decide +kernel) ?_
    refine lv_aload_n hx hb d_1_42_2 rfl (lv_at hl 0 rfl) ?_
    refine m_gr (j := 219) (C := "Ballothall") (T := TX11) (N := 14) (ci := 11) (k := 5) hx hb hts iX11 hown hG hP (yi_1 hL) (yt_1 hL) rfl (by decide) w_402 (fun _ h9 => h9) rfl rfl (yr_1_5 hL) d_1_42_3 ?_
    refine m_giN (C := "Ballothall$Wards") (T := TX10) (N := 5) (ci := 10) (k := 0) hx hb hts iX10 hown hG hP (yi_219 hL) (yt_219 hL) rfl (by decide) n_359 rfl (fun _ h9 => h9) rfl rfl d_1_42_6 ?_
    obtain ⟨_, g0, h⟩ := bd_e h
    refine kS (As := [.int (oI x1), .int (oI 1), .int (oI (M 219 0))]) (rest := []) (s_B_needRange l z ad E M x1 1 (M 219 0) hL g0) hx hb hml hown hts w_548 w_546 w_547 w_1 md_519134 ⟨Nat.le_of_ble_eq_true rfl, Nat.le_of_ble_eq_true rfl⟩ hG hZ hP hD hS hA rfl hl.1 rfl (Nat.le_of_ble_eq_true rfl) d_1_42_9 ⟨Nat.le_of_ble_eq_true rfl, Nat.le_of_ble_eq_true rfl⟩ (fun _ H locs hP hD hS => ?_)
    have hP : va_P z.1 classes (wv z ad E M) H := hP
    have hD : va_D A (wv z ad E M) := hD
    refine W.eq (g2 := F0 m 12 ls []) rfl ?_
    refine lv_aload_n hx hb d_1_42_12 rfl (lv_at hl 0 rfl) ?_
    refine m_gr (j := 219) (C := "Ballothall") (T := TX11) (N := 14) (ci := 11) (k := 5) hx hb hts iX11 hown hG hP (yi_1 hL) (yt_1 hL) rfl (by decide) w_402 (fun _ h9 => h9) rfl rfl (yr_1_5 hL) d_1_42_13 ?_
    refine lv_iload_n hx hb d_1_42_16 rfl (lv_at hl 1 rfl) ?_
    obtain ⟨⟨r1, M1⟩, g1, h⟩ := bd_e h
    refine kVN (As := [.int (oI x1)]) (rest := []) (s_Wa_divide l z ad E M x1 r1 M1 hL g1) hx hb hml hown hts w_1621 n_1618 w_1620 w_s_af9e07 w_10 md_d7e64c ⟨Nat.le_of_ble_eq_true rfl, Nat.le_of_ble_eq_true rfl⟩ hG hZ hP hD hS hA 219 (wv_o (ci := 10) (yi_219 hL) (yt_219 hL)) rfl rfl rfl hl.1 rfl (Nat.le_of_ble_eq_true rfl) d_1_42_17 ⟨Nat.le_of_ble_eq_true rfl, Nat.le_of_ble_eq_true rfl⟩ (fun _ H locs hP hD hS => ?_)
    have hP : va_P z.1 classes (wv z ad E M1) H := hP
    have hD : va_D A (wv z ad E M1) := hD
    refine W.eq (g2 := F0 m 20 ls [.int (oI r1)]) rfl ?_
    obtain ⟨rfl, rfl⟩ := in2 h
    exact W.iret hx hb hr (fun t ht hW => qkA hP hD hS (fun k => k) rfl rfl ht) hS.2.2 d_1_42_20
  exact key _ _ _ hts hP hS
set_option maxRecDepth 100000 in
set_option maxHeartbeats 4000000 in
theorem s_B_kindAt (l : Launch) (z : Zz) (ad : Nat → Nat) (E : Ev) (M : Mm) (x1 : Int) (x2 : Int) (x3 : Int) (r : Int)  (hL : Lay E) (h : f_B_kindAt E M x1 x2 x3 = some r) : CT l z ⟨"Ballothall", "kindAt", "(IIZ)I"⟩ prog_1_method_8_code 4 (some .int) [.ref (ad 1), .int (oI x1), .int (oI x2), .int (oI x3)] (wv z ad E M) 2 64 0 0 (fun _ => some (.int (oI r))) (fun _ => (wv z ad E M)) := by
  refine CT.of (own := "Ballothall") (by decide +kernel) (Nat.le_of_ble_eq_true rfl) rfl (fun p e s m below meth c A ls hx hb hml hr hts hown hlocks hin hA hG hZ hP hD hS hl => ?_)
  have hl : lv_has ls 4 [(0, .ref (ad 1)), (1, .int (oI x1)), (2, .int (oI x2)), (3, .int (oI x3))] := hl
  have key : ∀ (H : Heap) (locs : List Loc) (args : Array Value), (∀ w ∈ WG, w.before args s = true) → va_P z.1 classes (wv z ad E M) H → va_S A s.heap H locs → W p l e (rmK 2 64 0 0) s m args below meth c H locs 0 0 (MQ below (QK z A (fun _ => some (.int (oI r))) (fun _ => (wv z ad E M))) args s 0 0 A) (F0 m 0 ls []) := by
    intro H locs args hts hP hS
    unfold f_B_kindAt at h
    refine lv_iload_n hx hb d_1_8_0 rfl (lv_at hl 1 rfl) ?_
    refine lv_aload_n hx hb d_1_8_1 rfl (lv_at hl 0 rfl) ?_
    refine m_gr (j := 2) (C := "Ballothall") (T := TX11) (N := 14) (ci := 11) (k := 0) hx hb hts iX11 hown hG hP (yi_1 hL) (yt_1 hL) rfl (by decide) w_397 (fun _ h9 => h9) rfl rfl (yr_1_0 hL) d_1_8_2 ?_
    refine m_giN (C := "Ballothall$BallotBox") (T := TX0) (N := 10) (ci := 0) (k := 3) hx hb hts iX0 hown hG hP (yi_2 hL) (yt_2 hL) rfl (by decide) n_58 rfl (fun _ h9 => h9) rfl rfl d_1_8_5 ?_
    obtain ⟨_, g0, h⟩ := bd_e h
    refine kS (As := [.int (oI x1), .int (oI (M 2 3))]) (rest := []) (s_B_needIndex l z ad E M x1 (M 2 3) hL g0) hx hb hml hown hts w_529 w_527 w_528 w_1 md_6cb26b ⟨Nat.le_of_ble_eq_true rfl, Nat.le_of_ble_eq_true rfl⟩ hG hZ hP hD hS hA rfl hl.1 rfl (Nat.le_of_ble_eq_true rfl) d_1_8_8 ⟨Nat.le_of_ble_eq_true rfl, Nat.le_of_ble_eq_true rfl⟩ (fun _ H locs hP hD hS => ?_)
    have hP : va_P z.1 classes (wv z ad E M) H := hP
    have hD : va_D A (wv z ad E M) := hD
    refine W.eq (g2 := F0 m 11 ls []) rfl ?_
    refine lv_iload_n hx hb d_1_8_11 rfl (lv_at hl 2 rfl) ?_
    refine lv_aload_n hx hb d_1_8_12 rfl (lv_at hl 0 rfl) ?_
    refine m_gr (j := 2) (C := "Ballothall") (T := TX11) (N := 14) (ci := 11) (k := 0) hx hb hts iX11 hown hG hP (yi_1 hL) (yt_1 hL) rfl (by decide) w_397 (fun _ h9 => h9) rfl rfl (yr_1_0 hL) d_1_8_13 ?_
    refine m_giN (C := "Ballothall$BallotBox") (T := TX0) (N := 10) (ci := 0) (k := 2) hx hb hts iX0 hown hG hP (yi_2 hL) (yt_2 hL) rfl (by decide) n_52 rfl (fun _ h9 => h9) rfl rfl d_1_8_16 ?_
    obtain ⟨_, g1, h⟩ := bd_e h
    refine kS (As := [.int (oI x2), .int (oI (M 2 2))]) (rest := []) (s_B_needIndex l z ad E M x2 (M 2 2) hL g1) hx hb hml hown hts w_529 w_527 w_528 w_1 md_6cb26b ⟨Nat.le_of_ble_eq_true rfl, Nat.le_of_ble_eq_true rfl⟩ hG hZ hP hD hS hA rfl hl.1 rfl (Nat.le_of_ble_eq_true rfl) d_1_8_19 ⟨Nat.le_of_ble_eq_true rfl, Nat.le_of_ble_eq_true rfl⟩ (fun _ H locs hP hD hS => ?_)
    have hP : va_P z.1 classes (wv z ad E M) H := hP
    have hD : va_D A (wv z ad E M) := hD
    refine W.eq (g2 := F0 m 22 ls []) rfl ?_
    refine lv_iload_n hx hb d_1_8_22 rfl (lv_at hl 3 rfl) ?_
    obtain ⟨ok2, h⟩ := ck_e h
    refine lv_if_eq (tgt := 38) hx hb d_1_8_23 (by decide) (fun c9 => ?_) (fun c9 => ?_)
    · have h := ite_t ((oI_eq0 ok2).mp c9) h
      refine lv_aload_n hx hb d_1_8_38 rfl (lv_at hl 0 rfl) ?_
      refine m_gr (j := 2) (C := "Ballothall") (T := TX11) (N := 14) (ci := 11) (k := 0) hx hb hts iX11 hown hG hP (yi_1 hL) (yt_1 hL) rfl (by decide) w_397 (fun _ h9 => h9) rfl rfl (yr_1_0 hL) d_1_8_39 ?_
      refine m_grN (j := 6) (C := "Ballothall$BallotBox") (T := TX0) (N := 10) (ci := 0) (k := 6) hx hb hts iX0 hown hG hP (yi_2 hL) (yt_2 hL) rfl (by decide) n_71 rfl (fun _ h9 => h9) rfl rfl (yr_2_6 hL) d_1_8_42 ?_
      refine lv_iload_n hx hb d_1_8_45 rfl (lv_at hl 1 rfl) ?_
      obtain ⟨ok3, h⟩ := ck_e h
      refine m_ia hx hb hG hP (yi_6 hL) (yt_6 hL) ok3 d_1_8_46 ?_
      refine lv_iload_n hx hb d_1_8_47 rfl (lv_at hl 2 rfl) ?_
      obtain ⟨ok4, h⟩ := ck_e h
      obtain ⟨ok5, h⟩ := ck_e h
      refine lv_ishr hx hb d_1_8_48 ?_
      refine nrm (oI_shr (a := (M 6 x1.toNat)) ok4 ok5.1 ok5.2) ?_
      refine lv_iconst (v := oI 1) hx hb d_1_8_49 (by decide +kernel) ?_
      refine lv_iand hx hb d_1_8_50 ?_
      refine nrm (oI_m1 _) ?_
      obtain rfl := in1 h
      exact W.iret hx hb hr (fun t ht hW => qkA hP hD hS (fun k => k) rfl rfl ht) hS.2.2 d_1_8_51
    · have h := ite_f (fun q => c9 ((oI_eq0 ok2).mpr q)) h
      refine lv_aload_n hx hb d_1_8_26 rfl (lv_at hl 0 rfl) ?_
      refine m_gr (j := 2) (C := "Ballothall") (T := TX11) (N := 14) (ci := 11) (k := 0) hx hb hts iX11 hown hG hP (yi_1 hL) (yt_1 hL) rfl (by decide) w_397 (fun _ h9 => h9) rfl rfl (yr_1_0 hL) d_1_8_27 ?_
      refine lv_iload_n hx hb d_1_8_30 rfl (lv_at hl 1 rfl) ?_
      refine lv_iload_n hx hb d_1_8_31 rfl (lv_at hl 2 rfl) ?_
      obtain ⟨r6, g6, h⟩ := bd_e h
      refine kVN (As := [.int (oI x1), .int (oI x2)]) (rest := []) (s_Bx_rankOf l z ad E M x1 x2 r6 hL g6) hx hb hml hown hts w_1062 n_1059 w_1061 w_s_6d1705 w_2 md_f4341f ⟨Nat.le_of_ble_eq_true rfl, Nat.le_of_ble_eq_true rfl⟩ hG hZ hP hD hS hA 2 (wv_o (ci := 0) (yi_2 hL) (yt_2 hL)) rfl rfl rfl hl.1 rfl (Nat.le_of_ble_eq_true rfl) d_1_8_32 ⟨Nat.le_of_ble_eq_true rfl, Nat.le_of_ble_eq_true rfl⟩ (fun _ H locs hP hD hS => ?_)
      have hP : va_P z.1 classes (wv z ad E M) H := hP
      have hD : va_D A (wv z ad E M) := hD
      refine W.eq (g2 := F0 m 35 ls [.int (oI r6)]) rfl ?_
      refine lv_goto (tgt := 51) hx hb d_1_8_35 (by decide) ?_
      obtain rfl := in1 h
      exact W.iret hx hb hr (fun t ht hW => qkA hP hD hS (fun k => k) rfl rfl ht) hS.2.2 d_1_8_51
  exact key _ _ _ hts hP hS
set_option maxRecDepth 100000 in
set_option maxHeartbeats 4000000 in
theorem s_Li_append (l : Launch) (z : Zz) (ad : Nat → Nat) (E : Ev) (M : Mm) (x1 : Int) (r : Int) (N : Mm) (hL : Lay E) (h : f_Li_append E M x1 = some (r, N)) : CT l z ⟨"Ballothall$Lists", "append", "(I)I"⟩ prog_9_method_2_code 3 (some .int) [.ref (ad 53), .int (oI x1)] (wv z ad E M) 0 20 0 0 (fun _ => some (.int (oI r))) (fun _ => (wv z ad E N)) := by
  refine CT.of (own := "Ballothall$Lists") (by decide +kernel) (Nat.le_of_ble_eq_true rfl) rfl (fun p e s m below meth c A ls hx hb hml hr hts hown hlocks hin hA hG hZ hP hD hS hl => ?_)
  have hl : lv_has ls 3 [(0, .ref (ad 53)), (1, .int (oI x1))] := hl
  have key : ∀ (H : Heap) (locs : List Loc) (args : Array Value), (∀ w ∈ WG, w.before args s = true) → va_P z.1 classes (wv z ad E M) H → va_S A s.heap H locs → W p l e (rmK 0 20 0 0) s m args below meth c H locs 0 0 (MQ below (QK z A (fun _ => some (.int (oI r))) (fun _ => (wv z ad E N))) args s 0 0 A) (F0 m 0 ls []) := by
    intro H locs args hts hP hS
    unfold f_Li_append at h
    refine lv_aload_n hx hb d_9_2_0 rfl (lv_at hl 0 rfl) ?_
    refine m_gi (C := "Ballothall$Lists") (T := TX7) (N := 11) (ci := 7) (k := 0) hx hb hts iX7 hown hG hP (yi_53 hL) (yt_53 hL) rfl (by decide) w_242 (fun _ h9 => h9) rfl rfl d_9_2_1 ?_
    refine lv_istore_n (lv' := [(2, .int (oI (M 53 0))), (0, .ref (ad 53)), (1, .int (oI x1))]) hx hb d_9_2_4 rfl hl (by decide) rfl (fun ls hl => ?_)
    refine lv_aload_n hx hb d_9_2_5 rfl (lv_at hl 1 rfl) ?_
    refine m_gr (j := 54) (C := "Ballothall$Lists") (T := TX7) (N := 11) (ci := 7) (k := 1) hx hb hts iX7 hown hG hP (yi_53 hL) (yt_53 hL) rfl (by decide) w_244 (fun _ h9 => h9) rfl rfl (yr_53_1 hL) d_9_2_6 ?_
    refine lv_iload_n hx hb d_9_2_9 rfl (lv_at hl 0 rfl) ?_
    refine lv_iload_n hx hb d_9_2_10 rfl (lv_at hl 2 rfl) ?_
    obtain ⟨ok0, h⟩ := ck_e h
    refine m_is hx hb hG hP hD hS (yi_54 hL) (yt_54 hL) ok0 d_9_2_11 (fun H locs hP hD hS => ?_)
    have hP : va_P z.1 classes (wv z ad E (u2 M 54 (M 53 0).toNat x1)) H := hP
    have hD : va_D A (wv z ad E (u2 M 54 (M 53 0).toNat x1)) := hD
    refine lv_aload_n hx hb d_9_2_12 rfl (lv_at hl 1 rfl) ?_
    refine m_gr (j := 55) (C := "Ballothall$Lists") (T := TX7) (N := 11) (ci := 7) (k := 2) hx hb hts iX7 hown hG hP (yi_53 hL) (yt_53 hL) rfl (by decide) w_245 (fun _ h9 => h9) rfl rfl (yr_53_2 hL) d_9_2_13 ?_
    refine lv_iload_n hx hb d_9_2_16 rfl (lv_at hl 0 rfl) ?_
    refine lv_iconst (v := oI 0) hx hb d_9_2_17 (by decide +kernel) ?_
    refine m_is hx hb hG hP hD hS (yi_55 hL) (yt_55 hL) ok0 d_9_2_18 (fun H locs hP hD hS => ?_)
    have hP : va_P z.1 classes (wv z ad E (u2 (u2 M 54 (M 53 0).toNat x1) 55 (M 53 0).toNat 0)) H := hP
    have hD : va_D A (wv z ad E (u2 (u2 M 54 (M 53 0).toNat x1) 55 (M 53 0).toNat 0)) := hD
    refine lv_aload_n hx hb d_9_2_19 rfl (lv_at hl 1 rfl) ?_
    refine m_gr (j := 56) (C := "Ballothall$Lists") (T := TX7) (N := 11) (ci := 7) (k := 3) hx hb hts iX7 hown hG hP (yi_53 hL) (yt_53 hL) rfl (by decide) w_247 (fun _ h9 => h9) rfl rfl (yr_53_3 hL) d_9_2_20 ?_
    refine lv_iload_n hx hb d_9_2_23 rfl (lv_at hl 0 rfl) ?_
    refine lv_iload_n hx hb d_9_2_24 rfl (lv_at hl 0 rfl) ?_
    refine m_is hx hb hG hP hD hS (yi_56 hL) (yt_56 hL) ok0 d_9_2_25 (fun H locs hP hD hS => ?_)
    have hP : va_P z.1 classes (wv z ad E (u2 (u2 (u2 M 54 (M 53 0).toNat x1) 55 (M 53 0).toNat 0) 56 (M 53 0).toNat (M 53 0))) H := hP
    have hD : va_D A (wv z ad E (u2 (u2 (u2 M 54 (M 53 0).toNat x1) 55 (M 53 0).toNat 0) 56 (M 53 0).toNat (M 53 0))) := hD
    refine lv_aload_n hx hb d_9_2_26 rfl (lv_at hl 1 rfl) ?_
    refine lv_dup hx hb d_9_2_27 rfl ?_
    refine m_gi (C := "Ballothall$Lists") (T := TX7) (N := 11) (ci := 7) (k := 0) hx hb hts iX7 hown hG hP (yi_53 hL) (yt_53 hL) rfl (by decide) w_242 (fun _ h9 => h9) rfl rfl d_9_2_28 ?_
    refine lv_iconst (v := oI 1) hx hb d_9_2_31 (by decide +kernel) ?_
    refine lv_iadd hx hb d_9_2_32 ?_
    refine nrm (oI_add _ _) ?_
    refine m_pi (C := "Ballothall$Lists") (T := TX7) (N := 11) (ci := 7) (k := 0) (ty := .int) hx hb hts iX7 hown hG hP hD hS (yi_53 hL) (yt_53 hL) rfl (by decide) w_242 (fun _ h9 => h9) rfl rfl tyX7_ok nmX7 rfl (by decide +kernel) rfl rfl d_9_2_33 (fun H locs hP hD hS => ?_)
    have hP : va_P z.1 classes (wv z ad E (u2 (u2 (u2 (u2 M 54 (M 53 0).toNat x1) 55 (M 53 0).toNat 0) 56 (M 53 0).toNat (M 53 0)) 53 0 (((u2 (u2 (u2 M 54 (M 53 0).toNat x1) 55 (M 53 0).toNat 0) 56 (M 53 0).toNat (M 53 0)) 53 0) + 1))) H := hP
    have hD : va_D A (wv z ad E (u2 (u2 (u2 (u2 M 54 (M 53 0).toNat x1) 55 (M 53 0).toNat 0) 56 (M 53 0).toNat (M 53 0)) 53 0 (((u2 (u2 (u2 M 54 (M 53 0).toNat x1) 55 (M 53 0).toNat 0) 56 (M 53 0).toNat (M 53 0)) 53 0) + 1))) := hD
    obtain ⟨M1, e1, h⟩ := nb_e h
    rw [← e1] at hP hD
    refine lv_iload_n hx hb d_9_2_36 rfl (lv_at hl 0 rfl) ?_
    obtain ⟨rfl, rfl⟩ := in2 h
    exact W.iret hx hb hr (fun t ht hW => qkA hP hD hS (fun k => k) rfl rfl ht) hS.2.2 d_9_2_37
  exact key _ _ _ hts hP hS
set_option maxRecDepth 100000 in
set_option maxHeartbeats 4000000 in
theorem s_B_list (l : Launch) (z : Zz) (ad : Nat → Nat) (E : Ev) (M : Mm) (x1 : Int) (r : Int) (N : Mm) (hL : Lay E) (h : f_B_list E M x1 = some (r, N)) : CT l z ⟨"Ballothall", "list", "(I)I"⟩ prog_1_method_10_code 3 (some .int) [.ref (ad 1), .int (oI x1)] (wv z ad E M) 2 63 0 0 (fun _ => some (.int (oI r))) (fun _ => (wv z ad E N)) := by
  refine CT.of (own := "Ballothall") (by decide +kernel) (Nat.le_of_ble_eq_true rfl) rfl (fun p e s m below meth c A ls hx hb hml hr hts hown hlocks hin hA hG hZ hP hD hS hl => ?_)
  have hl : lv_has ls 3 [(0, .ref (ad 1)), (1, .int (oI x1))] := hl
  have key : ∀ (H : Heap) (locs : List Loc) (args : Array Value), (∀ w ∈ WG, w.before args s = true) → va_P z.1 classes (wv z ad E M) H → va_S A s.heap H locs → W p l e (rmK 2 63 0 0) s m args below meth c H locs 0 0 (MQ below (QK z A (fun _ => some (.int (oI r))) (fun _ => (wv z ad E N))) args s 0 0 A) (F0 m 0 ls []) := by
    intro H locs args hts hP hS
    unfold f_B_list at h
    refine lv_iload_n hx hb d_1_10_0 rfl (lv_at hl 1 rfl) ?_
    refine lv_iconst (v := oI 0) hx hb d_1_10_1 (by decide +kernel) ?_
    refine lv_ldc hx hb hown (hts _ w_1512) d_1_10_2 ?_
    refine nrm (x1 := oI 10000000) (by decide +kernel) ?_
    obtain ⟨_, g0, h⟩ := bd_e h
    refine kS (As := [.int (oI x1), .int (oI 0), .int (oI 10000000)]) (rest := []) (s_B_needRange l z ad E M x1 0 10000000 hL g0) hx hb hml hown hts w_548 w_546 w_547 w_1 md_519134 ⟨Nat.le_of_ble_eq_true rfl, Nat.le_of_ble_eq_true rfl⟩ hG hZ hP hD hS hA rfl hl.1 rfl (Nat.le_of_ble_eq_true rfl) d_1_10_4 ⟨Nat.le_of_ble_eq_true rfl, Nat.le_of_ble_eq_true rfl⟩ (fun _ H locs hP hD hS => ?_)
    have hP : va_P z.1 classes (wv z ad E M) H := hP
    have hD : va_D A (wv z ad E M) := hD
    refine W.eq (g2 := F0 m 7 ls []) rfl ?_
    refine lv_aload_n hx hb d_1_10_7 rfl (lv_at hl 0 rfl) ?_
    refine m_gr (j := 53) (C := "Ballothall") (T := TX11) (N := 14) (ci := 11) (k := 3) hx hb hts iX11 hown hG hP (yi_1 hL) (yt_1 hL) rfl (by decide) w_400 (fun _ h9 => h9) rfl rfl (yr_1_3 hL) d_1_10_8 ?_
    refine m_giN (C := "Ballothall$Lists") (T := TX7) (N := 11) (ci := 7) (k := 0) hx hb hts iX7 hown hG hP (yi_53 hL) (yt_53 hL) rfl (by decide) n_243 rfl (fun _ h9 => h9) rfl rfl d_1_10_11 ?_
    refine lv_iconst (v := oI 1) hx hb d_1_10_14 (by decide +kernel) ?_
    refine lv_iadd hx hb d_1_10_15 ?_
    refine nrm (oI_add _ _) ?_
    refine lv_bipush (v := oI 8) hx hb d_1_10_16 (by decide +kernel) ?_
    obtain ⟨_, g1, h⟩ := bd_e h
    refine kS (As := [.int (oI ((M 53 0) + 1)), .int (oI 8)]) (rest := []) (s_B_needRoom l z ad E M ((M 53 0) + 1) 8 hL g1) hx hb hml hown hts w_446 w_444 w_445 w_1 md_ec9fa9 ⟨Nat.le_of_ble_eq_true rfl, Nat.le_of_ble_eq_true rfl⟩ hG hZ hP hD hS hA rfl hl.1 rfl (Nat.le_of_ble_eq_true rfl) d_1_10_18 ⟨Nat.le_of_ble_eq_true rfl, Nat.le_of_ble_eq_true rfl⟩ (fun _ H locs hP hD hS => ?_)
    have hP : va_P z.1 classes (wv z ad E M) H := hP
    have hD : va_D A (wv z ad E M) := hD
    refine W.eq (g2 := F0 m 21 ls []) rfl ?_
    refine lv_aload_n hx hb d_1_10_21 rfl (lv_at hl 0 rfl) ?_
    refine m_gr (j := 53) (C := "Ballothall") (T := TX11) (N := 14) (ci := 11) (k := 3) hx hb hts iX11 hown hG hP (yi_1 hL) (yt_1 hL) rfl (by decide) w_400 (fun _ h9 => h9) rfl rfl (yr_1_3 hL) d_1_10_22 ?_
    refine lv_iload_n hx hb d_1_10_25 rfl (lv_at hl 1 rfl) ?_
    obtain ⟨⟨r2, M2⟩, g2, h⟩ := bd_e h
    refine kVN (As := [.int (oI x1)]) (rest := []) (s_Li_append l z ad E M x1 r2 M2 hL g2) hx hb hml hown hts w_1516 n_1513 w_1515 w_s_e9d9cd w_5 md_b749d4 ⟨Nat.le_of_ble_eq_true rfl, Nat.le_of_ble_eq_true rfl⟩ hG hZ hP hD hS hA 53 (wv_o (ci := 7) (yi_53 hL) (yt_53 hL)) rfl rfl rfl hl.1 rfl (Nat.le_of_ble_eq_true rfl) d_1_10_26 ⟨Nat.le_of_ble_eq_true rfl, Nat.le_of_ble_eq_true rfl⟩ (fun _ H locs hP hD hS => ?_)
    have hP : va_P z.1 classes (wv z ad E M2) H := hP
    have hD : va_D A (wv z ad E M2) := hD
    refine W.eq (g2 := F0 m 29 ls [.int (oI r2)]) rfl ?_
    refine lv_istore_n (lv' := [(2, .int (oI r2)), (0, .ref (ad 1)), (1, .int (oI x1))]) hx hb d_1_10_29 rfl hl (by decide) rfl (fun ls hl => ?_)
    refine lv_aload_n hx hb d_1_10_30 rfl (lv_at hl 1 rfl) ?_
    refine lv_iconst (v := oI 5) hx hb d_1_10_31 (by decide +kernel) ?_
    refine lv_iload_n hx hb d_1_10_32 rfl (lv_at hl 0 rfl) ?_
    refine lv_iconst (v := oI 0) hx hb d_1_10_33 (by decide +kernel) ?_
    obtain ⟨M3, g3, h⟩ := bd_e h
    refine kV (As := [.int (oI 5), .int (oI r2), .int (oI 0)]) (rest := []) (s_B_remember l z ad E M2 5 r2 0 M3 hL g3) hx hb hml hown hts w_519 w_516 w_518 w_s_b872b3 w_1 md_7af0bb ⟨Nat.le_of_ble_eq_true rfl, Nat.le_of_ble_eq_true rfl⟩ hG hZ hP hD hS hA 1 (wv_o (ci := 11) (yi_1 hL) (yt_1 hL)) rfl rfl rfl hl.1 rfl (Nat.le_of_ble_eq_true rfl) d_1_10_34 ⟨Nat.le_of_ble_eq_true rfl, Nat.le_of_ble_eq_true rfl⟩ (fun _ H locs hP hD hS => ?_)
    have hP : va_P z.1 classes (wv z ad E M3) H := hP
    have hD : va_D A (wv z ad E M3) := hD
    refine W.eq (g2 := F0 m 37 ls []) rfl ?_
    refine lv_iload_n hx hb d_1_10_37 rfl (lv_at hl 0 rfl) ?_
    obtain ⟨rfl, rfl⟩ := in2 h
    exact W.iret hx hb hr (fun t ht hW => qkA hP hD hS (fun k => k) rfl rfl ht) hS.2.2 d_1_10_38
  exact key _ _ _ hts hP hS
