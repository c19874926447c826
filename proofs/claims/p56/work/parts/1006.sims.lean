set_option maxRecDepth 100000 in
set_option maxHeartbeats 4000000 in
theorem b_Po_bestByLot_4b (l : Launch) (z : Zz) (ad : Nat → Nat) (E : Ev) (M : Mm) (x1 : Int32) (x2 : Int32) (x3 : Int32) (t : Nat) (w2 : Int32) (w3 : Int32) (N : Mm) {Q : State → Prop} {p : Program} {e : Env} {s : State} {m : MethodId} {below : List Frame} {meth : Method} {c : Code} {A : Nat → Prop} {args : Array Value} (hx : p.tables.exec = Jvm.exec) (hb : c.code = prog_11_method_22_code) (hml : c.maxLocals = 4) (hts : ∀ w ∈ WG, w.before args s = true) (hown : s.vm.findClass "Ballothall$Poll" = some m.cls) (hlocks : meth.locks = false) (hA : ∀ q, s.heap.size ≤ q → A q) (hG : KG z s) (hZ : FZ z A s) (hL : Lay E) (h : Po_bestByLot_4b E M x1 x2 x3 = some (t, w2, w3, N)) (k0 : t = 0 → ∀ (H : Heap) (locs : List Loc) (ls : Array Slot), va_P z.1 classes (wv z ad E N) H → va_D A (wv z ad E N) → va_S A s.heap H locs → lv_has ls 4 [(0, .ref (ad 41)), (1, .int x1), (2, .int w2), (3, .int w3)] → W p l e (rmK 1 42 0 0) s m args below meth c H locs 0 0 Q (F0 m 4 ls [])) (k1 : t = 1 → ∀ (H : Heap) (locs : List Loc) (ls : Array Slot), va_P z.1 classes (wv z ad E N) H → va_D A (wv z ad E N) → va_S A s.heap H locs → lv_has ls 4 [(2, .int w2)] → W p l e (rmK 1 42 0 0) s m args below meth c H locs 0 0 Q (F0 m 48 ls [])) : ∀ (H : Heap) (locs : List Loc) (ls : Array Slot), va_P z.1 classes (wv z ad E M) H → va_D A (wv z ad E M) → va_S A s.heap H locs → lv_has ls 4 [(0, .ref (ad 41)), (1, .int x1), (2, .int x2), (3, .int x3)] → W p l e (rmK 1 42 0 0) s m args below meth c H locs 0 0 Q (F0 m 4 ls []) := by
  intro H locs ls hP hD hS hl
  unfold Po_bestByLot_4b at h
  refine lv_iload_n hx hb d_11_22_4 rfl (lv_at hl 3 rfl) ?_
  refine lv_aload_n hx hb d_11_22_5 rfl (lv_at hl 0 rfl) ?_
  refine m_gr (j := 2) (C := "Ballothall$Poll") (T := TX9) (N := 12) (ci := 9) (k := 0) hx hb hts iX9 hown hG hP (yi_41 hL) (yt_41 hL) rfl (by decide) w_107 (fun _ h9 => h9) rfl rfl (yr_41_0 hL) d_11_22_6 ?_
  refine m_giN (C := "Ballothall$BallotBox") (T := TX0) (N := 10) (ci := 0) (k := 2) hx hb hts iX0 hown hG hP (yi_2 hL) (yt_2 hL) rfl (by decide) n_53 rfl (fun _ h9 => h9) rfl rfl d_11_22_9 ?_
  refine lv_icmp_ge (tgt := 48) hx hb d_11_22_12 (by decide) (fun c9 => ?_) (fun c9 => ?_)
  · have h := ite_t c9 h
    obtain ⟨rfl, rfl, rfl, rfl⟩ := in4 h
    exact k1 rfl H locs ls hP hD hS (lv_sub hl [2] rfl)
  · have h := ite_f c9 h
    refine lv_iload_n hx hb d_11_22_15 rfl (lv_at hl 1 rfl) ?_
    refine lv_iload_n hx hb d_11_22_16 rfl (lv_at hl 3 rfl) ?_
    obtain ⟨⟨r0, M0⟩, g0, h⟩ := bd_e h
    refine kSN (As := [.int x1, .int x3]) (rest := []) (s_B_has l z ad E M x1 x3 r0 M0 hL g0) hx hb hml hown hts w_693 n_691 w_692 w_1 md_26545c ⟨Nat.le_of_ble_eq_true rfl, Nat.le_of_ble_eq_true rfl⟩ hG hZ hP hD hS hA rfl hl.1 rfl (Nat.le_of_ble_eq_true rfl) d_11_22_17 ⟨Nat.le_of_ble_eq_true rfl, Nat.le_of_ble_eq_true rfl⟩ (fun _ H locs hP hD hS => ?_)
    have hP : va_P z.1 classes (wv z ad E M0) H := hP
    have hD : va_D A (wv z ad E M0) := hD
    refine W.eq (g2 := F0 m 20 ls [.int r0]) rfl ?_
    refine lv_if_eq (tgt := 42) hx hb d_11_22_20 (by decide) (fun c9 => ?_) (fun c9 => ?_)
    · have h := ite_t c9 h
      refine lv_iinc (v := (x3 + 1)) (lv' := [(3, .int (x3 + 1)), (0, .ref (ad 41)), (1, .int x1), (2, .int x2)]) hx hb d_11_22_42 hl (k := 3) rfl (congrArg (fun q => x3 + q) (show Int32.ofInt 1 = 1 by decide +kernel)) (by decide) rfl (fun ls hl => ?_)
      refine lv_goto (tgt := 4) hx hb d_11_22_45 (by decide) ?_
      obtain ⟨rfl, rfl, rfl, rfl⟩ := in4 h
      exact k0 rfl H locs ls hP hD hS (lv_sub hl [1, 2, 3, 0] rfl)
    · have h := ite_f c9 h
      refine lv_iload_n hx hb d_11_22_23 rfl (lv_at hl 2 rfl) ?_
      refine lv_iconst (v := (-1)) hx hb d_11_22_24 (by decide +kernel) ?_
      refine lv_icmp_eq (tgt := 40) hx hb d_11_22_25 (by decide) (fun c9 => ?_) (fun c9 => ?_)
      · have h := ite_t c9 h
        refine lv_iload_n hx hb d_11_22_40 rfl (lv_at hl 3 rfl) ?_
        refine lv_istore_n (lv' := [(2, .int x3), (0, .ref (ad 41)), (1, .int x1), (3, .int x3)]) hx hb d_11_22_41 rfl hl (by decide) rfl (fun ls hl => ?_)
        refine lv_iinc (v := (x3 + 1)) (lv' := [(3, .int (x3 + 1)), (2, .int x3), (0, .ref (ad 41)), (1, .int x1)]) hx hb d_11_22_42 hl (k := 3) rfl (congrArg (fun q => x3 + q) (show Int32.ofInt 1 = 1 by decide +kernel)) (by decide) rfl (fun ls hl => ?_)
        refine lv_goto (tgt := 4) hx hb d_11_22_45 (by decide) ?_
        obtain ⟨rfl, rfl, rfl, rfl⟩ := in4 h
        exact k0 rfl H locs ls hP hD hS (lv_sub hl [2, 3, 1, 0] rfl)
      · have h := ite_f c9 h
        refine lv_aload_n hx hb d_11_22_28 rfl (lv_at hl 0 rfl) ?_
        refine m_gr (j := 2) (C := "Ballothall$Poll") (T := TX9) (N := 12) (ci := 9) (k := 0) hx hb hts iX9 hown hG hP (yi_41 hL) (yt_41 hL) rfl (by decide) w_107 (fun _ h9 => h9) rfl rfl (yr_41_0 hL) d_11_22_29 ?_
        refine lv_iload_n hx hb d_11_22_32 rfl (lv_at hl 3 rfl) ?_
        refine lv_iload_n hx hb d_11_22_33 rfl (lv_at hl 2 rfl) ?_
        obtain ⟨⟨r1, M1⟩, g1, h⟩ := bd_e h
        refine kVN (As := [.int x3, .int x2]) (rest := []) (s_Bx_winsLot l z ad E M0 x3 x2 r1 M1 hL g1) hx hb hml hown hts w_1163 n_1390 w_1162 w_s_85fec9 w_2 md_aa27a3 ⟨Nat.le_of_ble_eq_true rfl, Nat.le_of_ble_eq_true rfl⟩ hG hZ hP hD hS hA 2 (wv_o (ci := 0) (yi_2 hL) (yt_2 hL)) rfl rfl rfl hl.1 rfl (Nat.le_of_ble_eq_true rfl) d_11_22_34 ⟨Nat.le_of_ble_eq_true rfl, Nat.le_of_ble_eq_true rfl⟩ (fun _ H locs hP hD hS => ?_)
        have hP : va_P z.1 classes (wv z ad E M1) H := hP
        have hD : va_D A (wv z ad E M1) := hD
        refine W.eq (g2 := F0 m 37 ls [.int r1]) rfl ?_
        refine lv_if_eq (tgt := 42) hx hb d_11_22_37 (by decide) (fun c9 => ?_) (fun c9 => ?_)
        · have h := ite_t c9 h
          refine lv_iinc (v := (x3 + 1)) (lv' := [(3, .int (x3 + 1)), (0, .ref (ad 41)), (1, .int x1), (2, .int x2)]) hx hb d_11_22_42 hl (k := 3) rfl (congrArg (fun q => x3 + q) (show Int32.ofInt 1 = 1 by decide +kernel)) (by decide) rfl (fun ls hl => ?_)
          refine lv_goto (tgt := 4) hx hb d_11_22_45 (by decide) ?_
          obtain ⟨rfl, rfl, rfl, rfl⟩ := in4 h
          exact k0 rfl H locs ls hP hD hS (lv_sub hl [1, 2, 3, 0] rfl)
        · have h := ite_f c9 h
          refine lv_iload_n hx hb d_11_22_40 rfl (lv_at hl 3 rfl) ?_
          refine lv_istore_n (lv' := [(2, .int x3), (0, .ref (ad 41)), (1, .int x1), (3, .int x3)]) hx hb d_11_22_41 rfl hl (by decide) rfl (fun ls hl => ?_)
          refine lv_iinc (v := (x3 + 1)) (lv' := [(3, .int (x3 + 1)), (2, .int x3), (0, .ref (ad 41)), (1, .int x1)]) hx hb d_11_22_42 hl (k := 3) rfl (congrArg (fun q => x3 + q) (show Int32.ofInt 1 = 1 by decide +kernel)) (by decide) rfl (fun ls hl => ?_)
          refine lv_goto (tgt := 4) hx hb d_11_22_45 (by decide) ?_
          obtain ⟨rfl, rfl, rfl, rfl⟩ := in4 h
          exact k0 rfl H locs ls hP hD hS (lv_sub hl [2, 3, 1, 0] rfl)
set_option maxRecDepth 100000 in
set_option maxHeartbeats 4000000 in
theorem s_Po_bestByLot_4 (l : Launch) (z : Zz) (ad : Nat → Nat) (E : Ev) (x1 : Int32) {Q : State → Prop} {p : Program} {e : Env} {s : State} {m : MethodId} {below : List Frame} {meth : Method} {c : Code} {A : Nat → Prop} {args : Array Value} (hx : p.tables.exec = Jvm.exec) (hb : c.code = prog_11_method_22_code) (hml : c.maxLocals = 4) (hts : ∀ w ∈ WG, w.before args s = true) (hown : s.vm.findClass "Ballothall$Poll" = some m.cls) (hlocks : meth.locks = false) (hA : ∀ q, s.heap.size ≤ q → A q) (hG : KG z s) (hZ : FZ z A s) (hL : Lay E) : ∀ (fu : Nat) (M : Mm) (x2 : Int32) (x3 : Int32) (t : Nat) (w2 : Int32) (w3 : Int32) (N : Mm), l_Po_bestByLot_4 E x1 fu M x2 x3 = some (t, w2, w3, N) → (t = 1 → ∀ (H : Heap) (locs : List Loc) (ls : Array Slot), va_P z.1 classes (wv z ad E N) H → va_D A (wv z ad E N) → va_S A s.heap H locs → lv_has ls 4 [(2, .int w2)] → W p l e (rmK 1 42 0 0) s m args below meth c H locs 0 0 Q (F0 m 48 ls [])) → ∀ (H : Heap) (locs : List Loc) (ls : Array Slot), va_P z.1 classes (wv z ad E M) H → va_D A (wv z ad E M) → va_S A s.heap H locs → lv_has ls 4 [(0, .ref (ad 41)), (1, .int x1), (2, .int x2), (3, .int x3)] → W p l e (rmK 1 42 0 0) s m args below meth c H locs 0 0 Q (F0 m 4 ls []) := by
  intro fu
  induction fu with
  | zero =>
    intro M x2 x3 t w2 w3 N h
    have h : (none : Option (Nat × Int32 × Int32 × Mm)) = some _ := h
    cases h
  | succ fu ih =>
    intro M x2 x3 t w2 w3 N h k1 H locs ls hP hD hS hl
    obtain ⟨⟨t0, w20, w30, N0⟩, g0, h⟩ := bd_e h
    refine b_Po_bestByLot_4b l z ad E M x1 x2 x3 t0 w20 w30 N0 hx hb hml hts hown hlocks hA hG hZ hL g0 (fun e0 => ?_) (fun e0 => ?_) H locs ls hP hD hS hl
    · subst e0
      have h := ite_t rfl h
      exact ih N0 w20 w30 t w2 w3 N h k1
    · subst e0
      have h := ite_f (by decide) h
      obtain ⟨rfl, rfl, rfl, rfl⟩ := in4 h
      exact k1 rfl
set_option maxRecDepth 100000 in
set_option maxHeartbeats 4000000 in
theorem s_Po_bestByLot (l : Launch) (z : Zz) (ad : Nat → Nat) (E : Ev) (M : Mm) (x1 : Int32) (r : Int32) (N : Mm) (hL : Lay E) (h : f_Po_bestByLot E M x1 = some (r, N)) : CT l z ⟨"Ballothall$Poll", "bestByLot", "(I)I"⟩ prog_11_method_22_code 4 (some .int) [.ref (ad 41), .int x1] (wv z ad E M) 1 42 0 0 (fun _ => some (.int r)) (fun _ => wv z ad E N) := by
  refine CT.of (own := "Ballothall$Poll") (by decide +kernel) (Nat.le_of_ble_eq_true rfl) rfl (fun p e s m below meth c A ls hx hb hml hr hts hown hlocks hin hA hG hZ hP hD hS hl => ?_)
  have hl : lv_has ls 4 [(0, .ref (ad 41)), (1, .int x1)] := hl
  have key : ∀ (H : Heap) (locs : List Loc) (args : Array Value), (∀ w ∈ WG, w.before args s = true) → va_P z.1 classes (wv z ad E M) H → va_S A s.heap H locs → W p l e (rmK 1 42 0 0) s m args below meth c H locs 0 0 (MQ below (QK z A (fun _ => some (.int r)) (fun _ => wv z ad E N)) args s 0 0 A) (F0 m 0 ls []) := by
    intro H locs args hts hP hS
    unfold f_Po_bestByLot at h
    refine lv_iconst (v := (-1)) hx hb d_11_22_0 (by decide +kernel) ?_
    refine lv_istore_n (lv' := [(2, .int (-1)), (0, .ref (ad 41)), (1, .int x1)]) hx hb d_11_22_1 rfl hl (by decide) rfl (fun ls hl => ?_)
    refine lv_iconst (v := 0) hx hb d_11_22_2 (by decide +kernel) ?_
    refine lv_istore_n (lv' := [(3, .int 0), (2, .int (-1)), (0, .ref (ad 41)), (1, .int x1)]) hx hb d_11_22_3 rfl hl (by decide) rfl (fun ls hl => ?_)
    obtain ⟨⟨t2, v2_2, v2_3, M2⟩, g2, h⟩ := bd_e h
    obtain ⟨ok2, h⟩ := ck_e h
    refine s_Po_bestByLot_4 l z ad E x1 hx hb hml hts hown hlocks hA hG hZ hL FU M (-1) 0 t2 v2_2 v2_3 M2 g2 (fun e2 H locs ls hP hD hS hl => ?_) H locs ls hP hD hS (lv_sub hl [2, 3, 1, 0] rfl)
    refine lv_iload_n hx hb d_11_22_48 rfl (lv_at hl 0 rfl) ?_
    obtain ⟨rfl, rfl⟩ := in2 h
    exact W.iret hx hb hr (fun t ht hW => qkA hP hD hS (fun k => k) rfl rfl ht) hS.2.2 d_11_22_49
  exact key _ _ _ hts hP hS
set_option maxRecDepth 100000 in
set_option maxHeartbeats 4000000 in
theorem b_Po_lastOfRunoff_17b (l : Launch) (z : Zz) (ad : Nat → Nat) (E : Ev) (M : Mm) (x2 : Int32) (x1 : Int32) (x3 : Int32) (t : Nat) (w1 : Int32) (w3 : Int32) (N : Mm) {Q : State → Prop} {p : Program} {e : Env} {s : State} {m : MethodId} {below : List Frame} {meth : Method} {c : Code} {A : Nat → Prop} {args : Array Value} (hx : p.tables.exec = Jvm.exec) (hb : c.code = prog_11_method_25_code) (hml : c.maxLocals = 5) (hts : ∀ w ∈ WG, w.before args s = true) (hown : s.vm.findClass "Ballothall$Poll" = some m.cls) (hlocks : meth.locks = false) (hA : ∀ q, s.heap.size ≤ q → A q) (hG : KG z s) (hZ : FZ z A s) (hL : Lay E) (h : Po_lastOfRunoff_17b E M x2 x1 x3 = some (t, w1, w3, N)) (k0 : t = 0 → ∀ (H : Heap) (locs : List Loc) (ls : Array Slot), va_P z.1 classes (wv z ad E N) H → va_D A (wv z ad E N) → va_S A s.heap H locs → lv_has ls 5 [(0, .ref (ad 41)), (1, .int w1), (2, .int x2), (3, .int w3)] → W p l e (rmK 3 90 0 0) s m args below meth c H locs 0 0 Q (F0 m 17 ls [])) (k1 : t = 1 → ∀ (H : Heap) (locs : List Loc) (ls : Array Slot), va_P z.1 classes (wv z ad E N) H → va_D A (wv z ad E N) → va_S A s.heap H locs → lv_has ls 5 [(0, .ref (ad 41)), (1, .int w1)] → W p l e (rmK 3 90 0 0) s m args below meth c H locs 0 0 Q (F0 m 57 ls [])) : ∀ (H : Heap) (locs : List Loc) (ls : Array Slot), va_P z.1 classes (wv z ad E M) H → va_D A (wv z ad E M) → va_S A s.heap H locs → lv_has ls 5 [(0, .ref (ad 41)), (1, .int x1), (2, .int x2), (3, .int x3)] → W p l e (rmK 3 90 0 0) s m args below meth c H locs 0 0 Q (F0 m 17 ls []) := by
  intro H locs ls hP hD hS hl
  unfold Po_lastOfRunoff_17b at h
  refine lv_iload_n hx hb d_11_25_17 rfl (lv_at hl 3 rfl) ?_
  refine lv_iload_n hx hb d_11_25_18 rfl (lv_at hl 2 rfl) ?_
  refine lv_icmp_ge (tgt := 57) hx hb d_11_25_19 (by decide) (fun c9 => ?_) (fun c9 => ?_)
  · have h := ite_t c9 h
    obtain ⟨rfl, rfl, rfl, rfl⟩ := in4 h
    exact k1 rfl H locs ls hP hD hS (lv_sub hl [0, 1] rfl)
  · have h := ite_f c9 h
    refine lv_aload_n hx hb d_11_25_22 rfl (lv_at hl 0 rfl) ?_
    refine lv_iload_n hx hb d_11_25_23 rfl (lv_at hl 1 rfl) ?_
    obtain ⟨M1, g1, h⟩ := bd_e h
    refine kV (As := [.int x1]) (rest := []) (s_Po_scoreTopsOf l z ad E M x1 M1 hL g1) hx hb hml hown hts w_1382 w_1379 w_1381 w_s_7c0c97 w_3 md_a89aae ⟨Nat.le_of_ble_eq_true rfl, Nat.le_of_ble_eq_true rfl⟩ hG hZ hP hD hS hA 41 (wv_o (ci := 9) (yi_41 hL) (yt_41 hL)) rfl rfl rfl hl.1 rfl (Nat.le_of_ble_eq_true rfl) d_11_25_24 ⟨Nat.le_of_ble_eq_true rfl, Nat.le_of_ble_eq_true rfl⟩ (fun _ H locs hP hD hS => ?_)
    have hP : va_P z.1 classes (wv z ad E M1) H := hP
    have hD : va_D A (wv z ad E M1) := hD
    refine W.eq (g2 := F0 m 27 ls []) rfl ?_
    refine lv_aload_n hx hb d_11_25_27 rfl (lv_at hl 0 rfl) ?_
    refine lv_iload_n hx hb d_11_25_28 rfl (lv_at hl 1 rfl) ?_
    obtain ⟨⟨r2, M2⟩, g2, h⟩ := bd_e h
    refine kV (As := [.int x1]) (rest := []) (s_Po_smallestOf l z ad E M1 x1 r2 M2 hL g2) hx hb hml hown hts w_1389 w_1386 w_1388 w_s_df56a8 w_3 md_ba9fe6 ⟨Nat.le_of_ble_eq_true rfl, Nat.le_of_ble_eq_true rfl⟩ hG hZ hP hD hS hA 41 (wv_o (ci := 9) (yi_41 hL) (yt_41 hL)) rfl rfl rfl hl.1 rfl (Nat.le_of_ble_eq_true rfl) d_11_25_29 ⟨Nat.le_of_ble_eq_true rfl, Nat.le_of_ble_eq_true rfl⟩ (fun _ H locs hP hD hS => ?_)
    have hP : va_P z.1 classes (wv z ad E M2) H := hP
    have hD : va_D A (wv z ad E M2) := hD
    refine W.eq (g2 := F0 m 32 ls [.int r2]) rfl ?_
    refine lv_istore (lv' := [(4, .int r2), (0, .ref (ad 41)), (1, .int x1), (2, .int x2), (3, .int x3)]) hx hb d_11_25_32 hl (by decide) rfl (fun ls hl => ?_)
    refine lv_aload_n hx hb d_11_25_34 rfl (lv_at hl 1 rfl) ?_
    refine m_gr (j := 49) (C := "Ballothall$Poll") (T := TX9) (N := 12) (ci := 9) (k := 10) hx hb hts iX9 hown hG hP (yi_41 hL) (yt_41 hL) rfl (by decide) w_117 (fun _ h9 => h9) rfl rfl (yr_41_10 hL) d_11_25_35 ?_
    refine lv_iload_n hx hb d_11_25_38 rfl (lv_at hl 4 rfl) ?_
    refine lv_iload hx hb d_11_25_39 (lv_at hl 0 rfl) ?_
    obtain ⟨ok3, h⟩ := ck_e h
    refine m_is hx hb hG hP hD hS (yi_49 hL) (yt_49 hL) ok3 d_11_25_41 (fun H locs hP hD hS => ?_)
    have hP : va_P z.1 classes (wv z ad E (u2 M2 49 x3.toNatClampNeg r2)) H := hP
    have hD : va_D A (wv z ad E (u2 M2 49 x3.toNatClampNeg r2)) := hD
    refine lv_iload_n hx hb d_11_25_42 rfl (lv_at hl 2 rfl) ?_
    refine lv_iconst (v := 1) hx hb d_11_25_43 (by decide +kernel) ?_
    refine lv_iload hx hb d_11_25_44 (lv_at hl 0 rfl) ?_
    refine lv_ishl hx hb d_11_25_46 ?_
    refine lv_iconst (v := (-1)) hx hb d_11_25_47 (by decide +kernel) ?_
    refine lv_ixor hx hb d_11_25_48 ?_
    refine lv_iand hx hb d_11_25_49 ?_
    obtain ⟨v4, e4, h⟩ := nb_e h
    refine nrm e4.symm ?_
    refine lv_istore_n (lv' := [(1, .int v4), (4, .int r2), (0, .ref (ad 41)), (2, .int x2), (3, .int x3)]) hx hb d_11_25_50 rfl hl (by decide) rfl (fun ls hl => ?_)
    refine lv_iinc (v := (x3 + 1)) (lv' := [(3, .int (x3 + 1)), (1, .int v4), (4, .int r2), (0, .ref (ad 41)), (2, .int x2)]) hx hb d_11_25_51 hl (k := 4) rfl (congrArg (fun q => x3 + q) (show Int32.ofInt 1 = 1 by decide +kernel)) (by decide) rfl (fun ls hl => ?_)
    refine lv_goto (tgt := 17) hx hb d_11_25_54 (by decide) ?_
    obtain ⟨rfl, rfl, rfl, rfl⟩ := in4 h
    exact k0 rfl H locs ls hP hD hS (lv_sub hl [3, 1, 4, 0] rfl)
set_option maxRecDepth 100000 in
set_option maxHeartbeats 4000000 in
theorem s_Po_lastOfRunoff_17 (l : Launch) (z : Zz) (ad : Nat → Nat) (E : Ev) (x2 : Int32) {Q : State → Prop} {p : Program} {e : Env} {s : State} {m : MethodId} {below : List Frame} {meth : Method} {c : Code} {A : Nat → Prop} {args : Array Value} (hx : p.tables.exec = Jvm.exec) (hb : c.code = prog_11_method_25_code) (hml : c.maxLocals = 5) (hts : ∀ w ∈ WG, w.before args s = true) (hown : s.vm.findClass "Ballothall$Poll" = some m.cls) (hlocks : meth.locks = false) (hA : ∀ q, s.heap.size ≤ q → A q) (hG : KG z s) (hZ : FZ z A s) (hL : Lay E) : ∀ (fu : Nat) (M : Mm) (x1 : Int32) (x3 : Int32) (t : Nat) (w1 : Int32) (w3 : Int32) (N : Mm), l_Po_lastOfRunoff_17 E x2 fu M x1 x3 = some (t, w1, w3, N) → (t = 1 → ∀ (H : Heap) (locs : List Loc) (ls : Array Slot), va_P z.1 classes (wv z ad E N) H → va_D A (wv z ad E N) → va_S A s.heap H locs → lv_has ls 5 [(0, .ref (ad 41)), (1, .int w1)] → W p l e (rmK 3 90 0 0) s m args below meth c H locs 0 0 Q (F0 m 57 ls [])) → ∀ (H : Heap) (locs : List Loc) (ls : Array Slot), va_P z.1 classes (wv z ad E M) H → va_D A (wv z ad E M) → va_S A s.heap H locs → lv_has ls 5 [(0, .ref (ad 41)), (1, .int x1), (2, .int x2), (3, .int x3)] → W p l e (rmK 3 90 0 0) s m args below meth c H locs 0 0 Q (F0 m 17 ls []) := by
  intro fu
  induction fu with
  | zero =>
    intro M x1 x3 t w1 w3 N h
    have h : (none : Option (Nat × Int32 × Int32 × Mm)) = some _ := h
    cases h
  | succ fu ih =>
    intro M x1 x3 t w1 w3 N h k1 H locs ls hP hD hS hl
    obtain ⟨⟨t0, w10, w30, N0⟩, g0, h⟩ := bd_e h
    refine b_Po_lastOfRunoff_17b l z ad E M x2 x1 x3 t0 w10 w30 N0 hx hb hml hts hown hlocks hA hG hZ hL g0 (fun e0 => ?_) (fun e0 => ?_) H locs ls hP hD hS hl
    · subst e0
      have h := ite_t rfl h
      exact ih N0 w10 w30 t w1 w3 N h k1
    · subst e0
      have h := ite_f (by decide) h
      obtain ⟨rfl, rfl, rfl, rfl⟩ := in4 h
      exact k1 rfl
set_option maxRecDepth 100000 in
set_option maxHeartbeats 4000000 in
theorem s_Po_lastOfRunoff (l : Launch) (z : Zz) (ad : Nat → Nat) (E : Ev) (M : Mm) (r : Int32) (N : Mm) (hL : Lay E) (h : f_Po_lastOfRunoff E M = some (r, N)) : CT l z ⟨"Ballothall$Poll", "lastOfRunoff", "()I"⟩ prog_11_method_25_code 5 (some .int) [.ref (ad 41)] (wv z ad E M) 3 90 0 0 (fun _ => some (.int r)) (fun _ => wv z ad E N) := by
  refine CT.of (own := "Ballothall$Poll") (by decide +kernel) (Nat.le_of_ble_eq_true rfl) rfl (fun p e s m below meth c A ls hx hb hml hr hts hown hlocks hin hA hG hZ hP hD hS hl => ?_)
  have hl : lv_has ls 5 [(0, .ref (ad 41))] := hl
  have key : ∀ (H : Heap) (locs : List Loc) (args : Array Value), (∀ w ∈ WG, w.before args s = true) → va_P z.1 classes (wv z ad E M) H → va_S A s.heap H locs → W p l e (rmK 3 90 0 0) s m args below meth c H locs 0 0 (MQ below (QK z A (fun _ => some (.int r)) (fun _ => wv z ad E N)) args s 0 0 A) (F0 m 0 ls []) := by
    intro H locs args hts hP hS
    unfold f_Po_lastOfRunoff at h
    refine lv_aload_n hx hb d_11_25_0 rfl (lv_at hl 0 rfl) ?_
    refine m_gi (C := "Ballothall$Poll") (T := TX9) (N := 12) (ci := 9) (k := 1) hx hb hts iX9 hown hG hP (yi_41 hL) (yt_41 hL) rfl (by decide) w_108 (fun _ h9 => h9) rfl rfl d_11_25_1 ?_
    refine lv_istore_n (lv' := [(1, .int (M.1 41 1)), (0, .ref (ad 41))]) hx hb d_11_25_4 rfl hl (by decide) rfl (fun ls hl => ?_)
    refine lv_aload_n hx hb d_11_25_5 rfl (lv_at hl 1 rfl) ?_
    refine m_gi (C := "Ballothall$Poll") (T := TX9) (N := 12) (ci := 9) (k := 1) hx hb hts iX9 hown hG hP (yi_41 hL) (yt_41 hL) rfl (by decide) w_108 (fun _ h9 => h9) rfl rfl d_11_25_6 ?_
    obtain ⟨⟨r0, M0⟩, g0, h⟩ := bd_e h
    refine kS (As := [.int (M.1 41 1)]) (rest := []) (s_In_bitCount l z ad E M (M.1 41 1) r0 M0 hL g0) hx hb hml hown hts w_657 w_1318 w_656 w_30 md_eafe8c ⟨Nat.le_of_ble_eq_true rfl, Nat.le_of_ble_eq_true rfl⟩ hG hZ hP hD hS hA rfl hl.1 rfl (Nat.le_of_ble_eq_true rfl) d_11_25_9 ⟨Nat.le_of_ble_eq_true rfl, Nat.le_of_ble_eq_true rfl⟩ (fun _ H locs hP hD hS => ?_)
    have hP : va_P z.1 classes (wv z ad E M0) H := hP
    have hD : va_D A (wv z ad E M0) := hD
    refine W.eq (g2 := F0 m 12 ls [.int r0]) rfl ?_
    refine lv_iconst (v := 1) hx hb d_11_25_12 (by decide +kernel) ?_
    refine lv_isub hx hb d_11_25_13 ?_
    refine lv_istore_n (lv' := [(2, .int (r0 - (1 : Int32))), (1, .int (M.1 41 1)), (0, .ref (ad 41))]) hx hb d_11_25_14 rfl hl (by decide) rfl (fun ls hl => ?_)
    refine lv_iconst (v := 0) hx hb d_11_25_15 (by decide +kernel) ?_
    refine lv_istore_n (lv' := [(3, .int 0), (2, .int (r0 - (1 : Int32))), (1, .int (M.1 41 1)), (0, .ref (ad 41))]) hx hb d_11_25_16 rfl hl (by decide) rfl (fun ls hl => ?_)
    obtain ⟨⟨t5, v5_1, v5_3, M5⟩, g5, h⟩ := bd_e h
    obtain ⟨ok5, h⟩ := ck_e h
    refine s_Po_lastOfRunoff_17 l z ad E (r0 - (1 : Int32)) hx hb hml hts hown hlocks hA hG hZ hL FU M0 (M.1 41 1) 0 t5 v5_1 v5_3 M5 g5 (fun e5 H locs ls hP hD hS hl => ?_) H locs ls hP hD hS (lv_sub hl [3, 2, 1, 0] rfl)
    refine lv_aload_n hx hb d_11_25_57 rfl (lv_at hl 0 rfl) ?_
    refine lv_iload_n hx hb d_11_25_58 rfl (lv_at hl 1 rfl) ?_
    obtain ⟨⟨r6, M6⟩, g6, h⟩ := bd_e h
    refine kV (As := [.int v5_1]) (rest := []) (s_Po_bestByLot l z ad E M5 v5_1 r6 M6 hL g6) hx hb hml hown hts w_1394 w_1391 w_1393 w_s_b9deda w_3 md_322545 ⟨Nat.le_of_ble_eq_true rfl, Nat.le_of_ble_eq_true rfl⟩ hG hZ hP hD hS hA 41 (wv_o (ci := 9) (yi_41 hL) (yt_41 hL)) rfl rfl rfl hl.1 rfl (Nat.le_of_ble_eq_true rfl) d_11_25_59 ⟨Nat.le_of_ble_eq_true rfl, Nat.le_of_ble_eq_true rfl⟩ (fun _ H locs hP hD hS => ?_)
    have hP : va_P z.1 classes (wv z ad E M6) H := hP
    have hD : va_D A (wv z ad E M6) := hD
    refine W.eq (g2 := F0 m 62 ls [.int r6]) rfl ?_
    obtain ⟨rfl, rfl⟩ := in2 h
    exact W.iret hx hb hr (fun t ht hW => qkA hP hD hS (fun k => k) rfl rfl ht) hS.2.2 d_11_25_62
  exact key _ _ _ hts hP hS
set_option maxRecDepth 100000 in
set_option maxHeartbeats 4000000 in
theorem b_Po_pointsOf_5b (l : Launch) (z : Zz) (ad : Nat → Nat) (E : Ev) (M : Mm) (x1 : Int32) (x2 : Int64) (x4 : Int32) (t : Nat) (w2 : Int64) (w4 : Int32) (N : Mm) {Q : State → Prop} {p : Program} {e : Env} {s : State} {m : MethodId} {below : List Frame} {meth : Method} {c : Code} {A : Nat → Prop} {args : Array Value} (hx : p.tables.exec = Jvm.exec) (hb : c.code = prog_11_method_21_code) (hml : c.maxLocals = 5) (hts : ∀ w ∈ WG, w.before args s = true) (hown : s.vm.findClass "Ballothall$Poll" = some m.cls) (hlocks : meth.locks = false) (hA : ∀ q, s.heap.size ≤ q → A q) (hG : KG z s) (hZ : FZ z A s) (hL : Lay E) (h : Po_pointsOf_5b E M x1 x2 x4 = some (t, w2, w4, N)) (k0 : t = 0 → ∀ (H : Heap) (locs : List Loc) (ls : Array Slot), va_P z.1 classes (wv z ad E N) H → va_D A (wv z ad E N) → va_S A s.heap H locs → lv_has ls 5 [(0, .ref (ad 41)), (1, .int x1), (2, .long w2), (4, .int w4)] → W p l e (rmK 1 42 0 0) s m args below meth c H locs 0 0 Q (F0 m 5 ls [])) (k1 : t = 1 → ∀ (H : Heap) (locs : List Loc) (ls : Array Slot), va_P z.1 classes (wv z ad E N) H → va_D A (wv z ad E N) → va_S A s.heap H locs → lv_has ls 5 [(2, .long w2)] → W p l e (rmK 1 42 0 0) s m args below meth c H locs 0 0 Q (F0 m 65 ls [])) : ∀ (H : Heap) (locs : List Loc) (ls : Array Slot), va_P z.1 classes (wv z ad E M) H → va_D A (wv z ad E M) → va_S A s.heap H locs → lv_has ls 5 [(0, .ref (ad 41)), (1, .int x1), (2, .long x2), (4, .int x4)] → W p l e (rmK 1 42 0 0) s m args below meth c H locs 0 0 Q (F0 m 5 ls []) := by
  intro H locs ls hP hD hS hl
  unfold Po_pointsOf_5b at h
  refine lv_iload hx hb d_11_21_5 (lv_at hl 3 rfl) ?_
  refine lv_aload_n hx hb d_11_21_7 rfl (lv_at hl 0 rfl) ?_
  refine m_gr (j := 2) (C := "Ballothall$Poll") (T := TX9) (N := 12) (ci := 9) (k := 0) hx hb hts iX9 hown hG hP (yi_41 hL) (yt_41 hL) rfl (by decide) w_107 (fun _ h9 => h9) rfl rfl (yr_41_0 hL) d_11_21_8 ?_
  refine m_giN (C := "Ballothall$BallotBox") (T := TX0) (N := 10) (ci := 0) (k := 2) hx hb hts iX0 hown hG hP (yi_2 hL) (yt_2 hL) rfl (by decide) n_53 rfl (fun _ h9 => h9) rfl rfl d_11_21_11 ?_
  refine lv_icmp_ge (tgt := 65) hx hb d_11_21_14 (by decide) (fun c9 => ?_) (fun c9 => ?_)
  · have h := ite_t c9 h
    obtain ⟨rfl, rfl, rfl, rfl⟩ := in4 h
    exact k1 rfl H locs ls hP hD hS (lv_sub hl [2] rfl)
  · have h := ite_f c9 h
    refine lv_iload hx hb d_11_21_17 (lv_at hl 3 rfl) ?_
    refine lv_iload_n hx hb d_11_21_19 rfl (lv_at hl 1 rfl) ?_
    refine lv_icmp_eq (tgt := 59) hx hb d_11_21_20 (by decide) (fun c9 => ?_) (fun c9 => ?_)
    · have h := ite_t c9 h
      refine lv_iinc (v := (x4 + 1)) (lv' := [(4, .int (x4 + 1)), (0, .ref (ad 41)), (1, .int x1), (2, .long x2)]) hx hb d_11_21_59 hl (k := 3) rfl (congrArg (fun q => x4 + q) (show Int32.ofInt 1 = 1 by decide +kernel)) (by decide) rfl (fun ls hl => ?_)
      refine lv_goto (tgt := 5) hx hb d_11_21_62 (by decide) ?_
      obtain ⟨rfl, rfl, rfl, rfl⟩ := in4 h
      exact k0 rfl H locs ls hP hD hS (lv_sub hl [1, 2, 3, 0] rfl)
    · have h := ite_f c9 h
      refine lv_aload_n hx hb d_11_21_23 rfl (lv_at hl 0 rfl) ?_
      refine m_gi (C := "Ballothall$Poll") (T := TX9) (N := 12) (ci := 9) (k := 1) hx hb hts iX9 hown hG hP (yi_41 hL) (yt_41 hL) rfl (by decide) w_108 (fun _ h9 => h9) rfl rfl d_11_21_24 ?_
      refine lv_iload hx hb d_11_21_27 (lv_at hl 3 rfl) ?_
      obtain ⟨⟨r0, M0⟩, g0, h⟩ := bd_e h
      refine kSN (As := [.int (M.1 41 1), .int x4]) (rest := []) (s_B_has l z ad E M (M.1 41 1) x4 r0 M0 hL g0) hx hb hml hown hts w_693 n_691 w_692 w_1 md_26545c ⟨Nat.le_of_ble_eq_true rfl, Nat.le_of_ble_eq_true rfl⟩ hG hZ hP hD hS hA rfl hl.1 rfl (Nat.le_of_ble_eq_true rfl) d_11_21_29 ⟨Nat.le_of_ble_eq_true rfl, Nat.le_of_ble_eq_true rfl⟩ (fun _ H locs hP hD hS => ?_)
      have hP : va_P z.1 classes (wv z ad E M0) H := hP
      have hD : va_D A (wv z ad E M0) := hD
      refine W.eq (g2 := F0 m 32 ls [.int r0]) rfl ?_
      refine lv_if_eq (tgt := 59) hx hb d_11_21_32 (by decide) (fun c9 => ?_) (fun c9 => ?_)
      · have h := ite_t c9 h
        refine lv_iinc (v := (x4 + 1)) (lv' := [(4, .int (x4 + 1)), (0, .ref (ad 41)), (1, .int x1), (2, .long x2)]) hx hb d_11_21_59 hl (k := 3) rfl (congrArg (fun q => x4 + q) (show Int32.ofInt 1 = 1 by decide +kernel)) (by decide) rfl (fun ls hl => ?_)
        refine lv_goto (tgt := 5) hx hb d_11_21_62 (by decide) ?_
        obtain ⟨rfl, rfl, rfl, rfl⟩ := in4 h
        exact k0 rfl H locs ls hP hD hS (lv_sub hl [1, 2, 3, 0] rfl)
      · have h := ite_f c9 h
        refine lv_lload_n hx hb d_11_21_35 rfl (lv_at hl 2 rfl) ?_
        refine lv_aload_n hx hb d_11_21_36 rfl (lv_at hl 0 rfl) ?_
        refine m_gi (C := "Ballothall$Poll") (T := TX9) (N := 12) (ci := 9) (k := 2) hx hb hts iX9 hown hG hP (yi_41 hL) (yt_41 hL) rfl (by decide) w_109 (fun _ h9 => h9) rfl rfl d_11_21_37 ?_
        refine lv_aload_n hx hb d_11_21_40 rfl (lv_at hl 0 rfl) ?_
        refine lv_iload_n hx hb d_11_21_41 rfl (lv_at hl 1 rfl) ?_
        refine lv_iload hx hb d_11_21_42 (lv_at hl 3 rfl) ?_
        obtain ⟨⟨r1, M1⟩, g1, h⟩ := bd_e h
        refine kV (As := [.int x1, .int x4]) (rest := [.int (M0.1 41 2), .long x2]) (s_Po_pair l z ad E M0 x1 x4 r1 M1 hL g1) hx hb hml hown hts w_709 w_706 w_708 w_s_776300 w_3 md_5a94c2 ⟨Nat.le_of_ble_eq_true rfl, Nat.le_of_ble_eq_true rfl⟩ hG hZ hP hD hS hA 41 (wv_o (ci := 9) (yi_41 hL) (yt_41 hL)) rfl rfl rfl hl.1 rfl (Nat.le_of_ble_eq_true rfl) d_11_21_44 ⟨Nat.le_of_ble_eq_true rfl, Nat.le_of_ble_eq_true rfl⟩ (fun _ H locs hP hD hS => ?_)
        have hP : va_P z.1 classes (wv z ad E M1) H := hP
        have hD : va_D A (wv z ad E M1) := hD
        refine W.eq (g2 := F0 m 47 ls [.int r1, .int (M0.1 41 2), .long x2]) rfl ?_
        refine lv_iadd hx hb d_11_21_47 ?_
        refine lv_aload_n hx hb d_11_21_48 rfl (lv_at hl 0 rfl) ?_
        refine lv_iload hx hb d_11_21_49 (lv_at hl 3 rfl) ?_
        refine lv_iload_n hx hb d_11_21_51 rfl (lv_at hl 1 rfl) ?_
        obtain ⟨⟨r2, M2⟩, g2, h⟩ := bd_e h
        refine kV (As := [.int x4, .int x1]) (rest := [.int ((M0.1 41 2) + r1), .long x2]) (s_Po_pair l z ad E M1 x4 x1 r2 M2 hL g2) hx hb hml hown hts w_709 w_706 w_708 w_s_776300 w_3 md_5a94c2 ⟨Nat.le_of_ble_eq_true rfl, Nat.le_of_ble_eq_true rfl⟩ hG hZ hP hD hS hA 41 (wv_o (ci := 9) (yi_41 hL) (yt_41 hL)) rfl rfl rfl hl.1 rfl (Nat.le_of_ble_eq_true rfl) d_11_21_52 ⟨Nat.le_of_ble_eq_true rfl, Nat.le_of_ble_eq_true rfl⟩ (fun _ H locs hP hD hS => ?_)
        have hP : va_P z.1 classes (wv z ad E M2) H := hP
        have hD : va_D A (wv z ad E M2) := hD
        refine W.eq (g2 := F0 m 55 ls [.int r2, .int ((M0.1 41 2) + r1), .long x2]) rfl ?_
        refine lv_isub hx hb d_11_21_55 ?_
        refine lv_i2l (v := (((M0.1 41 2) + r1) - r2).toInt64) hx hb d_11_21_56 rfl ?_
        refine lv_ladd hx hb d_11_21_57 ?_
        obtain ⟨v3, e3, h⟩ := nb_e h
        refine nrmL e3.symm ?_
        refine lv_lstore_n (lv' := [(2, .long v3), (0, .ref (ad 41)), (1, .int x1), (4, .int x4)]) hx hb d_11_21_58 rfl hl (by decide) rfl (fun ls hl => ?_)
        refine lv_iinc (v := (x4 + 1)) (lv' := [(4, .int (x4 + 1)), (2, .long v3), (0, .ref (ad 41)), (1, .int x1)]) hx hb d_11_21_59 hl (k := 3) rfl (congrArg (fun q => x4 + q) (show Int32.ofInt 1 = 1 by decide +kernel)) (by decide) rfl (fun ls hl => ?_)
        refine lv_goto (tgt := 5) hx hb d_11_21_62 (by decide) ?_
        obtain ⟨rfl, rfl, rfl, rfl⟩ := in4 h
        exact k0 rfl H locs ls hP hD hS (lv_sub hl [2, 3, 1, 0] rfl)
set_option maxRecDepth 100000 in
set_option maxHeartbeats 4000000 in
theorem s_Po_pointsOf_5 (l : Launch) (z : Zz) (ad : Nat → Nat) (E : Ev) (x1 : Int32) {Q : State → Prop} {p : Program} {e : Env} {s : State} {m : MethodId} {below : List Frame} {meth : Method} {c : Code} {A : Nat → Prop} {args : Array Value} (hx : p.tables.exec = Jvm.exec) (hb : c.code = prog_11_method_21_code) (hml : c.maxLocals = 5) (hts : ∀ w ∈ WG, w.before args s = true) (hown : s.vm.findClass "Ballothall$Poll" = some m.cls) (hlocks : meth.locks = false) (hA : ∀ q, s.heap.size ≤ q → A q) (hG : KG z s) (hZ : FZ z A s) (hL : Lay E) : ∀ (fu : Nat) (M : Mm) (x2 : Int64) (x4 : Int32) (t : Nat) (w2 : Int64) (w4 : Int32) (N : Mm), l_Po_pointsOf_5 E x1 fu M x2 x4 = some (t, w2, w4, N) → (t = 1 → ∀ (H : Heap) (locs : List Loc) (ls : Array Slot), va_P z.1 classes (wv z ad E N) H → va_D A (wv z ad E N) → va_S A s.heap H locs → lv_has ls 5 [(2, .long w2)] → W p l e (rmK 1 42 0 0) s m args below meth c H locs 0 0 Q (F0 m 65 ls [])) → ∀ (H : Heap) (locs : List Loc) (ls : Array Slot), va_P z.1 classes (wv z ad E M) H → va_D A (wv z ad E M) → va_S A s.heap H locs → lv_has ls 5 [(0, .ref (ad 41)), (1, .int x1), (2, .long x2), (4, .int x4)] → W p l e (rmK 1 42 0 0) s m args below meth c H locs 0 0 Q (F0 m 5 ls []) := by
  intro fu
  induction fu with
  | zero =>
    intro M x2 x4 t w2 w4 N h
    have h : (none : Option (Nat × Int64 × Int32 × Mm)) = some _ := h
    cases h
  | succ fu ih =>
    intro M x2 x4 t w2 w4 N h k1 H locs ls hP hD hS hl
    obtain ⟨⟨t0, w20, w40, N0⟩, g0, h⟩ := bd_e h
    refine b_Po_pointsOf_5b l z ad E M x1 x2 x4 t0 w20 w40 N0 hx hb hml hts hown hlocks hA hG hZ hL g0 (fun e0 => ?_) (fun e0 => ?_) H locs ls hP hD hS hl
    · subst e0
      have h := ite_t rfl h
      exact ih N0 w20 w40 t w2 w4 N h k1
    · subst e0
      have h := ite_f (by decide) h
      obtain ⟨rfl, rfl, rfl, rfl⟩ := in4 h
      exact k1 rfl
set_option maxRecDepth 100000 in
set_option maxHeartbeats 4000000 in
theorem s_Po_pointsOf (l : Launch) (z : Zz) (ad : Nat → Nat) (E : Ev) (M : Mm) (x1 : Int32) (r : Int64) (N : Mm) (hL : Lay E) (h : f_Po_pointsOf E M x1 = some (r, N)) : CT l z ⟨"Ballothall$Poll", "pointsOf", "(I)J"⟩ prog_11_method_21_code 5 (some .long) [.ref (ad 41), .int x1] (wv z ad E M) 1 42 0 0 (fun _ => some (.long r)) (fun _ => wv z ad E N) := by
  refine CT.of (own := "Ballothall$Poll") (by decide +kernel) (Nat.le_of_ble_eq_true rfl) rfl (fun p e s m below meth c A ls hx hb hml hr hts hown hlocks hin hA hG hZ hP hD hS hl => ?_)
  have hl : lv_has ls 5 [(0, .ref (ad 41)), (1, .int x1)] := hl
  have key : ∀ (H : Heap) (locs : List Loc) (args : Array Value), (∀ w ∈ WG, w.before args s = true) → va_P z.1 classes (wv z ad E M) H → va_S A s.heap H locs → W p l e (rmK 1 42 0 0) s m args below meth c H locs 0 0 (MQ below (QK z A (fun _ => some (.long r)) (fun _ => wv z ad E N)) args s 0 0 A) (F0 m 0 ls []) := by
    intro H locs args hts hP hS
    unfold f_Po_pointsOf at h
    refine lv_lconst (v := 0) hx hb d_11_21_0 (by decide +kernel) ?_
    refine lv_lstore_n (lv' := [(2, .long 0), (0, .ref (ad 41)), (1, .int x1)]) hx hb d_11_21_1 rfl hl (by decide) rfl (fun ls hl => ?_)
    refine lv_iconst (v := 0) hx hb d_11_21_2 (by decide +kernel) ?_
    refine lv_istore (lv' := [(4, .int 0), (2, .long 0), (0, .ref (ad 41)), (1, .int x1)]) hx hb d_11_21_3 hl (by decide) rfl (fun ls hl => ?_)
    obtain ⟨⟨t4, v4_2, v4_4, M4⟩, g4, h⟩ := bd_e h
    obtain ⟨ok4, h⟩ := ck_e h
    refine s_Po_pointsOf_5 l z ad E x1 hx hb hml hts hown hlocks hA hG hZ hL FU M 0 0 t4 v4_2 v4_4 M4 g4 (fun e4 H locs ls hP hD hS hl => ?_) H locs ls hP hD hS (lv_sub hl [2, 3, 1, 0] rfl)
    refine lv_lload_n hx hb d_11_21_65 rfl (lv_at hl 0 rfl) ?_
    obtain ⟨rfl, rfl⟩ := in2 h
    exact W.lret hx hb hr (fun t ht hW => qkA hP hD hS (fun k => k) rfl rfl ht) hS.2.2 d_11_21_66
  exact key _ _ _ hts hP hS
set_option maxRecDepth 100000 in
set_option maxHeartbeats 4000000 in
theorem b_Po_findScores_j59 (l : Launch) (z : Zz) (ad : Nat → Nat) (E : Ev) (M : Mm) (x1 : Int32) (x2 : Int32) (y0 : Int64) (y1 : Int32) (y2 : Nat) (t : Nat) (w2 : Int32) (N : Mm) {Q : State → Prop} {p : Program} {e : Env} {s : State} {m : MethodId} {below : List Frame} {meth : Method} {c : Code} {A : Nat → Prop} {args : Array Value} (hx : p.tables.exec = Jvm.exec) (hb : c.code = prog_11_method_20_code) (hml : c.maxLocals = 3) (hts : ∀ w ∈ WG, w.before args s = true) (hown : s.vm.findClass "Ballothall$Poll" = some m.cls) (hlocks : meth.locks = false) (hA : ∀ q, s.heap.size ≤ q → A q) (hG : KG z s) (hZ : FZ z A s) (hL : Lay E) (h : Po_findScores_j59 E M x1 x2 y0 y1 y2 = some (t, w2, N)) (k0 : t = 0 → ∀ (H : Heap) (locs : List Loc) (ls : Array Slot), va_P z.1 classes (wv z ad E N) H → va_D A (wv z ad E N) → va_S A s.heap H locs → lv_has ls 3 [(0, .ref (ad 41)), (1, .int x1), (2, .int w2)] → W p l e (rmK 2 66 0 0) s m args below meth c H locs 0 0 Q (F0 m 2 ls [])) (k1 : t = 1 → ∀ (H : Heap) (locs : List Loc) (ls : Array Slot), va_P z.1 classes (wv z ad E N) H → va_D A (wv z ad E N) → va_S A s.heap H locs → lv_has ls 3 [] → W p l e (rmK 2 66 0 0) s m args below meth c H locs 0 0 Q (F0 m 66 ls [])) : ∀ (H : Heap) (locs : List Loc) (ls : Array Slot), va_P z.1 classes (wv z ad E M) H → va_D A (wv z ad E M) → va_S A s.heap H locs → lv_has ls 3 [(0, .ref (ad 41)), (1, .int x1), (2, .int x2)] → W p l e (rmK 2 66 0 0) s m args below meth c H locs 0 0 Q (F0 m 59 ls [.long y0, .int y1, .ref (ad y2)]) := by
  intro H locs ls hP hD hS hl
  unfold Po_findScores_j59 at h
  obtain ⟨h_y2, h⟩ := ck_e h
  obtain ⟨ok1, h⟩ := ck_e h
  refine m_ls hx hb hG hP hD hS h_y2.1 (isLA_T h_y2) ok1 d_11_20_59 (fun H locs hP hD hS => ?_)
  have hP : va_P z.1 classes (wv z ad E (uL M y2 y1.toNatClampNeg y0)) H := hP
  have hD : va_D A (wv z ad E (uL M y2 y1.toNatClampNeg y0)) := hD
  refine lv_iinc (v := (x2 + 1)) (lv' := [(2, .int (x2 + 1)), (0, .ref (ad 41)), (1, .int x1)]) hx hb d_11_20_60 hl (k := 2) rfl (congrArg (fun q => x2 + q) (show Int32.ofInt 1 = 1 by decide +kernel)) (by decide) rfl (fun ls hl => ?_)
  refine lv_goto (tgt := 2) hx hb d_11_20_63 (by decide) ?_
  obtain ⟨rfl, rfl, rfl⟩ := in3 h
  exact k0 rfl H locs ls hP hD hS (lv_sub hl [1, 2, 0] rfl)
set_option maxRecDepth 100000 in
set_option maxHeartbeats 4000000 in
theorem b_Po_findScores_2b (l : Launch) (z : Zz) (ad : Nat → Nat) (E : Ev) (M : Mm) (x1 : Int32) (x2 : Int32) (t : Nat) (w2 : Int32) (N : Mm) {Q : State → Prop} {p : Program} {e : Env} {s : State} {m : MethodId} {below : List Frame} {meth : Method} {c : Code} {A : Nat → Prop} {args : Array Value} (hx : p.tables.exec = Jvm.exec) (hb : c.code = prog_11_method_20_code) (hml : c.maxLocals = 3) (hts : ∀ w ∈ WG, w.before args s = true) (hown : s.vm.findClass "Ballothall$Poll" = some m.cls) (hlocks : meth.locks = false) (hA : ∀ q, s.heap.size ≤ q → A q) (hG : KG z s) (hZ : FZ z A s) (hL : Lay E) (h : Po_findScores_2b E M x1 x2 = some (t, w2, N)) (k0 : t = 0 → ∀ (H : Heap) (locs : List Loc) (ls : Array Slot), va_P z.1 classes (wv z ad E N) H → va_D A (wv z ad E N) → va_S A s.heap H locs → lv_has ls 3 [(0, .ref (ad 41)), (1, .int x1), (2, .int w2)] → W p l e (rmK 2 66 0 0) s m args below meth c H locs 0 0 Q (F0 m 2 ls [])) (k1 : t = 1 → ∀ (H : Heap) (locs : List Loc) (ls : Array Slot), va_P z.1 classes (wv z ad E N) H → va_D A (wv z ad E N) → va_S A s.heap H locs → lv_has ls 3 [] → W p l e (rmK 2 66 0 0) s m args below meth c H locs 0 0 Q (F0 m 66 ls [])) : ∀ (H : Heap) (locs : List Loc) (ls : Array Slot), va_P z.1 classes (wv z ad E M) H → va_D A (wv z ad E M) → va_S A s.heap H locs → lv_has ls 3 [(0, .ref (ad 41)), (1, .int x1), (2, .int x2)] → W p l e (rmK 2 66 0 0) s m args below meth c H locs 0 0 Q (F0 m 2 ls []) := by
  intro H locs ls hP hD hS hl
  unfold Po_findScores_2b at h
  refine lv_iload_n hx hb d_11_20_2 rfl (lv_at hl 2 rfl) ?_
  refine lv_aload_n hx hb d_11_20_3 rfl (lv_at hl 0 rfl) ?_
  refine m_gr (j := 2) (C := "Ballothall$Poll") (T := TX9) (N := 12) (ci := 9) (k := 0) hx hb hts iX9 hown hG hP (yi_41 hL) (yt_41 hL) rfl (by decide) w_107 (fun _ h9 => h9) rfl rfl (yr_41_0 hL) d_11_20_4 ?_
  refine m_giN (C := "Ballothall$BallotBox") (T := TX0) (N := 10) (ci := 0) (k := 2) hx hb hts iX0 hown hG hP (yi_2 hL) (yt_2 hL) rfl (by decide) n_53 rfl (fun _ h9 => h9) rfl rfl d_11_20_7 ?_
  refine lv_icmp_ge (tgt := 66) hx hb d_11_20_10 (by decide) (fun c9 => ?_) (fun c9 => ?_)
  · have h := ite_t c9 h
    obtain ⟨rfl, rfl, rfl⟩ := in3 h
    exact k1 rfl H locs ls hP hD hS (lv_sub hl [] rfl)
  · have h := ite_f c9 h
    refine lv_iload_n hx hb d_11_20_13 rfl (lv_at hl 1 rfl) ?_
    refine lv_iconst (v := 3) hx hb d_11_20_14 (by decide +kernel) ?_
    refine lv_icmp_ne (tgt := 32) hx hb d_11_20_15 (by decide) (fun c9 => ?_) (fun c9 => ?_)
    · have h := ite_f c9 h
      refine lv_aload_n hx hb d_11_20_32 rfl (lv_at hl 0 rfl) ?_
      refine m_gr (j := 48) (C := "Ballothall$Poll") (T := TX9) (N := 12) (ci := 9) (k := 9) hx hb hts iX9 hown hG hP (yi_41 hL) (yt_41 hL) rfl (by decide) w_116 (fun _ h9 => h9) rfl rfl (yr_41_9 hL) d_11_20_33 ?_
      refine lv_iload_n hx hb d_11_20_36 rfl (lv_at hl 2 rfl) ?_
      refine lv_iload_n hx hb d_11_20_37 rfl (lv_at hl 1 rfl) ?_
      refine lv_iconst (v := 4) hx hb d_11_20_38 (by decide +kernel) ?_
      refine lv_icmp_ne (tgt := 52) hx hb d_11_20_39 (by decide) (fun c9 => ?_) (fun c9 => ?_)
      · have h := ite_f c9 h
        refine lv_aload_n hx hb d_11_20_52 rfl (lv_at hl 0 rfl) ?_
        refine m_gr (j := 43) (C := "Ballothall$Poll") (T := TX9) (N := 12) (ci := 9) (k := 4) hx hb hts iX9 hown hG hP (yi_41 hL) (yt_41 hL) rfl (by decide) w_111 (fun _ h9 => h9) rfl rfl (yr_41_4 hL) d_11_20_53 ?_
        refine lv_iload_n hx hb d_11_20_56 rfl (lv_at hl 2 rfl) ?_
        obtain ⟨ok0, h⟩ := ck_e h
        refine m_ia hx hb hG hP (yi_43 hL) (yt_43 hL) ok0 d_11_20_57 ?_
        refine lv_i2l (v := (M.1 43 x2.toNatClampNeg).toInt64) hx hb d_11_20_58 rfl ?_
        exact b_Po_findScores_j59 l z ad E M x1 x2 (M.1 43 x2.toNatClampNeg).toInt64 x2 48 t w2 N hx hb hml hts hown hlocks hA hG hZ hL h k0 k1 H locs ls hP hD hS (lv_sub hl [0, 1, 2] rfl)
      · have h := ite_t c9 h
        refine lv_aload_n hx hb d_11_20_42 rfl (lv_at hl 0 rfl) ?_
        refine m_gr (j := 44) (C := "Ballothall$Poll") (T := TX9) (N := 12) (ci := 9) (k := 5) hx hb hts iX9 hown hG hP (yi_41 hL) (yt_41 hL) rfl (by decide) w_112 (fun _ h9 => h9) rfl rfl (yr_41_5 hL) d_11_20_43 ?_
        refine lv_iload_n hx hb d_11_20_46 rfl (lv_at hl 2 rfl) ?_
        obtain ⟨ok2, h⟩ := ck_e h
        refine m_ia hx hb hG hP (yi_44 hL) (yt_44 hL) ok2 d_11_20_47 ?_
        refine lv_i2l (v := (M.1 44 x2.toNatClampNeg).toInt64) hx hb d_11_20_48 rfl ?_
        refine lv_goto (tgt := 59) hx hb d_11_20_49 (by decide) ?_
        exact b_Po_findScores_j59 l z ad E M x1 x2 (M.1 44 x2.toNatClampNeg).toInt64 x2 48 t w2 N hx hb hml hts hown hlocks hA hG hZ hL h k0 k1 H locs ls hP hD hS (lv_sub hl [0, 1, 2] rfl)
    · have h := ite_t c9 h
      refine lv_aload_n hx hb d_11_20_18 rfl (lv_at hl 0 rfl) ?_
      refine m_gr (j := 48) (C := "Ballothall$Poll") (T := TX9) (N := 12) (ci := 9) (k := 9) hx hb hts iX9 hown hG hP (yi_41 hL) (yt_41 hL) rfl (by decide) w_116 (fun _ h9 => h9) rfl rfl (yr_41_9 hL) d_11_20_19 ?_
      refine lv_iload_n hx hb d_11_20_22 rfl (lv_at hl 2 rfl) ?_
      refine lv_aload_n hx hb d_11_20_23 rfl (lv_at hl 0 rfl) ?_
      refine lv_iload_n hx hb d_11_20_24 rfl (lv_at hl 2 rfl) ?_
      obtain ⟨⟨r3, M3⟩, g3, h⟩ := bd_e h
      refine kV (As := [.int x2]) (rest := [.int x2, .ref (ad 48)]) (s_Po_pointsOf l z ad E M x2 r3 M3 hL g3) hx hb hml hown hts w_1403 w_1400 w_1402 w_s_1dc2e3 w_3 md_de5466 ⟨Nat.le_of_ble_eq_true rfl, Nat.le_of_ble_eq_true rfl⟩ hG hZ hP hD hS hA 41 (wv_o (ci := 9) (yi_41 hL) (yt_41 hL)) rfl rfl rfl hl.1 rfl (Nat.le_of_ble_eq_true rfl) d_11_20_25 ⟨Nat.le_of_ble_eq_true rfl, Nat.le_of_ble_eq_true rfl⟩ (fun _ H locs hP hD hS => ?_)
      have hP : va_P z.1 classes (wv z ad E M3) H := hP
      have hD : va_D A (wv z ad E M3) := hD
      refine W.eq (g2 := F0 m 28 ls [.long r3, .int x2, .ref (ad 48)]) rfl ?_
      obtain ⟨ok4, h⟩ := ck_e h
      refine m_ls hx hb hG hP hD hS (yi_48 hL) (yt_48 hL) ok4 d_11_20_28 (fun H locs hP hD hS => ?_)
      have hP : va_P z.1 classes (wv z ad E (uL M3 48 x2.toNatClampNeg r3)) H := hP
      have hD : va_D A (wv z ad E (uL M3 48 x2.toNatClampNeg r3)) := hD
      refine lv_goto (tgt := 60) hx hb d_11_20_29 (by decide) ?_
      refine lv_iinc (v := (x2 + 1)) (lv' := [(2, .int (x2 + 1)), (0, .ref (ad 41)), (1, .int x1)]) hx hb d_11_20_60 hl (k := 2) rfl (congrArg (fun q => x2 + q) (show Int32.ofInt 1 = 1 by decide +kernel)) (by decide) rfl (fun ls hl => ?_)
      refine lv_goto (tgt := 2) hx hb d_11_20_63 (by decide) ?_
      obtain ⟨rfl, rfl, rfl⟩ := in3 h
      exact k0 rfl H locs ls hP hD hS (lv_sub hl [1, 2, 0] rfl)
set_option maxRecDepth 100000 in
set_option maxHeartbeats 4000000 in
theorem s_Po_findScores_2 (l : Launch) (z : Zz) (ad : Nat → Nat) (E : Ev) (x1 : Int32) {Q : State → Prop} {p : Program} {e : Env} {s : State} {m : MethodId} {below : List Frame} {meth : Method} {c : Code} {A : Nat → Prop} {args : Array Value} (hx : p.tables.exec = Jvm.exec) (hb : c.code = prog_11_method_20_code) (hml : c.maxLocals = 3) (hts : ∀ w ∈ WG, w.before args s = true) (hown : s.vm.findClass "Ballothall$Poll" = some m.cls) (hlocks : meth.locks = false) (hA : ∀ q, s.heap.size ≤ q → A q) (hG : KG z s) (hZ : FZ z A s) (hL : Lay E) : ∀ (fu : Nat) (M : Mm) (x2 : Int32) (t : Nat) (w2 : Int32) (N : Mm), l_Po_findScores_2 E x1 fu M x2 = some (t, w2, N) → (t = 1 → ∀ (H : Heap) (locs : List Loc) (ls : Array Slot), va_P z.1 classes (wv z ad E N) H → va_D A (wv z ad E N) → va_S A s.heap H locs → lv_has ls 3 [] → W p l e (rmK 2 66 0 0) s m args below meth c H locs 0 0 Q (F0 m 66 ls [])) → ∀ (H : Heap) (locs : List Loc) (ls : Array Slot), va_P z.1 classes (wv z ad E M) H → va_D A (wv z ad E M) → va_S A s.heap H locs → lv_has ls 3 [(0, .ref (ad 41)), (1, .int x1), (2, .int x2)] → W p l e (rmK 2 66 0 0) s m args below meth c H locs 0 0 Q (F0 m 2 ls []) := by
  intro fu
  induction fu with
  | zero =>
    intro M x2 t w2 N h
    have h : (none : Option (Nat × Int32 × Mm)) = some _ := h
    cases h
  | succ fu ih =>
    intro M x2 t w2 N h k1 H locs ls hP hD hS hl
    obtain ⟨⟨t0, w20, N0⟩, g0, h⟩ := bd_e h
    refine b_Po_findScores_2b l z ad E M x1 x2 t0 w20 N0 hx hb hml hts hown hlocks hA hG hZ hL g0 (fun e0 => ?_) (fun e0 => ?_) H locs ls hP hD hS hl
    · subst e0
      have h := ite_t rfl h
      exact ih N0 w20 t w2 N h k1
    · subst e0
      have h := ite_f (by decide) h
      obtain ⟨rfl, rfl, rfl⟩ := in3 h
      exact k1 rfl
set_option maxRecDepth 100000 in
set_option maxHeartbeats 4000000 in
theorem s_Po_findScores (l : Launch) (z : Zz) (ad : Nat → Nat) (E : Ev) (M : Mm) (x1 : Int32) (N : Mm) (hL : Lay E) (h : f_Po_findScores E M x1 = some N) : CT l z ⟨"Ballothall$Poll", "findScores", "(I)V"⟩ prog_11_method_20_code 3 none [.ref (ad 41), .int x1] (wv z ad E M) 2 66 0 0 (fun _ => none) (fun _ => wv z ad E N) := by
  refine CT.of (own := "Ballothall$Poll") (by decide +kernel) (Nat.le_of_ble_eq_true rfl) rfl (fun p e s m below meth c A ls hx hb hml hr hts hown hlocks hin hA hG hZ hP hD hS hl => ?_)
  have hl : lv_has ls 3 [(0, .ref (ad 41)), (1, .int x1)] := hl
  have key : ∀ (H : Heap) (locs : List Loc) (args : Array Value), (∀ w ∈ WG, w.before args s = true) → va_P z.1 classes (wv z ad E M) H → va_S A s.heap H locs → W p l e (rmK 2 66 0 0) s m args below meth c H locs 0 0 (MQ below (QK z A (fun _ => none) (fun _ => wv z ad E N)) args s 0 0 A) (F0 m 0 ls []) := by
    intro H locs args hts hP hS
    unfold f_Po_findScores at h
    refine lv_iconst (v := 0) hx hb d_11_20_0 (by decide +kernel) ?_
    refine lv_istore_n (lv' := [(2, .int 0), (0, .ref (ad 41)), (1, .int x1)]) hx hb d_11_20_1 rfl hl (by decide) rfl (fun ls hl => ?_)
    obtain ⟨⟨t5, v5_2, M5⟩, g5, h⟩ := bd_e h
    obtain ⟨ok5, h⟩ := ck_e h
    refine s_Po_findScores_2 l z ad E x1 hx hb hml hts hown hlocks hA hG hZ hL FU M 0 t5 v5_2 M5 g5 (fun e5 H locs ls hP hD hS hl => ?_) H locs ls hP hD hS (lv_sub hl [1, 2, 0] rfl)
    obtain rfl := in1 h
    exact W.vret hx hb hr (fun t ht hW => qkA hP hD hS (fun k => k) rfl rfl ht) hS.2.2 d_11_20_66
  exact key _ _ _ hts hP hS
set_option maxRecDepth 100000 in
set_option maxHeartbeats 4000000 in
theorem b_Po_greatestOf_4b (l : Launch) (z : Zz) (ad : Nat → Nat) (E : Ev) (M : Mm) (x1 : Int32) (x2 : Int32) (x3 : Int32) (t : Nat) (w2 : Int32) (w3 : Int32) (N : Mm) {Q : State → Prop} {p : Program} {e : Env} {s : State} {m : MethodId} {below : List Frame} {meth : Method} {c : Code} {A : Nat → Prop} {args : Array Value} (hx : p.tables.exec = Jvm.exec) (hb : c.code = prog_11_method_23_code) (hml : c.maxLocals = 4) (hts : ∀ w ∈ WG, w.before args s = true) (hown : s.vm.findClass "Ballothall$Poll" = some m.cls) (hlocks : meth.locks = false) (hA : ∀ q, s.heap.size ≤ q → A q) (hG : KG z s) (hZ : FZ z A s) (hL : Lay E) (h : Po_greatestOf_4b E M x1 x2 x3 = some (t, w2, w3, N)) (k0 : t = 0 → ∀ (H : Heap) (locs : List Loc) (ls : Array Slot), va_P z.1 classes (wv z ad E N) H → va_D A (wv z ad E N) → va_S A s.heap H locs → lv_has ls 4 [(0, .ref (ad 41)), (1, .int x1), (2, .int w2), (3, .int w3)] → W p l e (rmK 1 42 0 0) s m args below meth c H locs 0 0 Q (F0 m 4 ls [])) (k1 : t = 1 → ∀ (H : Heap) (locs : List Loc) (ls : Array Slot), va_P z.1 classes (wv z ad E N) H → va_D A (wv z ad E N) → va_S A s.heap H locs → lv_has ls 4 [(2, .int w2)] → W p l e (rmK 1 42 0 0) s m args below meth c H locs 0 0 Q (F0 m 80 ls [])) : ∀ (H : Heap) (locs : List Loc) (ls : Array Slot), va_P z.1 classes (wv z ad E M) H → va_D A (wv z ad E M) → va_S A s.heap H locs → lv_has ls 4 [(0, .ref (ad 41)), (1, .int x1), (2, .int x2), (3, .int x3)] → W p l e (rmK 1 42 0 0) s m args below meth c H locs 0 0 Q (F0 m 4 ls []) := by
  intro H locs ls hP hD hS hl
  unfold Po_greatestOf_4b at h
  refine lv_iload_n hx hb d_11_23_4 rfl (lv_at hl 3 rfl) ?_
  refine lv_aload_n hx hb d_11_23_5 rfl (lv_at hl 0 rfl) ?_
  refine m_gr (j := 2) (C := "Ballothall$Poll") (T := TX9) (N := 12) (ci := 9) (k := 0) hx hb hts iX9 hown hG hP (yi_41 hL) (yt_41 hL) rfl (by decide) w_107 (fun _ h9 => h9) rfl rfl (yr_41_0 hL) d_11_23_6 ?_
  refine m_giN (C := "Ballothall$BallotBox") (T := TX0) (N := 10) (ci := 0) (k := 2) hx hb hts iX0 hown hG hP (yi_2 hL) (yt_2 hL) rfl (by decide) n_53 rfl (fun _ h9 => h9) rfl rfl d_11_23_9 ?_
  refine lv_icmp_ge (tgt := 80) hx hb d_11_23_12 (by decide) (fun c9 => ?_) (fun c9 => ?_)
  · have h := ite_t c9 h
    obtain ⟨rfl, rfl, rfl, rfl⟩ := in4 h
    exact k1 rfl H locs ls hP hD hS (lv_sub hl [2] rfl)
  · have h := ite_f c9 h
    refine lv_iload_n hx hb d_11_23_15 rfl (lv_at hl 1 rfl) ?_
    refine lv_iload_n hx hb d_11_23_16 rfl (lv_at hl 3 rfl) ?_
    obtain ⟨⟨r0, M0⟩, g0, h⟩ := bd_e h
    refine kSN (As := [.int x1, .int x3]) (rest := []) (s_B_has l z ad E M x1 x3 r0 M0 hL g0) hx hb hml hown hts w_693 n_691 w_692 w_1 md_26545c ⟨Nat.le_of_ble_eq_true rfl, Nat.le_of_ble_eq_true rfl⟩ hG hZ hP hD hS hA rfl hl.1 rfl (Nat.le_of_ble_eq_true rfl) d_11_23_17 ⟨Nat.le_of_ble_eq_true rfl, Nat.le_of_ble_eq_true rfl⟩ (fun _ H locs hP hD hS => ?_)
    have hP : va_P z.1 classes (wv z ad E M0) H := hP
    have hD : va_D A (wv z ad E M0) := hD
    refine W.eq (g2 := F0 m 20 ls [.int r0]) rfl ?_
    refine lv_if_eq (tgt := 74) hx hb d_11_23_20 (by decide) (fun c9 => ?_) (fun c9 => ?_)
    · have h := ite_t c9 h
      refine lv_iinc (v := (x3 + 1)) (lv' := [(3, .int (x3 + 1)), (0, .ref (ad 41)), (1, .int x1), (2, .int x2)]) hx hb d_11_23_74 hl (k := 3) rfl (congrArg (fun q => x3 + q) (show Int32.ofInt 1 = 1 by decide +kernel)) (by decide) rfl (fun ls hl => ?_)
      refine lv_goto (tgt := 4) hx hb d_11_23_77 (by decide) ?_
      obtain ⟨rfl, rfl, rfl, rfl⟩ := in4 h
      exact k0 rfl H locs ls hP hD hS (lv_sub hl [1, 2, 3, 0] rfl)
    · have h := ite_f c9 h
      refine lv_iload_n hx hb d_11_23_23 rfl (lv_at hl 2 rfl) ?_
      refine lv_iconst (v := (-1)) hx hb d_11_23_24 (by decide +kernel) ?_
      refine lv_icmp_eq (tgt := 72) hx hb d_11_23_25 (by decide) (fun c9 => ?_) (fun c9 => ?_)
      · have h := ite_t c9 h
        refine lv_iload_n hx hb d_11_23_72 rfl (lv_at hl 3 rfl) ?_
        refine lv_istore_n (lv' := [(2, .int x3), (0, .ref (ad 41)), (1, .int x1), (3, .int x3)]) hx hb d_11_23_73 rfl hl (by decide) rfl (fun ls hl => ?_)
        refine lv_iinc (v := (x3 + 1)) (lv' := [(3, .int (x3 + 1)), (2, .int x3), (0, .ref (ad 41)), (1, .int x1)]) hx hb d_11_23_74 hl (k := 3) rfl (congrArg (fun q => x3 + q) (show Int32.ofInt 1 = 1 by decide +kernel)) (by decide) rfl (fun ls hl => ?_)
        refine lv_goto (tgt := 4) hx hb d_11_23_77 (by decide) ?_
        obtain ⟨rfl, rfl, rfl, rfl⟩ := in4 h
        exact k0 rfl H locs ls hP hD hS (lv_sub hl [2, 3, 1, 0] rfl)
      · have h := ite_f c9 h
        refine lv_aload_n hx hb d_11_23_28 rfl (lv_at hl 0 rfl) ?_
        refine m_gr (j := 48) (C := "Ballothall$Poll") (T := TX9) (N := 12) (ci := 9) (k := 9) hx hb hts iX9 hown hG hP (yi_41 hL) (yt_41 hL) rfl (by decide) w_116 (fun _ h9 => h9) rfl rfl (yr_41_9 hL) d_11_23_29 ?_
        refine lv_iload_n hx hb d_11_23_32 rfl (lv_at hl 3 rfl) ?_
        obtain ⟨ok1, h⟩ := ck_e h
        refine m_la hx hb hG hP (yi_48 hL) (yt_48 hL) ok1 d_11_23_33 ?_
        refine lv_aload_n hx hb d_11_23_34 rfl (lv_at hl 0 rfl) ?_
        refine m_gr (j := 48) (C := "Ballothall$Poll") (T := TX9) (N := 12) (ci := 9) (k := 9) hx hb hts iX9 hown hG hP (yi_41 hL) (yt_41 hL) rfl (by decide) w_116 (fun _ h9 => h9) rfl rfl (yr_41_9 hL) d_11_23_35 ?_
        refine lv_iload_n hx hb d_11_23_38 rfl (lv_at hl 2 rfl) ?_
        obtain ⟨ok2, h⟩ := ck_e h
        refine m_la hx hb hG hP (yi_48 hL) (yt_48 hL) ok2 d_11_23_39 ?_
        refine W.lcmp hx hb d_11_23_40 ?_
        refine lv_if_gt (tgt := 72) hx hb d_11_23_41 (by decide) (fun c9 => ?_) (fun c9 => ?_)
        · have h := ite_t c9 h
          refine lv_iload_n hx hb d_11_23_72 rfl (lv_at hl 3 rfl) ?_
          refine lv_istore_n (lv' := [(2, .int x3), (0, .ref (ad 41)), (1, .int x1), (3, .int x3)]) hx hb d_11_23_73 rfl hl (by decide) rfl (fun ls hl => ?_)
          refine lv_iinc (v := (x3 + 1)) (lv' := [(3, .int (x3 + 1)), (2, .int x3), (0, .ref (ad 41)), (1, .int x1)]) hx hb d_11_23_74 hl (k := 3) rfl (congrArg (fun q => x3 + q) (show Int32.ofInt 1 = 1 by decide +kernel)) (by decide) rfl (fun ls hl => ?_)
          refine lv_goto (tgt := 4) hx hb d_11_23_77 (by decide) ?_
          obtain ⟨rfl, rfl, rfl, rfl⟩ := in4 h
          exact k0 rfl H locs ls hP hD hS (lv_sub hl [2, 3, 1, 0] rfl)
        · have h := ite_f c9 h
          refine lv_aload_n hx hb d_11_23_44 rfl (lv_at hl 0 rfl) ?_
          refine m_gr (j := 48) (C := "Ballothall$Poll") (T := TX9) (N := 12) (ci := 9) (k := 9) hx hb hts iX9 hown hG hP (yi_41 hL) (yt_41 hL) rfl (by decide) w_116 (fun _ h9 => h9) rfl rfl (yr_41_9 hL) d_11_23_45 ?_
          refine lv_iload_n hx hb d_11_23_48 rfl (lv_at hl 3 rfl) ?_
          obtain ⟨ok3, h⟩ := ck_e h
          refine m_la hx hb hG hP (yi_48 hL) (yt_48 hL) ok3 d_11_23_49 ?_
          refine lv_aload_n hx hb d_11_23_50 rfl (lv_at hl 0 rfl) ?_
          refine m_gr (j := 48) (C := "Ballothall$Poll") (T := TX9) (N := 12) (ci := 9) (k := 9) hx hb hts iX9 hown hG hP (yi_41 hL) (yt_41 hL) rfl (by decide) w_116 (fun _ h9 => h9) rfl rfl (yr_41_9 hL) d_11_23_51 ?_
          refine lv_iload_n hx hb d_11_23_54 rfl (lv_at hl 2 rfl) ?_
          obtain ⟨ok4, h⟩ := ck_e h
          refine m_la hx hb hG hP (yi_48 hL) (yt_48 hL) ok4 d_11_23_55 ?_
          refine W.lcmp hx hb d_11_23_56 ?_
          refine lv_if_ne (tgt := 74) hx hb d_11_23_57 (by decide) (fun c9 => ?_) (fun c9 => ?_)
          · have h := ite_f c9 h
            refine lv_iinc (v := (x3 + 1)) (lv' := [(3, .int (x3 + 1)), (0, .ref (ad 41)), (1, .int x1), (2, .int x2)]) hx hb d_11_23_74 hl (k := 3) rfl (congrArg (fun q => x3 + q) (show Int32.ofInt 1 = 1 by decide +kernel)) (by decide) rfl (fun ls hl => ?_)
            refine lv_goto (tgt := 4) hx hb d_11_23_77 (by decide) ?_
            obtain ⟨rfl, rfl, rfl, rfl⟩ := in4 h
            exact k0 rfl H locs ls hP hD hS (lv_sub hl [1, 2, 3, 0] rfl)
          · have h := ite_t c9 h
            refine lv_aload_n hx hb d_11_23_60 rfl (lv_at hl 0 rfl) ?_
            refine m_gr (j := 2) (C := "Ballothall$Poll") (T := TX9) (N := 12) (ci := 9) (k := 0) hx hb hts iX9 hown hG hP (yi_41 hL) (yt_41 hL) rfl (by decide) w_107 (fun _ h9 => h9) rfl rfl (yr_41_0 hL) d_11_23_61 ?_
            refine lv_iload_n hx hb d_11_23_64 rfl (lv_at hl 3 rfl) ?_
            refine lv_iload_n hx hb d_11_23_65 rfl (lv_at hl 2 rfl) ?_
            obtain ⟨⟨r5, M5⟩, g5, h⟩ := bd_e h
            refine kVN (As := [.int x3, .int x2]) (rest := []) (s_Bx_winsLot l z ad E M0 x3 x2 r5 M5 hL g5) hx hb hml hown hts w_1163 n_1390 w_1162 w_s_85fec9 w_2 md_aa27a3 ⟨Nat.le_of_ble_eq_true rfl, Nat.le_of_ble_eq_true rfl⟩ hG hZ hP hD hS hA 2 (wv_o (ci := 0) (yi_2 hL) (yt_2 hL)) rfl rfl rfl hl.1 rfl (Nat.le_of_ble_eq_true rfl) d_11_23_66 ⟨Nat.le_of_ble_eq_true rfl, Nat.le_of_ble_eq_true rfl⟩ (fun _ H locs hP hD hS => ?_)
            have hP : va_P z.1 classes (wv z ad E M5) H := hP
            have hD : va_D A (wv z ad E M5) := hD
            refine W.eq (g2 := F0 m 69 ls [.int r5]) rfl ?_
            refine lv_if_eq (tgt := 74) hx hb d_11_23_69 (by decide) (fun c9 => ?_) (fun c9 => ?_)
            · have h := ite_t c9 h
              refine lv_iinc (v := (x3 + 1)) (lv' := [(3, .int (x3 + 1)), (0, .ref (ad 41)), (1, .int x1), (2, .int x2)]) hx hb d_11_23_74 hl (k := 3) rfl (congrArg (fun q => x3 + q) (show Int32.ofInt 1 = 1 by decide +kernel)) (by decide) rfl (fun ls hl => ?_)
              refine lv_goto (tgt := 4) hx hb d_11_23_77 (by decide) ?_
              obtain ⟨rfl, rfl, rfl, rfl⟩ := in4 h
              exact k0 rfl H locs ls hP hD hS (lv_sub hl [1, 2, 3, 0] rfl)
            · have h := ite_f c9 h
              refine lv_iload_n hx hb d_11_23_72 rfl (lv_at hl 3 rfl) ?_
              refine lv_istore_n (lv' := [(2, .int x3), (0, .ref (ad 41)), (1, .int x1), (3, .int x3)]) hx hb d_11_23_73 rfl hl (by decide) rfl (fun ls hl => ?_)
              refine lv_iinc (v := (x3 + 1)) (lv' := [(3, .int (x3 + 1)), (2, .int x3), (0, .ref (ad 41)), (1, .int x1)]) hx hb d_11_23_74 hl (k := 3) rfl (congrArg (fun q => x3 + q) (show Int32.ofInt 1 = 1 by decide +kernel)) (by decide) rfl (fun ls hl => ?_)
              refine lv_goto (tgt := 4) hx hb d_11_23_77 (by decide) ?_
              obtain ⟨rfl, rfl, rfl, rfl⟩ := in4 h
              exact k0 rfl H locs ls hP hD hS (lv_sub hl [2, 3, 1, 0] rfl)
set_option maxRecDepth 100000 in
set_option maxHeartbeats 4000000 in
theorem s_Po_greatestOf_4 (l : Launch) (z : Zz) (ad : Nat → Nat) (E : Ev) (x1 : Int32) {Q : State → Prop} {p : Program} {e : Env} {s : State} {m : MethodId} {below : List Frame} {meth : Method} {c : Code} {A : Nat → Prop} {args : Array Value} (hx : p.tables.exec = Jvm.exec) (hb : c.code = prog_11_method_23_code) (hml : c.maxLocals = 4) (hts : ∀ w ∈ WG, w.before args s = true) (hown : s.vm.findClass "Ballothall$Poll" = some m.cls) (hlocks : meth.locks = false) (hA : ∀ q, s.heap.size ≤ q → A q) (hG : KG z s) (hZ : FZ z A s) (hL : Lay E) : ∀ (fu : Nat) (M : Mm) (x2 : Int32) (x3 : Int32) (t : Nat) (w2 : Int32) (w3 : Int32) (N : Mm), l_Po_greatestOf_4 E x1 fu M x2 x3 = some (t, w2, w3, N) → (t = 1 → ∀ (H : Heap) (locs : List Loc) (ls : Array Slot), va_P z.1 classes (wv z ad E N) H → va_D A (wv z ad E N) → va_S A s.heap H locs → lv_has ls 4 [(2, .int w2)] → W p l e (rmK 1 42 0 0) s m args below meth c H locs 0 0 Q (F0 m 80 ls [])) → ∀ (H : Heap) (locs : List Loc) (ls : Array Slot), va_P z.1 classes (wv z ad E M) H → va_D A (wv z ad E M) → va_S A s.heap H locs → lv_has ls 4 [(0, .ref (ad 41)), (1, .int x1), (2, .int x2), (3, .int x3)] → W p l e (rmK 1 42 0 0) s m args below meth c H locs 0 0 Q (F0 m 4 ls []) := by
  intro fu
  induction fu with
  | zero =>
    intro M x2 x3 t w2 w3 N h
    have h : (none : Option (Nat × Int32 × Int32 × Mm)) = some _ := h
    cases h
  | succ fu ih =>
    intro M x2 x3 t w2 w3 N h k1 H locs ls hP hD hS hl
    obtain ⟨⟨t0, w20, w30, N0⟩, g0, h⟩ := bd_e h
    refine b_Po_greatestOf_4b l z ad E M x1 x2 x3 t0 w20 w30 N0 hx hb hml hts hown hlocks hA hG hZ hL g0 (fun e0 => ?_) (fun e0 => ?_) H locs ls hP hD hS hl
    · subst e0
      have h := ite_t rfl h
      exact ih N0 w20 w30 t w2 w3 N h k1
    · subst e0
      have h := ite_f (by decide) h
      obtain ⟨rfl, rfl, rfl, rfl⟩ := in4 h
      exact k1 rfl
set_option maxRecDepth 100000 in
set_option maxHeartbeats 4000000 in
theorem s_Po_greatestOf (l : Launch) (z : Zz) (ad : Nat → Nat) (E : Ev) (M : Mm) (x1 : Int32) (r : Int32) (N : Mm) (hL : Lay E) (h : f_Po_greatestOf E M x1 = some (r, N)) : CT l z ⟨"Ballothall$Poll", "greatestOf", "(I)I"⟩ prog_11_method_23_code 4 (some .int) [.ref (ad 41), .int x1] (wv z ad E M) 1 42 0 0 (fun _ => some (.int r)) (fun _ => wv z ad E N) := by
  refine CT.of (own := "Ballothall$Poll") (by decide +kernel) (Nat.le_of_ble_eq_true rfl) rfl (fun p e s m below meth c A ls hx hb hml hr hts hown hlocks hin hA hG hZ hP hD hS hl => ?_)
  have hl : lv_has ls 4 [(0, .ref (ad 41)), (1, .int x1)] := hl
  have key : ∀ (H : Heap) (locs : List Loc) (args : Array Value), (∀ w ∈ WG, w.before args s = true) → va_P z.1 classes (wv z ad E M) H → va_S A s.heap H locs → W p l e (rmK 1 42 0 0) s m args below meth c H locs 0 0 (MQ below (QK z A (fun _ => some (.int r)) (fun _ => wv z ad E N)) args s 0 0 A) (F0 m 0 ls []) := by
    intro H locs args hts hP hS
    unfold f_Po_greatestOf at h
    refine lv_iconst (v := (-1)) hx hb d_11_23_0 (by decide +kernel) ?_
    refine lv_istore_n (lv' := [(2, .int (-1)), (0, .ref (ad 41)), (1, .int x1)]) hx hb d_11_23_1 rfl hl (by decide) rfl (fun ls hl => ?_)
    refine lv_iconst (v := 0) hx hb d_11_23_2 (by decide +kernel) ?_
    refine lv_istore_n (lv' := [(3, .int 0), (2, .int (-1)), (0, .ref (ad 41)), (1, .int x1)]) hx hb d_11_23_3 rfl hl (by decide) rfl (fun ls hl => ?_)
    obtain ⟨⟨t6, v6_2, v6_3, M6⟩, g6, h⟩ := bd_e h
    obtain ⟨ok6, h⟩ := ck_e h
    refine s_Po_greatestOf_4 l z ad E x1 hx hb hml hts hown hlocks hA hG hZ hL FU M (-1) 0 t6 v6_2 v6_3 M6 g6 (fun e6 H locs ls hP hD hS hl => ?_) H locs ls hP hD hS (lv_sub hl [2, 3, 1, 0] rfl)
    refine lv_iload_n hx hb d_11_23_80 rfl (lv_at hl 0 rfl) ?_
    obtain ⟨rfl, rfl⟩ := in2 h
    exact W.iret hx hb hr (fun t ht hW => qkA hP hD hS (fun k => k) rfl rfl ht) hS.2.2 d_11_23_81
  exact key _ _ _ hts hP hS
set_option maxRecDepth 100000 in
set_option maxHeartbeats 4000000 in
theorem s_Po_bestBy (l : Launch) (z : Zz) (ad : Nat → Nat) (E : Ev) (M : Mm) (x1 : Int32) (r : Int32) (N : Mm) (hL : Lay E) (h : f_Po_bestBy E M x1 = some (r, N)) : CT l z ⟨"Ballothall$Poll", "bestBy", "(I)I"⟩ prog_11_method_19_code 2 (some .int) [.ref (ad 41), .int x1] (wv z ad E M) 4 114 0 0 (fun _ => some (.int r)) (fun _ => wv z ad E N) := by
  refine CT.of (own := "Ballothall$Poll") (by decide +kernel) (Nat.le_of_ble_eq_true rfl) rfl (fun p e s m below meth c A ls hx hb hml hr hts hown hlocks hin hA hG hZ hP hD hS hl => ?_)
  have hl : lv_has ls 2 [(0, .ref (ad 41)), (1, .int x1)] := hl
  have key : ∀ (H : Heap) (locs : List Loc) (args : Array Value), (∀ w ∈ WG, w.before args s = true) → va_P z.1 classes (wv z ad E M) H → va_S A s.heap H locs → W p l e (rmK 4 114 0 0) s m args below meth c H locs 0 0 (MQ below (QK z A (fun _ => some (.int r)) (fun _ => wv z ad E N)) args s 0 0 A) (F0 m 0 ls []) := by
    intro H locs args hts hP hS
    unfold f_Po_bestBy at h
    refine lv_aload_n hx hb d_11_19_0 rfl (lv_at hl 0 rfl) ?_
    refine m_gi (C := "Ballothall$Poll") (T := TX9) (N := 12) (ci := 9) (k := 1) hx hb hts iX9 hown hG hP (yi_41 hL) (yt_41 hL) rfl (by decide) w_108 (fun _ h9 => h9) rfl rfl d_11_19_1 ?_
    refine lv_if_ne (tgt := 9) hx hb d_11_19_4 (by decide) (fun c9 => ?_) (fun c9 => ?_)
    · have h := ite_f c9 h
      refine lv_iload_n hx hb d_11_19_9 rfl (lv_at hl 1 rfl) ?_
      refine lv_iconst (v := 1) hx hb d_11_19_10 (by decide +kernel) ?_
      refine lv_icmp_ne (tgt := 19) hx hb d_11_19_11 (by decide) (fun c9 => ?_) (fun c9 => ?_)
      · have h := ite_f c9 h
        refine lv_iload_n hx hb d_11_19_19 rfl (lv_at hl 1 rfl) ?_
        refine lv_iconst (v := 2) hx hb d_11_19_20 (by decide +kernel) ?_
        refine lv_icmp_ne (tgt := 33) hx hb d_11_19_21 (by decide) (fun c9 => ?_) (fun c9 => ?_)
        · have h := ite_f c9 h
          refine lv_aload_n hx hb d_11_19_33 rfl (lv_at hl 0 rfl) ?_
          refine lv_iload_n hx hb d_11_19_34 rfl (lv_at hl 1 rfl) ?_
          obtain ⟨M0, g0, h⟩ := bd_e h
          refine kV (As := [.int x1]) (rest := []) (s_Po_findScores l z ad E M x1 M0 hL g0) hx hb hml hown hts w_1399 w_1396 w_1398 w_s_24c8d7 w_3 md_f30417 ⟨Nat.le_of_ble_eq_true rfl, Nat.le_of_ble_eq_true rfl⟩ hG hZ hP hD hS hA 41 (wv_o (ci := 9) (yi_41 hL) (yt_41 hL)) rfl rfl rfl hl.1 rfl (Nat.le_of_ble_eq_true rfl) d_11_19_35 ⟨Nat.le_of_ble_eq_true rfl, Nat.le_of_ble_eq_true rfl⟩ (fun _ H locs hP hD hS => ?_)
          have hP : va_P z.1 classes (wv z ad E M0) H := hP
          have hD : va_D A (wv z ad E M0) := hD
          refine W.eq (g2 := F0 m 38 ls []) rfl ?_
          refine lv_aload_n hx hb d_11_19_38 rfl (lv_at hl 0 rfl) ?_
          refine lv_aload_n hx hb d_11_19_39 rfl (lv_at hl 0 rfl) ?_
          refine m_gi (C := "Ballothall$Poll") (T := TX9) (N := 12) (ci := 9) (k := 1) hx hb hts iX9 hown hG hP (yi_41 hL) (yt_41 hL) rfl (by decide) w_108 (fun _ h9 => h9) rfl rfl d_11_19_40 ?_
          obtain ⟨⟨r1, M1⟩, g1, h⟩ := bd_e h
          refine kV (As := [.int (M0.1 41 1)]) (rest := []) (s_Po_greatestOf l z ad E M0 (M0.1 41 1) r1 M1 hL g1) hx hb hml hown hts w_1407 w_1404 w_1406 w_s_6c3bf2 w_3 md_26c06b ⟨Nat.le_of_ble_eq_true rfl, Nat.le_of_ble_eq_true rfl⟩ hG hZ hP hD hS hA 41 (wv_o (ci := 9) (yi_41 hL) (yt_41 hL)) rfl rfl rfl hl.1 rfl (Nat.le_of_ble_eq_true rfl) d_11_19_43 ⟨Nat.le_of_ble_eq_true rfl, Nat.le_of_ble_eq_true rfl⟩ (fun _ H locs hP hD hS => ?_)
          have hP : va_P z.1 classes (wv z ad E M1) H := hP
          have hD : va_D A (wv z ad E M1) := hD
          refine W.eq (g2 := F0 m 46 ls [.int r1]) rfl ?_
          obtain ⟨rfl, rfl⟩ := in2 h
          exact W.iret hx hb hr (fun t ht hW => qkA hP hD hS (fun k => k) rfl rfl ht) hS.2.2 d_11_19_46
        · have h := ite_t c9 h
          refine lv_aload_n hx hb d_11_19_24 rfl (lv_at hl 0 rfl) ?_
          refine lv_aload_n hx hb d_11_19_25 rfl (lv_at hl 0 rfl) ?_
          obtain ⟨⟨r2, M2⟩, g2, h⟩ := bd_e h
          refine kV (As := []) (rest := [.ref (ad 41)]) (s_Po_winnersByPaths l z ad E M r2 M2 hL g2) hx hb hml hown hts w_725 w_1395 w_724 w_s_87a59c w_3 md_114b2c ⟨Nat.le_of_ble_eq_true rfl, Nat.le_of_ble_eq_true rfl⟩ hG hZ hP hD hS hA 41 (wv_o (ci := 9) (yi_41 hL) (yt_41 hL)) rfl rfl rfl hl.1 rfl (Nat.le_of_ble_eq_true rfl) d_11_19_26 ⟨Nat.le_of_ble_eq_true rfl, Nat.le_of_ble_eq_true rfl⟩ (fun _ H locs hP hD hS => ?_)
          have hP : va_P z.1 classes (wv z ad E M2) H := hP
          have hD : va_D A (wv z ad E M2) := hD
          refine W.eq (g2 := F0 m 29 ls [.int r2, .ref (ad 41)]) rfl ?_
          obtain ⟨⟨r3, M3⟩, g3, h⟩ := bd_e h
          refine kV (As := [.int r2]) (rest := []) (s_Po_bestByLot l z ad E M2 r2 r3 M3 hL g3) hx hb hml hown hts w_1394 w_1391 w_1393 w_s_b9deda w_3 md_322545 ⟨Nat.le_of_ble_eq_true rfl, Nat.le_of_ble_eq_true rfl⟩ hG hZ hP hD hS hA 41 (wv_o (ci := 9) (yi_41 hL) (yt_41 hL)) rfl rfl rfl hl.1 rfl (Nat.le_of_ble_eq_true rfl) d_11_19_29 ⟨Nat.le_of_ble_eq_true rfl, Nat.le_of_ble_eq_true rfl⟩ (fun _ H locs hP hD hS => ?_)
          have hP : va_P z.1 classes (wv z ad E M3) H := hP
          have hD : va_D A (wv z ad E M3) := hD
          refine W.eq (g2 := F0 m 32 ls [.int r3]) rfl ?_
          obtain ⟨rfl, rfl⟩ := in2 h
          exact W.iret hx hb hr (fun t ht hW => qkA hP hD hS (fun k => k) rfl rfl ht) hS.2.2 d_11_19_32
      · have h := ite_t c9 h
        refine lv_aload_n hx hb d_11_19_14 rfl (lv_at hl 0 rfl) ?_
        obtain ⟨⟨r4, M4⟩, g4, h⟩ := bd_e h
        refine kV (As := []) (rest := []) (s_Po_lastOfRunoff l z ad E M r4 M4 hL g4) hx hb hml hown hts w_1378 w_1375 w_1377 w_s_404c81 w_3 md_1e440e ⟨Nat.le_of_ble_eq_true rfl, Nat.le_of_ble_eq_true rfl⟩ hG hZ hP hD hS hA 41 (wv_o (ci := 9) (yi_41 hL) (yt_41 hL)) rfl rfl rfl hl.1 rfl (Nat.le_of_ble_eq_true rfl) d_11_19_15 ⟨Nat.le_of_ble_eq_true rfl, Nat.le_of_ble_eq_true rfl⟩ (fun _ H locs hP hD hS => ?_)
        have hP : va_P z.1 classes (wv z ad E M4) H := hP
        have hD : va_D A (wv z ad E M4) := hD
        refine W.eq (g2 := F0 m 18 ls [.int r4]) rfl ?_
        obtain ⟨rfl, rfl⟩ := in2 h
        exact W.iret hx hb hr (fun t ht hW => qkA hP hD hS (fun k => k) rfl rfl ht) hS.2.2 d_11_19_18
    · have h := ite_t c9 h
      refine lv_iconst (v := (-1)) hx hb d_11_19_7 (by decide +kernel) ?_
      obtain ⟨rfl, rfl⟩ := in2 h
      exact W.iret hx hb hr (fun t ht hW => qkA hP hD hS (fun k => k) rfl rfl ht) hS.2.2 d_11_19_8
  exact key _ _ _ hts hP hS
set_option maxRecDepth 100000 in
set_option maxHeartbeats 4000000 in
theorem b_Bx_rankOf_2b (l : Launch) (z : Zz) (ad : Nat → Nat) (E : Ev) (M : Mm) (x1 : Int32) (x2 : Int32) (x3 : Int32) (t : Nat) (w3 : Int32) (N : Mm) {Q : State → Prop} {p : Program} {e : Env} {s : State} {m : MethodId} {below : List Frame} {meth : Method} {c : Code} {A : Nat → Prop} {args : Array Value} (hx : p.tables.exec = Jvm.exec) (hb : c.code = prog_2_method_12_code) (hml : c.maxLocals = 4) (hts : ∀ w ∈ WG, w.before args s = true) (hown : s.vm.findClass "Ballothall$BallotBox" = some m.cls) (hlocks : meth.locks = false) (hA : ∀ q, s.heap.size ≤ q → A q) (hG : KG z s) (hZ : FZ z A s) (hL : Lay E) (h : Bx_rankOf_2b E M x1 x2 x3 = some (t, w3, N)) (k0 : t = 0 → ∀ (H : Heap) (locs : List Loc) (ls : Array Slot), va_P z.1 classes (wv z ad E N) H → va_D A (wv z ad E N) → va_S A s.heap H locs → lv_has ls 4 [(0, .ref (ad 2)), (1, .int x1), (2, .int x2), (3, .int w3)] → W p l e (rmK 1 41 0 0) s m args below meth c H locs 0 0 Q (F0 m 2 ls [])) (k1 : t = 1 → ∀ (H : Heap) (locs : List Loc) (ls : Array Slot), va_P z.1 classes (wv z ad E N) H → va_D A (wv z ad E N) → va_S A s.heap H locs → lv_has ls 4 [(3, .int w3)] → W p l e (rmK 1 41 0 0) s m args below meth c H locs 0 0 Q (F0 m 27 ls [])) (k2 : t = 2 → ∀ (H : Heap) (locs : List Loc) (ls : Array Slot), va_P z.1 classes (wv z ad E N) H → va_D A (wv z ad E N) → va_S A s.heap H locs → lv_has ls 4 [(0, .ref (ad 2)), (1, .int x1)] → W p l e (rmK 1 41 0 0) s m args below meth c H locs 0 0 Q (F0 m 35 ls [])) : ∀ (H : Heap) (locs : List Loc) (ls : Array Slot), va_P z.1 classes (wv z ad E M) H → va_D A (wv z ad E M) → va_S A s.heap H locs → lv_has ls 4 [(0, .ref (ad 2)), (1, .int x1), (2, .int x2), (3, .int x3)] → W p l e (rmK 1 41 0 0) s m args below meth c H locs 0 0 Q (F0 m 2 ls []) := by
  intro H locs ls hP hD hS hl
  unfold Bx_rankOf_2b at h
  refine lv_iload_n hx hb d_2_12_2 rfl (lv_at hl 3 rfl) ?_
  refine lv_aload_n hx hb d_2_12_3 rfl (lv_at hl 0 rfl) ?_
  refine m_gr (j := 7) (C := "Ballothall$BallotBox") (T := TX0) (N := 10) (ci := 0) (k := 7) hx hb hts iX0 hown hG hP (yi_2 hL) (yt_2 hL) rfl (by decide) w_72 (fun _ h9 => h9) rfl rfl (yr_2_7 hL) d_2_12_4 ?_
  refine lv_iload_n hx hb d_2_12_7 rfl (lv_at hl 1 rfl) ?_
  obtain ⟨ok0, h⟩ := ck_e h
  refine m_ia hx hb hG hP (yi_7 hL) (yt_7 hL) ok0 d_2_12_8 ?_
  refine lv_icmp_ge (tgt := 35) hx hb d_2_12_9 (by decide) (fun c9 => ?_) (fun c9 => ?_)
  · have h := ite_t c9 h
    obtain ⟨rfl, rfl, rfl⟩ := in3 h
    exact k2 rfl H locs ls hP hD hS (lv_sub hl [0, 1] rfl)
  · have h := ite_f c9 h
    refine lv_aload_n hx hb d_2_12_12 rfl (lv_at hl 0 rfl) ?_
    refine m_gr (j := 8) (C := "Ballothall$BallotBox") (T := TX0) (N := 10) (ci := 0) (k := 8) hx hb hts iX0 hown hG hP (yi_2 hL) (yt_2 hL) rfl (by decide) w_74 (fun _ h9 => h9) rfl rfl (yr_2_8 hL) d_2_12_13 ?_
    refine lv_iload_n hx hb d_2_12_16 rfl (lv_at hl 1 rfl) ?_
    obtain ⟨ok1, h⟩ := ck_e h
    refine m_ar (k := (9 + x1.toNatClampNeg)) hx hb hG hP (yi_8 hL) (yt_8 hL) ok1 (ya_8 hL (inb_lt ok1)) d_2_12_17 ?_
    refine lv_iload_n hx hb d_2_12_18 rfl (lv_at hl 3 rfl) ?_
    obtain ⟨ok2, h⟩ := ck_e h
    refine m_ia hx hb hG hP (yg_8 hL ok1).1 (yg_8 hL ok1).2 ok2 d_2_12_19 ?_
    refine lv_iload_n hx hb d_2_12_20 rfl (lv_at hl 2 rfl) ?_
    obtain ⟨⟨r3, M3⟩, g3, h⟩ := bd_e h
    refine kSN (As := [.int (M.1 (9 + x1.toNatClampNeg) x3.toNatClampNeg), .int x2]) (rest := []) (s_B_has l z ad E M (M.1 (9 + x1.toNatClampNeg) x3.toNatClampNeg) x2 r3 M3 hL g3) hx hb hml hown hts w_693 n_1031 w_692 w_1 md_26545c ⟨Nat.le_of_ble_eq_true rfl, Nat.le_of_ble_eq_true rfl⟩ hG hZ hP hD hS hA rfl hl.1 rfl (Nat.le_of_ble_eq_true rfl) d_2_12_21 ⟨Nat.le_of_ble_eq_true rfl, Nat.le_of_ble_eq_true rfl⟩ (fun _ H locs hP hD hS => ?_)
    have hP : va_P z.1 classes (wv z ad E M3) H := hP
    have hD : va_D A (wv z ad E M3) := hD
    refine W.eq (g2 := F0 m 24 ls [.int r3]) rfl ?_
    refine lv_if_eq (tgt := 29) hx hb d_2_12_24 (by decide) (fun c9 => ?_) (fun c9 => ?_)
    · have h := ite_t c9 h
      refine lv_iinc (v := (x3 + 1)) (lv' := [(3, .int (x3 + 1)), (0, .ref (ad 2)), (1, .int x1), (2, .int x2)]) hx hb d_2_12_29 hl (k := 3) rfl (congrArg (fun q => x3 + q) (show Int32.ofInt 1 = 1 by decide +kernel)) (by decide) rfl (fun ls hl => ?_)
      refine lv_goto (tgt := 2) hx hb d_2_12_32 (by decide) ?_
      obtain ⟨rfl, rfl, rfl⟩ := in3 h
      exact k0 rfl H locs ls hP hD hS (lv_sub hl [1, 2, 3, 0] rfl)
    · have h := ite_f c9 h
      obtain ⟨rfl, rfl, rfl⟩ := in3 h
      exact k1 rfl H locs ls hP hD hS (lv_sub hl [3] rfl)
set_option maxRecDepth 100000 in
set_option maxHeartbeats 4000000 in
theorem s_Bx_rankOf_2 (l : Launch) (z : Zz) (ad : Nat → Nat) (E : Ev) (x1 : Int32) (x2 : Int32) {Q : State → Prop} {p : Program} {e : Env} {s : State} {m : MethodId} {below : List Frame} {meth : Method} {c : Code} {A : Nat → Prop} {args : Array Value} (hx : p.tables.exec = Jvm.exec) (hb : c.code = prog_2_method_12_code) (hml : c.maxLocals = 4) (hts : ∀ w ∈ WG, w.before args s = true) (hown : s.vm.findClass "Ballothall$BallotBox" = some m.cls) (hlocks : meth.locks = false) (hA : ∀ q, s.heap.size ≤ q → A q) (hG : KG z s) (hZ : FZ z A s) (hL : Lay E) : ∀ (fu : Nat) (M : Mm) (x3 : Int32) (t : Nat) (w3 : Int32) (N : Mm), l_Bx_rankOf_2 E x1 x2 fu M x3 = some (t, w3, N) → (t = 1 → ∀ (H : Heap) (locs : List Loc) (ls : Array Slot), va_P z.1 classes (wv z ad E N) H → va_D A (wv z ad E N) → va_S A s.heap H locs → lv_has ls 4 [(3, .int w3)] → W p l e (rmK 1 41 0 0) s m args below meth c H locs 0 0 Q (F0 m 27 ls [])) → (t = 2 → ∀ (H : Heap) (locs : List Loc) (ls : Array Slot), va_P z.1 classes (wv z ad E N) H → va_D A (wv z ad E N) → va_S A s.heap H locs → lv_has ls 4 [(0, .ref (ad 2)), (1, .int x1)] → W p l e (rmK 1 41 0 0) s m args below meth c H locs 0 0 Q (F0 m 35 ls [])) → ∀ (H : Heap) (locs : List Loc) (ls : Array Slot), va_P z.1 classes (wv z ad E M) H → va_D A (wv z ad E M) → va_S A s.heap H locs → lv_has ls 4 [(0, .ref (ad 2)), (1, .int x1), (2, .int x2), (3, .int x3)] → W p l e (rmK 1 41 0 0) s m args below meth c H locs 0 0 Q (F0 m 2 ls []) := by
  intro fu
  induction fu with
  | zero =>
    intro M x3 t w3 N h
    have h : (none : Option (Nat × Int32 × Mm)) = some _ := h
    cases h
  | succ fu ih =>
    intro M x3 t w3 N h k1 k2 H locs ls hP hD hS hl
    obtain ⟨⟨t0, w30, N0⟩, g0, h⟩ := bd_e h
    refine b_Bx_rankOf_2b l z ad E M x1 x2 x3 t0 w30 N0 hx hb hml hts hown hlocks hA hG hZ hL g0 (fun e0 => ?_) (fun e0 => ?_) (fun e0 => ?_) H locs ls hP hD hS hl
    · subst e0
      have h := ite_t rfl h
      exact ih N0 w30 t w3 N h k1 k2
    · subst e0
      have h := ite_f (by decide) h
      obtain ⟨rfl, rfl, rfl⟩ := in3 h
      exact k1 rfl
    · subst e0
      have h := ite_f (by decide) h
      obtain ⟨rfl, rfl, rfl⟩ := in3 h
      exact k2 rfl
set_option maxRecDepth 100000 in
set_option maxHeartbeats 4000000 in
theorem s_Bx_rankOf (l : Launch) (z : Zz) (ad : Nat → Nat) (E : Ev) (M : Mm) (x1 : Int32) (x2 : Int32) (r : Int32) (N : Mm) (hL : Lay E) (h : f_Bx_rankOf E M x1 x2 = some (r, N)) : CT l z ⟨"Ballothall$BallotBox", "rankOf", "(II)I"⟩ prog_2_method_12_code 4 (some .int) [.ref (ad 2), .int x1, .int x2] (wv z ad E M) 1 41 0 0 (fun _ => some (.int r)) (fun _ => wv z ad E N) := by
  refine CT.of (own := "Ballothall$BallotBox") (by decide +kernel) (Nat.le_of_ble_eq_true rfl) rfl (fun p e s m below meth c A ls hx hb hml hr hts hown hlocks hin hA hG hZ hP hD hS hl => ?_)
  have hl : lv_has ls 4 [(0, .ref (ad 2)), (1, .int x1), (2, .int x2)] := hl
  have key : ∀ (H : Heap) (locs : List Loc) (args : Array Value), (∀ w ∈ WG, w.before args s = true) → va_P z.1 classes (wv z ad E M) H → va_S A s.heap H locs → W p l e (rmK 1 41 0 0) s m args below meth c H locs 0 0 (MQ below (QK z A (fun _ => some (.int r)) (fun _ => wv z ad E N)) args s 0 0 A) (F0 m 0 ls []) := by
    intro H locs args hts hP hS
    unfold f_Bx_rankOf at h
    refine lv_iconst (v := 0) hx hb d_2_12_0 (by decide +kernel) ?_
    refine lv_istore_n (lv' := [(3, .int 0), (0, .ref (ad 2)), (1, .int x1), (2, .int x2)]) hx hb d_2_12_1 rfl hl (by decide) rfl (fun ls hl => ?_)
    obtain ⟨⟨t4, v4_3, M4⟩, g4, h⟩ := bd_e h
    refine s_Bx_rankOf_2 l z ad E x1 x2 hx hb hml hts hown hlocks hA hG hZ hL FU M 0 t4 v4_3 M4 g4 (fun e4 H locs ls hP hD hS hl => ?_) (fun e4 H locs ls hP hD hS hl => ?_) H locs ls hP hD hS (lv_sub hl [1, 2, 3, 0] rfl)
    · subst e4
      have h := ite_t rfl h
      refine lv_iload_n hx hb d_2_12_27 rfl (lv_at hl 0 rfl) ?_
      obtain ⟨rfl, rfl⟩ := in2 h
      exact W.iret hx hb hr (fun t ht hW => qkA hP hD hS (fun k => k) rfl rfl ht) hS.2.2 d_2_12_28
    · subst e4
      have h := ite_f (by decide) h
      have h := ite_t rfl h
      refine lv_aload_n hx hb d_2_12_35 rfl (lv_at hl 0 rfl) ?_
      refine m_gr (j := 7) (C := "Ballothall$BallotBox") (T := TX0) (N := 10) (ci := 0) (k := 7) hx hb hts iX0 hown hG hP (yi_2 hL) (yt_2 hL) rfl (by decide) w_72 (fun _ h9 => h9) rfl rfl (yr_2_7 hL) d_2_12_36 ?_
      refine lv_iload_n hx hb d_2_12_39 rfl (lv_at hl 1 rfl) ?_
      obtain ⟨ok5, h⟩ := ck_e h
      refine m_ia hx hb hG hP (yi_7 hL) (yt_7 hL) ok5 d_2_12_40 ?_
      obtain ⟨rfl, rfl⟩ := in2 h
      exact W.iret hx hb hr (fun t ht hW => qkA hP hD hS (fun k => k) rfl rfl ht) hS.2.2 d_2_12_41
  exact key _ _ _ hts hP hS
set_option maxRecDepth 100000 in
set_option maxHeartbeats 4000000 in
theorem b_Fb_aheadOf_16b (l : Launch) (z : Zz) (ad : Nat → Nat) (E : Ev) (M : Mm) (x1 : Int32) (x4 : Int32) (x3 : Int32) (x5 : Int32) (t : Nat) (w3 : Int32) (w5 : Int32) (N : Mm) {Q : State → Prop} {p : Program} {e : Env} {s : State} {m : MethodId} {below : List Frame} {meth : Method} {c : Code} {A : Nat → Prop} {args : Array Value} (hx : p.tables.exec = Jvm.exec) (hb : c.code = prog_7_method_3_code) (hml : c.maxLocals = 6) (hts : ∀ w ∈ WG, w.before args s = true) (hown : s.vm.findClass "Ballothall$FalseBallot" = some m.cls) (hlocks : meth.locks = false) (hA : ∀ q, s.heap.size ≤ q → A q) (hG : KG z s) (hZ : FZ z A s) (hL : Lay E) (h : Fb_aheadOf_16b E M x1 x4 x3 x5 = some (t, w3, w5, N)) (k0 : t = 0 → ∀ (H : Heap) (locs : List Loc) (ls : Array Slot), va_P z.1 classes (wv z ad E N) H → va_D A (wv z ad E N) → va_S A s.heap H locs → lv_has ls 6 [(0, .ref (ad 51)), (1, .int x1), (3, .int w3), (4, .int x4), (5, .int w5)] → W p l e (rmK 2 64 0 0) s m args below meth c H locs 0 0 Q (F0 m 16 ls [])) (k1 : t = 1 → ∀ (H : Heap) (locs : List Loc) (ls : Array Slot), va_P z.1 classes (wv z ad E N) H → va_D A (wv z ad E N) → va_S A s.heap H locs → lv_has ls 6 [(3, .int w3)] → W p l e (rmK 2 64 0 0) s m args below meth c H locs 0 0 Q (F0 m 44 ls [])) : ∀ (H : Heap) (locs : List Loc) (ls : Array Slot), va_P z.1 classes (wv z ad E M) H → va_D A (wv z ad E M) → va_S A s.heap H locs → lv_has ls 6 [(0, .ref (ad 51)), (1, .int x1), (3, .int x3), (4, .int x4), (5, .int x5)] → W p l e (rmK 2 64 0 0) s m args below meth c H locs 0 0 Q (F0 m 16 ls []) := by
  intro H locs ls hP hD hS hl
  unfold Fb_aheadOf_16b at h
  refine lv_iload hx hb d_7_3_16 (lv_at hl 4 rfl) ?_
  refine lv_iload hx hb d_7_3_18 (lv_at hl 3 rfl) ?_
  refine lv_icmp_ge (tgt := 44) hx hb d_7_3_20 (by decide) (fun c9 => ?_) (fun c9 => ?_)
  · have h := ite_t c9 h
    obtain ⟨rfl, rfl, rfl, rfl⟩ := in4 h
    exact k1 rfl H locs ls hP hD hS (lv_sub hl [2] rfl)
  · have h := ite_f c9 h
    refine lv_iload_n hx hb d_7_3_23 rfl (lv_at hl 2 rfl) ?_
    refine lv_aload_n hx hb d_7_3_24 rfl (lv_at hl 0 rfl) ?_
    refine m_gr (j := 2) (C := "Ballothall$FalseBallot") (T := TX5) (N := 3) (ci := 5) (k := 0) hx hb hts iX5 hown hG hP (yi_51 hL) (yt_51 hL) rfl (by decide) w_152 (fun _ h9 => h9) rfl rfl (yr_51_0 hL) d_7_3_25 ?_
    refine m_grN (j := 8) (C := "Ballothall$BallotBox") (T := TX0) (N := 10) (ci := 0) (k := 8) hx hb hts iX0 hown hG hP (yi_2 hL) (yt_2 hL) rfl (by decide) n_75 rfl (fun _ h9 => h9) rfl rfl (yr_2_8 hL) d_7_3_28 ?_
    refine lv_iload_n hx hb d_7_3_31 rfl (lv_at hl 1 rfl) ?_
    obtain ⟨ok1, h⟩ := ck_e h
    refine m_ar (k := (9 + x1.toNatClampNeg)) hx hb hG hP (yi_8 hL) (yt_8 hL) ok1 (ya_8 hL (inb_lt ok1)) d_7_3_32 ?_
    refine lv_iload hx hb d_7_3_33 (lv_at hl 4 rfl) ?_
    obtain ⟨ok2, h⟩ := ck_e h
    refine m_ia hx hb hG hP (yg_8 hL ok1).1 (yg_8 hL ok1).2 ok2 d_7_3_35 ?_
    refine lv_ior hx hb d_7_3_36 ?_
    obtain ⟨v3, e3, h⟩ := nb_e h
    refine nrm e3.symm ?_
    refine lv_istore_n (lv' := [(3, .int v3), (0, .ref (ad 51)), (1, .int x1), (4, .int x4), (5, .int x5)]) hx hb d_7_3_37 rfl hl (by decide) rfl (fun ls hl => ?_)
    refine lv_iinc (v := (x5 + 1)) (lv' := [(5, .int (x5 + 1)), (3, .int v3), (0, .ref (ad 51)), (1, .int x1), (4, .int x4)]) hx hb d_7_3_38 hl (k := 4) rfl (congrArg (fun q => x5 + q) (show Int32.ofInt 1 = 1 by decide +kernel)) (by decide) rfl (fun ls hl => ?_)
    refine lv_goto (tgt := 16) hx hb d_7_3_41 (by decide) ?_
    obtain ⟨rfl, rfl, rfl, rfl⟩ := in4 h
    exact k0 rfl H locs ls hP hD hS (lv_sub hl [2, 3, 1, 4, 0] rfl)
set_option maxRecDepth 100000 in
set_option maxHeartbeats 4000000 in
theorem s_Fb_aheadOf_16 (l : Launch) (z : Zz) (ad : Nat → Nat) (E : Ev) (x1 : Int32) (x4 : Int32) {Q : State → Prop} {p : Program} {e : Env} {s : State} {m : MethodId} {below : List Frame} {meth : Method} {c : Code} {A : Nat → Prop} {args : Array Value} (hx : p.tables.exec = Jvm.exec) (hb : c.code = prog_7_method_3_code) (hml : c.maxLocals = 6) (hts : ∀ w ∈ WG, w.before args s = true) (hown : s.vm.findClass "Ballothall$FalseBallot" = some m.cls) (hlocks : meth.locks = false) (hA : ∀ q, s.heap.size ≤ q → A q) (hG : KG z s) (hZ : FZ z A s) (hL : Lay E) : ∀ (fu : Nat) (M : Mm) (x3 : Int32) (x5 : Int32) (t : Nat) (w3 : Int32) (w5 : Int32) (N : Mm), l_Fb_aheadOf_16 E x1 x4 fu M x3 x5 = some (t, w3, w5, N) → (t = 1 → ∀ (H : Heap) (locs : List Loc) (ls : Array Slot), va_P z.1 classes (wv z ad E N) H → va_D A (wv z ad E N) → va_S A s.heap H locs → lv_has ls 6 [(3, .int w3)] → W p l e (rmK 2 64 0 0) s m args below meth c H locs 0 0 Q (F0 m 44 ls [])) → ∀ (H : Heap) (locs : List Loc) (ls : Array Slot), va_P z.1 classes (wv z ad E M) H → va_D A (wv z ad E M) → va_S A s.heap H locs → lv_has ls 6 [(0, .ref (ad 51)), (1, .int x1), (3, .int x3), (4, .int x4), (5, .int x5)] → W p l e (rmK 2 64 0 0) s m args below meth c H locs 0 0 Q (F0 m 16 ls []) := by
  intro fu
  induction fu with
  | zero =>
    intro M x3 x5 t w3 w5 N h
    have h : (none : Option (Nat × Int32 × Int32 × Mm)) = some _ := h
    cases h
  | succ fu ih =>
    intro M x3 x5 t w3 w5 N h k1 H locs ls hP hD hS hl
    obtain ⟨⟨t0, w30, w50, N0⟩, g0, h⟩ := bd_e h
    refine b_Fb_aheadOf_16b l z ad E M x1 x4 x3 x5 t0 w30 w50 N0 hx hb hml hts hown hlocks hA hG hZ hL g0 (fun e0 => ?_) (fun e0 => ?_) H locs ls hP hD hS hl
    · subst e0
      have h := ite_t rfl h
      exact ih N0 w30 w50 t w3 w5 N h k1
    · subst e0
      have h := ite_f (by decide) h
      obtain ⟨rfl, rfl, rfl, rfl⟩ := in4 h
      exact k1 rfl
set_option maxRecDepth 100000 in
set_option maxHeartbeats 4000000 in
theorem s_Fb_aheadOf (l : Launch) (z : Zz) (ad : Nat → Nat) (E : Ev) (M : Mm) (x1 : Int32) (x2 : Int32) (r : Int32) (N : Mm) (hL : Lay E) (h : f_Fb_aheadOf E M x1 x2 = some (r, N)) : CT l z ⟨"Ballothall$FalseBallot", "aheadOf", "(II)I"⟩ prog_7_method_3_code 6 (some .int) [.ref (ad 51), .int x1, .int x2] (wv z ad E M) 2 64 0 0 (fun _ => some (.int r)) (fun _ => wv z ad E N) := by
  refine CT.of (own := "Ballothall$FalseBallot") (by decide +kernel) (Nat.le_of_ble_eq_true rfl) rfl (fun p e s m below meth c A ls hx hb hml hr hts hown hlocks hin hA hG hZ hP hD hS hl => ?_)
  have hl : lv_has ls 6 [(0, .ref (ad 51)), (1, .int x1), (2, .int x2)] := hl
  have key : ∀ (H : Heap) (locs : List Loc) (args : Array Value), (∀ w ∈ WG, w.before args s = true) → va_P z.1 classes (wv z ad E M) H → va_S A s.heap H locs → W p l e (rmK 2 64 0 0) s m args below meth c H locs 0 0 (MQ below (QK z A (fun _ => some (.int r)) (fun _ => wv z ad E N)) args s 0 0 A) (F0 m 0 ls []) := by
    intro H locs args hts hP hS
    unfold f_Fb_aheadOf at h
    refine lv_iconst (v := 0) hx hb d_7_3_0 (by decide +kernel) ?_
    refine lv_istore_n (lv' := [(3, .int 0), (0, .ref (ad 51)), (1, .int x1), (2, .int x2)]) hx hb d_7_3_1 rfl hl (by decide) rfl (fun ls hl => ?_)
    refine lv_aload_n hx hb d_7_3_2 rfl (lv_at hl 1 rfl) ?_
    refine m_gr (j := 2) (C := "Ballothall$FalseBallot") (T := TX5) (N := 3) (ci := 5) (k := 0) hx hb hts iX5 hown hG hP (yi_51 hL) (yt_51 hL) rfl (by decide) w_152 (fun _ h9 => h9) rfl rfl (yr_51_0 hL) d_7_3_3 ?_
    refine lv_iload_n hx hb d_7_3_6 rfl (lv_at hl 2 rfl) ?_
    refine lv_iload_n hx hb d_7_3_7 rfl (lv_at hl 3 rfl) ?_
    obtain ⟨⟨r0, M0⟩, g0, h⟩ := bd_e h
    refine kVN (As := [.int x1, .int x2]) (rest := []) (s_Bx_rankOf l z ad E M x1 x2 r0 M0 hL g0) hx hb hml hown hts w_1062 n_1412 w_1061 w_s_6d1705 w_2 md_f4341f ⟨Nat.le_of_ble_eq_true rfl, Nat.le_of_ble_eq_true rfl⟩ hG hZ hP hD hS hA 2 (wv_o (ci := 0) (yi_2 hL) (yt_2 hL)) rfl rfl rfl hl.1 rfl (Nat.le_of_ble_eq_true rfl) d_7_3_8 ⟨Nat.le_of_ble_eq_true rfl, Nat.le_of_ble_eq_true rfl⟩ (fun _ H locs hP hD hS => ?_)
    have hP : va_P z.1 classes (wv z ad E M0) H := hP
    have hD : va_D A (wv z ad E M0) := hD
    refine W.eq (g2 := F0 m 11 ls [.int r0]) rfl ?_
    refine lv_istore (lv' := [(4, .int r0), (3, .int 0), (0, .ref (ad 51)), (1, .int x1), (2, .int x2)]) hx hb d_7_3_11 hl (by decide) rfl (fun ls hl => ?_)
    refine lv_iconst (v := 0) hx hb d_7_3_13 (by decide +kernel) ?_
    refine lv_istore (lv' := [(5, .int 0), (4, .int r0), (3, .int 0), (0, .ref (ad 51)), (1, .int x1), (2, .int x2)]) hx hb d_7_3_14 hl (by decide) rfl (fun ls hl => ?_)
    obtain ⟨⟨t4, v4_3, v4_5, M4⟩, g4, h⟩ := bd_e h
    obtain ⟨ok4, h⟩ := ck_e h
    refine s_Fb_aheadOf_16 l z ad E x1 r0 hx hb hml hts hown hlocks hA hG hZ hL FU M0 0 0 t4 v4_3 v4_5 M4 g4 (fun e4 H locs ls hP hD hS hl => ?_) H locs ls hP hD hS (lv_sub hl [3, 4, 2, 1, 0] rfl)
    refine lv_iload_n hx hb d_7_3_44 rfl (lv_at hl 0 rfl) ?_
    obtain ⟨rfl, rfl⟩ := in2 h
    exact W.iret hx hb hr (fun t ht hW => qkA hP hD hS (fun k => k) rfl rfl ht) hS.2.2 d_7_3_45
  exact key _ _ _ hts hP hS
set_option maxRecDepth 100000 in
set_option maxHeartbeats 4000000 in
theorem b_Fb_writeTrial_9b (l : Launch) (z : Zz) (ad : Nat → Nat) (E : Ev) (M : Mm) (x1 : Int32) (t : Nat) (w1 : Int32) (N : Mm) {Q : State → Prop} {p : Program} {e : Env} {s : State} {m : MethodId} {below : List Frame} {meth : Method} {c : Code} {A : Nat → Prop} {args : Array Value} (hx : p.tables.exec = Jvm.exec) (hb : c.code = prog_7_method_5_code) (hml : c.maxLocals = 2) (hts : ∀ w ∈ WG, w.before args s = true) (hown : s.vm.findClass "Ballothall$FalseBallot" = some m.cls) (hlocks : meth.locks = false) (hA : ∀ q, s.heap.size ≤ q → A q) (hG : KG z s) (hZ : FZ z A s) (hL : Lay E) (h : Fb_writeTrial_9b E M x1 = some (t, w1, N)) (k0 : t = 0 → ∀ (H : Heap) (locs : List Loc) (ls : Array Slot), va_P z.1 classes (wv z ad E N) H → va_D A (wv z ad E N) → va_S A s.heap H locs → lv_has ls 2 [(0, .ref (ad 51)), (1, .int w1)] → W p l e (rmK 2 63 0 0) s m args below meth c H locs 0 0 Q (F0 m 9 ls [])) (k1 : t = 1 → ∀ (H : Heap) (locs : List Loc) (ls : Array Slot), va_P z.1 classes (wv z ad E N) H → va_D A (wv z ad E N) → va_S A s.heap H locs → lv_has ls 2 [(0, .ref (ad 51))] → W p l e (rmK 2 63 0 0) s m args below meth c H locs 0 0 Q (F0 m 40 ls [])) : ∀ (H : Heap) (locs : List Loc) (ls : Array Slot), va_P z.1 classes (wv z ad E M) H → va_D A (wv z ad E M) → va_S A s.heap H locs → lv_has ls 2 [(0, .ref (ad 51)), (1, .int x1)] → W p l e (rmK 2 63 0 0) s m args below meth c H locs 0 0 Q (F0 m 9 ls []) := by
  intro H locs ls hP hD hS hl
  unfold Fb_writeTrial_9b at h
  refine lv_iload_n hx hb d_7_5_9 rfl (lv_at hl 1 rfl) ?_
  refine lv_aload_n hx hb d_7_5_10 rfl (lv_at hl 0 rfl) ?_
  refine m_gr (j := 2) (C := "Ballothall$FalseBallot") (T := TX5) (N := 3) (ci := 5) (k := 0) hx hb hts iX5 hown hG hP (yi_51 hL) (yt_51 hL) rfl (by decide) w_152 (fun _ h9 => h9) rfl rfl (yr_51_0 hL) d_7_5_11 ?_
  refine m_giN (C := "Ballothall$BallotBox") (T := TX0) (N := 10) (ci := 0) (k := 2) hx hb hts iX0 hown hG hP (yi_2 hL) (yt_2 hL) rfl (by decide) n_54 rfl (fun _ h9 => h9) rfl rfl d_7_5_14 ?_
  refine lv_icmp_ge (tgt := 40) hx hb d_7_5_17 (by decide) (fun c9 => ?_) (fun c9 => ?_)
  · have h := ite_t c9 h
    obtain ⟨rfl, rfl, rfl⟩ := in3 h
    exact k1 rfl H locs ls hP hD hS (lv_sub hl [0] rfl)
  · have h := ite_f c9 h
    refine lv_aload_n hx hb d_7_5_20 rfl (lv_at hl 0 rfl) ?_
    refine m_gr (j := 2) (C := "Ballothall$FalseBallot") (T := TX5) (N := 3) (ci := 5) (k := 0) hx hb hts iX5 hown hG hP (yi_51 hL) (yt_51 hL) rfl (by decide) w_152 (fun _ h9 => h9) rfl rfl (yr_51_0 hL) d_7_5_21 ?_
    refine lv_aload_n hx hb d_7_5_24 rfl (lv_at hl 0 rfl) ?_
    refine m_gr (j := 52) (C := "Ballothall$FalseBallot") (T := TX5) (N := 3) (ci := 5) (k := 2) hx hb hts iX5 hown hG hP (yi_51 hL) (yt_51 hL) rfl (by decide) w_154 (fun _ h9 => h9) rfl rfl (yr_51_2 hL) d_7_5_25 ?_
    refine lv_iload_n hx hb d_7_5_28 rfl (lv_at hl 1 rfl) ?_
    obtain ⟨ok1, h⟩ := ck_e h
    refine m_ia hx hb hG hP (yi_52 hL) (yt_52 hL) ok1 d_7_5_29 ?_
    refine lv_iconst (v := 1) hx hb d_7_5_30 (by decide +kernel) ?_
    obtain ⟨M2, g2, h⟩ := bd_e h
    refine kVN (As := [.int (M.1 52 x1.toNatClampNeg), .int 1]) (rest := []) (s_Bx_rankOnTrial l z ad E M (M.1 52 x1.toNatClampNeg) 1 M2 hL g2) hx hb hml hown hts w_1035 n_1424 w_1034 w_s_4aec52 w_2 md_7079fc ⟨Nat.le_of_ble_eq_true rfl, Nat.le_of_ble_eq_true rfl⟩ hG hZ hP hD hS hA 2 (wv_o (ci := 0) (yi_2 hL) (yt_2 hL)) rfl rfl rfl hl.1 rfl (Nat.le_of_ble_eq_true rfl) d_7_5_31 ⟨Nat.le_of_ble_eq_true rfl, Nat.le_of_ble_eq_true rfl⟩ (fun _ H locs hP hD hS => ?_)
    have hP : va_P z.1 classes (wv z ad E M2) H := hP
    have hD : va_D A (wv z ad E M2) := hD
    refine W.eq (g2 := F0 m 34 ls []) rfl ?_
    refine lv_iinc (v := (x1 + 1)) (lv' := [(1, .int (x1 + 1)), (0, .ref (ad 51))]) hx hb d_7_5_34 hl (k := 1) rfl (congrArg (fun q => x1 + q) (show Int32.ofInt 1 = 1 by decide +kernel)) (by decide) rfl (fun ls hl => ?_)
    refine lv_goto (tgt := 9) hx hb d_7_5_37 (by decide) ?_
    obtain ⟨rfl, rfl, rfl⟩ := in3 h
    exact k0 rfl H locs ls hP hD hS (lv_sub hl [1, 0] rfl)
set_option maxRecDepth 100000 in
set_option maxHeartbeats 4000000 in
theorem s_Fb_writeTrial_9 (l : Launch) (z : Zz) (ad : Nat → Nat) (E : Ev) {Q : State → Prop} {p : Program} {e : Env} {s : State} {m : MethodId} {below : List Frame} {meth : Method} {c : Code} {A : Nat → Prop} {args : Array Value} (hx : p.tables.exec = Jvm.exec) (hb : c.code = prog_7_method_5_code) (hml : c.maxLocals = 2) (hts : ∀ w ∈ WG, w.before args s = true) (hown : s.vm.findClass "Ballothall$FalseBallot" = some m.cls) (hlocks : meth.locks = false) (hA : ∀ q, s.heap.size ≤ q → A q) (hG : KG z s) (hZ : FZ z A s) (hL : Lay E) : ∀ (fu : Nat) (M : Mm) (x1 : Int32) (t : Nat) (w1 : Int32) (N : Mm), l_Fb_writeTrial_9 E fu M x1 = some (t, w1, N) → (t = 1 → ∀ (H : Heap) (locs : List Loc) (ls : Array Slot), va_P z.1 classes (wv z ad E N) H → va_D A (wv z ad E N) → va_S A s.heap H locs → lv_has ls 2 [(0, .ref (ad 51))] → W p l e (rmK 2 63 0 0) s m args below meth c H locs 0 0 Q (F0 m 40 ls [])) → ∀ (H : Heap) (locs : List Loc) (ls : Array Slot), va_P z.1 classes (wv z ad E M) H → va_D A (wv z ad E M) → va_S A s.heap H locs → lv_has ls 2 [(0, .ref (ad 51)), (1, .int x1)] → W p l e (rmK 2 63 0 0) s m args below meth c H locs 0 0 Q (F0 m 9 ls []) := by
  intro fu
  induction fu with
  | zero =>
    intro M x1 t w1 N h
    have h : (none : Option (Nat × Int32 × Mm)) = some _ := h
    cases h
  | succ fu ih =>
    intro M x1 t w1 N h k1 H locs ls hP hD hS hl
    obtain ⟨⟨t0, w10, N0⟩, g0, h⟩ := bd_e h
    refine b_Fb_writeTrial_9b l z ad E M x1 t0 w10 N0 hx hb hml hts hown hlocks hA hG hZ hL g0 (fun e0 => ?_) (fun e0 => ?_) H locs ls hP hD hS hl
    · subst e0
      have h := ite_t rfl h
      exact ih N0 w10 t w1 N h k1
    · subst e0
      have h := ite_f (by decide) h
      obtain ⟨rfl, rfl, rfl⟩ := in3 h
      exact k1 rfl
set_option maxRecDepth 100000 in
set_option maxHeartbeats 4000000 in
theorem s_Fb_writeTrial (l : Launch) (z : Zz) (ad : Nat → Nat) (E : Ev) (M : Mm) (N : Mm) (hL : Lay E) (h : f_Fb_writeTrial E M = some N) : CT l z ⟨"Ballothall$FalseBallot", "writeTrial", "()V"⟩ prog_7_method_5_code 2 none [.ref (ad 51)] (wv z ad E M) 2 63 0 0 (fun _ => none) (fun _ => wv z ad E N) := by
  refine CT.of (own := "Ballothall$FalseBallot") (by decide +kernel) (Nat.le_of_ble_eq_true rfl) rfl (fun p e s m below meth c A ls hx hb hml hr hts hown hlocks hin hA hG hZ hP hD hS hl => ?_)
  have hl : lv_has ls 2 [(0, .ref (ad 51))] := hl
  have key : ∀ (H : Heap) (locs : List Loc) (args : Array Value), (∀ w ∈ WG, w.before args s = true) → va_P z.1 classes (wv z ad E M) H → va_S A s.heap H locs → W p l e (rmK 2 63 0 0) s m args below meth c H locs 0 0 (MQ below (QK z A (fun _ => none) (fun _ => wv z ad E N)) args s 0 0 A) (F0 m 0 ls []) := by
    intro H locs args hts hP hS
    unfold f_Fb_writeTrial at h
    refine lv_aload_n hx hb d_7_5_0 rfl (lv_at hl 0 rfl) ?_
    refine m_gr (j := 2) (C := "Ballothall$FalseBallot") (T := TX5) (N := 3) (ci := 5) (k := 0) hx hb hts iX5 hown hG hP (yi_51 hL) (yt_51 hL) rfl (by decide) w_152 (fun _ h9 => h9) rfl rfl (yr_51_0 hL) d_7_5_1 ?_
    obtain ⟨M0, g0, h⟩ := bd_e h
    refine kVN (As := []) (rest := []) (s_Bx_clearTrial l z ad E M M0 hL g0) hx hb hml hown hts w_1030 n_1423 w_1029 w_s_7c1b22 w_2 md_12822f ⟨Nat.le_of_ble_eq_true rfl, Nat.le_of_ble_eq_true rfl⟩ hG hZ hP hD hS hA 2 (wv_o (ci := 0) (yi_2 hL) (yt_2 hL)) rfl rfl rfl hl.1 rfl (Nat.le_of_ble_eq_true rfl) d_7_5_4 ⟨Nat.le_of_ble_eq_true rfl, Nat.le_of_ble_eq_true rfl⟩ (fun _ H locs hP hD hS => ?_)
    have hP : va_P z.1 classes (wv z ad E M0) H := hP
    have hD : va_D A (wv z ad E M0) := hD
    refine W.eq (g2 := F0 m 7 ls []) rfl ?_
    refine lv_iconst (v := 0) hx hb d_7_5_7 (by decide +kernel) ?_
    refine lv_istore_n (lv' := [(1, .int 0), (0, .ref (ad 51))]) hx hb d_7_5_8 rfl hl (by decide) rfl (fun ls hl => ?_)
    obtain ⟨⟨t3, v3_1, M3⟩, g3, h⟩ := bd_e h
    obtain ⟨ok3, h⟩ := ck_e h
    refine s_Fb_writeTrial_9 l z ad E hx hb hml hts hown hlocks hA hG hZ hL FU M0 0 t3 v3_1 M3 g3 (fun e3 H locs ls hP hD hS hl => ?_) H locs ls hP hD hS (lv_sub hl [1, 0] rfl)
    refine lv_aload_n hx hb d_7_5_40 rfl (lv_at hl 0 rfl) ?_
    refine m_gr (j := 2) (C := "Ballothall$FalseBallot") (T := TX5) (N := 3) (ci := 5) (k := 0) hx hb hts iX5 hown hG hP (yi_51 hL) (yt_51 hL) rfl (by decide) w_152 (fun _ h9 => h9) rfl rfl (yr_51_0 hL) d_7_5_41 ?_
    refine m_grN (j := 6) (C := "Ballothall$BallotBox") (T := TX0) (N := 10) (ci := 0) (k := 6) hx hb hts iX0 hown hG hP (yi_2 hL) (yt_2 hL) rfl (by decide) n_70 rfl (fun _ h9 => h9) rfl rfl (yr_2_6 hL) d_7_5_44 ?_
    refine lv_bipush (v := 30) hx hb d_7_5_47 (by decide +kernel) ?_
    refine lv_aload_n hx hb d_7_5_49 rfl (lv_at hl 0 rfl) ?_
    refine m_gr (j := 2) (C := "Ballothall$FalseBallot") (T := TX5) (N := 3) (ci := 5) (k := 0) hx hb hts iX5 hown hG hP (yi_51 hL) (yt_51 hL) rfl (by decide) w_152 (fun _ h9 => h9) rfl rfl (yr_51_0 hL) d_7_5_50 ?_
    refine m_grN (j := 8) (C := "Ballothall$BallotBox") (T := TX0) (N := 10) (ci := 0) (k := 8) hx hb hts iX0 hown hG hP (yi_2 hL) (yt_2 hL) rfl (by decide) n_75 rfl (fun _ h9 => h9) rfl rfl (yr_2_8 hL) d_7_5_53 ?_
    refine lv_bipush (v := 30) hx hb d_7_5_56 (by decide +kernel) ?_
    refine m_ar (k := 39) hx hb hG hP (yi_8 hL) (yt_8 hL) (by decide +kernel) ((ya_8 hL (by decide +kernel)).trans (by decide +kernel)) d_7_5_58 ?_
    refine lv_iconst (v := 0) hx hb d_7_5_59 (by decide +kernel) ?_
    refine m_ia hx hb hG hP (yi_39 hL) (yt_39 hL) (by decide +kernel) d_7_5_60 ?_
    refine nrm (x1 := (M3.1 39 0)) rfl ?_
    refine m_is hx hb hG hP hD hS (yi_6 hL) (yt_6 hL) (by decide +kernel) d_7_5_61 (fun H locs hP hD hS => ?_)
    have hP : va_P z.1 classes (wv z ad E (u2 M3 6 30 (M3.1 39 0))) H := hP
    have hD : va_D A (wv z ad E (u2 M3 6 30 (M3.1 39 0))) := hD
    obtain rfl := in1 h
    exact W.vret hx hb hr (fun t ht hW => qkA hP hD hS (fun k => k) rfl rfl ht) hS.2.2 d_7_5_62
  exact key _ _ _ hts hP hS
set_option maxRecDepth 100000 in
set_option maxHeartbeats 4000000 in
theorem s_Fb_swap (l : Launch) (z : Zz) (ad : Nat → Nat) (E : Ev) (M : Mm) (x1 : Int32) (x2 : Int32) (N : Mm) (hL : Lay E) (h : f_Fb_swap E M x1 x2 = some N) : CT l z ⟨"Ballothall$FalseBallot", "swap", "(II)V"⟩ prog_7_method_7_code 4 none [.ref (ad 51), .int x1, .int x2] (wv z ad E M) 0 20 0 0 (fun _ => none) (fun _ => wv z ad E N) := by
  refine CT.of (own := "Ballothall$FalseBallot") (by decide +kernel) (Nat.le_of_ble_eq_true rfl) rfl (fun p e s m below meth c A ls hx hb hml hr hts hown hlocks hin hA hG hZ hP hD hS hl => ?_)
  have hl : lv_has ls 4 [(0, .ref (ad 51)), (1, .int x1), (2, .int x2)] := hl
  have key : ∀ (H : Heap) (locs : List Loc) (args : Array Value), (∀ w ∈ WG, w.before args s = true) → va_P z.1 classes (wv z ad E M) H → va_S A s.heap H locs → W p l e (rmK 0 20 0 0) s m args below meth c H locs 0 0 (MQ below (QK z A (fun _ => none) (fun _ => wv z ad E N)) args s 0 0 A) (F0 m 0 ls []) := by
    intro H locs args hts hP hS
    unfold f_Fb_swap at h
    refine lv_aload_n hx hb d_7_7_0 rfl (lv_at hl 0 rfl) ?_
    refine m_gr (j := 52) (C := "Ballothall$FalseBallot") (T := TX5) (N := 3) (ci := 5) (k := 2) hx hb hts iX5 hown hG hP (yi_51 hL) (yt_51 hL) rfl (by decide) w_154 (fun _ h9 => h9) rfl rfl (yr_51_2 hL) d_7_7_1 ?_
    refine lv_iload_n hx hb d_7_7_4 rfl (lv_at hl 1 rfl) ?_
    obtain ⟨ok0, h⟩ := ck_e h
    refine m_ia hx hb hG hP (yi_52 hL) (yt_52 hL) ok0 d_7_7_5 ?_
    refine lv_istore_n (lv' := [(3, .int (M.1 52 x1.toNatClampNeg)), (0, .ref (ad 51)), (1, .int x1), (2, .int x2)]) hx hb d_7_7_6 rfl hl (by decide) rfl (fun ls hl => ?_)
    refine lv_aload_n hx hb d_7_7_7 rfl (lv_at hl 1 rfl) ?_
    refine m_gr (j := 52) (C := "Ballothall$FalseBallot") (T := TX5) (N := 3) (ci := 5) (k := 2) hx hb hts iX5 hown hG hP (yi_51 hL) (yt_51 hL) rfl (by decide) w_154 (fun _ h9 => h9) rfl rfl (yr_51_2 hL) d_7_7_8 ?_
    refine lv_iload_n hx hb d_7_7_11 rfl (lv_at hl 2 rfl) ?_
    refine lv_aload_n hx hb d_7_7_12 rfl (lv_at hl 1 rfl) ?_
    refine m_gr (j := 52) (C := "Ballothall$FalseBallot") (T := TX5) (N := 3) (ci := 5) (k := 2) hx hb hts iX5 hown hG hP (yi_51 hL) (yt_51 hL) rfl (by decide) w_154 (fun _ h9 => h9) rfl rfl (yr_51_2 hL) d_7_7_13 ?_
    refine lv_iload_n hx hb d_7_7_16 rfl (lv_at hl 3 rfl) ?_
    obtain ⟨ok1, h⟩ := ck_e h
    refine m_ia hx hb hG hP (yi_52 hL) (yt_52 hL) ok1 d_7_7_17 ?_
    obtain ⟨ok2, h⟩ := ck_e h
    refine m_is hx hb hG hP hD hS (yi_52 hL) (yt_52 hL) ok2 d_7_7_18 (fun H locs hP hD hS => ?_)
    have hP : va_P z.1 classes (wv z ad E (u2 M 52 x1.toNatClampNeg (M.1 52 x2.toNatClampNeg))) H := hP
    have hD : va_D A (wv z ad E (u2 M 52 x1.toNatClampNeg (M.1 52 x2.toNatClampNeg))) := hD
    refine lv_aload_n hx hb d_7_7_19 rfl (lv_at hl 1 rfl) ?_
    refine m_gr (j := 52) (C := "Ballothall$FalseBallot") (T := TX5) (N := 3) (ci := 5) (k := 2) hx hb hts iX5 hown hG hP (yi_51 hL) (yt_51 hL) rfl (by decide) w_154 (fun _ h9 => h9) rfl rfl (yr_51_2 hL) d_7_7_20 ?_
    refine lv_iload_n hx hb d_7_7_23 rfl (lv_at hl 3 rfl) ?_
    refine lv_iload_n hx hb d_7_7_24 rfl (lv_at hl 0 rfl) ?_
    obtain ⟨ok3, h⟩ := ck_e h
    refine m_is hx hb hG hP hD hS (yi_52 hL) (yt_52 hL) ok3 d_7_7_25 (fun H locs hP hD hS => ?_)
    have hP : va_P z.1 classes (wv z ad E (u2 (u2 M 52 x1.toNatClampNeg (M.1 52 x2.toNatClampNeg)) 52 x2.toNatClampNeg (M.1 52 x1.toNatClampNeg))) H := hP
    have hD : va_D A (wv z ad E (u2 (u2 M 52 x1.toNatClampNeg (M.1 52 x2.toNatClampNeg)) 52 x2.toNatClampNeg (M.1 52 x1.toNatClampNeg))) := hD
    obtain ⟨M4, e4, h⟩ := nb_e h
    rw [← e4] at hP hD
    obtain rfl := in1 h
    exact W.vret hx hb hr (fun t ht hW => qkA hP hD hS (fun k => k) rfl rfl ht) hS.2.2 d_7_7_26
  exact key _ _ _ hts hP hS
set_option maxRecDepth 100000 in
set_option maxHeartbeats 4000000 in
theorem b_Fb_goToNextOrder_14b (l : Launch) (z : Zz) (ad : Nat → Nat) (E : Ev) (M : Mm) (x1 : Int32) (x2 : Int32) (t : Nat) (w2 : Int32) (N : Mm) {Q : State → Prop} {p : Program} {e : Env} {s : State} {m : MethodId} {below : List Frame} {meth : Method} {c : Code} {A : Nat → Prop} {args : Array Value} (hx : p.tables.exec = Jvm.exec) (hb : c.code = prog_7_method_6_code) (hml : c.maxLocals = 6) (hts : ∀ w ∈ WG, w.before args s = true) (hown : s.vm.findClass "Ballothall$FalseBallot" = some m.cls) (hlocks : meth.locks = false) (hA : ∀ q, s.heap.size ≤ q → A q) (hG : KG z s) (hZ : FZ z A s) (hL : Lay E) (h : Fb_goToNextOrder_14b E M x1 x2 = some (t, w2, N)) (k0 : t = 0 → ∀ (H : Heap) (locs : List Loc) (ls : Array Slot), va_P z.1 classes (wv z ad E N) H → va_D A (wv z ad E N) → va_S A s.heap H locs → lv_has ls 6 [(0, .ref (ad 51)), (1, .int x1), (2, .int w2)] → W p l e (rmK 1 43 0 0) s m args below meth c H locs 0 0 Q (F0 m 14 ls [])) (k1 : t = 1 → ∀ (H : Heap) (locs : List Loc) (ls : Array Slot), va_P z.1 classes (wv z ad E N) H → va_D A (wv z ad E N) → va_S A s.heap H locs → lv_has ls 6 [(0, .ref (ad 51)), (1, .int x1), (2, .int w2)] → W p l e (rmK 1 43 0 0) s m args below meth c H locs 0 0 Q (F0 m 41 ls [])) : ∀ (H : Heap) (locs : List Loc) (ls : Array Slot), va_P z.1 classes (wv z ad E M) H → va_D A (wv z ad E M) → va_S A s.heap H locs → lv_has ls 6 [(0, .ref (ad 51)), (1, .int x1), (2, .int x2)] → W p l e (rmK 1 43 0 0) s m args below meth c H locs 0 0 Q (F0 m 14 ls []) := by
  intro H locs ls hP hD hS hl
  unfold Fb_goToNextOrder_14b at h
  refine lv_iload_n hx hb d_7_6_14 rfl (lv_at hl 2 rfl) ?_
  refine lv_if_lt (tgt := 41) hx hb d_7_6_15 (by decide) (fun c9 => ?_) (fun c9 => ?_)
  · have h := ite_t c9 h
    obtain ⟨rfl, rfl, rfl⟩ := in3 h
    exact k1 rfl H locs ls hP hD hS (lv_sub hl [0, 1, 2] rfl)
  · have h := ite_f c9 h
    refine lv_aload_n hx hb d_7_6_18 rfl (lv_at hl 0 rfl) ?_
    refine m_gr (j := 52) (C := "Ballothall$FalseBallot") (T := TX5) (N := 3) (ci := 5) (k := 2) hx hb hts iX5 hown hG hP (yi_51 hL) (yt_51 hL) rfl (by decide) w_154 (fun _ h9 => h9) rfl rfl (yr_51_2 hL) d_7_6_19 ?_
    refine lv_iload_n hx hb d_7_6_22 rfl (lv_at hl 2 rfl) ?_
    obtain ⟨ok1, h⟩ := ck_e h
    refine m_ia hx hb hG hP (yi_52 hL) (yt_52 hL) ok1 d_7_6_23 ?_
    refine lv_aload_n hx hb d_7_6_24 rfl (lv_at hl 0 rfl) ?_
    refine m_gr (j := 52) (C := "Ballothall$FalseBallot") (T := TX5) (N := 3) (ci := 5) (k := 2) hx hb hts iX5 hown hG hP (yi_51 hL) (yt_51 hL) rfl (by decide) w_154 (fun _ h9 => h9) rfl rfl (yr_51_2 hL) d_7_6_25 ?_
    refine lv_iload_n hx hb d_7_6_28 rfl (lv_at hl 2 rfl) ?_
    refine lv_iconst (v := 1) hx hb d_7_6_29 (by decide +kernel) ?_
    refine lv_iadd hx hb d_7_6_30 ?_
    obtain ⟨ok2, h⟩ := ck_e h
    refine m_ia hx hb hG hP (yi_52 hL) (yt_52 hL) ok2 d_7_6_31 ?_
    refine lv_icmp_le (tgt := 41) hx hb d_7_6_32 (by decide) (fun c9 => ?_) (fun c9 => ?_)
    · have h := ite_t c9 h
      obtain ⟨rfl, rfl, rfl⟩ := in3 h
      exact k1 rfl H locs ls hP hD hS (lv_sub hl [0, 1, 2] rfl)
    · have h := ite_f c9 h
      refine lv_iinc (v := (x2 + (-1))) (lv' := [(2, .int (x2 + (-1))), (0, .ref (ad 51)), (1, .int x1)]) hx hb d_7_6_35 hl (k := 2) rfl (congrArg (fun q => x2 + q) (show Int32.ofInt (-1) = (-1) by decide +kernel)) (by decide) rfl (fun ls hl => ?_)
      refine lv_goto (tgt := 14) hx hb d_7_6_38 (by decide) ?_
      obtain ⟨rfl, rfl, rfl⟩ := in3 h
      exact k0 rfl H locs ls hP hD hS (lv_sub hl [1, 2, 0] rfl)
set_option maxRecDepth 100000 in
set_option maxHeartbeats 4000000 in
theorem s_Fb_goToNextOrder_14 (l : Launch) (z : Zz) (ad : Nat → Nat) (E : Ev) (x1 : Int32) {Q : State → Prop} {p : Program} {e : Env} {s : State} {m : MethodId} {below : List Frame} {meth : Method} {c : Code} {A : Nat → Prop} {args : Array Value} (hx : p.tables.exec = Jvm.exec) (hb : c.code = prog_7_method_6_code) (hml : c.maxLocals = 6) (hts : ∀ w ∈ WG, w.before args s = true) (hown : s.vm.findClass "Ballothall$FalseBallot" = some m.cls) (hlocks : meth.locks = false) (hA : ∀ q, s.heap.size ≤ q → A q) (hG : KG z s) (hZ : FZ z A s) (hL : Lay E) : ∀ (fu : Nat) (M : Mm) (x2 : Int32) (t : Nat) (w2 : Int32) (N : Mm), l_Fb_goToNextOrder_14 E x1 fu M x2 = some (t, w2, N) → (t = 1 → ∀ (H : Heap) (locs : List Loc) (ls : Array Slot), va_P z.1 classes (wv z ad E N) H → va_D A (wv z ad E N) → va_S A s.heap H locs → lv_has ls 6 [(0, .ref (ad 51)), (1, .int x1), (2, .int w2)] → W p l e (rmK 1 43 0 0) s m args below meth c H locs 0 0 Q (F0 m 41 ls [])) → ∀ (H : Heap) (locs : List Loc) (ls : Array Slot), va_P z.1 classes (wv z ad E M) H → va_D A (wv z ad E M) → va_S A s.heap H locs → lv_has ls 6 [(0, .ref (ad 51)), (1, .int x1), (2, .int x2)] → W p l e (rmK 1 43 0 0) s m args below meth c H locs 0 0 Q (F0 m 14 ls []) := by
  intro fu
  induction fu with
  | zero =>
    intro M x2 t w2 N h
    have h : (none : Option (Nat × Int32 × Mm)) = some _ := h
    cases h
  | succ fu ih =>
    intro M x2 t w2 N h k1 H locs ls hP hD hS hl
    obtain ⟨⟨t0, w20, N0⟩, g0, h⟩ := bd_e h
    refine b_Fb_goToNextOrder_14b l z ad E M x1 x2 t0 w20 N0 hx hb hml hts hown hlocks hA hG hZ hL g0 (fun e0 => ?_) (fun e0 => ?_) H locs ls hP hD hS hl
    · subst e0
      have h := ite_t rfl h
      exact ih N0 w20 t w2 N h k1
    · subst e0
      have h := ite_f (by decide) h
      obtain ⟨rfl, rfl, rfl⟩ := in3 h
      exact k1 rfl
set_option maxRecDepth 100000 in
set_option maxHeartbeats 4000000 in
theorem b_Fb_goToNextOrder_48b (l : Launch) (z : Zz) (ad : Nat → Nat) (E : Ev) (M : Mm) (x1 : Int32) (x2 : Int32) (x3 : Int32) (t : Nat) (w3 : Int32) (N : Mm) {Q : State → Prop} {p : Program} {e : Env} {s : State} {m : MethodId} {below : List Frame} {meth : Method} {c : Code} {A : Nat → Prop} {args : Array Value} (hx : p.tables.exec = Jvm.exec) (hb : c.code = prog_7_method_6_code) (hml : c.maxLocals = 6) (hts : ∀ w ∈ WG, w.before args s = true) (hown : s.vm.findClass "Ballothall$FalseBallot" = some m.cls) (hlocks : meth.locks = false) (hA : ∀ q, s.heap.size ≤ q → A q) (hG : KG z s) (hZ : FZ z A s) (hL : Lay E) (h : Fb_goToNextOrder_48b E M x1 x2 x3 = some (t, w3, N)) (k0 : t = 0 → ∀ (H : Heap) (locs : List Loc) (ls : Array Slot), va_P z.1 classes (wv z ad E N) H → va_D A (wv z ad E N) → va_S A s.heap H locs → lv_has ls 6 [(0, .ref (ad 51)), (1, .int x1), (2, .int x2), (3, .int w3)] → W p l e (rmK 1 43 0 0) s m args below meth c H locs 0 0 Q (F0 m 48 ls [])) (k1 : t = 1 → ∀ (H : Heap) (locs : List Loc) (ls : Array Slot), va_P z.1 classes (wv z ad E N) H → va_D A (wv z ad E N) → va_S A s.heap H locs → lv_has ls 6 [(0, .ref (ad 51)), (1, .int x1), (2, .int x2), (3, .int w3)] → W p l e (rmK 1 43 0 0) s m args below meth c H locs 0 0 Q (F0 m 74 ls [])) : ∀ (H : Heap) (locs : List Loc) (ls : Array Slot), va_P z.1 classes (wv z ad E M) H → va_D A (wv z ad E M) → va_S A s.heap H locs → lv_has ls 6 [(0, .ref (ad 51)), (1, .int x1), (2, .int x2), (3, .int x3)] → W p l e (rmK 1 43 0 0) s m args below meth c H locs 0 0 Q (F0 m 48 ls []) := by
  intro H locs ls hP hD hS hl
  unfold Fb_goToNextOrder_48b at h
  refine lv_iload_n hx hb d_7_6_48 rfl (lv_at hl 3 rfl) ?_
  refine lv_iload_n hx hb d_7_6_49 rfl (lv_at hl 2 rfl) ?_
  refine lv_icmp_le (tgt := 74) hx hb d_7_6_50 (by decide) (fun c9 => ?_) (fun c9 => ?_)
  · have h := ite_t c9 h
    obtain ⟨rfl, rfl, rfl⟩ := in3 h
    exact k1 rfl H locs ls hP hD hS (lv_sub hl [0, 1, 2, 3] rfl)
  · have h := ite_f c9 h
    refine lv_aload_n hx hb d_7_6_53 rfl (lv_at hl 0 rfl) ?_
    refine m_gr (j := 52) (C := "Ballothall$FalseBallot") (T := TX5) (N := 3) (ci := 5) (k := 2) hx hb hts iX5 hown hG hP (yi_51 hL) (yt_51 hL) rfl (by decide) w_154 (fun _ h9 => h9) rfl rfl (yr_51_2 hL) d_7_6_54 ?_
    refine lv_iload_n hx hb d_7_6_57 rfl (lv_at hl 3 rfl) ?_
    obtain ⟨ok4, h⟩ := ck_e h
    refine m_ia hx hb hG hP (yi_52 hL) (yt_52 hL) ok4 d_7_6_58 ?_
    refine lv_aload_n hx hb d_7_6_59 rfl (lv_at hl 0 rfl) ?_
    refine m_gr (j := 52) (C := "Ballothall$FalseBallot") (T := TX5) (N := 3) (ci := 5) (k := 2) hx hb hts iX5 hown hG hP (yi_51 hL) (yt_51 hL) rfl (by decide) w_154 (fun _ h9 => h9) rfl rfl (yr_51_2 hL) d_7_6_60 ?_
    refine lv_iload_n hx hb d_7_6_63 rfl (lv_at hl 2 rfl) ?_
    obtain ⟨ok5, h⟩ := ck_e h
    refine m_ia hx hb hG hP (yi_52 hL) (yt_52 hL) ok5 d_7_6_64 ?_
    refine lv_icmp_ge (tgt := 74) hx hb d_7_6_65 (by decide) (fun c9 => ?_) (fun c9 => ?_)
    · have h := ite_t c9 h
      obtain ⟨rfl, rfl, rfl⟩ := in3 h
      exact k1 rfl H locs ls hP hD hS (lv_sub hl [0, 1, 2, 3] rfl)
    · have h := ite_f c9 h
      refine lv_iinc (v := (x3 + (-1))) (lv' := [(3, .int (x3 + (-1))), (0, .ref (ad 51)), (1, .int x1), (2, .int x2)]) hx hb d_7_6_68 hl (k := 3) rfl (congrArg (fun q => x3 + q) (show Int32.ofInt (-1) = (-1) by decide +kernel)) (by decide) rfl (fun ls hl => ?_)
      refine lv_goto (tgt := 48) hx hb d_7_6_71 (by decide) ?_
      obtain ⟨rfl, rfl, rfl⟩ := in3 h
      exact k0 rfl H locs ls hP hD hS (lv_sub hl [1, 2, 3, 0] rfl)
set_option maxRecDepth 100000 in
set_option maxHeartbeats 4000000 in
theorem s_Fb_goToNextOrder_48 (l : Launch) (z : Zz) (ad : Nat → Nat) (E : Ev) (x1 : Int32) (x2 : Int32) {Q : State → Prop} {p : Program} {e : Env} {s : State} {m : MethodId} {below : List Frame} {meth : Method} {c : Code} {A : Nat → Prop} {args : Array Value} (hx : p.tables.exec = Jvm.exec) (hb : c.code = prog_7_method_6_code) (hml : c.maxLocals = 6) (hts : ∀ w ∈ WG, w.before args s = true) (hown : s.vm.findClass "Ballothall$FalseBallot" = some m.cls) (hlocks : meth.locks = false) (hA : ∀ q, s.heap.size ≤ q → A q) (hG : KG z s) (hZ : FZ z A s) (hL : Lay E) : ∀ (fu : Nat) (M : Mm) (x3 : Int32) (t : Nat) (w3 : Int32) (N : Mm), l_Fb_goToNextOrder_48 E x1 x2 fu M x3 = some (t, w3, N) → (t = 1 → ∀ (H : Heap) (locs : List Loc) (ls : Array Slot), va_P z.1 classes (wv z ad E N) H → va_D A (wv z ad E N) → va_S A s.heap H locs → lv_has ls 6 [(0, .ref (ad 51)), (1, .int x1), (2, .int x2), (3, .int w3)] → W p l e (rmK 1 43 0 0) s m args below meth c H locs 0 0 Q (F0 m 74 ls [])) → ∀ (H : Heap) (locs : List Loc) (ls : Array Slot), va_P z.1 classes (wv z ad E M) H → va_D A (wv z ad E M) → va_S A s.heap H locs → lv_has ls 6 [(0, .ref (ad 51)), (1, .int x1), (2, .int x2), (3, .int x3)] → W p l e (rmK 1 43 0 0) s m args below meth c H locs 0 0 Q (F0 m 48 ls []) := by
  intro fu
  induction fu with
  | zero =>
    intro M x3 t w3 N h
    have h : (none : Option (Nat × Int32 × Mm)) = some _ := h
    cases h
  | succ fu ih =>
    intro M x3 t w3 N h k1 H locs ls hP hD hS hl
    obtain ⟨⟨t0, w30, N0⟩, g0, h⟩ := bd_e h
    refine b_Fb_goToNextOrder_48b l z ad E M x1 x2 x3 t0 w30 N0 hx hb hml hts hown hlocks hA hG hZ hL g0 (fun e0 => ?_) (fun e0 => ?_) H locs ls hP hD hS hl
    · subst e0
      have h := ite_t rfl h
      exact ih N0 w30 t w3 N h k1
    · subst e0
      have h := ite_f (by decide) h
      obtain ⟨rfl, rfl, rfl⟩ := in3 h
      exact k1 rfl
set_option maxRecDepth 100000 in
set_option maxHeartbeats 4000000 in
theorem b_Fb_goToNextOrder_88b (l : Launch) (z : Zz) (ad : Nat → Nat) (E : Ev) (M : Mm) (x4 : Int32) (x5 : Int32) (t : Nat) (w4 : Int32) (w5 : Int32) (N : Mm) {Q : State → Prop} {p : Program} {e : Env} {s : State} {m : MethodId} {below : List Frame} {meth : Method} {c : Code} {A : Nat → Prop} {args : Array Value} (hx : p.tables.exec = Jvm.exec) (hb : c.code = prog_7_method_6_code) (hml : c.maxLocals = 6) (hts : ∀ w ∈ WG, w.before args s = true) (hown : s.vm.findClass "Ballothall$FalseBallot" = some m.cls) (hlocks : meth.locks = false) (hA : ∀ q, s.heap.size ≤ q → A q) (hG : KG z s) (hZ : FZ z A s) (hL : Lay E) (h : Fb_goToNextOrder_88b E M x4 x5 = some (t, w4, w5, N)) (k0 : t = 0 → ∀ (H : Heap) (locs : List Loc) (ls : Array Slot), va_P z.1 classes (wv z ad E N) H → va_D A (wv z ad E N) → va_S A s.heap H locs → lv_has ls 6 [(0, .ref (ad 51)), (4, .int w4), (5, .int w5)] → W p l e (rmK 1 43 0 0) s m args below meth c H locs 0 0 Q (F0 m 88 ls [])) (k1 : t = 1 → ∀ (H : Heap) (locs : List Loc) (ls : Array Slot), va_P z.1 classes (wv z ad E N) H → va_D A (wv z ad E N) → va_S A s.heap H locs → lv_has ls 6 [] → W p l e (rmK 1 43 0 0) s m args below meth c H locs 0 0 Q (F0 m 112 ls [])) : ∀ (H : Heap) (locs : List Loc) (ls : Array Slot), va_P z.1 classes (wv z ad E M) H → va_D A (wv z ad E M) → va_S A s.heap H locs → lv_has ls 6 [(0, .ref (ad 51)), (4, .int x4), (5, .int x5)] → W p l e (rmK 1 43 0 0) s m args below meth c H locs 0 0 Q (F0 m 88 ls []) := by
  intro H locs ls hP hD hS hl
  unfold Fb_goToNextOrder_88b at h
  refine lv_iload hx hb d_7_6_88 (lv_at hl 1 rfl) ?_
  refine lv_iload hx hb d_7_6_90 (lv_at hl 2 rfl) ?_
  refine lv_icmp_ge (tgt := 112) hx hb d_7_6_92 (by decide) (fun c9 => ?_) (fun c9 => ?_)
  · have h := ite_t c9 h
    obtain ⟨rfl, rfl, rfl, rfl⟩ := in4 h
    exact k1 rfl H locs ls hP hD hS (lv_sub hl [] rfl)
  · have h := ite_f c9 h
    refine lv_aload_n hx hb d_7_6_95 rfl (lv_at hl 0 rfl) ?_
    refine lv_iload hx hb d_7_6_96 (lv_at hl 1 rfl) ?_
    refine lv_iload hx hb d_7_6_98 (lv_at hl 2 rfl) ?_
    obtain ⟨M8, g8, h⟩ := bd_e h
    refine kV (As := [.int x4, .int x5]) (rest := []) (s_Fb_swap l z ad E M x4 x5 M8 hL g8) hx hb hml hown hts w_1433 w_1430 w_1432 w_s_4247c6 w_4 md_950878 ⟨Nat.le_of_ble_eq_true rfl, Nat.le_of_ble_eq_true rfl⟩ hG hZ hP hD hS hA 51 (wv_o (ci := 5) (yi_51 hL) (yt_51 hL)) rfl rfl rfl hl.1 rfl (Nat.le_of_ble_eq_true rfl) d_7_6_100 ⟨Nat.le_of_ble_eq_true rfl, Nat.le_of_ble_eq_true rfl⟩ (fun _ H locs hP hD hS => ?_)
    have hP : va_P z.1 classes (wv z ad E M8) H := hP
    have hD : va_D A (wv z ad E M8) := hD
    refine W.eq (g2 := F0 m 103 ls []) rfl ?_
    refine lv_iinc (v := (x4 + 1)) (lv' := [(4, .int (x4 + 1)), (0, .ref (ad 51)), (5, .int x5)]) hx hb d_7_6_103 hl (k := 1) rfl (congrArg (fun q => x4 + q) (show Int32.ofInt 1 = 1 by decide +kernel)) (by decide) rfl (fun ls hl => ?_)
    refine lv_iinc (v := (x5 + (-1))) (lv' := [(5, .int (x5 + (-1))), (4, .int (x4 + 1)), (0, .ref (ad 51))]) hx hb d_7_6_106 hl (k := 2) rfl (congrArg (fun q => x5 + q) (show Int32.ofInt (-1) = (-1) by decide +kernel)) (by decide) rfl (fun ls hl => ?_)
    refine lv_goto (tgt := 88) hx hb d_7_6_109 (by decide) ?_
    obtain ⟨rfl, rfl, rfl, rfl⟩ := in4 h
    exact k0 rfl H locs ls hP hD hS (lv_sub hl [2, 1, 0] rfl)
set_option maxRecDepth 100000 in
set_option maxHeartbeats 4000000 in
theorem s_Fb_goToNextOrder_88 (l : Launch) (z : Zz) (ad : Nat → Nat) (E : Ev) {Q : State → Prop} {p : Program} {e : Env} {s : State} {m : MethodId} {below : List Frame} {meth : Method} {c : Code} {A : Nat → Prop} {args : Array Value} (hx : p.tables.exec = Jvm.exec) (hb : c.code = prog_7_method_6_code) (hml : c.maxLocals = 6) (hts : ∀ w ∈ WG, w.before args s = true) (hown : s.vm.findClass "Ballothall$FalseBallot" = some m.cls) (hlocks : meth.locks = false) (hA : ∀ q, s.heap.size ≤ q → A q) (hG : KG z s) (hZ : FZ z A s) (hL : Lay E) : ∀ (fu : Nat) (M : Mm) (x4 : Int32) (x5 : Int32) (t : Nat) (w4 : Int32) (w5 : Int32) (N : Mm), l_Fb_goToNextOrder_88 E fu M x4 x5 = some (t, w4, w5, N) → (t = 1 → ∀ (H : Heap) (locs : List Loc) (ls : Array Slot), va_P z.1 classes (wv z ad E N) H → va_D A (wv z ad E N) → va_S A s.heap H locs → lv_has ls 6 [] → W p l e (rmK 1 43 0 0) s m args below meth c H locs 0 0 Q (F0 m 112 ls [])) → ∀ (H : Heap) (locs : List Loc) (ls : Array Slot), va_P z.1 classes (wv z ad E M) H → va_D A (wv z ad E M) → va_S A s.heap H locs → lv_has ls 6 [(0, .ref (ad 51)), (4, .int x4), (5, .int x5)] → W p l e (rmK 1 43 0 0) s m args below meth c H locs 0 0 Q (F0 m 88 ls []) := by
  intro fu
  induction fu with
  | zero =>
    intro M x4 x5 t w4 w5 N h
    have h : (none : Option (Nat × Int32 × Int32 × Mm)) = some _ := h
    cases h
  | succ fu ih =>
    intro M x4 x5 t w4 w5 N h k1 H locs ls hP hD hS hl
    obtain ⟨⟨t0, w40, w50, N0⟩, g0, h⟩ := bd_e h
    refine b_Fb_goToNextOrder_88b l z ad E M x4 x5 t0 w40 w50 N0 hx hb hml hts hown hlocks hA hG hZ hL g0 (fun e0 => ?_) (fun e0 => ?_) H locs ls hP hD hS hl
    · subst e0
      have h := ite_t rfl h
      exact ih N0 w40 w50 t w4 w5 N h k1
    · subst e0
      have h := ite_f (by decide) h
      obtain ⟨rfl, rfl, rfl, rfl⟩ := in4 h
      exact k1 rfl
set_option maxRecDepth 100000 in
set_option maxHeartbeats 4000000 in
theorem b_Fb_goToNextOrder_j74 (l : Launch) (z : Zz) (ad : Nat → Nat) (E : Ev) (M : Mm) (x1 : Int32) (x2 : Int32) (x3 : Int32) (N : Mm) {p : Program} {e : Env} {s : State} {m : MethodId} {below : List Frame} {meth : Method} {c : Code} {A : Nat → Prop} {args : Array Value} (hx : p.tables.exec = Jvm.exec) (hb : c.code = prog_7_method_6_code) (hml : c.maxLocals = 6) (hts : ∀ w ∈ WG, w.before args s = true) (hown : s.vm.findClass "Ballothall$FalseBallot" = some m.cls) (hlocks : meth.locks = false) (hA : ∀ q, s.heap.size ≤ q → A q) (hG : KG z s) (hZ : FZ z A s) (hL : Lay E) (hr : meth.sig.returnType = none) (h : Fb_goToNextOrder_j74 E M x1 x2 x3 = some N) : ∀ (H : Heap) (locs : List Loc) (ls : Array Slot), va_P z.1 classes (wv z ad E M) H → va_D A (wv z ad E M) → va_S A s.heap H locs → lv_has ls 6 [(0, .ref (ad 51)), (1, .int x1), (2, .int x2), (3, .int x3)] → W p l e (rmK 1 43 0 0) s m args below meth c H locs 0 0 (MQ below (QK z A (fun _ => none) (fun _ => wv z ad E N)) args s 0 0 A) (F0 m 74 ls []) := by
  intro H locs ls hP hD hS hl
  unfold Fb_goToNextOrder_j74 at h
  refine lv_aload_n hx hb d_7_6_74 rfl (lv_at hl 0 rfl) ?_
  refine lv_iload_n hx hb d_7_6_75 rfl (lv_at hl 2 rfl) ?_
  refine lv_iload_n hx hb d_7_6_76 rfl (lv_at hl 3 rfl) ?_
  obtain ⟨M7, g7, h⟩ := bd_e h
  refine kV (As := [.int x2, .int x3]) (rest := []) (s_Fb_swap l z ad E M x2 x3 M7 hL g7) hx hb hml hown hts w_1433 w_1430 w_1432 w_s_4247c6 w_4 md_950878 ⟨Nat.le_of_ble_eq_true rfl, Nat.le_of_ble_eq_true rfl⟩ hG hZ hP hD hS hA 51 (wv_o (ci := 5) (yi_51 hL) (yt_51 hL)) rfl rfl rfl hl.1 rfl (Nat.le_of_ble_eq_true rfl) d_7_6_77 ⟨Nat.le_of_ble_eq_true rfl, Nat.le_of_ble_eq_true rfl⟩ (fun _ H locs hP hD hS => ?_)
  have hP : va_P z.1 classes (wv z ad E M7) H := hP
  have hD : va_D A (wv z ad E M7) := hD
  refine W.eq (g2 := F0 m 80 ls []) rfl ?_
  refine lv_iload_n hx hb d_7_6_80 rfl (lv_at hl 2 rfl) ?_
  refine lv_iconst (v := 1) hx hb d_7_6_81 (by decide +kernel) ?_
  refine lv_iadd hx hb d_7_6_82 ?_
  refine lv_istore (lv' := [(4, .int (x2 + (1 : Int32))), (0, .ref (ad 51)), (1, .int x1), (2, .int x2), (3, .int x3)]) hx hb d_7_6_83 hl (by decide) rfl (fun ls hl => ?_)
  refine lv_iload_n hx hb d_7_6_85 rfl (lv_at hl 2 rfl) ?_
  refine lv_istore (lv' := [(5, .int x1), (4, .int (x2 + (1 : Int32))), (0, .ref (ad 51)), (1, .int x1), (2, .int x2), (3, .int x3)]) hx hb d_7_6_86 hl (by decide) rfl (fun ls hl => ?_)
  obtain ⟨⟨t9, v9_4, v9_5, M9⟩, g9, h⟩ := bd_e h
  obtain ⟨ok9, h⟩ := ck_e h
  refine s_Fb_goToNextOrder_88 l z ad E hx hb hml hts hown hlocks hA hG hZ hL FU M7 (x2 + (1 : Int32)) x1 t9 v9_4 v9_5 M9 g9 (fun e9 H locs ls hP hD hS hl => ?_) H locs ls hP hD hS (lv_sub hl [2, 1, 0] rfl)
  obtain rfl := in1 h
  exact W.vret hx hb hr (fun t ht hW => qkA hP hD hS (fun k => k) rfl rfl ht) hS.2.2 d_7_6_112
set_option maxRecDepth 100000 in
set_option maxHeartbeats 4000000 in
theorem b_Fb_goToNextOrder_j41 (l : Launch) (z : Zz) (ad : Nat → Nat) (E : Ev) (M : Mm) (x1 : Int32) (x2 : Int32) (N : Mm) {p : Program} {e : Env} {s : State} {m : MethodId} {below : List Frame} {meth : Method} {c : Code} {A : Nat → Prop} {args : Array Value} (hx : p.tables.exec = Jvm.exec) (hb : c.code = prog_7_method_6_code) (hml : c.maxLocals = 6) (hts : ∀ w ∈ WG, w.before args s = true) (hown : s.vm.findClass "Ballothall$FalseBallot" = some m.cls) (hlocks : meth.locks = false) (hA : ∀ q, s.heap.size ≤ q → A q) (hG : KG z s) (hZ : FZ z A s) (hL : Lay E) (hr : meth.sig.returnType = none) (h : Fb_goToNextOrder_j41 E M x1 x2 = some N) : ∀ (H : Heap) (locs : List Loc) (ls : Array Slot), va_P z.1 classes (wv z ad E M) H → va_D A (wv z ad E M) → va_S A s.heap H locs → lv_has ls 6 [(0, .ref (ad 51)), (1, .int x1), (2, .int x2)] → W p l e (rmK 1 43 0 0) s m args below meth c H locs 0 0 (MQ below (QK z A (fun _ => none) (fun _ => wv z ad E N)) args s 0 0 A) (F0 m 41 ls []) := by
  intro H locs ls hP hD hS hl
  unfold Fb_goToNextOrder_j41 at h
  refine lv_iload_n hx hb d_7_6_41 rfl (lv_at hl 2 rfl) ?_
  refine lv_if_ge (tgt := 46) hx hb d_7_6_42 (by decide) (fun c9 => ?_) (fun c9 => ?_)
  · have h := ite_t c9 h
    refine lv_iload_n hx hb d_7_6_46 rfl (lv_at hl 1 rfl) ?_
    refine lv_istore_n (lv' := [(3, .int x1), (0, .ref (ad 51)), (1, .int x1), (2, .int x2)]) hx hb d_7_6_47 rfl hl (by decide) rfl (fun ls hl => ?_)
    obtain ⟨⟨t6, v6_3, M6⟩, g6, h⟩ := bd_e h
    obtain ⟨ok6, h⟩ := ck_e h
    refine s_Fb_goToNextOrder_48 l z ad E x1 x2 hx hb hml hts hown hlocks hA hG hZ hL FU M x1 t6 v6_3 M6 g6 (fun e6 H locs ls hP hD hS hl => ?_) H locs ls hP hD hS (lv_sub hl [1, 2, 3, 0] rfl)
    exact b_Fb_goToNextOrder_j74 l z ad E M6 x1 x2 v6_3 N hx hb hml hts hown hlocks hA hG hZ hL hr h H locs ls hP hD hS (lv_sub hl [0, 1, 2, 3] rfl)
  · have h := ite_f c9 h
    obtain rfl := in1 h
    exact W.vret hx hb hr (fun t ht hW => qkA hP hD hS (fun k => k) rfl rfl ht) hS.2.2 d_7_6_45
set_option maxRecDepth 100000 in
set_option maxHeartbeats 4000000 in
theorem s_Fb_goToNextOrder (l : Launch) (z : Zz) (ad : Nat → Nat) (E : Ev) (M : Mm) (N : Mm) (hL : Lay E) (h : f_Fb_goToNextOrder E M = some N) : CT l z ⟨"Ballothall$FalseBallot", "goToNextOrder", "()V"⟩ prog_7_method_6_code 6 none [.ref (ad 51)] (wv z ad E M) 1 43 0 0 (fun _ => none) (fun _ => wv z ad E N) := by
  refine CT.of (own := "Ballothall$FalseBallot") (by decide +kernel) (Nat.le_of_ble_eq_true rfl) rfl (fun p e s m below meth c A ls hx hb hml hr hts hown hlocks hin hA hG hZ hP hD hS hl => ?_)
  have hl : lv_has ls 6 [(0, .ref (ad 51))] := hl
  have key : ∀ (H : Heap) (locs : List Loc) (args : Array Value), (∀ w ∈ WG, w.before args s = true) → va_P z.1 classes (wv z ad E M) H → va_S A s.heap H locs → W p l e (rmK 1 43 0 0) s m args below meth c H locs 0 0 (MQ below (QK z A (fun _ => none) (fun _ => wv z ad E N)) args s 0 0 A) (F0 m 0 ls []) := by
    intro H locs args hts hP hS
    unfold f_Fb_goToNextOrder at h
    refine lv_aload_n hx hb d_7_6_0 rfl (lv_at hl 0 rfl) ?_
    refine m_gr (j := 2) (C := "Ballothall$FalseBallot") (T := TX5) (N := 3) (ci := 5) (k := 0) hx hb hts iX5 hown hG hP (yi_51 hL) (yt_51 hL) rfl (by decide) w_152 (fun _ h9 => h9) rfl rfl (yr_51_0 hL) d_7_6_1 ?_
    refine m_giN (C := "Ballothall$BallotBox") (T := TX0) (N := 10) (ci := 0) (k := 2) hx hb hts iX0 hown hG hP (yi_2 hL) (yt_2 hL) rfl (by decide) n_54 rfl (fun _ h9 => h9) rfl rfl d_7_6_4 ?_
    refine lv_iconst (v := 1) hx hb d_7_6_7 (by decide +kernel) ?_
    refine lv_isub hx hb d_7_6_8 ?_
    refine lv_istore_n (lv' := [(1, .int ((M.1 2 2) - (1 : Int32))), (0, .ref (ad 51))]) hx hb d_7_6_9 rfl hl (by decide) rfl (fun ls hl => ?_)
    refine lv_iload_n hx hb d_7_6_10 rfl (lv_at hl 0 rfl) ?_
    refine lv_iconst (v := 1) hx hb d_7_6_11 (by decide +kernel) ?_
    refine lv_isub hx hb d_7_6_12 ?_
    obtain ⟨v0, e0, h⟩ := nb_e h
    refine nrm e0.symm ?_
    refine lv_istore_n (lv' := [(2, .int v0), (1, .int ((M.1 2 2) - (1 : Int32))), (0, .ref (ad 51))]) hx hb d_7_6_13 rfl hl (by decide) rfl (fun ls hl => ?_)
    obtain ⟨⟨t3, v3_2, M3⟩, g3, h⟩ := bd_e h
    obtain ⟨ok3, h⟩ := ck_e h
    refine s_Fb_goToNextOrder_14 l z ad E ((M.1 2 2) - (1 : Int32)) hx hb hml hts hown hlocks hA hG hZ hL FU M v0 t3 v3_2 M3 g3 (fun e3 H locs ls hP hD hS hl => ?_) H locs ls hP hD hS (lv_sub hl [2, 1, 0] rfl)
    exact b_Fb_goToNextOrder_j41 l z ad E M3 ((M.1 2 2) - (1 : Int32)) v3_2 N hx hb hml hts hown hlocks hA hG hZ hL hr h H locs ls hP hD hS (lv_sub hl [0, 1, 2] rfl)
  exact key _ _ _ hts hP hS
