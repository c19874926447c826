set_option maxRecDepth 100000 in
set_option maxHeartbeats 4000000 in
theorem s_Po_greatestOf (l : Launch) (z : Zz) (ad : Nat → Nat) (E : Ev) (M : Mm) (x1 : Int) (r : Int)  (hL : Lay E) (h : f_Po_greatestOf E M x1 = some r) : CT l z ⟨"Ballothall$Poll", "greatestOf", "(I)I"⟩ prog_11_method_23_code 4 (some .int) [.ref (ad 41), .int (oI x1)] (wv z ad E M) 1 42 0 0 (fun _ => some (.int (oI r))) (fun _ => (wv z ad E M)) := by
  refine CT.of (own := "Ballothall$Poll") (by decide +kernel) (Nat.le_of_ble_eq_true rfl) rfl (fun p e s m below meth c A ls hx hb hml hr hts hown hlocks hin hA hG hZ hP hD hS hl => ?_)
  have hl : lv_has ls 4 [(0, .ref (ad 41)), (1, .int (oI x1))] := hl
  have key : ∀ (H : Heap) (locs : List Loc) (args : Array Value), (∀ w ∈ WG, w.before args s = true) → va_P z.1 classes (wv z ad E M) H → va_S A s.heap H locs → W p l e (rmK 1 42 0 0) s m args below meth c H locs 0 0 (MQ below (QK z A (fun _ => some (.int (oI r))) (fun _ => (wv z ad E M))) args s 0 0 A) (F0 m 0 ls []) := by
    intro H locs args hts hP hS
    unfold f_Po_greatestOf at h
    refine lv_iconst (v := oI (-1)) hx hb d_11_23_0 (by decide +kernel) ?_
    refine lv_istore_n (lv' := [(2, .int (oI (-1))), (0, .ref (ad 41)), (1, .int (oI x1))]) hx hb d_11_23_1 rfl hl (by decide) rfl (fun ls hl => ?_)
    refine lv_iconst (v := oI 0) hx hb d_11_23_2 (by decide +kernel) ?_
    refine lv_istore_n (lv' := [(3, .int (oI 0)), (2, .int (oI (-1))), (0, .ref (ad 41)), (1, .int (oI x1))]) hx hb d_11_23_3 rfl hl (by decide) rfl (fun ls hl => ?_)
    obtain ⟨⟨t111, v111_2, v111_3⟩, g111, h⟩ := bd_e h
    obtain ⟨ok111, h⟩ := ck_e h
    refine s_Po_greatestOf_4 l z ad E x1 hx hb hml hts hown hlocks hA hG hZ hL FU M (-1) 0 t111 v111_2 v111_3 g111 (fun e111 H locs ls hP hD hS hl => ?_) H locs ls hP hD hS (lv_sub hl [2, 3, 1, 0] rfl)
    refine lv_iload_n hx hb d_11_23_80 rfl (lv_at hl 0 rfl) ?_
    obtain rfl := in1 h
    exact W.iret hx hb hr (fun t ht hW => qkA hP hD hS (fun k => k) rfl rfl ht) hS.2.2 d_11_23_81
  exact key _ _ _ hts hP hS
set_option maxRecDepth 100000 in
set_option maxHeartbeats 4000000 in
theorem s_Po_bestBy (l : Launch) (z : Zz) (ad : Nat → Nat) (E : Ev) (M : Mm) (x1 : Int) (r : Int) (N : Mm) (hL : Lay E) (h : f_Po_bestBy E M x1 = some (r, N)) : CT l z ⟨"Ballothall$Poll", "bestBy", "(I)I"⟩ prog_11_method_19_code 2 (some .int) [.ref (ad 41), .int (oI x1)] (wv z ad E M) 4 114 0 0 (fun _ => some (.int (oI r))) (fun _ => (wv z ad E N)) := by
  refine CT.of (own := "Ballothall$Poll") (by decide +kernel) (Nat.le_of_ble_eq_true rfl) rfl (fun p e s m below meth c A ls hx hb hml hr hts hown hlocks hin hA hG hZ hP hD hS hl => ?_)
  have hl : lv_has ls 2 [(0, .ref (ad 41)), (1, .int (oI x1))] := hl
  have key : ∀ (H : Heap) (locs : List Loc) (args : Array Value), (∀ w ∈ WG, w.before args s = true) → va_P z.1 classes (wv z ad E M) H → va_S A s.heap H locs → W p l e (rmK 4 114 0 0) s m args below meth c H locs 0 0 (MQ below (QK z A (fun _ => some (.int (oI r))) (fun _ => (wv z ad E N))) args s 0 0 A) (F0 m 0 ls []) := by
    intro H locs args hts hP hS
    unfold f_Po_bestBy at h
    refine lv_aload_n hx hb d_11_19_0 rfl (lv_at hl 0 rfl) ?_
    refine m_gi (C := "Ballothall$Poll") (T := TX9) (N := 12) (ci := 9) (k := 1) hx hb hts iX9 hown hG hP (yi_41 hL) (yt_41 hL) rfl (by decide) w_108 (fun _ h9 => h9) rfl rfl d_11_19_1 ?_
    obtain ⟨ok100, h⟩ := ck_e h
    refine lv_if_ne (tgt := 9) hx hb d_11_19_4 (by decide) (fun c9 => ?_) (fun c9 => ?_)
    · have h := ite_f (fun q => c9 ((oI_eq0 ok100).mpr q)) h
      refine lv_iload_n hx hb d_11_19_9 rfl (lv_at hl 1 rfl) ?_
      refine lv_iconst (v := oI 1) hx hb d_11_19_10 (by decide +kernel) ?_
      obtain ⟨ok101, h⟩ := ck_e h
      refine lv_icmp_ne (tgt := 19) hx hb d_11_19_11 (by decide) (fun c9 => ?_) (fun c9 => ?_)
      · have h := ite_f (fun q => c9 ((oI_eq (a := x1) (b := (1 : Int)) ok101 (by decide)).mpr q)) h
        refine lv_iload_n hx hb d_11_19_19 rfl (lv_at hl 1 rfl) ?_
        refine lv_iconst (v := oI 2) hx hb d_11_19_20 (by decide +kernel) ?_
        refine lv_icmp_ne (tgt := 33) hx hb d_11_19_21 (by decide) (fun c9 => ?_) (fun c9 => ?_)
        · have h := ite_f (fun q => c9 ((oI_eq (a := x1) (b := (2 : Int)) ok101 (by decide)).mpr q)) h
          refine lv_aload_n hx hb d_11_19_33 rfl (lv_at hl 0 rfl) ?_
          refine lv_iload_n hx hb d_11_19_34 rfl (lv_at hl 1 rfl) ?_
          obtain ⟨M102, g102, h⟩ := bd_e h
          refine kV (As := [.int (oI x1)]) (rest := []) (s_Po_findScores l z ad E M x1 M102 hL g102) hx hb hml hown hts w_1399 w_1396 w_1398 w_s_24c8d7 w_3 md_f30417 ⟨Nat.le_of_ble_eq_true rfl, Nat.le_of_ble_eq_true rfl⟩ hG hZ hP hD hS hA 41 (wv_o (ci := 9) (yi_41 hL) (yt_41 hL)) rfl rfl rfl hl.1 rfl (Nat.le_of_ble_eq_true rfl) d_11_19_35 ⟨Nat.le_of_ble_eq_true rfl, Nat.le_of_ble_eq_true rfl⟩ (fun _ H locs hP hD hS => ?_)
          have hP : va_P z.1 classes (wv z ad E M102) H := hP
          have hD : va_D A (wv z ad E M102) := hD
          refine W.eq (g2 := F0 m 38 ls []) rfl ?_
          refine lv_aload_n hx hb d_11_19_38 rfl (lv_at hl 0 rfl) ?_
          refine lv_aload_n hx hb d_11_19_39 rfl (lv_at hl 0 rfl) ?_
          refine m_gi (C := "Ballothall$Poll") (T := TX9) (N := 12) (ci := 9) (k := 1) hx hb hts iX9 hown hG hP (yi_41 hL) (yt_41 hL) rfl (by decide) w_108 (fun _ h9 => h9) rfl rfl d_11_19_40 ?_
          obtain ⟨r103, g103, h⟩ := bd_e h
          refine kV (As := [.int (oI (M102 41 1))]) (rest := []) (s_Po_greatestOf l z ad E M102 (M102 41 1) r103 hL g103) hx hb hml hown hts w_1407 w_1404 w_1406 w_s_6c3bf2 w_3 md_26c06b ⟨Nat.le_of_ble_eq_true rfl, Nat.le_of_ble_eq_true rfl⟩ hG hZ hP hD hS hA 41 (wv_o (ci := 9) (yi_41 hL) (yt_41 hL)) rfl rfl rfl hl.1 rfl (Nat.le_of_ble_eq_true rfl) d_11_19_43 ⟨Nat.le_of_ble_eq_true rfl, Nat.le_of_ble_eq_true rfl⟩ (fun _ H locs hP hD hS => ?_)
          have hP : va_P z.1 classes (wv z ad E M102) H := hP
          have hD : va_D A (wv z ad E M102) := hD
          refine W.eq (g2 := F0 m 46 ls [.int (oI r103)]) rfl ?_
          obtain ⟨rfl, rfl⟩ := in2 h
          exact W.iret hx hb hr (fun t ht hW => qkA hP hD hS (fun k => k) rfl rfl ht) hS.2.2 d_11_19_46
        · have h := ite_t ((oI_eq (a := x1) (b := (2 : Int)) ok101 (by decide)).mp c9) h
          refine lv_aload_n hx hb d_11_19_24 rfl (lv_at hl 0 rfl) ?_
          refine lv_aload_n hx hb d_11_19_25 rfl (lv_at hl 0 rfl) ?_
          obtain ⟨⟨r104, M104⟩, g104, h⟩ := bd_e h
          refine kV (As := []) (rest := [.ref (ad 41)]) (s_Po_winnersByPaths l z ad E M r104 M104 hL g104) hx hb hml hown hts w_725 w_1395 w_724 w_s_87a59c w_3 md_114b2c ⟨Nat.le_of_ble_eq_true rfl, Nat.le_of_ble_eq_true rfl⟩ hG hZ hP hD hS hA 41 (wv_o (ci := 9) (yi_41 hL) (yt_41 hL)) rfl rfl rfl hl.1 rfl (Nat.le_of_ble_eq_true rfl) d_11_19_26 ⟨Nat.le_of_ble_eq_true rfl, Nat.le_of_ble_eq_true rfl⟩ (fun _ H locs hP hD hS => ?_)
          have hP : va_P z.1 classes (wv z ad E M104) H := hP
          have hD : va_D A (wv z ad E M104) := hD
          refine W.eq (g2 := F0 m 29 ls [.int (oI r104), .ref (ad 41)]) rfl ?_
          obtain ⟨r105, g105, h⟩ := bd_e h
          refine kV (As := [.int (oI r104)]) (rest := []) (s_Po_bestByLot l z ad E M104 r104 r105 hL g105) hx hb hml hown hts w_1394 w_1391 w_1393 w_s_b9deda w_3 md_322545 ⟨Nat.le_of_ble_eq_true rfl, Nat.le_of_ble_eq_true rfl⟩ hG hZ hP hD hS hA 41 (wv_o (ci := 9) (yi_41 hL) (yt_41 hL)) rfl rfl rfl hl.1 rfl (Nat.le_of_ble_eq_true rfl) d_11_19_29 ⟨Nat.le_of_ble_eq_true rfl, Nat.le_of_ble_eq_true rfl⟩ (fun _ H locs hP hD hS => ?_)
          have hP : va_P z.1 classes (wv z ad E M104) H := hP
          have hD : va_D A (wv z ad E M104) := hD
          refine W.eq (g2 := F0 m 32 ls [.int (oI r105)]) rfl ?_
          obtain ⟨rfl, rfl⟩ := in2 h
          exact W.iret hx hb hr (fun t ht hW => qkA hP hD hS (fun k => k) rfl rfl ht) hS.2.2 d_11_19_32
      · have h := ite_t ((oI_eq (a := x1) (b := (1 : Int)) ok101 (by decide)).mp c9) h
        refine lv_aload_n hx hb d_11_19_14 rfl (lv_at hl 0 rfl) ?_
        obtain ⟨⟨r106, M106⟩, g106, h⟩ := bd_e h
        refine kV (As := []) (rest := []) (s_Po_lastOfRunoff l z ad E M r106 M106 hL g106) hx hb hml hown hts w_1378 w_1375 w_1377 w_s_404c81 w_3 md_1e440e ⟨Nat.le_of_ble_eq_true rfl, Nat.le_of_ble_eq_true rfl⟩ hG hZ hP hD hS hA 41 (wv_o (ci := 9) (yi_41 hL) (yt_41 hL)) rfl rfl rfl hl.1 rfl (Nat.le_of_ble_eq_true rfl) d_11_19_15 ⟨Nat.le_of_ble_eq_true rfl, Nat.le_of_ble_eq_true rfl⟩ (fun _ H locs hP hD hS => ?_)
        have hP : va_P z.1 classes (wv z ad E M106) H := hP
        have hD : va_D A (wv z ad E M106) := hD
        refine W.eq (g2 := F0 m 18 ls [.int (oI r106)]) rfl ?_
        obtain ⟨rfl, rfl⟩ := in2 h
        exact W.iret hx hb hr (fun t ht hW => qkA hP hD hS (fun k => k) rfl rfl ht) hS.2.2 d_11_19_18
    · have h := ite_t ((oI_eq0 ok100).mp c9) h
      refine lv_iconst (v := oI (-1)) hx hb d_11_19_7 (by decide +kernel) ?_
      obtain ⟨rfl, rfl⟩ := in2 h
      exact W.iret hx hb hr (fun t ht hW => qkA hP hD hS (fun k => k) rfl rfl ht) hS.2.2 d_11_19_8
  exact key _ _ _ hts hP hS
set_option maxRecDepth 100000 in
set_option maxHeartbeats 4000000 in
theorem b_Fb_aheadOf_16b (l : Launch) (z : Zz) (ad : Nat → Nat) (E : Ev) (M : Mm) (x1 : Int) (x4 : Int) (x3 : Int) (x5 : Int) (t : Nat) (w3 : Int) (w5 : Int)  {Q : State → Prop} {p : Program} {e : Env} {s : State} {m : MethodId} {below : List Frame} {meth : Method} {c : Code} {A : Nat → Prop} {args : Array Value} (hx : p.tables.exec = Jvm.exec) (hb : c.code = prog_7_method_3_code) (hml : c.maxLocals = 6) (hts : ∀ w ∈ WG, w.before args s = true) (hown : s.vm.findClass "Ballothall$FalseBallot" = some m.cls) (hlocks : meth.locks = false) (hA : ∀ q, s.heap.size ≤ q → A q) (hG : KG z s) (hZ : FZ z A s) (hL : Lay E) (h : Fb_aheadOf_16b E M x1 x4 x3 x5 = some (t, w3, w5)) (k0 : t = 0 → ∀ (H : Heap) (locs : List Loc) (ls : Array Slot), va_P z.1 classes (wv z ad E M) H → va_D A (wv z ad E M) → va_S A s.heap H locs → lv_has ls 6 [(0, .ref (ad 51)), (1, .int (oI x1)), (3, .int (oI w3)), (4, .int (oI x4)), (5, .int (oI w5))] → W p l e (rmK 2 64 0 0) s m args below meth c H locs 0 0 Q (F0 m 16 ls [])) (k1 : t = 1 → ∀ (H : Heap) (locs : List Loc) (ls : Array Slot), va_P z.1 classes (wv z ad E M) H → va_D A (wv z ad E M) → va_S A s.heap H locs → lv_has ls 6 [(3, .int (oI w3))] → W p l e (rmK 2 64 0 0) s m args below meth c H locs 0 0 Q (F0 m 44 ls [])) : ∀ (H : Heap) (locs : List Loc) (ls : Array Slot), va_P z.1 classes (wv z ad E M) H → va_D A (wv z ad E M) → va_S A s.heap H locs → lv_has ls 6 [(0, .ref (ad 51)), (1, .int (oI x1)), (3, .int (oI x3)), (4, .int (oI x4)), (5, .int (oI x5))] → W p l e (rmK 2 64 0 0) s m args below meth c H locs 0 0 Q (F0 m 16 ls []) := by
  intro H locs ls hP hD hS hl
  unfold Fb_aheadOf_16b at h
  refine lv_iload hx hb d_7_3_16 (lv_at hl 4 rfl) ?_
  refine lv_iload hx hb d_7_3_18 (lv_at hl 3 rfl) ?_
  obtain ⟨ok101, h⟩ := ck_e h
  obtain ⟨ok102, h⟩ := ck_e h
  refine lv_icmp_ge (tgt := 44) hx hb d_7_3_20 (by decide) (fun c9 => ?_) (fun c9 => ?_)
  · have h := ite_t ((oI_le (a := x4) (b := x5) ok102 ok101).mp c9) h
    obtain ⟨rfl, rfl, rfl⟩ := in3 h
    exact k1 rfl H locs ls hP hD hS (lv_sub hl [2] rfl)
  · have h := ite_f (fun q => c9 ((oI_le (a := x4) (b := x5) ok102 ok101).mpr q)) h
    refine lv_iload_n hx hb d_7_3_23 rfl (lv_at hl 2 rfl) ?_
    refine lv_aload_n hx hb d_7_3_24 rfl (lv_at hl 0 rfl) ?_
    refine m_gr (j := 2) (C := "Ballothall$FalseBallot") (T := TX5) (N := 3) (ci := 5) (k := 0) hx hb hts iX5 hown hG hP (yi_51 hL) (yt_51 hL) rfl (by decide) w_152 (fun _ h9 => h9) rfl rfl (yr_51_0 hL) d_7_3_25 ?_
    refine m_grN (j := 8) (C := "Ballothall$BallotBox") (T := TX0) (N := 10) (ci := 0) (k := 8) hx hb hts iX0 hown hG hP (yi_2 hL) (yt_2 hL) rfl (by decide) n_75 rfl (fun _ h9 => h9) rfl rfl (yr_2_8 hL) d_7_3_28 ?_
    refine lv_iload_n hx hb d_7_3_31 rfl (lv_at hl 1 rfl) ?_
    obtain ⟨ok103, h⟩ := ck_e h
    refine m_ar (k := (9 + x1.toNat)) hx hb hG hP (yi_8 hL) (yt_8 hL) ok103 (ya_8 hL (inb_lt ok103)) d_7_3_32 ?_
    refine lv_iload hx hb d_7_3_33 (lv_at hl 4 rfl) ?_
    obtain ⟨ok104, h⟩ := ck_e h
    refine m_ia hx hb hG hP (yg_8 hL ok103).1 (yg_8 hL ok103).2 ok104 d_7_3_35 ?_
    obtain ⟨ok105, h⟩ := ck_e h
    obtain ⟨ok106, h⟩ := ck_e h
    refine lv_ior hx hb d_7_3_36 ?_
    refine nrm (oI_or (a := x3) (b := (M (9 + x1.toNat) x5.toNat)) ok105.1 ok105.2 ok106.1 ok106.2) ?_
    obtain ⟨v107, e107, h⟩ := nb_e h
    refine nrm (congrArg oI e107.symm) ?_
    refine lv_istore_n (lv' := [(3, .int (oI v107)), (0, .ref (ad 51)), (1, .int (oI x1)), (4, .int (oI x4)), (5, .int (oI x5))]) hx hb d_7_3_37 rfl hl (by decide) rfl (fun ls hl => ?_)
    refine lv_iinc (v := oI (x5 + 1)) (lv' := [(5, .int (oI (x5 + 1))), (3, .int (oI v107)), (0, .ref (ad 51)), (1, .int (oI x1)), (4, .int (oI x4))]) hx hb d_7_3_38 hl (k := 4) rfl (oI_add x5 1) (by decide) rfl (fun ls hl => ?_)
    refine lv_goto (tgt := 16) hx hb d_7_3_41 (by decide) ?_
    obtain ⟨rfl, rfl, rfl⟩ := in3 h
    exact k0 rfl H locs ls hP hD hS (lv_sub hl [2, 3, 1, 4, 0] rfl)
set_option maxRecDepth 100000 in
set_option maxHeartbeats 4000000 in
theorem s_Fb_aheadOf_16 (l : Launch) (z : Zz) (ad : Nat → Nat) (E : Ev) (x1 : Int) (x4 : Int) {Q : State → Prop} {p : Program} {e : Env} {s : State} {m : MethodId} {below : List Frame} {meth : Method} {c : Code} {A : Nat → Prop} {args : Array Value} (hx : p.tables.exec = Jvm.exec) (hb : c.code = prog_7_method_3_code) (hml : c.maxLocals = 6) (hts : ∀ w ∈ WG, w.before args s = true) (hown : s.vm.findClass "Ballothall$FalseBallot" = some m.cls) (hlocks : meth.locks = false) (hA : ∀ q, s.heap.size ≤ q → A q) (hG : KG z s) (hZ : FZ z A s) (hL : Lay E) : ∀ (fu : Nat) (M : Mm) (x3 : Int) (x5 : Int) (t : Nat) (w3 : Int) (w5 : Int), l_Fb_aheadOf_16 E x1 x4 fu M x3 x5 = some (t, w3, w5) → (t = 1 → ∀ (H : Heap) (locs : List Loc) (ls : Array Slot), va_P z.1 classes (wv z ad E M) H → va_D A (wv z ad E M) → va_S A s.heap H locs → lv_has ls 6 [(3, .int (oI w3))] → W p l e (rmK 2 64 0 0) s m args below meth c H locs 0 0 Q (F0 m 44 ls [])) → ∀ (H : Heap) (locs : List Loc) (ls : Array Slot), va_P z.1 classes (wv z ad E M) H → va_D A (wv z ad E M) → va_S A s.heap H locs → lv_has ls 6 [(0, .ref (ad 51)), (1, .int (oI x1)), (3, .int (oI x3)), (4, .int (oI x4)), (5, .int (oI x5))] → W p l e (rmK 2 64 0 0) s m args below meth c H locs 0 0 Q (F0 m 16 ls []) := by
  intro fu
  induction fu with
  | zero =>
    intro M x3 x5 t w3 w5 h
    have h : (none : Option (Nat × Int × Int)) = some _ := h
    cases h
  | succ fu ih =>
    intro M x3 x5 t w3 w5 h k1 H locs ls hP hD hS hl
    obtain ⟨⟨t0, w30, w50⟩, g0, h⟩ := bd_e h
    refine b_Fb_aheadOf_16b l z ad E M x1 x4 x3 x5 t0 w30 w50 hx hb hml hts hown hlocks hA hG hZ hL g0 (fun e0 => ?_) (fun e0 => ?_) H locs ls hP hD hS hl
    · subst e0
      have h := ite_t rfl h
      exact ih M w30 w50 t w3 w5 h k1
    · subst e0
      have h := ite_f (by decide) h
      obtain ⟨rfl, rfl, rfl⟩ := in3 h
      exact k1 rfl
set_option maxRecDepth 100000 in
set_option maxHeartbeats 4000000 in
theorem s_Fb_aheadOf (l : Launch) (z : Zz) (ad : Nat → Nat) (E : Ev) (M : Mm) (x1 : Int) (x2 : Int) (r : Int)  (hL : Lay E) (h : f_Fb_aheadOf E M x1 x2 = some r) : CT l z ⟨"Ballothall$FalseBallot", "aheadOf", "(II)I"⟩ prog_7_method_3_code 6 (some .int) [.ref (ad 51), .int (oI x1), .int (oI x2)] (wv z ad E M) 2 64 0 0 (fun _ => some (.int (oI r))) (fun _ => (wv z ad E M)) := by
  refine CT.of (own := "Ballothall$FalseBallot") (by decide +kernel) (Nat.le_of_ble_eq_true rfl) rfl (fun p e s m below meth c A ls hx hb hml hr hts hown hlocks hin hA hG hZ hP hD hS hl => ?_)
  have hl : lv_has ls 6 [(0, .ref (ad 51)), (1, .int (oI x1)), (2, .int (oI x2))] := hl
  have key : ∀ (H : Heap) (locs : List Loc) (args : Array Value), (∀ w ∈ WG, w.before args s = true) → va_P z.1 classes (wv z ad E M) H → va_S A s.heap H locs → W p l e (rmK 2 64 0 0) s m args below meth c H locs 0 0 (MQ below (QK z A (fun _ => some (.int (oI r))) (fun _ => (wv z ad E M))) args s 0 0 A) (F0 m 0 ls []) := by
    intro H locs args hts hP hS
    unfold f_Fb_aheadOf at h
    refine lv_iconst (v := oI 0) hx hb d_7_3_0 (by decide +kernel) ?_
    refine lv_istore_n (lv' := [(3, .int (oI 0)), (0, .ref (ad 51)), (1, .int (oI x1)), (2, .int (oI x2))]) hx hb d_7_3_1 rfl hl (by decide) rfl (fun ls hl => ?_)
    refine lv_aload_n hx hb d_7_3_2 rfl (lv_at hl 1 rfl) ?_
    refine m_gr (j := 2) (C := "Ballothall$FalseBallot") (T := TX5) (N := 3) (ci := 5) (k := 0) hx hb hts iX5 hown hG hP (yi_51 hL) (yt_51 hL) rfl (by decide) w_152 (fun _ h9 => h9) rfl rfl (yr_51_0 hL) d_7_3_3 ?_
    refine lv_iload_n hx hb d_7_3_6 rfl (lv_at hl 2 rfl) ?_
    refine lv_iload_n hx hb d_7_3_7 rfl (lv_at hl 3 rfl) ?_
    obtain ⟨r100, g100, h⟩ := bd_e h
    refine kVN (As := [.int (oI x1), .int (oI x2)]) (rest := []) (s_Bx_rankOf l z ad E M x1 x2 r100 hL g100) hx hb hml hown hts w_1062 n_1412 w_1061 w_s_6d1705 w_2 md_f4341f ⟨Nat.le_of_ble_eq_true rfl, Nat.le_of_ble_eq_true rfl⟩ hG hZ hP hD hS hA 2 (wv_o (ci := 0) (yi_2 hL) (yt_2 hL)) rfl rfl rfl hl.1 rfl (Nat.le_of_ble_eq_true rfl) d_7_3_8 ⟨Nat.le_of_ble_eq_true rfl, Nat.le_of_ble_eq_true rfl⟩ (fun _ H locs hP hD hS => ?_)
    have hP : va_P z.1 classes (wv z ad E M) H := hP
    have hD : va_D A (wv z ad E M) := hD
    refine W.eq (g2 := F0 m 11 ls [.int (oI r100)]) rfl ?_
    refine lv_istore (lv' := [(4, .int (oI r100)), (3, .int (oI 0)), (0, .ref (ad 51)), (1, .int (oI x1)), (2, .int (oI x2))]) hx hb d_7_3_11 hl (by decide) rfl (fun ls hl => ?_)
    refine lv_iconst (v := oI 0) hx hb d_7_3_13 (by decide +kernel) ?_
    refine lv_istore (lv' := [(5, .int (oI 0)), (4, .int (oI r100)), (3, .int (oI 0)), (0, .ref (ad 51)), (1, .int (oI x1)), (2, .int (oI x2))]) hx hb d_7_3_14 hl (by decide) rfl (fun ls hl => ?_)
    obtain ⟨⟨t108, v108_3, v108_5⟩, g108, h⟩ := bd_e h
    obtain ⟨ok108, h⟩ := ck_e h
    refine s_Fb_aheadOf_16 l z ad E x1 r100 hx hb hml hts hown hlocks hA hG hZ hL FU M 0 0 t108 v108_3 v108_5 g108 (fun e108 H locs ls hP hD hS hl => ?_) H locs ls hP hD hS (lv_sub hl [3, 4, 2, 1, 0] rfl)
    refine lv_iload_n hx hb d_7_3_44 rfl (lv_at hl 0 rfl) ?_
    obtain rfl := in1 h
    exact W.iret hx hb hr (fun t ht hW => qkA hP hD hS (fun k => k) rfl rfl ht) hS.2.2 d_7_3_45
  exact key _ _ _ hts hP hS
set_option maxRecDepth 100000 in
set_option maxHeartbeats 4000000 in
theorem b_Fb_writeTrial_9b (l : Launch) (z : Zz) (ad : Nat → Nat) (E : Ev) (M : Mm) (x1 : Int) (t : Nat) (w1 : Int) (N : Mm) {Q : State → Prop} {p : Program} {e : Env} {s : State} {m : MethodId} {below : List Frame} {meth : Method} {c : Code} {A : Nat → Prop} {args : Array Value} (hx : p.tables.exec = Jvm.exec) (hb : c.code = prog_7_method_5_code) (hml : c.maxLocals = 2) (hts : ∀ w ∈ WG, w.before args s = true) (hown : s.vm.findClass "Ballothall$FalseBallot" = some m.cls) (hlocks : meth.locks = false) (hA : ∀ q, s.heap.size ≤ q → A q) (hG : KG z s) (hZ : FZ z A s) (hL : Lay E) (h : Fb_writeTrial_9b E M x1 = some (t, w1, N)) (k0 : t = 0 → ∀ (H : Heap) (locs : List Loc) (ls : Array Slot), va_P z.1 classes (wv z ad E N) H → va_D A (wv z ad E N) → va_S A s.heap H locs → lv_has ls 2 [(0, .ref (ad 51)), (1, .int (oI w1))] → W p l e (rmK 2 63 0 0) s m args below meth c H locs 0 0 Q (F0 m 9 ls [])) (k1 : t = 1 → ∀ (H : Heap) (locs : List Loc) (ls : Array Slot), va_P z.1 classes (wv z ad E N) H → va_D A (wv z ad E N) → va_S A s.heap H locs → lv_has ls 2 [(0, .ref (ad 51))] → W p l e (rmK 2 63 0 0) s m args below meth c H locs 0 0 Q (F0 m 40 ls [])) : ∀ (H : Heap) (locs : List Loc) (ls : Array Slot), va_P z.1 classes (wv z ad E M) H → va_D A (wv z ad E M) → va_S A s.heap H locs → lv_has ls 2 [(0, .ref (ad 51)), (1, .int (oI x1))] → W p l e (rmK 2 63 0 0) s m args below meth c H locs 0 0 Q (F0 m 9 ls []) := by
  intro H locs ls hP hD hS hl
  unfold Fb_writeTrial_9b at h
  refine lv_iload_n hx hb d_7_5_9 rfl (lv_at hl 1 rfl) ?_
  refine lv_aload_n hx hb d_7_5_10 rfl (lv_at hl 0 rfl) ?_
  refine m_gr (j := 2) (C := "Ballothall$FalseBallot") (T := TX5) (N := 3) (ci := 5) (k := 0) hx hb hts iX5 hown hG hP (yi_51 hL) (yt_51 hL) rfl (by decide) w_152 (fun _ h9 => h9) rfl rfl (yr_51_0 hL) d_7_5_11 ?_
  refine m_giN (C := "Ballothall$BallotBox") (T := TX0) (N := 10) (ci := 0) (k := 2) hx hb hts iX0 hown hG hP (yi_2 hL) (yt_2 hL) rfl (by decide) n_54 rfl (fun _ h9 => h9) rfl rfl d_7_5_14 ?_
  obtain ⟨ok101, h⟩ := ck_e h
  obtain ⟨ok102, h⟩ := ck_e h
  refine lv_icmp_ge (tgt := 40) hx hb d_7_5_17 (by decide) (fun c9 => ?_) (fun c9 => ?_)
  · have h := ite_t ((oI_le (a := (M 2 2)) (b := x1) ok102 ok101).mp c9) h
    obtain ⟨rfl, rfl, rfl⟩ := in3 h
    exact k1 rfl H locs ls hP hD hS (lv_sub hl [0] rfl)
  · have h := ite_f (fun q => c9 ((oI_le (a := (M 2 2)) (b := x1) ok102 ok101).mpr q)) h
    refine lv_aload_n hx hb d_7_5_20 rfl (lv_at hl 0 rfl) ?_
    refine m_gr (j := 2) (C := "Ballothall$FalseBallot") (T := TX5) (N := 3) (ci := 5) (k := 0) hx hb hts iX5 hown hG hP (yi_51 hL) (yt_51 hL) rfl (by decide) w_152 (fun _ h9 => h9) rfl rfl (yr_51_0 hL) d_7_5_21 ?_
    refine lv_aload_n hx hb d_7_5_24 rfl (lv_at hl 0 rfl) ?_
    refine m_gr (j := 52) (C := "Ballothall$FalseBallot") (T := TX5) (N := 3) (ci := 5) (k := 2) hx hb hts iX5 hown hG hP (yi_51 hL) (yt_51 hL) rfl (by decide) w_154 (fun _ h9 => h9) rfl rfl (yr_51_2 hL) d_7_5_25 ?_
    refine lv_iload_n hx hb d_7_5_28 rfl (lv_at hl 1 rfl) ?_
    obtain ⟨ok103, h⟩ := ck_e h
    refine m_ia hx hb hG hP (yi_52 hL) (yt_52 hL) ok103 d_7_5_29 ?_
    refine lv_iconst (v := oI 1) hx hb d_7_5_30 (by decide +kernel) ?_
    obtain ⟨M104, g104, h⟩ := bd_e h
    refine kVN (As := [.int (oI (M 52 x1.toNat)), .int (oI 1)]) (rest := []) (s_Bx_rankOnTrial l z ad E M (M 52 x1.toNat) 1 M104 hL g104) hx hb hml hown hts w_1035 n_1424 w_1034 w_s_4aec52 w_2 md_7079fc ⟨Nat.le_of_ble_eq_true rfl, Nat.le_of_ble_eq_true rfl⟩ hG hZ hP hD hS hA 2 (wv_o (ci := 0) (yi_2 hL) (yt_2 hL)) rfl rfl rfl hl.1 rfl (Nat.le_of_ble_eq_true rfl) d_7_5_31 ⟨Nat.le_of_ble_eq_true rfl, Nat.le_of_ble_eq_true rfl⟩ (fun _ H locs hP hD hS => ?_)
    have hP : va_P z.1 classes (wv z ad E M104) H := hP
    have hD : va_D A (wv z ad E M104) := hD
    refine W.eq (g2 := F0 m 34 ls []) rfl ?_
    refine lv_iinc (v := oI (x1 + 1)) (lv' := [(1, .int (oI (x1 + 1))), (0, .ref (ad 51))]) hx hb d_7_5_34 hl (k := 1) rfl (oI_add x1 1) (by decide) rfl (fun ls hl => ?_)
    refine lv_goto (tgt := 9) hx hb d_7_5_37 (by decide) ?_
    obtain ⟨rfl, rfl, rfl⟩ := in3 h
    exact k0 rfl H locs ls hP hD hS (lv_sub hl [1, 0] rfl)
set_option maxRecDepth 100000 in
set_option maxHeartbeats 4000000 in
theorem s_Fb_writeTrial_9 (l : Launch) (z : Zz) (ad : Nat → Nat) (E : Ev) {Q : State → Prop} {p : Program} {e : Env} {s : State} {m : MethodId} {below : List Frame} {meth : Method} {c : Code} {A : Nat → Prop} {args : Array Value} (hx : p.tables.exec = Jvm.exec) (hb : c.code = prog_7_method_5_code) (hml : c.maxLocals = 2) (hts : ∀ w ∈ WG, w.before args s = true) (hown : s.vm.findClass "Ballothall$FalseBallot" = some m.cls) (hlocks : meth.locks = false) (hA : ∀ q, s.heap.size ≤ q → A q) (hG : KG z s) (hZ : FZ z A s) (hL : Lay E) : ∀ (fu : Nat) (M : Mm) (x1 : Int) (t : Nat) (w1 : Int) (N : Mm), l_Fb_writeTrial_9 E fu M x1 = some (t, w1, N) → (t = 1 → ∀ (H : Heap) (locs : List Loc) (ls : Array Slot), va_P z.1 classes (wv z ad E N) H → va_D A (wv z ad E N) → va_S A s.heap H locs → lv_has ls 2 [(0, .ref (ad 51))] → W p l e (rmK 2 63 0 0) s m args below meth c H locs 0 0 Q (F0 m 40 ls [])) → ∀ (H : Heap) (locs : List Loc) (ls : Array Slot), va_P z.1 classes (wv z ad E M) H → va_D A (wv z ad E M) → va_S A s.heap H locs → lv_has ls 2 [(0, .ref (ad 51)), (1, .int (oI x1))] → W p l e (rmK 2 63 0 0) s m args below meth c H locs 0 0 Q (F0 m 9 ls []) := by
  intro fu
  induction fu with
  | zero =>
    intro M x1 t w1 N h
    have h : (none : Option (Nat × Int × Mm)) = some _ := h
    cases h
  | succ fu ih =>
    intro M x1 t w1 N h k1 H locs ls hP hD hS hl
    obtain ⟨⟨t0, w10, N9⟩, g0, h⟩ := bd_e h
    refine b_Fb_writeTrial_9b l z ad E M x1 t0 w10 N9 hx hb hml hts hown hlocks hA hG hZ hL g0 (fun e0 => ?_) (fun e0 => ?_) H locs ls hP hD hS hl
    · subst e0
      have h := ite_t rfl h
      exact ih N9 w10 t w1 N h k1
    · subst e0
      have h := ite_f (by decide) h
      obtain ⟨rfl, rfl, rfl⟩ := in3 h
      exact k1 rfl
set_option maxRecDepth 100000 in
set_option maxHeartbeats 4000000 in
theorem s_Fb_writeTrial (l : Launch) (z : Zz) (ad : Nat → Nat) (E : Ev) (M : Mm) (N : Mm) (hL : Lay E) (h : f_Fb_writeTrial E M = some N) : CT l z ⟨"Ballothall$FalseBallot", "writeTrial", "()V"⟩ prog_7_method_5_code 2 none [.ref (ad 51)] (wv z ad E M) 2 63 0 0 (fun _ => none) (fun _ => (wv z ad E N)) := by
  refine CT.of (own := "Ballothall$FalseBallot") (by decide +kernel) (Nat.le_of_ble_eq_true rfl) rfl (fun p e s m below meth c A ls hx hb hml hr hts hown hlocks hin hA hG hZ hP hD hS hl => ?_)
  have hl : lv_has ls 2 [(0, .ref (ad 51))] := hl
  have key : ∀ (H : Heap) (locs : List Loc) (args : Array Value), (∀ w ∈ WG, w.before args s = true) → va_P z.1 classes (wv z ad E M) H → va_S A s.heap H locs → W p l e (rmK 2 63 0 0) s m args below meth c H locs 0 0 (MQ below (QK z A (fun _ => none) (fun _ => (wv z ad E N))) args s 0 0 A) (F0 m 0 ls []) := by
    intro H locs args hts hP hS
    unfold f_Fb_writeTrial at h
    refine lv_aload_n hx hb d_7_5_0 rfl (lv_at hl 0 rfl) ?_
    refine m_gr (j := 2) (C := "Ballothall$FalseBallot") (T := TX5) (N := 3) (ci := 5) (k := 0) hx hb hts iX5 hown hG hP (yi_51 hL) (yt_51 hL) rfl (by decide) w_152 (fun _ h9 => h9) rfl rfl (yr_51_0 hL) d_7_5_1 ?_
    obtain ⟨M100, g100, h⟩ := bd_e h
    refine kVN (As := []) (rest := []) (s_Bx_clearTrial l z ad E M M100 hL g100) hx hb hml hown hts w_1030 n_1423 w_1029 w_s_7c1b22 w_2 md_12822f ⟨Nat.le_of_ble_eq_true rfl, Nat.le_of_ble_eq_true rfl⟩ hG hZ hP hD hS hA 2 (wv_o (ci := 0) (yi_2 hL) (yt_2 hL)) rfl rfl rfl hl.1 rfl (Nat.le_of_ble_eq_true rfl) d_7_5_4 ⟨Nat.le_of_ble_eq_true rfl, Nat.le_of_ble_eq_true rfl⟩ (fun _ H locs hP hD hS => ?_)
    have hP : va_P z.1 classes (wv z ad E M100) H := hP
    have hD : va_D A (wv z ad E M100) := hD
    refine W.eq (g2 := F0 m 7 ls []) rfl ?_
    refine lv_iconst (v := oI 0) hx hb d_7_5_7 (by decide +kernel) ?_
    refine lv_istore_n (lv' := [(1, .int (oI 0)), (0, .ref (ad 51))]) hx hb d_7_5_8 rfl hl (by decide) rfl (fun ls hl => ?_)
    obtain ⟨⟨t105, v105_1, M105⟩, g105, h⟩ := bd_e h
    obtain ⟨ok105, h⟩ := ck_e h
    refine s_Fb_writeTrial_9 l z ad E hx hb hml hts hown hlocks hA hG hZ hL FU M100 0 t105 v105_1 M105 g105 (fun e105 H locs ls hP hD hS hl => ?_) H locs ls hP hD hS (lv_sub hl [1, 0] rfl)
    refine lv_aload_n hx hb d_7_5_40 rfl (lv_at hl 0 rfl) ?_
    refine m_gr (j := 2) (C := "Ballothall$FalseBallot") (T := TX5) (N := 3) (ci := 5) (k := 0) hx hb hts iX5 hown hG hP (yi_51 hL) (yt_51 hL) rfl (by decide) w_152 (fun _ h9 => h9) rfl rfl (yr_51_0 hL) d_7_5_41 ?_
    refine m_grN (j := 6) (C := "Ballothall$BallotBox") (T := TX0) (N := 10) (ci := 0) (k := 6) hx hb hts iX0 hown hG hP (yi_2 hL) (yt_2 hL) rfl (by decide) n_70 rfl (fun _ h9 => h9) rfl rfl (yr_2_6 hL) d_7_5_44 ?_
    refine lv_bipush (v := oI 30) hx hb d_7_5_47 (by decide +kernel) ?_
    refine lv_aload_n hx hb d_7_5_49 rfl (lv_at hl 0 rfl) ?_
    refine m_gr (j := 2) (C := "Ballothall$FalseBallot") (T := TX5) (N := 3) (ci := 5) (k := 0) hx hb hts iX5 hown hG hP (yi_51 hL) (yt_51 hL) rfl (by decide) w_152 (fun _ h9 => h9) rfl rfl (yr_51_0 hL) d_7_5_50 ?_
    refine m_grN (j := 8) (C := "Ballothall$BallotBox") (T := TX0) (N := 10) (ci := 0) (k := 8) hx hb hts iX0 hown hG hP (yi_2 hL) (yt_2 hL) rfl (by decide) n_75 rfl (fun _ h9 => h9) rfl rfl (yr_2_8 hL) d_7_5_53 ?_
    refine lv_bipush (v := oI 30) hx hb d_7_5_56 (by decide +kernel) ?_
    refine m_ar (k := 39) hx hb hG hP (yi_8 hL) (yt_8 hL) (by decide +kernel) ((ya_8 hL (by decide +kernel)).trans (by decide +kernel)) d_7_5_58 ?_
    refine lv_iconst (v := oI 0) hx hb d_7_5_59 (by decide +kernel) ?_
    refine m_ia hx hb hG hP (yi_39 hL) (yt_39 hL) (by decide +kernel) d_7_5_60 ?_
    refine nrm (x1 := oI (M105 39 0)) rfl ?_
    refine m_is hx hb hG hP hD hS (yi_6 hL) (yt_6 hL) (by decide +kernel) d_7_5_61 (fun H locs hP hD hS => ?_)
    have hP : va_P z.1 classes (wv z ad E (u2 M105 6 30 (M105 39 0))) H := hP
    have hD : va_D A (wv z ad E (u2 M105 6 30 (M105 39 0))) := hD
    obtain rfl := in1 h
    exact W.vret hx hb hr (fun t ht hW => qkA hP hD hS (fun k => k) rfl rfl ht) hS.2.2 d_7_5_62
  exact key _ _ _ hts hP hS
set_option maxRecDepth 100000 in
set_option maxHeartbeats 4000000 in
theorem s_Fb_swap (l : Launch) (z : Zz) (ad : Nat → Nat) (E : Ev) (M : Mm) (x1 : Int) (x2 : Int) (N : Mm) (hL : Lay E) (h : f_Fb_swap E M x1 x2 = some N) : CT l z ⟨"Ballothall$FalseBallot", "swap", "(II)V"⟩ prog_7_method_7_code 4 none [.ref (ad 51), .int (oI x1), .int (oI x2)] (wv z ad E M) 0 20 0 0 (fun _ => none) (fun _ => (wv z ad E N)) := by
  refine CT.of (own := "Ballothall$FalseBallot") (by decide +kernel) (Nat.le_of_ble_eq_true rfl) rfl (fun p e s m below meth c A ls hx hb hml hr hts hown hlocks hin hA hG hZ hP hD hS hl => ?_)
  have hl : lv_has ls 4 [(0, .ref (ad 51)), (1, .int (oI x1)), (2, .int (oI x2))] := hl
  have key : ∀ (H : Heap) (locs : List Loc) (args : Array Value), (∀ w ∈ WG, w.before args s = true) → va_P z.1 classes (wv z ad E M) H → va_S A s.heap H locs → W p l e (rmK 0 20 0 0) s m args below meth c H locs 0 0 (MQ below (QK z A (fun _ => none) (fun _ => (wv z ad E N))) args s 0 0 A) (F0 m 0 ls []) := by
    intro H locs args hts hP hS
    unfold f_Fb_swap at h
    refine lv_aload_n hx hb d_7_7_0 rfl (lv_at hl 0 rfl) ?_
    refine m_gr (j := 52) (C := "Ballothall$FalseBallot") (T := TX5) (N := 3) (ci := 5) (k := 2) hx hb hts iX5 hown hG hP (yi_51 hL) (yt_51 hL) rfl (by decide) w_154 (fun _ h9 => h9) rfl rfl (yr_51_2 hL) d_7_7_1 ?_
    refine lv_iload_n hx hb d_7_7_4 rfl (lv_at hl 1 rfl) ?_
    obtain ⟨ok100, h⟩ := ck_e h
    refine m_ia hx hb hG hP (yi_52 hL) (yt_52 hL) ok100 d_7_7_5 ?_
    refine lv_istore_n (lv' := [(3, .int (oI (M 52 x1.toNat))), (0, .ref (ad 51)), (1, .int (oI x1)), (2, .int (oI x2))]) hx hb d_7_7_6 rfl hl (by decide) rfl (fun ls hl => ?_)
    refine lv_aload_n hx hb d_7_7_7 rfl (lv_at hl 1 rfl) ?_
    refine m_gr (j := 52) (C := "Ballothall$FalseBallot") (T := TX5) (N := 3) (ci := 5) (k := 2) hx hb hts iX5 hown hG hP (yi_51 hL) (yt_51 hL) rfl (by decide) w_154 (fun _ h9 => h9) rfl rfl (yr_51_2 hL) d_7_7_8 ?_
    refine lv_iload_n hx hb d_7_7_11 rfl (lv_at hl 2 rfl) ?_
    refine lv_aload_n hx hb d_7_7_12 rfl (lv_at hl 1 rfl) ?_
    refine m_gr (j := 52) (C := "Ballothall$FalseBallot") (T := TX5) (N := 3) (ci := 5) (k := 2) hx hb hts iX5 hown hG hP (yi_51 hL) (yt_51 hL) rfl (by decide) w_154 (fun _ h9 => h9) rfl rfl (yr_51_2 hL) d_7_7_13 ?_
    refine lv_iload_n hx hb d_7_7_16 rfl (lv_at hl 3 rfl) ?_
    obtain ⟨ok101, h⟩ := ck_e h
    refine m_ia hx hb hG hP (yi_52 hL) (yt_52 hL) ok101 d_7_7_17 ?_
    refine m_is hx hb hG hP hD hS (yi_52 hL) (yt_52 hL) ok100 d_7_7_18 (fun H locs hP hD hS => ?_)
    have hP : va_P z.1 classes (wv z ad E (u2 M 52 x1.toNat (M 52 x2.toNat))) H := hP
    have hD : va_D A (wv z ad E (u2 M 52 x1.toNat (M 52 x2.toNat))) := hD
    refine lv_aload_n hx hb d_7_7_19 rfl (lv_at hl 1 rfl) ?_
    refine m_gr (j := 52) (C := "Ballothall$FalseBallot") (T := TX5) (N := 3) (ci := 5) (k := 2) hx hb hts iX5 hown hG hP (yi_51 hL) (yt_51 hL) rfl (by decide) w_154 (fun _ h9 => h9) rfl rfl (yr_51_2 hL) d_7_7_20 ?_
    refine lv_iload_n hx hb d_7_7_23 rfl (lv_at hl 3 rfl) ?_
    refine lv_iload_n hx hb d_7_7_24 rfl (lv_at hl 0 rfl) ?_
    refine m_is hx hb hG hP hD hS (yi_52 hL) (yt_52 hL) ok101 d_7_7_25 (fun H locs hP hD hS => ?_)
    have hP : va_P z.1 classes (wv z ad E (u2 (u2 M 52 x1.toNat (M 52 x2.toNat)) 52 x2.toNat (M 52 x1.toNat))) H := hP
    have hD : va_D A (wv z ad E (u2 (u2 M 52 x1.toNat (M 52 x2.toNat)) 52 x2.toNat (M 52 x1.toNat))) := hD
    obtain rfl := in1 h
    exact W.vret hx hb hr (fun t ht hW => qkA hP hD hS (fun k => k) rfl rfl ht) hS.2.2 d_7_7_26
  exact key _ _ _ hts hP hS
set_option maxRecDepth 100000 in
set_option maxHeartbeats 4000000 in
theorem b_Fb_goToNextOrder_14b (l : Launch) (z : Zz) (ad : Nat → Nat) (E : Ev) (M : Mm) (x1 : Int) (x2 : Int) (t : Nat) (w2 : Int) (N : Mm) {Q : State → Prop} {p : Program} {e : Env} {s : State} {m : MethodId} {below : List Frame} {meth : Method} {c : Code} {A : Nat → Prop} {args : Array Value} (hx : p.tables.exec = Jvm.exec) (hb : c.code = prog_7_method_6_code) (hml : c.maxLocals = 6) (hts : ∀ w ∈ WG, w.before args s = true) (hown : s.vm.findClass "Ballothall$FalseBallot" = some m.cls) (hlocks : meth.locks = false) (hA : ∀ q, s.heap.size ≤ q → A q) (hG : KG z s) (hZ : FZ z A s) (hL : Lay E) (h : Fb_goToNextOrder_14b E M x1 x2 = some (t, w2, N)) (k0 : t = 0 → ∀ (H : Heap) (locs : List Loc) (ls : Array Slot), va_P z.1 classes (wv z ad E N) H → va_D A (wv z ad E N) → va_S A s.heap H locs → lv_has ls 6 [(0, .ref (ad 51)), (1, .int (oI x1)), (2, .int (oI w2))] → W p l e (rmK 1 43 0 0) s m args below meth c H locs 0 0 Q (F0 m 14 ls [])) (k1 : t = 1 → ∀ (H : Heap) (locs : List Loc) (ls : Array Slot), va_P z.1 classes (wv z ad E N) H → va_D A (wv z ad E N) → va_S A s.heap H locs → lv_has ls 6 [(0, .ref (ad 51)), (1, .int (oI x1)), (2, .int (oI w2))] → W p l e (rmK 1 43 0 0) s m args below meth c H locs 0 0 Q (F0 m 41 ls [])) : ∀ (H : Heap) (locs : List Loc) (ls : Array Slot), va_P z.1 classes (wv z ad E M) H → va_D A (wv z ad E M) → va_S A s.heap H locs → lv_has ls 6 [(0, .ref (ad 51)), (1, .int (oI x1)), (2, .int (oI x2))] → W p l e (rmK 1 43 0 0) s m args below meth c H locs 0 0 Q (F0 m 14 ls []) := by
  intro H locs ls hP hD hS hl
  unfold Fb_goToNextOrder_14b at h
  refine lv_iload_n hx hb d_7_6_14 rfl (lv_at hl 2 rfl) ?_
  obtain ⟨ok100, h⟩ := ck_e h
  refine lv_if_lt (tgt := 41) hx hb d_7_6_15 (by decide) (fun c9 => ?_) (fun c9 => ?_)
  · have h := ite_t ((oI_lt0 ok100).mp c9) h
    obtain ⟨rfl, rfl, rfl⟩ := in3 h
    exact k1 rfl H locs ls hP hD hS (lv_sub hl [0, 1, 2] rfl)
  · have h := ite_f (fun q => c9 ((oI_lt0 ok100).mpr q)) h
    refine lv_aload_n hx hb d_7_6_18 rfl (lv_at hl 0 rfl) ?_
    refine m_gr (j := 52) (C := "Ballothall$FalseBallot") (T := TX5) (N := 3) (ci := 5) (k := 2) hx hb hts iX5 hown hG hP (yi_51 hL) (yt_51 hL) rfl (by decide) w_154 (fun _ h9 => h9) rfl rfl (yr_51_2 hL) d_7_6_19 ?_
    refine lv_iload_n hx hb d_7_6_22 rfl (lv_at hl 2 rfl) ?_
    obtain ⟨ok101, h⟩ := ck_e h
    refine m_ia hx hb hG hP (yi_52 hL) (yt_52 hL) ok101 d_7_6_23 ?_
    refine lv_aload_n hx hb d_7_6_24 rfl (lv_at hl 0 rfl) ?_
    refine m_gr (j := 52) (C := "Ballothall$FalseBallot") (T := TX5) (N := 3) (ci := 5) (k := 2) hx hb hts iX5 hown hG hP (yi_51 hL) (yt_51 hL) rfl (by decide) w_154 (fun _ h9 => h9) rfl rfl (yr_51_2 hL) d_7_6_25 ?_
    refine lv_iload_n hx hb d_7_6_28 rfl (lv_at hl 2 rfl) ?_
    refine lv_iconst (v := oI 1) hx hb d_7_6_29 (by decide +kernel) ?_
    refine lv_iadd hx hb d_7_6_30 ?_
    refine nrm (oI_add _ _) ?_
    obtain ⟨ok102, h⟩ := ck_e h
    refine m_ia hx hb hG hP (yi_52 hL) (yt_52 hL) ok102 d_7_6_31 ?_
    obtain ⟨ok103, h⟩ := ck_e h
    obtain ⟨ok104, h⟩ := ck_e h
    refine lv_icmp_le (tgt := 41) hx hb d_7_6_32 (by decide) (fun c9 => ?_) (fun c9 => ?_)
    · have h := ite_t ((oI_le (a := (M 52 x2.toNat)) (b := (M 52 (x2 + 1).toNat)) ok103 ok104).mp c9) h
      obtain ⟨rfl, rfl, rfl⟩ := in3 h
      exact k1 rfl H locs ls hP hD hS (lv_sub hl [0, 1, 2] rfl)
    · have h := ite_f (fun q => c9 ((oI_le (a := (M 52 x2.toNat)) (b := (M 52 (x2 + 1).toNat)) ok103 ok104).mpr q)) h
      refine lv_iinc (v := oI (x2 + (-1))) (lv' := [(2, .int (oI (x2 + (-1)))), (0, .ref (ad 51)), (1, .int (oI x1))]) hx hb d_7_6_35 hl (k := 2) rfl (oI_add x2 (-1)) (by decide) rfl (fun ls hl => ?_)
      refine lv_goto (tgt := 14) hx hb d_7_6_38 (by decide) ?_
      obtain ⟨rfl, rfl, rfl⟩ := in3 h
      exact k0 rfl H locs ls hP hD hS (lv_sub hl [1, 2, 0] rfl)
set_option maxRecDepth 100000 in
set_option maxHeartbeats 4000000 in
theorem s_Fb_goToNextOrder_14 (l : Launch) (z : Zz) (ad : Nat → Nat) (E : Ev) (x1 : Int) {Q : State → Prop} {p : Program} {e : Env} {s : State} {m : MethodId} {below : List Frame} {meth : Method} {c : Code} {A : Nat → Prop} {args : Array Value} (hx : p.tables.exec = Jvm.exec) (hb : c.code = prog_7_method_6_code) (hml : c.maxLocals = 6) (hts : ∀ w ∈ WG, w.before args s = true) (hown : s.vm.findClass "Ballothall$FalseBallot" = some m.cls) (hlocks : meth.locks = false) (hA : ∀ q, s.heap.size ≤ q → A q) (hG : KG z s) (hZ : FZ z A s) (hL : Lay E) : ∀ (fu : Nat) (M : Mm) (x2 : Int) (t : Nat) (w2 : Int) (N : Mm), l_Fb_goToNextOrder_14 E x1 fu M x2 = some (t, w2, N) → (t = 1 → ∀ (H : Heap) (locs : List Loc) (ls : Array Slot), va_P z.1 classes (wv z ad E N) H → va_D A (wv z ad E N) → va_S A s.heap H locs → lv_has ls 6 [(0, .ref (ad 51)), (1, .int (oI x1)), (2, .int (oI w2))] → W p l e (rmK 1 43 0 0) s m args below meth c H locs 0 0 Q (F0 m 41 ls [])) → ∀ (H : Heap) (locs : List Loc) (ls : Array Slot), va_P z.1 classes (wv z ad E M) H → va_D A (wv z ad E M) → va_S A s.heap H locs → lv_has ls 6 [(0, .ref (ad 51)), (1, .int (oI x1)), (2, .int (oI x2))] → W p l e (rmK 1 43 0 0) s m args below meth c H locs 0 0 Q (F0 m 14 ls []) := by
  intro fu
  induction fu with
  | zero =>
    intro M x2 t w2 N h
    have h : (none : Option (Nat × Int × Mm)) = some _ := h
    cases h
  | succ fu ih =>
    intro M x2 t w2 N h k1 H locs ls hP hD hS hl
    obtain ⟨⟨t0, w20, N9⟩, g0, h⟩ := bd_e h
    refine b_Fb_goToNextOrder_14b l z ad E M x1 x2 t0 w20 N9 hx hb hml hts hown hlocks hA hG hZ hL g0 (fun e0 => ?_) (fun e0 => ?_) H locs ls hP hD hS hl
    · subst e0
      have h := ite_t rfl h
      exact ih N9 w20 t w2 N h k1
    · subst e0
      have h := ite_f (by decide) h
      obtain ⟨rfl, rfl, rfl⟩ := in3 h
      exact k1 rfl
set_option maxRecDepth 100000 in
set_option maxHeartbeats 4000000 in
theorem b_Fb_goToNextOrder_48b (l : Launch) (z : Zz) (ad : Nat → Nat) (E : Ev) (M : Mm) (x1 : Int) (x2 : Int) (x3 : Int) (t : Nat) (w3 : Int) (N : Mm) {Q : State → Prop} {p : Program} {e : Env} {s : State} {m : MethodId} {below : List Frame} {meth : Method} {c : Code} {A : Nat → Prop} {args : Array Value} (hx : p.tables.exec = Jvm.exec) (hb : c.code = prog_7_method_6_code) (hml : c.maxLocals = 6) (hts : ∀ w ∈ WG, w.before args s = true) (hown : s.vm.findClass "Ballothall$FalseBallot" = some m.cls) (hlocks : meth.locks = false) (hA : ∀ q, s.heap.size ≤ q → A q) (hG : KG z s) (hZ : FZ z A s) (hL : Lay E) (h : Fb_goToNextOrder_48b E M x1 x2 x3 = some (t, w3, N)) (k0 : t = 0 → ∀ (H : Heap) (locs : List Loc) (ls : Array Slot), va_P z.1 classes (wv z ad E N) H → va_D A (wv z ad E N) → va_S A s.heap H locs → lv_has ls 6 [(0, .ref (ad 51)), (1, .int (oI x1)), (2, .int (oI x2)), (3, .int (oI w3))] → W p l e (rmK 1 43 0 0) s m args below meth c H locs 0 0 Q (F0 m 48 ls [])) (k1 : t = 1 → ∀ (H : Heap) (locs : List Loc) (ls : Array Slot), va_P z.1 classes (wv z ad E N) H → va_D A (wv z ad E N) → va_S A s.heap H locs → lv_has ls 6 [(0, .ref (ad 51)), (1, .int (oI x1)), (2, .int (oI x2)), (3, .int (oI w3))] → W p l e (rmK 1 43 0 0) s m args below meth c H locs 0 0 Q (F0 m 74 ls [])) : ∀ (H : Heap) (locs : List Loc) (ls : Array Slot), va_P z.1 classes (wv z ad E M) H → va_D A (wv z ad E M) → va_S A s.heap H locs → lv_has ls 6 [(0, .ref (ad 51)), (1, .int (oI x1)), (2, .int (oI x2)), (3, .int (oI x3))] → W p l e (rmK 1 43 0 0) s m args below meth c H locs 0 0 Q (F0 m 48 ls []) := by
  intro H locs ls hP hD hS hl
  unfold Fb_goToNextOrder_48b at h
  refine lv_iload_n hx hb d_7_6_48 rfl (lv_at hl 3 rfl) ?_
  refine lv_iload_n hx hb d_7_6_49 rfl (lv_at hl 2 rfl) ?_
  obtain ⟨ok107, h⟩ := ck_e h
  obtain ⟨ok108, h⟩ := ck_e h
  refine lv_icmp_le (tgt := 74) hx hb d_7_6_50 (by decide) (fun c9 => ?_) (fun c9 => ?_)
  · have h := ite_t ((oI_le (a := x3) (b := x2) ok107 ok108).mp c9) h
    obtain ⟨rfl, rfl, rfl⟩ := in3 h
    exact k1 rfl H locs ls hP hD hS (lv_sub hl [0, 1, 2, 3] rfl)
  · have h := ite_f (fun q => c9 ((oI_le (a := x3) (b := x2) ok107 ok108).mpr q)) h
    refine lv_aload_n hx hb d_7_6_53 rfl (lv_at hl 0 rfl) ?_
    refine m_gr (j := 52) (C := "Ballothall$FalseBallot") (T := TX5) (N := 3) (ci := 5) (k := 2) hx hb hts iX5 hown hG hP (yi_51 hL) (yt_51 hL) rfl (by decide) w_154 (fun _ h9 => h9) rfl rfl (yr_51_2 hL) d_7_6_54 ?_
    refine lv_iload_n hx hb d_7_6_57 rfl (lv_at hl 3 rfl) ?_
    obtain ⟨ok109, h⟩ := ck_e h
    refine m_ia hx hb hG hP (yi_52 hL) (yt_52 hL) ok109 d_7_6_58 ?_
    refine lv_aload_n hx hb d_7_6_59 rfl (lv_at hl 0 rfl) ?_
    refine m_gr (j := 52) (C := "Ballothall$FalseBallot") (T := TX5) (N := 3) (ci := 5) (k := 2) hx hb hts iX5 hown hG hP (yi_51 hL) (yt_51 hL) rfl (by decide) w_154 (fun _ h9 => h9) rfl rfl (yr_51_2 hL) d_7_6_60 ?_
    refine lv_iload_n hx hb d_7_6_63 rfl (lv_at hl 2 rfl) ?_
    obtain ⟨ok110, h⟩ := ck_e h
    refine m_ia hx hb hG hP (yi_52 hL) (yt_52 hL) ok110 d_7_6_64 ?_
    obtain ⟨ok111, h⟩ := ck_e h
    obtain ⟨ok112, h⟩ := ck_e h
    refine lv_icmp_ge (tgt := 74) hx hb d_7_6_65 (by decide) (fun c9 => ?_) (fun c9 => ?_)
    · have h := ite_t ((oI_le (a := (M 52 x2.toNat)) (b := (M 52 x3.toNat)) ok112 ok111).mp c9) h
      obtain ⟨rfl, rfl, rfl⟩ := in3 h
      exact k1 rfl H locs ls hP hD hS (lv_sub hl [0, 1, 2, 3] rfl)
    · have h := ite_f (fun q => c9 ((oI_le (a := (M 52 x2.toNat)) (b := (M 52 x3.toNat)) ok112 ok111).mpr q)) h
      refine lv_iinc (v := oI (x3 + (-1))) (lv' := [(3, .int (oI (x3 + (-1)))), (0, .ref (ad 51)), (1, .int (oI x1)), (2, .int (oI x2))]) hx hb d_7_6_68 hl (k := 3) rfl (oI_add x3 (-1)) (by decide) rfl (fun ls hl => ?_)
      refine lv_goto (tgt := 48) hx hb d_7_6_71 (by decide) ?_
      obtain ⟨rfl, rfl, rfl⟩ := in3 h
      exact k0 rfl H locs ls hP hD hS (lv_sub hl [1, 2, 3, 0] rfl)
set_option maxRecDepth 100000 in
set_option maxHeartbeats 4000000 in
theorem s_Fb_goToNextOrder_48 (l : Launch) (z : Zz) (ad : Nat → Nat) (E : Ev) (x1 : Int) (x2 : Int) {Q : State → Prop} {p : Program} {e : Env} {s : State} {m : MethodId} {below : List Frame} {meth : Method} {c : Code} {A : Nat → Prop} {args : Array Value} (hx : p.tables.exec = Jvm.exec) (hb : c.code = prog_7_method_6_code) (hml : c.maxLocals = 6) (hts : ∀ w ∈ WG, w.before args s = true) (hown : s.vm.findClass "Ballothall$FalseBallot" = some m.cls) (hlocks : meth.locks = false) (hA : ∀ q, s.heap.size ≤ q → A q) (hG : KG z s) (hZ : FZ z A s) (hL : Lay E) : ∀ (fu : Nat) (M : Mm) (x3 : Int) (t : Nat) (w3 : Int) (N : Mm), l_Fb_goToNextOrder_48 E x1 x2 fu M x3 = some (t, w3, N) → (t = 1 → ∀ (H : Heap) (locs : List Loc) (ls : Array Slot), va_P z.1 classes (wv z ad E N) H → va_D A (wv z ad E N) → va_S A s.heap H locs → lv_has ls 6 [(0, .ref (ad 51)), (1, .int (oI x1)), (2, .int (oI x2)), (3, .int (oI w3))] → W p l e (rmK 1 43 0 0) s m args below meth c H locs 0 0 Q (F0 m 74 ls [])) → ∀ (H : Heap) (locs : List Loc) (ls : Array Slot), va_P z.1 classes (wv z ad E M) H → va_D A (wv z ad E M) → va_S A s.heap H locs → lv_has ls 6 [(0, .ref (ad 51)), (1, .int (oI x1)), (2, .int (oI x2)), (3, .int (oI x3))] → W p l e (rmK 1 43 0 0) s m args below meth c H locs 0 0 Q (F0 m 48 ls []) := by
  intro fu
  induction fu with
  | zero =>
    intro M x3 t w3 N h
    have h : (none : Option (Nat × Int × Mm)) = some _ := h
    cases h
  | succ fu ih =>
    intro M x3 t w3 N h k1 H locs ls hP hD hS hl
    obtain ⟨⟨t0, w30, N9⟩, g0, h⟩ := bd_e h
    refine b_Fb_goToNextOrder_48b l z ad E M x1 x2 x3 t0 w30 N9 hx hb hml hts hown hlocks hA hG hZ hL g0 (fun e0 => ?_) (fun e0 => ?_) H locs ls hP hD hS hl
    · subst e0
      have h := ite_t rfl h
      exact ih N9 w30 t w3 N h k1
    · subst e0
      have h := ite_f (by decide) h
      obtain ⟨rfl, rfl, rfl⟩ := in3 h
      exact k1 rfl
set_option maxRecDepth 100000 in
set_option maxHeartbeats 4000000 in
theorem b_Fb_goToNextOrder_88b (l : Launch) (z : Zz) (ad : Nat → Nat) (E : Ev) (M : Mm) (x4 : Int) (x5 : Int) (t : Nat) (w4 : Int) (w5 : Int) (N : Mm) {Q : State → Prop} {p : Program} {e : Env} {s : State} {m : MethodId} {below : List Frame} {meth : Method} {c : Code} {A : Nat → Prop} {args : Array Value} (hx : p.tables.exec = Jvm.exec) (hb : c.code = prog_7_method_6_code) (hml : c.maxLocals = 6) (hts : ∀ w ∈ WG, w.before args s = true) (hown : s.vm.findClass "Ballothall$FalseBallot" = some m.cls) (hlocks : meth.locks = false) (hA : ∀ q, s.heap.size ≤ q → A q) (hG : KG z s) (hZ : FZ z A s) (hL : Lay E) (h : Fb_goToNextOrder_88b E M x4 x5 = some (t, w4, w5, N)) (k0 : t = 0 → ∀ (H : Heap) (locs : List Loc) (ls : Array Slot), va_P z.1 classes (wv z ad E N) H → va_D A (wv z ad E N) → va_S A s.heap H locs → lv_has ls 6 [(0, .ref (ad 51)), (4, .int (oI w4)), (5, .int (oI w5))] → W p l e (rmK 1 43 0 0) s m args below meth c H locs 0 0 Q (F0 m 88 ls [])) (k1 : t = 1 → ∀ (H : Heap) (locs : List Loc) (ls : Array Slot), va_P z.1 classes (wv z ad E N) H → va_D A (wv z ad E N) → va_S A s.heap H locs → lv_has ls 6 [] → W p l e (rmK 1 43 0 0) s m args below meth c H locs 0 0 Q (F0 m 112 ls [])) : ∀ (H : Heap) (locs : List Loc) (ls : Array Slot), va_P z.1 classes (wv z ad E M) H → va_D A (wv z ad E M) → va_S A s.heap H locs → lv_has ls 6 [(0, .ref (ad 51)), (4, .int (oI x4)), (5, .int (oI x5))] → W p l e (rmK 1 43 0 0) s m args below meth c H locs 0 0 Q (F0 m 88 ls []) := by
  intro H locs ls hP hD hS hl
  unfold Fb_goToNextOrder_88b at h
  refine lv_iload hx hb d_7_6_88 (lv_at hl 1 rfl) ?_
  refine lv_iload hx hb d_7_6_90 (lv_at hl 2 rfl) ?_
  obtain ⟨ok115, h⟩ := ck_e h
  obtain ⟨ok116, h⟩ := ck_e h
  refine lv_icmp_ge (tgt := 112) hx hb d_7_6_92 (by decide) (fun c9 => ?_) (fun c9 => ?_)
  · have h := ite_t ((oI_le (a := x5) (b := x4) ok116 ok115).mp c9) h
    obtain ⟨rfl, rfl, rfl, rfl⟩ := in4 h
    exact k1 rfl H locs ls hP hD hS (lv_sub hl [] rfl)
  · have h := ite_f (fun q => c9 ((oI_le (a := x5) (b := x4) ok116 ok115).mpr q)) h
    refine lv_aload_n hx hb d_7_6_95 rfl (lv_at hl 0 rfl) ?_
    refine lv_iload hx hb d_7_6_96 (lv_at hl 1 rfl) ?_
    refine lv_iload hx hb d_7_6_98 (lv_at hl 2 rfl) ?_
    obtain ⟨M117, g117, h⟩ := bd_e h
    refine kV (As := [.int (oI x4), .int (oI x5)]) (rest := []) (s_Fb_swap l z ad E M x4 x5 M117 hL g117) hx hb hml hown hts w_1433 w_1430 w_1432 w_s_4247c6 w_4 md_950878 ⟨Nat.le_of_ble_eq_true rfl, Nat.le_of_ble_eq_true rfl⟩ hG hZ hP hD hS hA 51 (wv_o (ci := 5) (yi_51 hL) (yt_51 hL)) rfl rfl rfl hl.1 rfl (Nat.le_of_ble_eq_true rfl) d_7_6_100 ⟨Nat.le_of_ble_eq_true rfl, Nat.le_of_ble_eq_true rfl⟩ (fun _ H locs hP hD hS => ?_)
    have hP : va_P z.1 classes (wv z ad E M117) H := hP
    have hD : va_D A (wv z ad E M117) := hD
    refine W.eq (g2 := F0 m 103 ls []) rfl ?_
    refine lv_iinc (v := oI (x4 + 1)) (lv' := [(4, .int (oI (x4 + 1))), (0, .ref (ad 51)), (5, .int (oI x5))]) hx hb d_7_6_103 hl (k := 1) rfl (oI_add x4 1) (by decide) rfl (fun ls hl => ?_)
    refine lv_iinc (v := oI (x5 + (-1))) (lv' := [(5, .int (oI (x5 + (-1)))), (4, .int (oI (x4 + 1))), (0, .ref (ad 51))]) hx hb d_7_6_106 hl (k := 2) rfl (oI_add x5 (-1)) (by decide) rfl (fun ls hl => ?_)
    refine lv_goto (tgt := 88) hx hb d_7_6_109 (by decide) ?_
    obtain ⟨rfl, rfl, rfl, rfl⟩ := in4 h
    exact k0 rfl H locs ls hP hD hS (lv_sub hl [2, 1, 0] rfl)
set_option maxRecDepth 100000 in
set_option maxHeartbeats 4000000 in
theorem s_Fb_goToNextOrder_88 (l : Launch) (z : Zz) (ad : Nat → Nat) (E : Ev) {Q : State → Prop} {p : Program} {e : Env} {s : State} {m : MethodId} {below : List Frame} {meth : Method} {c : Code} {A : Nat → Prop} {args : Array Value} (hx : p.tables.exec = Jvm.exec) (hb : c.code = prog_7_method_6_code) (hml : c.maxLocals = 6) (hts : ∀ w ∈ WG, w.before args s = true) (hown : s.vm.findClass "Ballothall$FalseBallot" = some m.cls) (hlocks : meth.locks = false) (hA : ∀ q, s.heap.size ≤ q → A q) (hG : KG z s) (hZ : FZ z A s) (hL : Lay E) : ∀ (fu : Nat) (M : Mm) (x4 : Int) (x5 : Int) (t : Nat) (w4 : Int) (w5 : Int) (N : Mm), l_Fb_goToNextOrder_88 E fu M x4 x5 = some (t, w4, w5, N) → (t = 1 → ∀ (H : Heap) (locs : List Loc) (ls : Array Slot), va_P z.1 classes (wv z ad E N) H → va_D A (wv z ad E N) → va_S A s.heap H locs → lv_has ls 6 [] → W p l e (rmK 1 43 0 0) s m args below meth c H locs 0 0 Q (F0 m 112 ls [])) → ∀ (H : Heap) (locs : List Loc) (ls : Array Slot), va_P z.1 classes (wv z ad E M) H → va_D A (wv z ad E M) → va_S A s.heap H locs → lv_has ls 6 [(0, .ref (ad 51)), (4, .int (oI x4)), (5, .int (oI x5))] → W p l e (rmK 1 43 0 0) s m args below meth c H locs 0 0 Q (F0 m 88 ls []) := by
  intro fu
  induction fu with
  | zero =>
    intro M x4 x5 t w4 w5 N h
    have h : (none : Option (Nat × Int × Int × Mm)) = some _ := h
    cases h
  | succ fu ih =>
    intro M x4 x5 t w4 w5 N h k1 H locs ls hP hD hS hl
    obtain ⟨⟨t0, w40, w50, N9⟩, g0, h⟩ := bd_e h
    refine b_Fb_goToNextOrder_88b l z ad E M x4 x5 t0 w40 w50 N9 hx hb hml hts hown hlocks hA hG hZ hL g0 (fun e0 => ?_) (fun e0 => ?_) H locs ls hP hD hS hl
    · subst e0
      have h := ite_t rfl h
      exact ih N9 w40 w50 t w4 w5 N h k1
    · subst e0
      have h := ite_f (by decide) h
      obtain ⟨rfl, rfl, rfl, rfl⟩ := in4 h
      exact k1 rfl
set_option maxRecDepth 100000 in
set_option maxHeartbeats 4000000 in
theorem b_Fb_goToNextOrder_j74 (l : Launch) (z : Zz) (ad : Nat → Nat) (E : Ev) (M : Mm) (x1 : Int) (x2 : Int) (x3 : Int) (N : Mm) {p : Program} {e : Env} {s : State} {m : MethodId} {below : List Frame} {meth : Method} {c : Code} {A : Nat → Prop} {args : Array Value} (hx : p.tables.exec = Jvm.exec) (hb : c.code = prog_7_method_6_code) (hml : c.maxLocals = 6) (hts : ∀ w ∈ WG, w.before args s = true) (hown : s.vm.findClass "Ballothall$FalseBallot" = some m.cls) (hlocks : meth.locks = false) (hA : ∀ q, s.heap.size ≤ q → A q) (hG : KG z s) (hZ : FZ z A s) (hL : Lay E) (hr : meth.sig.returnType = none) (h : Fb_goToNextOrder_j74 E M x1 x2 x3 = some N) : ∀ (H : Heap) (locs : List Loc) (ls : Array Slot), va_P z.1 classes (wv z ad E M) H → va_D A (wv z ad E M) → va_S A s.heap H locs → lv_has ls 6 [(0, .ref (ad 51)), (1, .int (oI x1)), (2, .int (oI x2)), (3, .int (oI x3))] → W p l e (rmK 1 43 0 0) s m args below meth c H locs 0 0 (MQ below (QK z A (fun _ => none) (fun _ => (wv z ad E N))) args s 0 0 A) (F0 m 74 ls []) := by
  intro H locs ls hP hD hS hl
  unfold Fb_goToNextOrder_j74 at h
  refine lv_aload_n hx hb d_7_6_74 rfl (lv_at hl 0 rfl) ?_
  refine lv_iload_n hx hb d_7_6_75 rfl (lv_at hl 2 rfl) ?_
  refine lv_iload_n hx hb d_7_6_76 rfl (lv_at hl 3 rfl) ?_
  obtain ⟨M114, g114, h⟩ := bd_e h
  refine kV (As := [.int (oI x2), .int (oI x3)]) (rest := []) (s_Fb_swap l z ad E M x2 x3 M114 hL g114) hx hb hml hown hts w_1433 w_1430 w_1432 w_s_4247c6 w_4 md_950878 ⟨Nat.le_of_ble_eq_true rfl, Nat.le_of_ble_eq_true rfl⟩ hG hZ hP hD hS hA 51 (wv_o (ci := 5) (yi_51 hL) (yt_51 hL)) rfl rfl rfl hl.1 rfl (Nat.le_of_ble_eq_true rfl) d_7_6_77 ⟨Nat.le_of_ble_eq_true rfl, Nat.le_of_ble_eq_true rfl⟩ (fun _ H locs hP hD hS => ?_)
  have hP : va_P z.1 classes (wv z ad E M114) H := hP
  have hD : va_D A (wv z ad E M114) := hD
  refine W.eq (g2 := F0 m 80 ls []) rfl ?_
  refine lv_iload_n hx hb d_7_6_80 rfl (lv_at hl 2 rfl) ?_
  refine lv_iconst (v := oI 1) hx hb d_7_6_81 (by decide +kernel) ?_
  refine lv_iadd hx hb d_7_6_82 ?_
  refine nrm (oI_add _ _) ?_
  refine lv_istore (lv' := [(4, .int (oI (x2 + 1))), (0, .ref (ad 51)), (1, .int (oI x1)), (2, .int (oI x2)), (3, .int (oI x3))]) hx hb d_7_6_83 hl (by decide) rfl (fun ls hl => ?_)
  refine lv_iload_n hx hb d_7_6_85 rfl (lv_at hl 2 rfl) ?_
  refine lv_istore (lv' := [(5, .int (oI x1)), (4, .int (oI (x2 + 1))), (0, .ref (ad 51)), (1, .int (oI x1)), (2, .int (oI x2)), (3, .int (oI x3))]) hx hb d_7_6_86 hl (by decide) rfl (fun ls hl => ?_)
  obtain ⟨⟨t118, v118_4, v118_5, M118⟩, g118, h⟩ := bd_e h
  obtain ⟨ok118, h⟩ := ck_e h
  refine s_Fb_goToNextOrder_88 l z ad E hx hb hml hts hown hlocks hA hG hZ hL FU M114 (x2 + 1) x1 t118 v118_4 v118_5 M118 g118 (fun e118 H locs ls hP hD hS hl => ?_) H locs ls hP hD hS (lv_sub hl [2, 1, 0] rfl)
  obtain rfl := in1 h
  exact W.vret hx hb hr (fun t ht hW => qkA hP hD hS (fun k => k) rfl rfl ht) hS.2.2 d_7_6_112
set_option maxRecDepth 100000 in
set_option maxHeartbeats 4000000 in
theorem b_Fb_goToNextOrder_j41 (l : Launch) (z : Zz) (ad : Nat → Nat) (E : Ev) (M : Mm) (x1 : Int) (x2 : Int) (N : Mm) {p : Program} {e : Env} {s : State} {m : MethodId} {below : List Frame} {meth : Method} {c : Code} {A : Nat → Prop} {args : Array Value} (hx : p.tables.exec = Jvm.exec) (hb : c.code = prog_7_method_6_code) (hml : c.maxLocals = 6) (hts : ∀ w ∈ WG, w.before args s = true) (hown : s.vm.findClass "Ballothall$FalseBallot" = some m.cls) (hlocks : meth.locks = false) (hA : ∀ q, s.heap.size ≤ q → A q) (hG : KG z s) (hZ : FZ z A s) (hL : Lay E) (hr : meth.sig.returnType = none) (h : Fb_goToNextOrder_j41 E M x1 x2 = some N) : ∀ (H : Heap) (locs : List Loc) (ls : Array Slot), va_P z.1 classes (wv z ad E M) H → va_D A (wv z ad E M) → va_S A s.heap H locs → lv_has ls 6 [(0, .ref (ad 51)), (1, .int (oI x1)), (2, .int (oI x2))] → W p l e (rmK 1 43 0 0) s m args below meth c H locs 0 0 (MQ below (QK z A (fun _ => none) (fun _ => (wv z ad E N))) args s 0 0 A) (F0 m 41 ls []) := by
  intro H locs ls hP hD hS hl
  unfold Fb_goToNextOrder_j41 at h
  refine lv_iload_n hx hb d_7_6_41 rfl (lv_at hl 2 rfl) ?_
  obtain ⟨ok106, h⟩ := ck_e h
  refine lv_if_ge (tgt := 46) hx hb d_7_6_42 (by decide) (fun c9 => ?_) (fun c9 => ?_)
  · have h := ite_t ((oI_ge0 ok106).mp c9) h
    refine lv_iload_n hx hb d_7_6_46 rfl (lv_at hl 1 rfl) ?_
    refine lv_istore_n (lv' := [(3, .int (oI x1)), (0, .ref (ad 51)), (1, .int (oI x1)), (2, .int (oI x2))]) hx hb d_7_6_47 rfl hl (by decide) rfl (fun ls hl => ?_)
    obtain ⟨⟨t113, v113_3, M113⟩, g113, h⟩ := bd_e h
    obtain ⟨ok113, h⟩ := ck_e h
    refine s_Fb_goToNextOrder_48 l z ad E x1 x2 hx hb hml hts hown hlocks hA hG hZ hL FU M x1 t113 v113_3 M113 g113 (fun e113 H locs ls hP hD hS hl => ?_) H locs ls hP hD hS (lv_sub hl [1, 2, 3, 0] rfl)
    exact b_Fb_goToNextOrder_j74 l z ad E M113 x1 x2 v113_3 N hx hb hml hts hown hlocks hA hG hZ hL hr h H locs ls hP hD hS (lv_sub hl [0, 1, 2, 3] rfl)
  · have h := ite_f (fun q => c9 ((oI_ge0 ok106).mpr q)) h
    obtain rfl := in1 h
    exact W.vret hx hb hr (fun t ht hW => qkA hP hD hS (fun k => k) rfl rfl ht) hS.2.2 d_7_6_45
set_option maxRecDepth 100000 in
set_option maxHeartbeats 4000000 in
theorem s_Fb_goToNextOrder (l : Launch) (z : Zz) (ad : Nat → Nat) (E : Ev) (M : Mm) (N : Mm) (hL : Lay E) (h : f_Fb_goToNextOrder E M = some N) : CT l z ⟨"Ballothall$FalseBallot", "goToNextOrder", "()V"⟩ prog_7_method_6_code 6 none [.ref (ad 51)] (wv z ad E M) 1 43 0 0 (fun _ => none) (fun _ => (wv z ad E N)) := by
  refine CT.of (own := "Ballothall$FalseBallot") (by decide +kernel) (Nat.le_of_ble_eq_true rfl) rfl (fun p e s m below meth c A ls hx hb hml hr hts hown hlocks hin hA hG hZ hP hD hS hl => ?_)
  have hl : lv_has ls 6 [(0, .ref (ad 51))] := hl
  have key : ∀ (H : Heap) (locs : List Loc) (args : Array Value), (∀ w ∈ WG, w.before args s = true) → va_P z.1 classes (wv z ad E M) H → va_S A s.heap H locs → W p l e (rmK 1 43 0 0) s m args below meth c H locs 0 0 (MQ below (QK z A (fun _ => none) (fun _ => (wv z ad E N))) args s 0 0 A) (F0 m 0 ls []) := by
    intro H locs args hts hP hS
    unfold f_Fb_goToNextOrder at h
    refine lv_aload_n hx hb d_7_6_0 rfl (lv_at hl 0 rfl) ?_
    refine m_gr (j := 2) (C := "Ballothall$FalseBallot") (T := TX5) (N := 3) (ci := 5) (k := 0) hx hb hts iX5 hown hG hP (yi_51 hL) (yt_51 hL) rfl (by decide) w_152 (fun _ h9 => h9) rfl rfl (yr_51_0 hL) d_7_6_1 ?_
    refine m_giN (C := "Ballothall$BallotBox") (T := TX0) (N := 10) (ci := 0) (k := 2) hx hb hts iX0 hown hG hP (yi_2 hL) (yt_2 hL) rfl (by decide) n_54 rfl (fun _ h9 => h9) rfl rfl d_7_6_4 ?_
    refine lv_iconst (v := oI 1) hx hb d_7_6_7 (by decide +kernel) ?_
    refine lv_isub hx hb d_7_6_8 ?_
    refine nrm (oI_sub _ _) ?_
    refine lv_istore_n (lv' := [(1, .int (oI ((M 2 2) - 1))), (0, .ref (ad 51))]) hx hb d_7_6_9 rfl hl (by decide) rfl (fun ls hl => ?_)
    refine lv_iload_n hx hb d_7_6_10 rfl (lv_at hl 0 rfl) ?_
    refine lv_iconst (v := oI 1) hx hb d_7_6_11 (by decide +kernel) ?_
    refine lv_isub hx hb d_7_6_12 ?_
    refine nrm (oI_sub _ _) ?_
    refine lv_istore_n (lv' := [(2, .int (oI (((M 2 2) - 1) - 1))), (1, .int (oI ((M 2 2) - 1))), (0, .ref (ad 51))]) hx hb d_7_6_13 rfl hl (by decide) rfl (fun ls hl => ?_)
    obtain ⟨⟨t105, v105_2, M105⟩, g105, h⟩ := bd_e h
    obtain ⟨ok105, h⟩ := ck_e h
    refine s_Fb_goToNextOrder_14 l z ad E ((M 2 2) - 1) hx hb hml hts hown hlocks hA hG hZ hL FU M (((M 2 2) - 1) - 1) t105 v105_2 M105 g105 (fun e105 H locs ls hP hD hS hl => ?_) H locs ls hP hD hS (lv_sub hl [2, 1, 0] rfl)
    exact b_Fb_goToNextOrder_j41 l z ad E M105 ((M 2 2) - 1) v105_2 N hx hb hml hts hown hlocks hA hG hZ hL hr h H locs ls hP hD hS (lv_sub hl [0, 1, 2] rfl)
  exact key _ _ _ hts hP hS
set_option maxRecDepth 100000 in
set_option maxHeartbeats 4000000 in
theorem b_Fb_findOrder_2b (l : Launch) (z : Zz) (ad : Nat → Nat) (E : Ev) (M : Mm) (x1 : Int) (x2 : Int) (x3 : Int) (t : Nat) (w3 : Int) (N : Mm) {Q : State → Prop} {p : Program} {e : Env} {s : State} {m : MethodId} {below : List Frame} {meth : Method} {c : Code} {A : Nat → Prop} {args : Array Value} (hx : p.tables.exec = Jvm.exec) (hb : c.code = prog_7_method_4_code) (hml : c.maxLocals = 7) (hts : ∀ w ∈ WG, w.before args s = true) (hown : s.vm.findClass "Ballothall$FalseBallot" = some m.cls) (hlocks : meth.locks = false) (hA : ∀ q, s.heap.size ≤ q → A q) (hG : KG z s) (hZ : FZ z A s) (hL : Lay E) (h : Fb_findOrder_2b E M x1 x2 x3 = some (t, w3, N)) (k0 : t = 0 → ∀ (H : Heap) (locs : List Loc) (ls : Array Slot), va_P z.1 classes (wv z ad E N) H → va_D A (wv z ad E N) → va_S A s.heap H locs → lv_has ls 7 [(0, .ref (ad 51)), (1, .int (oI x1)), (2, .int (oI x2)), (3, .int (oI w3))] → W p l e (rmK 5 135 0 0) s m args below meth c H locs 0 0 Q (F0 m 2 ls [])) (k1 : t = 1 → ∀ (H : Heap) (locs : List Loc) (ls : Array Slot), va_P z.1 classes (wv z ad E N) H → va_D A (wv z ad E N) → va_S A s.heap H locs → lv_has ls 7 [(0, .ref (ad 51)), (1, .int (oI x1)), (2, .int (oI x2))] → W p l e (rmK 5 135 0 0) s m args below meth c H locs 0 0 Q (F0 m 20 ls [])) : ∀ (H : Heap) (locs : List Loc) (ls : Array Slot), va_P z.1 classes (wv z ad E M) H → va_D A (wv z ad E M) → va_S A s.heap H locs → lv_has ls 7 [(0, .ref (ad 51)), (1, .int (oI x1)), (2, .int (oI x2)), (3, .int (oI x3))] → W p l e (rmK 5 135 0 0) s m args below meth c H locs 0 0 Q (F0 m 2 ls []) := by
  intro H locs ls hP hD hS hl
  unfold Fb_findOrder_2b at h
  refine lv_iload_n hx hb d_7_4_2 rfl (lv_at hl 3 rfl) ?_
  refine lv_iconst (v := oI 5) hx hb d_7_4_3 (by decide +kernel) ?_
  obtain ⟨ok100, h⟩ := ck_e h
  refine lv_icmp_ge (tgt := 20) hx hb d_7_4_4 (by decide) (fun c9 => ?_) (fun c9 => ?_)
  · have h := ite_t ((oI_le (a := (5 : Int)) (b := x3) (by decide) ok100).mp c9) h
    obtain ⟨rfl, rfl, rfl⟩ := in3 h
    exact k1 rfl H locs ls hP hD hS (lv_sub hl [0, 1, 2] rfl)
  · have h := ite_f (fun q => c9 ((oI_le (a := (5 : Int)) (b := x3) (by decide) ok100).mpr q)) h
    refine lv_aload_n hx hb d_7_4_7 rfl (lv_at hl 0 rfl) ?_
    refine m_gr (j := 52) (C := "Ballothall$FalseBallot") (T := TX5) (N := 3) (ci := 5) (k := 2) hx hb hts iX5 hown hG hP (yi_51 hL) (yt_51 hL) rfl (by decide) w_154 (fun _ h9 => h9) rfl rfl (yr_51_2 hL) d_7_4_8 ?_
    refine lv_iload_n hx hb d_7_4_11 rfl (lv_at hl 3 rfl) ?_
    refine lv_iload_n hx hb d_7_4_12 rfl (lv_at hl 3 rfl) ?_
    obtain ⟨ok101, h⟩ := ck_e h
    refine m_is hx hb hG hP hD hS (yi_52 hL) (yt_52 hL) ok101 d_7_4_13 (fun H locs hP hD hS => ?_)
    have hP : va_P z.1 classes (wv z ad E (u2 M 52 x3.toNat x3)) H := hP
    have hD : va_D A (wv z ad E (u2 M 52 x3.toNat x3)) := hD
    refine lv_iinc (v := oI (x3 + 1)) (lv' := [(3, .int (oI (x3 + 1))), (0, .ref (ad 51)), (1, .int (oI x1)), (2, .int (oI x2))]) hx hb d_7_4_14 hl (k := 3) rfl (oI_add x3 1) (by decide) rfl (fun ls hl => ?_)
    refine lv_goto (tgt := 2) hx hb d_7_4_17 (by decide) ?_
    obtain ⟨rfl, rfl, rfl⟩ := in3 h
    exact k0 rfl H locs ls hP hD hS (lv_sub hl [1, 2, 3, 0] rfl)
set_option maxRecDepth 100000 in
set_option maxHeartbeats 4000000 in
theorem s_Fb_findOrder_2 (l : Launch) (z : Zz) (ad : Nat → Nat) (E : Ev) (x1 : Int) (x2 : Int) {Q : State → Prop} {p : Program} {e : Env} {s : State} {m : MethodId} {below : List Frame} {meth : Method} {c : Code} {A : Nat → Prop} {args : Array Value} (hx : p.tables.exec = Jvm.exec) (hb : c.code = prog_7_method_4_code) (hml : c.maxLocals = 7) (hts : ∀ w ∈ WG, w.before args s = true) (hown : s.vm.findClass "Ballothall$FalseBallot" = some m.cls) (hlocks : meth.locks = false) (hA : ∀ q, s.heap.size ≤ q → A q) (hG : KG z s) (hZ : FZ z A s) (hL : Lay E) : ∀ (fu : Nat) (M : Mm) (x3 : Int) (t : Nat) (w3 : Int) (N : Mm), l_Fb_findOrder_2 E x1 x2 fu M x3 = some (t, w3, N) → (t = 1 → ∀ (H : Heap) (locs : List Loc) (ls : Array Slot), va_P z.1 classes (wv z ad E N) H → va_D A (wv z ad E N) → va_S A s.heap H locs → lv_has ls 7 [(0, .ref (ad 51)), (1, .int (oI x1)), (2, .int (oI x2))] → W p l e (rmK 5 135 0 0) s m args below meth c H locs 0 0 Q (F0 m 20 ls [])) → ∀ (H : Heap) (locs : List Loc) (ls : Array Slot), va_P z.1 classes (wv z ad E M) H → va_D A (wv z ad E M) → va_S A s.heap H locs → lv_has ls 7 [(0, .ref (ad 51)), (1, .int (oI x1)), (2, .int (oI x2)), (3, .int (oI x3))] → W p l e (rmK 5 135 0 0) s m args below meth c H locs 0 0 Q (F0 m 2 ls []) := by
  intro fu
  induction fu with
  | zero =>
    intro M x3 t w3 N h
    have h : (none : Option (Nat × Int × Mm)) = some _ := h
    cases h
  | succ fu ih =>
    intro M x3 t w3 N h k1 H locs ls hP hD hS hl
    obtain ⟨⟨t0, w30, N9⟩, g0, h⟩ := bd_e h
    refine b_Fb_findOrder_2b l z ad E M x1 x2 x3 t0 w30 N9 hx hb hml hts hown hlocks hA hG hZ hL g0 (fun e0 => ?_) (fun e0 => ?_) H locs ls hP hD hS hl
    · subst e0
      have h := ite_t rfl h
      exact ih N9 w30 t w3 N h k1
    · subst e0
      have h := ite_f (by decide) h
      obtain ⟨rfl, rfl, rfl⟩ := in3 h
      exact k1 rfl
set_option maxRecDepth 100000 in
set_option maxHeartbeats 4000000 in
theorem b_Fb_findOrder_j94 (l : Launch) (z : Zz) (ad : Nat → Nat) (E : Ev) (M : Mm) (x1 : Int) (x2 : Int) (x3 : Int) (x5 : Int) (t : Nat) (w5 : Int) (N : Mm) {Q : State → Prop} {p : Program} {e : Env} {s : State} {m : MethodId} {below : List Frame} {meth : Method} {c : Code} {A : Nat → Prop} {args : Array Value} (hx : p.tables.exec = Jvm.exec) (hb : c.code = prog_7_method_4_code) (hml : c.maxLocals = 7) (hts : ∀ w ∈ WG, w.before args s = true) (hown : s.vm.findClass "Ballothall$FalseBallot" = some m.cls) (hlocks : meth.locks = false) (hA : ∀ q, s.heap.size ≤ q → A q) (hG : KG z s) (hZ : FZ z A s) (hL : Lay E) (h : Fb_findOrder_j94 E M x1 x2 x3 x5 = some (t, w5, N)) (k0 : t = 0 → ∀ (H : Heap) (locs : List Loc) (ls : Array Slot), va_P z.1 classes (wv z ad E N) H → va_D A (wv z ad E N) → va_S A s.heap H locs → lv_has ls 7 [(0, .ref (ad 51)), (1, .int (oI x1)), (2, .int (oI x2)), (3, .long (oJ x3)), (5, .int (oI w5))] → W p l e (rmK 5 135 0 0) s m args below meth c H locs 0 0 Q (F0 m 35 ls [])) (k1 : t = 1 → ∀ (H : Heap) (locs : List Loc) (ls : Array Slot), va_P z.1 classes (wv z ad E N) H → va_D A (wv z ad E N) → va_S A s.heap H locs → lv_has ls 7 [] → W p l e (rmK 5 135 0 0) s m args below meth c H locs 0 0 Q (F0 m 92 ls [])) (k2 : t = 2 → ∀ (H : Heap) (locs : List Loc) (ls : Array Slot), va_P z.1 classes (wv z ad E N) H → va_D A (wv z ad E N) → va_S A s.heap H locs → lv_has ls 7 [] → W p l e (rmK 5 135 0 0) s m args below meth c H locs 0 0 Q (F0 m 104 ls [])) : ∀ (H : Heap) (locs : List Loc) (ls : Array Slot), va_P z.1 classes (wv z ad E M) H → va_D A (wv z ad E M) → va_S A s.heap H locs → lv_has ls 7 [(0, .ref (ad 51)), (1, .int (oI x1)), (2, .int (oI x2)), (3, .long (oJ x3)), (5, .int (oI x5))] → W p l e (rmK 5 135 0 0) s m args below meth c H locs 0 0 Q (F0 m 94 ls []) := by
  intro H locs ls hP hD hS hl
  unfold Fb_findOrder_j94 at h
  refine lv_aload_n hx hb d_7_4_94 rfl (lv_at hl 0 rfl) ?_
  obtain ⟨M112, g112, h⟩ := bd_e h
  refine kV (As := []) (rest := []) (s_Fb_goToNextOrder l z ad E M M112 hL g112) hx hb hml hown hts w_1429 w_1426 w_1428 w_s_8750fd w_4 md_202b03 ⟨Nat.le_of_ble_eq_true rfl, Nat.le_of_ble_eq_true rfl⟩ hG hZ hP hD hS hA 51 (wv_o (ci := 5) (yi_51 hL) (yt_51 hL)) rfl rfl rfl hl.1 rfl (Nat.le_of_ble_eq_true rfl) d_7_4_95 ⟨Nat.le_of_ble_eq_true rfl, Nat.le_of_ble_eq_true rfl⟩ (fun _ H locs hP hD hS => ?_)
  have hP : va_P z.1 classes (wv z ad E M112) H := hP
  have hD : va_D A (wv z ad E M112) := hD
  refine W.eq (g2 := F0 m 98 ls []) rfl ?_
  refine lv_iinc (v := oI (x5 + 1)) (lv' := [(5, .int (oI (x5 + 1))), (0, .ref (ad 51)), (1, .int (oI x1)), (2, .int (oI x2)), (3, .long (oJ x3))]) hx hb d_7_4_98 hl (k := 4) rfl (oI_add x5 1) (by decide) rfl (fun ls hl => ?_)
  refine lv_goto (tgt := 35) hx hb d_7_4_101 (by decide) ?_
  obtain ⟨rfl, rfl, rfl⟩ := in3 h
  exact k0 rfl H locs ls hP hD hS (lv_sub hl [1, 2, 3, 4, 0] rfl)
set_option maxRecDepth 100000 in
set_option maxHeartbeats 4000000 in
theorem b_Fb_findOrder_35b (l : Launch) (z : Zz) (ad : Nat → Nat) (E : Ev) (M : Mm) (x1 : Int) (x2 : Int) (x3 : Int) (x5 : Int) (t : Nat) (w5 : Int) (N : Mm) {Q : State → Prop} {p : Program} {e : Env} {s : State} {m : MethodId} {below : List Frame} {meth : Method} {c : Code} {A : Nat → Prop} {args : Array Value} (hx : p.tables.exec = Jvm.exec) (hb : c.code = prog_7_method_4_code) (hml : c.maxLocals = 7) (hts : ∀ w ∈ WG, w.before args s = true) (hown : s.vm.findClass "Ballothall$FalseBallot" = some m.cls) (hlocks : meth.locks = false) (hA : ∀ q, s.heap.size ≤ q → A q) (hG : KG z s) (hZ : FZ z A s) (hL : Lay E) (h : Fb_findOrder_35b E M x1 x2 x3 x5 = some (t, w5, N)) (k0 : t = 0 → ∀ (H : Heap) (locs : List Loc) (ls : Array Slot), va_P z.1 classes (wv z ad E N) H → va_D A (wv z ad E N) → va_S A s.heap H locs → lv_has ls 7 [(0, .ref (ad 51)), (1, .int (oI x1)), (2, .int (oI x2)), (3, .long (oJ x3)), (5, .int (oI w5))] → W p l e (rmK 5 135 0 0) s m args below meth c H locs 0 0 Q (F0 m 35 ls [])) (k1 : t = 1 → ∀ (H : Heap) (locs : List Loc) (ls : Array Slot), va_P z.1 classes (wv z ad E N) H → va_D A (wv z ad E N) → va_S A s.heap H locs → lv_has ls 7 [] → W p l e (rmK 5 135 0 0) s m args below meth c H locs 0 0 Q (F0 m 92 ls [])) (k2 : t = 2 → ∀ (H : Heap) (locs : List Loc) (ls : Array Slot), va_P z.1 classes (wv z ad E N) H → va_D A (wv z ad E N) → va_S A s.heap H locs → lv_has ls 7 [] → W p l e (rmK 5 135 0 0) s m args below meth c H locs 0 0 Q (F0 m 104 ls [])) : ∀ (H : Heap) (locs : List Loc) (ls : Array Slot), va_P z.1 classes (wv z ad E M) H → va_D A (wv z ad E M) → va_S A s.heap H locs → lv_has ls 7 [(0, .ref (ad 51)), (1, .int (oI x1)), (2, .int (oI x2)), (3, .long (oJ x3)), (5, .int (oI x5))] → W p l e (rmK 5 135 0 0) s m args below meth c H locs 0 0 Q (F0 m 35 ls []) := by
  intro H locs ls hP hD hS hl
  unfold Fb_findOrder_35b at h
  refine lv_iload hx hb d_7_4_35 (lv_at hl 4 rfl) ?_
  obtain ⟨ok105, h⟩ := ck_e h
  refine lv_i2l (v := oJ x5) hx hb d_7_4_37 (oI_l ok105) ?_
  refine lv_lload_n hx hb d_7_4_38 rfl (lv_at hl 3 rfl) ?_
  obtain ⟨ok106, h⟩ := ck_e h
  refine W.lcmp hx hb d_7_4_39 ?_
  refine nrm (cmp_val (a := x5) (b := x3) (rg_ij ok105) ok106) ?_
  refine lv_if_ge (tgt := 104) hx hb d_7_4_40 (by decide) (fun c9 => ?_) (fun c9 => ?_)
  · have h := ite_t ((cmp_ge x5 x3).mp c9) h
    obtain ⟨rfl, rfl, rfl⟩ := in3 h
    exact k2 rfl H locs ls hP hD hS (lv_sub hl [] rfl)
  · have h := ite_f (fun q => c9 ((cmp_ge x5 x3).mpr q)) h
    refine lv_aload_n hx hb d_7_4_43 rfl (lv_at hl 0 rfl) ?_
    obtain ⟨M107, g107, h⟩ := bd_e h
    refine kV (As := []) (rest := []) (s_Fb_writeTrial l z ad E M M107 hL g107) hx hb hml hown hts w_1422 w_1419 w_1421 w_s_897e6a w_4 md_fc3851 ⟨Nat.le_of_ble_eq_true rfl, Nat.le_of_ble_eq_true rfl⟩ hG hZ hP hD hS hA 51 (wv_o (ci := 5) (yi_51 hL) (yt_51 hL)) rfl rfl rfl hl.1 rfl (Nat.le_of_ble_eq_true rfl) d_7_4_44 ⟨Nat.le_of_ble_eq_true rfl, Nat.le_of_ble_eq_true rfl⟩ (fun _ H locs hP hD hS => ?_)
    have hP : va_P z.1 classes (wv z ad E M107) H := hP
    have hD : va_D A (wv z ad E M107) := hD
    refine W.eq (g2 := F0 m 47 ls []) rfl ?_
    refine lv_aload_n hx hb d_7_4_47 rfl (lv_at hl 0 rfl) ?_
    refine m_gr (j := 41) (C := "Ballothall$FalseBallot") (T := TX5) (N := 3) (ci := 5) (k := 1) hx hb hts iX5 hown hG hP (yi_51 hL) (yt_51 hL) rfl (by decide) w_153 (fun _ h9 => h9) rfl rfl (yr_51_1 hL) d_7_4_48 ?_
    refine lv_bipush (v := oI 30) hx hb d_7_4_51 (by decide +kernel) ?_
    refine lv_iconst (v := oI 1) hx hb d_7_4_53 (by decide +kernel) ?_
    obtain ⟨M108, g108, h⟩ := bd_e h
    refine kVN (As := [.int (oI 30), .int (oI 1)]) (rest := []) (s_Po_change l z ad E M107 30 1 M108 hL g108) hx hb hml hown hts w_677 n_1413 w_676 w_s_d035ed w_3 md_d775df ⟨Nat.le_of_ble_eq_true rfl, Nat.le_of_ble_eq_true rfl⟩ hG hZ hP hD hS hA 41 (wv_o (ci := 9) (yi_41 hL) (yt_41 hL)) rfl rfl rfl hl.1 rfl (Nat.le_of_ble_eq_true rfl) d_7_4_54 ⟨Nat.le_of_ble_eq_true rfl, Nat.le_of_ble_eq_true rfl⟩ (fun _ H locs hP hD hS => ?_)
    have hP : va_P z.1 classes (wv z ad E M108) H := hP
    have hD : va_D A (wv z ad E M108) := hD
    refine W.eq (g2 := F0 m 57 ls []) rfl ?_
    refine lv_aload_n hx hb d_7_4_57 rfl (lv_at hl 0 rfl) ?_
    refine m_gr (j := 41) (C := "Ballothall$FalseBallot") (T := TX5) (N := 3) (ci := 5) (k := 1) hx hb hts iX5 hown hG hP (yi_51 hL) (yt_51 hL) rfl (by decide) w_153 (fun _ h9 => h9) rfl rfl (yr_51_1 hL) d_7_4_58 ?_
    refine lv_iload_n hx hb d_7_4_61 rfl (lv_at hl 1 rfl) ?_
    obtain ⟨⟨r109, M109⟩, g109, h⟩ := bd_e h
    refine kVN (As := [.int (oI x1)]) (rest := []) (s_Po_bestBy l z ad E M108 x1 r109 M109 hL g109) hx hb hml hown hts w_1374 n_1371 w_1373 w_s_0765de w_3 md_2b9f88 ⟨Nat.le_of_ble_eq_true rfl, Nat.le_of_ble_eq_true rfl⟩ hG hZ hP hD hS hA 41 (wv_o (ci := 9) (yi_41 hL) (yt_41 hL)) rfl rfl rfl hl.1 rfl (Nat.le_of_ble_eq_true rfl) d_7_4_62 ⟨Nat.le_of_ble_eq_true rfl, Nat.le_of_ble_eq_true rfl⟩ (fun _ H locs hP hD hS => ?_)
    have hP : va_P z.1 classes (wv z ad E M109) H := hP
    have hD : va_D A (wv z ad E M109) := hD
    refine W.eq (g2 := F0 m 65 ls [.int (oI r109)]) rfl ?_
    refine lv_istore (lv' := [(6, .int (oI r109)), (0, .ref (ad 51)), (1, .int (oI x1)), (2, .int (oI x2)), (3, .long (oJ x3)), (5, .int (oI x5))]) hx hb d_7_4_65 hl (by decide) rfl (fun ls hl => ?_)
    refine lv_aload_n hx hb d_7_4_67 rfl (lv_at hl 1 rfl) ?_
    refine m_gr (j := 41) (C := "Ballothall$FalseBallot") (T := TX5) (N := 3) (ci := 5) (k := 1) hx hb hts iX5 hown hG hP (yi_51 hL) (yt_51 hL) rfl (by decide) w_153 (fun _ h9 => h9) rfl rfl (yr_51_1 hL) d_7_4_68 ?_
    refine lv_bipush (v := oI 30) hx hb d_7_4_71 (by decide +kernel) ?_
    refine lv_iconst (v := oI (-1)) hx hb d_7_4_73 (by decide +kernel) ?_
    obtain ⟨M110, g110, h⟩ := bd_e h
    refine kVN (As := [.int (oI 30), .int (oI (-1))]) (rest := []) (s_Po_change l z ad E M109 30 (-1) M110 hL g110) hx hb hml hown hts w_677 n_1413 w_676 w_s_d035ed w_3 md_d775df ⟨Nat.le_of_ble_eq_true rfl, Nat.le_of_ble_eq_true rfl⟩ hG hZ hP hD hS hA 41 (wv_o (ci := 9) (yi_41 hL) (yt_41 hL)) rfl rfl rfl hl.1 rfl (Nat.le_of_ble_eq_true rfl) d_7_4_74 ⟨Nat.le_of_ble_eq_true rfl, Nat.le_of_ble_eq_true rfl⟩ (fun _ H locs hP hD hS => ?_)
    have hP : va_P z.1 classes (wv z ad E M110) H := hP
    have hD : va_D A (wv z ad E M110) := hD
    refine W.eq (g2 := F0 m 77 ls []) rfl ?_
    refine lv_iload hx hb d_7_4_77 (lv_at hl 0 rfl) ?_
    refine lv_iconst (v := oI (-1)) hx hb d_7_4_79 (by decide +kernel) ?_
    obtain ⟨ok111, h⟩ := ck_e h
    refine lv_icmp_eq (tgt := 94) hx hb d_7_4_80 (by decide) (fun c9 => ?_) (fun c9 => ?_)
    · have h := ite_t ((oI_eq (a := r109) (b := (-1 : Int)) ok111 (by decide)).mp c9) h
      exact b_Fb_findOrder_j94 l z ad E M110 x1 x2 x3 x5 t w5 N hx hb hml hts hown hlocks hA hG hZ hL h k0 k1 k2 H locs ls hP hD hS (lv_sub hl [1, 2, 3, 4, 5] rfl)
    · have h := ite_f (fun q => c9 ((oI_eq (a := r109) (b := (-1 : Int)) ok111 (by decide)).mpr q)) h
      refine lv_iload_n hx hb d_7_4_83 rfl (lv_at hl 3 rfl) ?_
      refine lv_iload hx hb d_7_4_84 (lv_at hl 0 rfl) ?_
      obtain ⟨r113, g113, h⟩ := bd_e h
      refine kSN (As := [.int (oI x2), .int (oI r109)]) (rest := []) (s_B_has l z ad E M110 x2 r109 r113 hL g113) hx hb hml hown hts w_693 n_1425 w_692 w_1 md_26545c ⟨Nat.le_of_ble_eq_true rfl, Nat.le_of_ble_eq_true rfl⟩ hG hZ hP hD hS hA rfl hl.1 rfl (Nat.le_of_ble_eq_true rfl) d_7_4_86 ⟨Nat.le_of_ble_eq_true rfl, Nat.le_of_ble_eq_true rfl⟩ (fun _ H locs hP hD hS => ?_)
      have hP : va_P z.1 classes (wv z ad E M110) H := hP
      have hD : va_D A (wv z ad E M110) := hD
      refine W.eq (g2 := F0 m 89 ls [.int (oI r113)]) rfl ?_
      obtain ⟨ok114, h⟩ := ck_e h
      refine lv_if_eq (tgt := 94) hx hb d_7_4_89 (by decide) (fun c9 => ?_) (fun c9 => ?_)
      · have h := ite_t ((oI_eq0 ok114).mp c9) h
        exact b_Fb_findOrder_j94 l z ad E M110 x1 x2 x3 x5 t w5 N hx hb hml hts hown hlocks hA hG hZ hL h k0 k1 k2 H locs ls hP hD hS (lv_sub hl [1, 2, 3, 4, 5] rfl)
      · have h := ite_f (fun q => c9 ((oI_eq0 ok114).mpr q)) h
        obtain ⟨rfl, rfl, rfl⟩ := in3 h
        exact k1 rfl H locs ls hP hD hS (lv_sub hl [] rfl)
set_option maxRecDepth 100000 in
set_option maxHeartbeats 4000000 in
theorem s_Fb_findOrder_35 (l : Launch) (z : Zz) (ad : Nat → Nat) (E : Ev) (x1 : Int) (x2 : Int) (x3 : Int) {Q : State → Prop} {p : Program} {e : Env} {s : State} {m : MethodId} {below : List Frame} {meth : Method} {c : Code} {A : Nat → Prop} {args : Array Value} (hx : p.tables.exec = Jvm.exec) (hb : c.code = prog_7_method_4_code) (hml : c.maxLocals = 7) (hts : ∀ w ∈ WG, w.before args s = true) (hown : s.vm.findClass "Ballothall$FalseBallot" = some m.cls) (hlocks : meth.locks = false) (hA : ∀ q, s.heap.size ≤ q → A q) (hG : KG z s) (hZ : FZ z A s) (hL : Lay E) : ∀ (fu : Nat) (M : Mm) (x5 : Int) (t : Nat) (w5 : Int) (N : Mm), l_Fb_findOrder_35 E x1 x2 x3 fu M x5 = some (t, w5, N) → (t = 1 → ∀ (H : Heap) (locs : List Loc) (ls : Array Slot), va_P z.1 classes (wv z ad E N) H → va_D A (wv z ad E N) → va_S A s.heap H locs → lv_has ls 7 [] → W p l e (rmK 5 135 0 0) s m args below meth c H locs 0 0 Q (F0 m 92 ls [])) → (t = 2 → ∀ (H : Heap) (locs : List Loc) (ls : Array Slot), va_P z.1 classes (wv z ad E N) H → va_D A (wv z ad E N) → va_S A s.heap H locs → lv_has ls 7 [] → W p l e (rmK 5 135 0 0) s m args below meth c H locs 0 0 Q (F0 m 104 ls [])) → ∀ (H : Heap) (locs : List Loc) (ls : Array Slot), va_P z.1 classes (wv z ad E M) H → va_D A (wv z ad E M) → va_S A s.heap H locs → lv_has ls 7 [(0, .ref (ad 51)), (1, .int (oI x1)), (2, .int (oI x2)), (3, .long (oJ x3)), (5, .int (oI x5))] → W p l e (rmK 5 135 0 0) s m args below meth c H locs 0 0 Q (F0 m 35 ls []) := by
  intro fu
  induction fu with
  | zero =>
    intro M x5 t w5 N h
    have h : (none : Option (Nat × Int × Mm)) = some _ := h
    cases h
  | succ fu ih =>
    intro M x5 t w5 N h k1 k2 H locs ls hP hD hS hl
    obtain ⟨⟨t0, w50, N9⟩, g0, h⟩ := bd_e h
    refine b_Fb_findOrder_35b l z ad E M x1 x2 x3 x5 t0 w50 N9 hx hb hml hts hown hlocks hA hG hZ hL g0 (fun e0 => ?_) (fun e0 => ?_) (fun e0 => ?_) H locs ls hP hD hS hl
    · subst e0
      have h := ite_t rfl h
      exact ih N9 w50 t w5 N h k1 k2
    · subst e0
      have h := ite_f (by decide) h
      obtain ⟨rfl, rfl, rfl⟩ := in3 h
      exact k1 rfl
    · subst e0
      have h := ite_f (by decide) h
      obtain ⟨rfl, rfl, rfl⟩ := in3 h
      exact k2 rfl
set_option maxRecDepth 100000 in
set_option maxHeartbeats 4000000 in
theorem s_Fb_findOrder (l : Launch) (z : Zz) (ad : Nat → Nat) (E : Ev) (M : Mm) (x1 : Int) (x2 : Int) (r : Int) (N : Mm) (hL : Lay E) (h : f_Fb_findOrder E M x1 x2 = some (r, N)) : CT l z ⟨"Ballothall$FalseBallot", "findOrder", "(II)Z"⟩ prog_7_method_4_code 7 (some .boolean) [.ref (ad 51), .int (oI x1), .int (oI x2)] (wv z ad E M) 5 135 0 0 (fun _ => some (.int (oI r))) (fun _ => (wv z ad E N)) := by
  refine CT.of (own := "Ballothall$FalseBallot") (by decide +kernel) (Nat.le_of_ble_eq_true rfl) rfl (fun p e s m below meth c A ls hx hb hml hr hts hown hlocks hin hA hG hZ hP hD hS hl => ?_)
  have hl : lv_has ls 7 [(0, .ref (ad 51)), (1, .int (oI x1)), (2, .int (oI x2))] := hl
  have key : ∀ (H : Heap) (locs : List Loc) (args : Array Value), (∀ w ∈ WG, w.before args s = true) → va_P z.1 classes (wv z ad E M) H → va_S A s.heap H locs → W p l e (rmK 5 135 0 0) s m args below meth c H locs 0 0 (MQ below (QK z A (fun _ => some (.int (oI r))) (fun _ => (wv z ad E N))) args s 0 0 A) (F0 m 0 ls []) := by
    intro H locs args hts hP hS
    unfold f_Fb_findOrder at h
    refine lv_iconst (v := oI 0) hx hb d_7_4_0 (by decide +kernel) ?_
    refine lv_istore_n (lv' := [(3, .int (oI 0)), (0, .ref (ad 51)), (1, .int (oI x1)), (2, .int (oI x2))]) hx hb d_7_4_1 rfl hl (by decide) rfl (fun ls hl => ?_)
    obtain ⟨⟨t102, v102_3, M102⟩, g102, h⟩ := bd_e h
    obtain ⟨ok102, h⟩ := ck_e h
    refine s_Fb_findOrder_2 l z ad E x1 x2 hx hb hml hts hown hlocks hA hG hZ hL FU M 0 t102 v102_3 M102 g102 (fun e102 H locs ls hP hD hS hl => ?_) H locs ls hP hD hS (lv_sub hl [1, 2, 3, 0] rfl)
    obtain ⟨fa, hf1, hf2⟩ := hZ.1
    refine va_getsN hx hb hf1 hS hown (va_Nw.use rfl (hG.2.1 _ n_1418 rfl)) (fun _ h9 => h9) d_7_4_20 ?_
    refine lv_aload_n hx hb d_7_4_23 rfl (lv_at hl 0 rfl) ?_
    refine m_gr (j := 2) (C := "Ballothall$FalseBallot") (T := TX5) (N := 3) (ci := 5) (k := 0) hx hb hts iX5 hown hG hP (yi_51 hL) (yt_51 hL) rfl (by decide) w_152 (fun _ h9 => h9) rfl rfl (yr_51_0 hL) d_7_4_24 ?_
    refine m_giN (C := "Ballothall$BallotBox") (T := TX0) (N := 10) (ci := 0) (k := 2) hx hb hts iX0 hown hG hP (yi_2 hL) (yt_2 hL) rfl (by decide) n_54 rfl (fun _ h9 => h9) rfl rfl d_7_4_27 ?_
    obtain ⟨ok104, h⟩ := ck_e h
    refine m_fl hx hb hf2 hS ok104 d_7_4_30 ?_
    refine lv_lstore_n (lv' := [(3, .long (oJ (facF (M102 2 2).toNat))), (0, .ref (ad 51)), (1, .int (oI x1)), (2, .int (oI x2))]) hx hb d_7_4_31 rfl hl (by decide) rfl (fun ls hl => ?_)
    refine lv_iconst (v := oI 0) hx hb d_7_4_32 (by decide +kernel) ?_
    refine lv_istore (lv' := [(5, .int (oI 0)), (3, .long (oJ (facF (M102 2 2).toNat))), (0, .ref (ad 51)), (1, .int (oI x1)), (2, .int (oI x2))]) hx hb d_7_4_33 hl (by decide) rfl (fun ls hl => ?_)
    obtain ⟨⟨t115, v115_5, M115⟩, g115, h⟩ := bd_e h
    refine s_Fb_findOrder_35 l z ad E x1 x2 (facF (M102 2 2).toNat) hx hb hml hts hown hlocks hA hG hZ hL FU M102 0 t115 v115_5 M115 g115 (fun e115 H locs ls hP hD hS hl => ?_) (fun e115 H locs ls hP hD hS hl => ?_) H locs ls hP hD hS (lv_sub hl [2, 3, 4, 1, 0] rfl)
    · subst e115
      have h := ite_t rfl h
      refine lv_iconst (v := oI 1) hx hb d_7_4_92 (by decide +kernel) ?_
      obtain ⟨rfl, rfl⟩ := in2 h
      exact W.zret hx hb hr rfl (fun t ht hW => qkA hP hD hS (fun k => k) rfl rfl ht) hS.2.2 d_7_4_93
    · subst e115
      have h := ite_f (by decide) h
      have h := ite_t rfl h
      refine lv_iconst (v := oI 0) hx hb d_7_4_104 (by decide +kernel) ?_
      obtain ⟨rfl, rfl⟩ := in2 h
      exact W.zret hx hb hr rfl (fun t ht hW => qkA hP hD hS (fun k => k) rfl rfl ht) hS.2.2 d_7_4_105
  exact key _ _ _ hts hP hS
set_option maxRecDepth 100000 in
set_option maxHeartbeats 4000000 in
theorem b_Fb_findKind_j65 (l : Launch) (z : Zz) (ad : Nat → Nat) (E : Ev) (M : Mm) (x1 : Int) (x2 : Int) (x3 : Int) (y0 : Int) (t : Nat) (w3 : Int) (N : Mm) {Q : State → Prop} {p : Program} {e : Env} {s : State} {m : MethodId} {below : List Frame} {meth : Method} {c : Code} {A : Nat → Prop} {args : Array Value} (hx : p.tables.exec = Jvm.exec) (hb : c.code = prog_7_method_2_code) (hml : c.maxLocals = 5) (hts : ∀ w ∈ WG, w.before args s = true) (hown : s.vm.findClass "Ballothall$FalseBallot" = some m.cls) (hlocks : meth.locks = false) (hA : ∀ q, s.heap.size ≤ q → A q) (hG : KG z s) (hZ : FZ z A s) (hL : Lay E) (h : Fb_findKind_j65 E M x1 x2 x3 y0 = some (t, w3, N)) (k0 : t = 0 → ∀ (H : Heap) (locs : List Loc) (ls : Array Slot), va_P z.1 classes (wv z ad E N) H → va_D A (wv z ad E N) → va_S A s.heap H locs → lv_has ls 5 [(0, .ref (ad 51)), (1, .int (oI x1)), (2, .int (oI x2)), (3, .int (oI w3))] → W p l e (rmK 6 161 0 0) s m args below meth c H locs 0 0 Q (F0 m 32 ls [])) (k1 : t = 1 → ∀ (H : Heap) (locs : List Loc) (ls : Array Slot), va_P z.1 classes (wv z ad E N) H → va_D A (wv z ad E N) → va_S A s.heap H locs → lv_has ls 5 [(3, .int (oI w3))] → W p l e (rmK 6 161 0 0) s m args below meth c H locs 0 0 Q (F0 m 91 ls [])) (k2 : t = 2 → ∀ (H : Heap) (locs : List Loc) (ls : Array Slot), va_P z.1 classes (wv z ad E N) H → va_D A (wv z ad E N) → va_S A s.heap H locs → lv_has ls 5 [] → W p l e (rmK 6 161 0 0) s m args below meth c H locs 0 0 Q (F0 m 108 ls [])) : ∀ (H : Heap) (locs : List Loc) (ls : Array Slot), va_P z.1 classes (wv z ad E M) H → va_D A (wv z ad E M) → va_S A s.heap H locs → lv_has ls 5 [(0, .ref (ad 51)), (1, .int (oI x1)), (2, .int (oI x2)), (3, .int (oI x3))] → W p l e (rmK 6 161 0 0) s m args below meth c H locs 0 0 Q (F0 m 65 ls [.int (oI y0)]) := by
  intro H locs ls hP hD hS hl
  unfold Fb_findKind_j65 at h
  refine lv_istore (lv' := [(4, .int (oI y0)), (0, .ref (ad 51)), (1, .int (oI x1)), (2, .int (oI x2)), (3, .int (oI x3))]) hx hb d_7_2_65 hl (by decide) rfl (fun ls hl => ?_)
  refine lv_iload hx hb d_7_2_67 (lv_at hl 0 rfl) ?_
  obtain ⟨ok108, h⟩ := ck_e h
  refine lv_if_eq (tgt := 102) hx hb d_7_2_69 (by decide) (fun c9 => ?_) (fun c9 => ?_)
  · have h := ite_t ((oI_eq0 ok108).mp c9) h
    refine lv_iinc (v := oI (x3 + 1)) (lv' := [(3, .int (oI (x3 + 1))), (4, .int (oI y0)), (0, .ref (ad 51)), (1, .int (oI x1)), (2, .int (oI x2))]) hx hb d_7_2_102 hl (k := 4) rfl (oI_add x3 1) (by decide) rfl (fun ls hl => ?_)
    refine lv_goto (tgt := 32) hx hb d_7_2_105 (by decide) ?_
    obtain ⟨rfl, rfl, rfl⟩ := in3 h
    exact k0 rfl H locs ls hP hD hS (lv_sub hl [2, 3, 4, 0] rfl)
  · have h := ite_f (fun q => c9 ((oI_eq0 ok108).mpr q)) h
    refine lv_aload_n hx hb d_7_2_72 rfl (lv_at hl 1 rfl) ?_
    refine m_gr (j := 41) (C := "Ballothall$FalseBallot") (T := TX5) (N := 3) (ci := 5) (k := 1) hx hb hts iX5 hown hG hP (yi_51 hL) (yt_51 hL) rfl (by decide) w_153 (fun _ h9 => h9) rfl rfl (yr_51_1 hL) d_7_2_73 ?_
    refine lv_iload_n hx hb d_7_2_76 rfl (lv_at hl 4 rfl) ?_
    refine lv_iconst (v := oI (-1)) hx hb d_7_2_77 (by decide +kernel) ?_
    obtain ⟨M109, g109, h⟩ := bd_e h
    refine kVN (As := [.int (oI x3), .int (oI (-1))]) (rest := []) (s_Po_change l z ad E M x3 (-1) M109 hL g109) hx hb hml hown hts w_677 n_1413 w_676 w_s_d035ed w_3 md_d775df ⟨Nat.le_of_ble_eq_true rfl, Nat.le_of_ble_eq_true rfl⟩ hG hZ hP hD hS hA 41 (wv_o (ci := 9) (yi_41 hL) (yt_41 hL)) rfl rfl rfl hl.1 rfl (Nat.le_of_ble_eq_true rfl) d_7_2_78 ⟨Nat.le_of_ble_eq_true rfl, Nat.le_of_ble_eq_true rfl⟩ (fun _ H locs hP hD hS => ?_)
    have hP : va_P z.1 classes (wv z ad E M109) H := hP
    have hD : va_D A (wv z ad E M109) := hD
    refine W.eq (g2 := F0 m 81 ls []) rfl ?_
    refine lv_aload_n hx hb d_7_2_81 rfl (lv_at hl 1 rfl) ?_
    refine lv_iload_n hx hb d_7_2_82 rfl (lv_at hl 2 rfl) ?_
    refine lv_iload hx hb d_7_2_83 (lv_at hl 0 rfl) ?_
    obtain ⟨⟨r110, M110⟩, g110, h⟩ := bd_e h
    refine kV (As := [.int (oI x1), .int (oI y0)]) (rest := []) (s_Fb_findOrder l z ad E M109 x1 y0 r110 M110 hL g110) hx hb hml hown hts w_1417 w_1414 w_1416 w_s_c26e58 w_4 md_0e0b7f ⟨Nat.le_of_ble_eq_true rfl, Nat.le_of_ble_eq_true rfl⟩ hG hZ hP hD hS hA 51 (wv_o (ci := 5) (yi_51 hL) (yt_51 hL)) rfl rfl rfl hl.1 rfl (Nat.le_of_ble_eq_true rfl) d_7_2_85 ⟨Nat.le_of_ble_eq_true rfl, Nat.le_of_ble_eq_true rfl⟩ (fun _ H locs hP hD hS => ?_)
    have hP : va_P z.1 classes (wv z ad E M110) H := hP
    have hD : va_D A (wv z ad E M110) := hD
    refine W.eq (g2 := F0 m 88 ls [.int (oI r110)]) rfl ?_
    obtain ⟨ok111, h⟩ := ck_e h
    refine lv_if_eq (tgt := 93) hx hb d_7_2_88 (by decide) (fun c9 => ?_) (fun c9 => ?_)
    · have h := ite_t ((oI_eq0 ok111).mp c9) h
      refine lv_aload_n hx hb d_7_2_93 rfl (lv_at hl 1 rfl) ?_
      refine m_gr (j := 41) (C := "Ballothall$FalseBallot") (T := TX5) (N := 3) (ci := 5) (k := 1) hx hb hts iX5 hown hG hP (yi_51 hL) (yt_51 hL) rfl (by decide) w_153 (fun _ h9 => h9) rfl rfl (yr_51_1 hL) d_7_2_94 ?_
      refine lv_iload_n hx hb d_7_2_97 rfl (lv_at hl 4 rfl) ?_
      refine lv_iconst (v := oI 1) hx hb d_7_2_98 (by decide +kernel) ?_
      obtain ⟨M112, g112, h⟩ := bd_e h
      refine kVN (As := [.int (oI x3), .int (oI 1)]) (rest := []) (s_Po_change l z ad E M110 x3 1 M112 hL g112) hx hb hml hown hts w_677 n_1413 w_676 w_s_d035ed w_3 md_d775df ⟨Nat.le_of_ble_eq_true rfl, Nat.le_of_ble_eq_true rfl⟩ hG hZ hP hD hS hA 41 (wv_o (ci := 9) (yi_41 hL) (yt_41 hL)) rfl rfl rfl hl.1 rfl (Nat.le_of_ble_eq_true rfl) d_7_2_99 ⟨Nat.le_of_ble_eq_true rfl, Nat.le_of_ble_eq_true rfl⟩ (fun _ H locs hP hD hS => ?_)
      have hP : va_P z.1 classes (wv z ad E M112) H := hP
      have hD : va_D A (wv z ad E M112) := hD
      refine W.eq (g2 := F0 m 102 ls []) rfl ?_
      refine lv_iinc (v := oI (x3 + 1)) (lv' := [(3, .int (oI (x3 + 1))), (4, .int (oI y0)), (0, .ref (ad 51)), (1, .int (oI x1)), (2, .int (oI x2))]) hx hb d_7_2_102 hl (k := 4) rfl (oI_add x3 1) (by decide) rfl (fun ls hl => ?_)
      refine lv_goto (tgt := 32) hx hb d_7_2_105 (by decide) ?_
      obtain ⟨rfl, rfl, rfl⟩ := in3 h
      exact k0 rfl H locs ls hP hD hS (lv_sub hl [2, 3, 4, 0] rfl)
    · have h := ite_f (fun q => c9 ((oI_eq0 ok111).mpr q)) h
      obtain ⟨rfl, rfl, rfl⟩ := in3 h
      exact k1 rfl H locs ls hP hD hS (lv_sub hl [4] rfl)
set_option maxRecDepth 100000 in
set_option maxHeartbeats 4000000 in
theorem b_Fb_findKind_32b (l : Launch) (z : Zz) (ad : Nat → Nat) (E : Ev) (M : Mm) (x1 : Int) (x2 : Int) (x3 : Int) (t : Nat) (w3 : Int) (N : Mm) {Q : State → Prop} {p : Program} {e : Env} {s : State} {m : MethodId} {below : List Frame} {meth : Method} {c : Code} {A : Nat → Prop} {args : Array Value} (hx : p.tables.exec = Jvm.exec) (hb : c.code = prog_7_method_2_code) (hml : c.maxLocals = 5) (hts : ∀ w ∈ WG, w.before args s = true) (hown : s.vm.findClass "Ballothall$FalseBallot" = some m.cls) (hlocks : meth.locks = false) (hA : ∀ q, s.heap.size ≤ q → A q) (hG : KG z s) (hZ : FZ z A s) (hL : Lay E) (h : Fb_findKind_32b E M x1 x2 x3 = some (t, w3, N)) (k0 : t = 0 → ∀ (H : Heap) (locs : List Loc) (ls : Array Slot), va_P z.1 classes (wv z ad E N) H → va_D A (wv z ad E N) → va_S A s.heap H locs → lv_has ls 5 [(0, .ref (ad 51)), (1, .int (oI x1)), (2, .int (oI x2)), (3, .int (oI w3))] → W p l e (rmK 6 161 0 0) s m args below meth c H locs 0 0 Q (F0 m 32 ls [])) (k1 : t = 1 → ∀ (H : Heap) (locs : List Loc) (ls : Array Slot), va_P z.1 classes (wv z ad E N) H → va_D A (wv z ad E N) → va_S A s.heap H locs → lv_has ls 5 [(3, .int (oI w3))] → W p l e (rmK 6 161 0 0) s m args below meth c H locs 0 0 Q (F0 m 91 ls [])) (k2 : t = 2 → ∀ (H : Heap) (locs : List Loc) (ls : Array Slot), va_P z.1 classes (wv z ad E N) H → va_D A (wv z ad E N) → va_S A s.heap H locs → lv_has ls 5 [] → W p l e (rmK 6 161 0 0) s m args below meth c H locs 0 0 Q (F0 m 108 ls [])) : ∀ (H : Heap) (locs : List Loc) (ls : Array Slot), va_P z.1 classes (wv z ad E M) H → va_D A (wv z ad E M) → va_S A s.heap H locs → lv_has ls 5 [(0, .ref (ad 51)), (1, .int (oI x1)), (2, .int (oI x2)), (3, .int (oI x3))] → W p l e (rmK 6 161 0 0) s m args below meth c H locs 0 0 Q (F0 m 32 ls []) := by
  intro H locs ls hP hD hS hl
  unfold Fb_findKind_32b at h
  refine lv_iload_n hx hb d_7_2_32 rfl (lv_at hl 3 rfl) ?_
  refine lv_aload_n hx hb d_7_2_33 rfl (lv_at hl 0 rfl) ?_
  refine m_gr (j := 2) (C := "Ballothall$FalseBallot") (T := TX5) (N := 3) (ci := 5) (k := 0) hx hb hts iX5 hown hG hP (yi_51 hL) (yt_51 hL) rfl (by decide) w_152 (fun _ h9 => h9) rfl rfl (yr_51_0 hL) d_7_2_34 ?_
  refine m_giN (C := "Ballothall$BallotBox") (T := TX0) (N := 10) (ci := 0) (k := 3) hx hb hts iX0 hown hG hP (yi_2 hL) (yt_2 hL) rfl (by decide) n_56 rfl (fun _ h9 => h9) rfl rfl d_7_2_37 ?_
  obtain ⟨ok104, h⟩ := ck_e h
  obtain ⟨ok105, h⟩ := ck_e h
  refine lv_icmp_ge (tgt := 108) hx hb d_7_2_40 (by decide) (fun c9 => ?_) (fun c9 => ?_)
  · have h := ite_t ((oI_le (a := (M 2 3)) (b := x3) ok105 ok104).mp c9) h
    obtain ⟨rfl, rfl, rfl⟩ := in3 h
    exact k2 rfl H locs ls hP hD hS (lv_sub hl [] rfl)
  · have h := ite_f (fun q => c9 ((oI_le (a := (M 2 3)) (b := x3) ok105 ok104).mpr q)) h
    refine lv_aload_n hx hb d_7_2_43 rfl (lv_at hl 0 rfl) ?_
    refine m_gr (j := 2) (C := "Ballothall$FalseBallot") (T := TX5) (N := 3) (ci := 5) (k := 0) hx hb hts iX5 hown hG hP (yi_51 hL) (yt_51 hL) rfl (by decide) w_152 (fun _ h9 => h9) rfl rfl (yr_51_0 hL) d_7_2_44 ?_
    refine m_grN (j := 5) (C := "Ballothall$BallotBox") (T := TX0) (N := 10) (ci := 0) (k := 5) hx hb hts iX0 hown hG hP (yi_2 hL) (yt_2 hL) rfl (by decide) n_64 rfl (fun _ h9 => h9) rfl rfl (yr_2_5 hL) d_7_2_47 ?_
    refine lv_iload_n hx hb d_7_2_50 rfl (lv_at hl 3 rfl) ?_
    obtain ⟨ok106, h⟩ := ck_e h
    refine m_ia hx hb hG hP (yi_5 hL) (yt_5 hL) ok106 d_7_2_51 ?_
    obtain ⟨ok107, h⟩ := ck_e h
    refine lv_if_le (tgt := 64) hx hb d_7_2_52 (by decide) (fun c9 => ?_) (fun c9 => ?_)
    · have h := ite_t ((oI_le0 ok107).mp c9) h
      refine lv_iconst (v := oI 0) hx hb d_7_2_64 (by decide +kernel) ?_
      exact b_Fb_findKind_j65 l z ad E M x1 x2 x3 0 t w3 N hx hb hml hts hown hlocks hA hG hZ hL h k0 k1 k2 H locs ls hP hD hS (lv_sub hl [0, 1, 2, 3] rfl)
    · have h := ite_f (fun q => c9 ((oI_le0 ok107).mpr q)) h
      refine lv_aload_n hx hb d_7_2_55 rfl (lv_at hl 0 rfl) ?_
      refine lv_iload_n hx hb d_7_2_56 rfl (lv_at hl 3 rfl) ?_
      refine lv_iload_n hx hb d_7_2_57 rfl (lv_at hl 2 rfl) ?_
      obtain ⟨r113, g113, h⟩ := bd_e h
      refine kV (As := [.int (oI x3), .int (oI x2)]) (rest := []) (s_Fb_aheadOf l z ad E M x3 x2 r113 hL g113) hx hb hml hown hts w_1411 w_1408 w_1410 w_s_8e50a8 w_4 md_eafa96 ⟨Nat.le_of_ble_eq_true rfl, Nat.le_of_ble_eq_true rfl⟩ hG hZ hP hD hS hA 51 (wv_o (ci := 5) (yi_51 hL) (yt_51 hL)) rfl rfl rfl hl.1 rfl (Nat.le_of_ble_eq_true rfl) d_7_2_58 ⟨Nat.le_of_ble_eq_true rfl, Nat.le_of_ble_eq_true rfl⟩ (fun _ H locs hP hD hS => ?_)
      have hP : va_P z.1 classes (wv z ad E M) H := hP
      have hD : va_D A (wv z ad E M) := hD
      refine W.eq (g2 := F0 m 61 ls [.int (oI r113)]) rfl ?_
      refine lv_goto (tgt := 65) hx hb d_7_2_61 (by decide) ?_
      exact b_Fb_findKind_j65 l z ad E M x1 x2 x3 r113 t w3 N hx hb hml hts hown hlocks hA hG hZ hL h k0 k1 k2 H locs ls hP hD hS (lv_sub hl [0, 1, 2, 3] rfl)
set_option maxRecDepth 100000 in
set_option maxHeartbeats 4000000 in
theorem s_Fb_findKind_32 (l : Launch) (z : Zz) (ad : Nat → Nat) (E : Ev) (x1 : Int) (x2 : Int) {Q : State → Prop} {p : Program} {e : Env} {s : State} {m : MethodId} {below : List Frame} {meth : Method} {c : Code} {A : Nat → Prop} {args : Array Value} (hx : p.tables.exec = Jvm.exec) (hb : c.code = prog_7_method_2_code) (hml : c.maxLocals = 5) (hts : ∀ w ∈ WG, w.before args s = true) (hown : s.vm.findClass "Ballothall$FalseBallot" = some m.cls) (hlocks : meth.locks = false) (hA : ∀ q, s.heap.size ≤ q → A q) (hG : KG z s) (hZ : FZ z A s) (hL : Lay E) : ∀ (fu : Nat) (M : Mm) (x3 : Int) (t : Nat) (w3 : Int) (N : Mm), l_Fb_findKind_32 E x1 x2 fu M x3 = some (t, w3, N) → (t = 1 → ∀ (H : Heap) (locs : List Loc) (ls : Array Slot), va_P z.1 classes (wv z ad E N) H → va_D A (wv z ad E N) → va_S A s.heap H locs → lv_has ls 5 [(3, .int (oI w3))] → W p l e (rmK 6 161 0 0) s m args below meth c H locs 0 0 Q (F0 m 91 ls [])) → (t = 2 → ∀ (H : Heap) (locs : List Loc) (ls : Array Slot), va_P z.1 classes (wv z ad E N) H → va_D A (wv z ad E N) → va_S A s.heap H locs → lv_has ls 5 [] → W p l e (rmK 6 161 0 0) s m args below meth c H locs 0 0 Q (F0 m 108 ls [])) → ∀ (H : Heap) (locs : List Loc) (ls : Array Slot), va_P z.1 classes (wv z ad E M) H → va_D A (wv z ad E M) → va_S A s.heap H locs → lv_has ls 5 [(0, .ref (ad 51)), (1, .int (oI x1)), (2, .int (oI x2)), (3, .int (oI x3))] → W p l e (rmK 6 161 0 0) s m args below meth c H locs 0 0 Q (F0 m 32 ls []) := by
  intro fu
  induction fu with
  | zero =>
    intro M x3 t w3 N h
    have h : (none : Option (Nat × Int × Mm)) = some _ := h
    cases h
  | succ fu ih =>
    intro M x3 t w3 N h k1 k2 H locs ls hP hD hS hl
    obtain ⟨⟨t0, w30, N9⟩, g0, h⟩ := bd_e h
    refine b_Fb_findKind_32b l z ad E M x1 x2 x3 t0 w30 N9 hx hb hml hts hown hlocks hA hG hZ hL g0 (fun e0 => ?_) (fun e0 => ?_) (fun e0 => ?_) H locs ls hP hD hS hl
    · subst e0
      have h := ite_t rfl h
      exact ih N9 w30 t w3 N h k1 k2
    · subst e0
      have h := ite_f (by decide) h
      obtain ⟨rfl, rfl, rfl⟩ := in3 h
      exact k1 rfl
    · subst e0
      have h := ite_f (by decide) h
      obtain ⟨rfl, rfl, rfl⟩ := in3 h
      exact k2 rfl
set_option maxRecDepth 100000 in
set_option maxHeartbeats 4000000 in
theorem s_Fb_findKind (l : Launch) (z : Zz) (ad : Nat → Nat) (E : Ev) (M : Mm) (x1 : Int) (r : Int) (N : Mm) (hL : Lay E) (h : f_Fb_findKind E M x1 = some (r, N)) : CT l z ⟨"Ballothall$FalseBallot", "findKind", "(I)I"⟩ prog_7_method_2_code 5 (some .int) [.ref (ad 51), .int (oI x1)] (wv z ad E M) 6 161 0 0 (fun _ => some (.int (oI r))) (fun _ => (wv z ad E N)) := by
  refine CT.of (own := "Ballothall$FalseBallot") (by decide +kernel) (Nat.le_of_ble_eq_true rfl) rfl (fun p e s m below meth c A ls hx hb hml hr hts hown hlocks hin hA hG hZ hP hD hS hl => ?_)
  have hl : lv_has ls 5 [(0, .ref (ad 51)), (1, .int (oI x1))] := hl
  have key : ∀ (H : Heap) (locs : List Loc) (args : Array Value), (∀ w ∈ WG, w.before args s = true) → va_P z.1 classes (wv z ad E M) H → va_S A s.heap H locs → W p l e (rmK 6 161 0 0) s m args below meth c H locs 0 0 (MQ below (QK z A (fun _ => some (.int (oI r))) (fun _ => (wv z ad E N))) args s 0 0 A) (F0 m 0 ls []) := by
    intro H locs args hts hP hS
    unfold f_Fb_findKind at h
    refine lv_aload_n hx hb d_7_2_0 rfl (lv_at hl 0 rfl) ?_
    refine m_gr (j := 41) (C := "Ballothall$FalseBallot") (T := TX5) (N := 3) (ci := 5) (k := 1) hx hb hts iX5 hown hG hP (yi_51 hL) (yt_51 hL) rfl (by decide) w_153 (fun _ h9 => h9) rfl rfl (yr_51_1 hL) d_7_2_1 ?_
    refine lv_aload_n hx hb d_7_2_4 rfl (lv_at hl 0 rfl) ?_
    refine m_gr (j := 2) (C := "Ballothall$FalseBallot") (T := TX5) (N := 3) (ci := 5) (k := 0) hx hb hts iX5 hown hG hP (yi_51 hL) (yt_51 hL) rfl (by decide) w_152 (fun _ h9 => h9) rfl rfl (yr_51_0 hL) d_7_2_5 ?_
    obtain ⟨r100, g100, h⟩ := bd_e h
    refine kVN (As := []) (rest := [.ref (ad 41)]) (s_Bx_everybody l z ad E M r100 hL g100) hx hb hml hown hts w_668 n_1369 w_667 w_s_8b8b67 w_2 md_b59579 ⟨Nat.le_of_ble_eq_true rfl, Nat.le_of_ble_eq_true rfl⟩ hG hZ hP hD hS hA 2 (wv_o (ci := 0) (yi_2 hL) (yt_2 hL)) rfl rfl rfl hl.1 rfl (Nat.le_of_ble_eq_true rfl) d_7_2_8 ⟨Nat.le_of_ble_eq_true rfl, Nat.le_of_ble_eq_true rfl⟩ (fun _ H locs hP hD hS => ?_)
    have hP : va_P z.1 classes (wv z ad E M) H := hP
    have hD : va_D A (wv z ad E M) := hD
    refine W.eq (g2 := F0 m 11 ls [.int (oI r100), .ref (ad 41)]) rfl ?_
    obtain ⟨M101, g101, h⟩ := bd_e h
    refine kVN (As := [.int (oI r100)]) (rest := []) (s_Po_open l z ad E M r100 M101 hL g101) hx hb hml hown hts w_672 n_1370 w_671 w_s_229dc4 w_3 md_60bc9b ⟨Nat.le_of_ble_eq_true rfl, Nat.le_of_ble_eq_true rfl⟩ hG hZ hP hD hS hA 41 (wv_o (ci := 9) (yi_41 hL) (yt_41 hL)) rfl rfl rfl hl.1 rfl (Nat.le_of_ble_eq_true rfl) d_7_2_11 ⟨Nat.le_of_ble_eq_true rfl, Nat.le_of_ble_eq_true rfl⟩ (fun _ H locs hP hD hS => ?_)
    have hP : va_P z.1 classes (wv z ad E M101) H := hP
    have hD : va_D A (wv z ad E M101) := hD
    refine W.eq (g2 := F0 m 14 ls []) rfl ?_
    refine lv_aload_n hx hb d_7_2_14 rfl (lv_at hl 0 rfl) ?_
    refine m_gr (j := 41) (C := "Ballothall$FalseBallot") (T := TX5) (N := 3) (ci := 5) (k := 1) hx hb hts iX5 hown hG hP (yi_51 hL) (yt_51 hL) rfl (by decide) w_153 (fun _ h9 => h9) rfl rfl (yr_51_1 hL) d_7_2_15 ?_
    refine lv_iload_n hx hb d_7_2_18 rfl (lv_at hl 1 rfl) ?_
    obtain ⟨⟨r102, M102⟩, g102, h⟩ := bd_e h
    refine kVN (As := [.int (oI x1)]) (rest := []) (s_Po_bestBy l z ad E M101 x1 r102 M102 hL g102) hx hb hml hown hts w_1374 n_1371 w_1373 w_s_0765de w_3 md_2b9f88 ⟨Nat.le_of_ble_eq_true rfl, Nat.le_of_ble_eq_true rfl⟩ hG hZ hP hD hS hA 41 (wv_o (ci := 9) (yi_41 hL) (yt_41 hL)) rfl rfl rfl hl.1 rfl (Nat.le_of_ble_eq_true rfl) d_7_2_19 ⟨Nat.le_of_ble_eq_true rfl, Nat.le_of_ble_eq_true rfl⟩ (fun _ H locs hP hD hS => ?_)
    have hP : va_P z.1 classes (wv z ad E M102) H := hP
    have hD : va_D A (wv z ad E M102) := hD
    refine W.eq (g2 := F0 m 22 ls [.int (oI r102)]) rfl ?_
    refine lv_istore_n (lv' := [(2, .int (oI r102)), (0, .ref (ad 51)), (1, .int (oI x1))]) hx hb d_7_2_22 rfl hl (by decide) rfl (fun ls hl => ?_)
    refine lv_iload_n hx hb d_7_2_23 rfl (lv_at hl 0 rfl) ?_
    refine lv_iconst (v := oI (-1)) hx hb d_7_2_24 (by decide +kernel) ?_
    obtain ⟨ok103, h⟩ := ck_e h
    refine lv_icmp_ne (tgt := 30) hx hb d_7_2_25 (by decide) (fun c9 => ?_) (fun c9 => ?_)
    · have h := ite_f (fun q => c9 ((oI_eq (a := r102) (b := (-1 : Int)) ok103 (by decide)).mpr q)) h
      refine lv_iconst (v := oI 0) hx hb d_7_2_30 (by decide +kernel) ?_
      refine lv_istore_n (lv' := [(3, .int (oI 0)), (2, .int (oI r102)), (0, .ref (ad 51)), (1, .int (oI x1))]) hx hb d_7_2_31 rfl hl (by decide) rfl (fun ls hl => ?_)
      obtain ⟨⟨t114, v114_3, M114⟩, g114, h⟩ := bd_e h
      refine s_Fb_findKind_32 l z ad E x1 r102 hx hb hml hts hown hlocks hA hG hZ hL FU M102 0 t114 v114_3 M114 g114 (fun e114 H locs ls hP hD hS hl => ?_) (fun e114 H locs ls hP hD hS hl => ?_) H locs ls hP hD hS (lv_sub hl [2, 3, 1, 0] rfl)
      · subst e114
        have h := ite_t rfl h
        refine lv_iload_n hx hb d_7_2_91 rfl (lv_at hl 0 rfl) ?_
        obtain ⟨rfl, rfl⟩ := in2 h
        exact W.iret hx hb hr (fun t ht hW => qkA hP hD hS (fun k => k) rfl rfl ht) hS.2.2 d_7_2_92
      · subst e114
        have h := ite_f (by decide) h
        have h := ite_t rfl h
        refine lv_iconst (v := oI (-1)) hx hb d_7_2_108 (by decide +kernel) ?_
        obtain ⟨rfl, rfl⟩ := in2 h
        exact W.iret hx hb hr (fun t ht hW => qkA hP hD hS (fun k => k) rfl rfl ht) hS.2.2 d_7_2_109
    · have h := ite_t ((oI_eq (a := r102) (b := (-1 : Int)) ok103 (by decide)).mp c9) h
      refine lv_iconst (v := oI (-1)) hx hb d_7_2_28 (by decide +kernel) ?_
      obtain ⟨rfl, rfl⟩ := in2 h
      exact W.iret hx hb hr (fun t ht hW => qkA hP hD hS (fun k => k) rfl rfl ht) hS.2.2 d_7_2_29
  exact key _ _ _ hts hP hS
set_option maxRecDepth 100000 in
set_option maxHeartbeats 4000000 in
theorem s_B_gain (l : Launch) (z : Zz) (ad : Nat → Nat) (E : Ev) (M : Mm) (x1 : Int) (r : Int) (N : Mm) (hL : Lay E) (h : f_B_gain E M x1 = some (r, N)) : CT l z ⟨"Ballothall", "gain", "(I)I"⟩ prog_1_method_36_code 2 (some .int) [.ref (ad 1), .int (oI x1)] (wv z ad E M) 7 185 0 0 (fun _ => some (.int (oI r))) (fun _ => (wv z ad E N)) := by
  refine CT.of (own := "Ballothall") (by decide +kernel) (Nat.le_of_ble_eq_true rfl) rfl (fun p e s m below meth c A ls hx hb hml hr hts hown hlocks hin hA hG hZ hP hD hS hl => ?_)
  have hl : lv_has ls 2 [(0, .ref (ad 1)), (1, .int (oI x1))] := hl
  have key : ∀ (H : Heap) (locs : List Loc) (args : Array Value), (∀ w ∈ WG, w.before args s = true) → va_P z.1 classes (wv z ad E M) H → va_S A s.heap H locs → W p l e (rmK 7 185 0 0) s m args below meth c H locs 0 0 (MQ below (QK z A (fun _ => some (.int (oI r))) (fun _ => (wv z ad E N))) args s 0 0 A) (F0 m 0 ls []) := by
    intro H locs args hts hP hS
    unfold f_B_gain at h
    refine lv_iload_n hx hb d_1_36_0 rfl (lv_at hl 1 rfl) ?_
    refine lv_iconst (v := oI 0) hx hb d_1_36_1 (by decide +kernel) ?_
    refine lv_iconst (v := oI 4) hx hb d_1_36_2 (by decide +kernel) ?_
    obtain ⟨_, g100, h⟩ := bd_e h
    refine kS (As := [.int (oI x1), .int (oI 0), .int (oI 4)]) (rest := []) (s_B_needRange l z ad E M x1 0 4 hL g100) hx hb hml hown hts w_548 w_546 w_547 w_1 md_519134 ⟨Nat.le_of_ble_eq_true rfl, Nat.le_of_ble_eq_true rfl⟩ hG hZ hP hD hS hA rfl hl.1 rfl (Nat.le_of_ble_eq_true rfl) d_1_36_3 ⟨Nat.le_of_ble_eq_true rfl, Nat.le_of_ble_eq_true rfl⟩ (fun _ H locs hP hD hS => ?_)
    have hP : va_P z.1 classes (wv z ad E M) H := hP
    have hD : va_D A (wv z ad E M) := hD
    refine W.eq (g2 := F0 m 6 ls []) rfl ?_
    refine lv_aload_n hx hb d_1_36_6 rfl (lv_at hl 0 rfl) ?_
    obtain ⟨_, g101, h⟩ := bd_e h
    refine kV (As := []) (rest := []) (s_B_needFewCandidates l z ad E M hL g101) hx hb hml hown hts w_1363 w_1360 w_1362 w_s_bfc401 w_1 md_38a853 ⟨Nat.le_of_ble_eq_true rfl, Nat.le_of_ble_eq_true rfl⟩ hG hZ hP hD hS hA 1 (wv_o (ci := 11) (yi_1 hL) (yt_1 hL)) rfl rfl rfl hl.1 rfl (Nat.le_of_ble_eq_true rfl) d_1_36_7 ⟨Nat.le_of_ble_eq_true rfl, Nat.le_of_ble_eq_true rfl⟩ (fun _ H locs hP hD hS => ?_)
    have hP : va_P z.1 classes (wv z ad E M) H := hP
    have hD : va_D A (wv z ad E M) := hD
    refine W.eq (g2 := F0 m 10 ls []) rfl ?_
    refine lv_aload_n hx hb d_1_36_10 rfl (lv_at hl 0 rfl) ?_
    refine m_gr (j := 51) (C := "Ballothall") (T := TX11) (N := 14) (ci := 11) (k := 2) hx hb hts iX11 hown hG hP (yi_1 hL) (yt_1 hL) rfl (by decide) w_399 (fun _ h9 => h9) rfl rfl (yr_1_2 hL) d_1_36_11 ?_
    refine lv_iload_n hx hb d_1_36_14 rfl (lv_at hl 1 rfl) ?_
    obtain ⟨⟨r102, M102⟩, g102, h⟩ := bd_e h
    refine kVN (As := [.int (oI x1)]) (rest := []) (s_Fb_findKind l z ad E M x1 r102 M102 hL g102) hx hb hml hown hts w_1368 n_1365 w_1367 w_s_93fc6e w_4 md_b41941 ⟨Nat.le_of_ble_eq_true rfl, Nat.le_of_ble_eq_true rfl⟩ hG hZ hP hD hS hA 51 (wv_o (ci := 5) (yi_51 hL) (yt_51 hL)) rfl rfl rfl hl.1 rfl (Nat.le_of_ble_eq_true rfl) d_1_36_15 ⟨Nat.le_of_ble_eq_true rfl, Nat.le_of_ble_eq_true rfl⟩ (fun _ H locs hP hD hS => ?_)
    have hP : va_P z.1 classes (wv z ad E M102) H := hP
    have hD : va_D A (wv z ad E M102) := hD
    refine W.eq (g2 := F0 m 18 ls [.int (oI r102)]) rfl ?_
    obtain ⟨rfl, rfl⟩ := in2 h
    exact W.iret hx hb hr (fun t ht hW => qkA hP hD hS (fun k => k) rfl rfl ht) hS.2.2 d_1_36_18
  exact key _ _ _ hts hP hS
set_option maxRecDepth 100000 in
set_option maxHeartbeats 4000000 in
theorem s_B_winner (l : Launch) (z : Zz) (ad : Nat → Nat) (E : Ev) (M : Mm) (x1 : Int) (r : Int) (N : Mm) (hL : Lay E) (h : f_B_winner E M x1 = some (r, N)) : CT l z ⟨"Ballothall", "winner", "(I)I"⟩ prog_1_method_32_code 2 (some .int) [.ref (ad 1), .int (oI x1)] (wv z ad E M) 5 135 0 0 (fun _ => some (.int (oI r))) (fun _ => (wv z ad E N)) := by
  refine CT.of (own := "Ballothall") (by decide +kernel) (Nat.le_of_ble_eq_true rfl) rfl (fun p e s m below meth c A ls hx hb hml hr hts hown hlocks hin hA hG hZ hP hD hS hl => ?_)
  have hl : lv_has ls 2 [(0, .ref (ad 1)), (1, .int (oI x1))] := hl
  have key : ∀ (H : Heap) (locs : List Loc) (args : Array Value), (∀ w ∈ WG, w.before args s = true) → va_P z.1 classes (wv z ad E M) H → va_S A s.heap H locs → W p l e (rmK 5 135 0 0) s m args below meth c H locs 0 0 (MQ below (QK z A (fun _ => some (.int (oI r))) (fun _ => (wv z ad E N))) args s 0 0 A) (F0 m 0 ls []) := by
    intro H locs args hts hP hS
    unfold f_B_winner at h
    refine lv_iload_n hx hb d_1_32_0 rfl (lv_at hl 1 rfl) ?_
    refine lv_iconst (v := oI 0) hx hb d_1_32_1 (by decide +kernel) ?_
    refine lv_iconst (v := oI 4) hx hb d_1_32_2 (by decide +kernel) ?_
    obtain ⟨_, g100, h⟩ := bd_e h
    refine kS (As := [.int (oI x1), .int (oI 0), .int (oI 4)]) (rest := []) (s_B_needRange l z ad E M x1 0 4 hL g100) hx hb hml hown hts w_548 w_546 w_547 w_1 md_519134 ⟨Nat.le_of_ble_eq_true rfl, Nat.le_of_ble_eq_true rfl⟩ hG hZ hP hD hS hA rfl hl.1 rfl (Nat.le_of_ble_eq_true rfl) d_1_32_3 ⟨Nat.le_of_ble_eq_true rfl, Nat.le_of_ble_eq_true rfl⟩ (fun _ H locs hP hD hS => ?_)
    have hP : va_P z.1 classes (wv z ad E M) H := hP
    have hD : va_D A (wv z ad E M) := hD
    refine W.eq (g2 := F0 m 6 ls []) rfl ?_
    refine lv_aload_n hx hb d_1_32_6 rfl (lv_at hl 0 rfl) ?_
    refine m_gr (j := 41) (C := "Ballothall") (T := TX11) (N := 14) (ci := 11) (k := 1) hx hb hts iX11 hown hG hP (yi_1 hL) (yt_1 hL) rfl (by decide) w_398 (fun _ h9 => h9) rfl rfl (yr_1_1 hL) d_1_32_7 ?_
    refine lv_aload_n hx hb d_1_32_10 rfl (lv_at hl 0 rfl) ?_
    refine m_gr (j := 2) (C := "Ballothall") (T := TX11) (N := 14) (ci := 11) (k := 0) hx hb hts iX11 hown hG hP (yi_1 hL) (yt_1 hL) rfl (by decide) w_397 (fun _ h9 => h9) rfl rfl (yr_1_0 hL) d_1_32_11 ?_
    obtain ⟨r101, g101, h⟩ := bd_e h
    refine kVN (As := []) (rest := [.ref (ad 41)]) (s_Bx_everybody l z ad E M r101 hL g101) hx hb hml hown hts w_668 n_665 w_667 w_s_8b8b67 w_2 md_b59579 ⟨Nat.le_of_ble_eq_true rfl, Nat.le_of_ble_eq_true rfl⟩ hG hZ hP hD hS hA 2 (wv_o (ci := 0) (yi_2 hL) (yt_2 hL)) rfl rfl rfl hl.1 rfl (Nat.le_of_ble_eq_true rfl) d_1_32_14 ⟨Nat.le_of_ble_eq_true rfl, Nat.le_of_ble_eq_true rfl⟩ (fun _ H locs hP hD hS => ?_)
    have hP : va_P z.1 classes (wv z ad E M) H := hP
    have hD : va_D A (wv z ad E M) := hD
    refine W.eq (g2 := F0 m 17 ls [.int (oI r101), .ref (ad 41)]) rfl ?_
    obtain ⟨M102, g102, h⟩ := bd_e h
    refine kVN (As := [.int (oI r101)]) (rest := []) (s_Po_open l z ad E M r101 M102 hL g102) hx hb hml hown hts w_672 n_669 w_671 w_s_229dc4 w_3 md_60bc9b ⟨Nat.le_of_ble_eq_true rfl, Nat.le_of_ble_eq_true rfl⟩ hG hZ hP hD hS hA 41 (wv_o (ci := 9) (yi_41 hL) (yt_41 hL)) rfl rfl rfl hl.1 rfl (Nat.le_of_ble_eq_true rfl) d_1_32_17 ⟨Nat.le_of_ble_eq_true rfl, Nat.le_of_ble_eq_true rfl⟩ (fun _ H locs hP hD hS => ?_)
    have hP : va_P z.1 classes (wv z ad E M102) H := hP
    have hD : va_D A (wv z ad E M102) := hD
    refine W.eq (g2 := F0 m 20 ls []) rfl ?_
    refine lv_aload_n hx hb d_1_32_20 rfl (lv_at hl 0 rfl) ?_
    refine m_gr (j := 41) (C := "Ballothall") (T := TX11) (N := 14) (ci := 11) (k := 1) hx hb hts iX11 hown hG hP (yi_1 hL) (yt_1 hL) rfl (by decide) w_398 (fun _ h9 => h9) rfl rfl (yr_1_1 hL) d_1_32_21 ?_
    refine lv_iload_n hx hb d_1_32_24 rfl (lv_at hl 1 rfl) ?_
    obtain ⟨⟨r103, M103⟩, g103, h⟩ := bd_e h
    refine kVN (As := [.int (oI x1)]) (rest := []) (s_Po_bestBy l z ad E M102 x1 r103 M103 hL g103) hx hb hml hown hts w_1374 n_1438 w_1373 w_s_0765de w_3 md_2b9f88 ⟨Nat.le_of_ble_eq_true rfl, Nat.le_of_ble_eq_true rfl⟩ hG hZ hP hD hS hA 41 (wv_o (ci := 9) (yi_41 hL) (yt_41 hL)) rfl rfl rfl hl.1 rfl (Nat.le_of_ble_eq_true rfl) d_1_32_25 ⟨Nat.le_of_ble_eq_true rfl, Nat.le_of_ble_eq_true rfl⟩ (fun _ H locs hP hD hS => ?_)
    have hP : va_P z.1 classes (wv z ad E M103) H := hP
    have hD : va_D A (wv z ad E M103) := hD
    refine W.eq (g2 := F0 m 28 ls [.int (oI r103)]) rfl ?_
    obtain ⟨rfl, rfl⟩ := in2 h
    exact W.iret hx hb hr (fun t ht hW => qkA hP hD hS (fun k => k) rfl rfl ht) hS.2.2 d_1_32_28
  exact key _ _ _ hts hP hS
set_option maxRecDepth 100000 in
set_option maxHeartbeats 4000000 in
theorem s_St_coder_C0 (l : Launch) (z : Zz) (ad : Nat → Nat) (E : Ev) (M : Mm) (r : Int)  (hL : Lay E) (h : f_St_coder_C0 E M = some r) : CT l z ⟨"java/lang/String", "coder", "()B"⟩ prog_35_method_152_code 1 (some .byte) [.ref (z.2 100)] (wv z ad E M) 0 20 0 0 (fun _ => some (.int (oI r))) (fun _ => (wv z ad E M)) := by
  refine CT.of (own := "java/lang/String") (by decide +kernel) (Nat.le_of_ble_eq_true rfl) rfl (fun p e s m below meth c A ls hx hb hml hr hts hown hlocks hin hA hG hZ hP hD hS hl => ?_)
  have hl : lv_has ls 1 [(0, .ref (z.2 100))] := hl
  have key : ∀ (H : Heap) (locs : List Loc) (args : Array Value), (∀ w ∈ WG, w.before args s = true) → va_P z.1 classes (wv z ad E M) H → va_S A s.heap H locs → W p l e (rmK 0 20 0 0) s m args below meth c H locs 0 0 (MQ below (QK z A (fun _ => some (.int (oI r))) (fun _ => (wv z ad E M))) args s 0 0 A) (F0 m 0 ls []) := by
    intro H locs args hts hP hS
    unfold f_St_coder_C0 at h
    refine va_gets hx hb hZ.2.1 hS hown (hts _ w_958) (fun _ h9 => h9) d_35_152_0 ?_
    refine lv_if_eq (tgt := 13) hx hb d_35_152_3 (by decide) (fun c9 => absurd c9 (by decide +kernel)) (fun _ => ?_)
    refine lv_aload_n hx hb d_35_152_6 rfl (lv_at hl 0 rfl) ?_
    refine m_gcC hx hb hts hZ hS (i := 0) (by decide) hown w_973 d_35_152_7 ?_
    refine lv_goto (tgt := 14) hx hb d_35_152_10 (by decide) ?_
    obtain rfl := in1 h
    exact W.zret hx hb hr (nb_b (by decide)) (fun t ht hW => qkA hP hD hS (fun k => k) rfl rfl ht) hS.2.2 d_35_152_14
  exact key _ _ _ hts hP hS
set_option maxRecDepth 100000 in
set_option maxHeartbeats 4000000 in
theorem s_St_length_C0 (l : Launch) (z : Zz) (ad : Nat → Nat) (E : Ev) (M : Mm) (r : Int)  (hL : Lay E) (h : f_St_length_C0 E M = some r) : CT l z ⟨"java/lang/String", "length", "()I"⟩ prog_35_method_54_code 1 (some .int) [.ref (z.2 100)] (wv z ad E M) 1 40 0 0 (fun _ => some (.int (oI r))) (fun _ => (wv z ad E M)) := by
  refine CT.of (own := "java/lang/String") (by decide +kernel) (Nat.le_of_ble_eq_true rfl) rfl (fun p e s m below meth c A ls hx hb hml hr hts hown hlocks hin hA hG hZ hP hD hS hl => ?_)
  have hl : lv_has ls 1 [(0, .ref (z.2 100))] := hl
  have key : ∀ (H : Heap) (locs : List Loc) (args : Array Value), (∀ w ∈ WG, w.before args s = true) → va_P z.1 classes (wv z ad E M) H → va_S A s.heap H locs → W p l e (rmK 1 40 0 0) s m args below meth c H locs 0 0 (MQ below (QK z A (fun _ => some (.int (oI r))) (fun _ => (wv z ad E M))) args s 0 0 A) (F0 m 0 ls []) := by
    intro H locs args hts hP hS
    unfold f_St_length_C0 at h
    refine lv_aload_n hx hb d_35_54_0 rfl (lv_at hl 0 rfl) ?_
    refine m_gvC hx hb hts hZ hS (i := 0) (by decide) hown w_972 d_35_54_1 ?_
    refine m_lenC hx hb hZ hS (i := 0) (by decide) d_35_54_4 ?_
    refine nrm (x1 := oI 0) rfl ?_
    refine lv_aload_n hx hb d_35_54_5 rfl (lv_at hl 0 rfl) ?_
    obtain ⟨r100, g100, h⟩ := bd_e h
    refine kVC (As := []) (rest := [.int (oI 0)]) (s_St_coder_C0 l z ad E M r100 hL g100) hx hb hml hown hts w_993 w_990 w_991 w_992 w_20 md_9e8065 ⟨Nat.le_of_ble_eq_true rfl, Nat.le_of_ble_eq_true rfl⟩ hG hZ hP hD hS hA 0 (by decide) rfl rfl hl.1 rfl (Nat.le_of_ble_eq_true rfl) d_35_54_6 ⟨Nat.le_of_ble_eq_true rfl, Nat.le_of_ble_eq_true rfl⟩ (fun _ H locs hP hD hS => ?_)
    have hP : va_P z.1 classes (wv z ad E M) H := hP
    have hD : va_D A (wv z ad E M) := hD
    refine W.eq (g2 := F0 m 9 ls [.int (oI r100), .int (oI 0)]) rfl ?_
    obtain ⟨ok101, h⟩ := ck_e h
    refine lv_ishr hx hb d_35_54_9 ?_
    refine nrm (oI_shr (a := (0 : Int)) (by decide) ok101.1 ok101.2) ?_
    obtain rfl := in1 h
    exact W.iret hx hb hr (fun t ht hW => qkA hP hD hS (fun k => k) rfl rfl ht) hS.2.2 d_35_54_10
  exact key _ _ _ hts hP hS
set_option maxRecDepth 100000 in
set_option maxHeartbeats 4000000 in
theorem s_As_inflateIfNeededFor_C0 (l : Launch) (z : Zz) (ad : Nat → Nat) (E : Ev) (M : Mm) (p0 : Nat)  (hL : Lay E) (h : f_As_inflateIfNeededFor_C0 E M p0 = some ()) : CT l z ⟨"java/lang/AbstractStringBuilder", "inflateIfNeededFor", "(Ljava/lang/String;)V"⟩ prog_23_method_71_code 2 none [.ref (ad p0), .ref (z.2 100)] (wv z ad E M) 1 40 0 0 (fun _ => none) (fun _ => (wv z ad E M)) := by
  refine CT.of (own := "java/lang/AbstractStringBuilder") (by decide +kernel) (Nat.le_of_ble_eq_true rfl) rfl (fun p e s m below meth c A ls hx hb hml hr hts hown hlocks hin hA hG hZ hP hD hS hl => ?_)
  have hl : lv_has ls 2 [(0, .ref (ad p0)), (1, .ref (z.2 100))] := hl
  have key : ∀ (H : Heap) (locs : List Loc) (args : Array Value), (∀ w ∈ WG, w.before args s = true) → va_P z.1 classes (wv z ad E M) H → va_S A s.heap H locs → W p l e (rmK 1 40 0 0) s m args below meth c H locs 0 0 (MQ below (QK z A (fun _ => none) (fun _ => (wv z ad E M))) args s 0 0 A) (F0 m 0 ls []) := by
    intro H locs args hts hP hS
    unfold f_As_inflateIfNeededFor_C0 at h
    obtain ⟨h_p0, h⟩ := ck_e h
    refine va_gets hx hb hZ.2.1 hS hown (hts _ w_811) (fun _ h9 => h9) d_23_71_0 ?_
    refine lv_if_eq (tgt := 21) hx hb d_23_71_3 (by decide) (fun c9 => absurd c9 (by decide +kernel)) (fun _ => ?_)
    refine lv_aload_n hx hb d_23_71_6 rfl (lv_at hl 0 rfl) ?_
    refine m_gi (C := "java/lang/StringBuilder") (T := TX14) (N := 4) (ci := 14) (k := 1) hx hb hts iX14 hown hG hP h_p0.1 h_p0.2 rfl (by decide) w_821 (fun _ h9 => h9) rfl rfl d_23_71_7 ?_
    refine lv_aload_n hx hb d_23_71_10 rfl (lv_at hl 1 rfl) ?_
    obtain ⟨r100, g100, h⟩ := bd_e h
    refine kVC (As := []) (rest := [.int (oI (M p0 1))]) (s_St_coder_C0 l z ad E M r100 hL g100) hx hb hml hown hts w_993 w_1473 w_991 w_992 w_20 md_9e8065 ⟨Nat.le_of_ble_eq_true rfl, Nat.le_of_ble_eq_true rfl⟩ hG hZ hP hD hS hA 0 (by decide) rfl rfl hl.1 rfl (Nat.le_of_ble_eq_true rfl) d_23_71_11 ⟨Nat.le_of_ble_eq_true rfl, Nat.le_of_ble_eq_true rfl⟩ (fun _ H locs hP hD hS => ?_)
    have hP : va_P z.1 classes (wv z ad E M) H := hP
    have hD : va_D A (wv z ad E M) := hD
    refine W.eq (g2 := F0 m 14 ls [.int (oI r100), .int (oI (M p0 1))]) rfl ?_
    obtain ⟨ok101, h⟩ := ck_e h
    obtain ⟨ok102, h⟩ := ck_e h
    refine lv_icmp_eq (tgt := 21) hx hb d_23_71_14 (by decide) (fun c9 => ?_) (fun c9 => ?_)
    · have h := ite_t ((oI_eq (a := (M p0 1)) (b := r100) ok101 ok102).mp c9) h
      clear h
      exact W.vret hx hb hr (fun t ht hW => qkA hP hD hS (fun k => k) rfl rfl ht) hS.2.2 d_23_71_21
    · have h := ite_f (fun q => c9 ((oI_eq (a := (M p0 1)) (b := r100) ok101 ok102).mpr q)) h
      cases h
  exact key _ _ _ hts hP hS
set_option maxRecDepth 100000 in
set_option maxHeartbeats 4000000 in
theorem s_St_getBytes_C0 (l : Launch) (z : Zz) (ad : Nat → Nat) (E : Ev) (M : Mm) (p1 : Nat) (x2 : Int) (x3 : Int) (N : Mm) (hL : Lay E) (h : f_St_getBytes_C0 E M p1 x2 x3 = some N) : CT l z ⟨"java/lang/String", "getBytes", "([BIB)V"⟩ prog_35_method_147_code 4 none [.ref (z.2 100), .ref (ad p1), .int (oI x2), .int (oI x3)] (wv z ad E M) 1 60 0 0 (fun _ => none) (fun _ => (wv z ad E N)) := by
  refine CT.of (own := "java/lang/String") (by decide +kernel) (Nat.le_of_ble_eq_true rfl) rfl (fun p e s m below meth c A ls hx hb hml hr hts hown hlocks hin hA hG hZ hP hD hS hl => ?_)
  have hl : lv_has ls 4 [(0, .ref (z.2 100)), (1, .ref (ad p1)), (2, .int (oI x2)), (3, .int (oI x3))] := hl
  have key : ∀ (H : Heap) (locs : List Loc) (args : Array Value), (∀ w ∈ WG, w.before args s = true) → va_P z.1 classes (wv z ad E M) H → va_S A s.heap H locs → W p l e (rmK 1 60 0 0) s m args below meth c H locs 0 0 (MQ below (QK z A (fun _ => none) (fun _ => (wv z ad E N))) args s 0 0 A) (F0 m 0 ls []) := by
    intro H locs args hts hP hS
    unfold f_St_getBytes_C0 at h
    obtain ⟨h_p1, h⟩ := ck_e h
    refine lv_aload_n hx hb d_35_147_0 rfl (lv_at hl 0 rfl) ?_
    obtain ⟨r100, g100, h⟩ := bd_e h
    refine kVC (As := []) (rest := []) (s_St_coder_C0 l z ad E M r100 hL g100) hx hb hml hown hts w_993 w_990 w_991 w_992 w_20 md_9e8065 ⟨Nat.le_of_ble_eq_true rfl, Nat.le_of_ble_eq_true rfl⟩ hG hZ hP hD hS hA 0 (by decide) rfl rfl hl.1 rfl (Nat.le_of_ble_eq_true rfl) d_35_147_1 ⟨Nat.le_of_ble_eq_true rfl, Nat.le_of_ble_eq_true rfl⟩ (fun _ H locs hP hD hS => ?_)
    have hP : va_P z.1 classes (wv z ad E M) H := hP
    have hD : va_D A (wv z ad E M) := hD
    refine W.eq (g2 := F0 m 4 ls [.int (oI r100)]) rfl ?_
    refine lv_iload_n hx hb d_35_147_4 rfl (lv_at hl 3 rfl) ?_
    obtain ⟨ok101, h⟩ := ck_e h
    obtain ⟨ok102, h⟩ := ck_e h
    refine lv_icmp_ne (tgt := 28) hx hb d_35_147_5 (by decide) (fun c9 => ?_) (fun c9 => ?_)
    · have h := ite_f (fun q => c9 ((oI_eq (a := r100) (b := x3) ok101 ok102).mpr q)) h
      cases h
    · have h := ite_t ((oI_eq (a := r100) (b := x3) ok101 ok102).mp c9) h
      refine lv_aload_n hx hb d_35_147_8 rfl (lv_at hl 0 rfl) ?_
      refine m_gvC hx hb hts hZ hS (i := 0) (by decide) hown w_972 d_35_147_9 ?_
      refine lv_iconst (v := oI 0) hx hb d_35_147_12 (by decide +kernel) ?_
      refine lv_aload_n hx hb d_35_147_13 rfl (lv_at hl 1 rfl) ?_
      refine lv_iload_n hx hb d_35_147_14 rfl (lv_at hl 2 rfl) ?_
      refine lv_iload_n hx hb d_35_147_15 rfl (lv_at hl 3 rfl) ?_
      obtain ⟨ok103, h⟩ := ck_e h
      refine lv_ishl hx hb d_35_147_16 ?_
      refine nrm (oI_shl ok103.1 ok103.2) ?_
      refine lv_aload_n hx hb d_35_147_17 rfl (lv_at hl 0 rfl) ?_
      refine m_gvC hx hb hts hZ hS (i := 0) (by decide) hown w_972 d_35_147_18 ?_
      refine m_lenC hx hb hZ hS (i := 0) (by decide) d_35_147_21 ?_
      refine nrm (x1 := oI 0) rfl ?_
      obtain ⟨ok104, h⟩ := ck_e h
      refine m_cpyC (i := 0) hx hb (by rw [hml]; exact hl.1.symm) hown (hts _ w_1478) (hts _ w_621) (hts _ w_620) (hts _ w_24) hG hP hD hS hZ (by decide) h_p1.1 (isBA_T h_p1) ok104 (Nat.le_of_ble_eq_true rfl) (Nat.le_of_ble_eq_true rfl) d_35_147_22 (fun H locs hP hD hS => ?_)
      have hP : va_P z.1 classes (wv z ad E (uA M p1 (va_cpy (csB 0) (M p1) 0 (x2 * 2 ^ x3.toNat).toNat 0))) H := hP
      have hD : va_D A (wv z ad E (uA M p1 (va_cpy (csB 0) (M p1) 0 (x2 * 2 ^ x3.toNat).toNat 0))) := hD
      refine lv_goto (tgt := 43) hx hb d_35_147_25 (by decide) ?_
      obtain rfl := in1 h
      exact W.vret hx hb hr (fun t ht hW => qkA hP hD hS (fun k => k) rfl rfl ht) hS.2.2 d_35_147_43
  exact key _ _ _ hts hP hS
set_option maxRecDepth 100000 in
set_option maxHeartbeats 4000000 in
theorem s_As_putStringAt_C0 (l : Launch) (z : Zz) (ad : Nat → Nat) (E : Ev) (M : Mm) (p0 : Nat) (x1 : Int) (N : Mm) (hL : Lay E) (h : f_As_putStringAt_C0 E M p0 x1 = some N) : CT l z ⟨"java/lang/AbstractStringBuilder", "putStringAt", "(ILjava/lang/String;)V"⟩ prog_23_method_73_code 3 none [.ref (ad p0), .int (oI x1), .ref (z.2 100)] (wv z ad E M) 2 83 0 0 (fun _ => none) (fun _ => (wv z ad E N)) := by
  refine CT.of (own := "java/lang/AbstractStringBuilder") (by decide +kernel) (Nat.le_of_ble_eq_true rfl) rfl (fun p e s m below meth c A ls hx hb hml hr hts hown hlocks hin hA hG hZ hP hD hS hl => ?_)
  have hl : lv_has ls 3 [(0, .ref (ad p0)), (1, .int (oI x1)), (2, .ref (z.2 100))] := hl
  have key : ∀ (H : Heap) (locs : List Loc) (args : Array Value), (∀ w ∈ WG, w.before args s = true) → va_P z.1 classes (wv z ad E M) H → va_S A s.heap H locs → W p l e (rmK 2 83 0 0) s m args below meth c H locs 0 0 (MQ below (QK z A (fun _ => none) (fun _ => (wv z ad E N))) args s 0 0 A) (F0 m 0 ls []) := by
    intro H locs args hts hP hS
    unfold f_As_putStringAt_C0 at h
    obtain ⟨h_p0, h⟩ := ck_e h
    refine lv_aload_n hx hb d_23_73_0 rfl (lv_at hl 0 rfl) ?_
    refine lv_aload_n hx hb d_23_73_1 rfl (lv_at hl 2 rfl) ?_
    obtain ⟨_, g100, h⟩ := bd_e h
    refine kVQ (As := [.ref (z.2 100)]) (rest := []) (s_As_inflateIfNeededFor_C0 l z ad E M p0 hL g100) hx hb hml hown hts w_1472 w_1469 w_1471 (hG.2.2.2.2.2.2 _ (by decide) _) w_18 md_6f592a ⟨Nat.le_of_ble_eq_true rfl, Nat.le_of_ble_eq_true rfl⟩ hG hZ hP hD hS hA p0 (wv_o (ci := 14) h_p0.1 h_p0.2) rfl rfl rfl hl.1 rfl (Nat.le_of_ble_eq_true rfl) d_23_73_2 ⟨Nat.le_of_ble_eq_true rfl, Nat.le_of_ble_eq_true rfl⟩ (fun _ H locs hP hD hS => ?_)
    have hP : va_P z.1 classes (wv z ad E M) H := hP
    have hD : va_D A (wv z ad E M) := hD
    refine W.eq (g2 := F0 m 5 ls []) rfl ?_
    refine lv_aload_n hx hb d_23_73_5 rfl (lv_at hl 2 rfl) ?_
    refine lv_aload_n hx hb d_23_73_6 rfl (lv_at hl 0 rfl) ?_
    obtain ⟨p101, g101, h⟩ := bd_e h
    obtain ⟨h_p101, h⟩ := ck_e h
    refine m_gr (j := p101) (C := "java/lang/StringBuilder") (T := TX14) (N := 4) (ci := 14) (k := 0) hx hb hts iX14 hown hG hP h_p0.1 h_p0.2 rfl (by decide) w_820 (fun _ h9 => h9) rfl rfl g101 d_23_73_7 ?_
    refine lv_iload_n hx hb d_23_73_10 rfl (lv_at hl 1 rfl) ?_
    refine lv_aload_n hx hb d_23_73_11 rfl (lv_at hl 0 rfl) ?_
    refine m_gi (C := "java/lang/StringBuilder") (T := TX14) (N := 4) (ci := 14) (k := 1) hx hb hts iX14 hown hG hP h_p0.1 h_p0.2 rfl (by decide) w_821 (fun _ h9 => h9) rfl rfl d_23_73_12 ?_
    obtain ⟨M102, g102, h⟩ := bd_e h
    refine kVC (As := [.ref (ad p101), .int (oI x1), .int (oI (M p0 1))]) (rest := []) (s_St_getBytes_C0 l z ad E M p101 x1 (M p0 1) M102 hL g102) hx hb hml hown hts w_1477 w_1474 w_1475 w_1476 w_20 md_9fa829 ⟨Nat.le_of_ble_eq_true rfl, Nat.le_of_ble_eq_true rfl⟩ hG hZ hP hD hS hA 0 (by decide) rfl rfl hl.1 rfl (Nat.le_of_ble_eq_true rfl) d_23_73_15 ⟨Nat.le_of_ble_eq_true rfl, Nat.le_of_ble_eq_true rfl⟩ (fun _ H locs hP hD hS => ?_)
    have hP : va_P z.1 classes (wv z ad E M102) H := hP
    have hD : va_D A (wv z ad E M102) := hD
    refine W.eq (g2 := F0 m 18 ls []) rfl ?_
    obtain rfl := in1 h
    exact W.vret hx hb hr (fun t ht hW => qkA hP hD hS (fun k => k) rfl rfl ht) hS.2.2 d_23_73_18
  exact key _ _ _ hts hP hS
set_option maxRecDepth 100000 in
set_option maxHeartbeats 4000000 in
theorem s_As_appendS_C0 (l : Launch) (z : Zz) (ad : Nat → Nat) (E : Ev) (M : Mm) (p0 : Nat) (r : Nat) (N : Mm) (hL : Lay E) (h : f_As_appendS_C0 E M p0 = some (r, N)) : CT l z ⟨"java/lang/AbstractStringBuilder", "append", "(Ljava/lang/String;)Ljava/lang/AbstractStringBuilder;"⟩ prog_23_method_22_code 3 (some (.object "java/lang/AbstractStringBuilder")) [.ref (ad p0), .ref (z.2 100)] (wv z ad E M) 3 105 0 0 (fun _ => some (.ref (ad r))) (fun _ => (wv z ad E N)) := by
  refine CT.of (own := "java/lang/AbstractStringBuilder") (by decide +kernel) (Nat.le_of_ble_eq_true rfl) rfl (fun p e s m below meth c A ls hx hb hml hr hts hown hlocks hin hA hG hZ hP hD hS hl => ?_)
  have hl : lv_has ls 3 [(0, .ref (ad p0)), (1, .ref (z.2 100))] := hl
  have key : ∀ (H : Heap) (locs : List Loc) (args : Array Value), (∀ w ∈ WG, w.before args s = true) → va_P z.1 classes (wv z ad E M) H → va_S A s.heap H locs → W p l e (rmK 3 105 0 0) s m args below meth c H locs 0 0 (MQ below (QK z A (fun _ => some (.ref (ad r))) (fun _ => (wv z ad E N))) args s 0 0 A) (F0 m 0 ls []) := by
    intro H locs args hts hP hS
    unfold f_As_appendS_C0 at h
    obtain ⟨h_p0, h⟩ := ck_e h
    refine lv_aload_n hx hb d_23_22_0 rfl (lv_at hl 1 rfl) ?_
    refine lv_ifnonnull (tgt := 9) hx hb d_23_22_1 (by decide) ?_
    refine lv_aload_n hx hb d_23_22_9 rfl (lv_at hl 1 rfl) ?_
    obtain ⟨r100, g100, h⟩ := bd_e h
    refine kVC (As := []) (rest := []) (s_St_length_C0 l z ad E M r100 hL g100) hx hb hml hown hts w_989 w_1464 w_987 w_988 w_20 md_a3a12c ⟨Nat.le_of_ble_eq_true rfl, Nat.le_of_ble_eq_true rfl⟩ hG hZ hP hD hS hA 0 (by decide) rfl rfl hl.1 rfl (Nat.le_of_ble_eq_true rfl) d_23_22_10 ⟨Nat.le_of_ble_eq_true rfl, Nat.le_of_ble_eq_true rfl⟩ (fun _ H locs hP hD hS => ?_)
    have hP : va_P z.1 classes (wv z ad E M) H := hP
    have hD : va_D A (wv z ad E M) := hD
    refine W.eq (g2 := F0 m 13 ls [.int (oI r100)]) rfl ?_
    refine lv_istore_n (lv' := [(2, .int (oI r100)), (0, .ref (ad p0)), (1, .ref (z.2 100))]) hx hb d_23_22_13 rfl hl (by decide) rfl (fun ls hl => ?_)
    refine lv_aload_n hx hb d_23_22_14 rfl (lv_at hl 1 rfl) ?_
    refine lv_aload_n hx hb d_23_22_15 rfl (lv_at hl 1 rfl) ?_
    refine m_gi (C := "java/lang/StringBuilder") (T := TX14) (N := 4) (ci := 14) (k := 3) hx hb hts iX14 hown hG hP h_p0.1 h_p0.2 rfl (by decide) w_823 (fun _ h9 => h9) rfl rfl d_23_22_16 ?_
    refine lv_iload_n hx hb d_23_22_19 rfl (lv_at hl 0 rfl) ?_
    refine lv_iadd hx hb d_23_22_20 ?_
    refine nrm (oI_add _ _) ?_
    obtain ⟨_, g101, h⟩ := bd_e h
    refine kVQ (As := [.int (oI ((M p0 3) + r100))]) (rest := []) (s_As_ensureCapacityInternal l z ad E M p0 ((M p0 3) + r100) hL g101) hx hb hml hown hts w_843 w_840 w_842 (hG.2.2.2.2.2.2 _ (by decide) _) w_18 md_388751 ⟨Nat.le_of_ble_eq_true rfl, Nat.le_of_ble_eq_true rfl⟩ hG hZ hP hD hS hA p0 (wv_o (ci := 14) h_p0.1 h_p0.2) rfl rfl rfl hl.1 rfl (Nat.le_of_ble_eq_true rfl) d_23_22_21 ⟨Nat.le_of_ble_eq_true rfl, Nat.le_of_ble_eq_true rfl⟩ (fun _ H locs hP hD hS => ?_)
    have hP : va_P z.1 classes (wv z ad E M) H := hP
    have hD : va_D A (wv z ad E M) := hD
    refine W.eq (g2 := F0 m 24 ls []) rfl ?_
    refine lv_aload_n hx hb d_23_22_24 rfl (lv_at hl 1 rfl) ?_
    refine lv_aload_n hx hb d_23_22_25 rfl (lv_at hl 1 rfl) ?_
    refine m_gi (C := "java/lang/StringBuilder") (T := TX14) (N := 4) (ci := 14) (k := 3) hx hb hts iX14 hown hG hP h_p0.1 h_p0.2 rfl (by decide) w_823 (fun _ h9 => h9) rfl rfl d_23_22_26 ?_
    refine lv_aload_n hx hb d_23_22_29 rfl (lv_at hl 2 rfl) ?_
    obtain ⟨M102, g102, h⟩ := bd_e h
    refine kVQ (As := [.int (oI (M p0 3)), .ref (z.2 100)]) (rest := []) (s_As_putStringAt_C0 l z ad E M p0 (M p0 3) M102 hL g102) hx hb hml hown hts w_1468 w_1465 w_1467 (hG.2.2.2.2.2.2 _ (by decide) _) w_18 md_6100f0 ⟨Nat.le_of_ble_eq_true rfl, Nat.le_of_ble_eq_true rfl⟩ hG hZ hP hD hS hA p0 (wv_o (ci := 14) h_p0.1 h_p0.2) rfl rfl rfl hl.1 rfl (Nat.le_of_ble_eq_true rfl) d_23_22_30 ⟨Nat.le_of_ble_eq_true rfl, Nat.le_of_ble_eq_true rfl⟩ (fun _ H locs hP hD hS => ?_)
    have hP : va_P z.1 classes (wv z ad E M102) H := hP
    have hD : va_D A (wv z ad E M102) := hD
    refine W.eq (g2 := F0 m 33 ls []) rfl ?_
    refine lv_aload_n hx hb d_23_22_33 rfl (lv_at hl 1 rfl) ?_
    refine lv_dup hx hb d_23_22_34 rfl ?_
    refine m_gi (C := "java/lang/StringBuilder") (T := TX14) (N := 4) (ci := 14) (k := 3) hx hb hts iX14 hown hG hP h_p0.1 h_p0.2 rfl (by decide) w_823 (fun _ h9 => h9) rfl rfl d_23_22_35 ?_
    refine lv_iload_n hx hb d_23_22_38 rfl (lv_at hl 0 rfl) ?_
    refine lv_iadd hx hb d_23_22_39 ?_
    refine nrm (oI_add _ _) ?_
    refine m_pi (C := "java/lang/StringBuilder") (T := TX14) (N := 4) (ci := 14) (k := 3) (ty := .int) hx hb hts iX14 hown hG hP hD hS h_p0.1 h_p0.2 rfl (by decide) w_823 (fun _ h9 => h9) rfl rfl tyX14_ok nmX14 rfl (by decide +kernel) rfl rfl d_23_22_40 (fun H locs hP hD hS => ?_)
    have hP : va_P z.1 classes (wv z ad E (u2 M102 p0 3 ((M102 p0 3) + r100))) H := hP
    have hD : va_D A (wv z ad E (u2 M102 p0 3 ((M102 p0 3) + r100))) := hD
    refine lv_aload_n hx hb d_23_22_43 rfl (lv_at hl 1 rfl) ?_
    obtain ⟨rfl, rfl⟩ := in2 h
    exact W.aret hx hb hr (Or.inl ⟨_, rfl⟩) (Or.inr ⟨_, rfl⟩) (fun t ht hW => qkA hP hD hS (fun k => k) rfl rfl ht) hS.2.2 d_23_22_44
  exact key _ _ _ hts hP hS
