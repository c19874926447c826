set_option maxRecDepth 100000 in
set_option maxHeartbeats 4000000 in
theorem s_Li_isAsThen (l : Launch) (z : Zz) (ad : Nat → Nat) (E : Ev) (M : Mm) (x1 : Int) (r : Int)  (hL : Lay E) (h : f_Li_isAsThen E M x1 = some r) : CT l z ⟨"Ballothall$Lists", "isAsThen", "(I)Z"⟩ prog_9_method_13_code 3 (some .boolean) [.ref (ad 53), .int (oI x1)] (wv z ad E M) 1 40 0 0 (fun _ => some (.int (oI r))) (fun _ => (wv z ad E M)) := by
  refine CT.of (own := "Ballothall$Lists") (by decide +kernel) (Nat.le_of_ble_eq_true rfl) rfl (fun p e s m below meth c A ls hx hb hml hr hts hown hlocks hin hA hG hZ hP hD hS hl => ?_)
  have hl : lv_has ls 3 [(0, .ref (ad 53)), (1, .int (oI x1))] := hl
  have key : ∀ (H : Heap) (locs : List Loc) (args : Array Value), (∀ w ∈ WG, w.before args s = true) → va_P z.1 classes (wv z ad E M) H → va_S A s.heap H locs → W p l e (rmK 1 40 0 0) s m args below meth c H locs 0 0 (MQ below (QK z A (fun _ => some (.int (oI r))) (fun _ => (wv z ad E M))) args s 0 0 A) (F0 m 0 ls []) := by
    intro H locs args hts hP hS
    unfold f_Li_isAsThen at h
    refine lv_aload_n hx hb d_9_13_0 rfl (lv_at hl 0 rfl) ?_
    obtain ⟨r100, g100, h⟩ := bd_e h
    refine kV (As := []) (rest := []) (s_Li_latest l z ad E M r100 hL g100) hx hb hml hown hts w_584 w_581 w_583 w_s_46c41a w_5 md_cb0049 ⟨Nat.le_of_ble_eq_true rfl, Nat.le_of_ble_eq_true rfl⟩ hG hZ hP hD hS hA 53 (wv_o (ci := 7) (yi_53 hL) (yt_53 hL)) rfl rfl rfl hl.1 rfl (Nat.le_of_ble_eq_true rfl) d_9_13_1 ⟨Nat.le_of_ble_eq_true rfl, Nat.le_of_ble_eq_true rfl⟩ (fun _ H locs hP hD hS => ?_)
    have hP : va_P z.1 classes (wv z ad E M) H := hP
    have hD : va_D A (wv z ad E M) := hD
    obtain ⟨h_r100, h⟩ := ck_e h
    refine W.eq (g2 := F0 m 4 ls [.ref (ad r100)]) rfl ?_
    refine lv_astore_n (lv' := [(2, .ref (ad r100)), (0, .ref (ad 53)), (1, .int (oI x1))]) hx hb d_9_13_4 rfl hl (by decide) rfl (fun ls hl => ?_)
    refine lv_iload_n hx hb d_9_13_5 rfl (lv_at hl 2 rfl) ?_
    refine lv_aload_n hx hb d_9_13_6 rfl (lv_at hl 0 rfl) ?_
    refine m_giN (C := "Ballothall$KeptSeats") (T := TX6) (N := 7) (ci := 6) (k := 2) hx hb hts iX6 hown hG hP (isKs_i h_r100) (isKs_T h_r100) rfl (by decide) n_216 rfl (fun _ h9 => h9) rfl rfl d_9_13_7 ?_
    obtain ⟨ok101, h⟩ := ck_e h
    obtain ⟨ok102, h⟩ := ck_e h
    refine lv_icmp_ge (tgt := 50) hx hb d_9_13_10 (by decide) (fun c9 => ?_) (fun c9 => ?_)
    · have h := ite_t ((oI_le (a := (M r100 2)) (b := x1) ok102 ok101).mp c9) h
      refine lv_iconst (v := oI 0) hx hb d_9_13_50 (by decide +kernel) ?_
      obtain rfl := in1 h
      exact W.zret hx hb hr rfl (fun t ht hW => qkA hP hD hS (fun k => k) rfl rfl ht) hS.2.2 d_9_13_51
    · have h := ite_f (fun q => c9 ((oI_le (a := (M r100 2)) (b := x1) ok102 ok101).mpr q)) h
      refine lv_aload_n hx hb d_9_13_13 rfl (lv_at hl 1 rfl) ?_
      refine m_gr (j := 55) (C := "Ballothall$Lists") (T := TX7) (N := 11) (ci := 7) (k := 2) hx hb hts iX7 hown hG hP (yi_53 hL) (yt_53 hL) rfl (by decide) w_245 (fun _ h9 => h9) rfl rfl (yr_53_2 hL) d_9_13_14 ?_
      refine lv_iload_n hx hb d_9_13_17 rfl (lv_at hl 2 rfl) ?_
      obtain ⟨ok103, h⟩ := ck_e h
      refine m_ia hx hb hG hP (yi_55 hL) (yt_55 hL) ok103 d_9_13_18 ?_
      obtain ⟨ok104, h⟩ := ck_e h
      refine lv_if_ne (tgt := 50) hx hb d_9_13_19 (by decide) (fun c9 => ?_) (fun c9 => ?_)
      · have h := ite_f (fun q => c9 ((oI_eq0 ok104).mpr q)) h
        refine lv_iconst (v := oI 0) hx hb d_9_13_50 (by decide +kernel) ?_
        obtain rfl := in1 h
        exact W.zret hx hb hr rfl (fun t ht hW => qkA hP hD hS (fun k => k) rfl rfl ht) hS.2.2 d_9_13_51
      · have h := ite_t ((oI_eq0 ok104).mp c9) h
        refine lv_aload_n hx hb d_9_13_22 rfl (lv_at hl 0 rfl) ?_
        refine m_grN (j := (r100 + 4)) (C := "Ballothall$KeptSeats") (T := TX6) (N := 7) (ci := 6) (k := 6) hx hb hts iX6 hown hG hP (isKs_i h_r100) (isKs_T h_r100) rfl (by decide) n_226 rfl (fun _ h9 => h9) rfl rfl (isKs_r6 h_r100) d_9_13_23 ?_
        refine lv_iload_n hx hb d_9_13_26 rfl (lv_at hl 2 rfl) ?_
        refine m_ia hx hb hG hP (isKs_i4 h_r100) (isKs_t4 h_r100) ok103 d_9_13_27 ?_
        obtain ⟨ok105, h⟩ := ck_e h
        refine lv_if_ne (tgt := 50) hx hb d_9_13_28 (by decide) (fun c9 => ?_) (fun c9 => ?_)
        · have h := ite_f (fun q => c9 ((oI_eq0 ok105).mpr q)) h
          refine lv_iconst (v := oI 0) hx hb d_9_13_50 (by decide +kernel) ?_
          obtain rfl := in1 h
          exact W.zret hx hb hr rfl (fun t ht hW => qkA hP hD hS (fun k => k) rfl rfl ht) hS.2.2 d_9_13_51
        · have h := ite_t ((oI_eq0 ok105).mp c9) h
          refine lv_aload_n hx hb d_9_13_31 rfl (lv_at hl 1 rfl) ?_
          refine m_gr (j := 54) (C := "Ballothall$Lists") (T := TX7) (N := 11) (ci := 7) (k := 1) hx hb hts iX7 hown hG hP (yi_53 hL) (yt_53 hL) rfl (by decide) w_244 (fun _ h9 => h9) rfl rfl (yr_53_1 hL) d_9_13_32 ?_
          refine lv_iload_n hx hb d_9_13_35 rfl (lv_at hl 2 rfl) ?_
          refine m_ia hx hb hG hP (yi_54 hL) (yt_54 hL) ok103 d_9_13_36 ?_
          refine lv_aload_n hx hb d_9_13_37 rfl (lv_at hl 0 rfl) ?_
          refine m_grN (j := (r100 + 3)) (C := "Ballothall$KeptSeats") (T := TX6) (N := 7) (ci := 6) (k := 5) hx hb hts iX6 hown hG hP (isKs_i h_r100) (isKs_T h_r100) rfl (by decide) n_224 rfl (fun _ h9 => h9) rfl rfl (isKs_r5 h_r100) d_9_13_38 ?_
          refine lv_iload_n hx hb d_9_13_41 rfl (lv_at hl 2 rfl) ?_
          refine m_ia hx hb hG hP (isKs_i3 h_r100) (isKs_t3 h_r100) ok103 d_9_13_42 ?_
          obtain ⟨ok106, h⟩ := ck_e h
          obtain ⟨ok107, h⟩ := ck_e h
          refine lv_icmp_ne (tgt := 50) hx hb d_9_13_43 (by decide) (fun c9 => ?_) (fun c9 => ?_)
          · have h := ite_f (fun q => c9 ((oI_eq (a := (M 54 x1.toNat)) (b := (M (r100 + 3) x1.toNat)) ok106 ok107).mpr q)) h
            refine lv_iconst (v := oI 0) hx hb d_9_13_50 (by decide +kernel) ?_
            obtain rfl := in1 h
            exact W.zret hx hb hr rfl (fun t ht hW => qkA hP hD hS (fun k => k) rfl rfl ht) hS.2.2 d_9_13_51
          · have h := ite_t ((oI_eq (a := (M 54 x1.toNat)) (b := (M (r100 + 3) x1.toNat)) ok106 ok107).mp c9) h
            refine lv_iconst (v := oI 1) hx hb d_9_13_46 (by decide +kernel) ?_
            refine lv_goto (tgt := 51) hx hb d_9_13_47 (by decide) ?_
            obtain rfl := in1 h
            exact W.zret hx hb hr rfl (fun t ht hW => qkA hP hD hS (fun k => k) rfl rfl ht) hS.2.2 d_9_13_51
  exact key _ _ _ hts hP hS
set_option maxRecDepth 100000 in
set_option maxHeartbeats 4000000 in
theorem b_Li_isUnjust_20b (l : Launch) (z : Zz) (ad : Nat → Nat) (E : Ev) (M : Mm) (q1 : Nat) (x2 : Int) (x3 : Int) (t : Nat) (w3 : Int)  {Q : State → Prop} {p : Program} {e : Env} {s : State} {m : MethodId} {below : List Frame} {meth : Method} {c : Code} {A : Nat → Prop} {args : Array Value} (hx : p.tables.exec = Jvm.exec) (hb : c.code = prog_9_method_12_code) (hml : c.maxLocals = 4) (hts : ∀ w ∈ WG, w.before args s = true) (hown : s.vm.findClass "Ballothall$Lists" = some m.cls) (hlocks : meth.locks = false) (hA : ∀ q, s.heap.size ≤ q → A q) (hG : KG z s) (hZ : FZ z A s) (hL : Lay E) (h : Li_isUnjust_20b E M q1 x2 x3 = some (t, w3)) (k0 : t = 0 → ∀ (H : Heap) (locs : List Loc) (ls : Array Slot), va_P z.1 classes (wv z ad E M) H → va_D A (wv z ad E M) → va_S A s.heap H locs → lv_has ls 4 [(0, .ref (ad 53)), (1, .ref (ad q1)), (2, .int (oI x2)), (3, .int (oI w3))] → W p l e (rmK 2 62 0 0) s m args below meth c H locs 0 0 Q (F0 m 20 ls [])) (k1 : t = 1 → ∀ (H : Heap) (locs : List Loc) (ls : Array Slot), va_P z.1 classes (wv z ad E M) H → va_D A (wv z ad E M) → va_S A s.heap H locs → lv_has ls 4 [] → W p l e (rmK 2 62 0 0) s m args below meth c H locs 0 0 Q (F0 m 68 ls [])) (k2 : t = 2 → ∀ (H : Heap) (locs : List Loc) (ls : Array Slot), va_P z.1 classes (wv z ad E M) H → va_D A (wv z ad E M) → va_S A s.heap H locs → lv_has ls 4 [(0, .ref (ad 53)), (1, .ref (ad q1)), (2, .int (oI x2))] → W p l e (rmK 2 62 0 0) s m args below meth c H locs 0 0 Q (F0 m 76 ls [])) : ∀ (H : Heap) (locs : List Loc) (ls : Array Slot), va_P z.1 classes (wv z ad E M) H → va_D A (wv z ad E M) → va_S A s.heap H locs → lv_has ls 4 [(0, .ref (ad 53)), (1, .ref (ad q1)), (2, .int (oI x2)), (3, .int (oI x3))] → W p l e (rmK 2 62 0 0) s m args below meth c H locs 0 0 Q (F0 m 20 ls []) := by
  intro H locs ls hP hD hS hl
  unfold Li_isUnjust_20b at h
  obtain ⟨h_q1, h⟩ := ck_e h
  refine lv_iload_n hx hb d_9_12_20 rfl (lv_at hl 3 rfl) ?_
  refine lv_aload_n hx hb d_9_12_21 rfl (lv_at hl 0 rfl) ?_
  refine m_gi (C := "Ballothall$Lists") (T := TX7) (N := 11) (ci := 7) (k := 0) hx hb hts iX7 hown hG hP (yi_53 hL) (yt_53 hL) rfl (by decide) w_242 (fun _ h9 => h9) rfl rfl d_9_12_22 ?_
  obtain ⟨ok103, h⟩ := ck_e h
  obtain ⟨ok104, h⟩ := ck_e h
  refine lv_icmp_ge (tgt := 76) hx hb d_9_12_25 (by decide) (fun c9 => ?_) (fun c9 => ?_)
  · have h := ite_t ((oI_le (a := (M 53 0)) (b := x3) ok104 ok103).mp c9) h
    obtain ⟨rfl, rfl⟩ := in2 h
    exact k2 rfl H locs ls hP hD hS (lv_sub hl [0, 1, 2] rfl)
  · have h := ite_f (fun q => c9 ((oI_le (a := (M 53 0)) (b := x3) ok104 ok103).mpr q)) h
    refine lv_aload_n hx hb d_9_12_28 rfl (lv_at hl 0 rfl) ?_
    refine m_gr (j := 54) (C := "Ballothall$Lists") (T := TX7) (N := 11) (ci := 7) (k := 1) hx hb hts iX7 hown hG hP (yi_53 hL) (yt_53 hL) rfl (by decide) w_244 (fun _ h9 => h9) rfl rfl (yr_53_1 hL) d_9_12_29 ?_
    refine lv_iload_n hx hb d_9_12_32 rfl (lv_at hl 2 rfl) ?_
    obtain ⟨ok105, h⟩ := ck_e h
    refine m_ia hx hb hG hP (yi_54 hL) (yt_54 hL) ok105 d_9_12_33 ?_
    refine lv_aload_n hx hb d_9_12_34 rfl (lv_at hl 0 rfl) ?_
    refine m_gr (j := 54) (C := "Ballothall$Lists") (T := TX7) (N := 11) (ci := 7) (k := 1) hx hb hts iX7 hown hG hP (yi_53 hL) (yt_53 hL) rfl (by decide) w_244 (fun _ h9 => h9) rfl rfl (yr_53_1 hL) d_9_12_35 ?_
    refine lv_iload_n hx hb d_9_12_38 rfl (lv_at hl 3 rfl) ?_
    obtain ⟨ok106, h⟩ := ck_e h
    refine m_ia hx hb hG hP (yi_54 hL) (yt_54 hL) ok106 d_9_12_39 ?_
    obtain ⟨ok107, h⟩ := ck_e h
    obtain ⟨ok108, h⟩ := ck_e h
    refine lv_icmp_le (tgt := 70) hx hb d_9_12_40 (by decide) (fun c9 => ?_) (fun c9 => ?_)
    · have h := ite_t ((oI_le (a := (M 54 x2.toNat)) (b := (M 54 x3.toNat)) ok107 ok108).mp c9) h
      refine lv_iinc (v := oI (x3 + 1)) (lv' := [(3, .int (oI (x3 + 1))), (0, .ref (ad 53)), (1, .ref (ad q1)), (2, .int (oI x2))]) hx hb d_9_12_70 hl (k := 3) rfl (oI_add x3 1) (by decide) rfl (fun ls hl => ?_)
      refine lv_goto (tgt := 20) hx hb d_9_12_73 (by decide) ?_
      obtain ⟨rfl, rfl⟩ := in2 h
      exact k0 rfl H locs ls hP hD hS (lv_sub hl [1, 2, 3, 0] rfl)
    · have h := ite_f (fun q => c9 ((oI_le (a := (M 54 x2.toNat)) (b := (M 54 x3.toNat)) ok107 ok108).mpr q)) h
      refine lv_aload_n hx hb d_9_12_43 rfl (lv_at hl 1 rfl) ?_
      refine lv_iload_n hx hb d_9_12_44 rfl (lv_at hl 2 rfl) ?_
      obtain ⟨ok109, h⟩ := ck_e h
      refine m_ia hx hb hG hP h_q1.1 (isIA_T h_q1) ok109 d_9_12_45 ?_
      refine lv_aload_n hx hb d_9_12_46 rfl (lv_at hl 1 rfl) ?_
      refine lv_iload_n hx hb d_9_12_47 rfl (lv_at hl 3 rfl) ?_
      obtain ⟨ok110, h⟩ := ck_e h
      refine m_ia hx hb hG hP h_q1.1 (isIA_T h_q1) ok110 d_9_12_48 ?_
      obtain ⟨ok111, h⟩ := ck_e h
      obtain ⟨ok112, h⟩ := ck_e h
      refine lv_icmp_ge (tgt := 70) hx hb d_9_12_49 (by decide) (fun c9 => ?_) (fun c9 => ?_)
      · have h := ite_t ((oI_le (a := (M q1 x3.toNat)) (b := (M q1 x2.toNat)) ok112 ok111).mp c9) h
        refine lv_iinc (v := oI (x3 + 1)) (lv' := [(3, .int (oI (x3 + 1))), (0, .ref (ad 53)), (1, .ref (ad q1)), (2, .int (oI x2))]) hx hb d_9_12_70 hl (k := 3) rfl (oI_add x3 1) (by decide) rfl (fun ls hl => ?_)
        refine lv_goto (tgt := 20) hx hb d_9_12_73 (by decide) ?_
        obtain ⟨rfl, rfl⟩ := in2 h
        exact k0 rfl H locs ls hP hD hS (lv_sub hl [1, 2, 3, 0] rfl)
      · have h := ite_f (fun q => c9 ((oI_le (a := (M q1 x3.toNat)) (b := (M q1 x2.toNat)) ok112 ok111).mpr q)) h
        refine lv_aload_n hx hb d_9_12_52 rfl (lv_at hl 0 rfl) ?_
        refine lv_iload_n hx hb d_9_12_53 rfl (lv_at hl 2 rfl) ?_
        obtain ⟨r113, g113, h⟩ := bd_e h
        refine kV (As := [.int (oI x2)]) (rest := []) (s_Li_isAsThen l z ad E M x2 r113 hL g113) hx hb hml hown hts w_588 w_585 w_587 w_s_e4f459 w_5 md_7b5a11 ⟨Nat.le_of_ble_eq_true rfl, Nat.le_of_ble_eq_true rfl⟩ hG hZ hP hD hS hA 53 (wv_o (ci := 7) (yi_53 hL) (yt_53 hL)) rfl rfl rfl hl.1 rfl (Nat.le_of_ble_eq_true rfl) d_9_12_54 ⟨Nat.le_of_ble_eq_true rfl, Nat.le_of_ble_eq_true rfl⟩ (fun _ H locs hP hD hS => ?_)
        have hP : va_P z.1 classes (wv z ad E M) H := hP
        have hD : va_D A (wv z ad E M) := hD
        refine W.eq (g2 := F0 m 57 ls [.int (oI r113)]) rfl ?_
        obtain ⟨ok114, h⟩ := ck_e h
        refine lv_if_eq (tgt := 70) hx hb d_9_12_57 (by decide) (fun c9 => ?_) (fun c9 => ?_)
        · have h := ite_t ((oI_eq0 ok114).mp c9) h
          refine lv_iinc (v := oI (x3 + 1)) (lv' := [(3, .int (oI (x3 + 1))), (0, .ref (ad 53)), (1, .ref (ad q1)), (2, .int (oI x2))]) hx hb d_9_12_70 hl (k := 3) rfl (oI_add x3 1) (by decide) rfl (fun ls hl => ?_)
          refine lv_goto (tgt := 20) hx hb d_9_12_73 (by decide) ?_
          obtain ⟨rfl, rfl⟩ := in2 h
          exact k0 rfl H locs ls hP hD hS (lv_sub hl [1, 2, 3, 0] rfl)
        · have h := ite_f (fun q => c9 ((oI_eq0 ok114).mpr q)) h
          refine lv_aload_n hx hb d_9_12_60 rfl (lv_at hl 0 rfl) ?_
          refine lv_iload_n hx hb d_9_12_61 rfl (lv_at hl 3 rfl) ?_
          obtain ⟨r115, g115, h⟩ := bd_e h
          refine kV (As := [.int (oI x3)]) (rest := []) (s_Li_isAsThen l z ad E M x3 r115 hL g115) hx hb hml hown hts w_588 w_585 w_587 w_s_e4f459 w_5 md_7b5a11 ⟨Nat.le_of_ble_eq_true rfl, Nat.le_of_ble_eq_true rfl⟩ hG hZ hP hD hS hA 53 (wv_o (ci := 7) (yi_53 hL) (yt_53 hL)) rfl rfl rfl hl.1 rfl (Nat.le_of_ble_eq_true rfl) d_9_12_62 ⟨Nat.le_of_ble_eq_true rfl, Nat.le_of_ble_eq_true rfl⟩ (fun _ H locs hP hD hS => ?_)
          have hP : va_P z.1 classes (wv z ad E M) H := hP
          have hD : va_D A (wv z ad E M) := hD
          refine W.eq (g2 := F0 m 65 ls [.int (oI r115)]) rfl ?_
          obtain ⟨ok116, h⟩ := ck_e h
          refine lv_if_eq (tgt := 70) hx hb d_9_12_65 (by decide) (fun c9 => ?_) (fun c9 => ?_)
          · have h := ite_t ((oI_eq0 ok116).mp c9) h
            refine lv_iinc (v := oI (x3 + 1)) (lv' := [(3, .int (oI (x3 + 1))), (0, .ref (ad 53)), (1, .ref (ad q1)), (2, .int (oI x2))]) hx hb d_9_12_70 hl (k := 3) rfl (oI_add x3 1) (by decide) rfl (fun ls hl => ?_)
            refine lv_goto (tgt := 20) hx hb d_9_12_73 (by decide) ?_
            obtain ⟨rfl, rfl⟩ := in2 h
            exact k0 rfl H locs ls hP hD hS (lv_sub hl [1, 2, 3, 0] rfl)
          · have h := ite_f (fun q => c9 ((oI_eq0 ok116).mpr q)) h
            obtain ⟨rfl, rfl⟩ := in2 h
            exact k1 rfl H locs ls hP hD hS (lv_sub hl [] rfl)
set_option maxRecDepth 100000 in
set_option maxHeartbeats 4000000 in
theorem s_Li_isUnjust_20 (l : Launch) (z : Zz) (ad : Nat → Nat) (E : Ev) (q1 : Nat) (x2 : Int) {Q : State → Prop} {p : Program} {e : Env} {s : State} {m : MethodId} {below : List Frame} {meth : Method} {c : Code} {A : Nat → Prop} {args : Array Value} (hx : p.tables.exec = Jvm.exec) (hb : c.code = prog_9_method_12_code) (hml : c.maxLocals = 4) (hts : ∀ w ∈ WG, w.before args s = true) (hown : s.vm.findClass "Ballothall$Lists" = some m.cls) (hlocks : meth.locks = false) (hA : ∀ q, s.heap.size ≤ q → A q) (hG : KG z s) (hZ : FZ z A s) (hL : Lay E) : ∀ (fu : Nat) (M : Mm) (x3 : Int) (t : Nat) (w3 : Int), l_Li_isUnjust_20 E q1 x2 fu M x3 = some (t, w3) → (t = 1 → ∀ (H : Heap) (locs : List Loc) (ls : Array Slot), va_P z.1 classes (wv z ad E M) H → va_D A (wv z ad E M) → va_S A s.heap H locs → lv_has ls 4 [] → W p l e (rmK 2 62 0 0) s m args below meth c H locs 0 0 Q (F0 m 68 ls [])) → (t = 2 → ∀ (H : Heap) (locs : List Loc) (ls : Array Slot), va_P z.1 classes (wv z ad E M) H → va_D A (wv z ad E M) → va_S A s.heap H locs → lv_has ls 4 [(0, .ref (ad 53)), (1, .ref (ad q1)), (2, .int (oI x2))] → W p l e (rmK 2 62 0 0) s m args below meth c H locs 0 0 Q (F0 m 76 ls [])) → ∀ (H : Heap) (locs : List Loc) (ls : Array Slot), va_P z.1 classes (wv z ad E M) H → va_D A (wv z ad E M) → va_S A s.heap H locs → lv_has ls 4 [(0, .ref (ad 53)), (1, .ref (ad q1)), (2, .int (oI x2)), (3, .int (oI x3))] → W p l e (rmK 2 62 0 0) s m args below meth c H locs 0 0 Q (F0 m 20 ls []) := by
  intro fu
  induction fu with
  | zero =>
    intro M x3 t w3 h
    have h : (none : Option (Nat × Int)) = some _ := h
    cases h
  | succ fu ih =>
    intro M x3 t w3 h k1 k2 H locs ls hP hD hS hl
    obtain ⟨⟨t0, w30⟩, g0, h⟩ := bd_e h
    refine b_Li_isUnjust_20b l z ad E M q1 x2 x3 t0 w30 hx hb hml hts hown hlocks hA hG hZ hL g0 (fun e0 => ?_) (fun e0 => ?_) (fun e0 => ?_) H locs ls hP hD hS hl
    · subst e0
      have h := ite_t rfl h
      exact ih M w30 t w3 h k1 k2
    · subst e0
      have h := ite_f (by decide) h
      obtain ⟨rfl, rfl⟩ := in2 h
      exact k1 rfl
    · subst e0
      have h := ite_f (by decide) h
      obtain ⟨rfl, rfl⟩ := in2 h
      exact k2 rfl
set_option maxRecDepth 100000 in
set_option maxHeartbeats 4000000 in
theorem b_Li_isUnjust_10b (l : Launch) (z : Zz) (ad : Nat → Nat) (E : Ev) (M : Mm) (q1 : Nat) (x2 : Int) (t : Nat) (w2 : Int)  {Q : State → Prop} {p : Program} {e : Env} {s : State} {m : MethodId} {below : List Frame} {meth : Method} {c : Code} {A : Nat → Prop} {args : Array Value} (hx : p.tables.exec = Jvm.exec) (hb : c.code = prog_9_method_12_code) (hml : c.maxLocals = 4) (hts : ∀ w ∈ WG, w.before args s = true) (hown : s.vm.findClass "Ballothall$Lists" = some m.cls) (hlocks : meth.locks = false) (hA : ∀ q, s.heap.size ≤ q → A q) (hG : KG z s) (hZ : FZ z A s) (hL : Lay E) (h : Li_isUnjust_10b E M q1 x2 = some (t, w2)) (k0 : t = 0 → ∀ (H : Heap) (locs : List Loc) (ls : Array Slot), va_P z.1 classes (wv z ad E M) H → va_D A (wv z ad E M) → va_S A s.heap H locs → lv_has ls 4 [(0, .ref (ad 53)), (1, .ref (ad q1)), (2, .int (oI w2))] → W p l e (rmK 2 62 0 0) s m args below meth c H locs 0 0 Q (F0 m 10 ls [])) (k1 : t = 1 → ∀ (H : Heap) (locs : List Loc) (ls : Array Slot), va_P z.1 classes (wv z ad E M) H → va_D A (wv z ad E M) → va_S A s.heap H locs → lv_has ls 4 [] → W p l e (rmK 2 62 0 0) s m args below meth c H locs 0 0 Q (F0 m 68 ls [])) (k2 : t = 2 → ∀ (H : Heap) (locs : List Loc) (ls : Array Slot), va_P z.1 classes (wv z ad E M) H → va_D A (wv z ad E M) → va_S A s.heap H locs → lv_has ls 4 [] → W p l e (rmK 2 62 0 0) s m args below meth c H locs 0 0 Q (F0 m 82 ls [])) : ∀ (H : Heap) (locs : List Loc) (ls : Array Slot), va_P z.1 classes (wv z ad E M) H → va_D A (wv z ad E M) → va_S A s.heap H locs → lv_has ls 4 [(0, .ref (ad 53)), (1, .ref (ad q1)), (2, .int (oI x2))] → W p l e (rmK 2 62 0 0) s m args below meth c H locs 0 0 Q (F0 m 10 ls []) := by
  intro H locs ls hP hD hS hl
  unfold Li_isUnjust_10b at h
  obtain ⟨h_q1, h⟩ := ck_e h
  refine lv_iload_n hx hb d_9_12_10 rfl (lv_at hl 2 rfl) ?_
  refine lv_aload_n hx hb d_9_12_11 rfl (lv_at hl 0 rfl) ?_
  refine m_gi (C := "Ballothall$Lists") (T := TX7) (N := 11) (ci := 7) (k := 0) hx hb hts iX7 hown hG hP (yi_53 hL) (yt_53 hL) rfl (by decide) w_242 (fun _ h9 => h9) rfl rfl d_9_12_12 ?_
  obtain ⟨ok101, h⟩ := ck_e h
  obtain ⟨ok102, h⟩ := ck_e h
  refine lv_icmp_ge (tgt := 82) hx hb d_9_12_15 (by decide) (fun c9 => ?_) (fun c9 => ?_)
  · have h := ite_t ((oI_le (a := (M 53 0)) (b := x2) ok102 ok101).mp c9) h
    obtain ⟨rfl, rfl⟩ := in2 h
    exact k2 rfl H locs ls hP hD hS (lv_sub hl [] rfl)
  · have h := ite_f (fun q => c9 ((oI_le (a := (M 53 0)) (b := x2) ok102 ok101).mpr q)) h
    refine lv_iconst (v := oI 0) hx hb d_9_12_18 (by decide +kernel) ?_
    refine lv_istore_n (lv' := [(3, .int (oI 0)), (0, .ref (ad 53)), (1, .ref (ad q1)), (2, .int (oI x2))]) hx hb d_9_12_19 rfl hl (by decide) rfl (fun ls hl => ?_)
    obtain ⟨⟨t117, v117_3⟩, g117, h⟩ := bd_e h
    refine s_Li_isUnjust_20 l z ad E q1 x2 hx hb hml hts hown hlocks hA hG hZ hL FU M 0 t117 v117_3 g117 (fun e117 H locs ls hP hD hS hl => ?_) (fun e117 H locs ls hP hD hS hl => ?_) H locs ls hP hD hS (lv_sub hl [1, 2, 3, 0] rfl)
    · subst e117
      have h := ite_t rfl h
      obtain ⟨rfl, rfl⟩ := in2 h
      exact k1 rfl H locs ls hP hD hS (lv_sub hl [] rfl)
    · subst e117
      have h := ite_f (by decide) h
      have h := ite_t rfl h
      refine lv_iinc (v := oI (x2 + 1)) (lv' := [(2, .int (oI (x2 + 1))), (0, .ref (ad 53)), (1, .ref (ad q1))]) hx hb d_9_12_76 hl (k := 2) rfl (oI_add x2 1) (by decide) rfl (fun ls hl => ?_)
      refine lv_goto (tgt := 10) hx hb d_9_12_79 (by decide) ?_
      obtain ⟨rfl, rfl⟩ := in2 h
      exact k0 rfl H locs ls hP hD hS (lv_sub hl [1, 2, 0] rfl)
set_option maxRecDepth 100000 in
set_option maxHeartbeats 4000000 in
theorem s_Li_isUnjust_10 (l : Launch) (z : Zz) (ad : Nat → Nat) (E : Ev) (q1 : Nat) {Q : State → Prop} {p : Program} {e : Env} {s : State} {m : MethodId} {below : List Frame} {meth : Method} {c : Code} {A : Nat → Prop} {args : Array Value} (hx : p.tables.exec = Jvm.exec) (hb : c.code = prog_9_method_12_code) (hml : c.maxLocals = 4) (hts : ∀ w ∈ WG, w.before args s = true) (hown : s.vm.findClass "Ballothall$Lists" = some m.cls) (hlocks : meth.locks = false) (hA : ∀ q, s.heap.size ≤ q → A q) (hG : KG z s) (hZ : FZ z A s) (hL : Lay E) : ∀ (fu : Nat) (M : Mm) (x2 : Int) (t : Nat) (w2 : Int), l_Li_isUnjust_10 E q1 fu M x2 = some (t, w2) → (t = 1 → ∀ (H : Heap) (locs : List Loc) (ls : Array Slot), va_P z.1 classes (wv z ad E M) H → va_D A (wv z ad E M) → va_S A s.heap H locs → lv_has ls 4 [] → W p l e (rmK 2 62 0 0) s m args below meth c H locs 0 0 Q (F0 m 68 ls [])) → (t = 2 → ∀ (H : Heap) (locs : List Loc) (ls : Array Slot), va_P z.1 classes (wv z ad E M) H → va_D A (wv z ad E M) → va_S A s.heap H locs → lv_has ls 4 [] → W p l e (rmK 2 62 0 0) s m args below meth c H locs 0 0 Q (F0 m 82 ls [])) → ∀ (H : Heap) (locs : List Loc) (ls : Array Slot), va_P z.1 classes (wv z ad E M) H → va_D A (wv z ad E M) → va_S A s.heap H locs → lv_has ls 4 [(0, .ref (ad 53)), (1, .ref (ad q1)), (2, .int (oI x2))] → W p l e (rmK 2 62 0 0) s m args below meth c H locs 0 0 Q (F0 m 10 ls []) := by
  intro fu
  induction fu with
  | zero =>
    intro M x2 t w2 h
    have h : (none : Option (Nat × Int)) = some _ := h
    cases h
  | succ fu ih =>
    intro M x2 t w2 h k1 k2 H locs ls hP hD hS hl
    obtain ⟨⟨t0, w20⟩, g0, h⟩ := bd_e h
    refine b_Li_isUnjust_10b l z ad E M q1 x2 t0 w20 hx hb hml hts hown hlocks hA hG hZ hL g0 (fun e0 => ?_) (fun e0 => ?_) (fun e0 => ?_) H locs ls hP hD hS hl
    · subst e0
      have h := ite_t rfl h
      exact ih M w20 t w2 h k1 k2
    · subst e0
      have h := ite_f (by decide) h
      obtain ⟨rfl, rfl⟩ := in2 h
      exact k1 rfl
    · subst e0
      have h := ite_f (by decide) h
      obtain ⟨rfl, rfl⟩ := in2 h
      exact k2 rfl
set_option maxRecDepth 100000 in
set_option maxHeartbeats 4000000 in
theorem s_Li_isUnjust (l : Launch) (z : Zz) (ad : Nat → Nat) (E : Ev) (M : Mm) (r : Int)  (hL : Lay E) (h : f_Li_isUnjust E M = some r) : CT l z ⟨"Ballothall$Lists", "isUnjust", "()Z"⟩ prog_9_method_12_code 4 (some .boolean) [.ref (ad 53)] (wv z ad E M) 2 62 0 0 (fun _ => some (.int (oI r))) (fun _ => (wv z ad E M)) := by
  refine CT.of (own := "Ballothall$Lists") (by decide +kernel) (Nat.le_of_ble_eq_true rfl) rfl (fun p e s m below meth c A ls hx hb hml hr hts hown hlocks hin hA hG hZ hP hD hS hl => ?_)
  have hl : lv_has ls 4 [(0, .ref (ad 53))] := hl
  have key : ∀ (H : Heap) (locs : List Loc) (args : Array Value), (∀ w ∈ WG, w.before args s = true) → va_P z.1 classes (wv z ad E M) H → va_S A s.heap H locs → W p l e (rmK 2 62 0 0) s m args below meth c H locs 0 0 (MQ below (QK z A (fun _ => some (.int (oI r))) (fun _ => (wv z ad E M))) args s 0 0 A) (F0 m 0 ls []) := by
    intro H locs args hts hP hS
    unfold f_Li_isUnjust at h
    refine lv_aload_n hx hb d_9_12_0 rfl (lv_at hl 0 rfl) ?_
    obtain ⟨r100, g100, h⟩ := bd_e h
    refine kV (As := []) (rest := []) (s_Li_latest l z ad E M r100 hL g100) hx hb hml hown hts w_584 w_581 w_583 w_s_46c41a w_5 md_cb0049 ⟨Nat.le_of_ble_eq_true rfl, Nat.le_of_ble_eq_true rfl⟩ hG hZ hP hD hS hA 53 (wv_o (ci := 7) (yi_53 hL) (yt_53 hL)) rfl rfl rfl hl.1 rfl (Nat.le_of_ble_eq_true rfl) d_9_12_1 ⟨Nat.le_of_ble_eq_true rfl, Nat.le_of_ble_eq_true rfl⟩ (fun _ H locs hP hD hS => ?_)
    have hP : va_P z.1 classes (wv z ad E M) H := hP
    have hD : va_D A (wv z ad E M) := hD
    obtain ⟨h_r100, h⟩ := ck_e h
    refine W.eq (g2 := F0 m 4 ls [.ref (ad r100)]) rfl ?_
    refine m_grN (j := (r100 + 2)) (C := "Ballothall$KeptSeats") (T := TX6) (N := 7) (ci := 6) (k := 4) hx hb hts iX6 hown hG hP (isKs_i h_r100) (isKs_T h_r100) rfl (by decide) n_221 rfl (fun _ h9 => h9) rfl rfl (isKs_r4 h_r100) d_9_12_4 ?_
    refine lv_astore_n (lv' := [(1, .ref (ad (r100 + 2))), (0, .ref (ad 53))]) hx hb d_9_12_7 rfl hl (by decide) rfl (fun ls hl => ?_)
    refine lv_iconst (v := oI 0) hx hb d_9_12_8 (by decide +kernel) ?_
    refine lv_istore_n (lv' := [(2, .int (oI 0)), (1, .ref (ad (r100 + 2))), (0, .ref (ad 53))]) hx hb d_9_12_9 rfl hl (by decide) rfl (fun ls hl => ?_)
    obtain ⟨⟨t118, v118_2⟩, g118, h⟩ := bd_e h
    refine s_Li_isUnjust_10 l z ad E (r100 + 2) hx hb hml hts hown hlocks hA hG hZ hL FU M 0 t118 v118_2 g118 (fun e118 H locs ls hP hD hS hl => ?_) (fun e118 H locs ls hP hD hS hl => ?_) H locs ls hP hD hS (lv_sub hl [2, 1, 0] rfl)
    · subst e118
      have h := ite_t rfl h
      refine lv_iconst (v := oI 1) hx hb d_9_12_68 (by decide +kernel) ?_
      obtain rfl := in1 h
      exact W.zret hx hb hr rfl (fun t ht hW => qkA hP hD hS (fun k => k) rfl rfl ht) hS.2.2 d_9_12_69
    · subst e118
      have h := ite_f (by decide) h
      have h := ite_t rfl h
      refine lv_iconst (v := oI 0) hx hb d_9_12_82 (by decide +kernel) ?_
      obtain rfl := in1 h
      exact W.zret hx hb hr rfl (fun t ht hW => qkA hP hD hS (fun k => k) rfl rfl ht) hS.2.2 d_9_12_83
  exact key _ _ _ hts hP hS
set_option maxRecDepth 100000 in
set_option maxHeartbeats 4000000 in
theorem b_Co_unbalancedSteps_28b (l : Launch) (z : Zz) (ad : Nat → Nat) (E : Ev) (M : Mm) (q1 : Nat) (x2 : Int) (x3 : Int) (x4 : Int) (t : Nat) (w4 : Int) (N : Mm) {Q : State → Prop} {p : Program} {e : Env} {s : State} {m : MethodId} {below : List Frame} {meth : Method} {c : Code} {A : Nat → Prop} {args : Array Value} (hx : p.tables.exec = Jvm.exec) (hb : c.code = prog_5_method_20_code) (hml : c.maxLocals = 5) (hts : ∀ w ∈ WG, w.before args s = true) (hown : s.vm.findClass "Ballothall$Counting" = some m.cls) (hlocks : meth.locks = false) (hA : ∀ q, s.heap.size ≤ q → A q) (hG : KG z s) (hZ : FZ z A s) (hL : Lay E) (h : Co_unbalancedSteps_28b E M q1 x2 x3 x4 = some (t, w4, N)) (k0 : t = 0 → ∀ (H : Heap) (locs : List Loc) (ls : Array Slot), va_P z.1 classes (wv z ad E N) H → va_D A (wv z ad E N) → va_S A s.heap H locs → lv_has ls 5 [(0, .ref (ad 179)), (1, .ref (ad q1)), (2, .int (oI x2)), (3, .int (oI x3)), (4, .int (oI w4))] → W p l e (rmK 4 106 0 0) s m args below meth c H locs 0 0 Q (F0 m 28 ls [])) (k1 : t = 1 → ∀ (H : Heap) (locs : List Loc) (ls : Array Slot), va_P z.1 classes (wv z ad E N) H → va_D A (wv z ad E N) → va_S A s.heap H locs → lv_has ls 5 [(0, .ref (ad 179)), (1, .ref (ad q1)), (2, .int (oI x2)), (3, .int (oI x3))] → W p l e (rmK 4 106 0 0) s m args below meth c H locs 0 0 Q (F0 m 60 ls [])) : ∀ (H : Heap) (locs : List Loc) (ls : Array Slot), va_P z.1 classes (wv z ad E M) H → va_D A (wv z ad E M) → va_S A s.heap H locs → lv_has ls 5 [(0, .ref (ad 179)), (1, .ref (ad q1)), (2, .int (oI x2)), (3, .int (oI x3)), (4, .int (oI x4))] → W p l e (rmK 4 106 0 0) s m args below meth c H locs 0 0 Q (F0 m 28 ls []) := by
  intro H locs ls hP hD hS hl
  unfold Co_unbalancedSteps_28b at h
  obtain ⟨h_q1, h⟩ := ck_e h
  refine lv_iload hx hb d_5_20_28 (lv_at hl 4 rfl) ?_
  refine lv_bipush (v := oI 9) hx hb d_5_20_30 (by decide +kernel) ?_
  obtain ⟨ok103, h⟩ := ck_e h
  refine lv_icmp_ge (tgt := 60) hx hb d_5_20_32 (by decide) (fun c9 => ?_) (fun c9 => ?_)
  · have h := ite_t ((oI_le (a := (9 : Int)) (b := x4) (by decide) ok103).mp c9) h
    obtain ⟨rfl, rfl, rfl⟩ := in3 h
    exact k1 rfl H locs ls hP hD hS (lv_sub hl [0, 1, 2, 3] rfl)
  · have h := ite_f (fun q => c9 ((oI_le (a := (9 : Int)) (b := x4) (by decide) ok103).mpr q)) h
    refine lv_aload_n hx hb d_5_20_35 rfl (lv_at hl 0 rfl) ?_
    refine lv_aload_n hx hb d_5_20_36 rfl (lv_at hl 1 rfl) ?_
    refine lv_iload_n hx hb d_5_20_37 rfl (lv_at hl 3 rfl) ?_
    refine lv_iload hx hb d_5_20_38 (lv_at hl 4 rfl) ?_
    obtain ⟨M104, g104, h⟩ := bd_e h
    refine kV (As := [.ref (ad q1), .int (oI x3), .int (oI x4)]) (rest := []) (s_Co_loadPile l z ad E M q1 x3 x4 M104 hL g104) hx hb hml hown hts w_609 w_606 w_608 w_s_1f7bc1 w_8 md_01358e ⟨Nat.le_of_ble_eq_true rfl, Nat.le_of_ble_eq_true rfl⟩ hG hZ hP hD hS hA 179 (wv_o (ci := 3) (yi_179 hL) (yt_179 hL)) rfl rfl rfl hl.1 rfl (Nat.le_of_ble_eq_true rfl) d_5_20_40 ⟨Nat.le_of_ble_eq_true rfl, Nat.le_of_ble_eq_true rfl⟩ (fun _ H locs hP hD hS => ?_)
    have hP : va_P z.1 classes (wv z ad E M104) H := hP
    have hD : va_D A (wv z ad E M104) := hD
    refine W.eq (g2 := F0 m 43 ls []) rfl ?_
    refine lv_aload_n hx hb d_5_20_43 rfl (lv_at hl 0 rfl) ?_
    refine m_gr (j := 185) (C := "Ballothall$Counting") (T := TX3) (N := 15) (ci := 3) (k := 7) hx hb hts iX3 hown hG hP (yi_179 hL) (yt_179 hL) rfl (by decide) w_310 (fun _ h9 => h9) rfl rfl (yr_179_7 hL) d_5_20_44 ?_
    refine lv_aload_n hx hb d_5_20_47 rfl (lv_at hl 0 rfl) ?_
    refine m_gr (j := 189) (C := "Ballothall$Counting") (T := TX3) (N := 15) (ci := 3) (k := 9) hx hb hts iX3 hown hG hP (yi_179 hL) (yt_179 hL) rfl (by decide) w_312 (fun _ h9 => h9) rfl rfl (yr_179_9 hL) d_5_20_48 ?_
    obtain ⟨M105, g105, h⟩ := bd_e h
    refine kVN (As := [.ref (ad 189)]) (rest := []) (s_Na_add l z ad E M104 185 189 M105 hL g105) hx hb hml hown hts w_630 n_627 w_629 w_s_f38dc3 w_9 md_c50573 ⟨Nat.le_of_ble_eq_true rfl, Nat.le_of_ble_eq_true rfl⟩ hG hZ hP hD hS hA 185 (wv_o (ci := 8) (yi_185 hL) (yt_185 hL)) rfl rfl rfl hl.1 rfl (Nat.le_of_ble_eq_true rfl) d_5_20_51 ⟨Nat.le_of_ble_eq_true rfl, Nat.le_of_ble_eq_true rfl⟩ (fun _ H locs hP hD hS => ?_)
    have hP : va_P z.1 classes (wv z ad E M105) H := hP
    have hD : va_D A (wv z ad E M105) := hD
    refine W.eq (g2 := F0 m 54 ls []) rfl ?_
    refine lv_iinc (v := oI (x4 + 1)) (lv' := [(4, .int (oI (x4 + 1))), (0, .ref (ad 179)), (1, .ref (ad q1)), (2, .int (oI x2)), (3, .int (oI x3))]) hx hb d_5_20_54 hl (k := 4) rfl (oI_add x4 1) (by decide) rfl (fun ls hl => ?_)
    refine lv_goto (tgt := 28) hx hb d_5_20_57 (by decide) ?_
    obtain ⟨rfl, rfl, rfl⟩ := in3 h
    exact k0 rfl H locs ls hP hD hS (lv_sub hl [1, 2, 3, 4, 0] rfl)
set_option maxRecDepth 100000 in
set_option maxHeartbeats 4000000 in
theorem s_Co_unbalancedSteps_28 (l : Launch) (z : Zz) (ad : Nat → Nat) (E : Ev) (q1 : Nat) (x2 : Int) (x3 : Int) {Q : State → Prop} {p : Program} {e : Env} {s : State} {m : MethodId} {below : List Frame} {meth : Method} {c : Code} {A : Nat → Prop} {args : Array Value} (hx : p.tables.exec = Jvm.exec) (hb : c.code = prog_5_method_20_code) (hml : c.maxLocals = 5) (hts : ∀ w ∈ WG, w.before args s = true) (hown : s.vm.findClass "Ballothall$Counting" = some m.cls) (hlocks : meth.locks = false) (hA : ∀ q, s.heap.size ≤ q → A q) (hG : KG z s) (hZ : FZ z A s) (hL : Lay E) : ∀ (fu : Nat) (M : Mm) (x4 : Int) (t : Nat) (w4 : Int) (N : Mm), l_Co_unbalancedSteps_28 E q1 x2 x3 fu M x4 = some (t, w4, N) → (t = 1 → ∀ (H : Heap) (locs : List Loc) (ls : Array Slot), va_P z.1 classes (wv z ad E N) H → va_D A (wv z ad E N) → va_S A s.heap H locs → lv_has ls 5 [(0, .ref (ad 179)), (1, .ref (ad q1)), (2, .int (oI x2)), (3, .int (oI x3))] → W p l e (rmK 4 106 0 0) s m args below meth c H locs 0 0 Q (F0 m 60 ls [])) → ∀ (H : Heap) (locs : List Loc) (ls : Array Slot), va_P z.1 classes (wv z ad E M) H → va_D A (wv z ad E M) → va_S A s.heap H locs → lv_has ls 5 [(0, .ref (ad 179)), (1, .ref (ad q1)), (2, .int (oI x2)), (3, .int (oI x3)), (4, .int (oI x4))] → W p l e (rmK 4 106 0 0) s m args below meth c H locs 0 0 Q (F0 m 28 ls []) := by
  intro fu
  induction fu with
  | zero =>
    intro M x4 t w4 N h
    have h : (none : Option (Nat × Int × Mm)) = some _ := h
    cases h
  | succ fu ih =>
    intro M x4 t w4 N h k1 H locs ls hP hD hS hl
    obtain ⟨⟨t0, w40, N9⟩, g0, h⟩ := bd_e h
    refine b_Co_unbalancedSteps_28b l z ad E M q1 x2 x3 x4 t0 w40 N9 hx hb hml hts hown hlocks hA hG hZ hL g0 (fun e0 => ?_) (fun e0 => ?_) H locs ls hP hD hS hl
    · subst e0
      have h := ite_t rfl h
      exact ih N9 w40 t w4 N h k1
    · subst e0
      have h := ite_f (by decide) h
      obtain ⟨rfl, rfl, rfl⟩ := in3 h
      exact k1 rfl
set_option maxRecDepth 100000 in
set_option maxHeartbeats 4000000 in
theorem b_Co_unbalancedSteps_4b (l : Launch) (z : Zz) (ad : Nat → Nat) (E : Ev) (M : Mm) (q1 : Nat) (x2 : Int) (x3 : Int) (t : Nat) (w2 : Int) (w3 : Int) (N : Mm) {Q : State → Prop} {p : Program} {e : Env} {s : State} {m : MethodId} {below : List Frame} {meth : Method} {c : Code} {A : Nat → Prop} {args : Array Value} (hx : p.tables.exec = Jvm.exec) (hb : c.code = prog_5_method_20_code) (hml : c.maxLocals = 5) (hts : ∀ w ∈ WG, w.before args s = true) (hown : s.vm.findClass "Ballothall$Counting" = some m.cls) (hlocks : meth.locks = false) (hA : ∀ q, s.heap.size ≤ q → A q) (hG : KG z s) (hZ : FZ z A s) (hL : Lay E) (h : Co_unbalancedSteps_4b E M q1 x2 x3 = some (t, w2, w3, N)) (k0 : t = 0 → ∀ (H : Heap) (locs : List Loc) (ls : Array Slot), va_P z.1 classes (wv z ad E N) H → va_D A (wv z ad E N) → va_S A s.heap H locs → lv_has ls 5 [(0, .ref (ad 179)), (1, .ref (ad q1)), (2, .int (oI w2)), (3, .int (oI w3))] → W p l e (rmK 4 106 0 0) s m args below meth c H locs 0 0 Q (F0 m 4 ls [])) (k1 : t = 1 → ∀ (H : Heap) (locs : List Loc) (ls : Array Slot), va_P z.1 classes (wv z ad E N) H → va_D A (wv z ad E N) → va_S A s.heap H locs → lv_has ls 5 [(2, .int (oI w2))] → W p l e (rmK 4 106 0 0) s m args below meth c H locs 0 0 Q (F0 m 94 ls [])) : ∀ (H : Heap) (locs : List Loc) (ls : Array Slot), va_P z.1 classes (wv z ad E M) H → va_D A (wv z ad E M) → va_S A s.heap H locs → lv_has ls 5 [(0, .ref (ad 179)), (1, .ref (ad q1)), (2, .int (oI x2)), (3, .int (oI x3))] → W p l e (rmK 4 106 0 0) s m args below meth c H locs 0 0 Q (F0 m 4 ls []) := by
  intro H locs ls hP hD hS hl
  unfold Co_unbalancedSteps_4b at h
  obtain ⟨h_q1, h⟩ := ck_e h
  refine lv_iload_n hx hb d_5_20_4 rfl (lv_at hl 3 rfl) ?_
  refine lv_aload_n hx hb d_5_20_5 rfl (lv_at hl 1 rfl) ?_
  refine m_giN (C := "Ballothall$Count") (T := TX2) (N := 10) (ci := 2) (k := 4) hx hb hts iX2 hown hG hP (isCt_i h_q1) (isCt_T h_q1) rfl (by decide) n_1086 rfl (fun _ h9 => h9) rfl rfl d_5_20_6 ?_
  refine lv_aload_n hx hb d_5_20_9 rfl (lv_at hl 1 rfl) ?_
  refine m_giN (C := "Ballothall$Count") (T := TX2) (N := 10) (ci := 2) (k := 5) hx hb hts iX2 hown hG hP (isCt_i h_q1) (isCt_T h_q1) rfl (by decide) n_1088 rfl (fun _ h9 => h9) rfl rfl d_5_20_10 ?_
  refine lv_iadd hx hb d_5_20_13 ?_
  refine nrm (oI_add _ _) ?_
  obtain ⟨ok100, h⟩ := ck_e h
  obtain ⟨ok101, h⟩ := ck_e h
  refine lv_icmp_gt (tgt := 94) hx hb d_5_20_14 (by decide) (fun c9 => ?_) (fun c9 => ?_)
  · have h := ite_t ((oI_lt (a := ((M q1 4) + (M q1 5))) (b := x3) ok101 ok100).mp c9) h
    obtain ⟨rfl, rfl, rfl, rfl⟩ := in4 h
    exact k1 rfl H locs ls hP hD hS (lv_sub hl [2] rfl)
  · have h := ite_f (fun q => c9 ((oI_lt (a := ((M q1 4) + (M q1 5))) (b := x3) ok101 ok100).mpr q)) h
    refine lv_aload_n hx hb d_5_20_17 rfl (lv_at hl 0 rfl) ?_
    refine m_gr (j := 185) (C := "Ballothall$Counting") (T := TX3) (N := 15) (ci := 3) (k := 7) hx hb hts iX3 hown hG hP (yi_179 hL) (yt_179 hL) rfl (by decide) w_310 (fun _ h9 => h9) rfl rfl (yr_179_7 hL) d_5_20_18 ?_
    refine lv_lconst (v := oJ 0) hx hb d_5_20_21 (by decide +kernel) ?_
    obtain ⟨M102, g102, h⟩ := bd_e h
    refine kVN (As := [.long (oJ 0)]) (rest := []) (s_Na_become l z ad E M 185 0 M102 hL g102) hx hb hml hown hts w_604 n_601 w_603 w_s_5a2a50 w_9 md_34308f ⟨Nat.le_of_ble_eq_true rfl, Nat.le_of_ble_eq_true rfl⟩ hG hZ hP hD hS hA 185 (wv_o (ci := 8) (yi_185 hL) (yt_185 hL)) rfl rfl rfl hl.1 rfl (Nat.le_of_ble_eq_true rfl) d_5_20_22 ⟨Nat.le_of_ble_eq_true rfl, Nat.le_of_ble_eq_true rfl⟩ (fun _ H locs hP hD hS => ?_)
    have hP : va_P z.1 classes (wv z ad E M102) H := hP
    have hD : va_D A (wv z ad E M102) := hD
    refine W.eq (g2 := F0 m 25 ls []) rfl ?_
    refine lv_iconst (v := oI 0) hx hb d_5_20_25 (by decide +kernel) ?_
    refine lv_istore (lv' := [(4, .int (oI 0)), (0, .ref (ad 179)), (1, .ref (ad q1)), (2, .int (oI x2)), (3, .int (oI x3))]) hx hb d_5_20_26 hl (by decide) rfl (fun ls hl => ?_)
    obtain ⟨⟨t106, v106_4, M106⟩, g106, h⟩ := bd_e h
    obtain ⟨ok106, h⟩ := ck_e h
    refine s_Co_unbalancedSteps_28 l z ad E q1 x2 x3 hx hb hml hts hown hlocks hA hG hZ hL FU M102 0 t106 v106_4 M106 g106 (fun e106 H locs ls hP hD hS hl => ?_) H locs ls hP hD hS (lv_sub hl [1, 2, 3, 4, 0] rfl)
    refine lv_aload_n hx hb d_5_20_60 rfl (lv_at hl 0 rfl) ?_
    refine m_gr (j := 191) (C := "Ballothall$Counting") (T := TX3) (N := 15) (ci := 3) (k := 10) hx hb hts iX3 hown hG hP (yi_179 hL) (yt_179 hL) rfl (by decide) w_314 (fun _ h9 => h9) rfl rfl (yr_179_10 hL) d_5_20_61 ?_
    refine lv_aload_n hx hb d_5_20_64 rfl (lv_at hl 1 rfl) ?_
    refine m_giN (C := "Ballothall$Count") (T := TX2) (N := 10) (ci := 2) (k := 3) hx hb hts iX2 hown hG hP (isCt_i h_q1) (isCt_T h_q1) rfl (by decide) n_1085 rfl (fun _ h9 => h9) rfl rfl d_5_20_65 ?_
    obtain ⟨M107, g107, h⟩ := bd_e h
    refine kVN (As := [.int (oI (M106 q1 3))]) (rest := []) (s_Na_multiplySmall l z ad E M106 191 (M106 q1 3) M107 hL g107) hx hb hml hown hts w_642 n_639 w_641 w_s_f32dd6 w_9 md_664187 ⟨Nat.le_of_ble_eq_true rfl, Nat.le_of_ble_eq_true rfl⟩ hG hZ hP hD hS hA 191 (wv_o (ci := 8) (yi_191 hL) (yt_191 hL)) rfl rfl rfl hl.1 rfl (Nat.le_of_ble_eq_true rfl) d_5_20_68 ⟨Nat.le_of_ble_eq_true rfl, Nat.le_of_ble_eq_true rfl⟩ (fun _ H locs hP hD hS => ?_)
    have hP : va_P z.1 classes (wv z ad E M107) H := hP
    have hD : va_D A (wv z ad E M107) := hD
    refine W.eq (g2 := F0 m 71 ls []) rfl ?_
    refine lv_aload_n hx hb d_5_20_71 rfl (lv_at hl 0 rfl) ?_
    refine m_gr (j := 185) (C := "Ballothall$Counting") (T := TX3) (N := 15) (ci := 3) (k := 7) hx hb hts iX3 hown hG hP (yi_179 hL) (yt_179 hL) rfl (by decide) w_310 (fun _ h9 => h9) rfl rfl (yr_179_7 hL) d_5_20_72 ?_
    refine lv_aload_n hx hb d_5_20_75 rfl (lv_at hl 0 rfl) ?_
    refine m_gr (j := 191) (C := "Ballothall$Counting") (T := TX3) (N := 15) (ci := 3) (k := 10) hx hb hts iX3 hown hG hP (yi_179 hL) (yt_179 hL) rfl (by decide) w_314 (fun _ h9 => h9) rfl rfl (yr_179_10 hL) d_5_20_76 ?_
    obtain ⟨r108, g108, h⟩ := bd_e h
    refine kVN (As := [.ref (ad 191)]) (rest := []) (s_Na_compareWith l z ad E M107 185 191 r108 hL g108) hx hb hml hown hts w_646 n_643 w_645 w_s_c7eea3 w_9 md_c6b535 ⟨Nat.le_of_ble_eq_true rfl, Nat.le_of_ble_eq_true rfl⟩ hG hZ hP hD hS hA 185 (wv_o (ci := 8) (yi_185 hL) (yt_185 hL)) rfl rfl rfl hl.1 rfl (Nat.le_of_ble_eq_true rfl) d_5_20_79 ⟨Nat.le_of_ble_eq_true rfl, Nat.le_of_ble_eq_true rfl⟩ (fun _ H locs hP hD hS => ?_)
    have hP : va_P z.1 classes (wv z ad E M107) H := hP
    have hD : va_D A (wv z ad E M107) := hD
    refine W.eq (g2 := F0 m 82 ls [.int (oI r108)]) rfl ?_
    obtain ⟨ok109, h⟩ := ck_e h
    refine lv_if_eq (tgt := 88) hx hb d_5_20_82 (by decide) (fun c9 => ?_) (fun c9 => ?_)
    · have h := ite_t ((oI_eq0 ok109).mp c9) h
      refine lv_iinc (v := oI (x3 + 1)) (lv' := [(3, .int (oI (x3 + 1))), (0, .ref (ad 179)), (1, .ref (ad q1)), (2, .int (oI x2))]) hx hb d_5_20_88 hl (k := 3) rfl (oI_add x3 1) (by decide) rfl (fun ls hl => ?_)
      refine lv_goto (tgt := 4) hx hb d_5_20_91 (by decide) ?_
      obtain ⟨rfl, rfl, rfl, rfl⟩ := in4 h
      exact k0 rfl H locs ls hP hD hS (lv_sub hl [1, 2, 3, 0] rfl)
    · have h := ite_f (fun q => c9 ((oI_eq0 ok109).mpr q)) h
      refine lv_iinc (v := oI (x2 + 1)) (lv' := [(2, .int (oI (x2 + 1))), (0, .ref (ad 179)), (1, .ref (ad q1)), (3, .int (oI x3))]) hx hb d_5_20_85 hl (k := 2) rfl (oI_add x2 1) (by decide) rfl (fun ls hl => ?_)
      refine lv_iinc (v := oI (x3 + 1)) (lv' := [(3, .int (oI (x3 + 1))), (2, .int (oI (x2 + 1))), (0, .ref (ad 179)), (1, .ref (ad q1))]) hx hb d_5_20_88 hl (k := 3) rfl (oI_add x3 1) (by decide) rfl (fun ls hl => ?_)
      refine lv_goto (tgt := 4) hx hb d_5_20_91 (by decide) ?_
      obtain ⟨rfl, rfl, rfl, rfl⟩ := in4 h
      exact k0 rfl H locs ls hP hD hS (lv_sub hl [2, 3, 1, 0] rfl)
set_option maxRecDepth 100000 in
set_option maxHeartbeats 4000000 in
theorem s_Co_unbalancedSteps_4 (l : Launch) (z : Zz) (ad : Nat → Nat) (E : Ev) (q1 : Nat) {Q : State → Prop} {p : Program} {e : Env} {s : State} {m : MethodId} {below : List Frame} {meth : Method} {c : Code} {A : Nat → Prop} {args : Array Value} (hx : p.tables.exec = Jvm.exec) (hb : c.code = prog_5_method_20_code) (hml : c.maxLocals = 5) (hts : ∀ w ∈ WG, w.before args s = true) (hown : s.vm.findClass "Ballothall$Counting" = some m.cls) (hlocks : meth.locks = false) (hA : ∀ q, s.heap.size ≤ q → A q) (hG : KG z s) (hZ : FZ z A s) (hL : Lay E) : ∀ (fu : Nat) (M : Mm) (x2 : Int) (x3 : Int) (t : Nat) (w2 : Int) (w3 : Int) (N : Mm), l_Co_unbalancedSteps_4 E q1 fu M x2 x3 = some (t, w2, w3, N) → (t = 1 → ∀ (H : Heap) (locs : List Loc) (ls : Array Slot), va_P z.1 classes (wv z ad E N) H → va_D A (wv z ad E N) → va_S A s.heap H locs → lv_has ls 5 [(2, .int (oI w2))] → W p l e (rmK 4 106 0 0) s m args below meth c H locs 0 0 Q (F0 m 94 ls [])) → ∀ (H : Heap) (locs : List Loc) (ls : Array Slot), va_P z.1 classes (wv z ad E M) H → va_D A (wv z ad E M) → va_S A s.heap H locs → lv_has ls 5 [(0, .ref (ad 179)), (1, .ref (ad q1)), (2, .int (oI x2)), (3, .int (oI x3))] → W p l e (rmK 4 106 0 0) s m args below meth c H locs 0 0 Q (F0 m 4 ls []) := by
  intro fu
  induction fu with
  | zero =>
    intro M x2 x3 t w2 w3 N h
    have h : (none : Option (Nat × Int × Int × Mm)) = some _ := h
    cases h
  | succ fu ih =>
    intro M x2 x3 t w2 w3 N h k1 H locs ls hP hD hS hl
    obtain ⟨⟨t0, w20, w30, N9⟩, g0, h⟩ := bd_e h
    refine b_Co_unbalancedSteps_4b l z ad E M q1 x2 x3 t0 w20 w30 N9 hx hb hml hts hown hlocks hA hG hZ hL g0 (fun e0 => ?_) (fun e0 => ?_) H locs ls hP hD hS hl
    · subst e0
      have h := ite_t rfl h
      exact ih N9 w20 w30 t w2 w3 N h k1
    · subst e0
      have h := ite_f (by decide) h
      obtain ⟨rfl, rfl, rfl, rfl⟩ := in4 h
      exact k1 rfl
set_option maxRecDepth 100000 in
set_option maxHeartbeats 4000000 in
theorem s_Co_unbalancedSteps (l : Launch) (z : Zz) (ad : Nat → Nat) (E : Ev) (M : Mm) (p1 : Nat) (r : Int) (N : Mm) (hL : Lay E) (h : f_Co_unbalancedSteps E M p1 = some (r, N)) : CT l z ⟨"Ballothall$Counting", "unbalancedSteps", "(LBallothall$Count;)I"⟩ prog_5_method_20_code 5 (some .int) [.ref (ad 179), .ref (ad p1)] (wv z ad E M) 4 106 0 0 (fun _ => some (.int (oI r))) (fun _ => (wv z ad E N)) := by
  refine CT.of (own := "Ballothall$Counting") (by decide +kernel) (Nat.le_of_ble_eq_true rfl) rfl (fun p e s m below meth c A ls hx hb hml hr hts hown hlocks hin hA hG hZ hP hD hS hl => ?_)
  have hl : lv_has ls 5 [(0, .ref (ad 179)), (1, .ref (ad p1))] := hl
  have key : ∀ (H : Heap) (locs : List Loc) (args : Array Value), (∀ w ∈ WG, w.before args s = true) → va_P z.1 classes (wv z ad E M) H → va_S A s.heap H locs → W p l e (rmK 4 106 0 0) s m args below meth c H locs 0 0 (MQ below (QK z A (fun _ => some (.int (oI r))) (fun _ => (wv z ad E N))) args s 0 0 A) (F0 m 0 ls []) := by
    intro H locs args hts hP hS
    unfold f_Co_unbalancedSteps at h
    obtain ⟨h_p1, h⟩ := ck_e h
    refine lv_iconst (v := oI 0) hx hb d_5_20_0 (by decide +kernel) ?_
    refine lv_istore_n (lv' := [(2, .int (oI 0)), (0, .ref (ad 179)), (1, .ref (ad p1))]) hx hb d_5_20_1 rfl hl (by decide) rfl (fun ls hl => ?_)
    refine lv_iconst (v := oI 1) hx hb d_5_20_2 (by decide +kernel) ?_
    refine lv_istore_n (lv' := [(3, .int (oI 1)), (2, .int (oI 0)), (0, .ref (ad 179)), (1, .ref (ad p1))]) hx hb d_5_20_3 rfl hl (by decide) rfl (fun ls hl => ?_)
    obtain ⟨⟨t110, v110_2, v110_3, M110⟩, g110, h⟩ := bd_e h
    obtain ⟨ok110, h⟩ := ck_e h
    refine s_Co_unbalancedSteps_4 l z ad E p1 hx hb hml hts hown hlocks hA hG hZ hL FU M 0 1 t110 v110_2 v110_3 M110 g110 (fun e110 H locs ls hP hD hS hl => ?_) H locs ls hP hD hS (lv_sub hl [2, 3, 1, 0] rfl)
    refine lv_iload_n hx hb d_5_20_94 rfl (lv_at hl 0 rfl) ?_
    obtain ⟨rfl, rfl⟩ := in2 h
    exact W.iret hx hb hr (fun t ht hW => qkA hP hD hS (fun k => k) rfl rfl ht) hS.2.2 d_5_20_95
  exact key _ _ _ hts hP hS
set_option maxRecDepth 100000 in
set_option maxHeartbeats 4000000 in
theorem b_B_countErrors_36b (l : Launch) (z : Zz) (ad : Nat → Nat) (E : Ev) (M : Mm) (q1 : Nat) (x2 : Int) (x3 : Int) (x4 : Int) (t : Nat) (w3 : Int) (w4 : Int) (N : Mm) {Q : State → Prop} {p : Program} {e : Env} {s : State} {m : MethodId} {below : List Frame} {meth : Method} {c : Code} {A : Nat → Prop} {args : Array Value} (hx : p.tables.exec = Jvm.exec) (hb : c.code = prog_1_method_65_code) (hml : c.maxLocals = 7) (hts : ∀ w ∈ WG, w.before args s = true) (hown : s.vm.findClass "Ballothall" = some m.cls) (hlocks : meth.locks = false) (hA : ∀ q, s.heap.size ≤ q → A q) (hG : KG z s) (hZ : FZ z A s) (hL : Lay E) (h : B_countErrors_36b E M q1 x2 x3 x4 = some (t, w3, w4, N)) (k0 : t = 0 → ∀ (H : Heap) (locs : List Loc) (ls : Array Slot), va_P z.1 classes (wv z ad E N) H → va_D A (wv z ad E N) → va_S A s.heap H locs → lv_has ls 7 [(0, .ref (ad 1)), (1, .ref (ad q1)), (2, .int (oI x2)), (3, .int (oI w3)), (4, .int (oI w4))] → W p l e (rmK 5 130 0 0) s m args below meth c H locs 0 0 Q (F0 m 36 ls [])) (k1 : t = 1 → ∀ (H : Heap) (locs : List Loc) (ls : Array Slot), va_P z.1 classes (wv z ad E N) H → va_D A (wv z ad E N) → va_S A s.heap H locs → lv_has ls 7 [(0, .ref (ad 1)), (1, .ref (ad q1)), (2, .int (oI x2)), (3, .int (oI w3))] → W p l e (rmK 5 130 0 0) s m args below meth c H locs 0 0 Q (F0 m 63 ls [])) : ∀ (H : Heap) (locs : List Loc) (ls : Array Slot), va_P z.1 classes (wv z ad E M) H → va_D A (wv z ad E M) → va_S A s.heap H locs → lv_has ls 7 [(0, .ref (ad 1)), (1, .ref (ad q1)), (2, .int (oI x2)), (3, .int (oI x3)), (4, .int (oI x4))] → W p l e (rmK 5 130 0 0) s m args below meth c H locs 0 0 Q (F0 m 36 ls []) := by
  intro H locs ls hP hD hS hl
  unfold B_countErrors_36b at h
  obtain ⟨h_q1, h⟩ := ck_e h
  refine lv_iload hx hb d_1_65_36 (lv_at hl 4 rfl) ?_
  refine lv_aload_n hx hb d_1_65_38 rfl (lv_at hl 1 rfl) ?_
  refine m_giN (C := "Ballothall$Count") (T := TX2) (N := 10) (ci := 2) (k := 4) hx hb hts iX2 hown hG hP (isCt_i h_q1) (isCt_T h_q1) rfl (by decide) n_1087 rfl (fun _ h9 => h9) rfl rfl d_1_65_39 ?_
  obtain ⟨ok103, h⟩ := ck_e h
  obtain ⟨ok104, h⟩ := ck_e h
  refine lv_icmp_ge (tgt := 63) hx hb d_1_65_42 (by decide) (fun c9 => ?_) (fun c9 => ?_)
  · have h := ite_t ((oI_le (a := (M q1 4)) (b := x4) ok104 ok103).mp c9) h
    obtain ⟨rfl, rfl, rfl, rfl⟩ := in4 h
    exact k1 rfl H locs ls hP hD hS (lv_sub hl [0, 1, 2, 3] rfl)
  · have h := ite_f (fun q => c9 ((oI_le (a := (M q1 4)) (b := x4) ok104 ok103).mpr q)) h
    refine lv_iload_n hx hb d_1_65_45 rfl (lv_at hl 3 rfl) ?_
    refine lv_iconst (v := oI 1) hx hb d_1_65_46 (by decide +kernel) ?_
    refine lv_aload_n hx hb d_1_65_47 rfl (lv_at hl 1 rfl) ?_
    refine m_grN (j := (q1 + 2)) (C := "Ballothall$Count") (T := TX2) (N := 10) (ci := 2) (k := 7) hx hb hts iX2 hown hG hP (isCt_i h_q1) (isCt_T h_q1) rfl (by decide) n_1095 rfl (fun _ h9 => h9) rfl rfl (isCt_r7 h_q1) d_1_65_48 ?_
    refine lv_iload hx hb d_1_65_51 (lv_at hl 4 rfl) ?_
    obtain ⟨ok105, h⟩ := ck_e h
    refine m_ia hx hb hG hP (isCt_i2 h_q1) (isCt_t2 h_q1) ok105 d_1_65_53 ?_
    obtain ⟨ok106, h⟩ := ck_e h
    refine lv_ishl hx hb d_1_65_54 ?_
    refine nrm (oI_one_shl ok106) ?_
    obtain ⟨ok107, h⟩ := ck_e h
    obtain ⟨ok108, h⟩ := ck_e h
    refine lv_ior hx hb d_1_65_55 ?_
    refine nrm (oI_or (a := x3) (b := (2 ^ (M (q1 + 2) x4.toNat).toNat)) ok107.1 ok107.2 ok108.1 ok108.2) ?_
    obtain ⟨v109, e109, h⟩ := nb_e h
    refine nrm (congrArg oI e109.symm) ?_
    refine lv_istore_n (lv' := [(3, .int (oI v109)), (0, .ref (ad 1)), (1, .ref (ad q1)), (2, .int (oI x2)), (4, .int (oI x4))]) hx hb d_1_65_56 rfl hl (by decide) rfl (fun ls hl => ?_)
    refine lv_iinc (v := oI (x4 + 1)) (lv' := [(4, .int (oI (x4 + 1))), (3, .int (oI v109)), (0, .ref (ad 1)), (1, .ref (ad q1)), (2, .int (oI x2))]) hx hb d_1_65_57 hl (k := 4) rfl (oI_add x4 1) (by decide) rfl (fun ls hl => ?_)
    refine lv_goto (tgt := 36) hx hb d_1_65_60 (by decide) ?_
    obtain ⟨rfl, rfl, rfl, rfl⟩ := in4 h
    exact k0 rfl H locs ls hP hD hS (lv_sub hl [2, 3, 4, 1, 0] rfl)
set_option maxRecDepth 100000 in
set_option maxHeartbeats 4000000 in
theorem s_B_countErrors_36 (l : Launch) (z : Zz) (ad : Nat → Nat) (E : Ev) (q1 : Nat) (x2 : Int) {Q : State → Prop} {p : Program} {e : Env} {s : State} {m : MethodId} {below : List Frame} {meth : Method} {c : Code} {A : Nat → Prop} {args : Array Value} (hx : p.tables.exec = Jvm.exec) (hb : c.code = prog_1_method_65_code) (hml : c.maxLocals = 7) (hts : ∀ w ∈ WG, w.before args s = true) (hown : s.vm.findClass "Ballothall" = some m.cls) (hlocks : meth.locks = false) (hA : ∀ q, s.heap.size ≤ q → A q) (hG : KG z s) (hZ : FZ z A s) (hL : Lay E) : ∀ (fu : Nat) (M : Mm) (x3 : Int) (x4 : Int) (t : Nat) (w3 : Int) (w4 : Int) (N : Mm), l_B_countErrors_36 E q1 x2 fu M x3 x4 = some (t, w3, w4, N) → (t = 1 → ∀ (H : Heap) (locs : List Loc) (ls : Array Slot), va_P z.1 classes (wv z ad E N) H → va_D A (wv z ad E N) → va_S A s.heap H locs → lv_has ls 7 [(0, .ref (ad 1)), (1, .ref (ad q1)), (2, .int (oI x2)), (3, .int (oI w3))] → W p l e (rmK 5 130 0 0) s m args below meth c H locs 0 0 Q (F0 m 63 ls [])) → ∀ (H : Heap) (locs : List Loc) (ls : Array Slot), va_P z.1 classes (wv z ad E M) H → va_D A (wv z ad E M) → va_S A s.heap H locs → lv_has ls 7 [(0, .ref (ad 1)), (1, .ref (ad q1)), (2, .int (oI x2)), (3, .int (oI x3)), (4, .int (oI x4))] → W p l e (rmK 5 130 0 0) s m args below meth c H locs 0 0 Q (F0 m 36 ls []) := by
  intro fu
  induction fu with
  | zero =>
    intro M x3 x4 t w3 w4 N h
    have h : (none : Option (Nat × Int × Int × Mm)) = some _ := h
    cases h
  | succ fu ih =>
    intro M x3 x4 t w3 w4 N h k1 H locs ls hP hD hS hl
    obtain ⟨⟨t0, w30, w40, N9⟩, g0, h⟩ := bd_e h
    refine b_B_countErrors_36b l z ad E M q1 x2 x3 x4 t0 w30 w40 N9 hx hb hml hts hown hlocks hA hG hZ hL g0 (fun e0 => ?_) (fun e0 => ?_) H locs ls hP hD hS hl
    · subst e0
      have h := ite_t rfl h
      exact ih N9 w30 w40 t w3 w4 N h k1
    · subst e0
      have h := ite_f (by decide) h
      obtain ⟨rfl, rfl, rfl, rfl⟩ := in4 h
      exact k1 rfl
set_option maxRecDepth 100000 in
set_option maxHeartbeats 4000000 in
theorem b_B_countErrors_j128 (l : Launch) (z : Zz) (ad : Nat → Nat) (E : Ev) (M : Mm) (q1 : Nat) (x2 : Int) (x3 : Int) (x4 : Int) (x5 : Int) (y0 : Int) (t : Nat) (w4 : Int) (w5 : Int) (N : Mm) {Q : State → Prop} {p : Program} {e : Env} {s : State} {m : MethodId} {below : List Frame} {meth : Method} {c : Code} {A : Nat → Prop} {args : Array Value} (hx : p.tables.exec = Jvm.exec) (hb : c.code = prog_1_method_65_code) (hml : c.maxLocals = 7) (hts : ∀ w ∈ WG, w.before args s = true) (hown : s.vm.findClass "Ballothall" = some m.cls) (hlocks : meth.locks = false) (hA : ∀ q, s.heap.size ≤ q → A q) (hG : KG z s) (hZ : FZ z A s) (hL : Lay E) (h : B_countErrors_j128 E M q1 x2 x3 x4 x5 y0 = some (t, w4, w5, N)) (k0 : t = 0 → ∀ (H : Heap) (locs : List Loc) (ls : Array Slot), va_P z.1 classes (wv z ad E N) H → va_D A (wv z ad E N) → va_S A s.heap H locs → lv_has ls 7 [(0, .ref (ad 1)), (1, .ref (ad q1)), (2, .int (oI x2)), (3, .int (oI x3)), (4, .int (oI w4)), (5, .int (oI w5))] → W p l e (rmK 5 130 0 0) s m args below meth c H locs 0 0 Q (F0 m 92 ls [])) (k1 : t = 1 → ∀ (H : Heap) (locs : List Loc) (ls : Array Slot), va_P z.1 classes (wv z ad E N) H → va_D A (wv z ad E N) → va_S A s.heap H locs → lv_has ls 7 [(4, .int (oI w4))] → W p l e (rmK 5 130 0 0) s m args below meth c H locs 0 0 Q (F0 m 153 ls [])) : ∀ (H : Heap) (locs : List Loc) (ls : Array Slot), va_P z.1 classes (wv z ad E M) H → va_D A (wv z ad E M) → va_S A s.heap H locs → lv_has ls 7 [(0, .ref (ad 1)), (1, .ref (ad q1)), (2, .int (oI x2)), (3, .int (oI x3)), (4, .int (oI x4)), (5, .int (oI x5))] → W p l e (rmK 5 130 0 0) s m args below meth c H locs 0 0 Q (F0 m 128 ls [.int (oI y0)]) := by
  intro H locs ls hP hD hS hl
  unfold B_countErrors_j128 at h
  obtain ⟨h_q1, h⟩ := ck_e h
  refine lv_istore (lv' := [(6, .int (oI y0)), (0, .ref (ad 1)), (1, .ref (ad q1)), (2, .int (oI x2)), (3, .int (oI x3)), (4, .int (oI x4)), (5, .int (oI x5))]) hx hb d_1_65_128 hl (by decide) rfl (fun ls hl => ?_)
  refine lv_iload hx hb d_1_65_130 (lv_at hl 0 rfl) ?_
  obtain ⟨ok122, h⟩ := ck_e h
  refine lv_if_eq (tgt := 147) hx hb d_1_65_132 (by decide) (fun c9 => ?_) (fun c9 => ?_)
  · have h := ite_t ((oI_eq0 ok122).mp c9) h
    refine lv_iinc (v := oI (x5 + 1)) (lv' := [(5, .int (oI (x5 + 1))), (6, .int (oI y0)), (0, .ref (ad 1)), (1, .ref (ad q1)), (2, .int (oI x2)), (3, .int (oI x3)), (4, .int (oI x4))]) hx hb d_1_65_147 hl (k := 6) rfl (oI_add x5 1) (by decide) rfl (fun ls hl => ?_)
    refine lv_goto (tgt := 92) hx hb d_1_65_150 (by decide) ?_
    obtain ⟨rfl, rfl, rfl, rfl⟩ := in4 h
    exact k0 rfl H locs ls hP hD hS (lv_sub hl [2, 3, 4, 5, 6, 0] rfl)
  · have h := ite_f (fun q => c9 ((oI_eq0 ok122).mpr q)) h
    refine lv_iload hx hb d_1_65_135 (lv_at hl 6 rfl) ?_
    refine lv_iload_n hx hb d_1_65_137 rfl (lv_at hl 4 rfl) ?_
    refine lv_iconst (v := oI (-1)) hx hb d_1_65_138 (by decide +kernel) ?_
    refine lv_ixor hx hb d_1_65_139 ?_
    refine nrm (oI_not _) ?_
    obtain ⟨ok123, h⟩ := ck_e h
    obtain ⟨ok124, h⟩ := ck_e h
    refine lv_iand hx hb d_1_65_140 ?_
    refine nrm (oI_dif ok123.1 ok123.2 ok124.1 ok124.2) ?_
    refine lv_if_eq (tgt := 147) hx hb d_1_65_141 (by decide) (fun c9 => ?_) (fun c9 => ?_)
    · have h := ite_t ((oI_eq0 (rg_nn (df_nn ok123))).mp c9) h
      refine lv_iinc (v := oI (x5 + 1)) (lv' := [(5, .int (oI (x5 + 1))), (6, .int (oI y0)), (0, .ref (ad 1)), (1, .ref (ad q1)), (2, .int (oI x2)), (3, .int (oI x3)), (4, .int (oI x4))]) hx hb d_1_65_147 hl (k := 6) rfl (oI_add x5 1) (by decide) rfl (fun ls hl => ?_)
      refine lv_goto (tgt := 92) hx hb d_1_65_150 (by decide) ?_
      obtain ⟨rfl, rfl, rfl, rfl⟩ := in4 h
      exact k0 rfl H locs ls hP hD hS (lv_sub hl [2, 3, 4, 5, 6, 0] rfl)
    · have h := ite_f (fun q => c9 ((oI_eq0 (rg_nn (df_nn ok123))).mpr q)) h
      refine lv_iinc (v := oI (x4 + 1)) (lv' := [(4, .int (oI (x4 + 1))), (6, .int (oI y0)), (0, .ref (ad 1)), (1, .ref (ad q1)), (2, .int (oI x2)), (3, .int (oI x3)), (5, .int (oI x5))]) hx hb d_1_65_144 hl (k := 5) rfl (oI_add x4 1) (by decide) rfl (fun ls hl => ?_)
      refine lv_iinc (v := oI (x5 + 1)) (lv' := [(5, .int (oI (x5 + 1))), (4, .int (oI (x4 + 1))), (6, .int (oI y0)), (0, .ref (ad 1)), (1, .ref (ad q1)), (2, .int (oI x2)), (3, .int (oI x3))]) hx hb d_1_65_147 hl (k := 6) rfl (oI_add x5 1) (by decide) rfl (fun ls hl => ?_)
      refine lv_goto (tgt := 92) hx hb d_1_65_150 (by decide) ?_
      obtain ⟨rfl, rfl, rfl, rfl⟩ := in4 h
      exact k0 rfl H locs ls hP hD hS (lv_sub hl [3, 4, 5, 6, 1, 0] rfl)
set_option maxRecDepth 100000 in
set_option maxHeartbeats 4000000 in
theorem b_B_countErrors_92b (l : Launch) (z : Zz) (ad : Nat → Nat) (E : Ev) (M : Mm) (q1 : Nat) (x2 : Int) (x3 : Int) (x4 : Int) (x5 : Int) (t : Nat) (w4 : Int) (w5 : Int) (N : Mm) {Q : State → Prop} {p : Program} {e : Env} {s : State} {m : MethodId} {below : List Frame} {meth : Method} {c : Code} {A : Nat → Prop} {args : Array Value} (hx : p.tables.exec = Jvm.exec) (hb : c.code = prog_1_method_65_code) (hml : c.maxLocals = 7) (hts : ∀ w ∈ WG, w.before args s = true) (hown : s.vm.findClass "Ballothall" = some m.cls) (hlocks : meth.locks = false) (hA : ∀ q, s.heap.size ≤ q → A q) (hG : KG z s) (hZ : FZ z A s) (hL : Lay E) (h : B_countErrors_92b E M q1 x2 x3 x4 x5 = some (t, w4, w5, N)) (k0 : t = 0 → ∀ (H : Heap) (locs : List Loc) (ls : Array Slot), va_P z.1 classes (wv z ad E N) H → va_D A (wv z ad E N) → va_S A s.heap H locs → lv_has ls 7 [(0, .ref (ad 1)), (1, .ref (ad q1)), (2, .int (oI x2)), (3, .int (oI x3)), (4, .int (oI w4)), (5, .int (oI w5))] → W p l e (rmK 5 130 0 0) s m args below meth c H locs 0 0 Q (F0 m 92 ls [])) (k1 : t = 1 → ∀ (H : Heap) (locs : List Loc) (ls : Array Slot), va_P z.1 classes (wv z ad E N) H → va_D A (wv z ad E N) → va_S A s.heap H locs → lv_has ls 7 [(4, .int (oI w4))] → W p l e (rmK 5 130 0 0) s m args below meth c H locs 0 0 Q (F0 m 153 ls [])) : ∀ (H : Heap) (locs : List Loc) (ls : Array Slot), va_P z.1 classes (wv z ad E M) H → va_D A (wv z ad E M) → va_S A s.heap H locs → lv_has ls 7 [(0, .ref (ad 1)), (1, .ref (ad q1)), (2, .int (oI x2)), (3, .int (oI x3)), (4, .int (oI x4)), (5, .int (oI x5))] → W p l e (rmK 5 130 0 0) s m args below meth c H locs 0 0 Q (F0 m 92 ls []) := by
  intro H locs ls hP hD hS hl
  unfold B_countErrors_92b at h
  obtain ⟨h_q1, h⟩ := ck_e h
  refine lv_iload hx hb d_1_65_92 (lv_at hl 5 rfl) ?_
  refine lv_iload_n hx hb d_1_65_94 rfl (lv_at hl 2 rfl) ?_
  obtain ⟨ok113, h⟩ := ck_e h
  obtain ⟨ok114, h⟩ := ck_e h
  refine lv_icmp_gt (tgt := 153) hx hb d_1_65_95 (by decide) (fun c9 => ?_) (fun c9 => ?_)
  · have h := ite_t ((oI_lt (a := x2) (b := x5) ok114 ok113).mp c9) h
    obtain ⟨rfl, rfl, rfl, rfl⟩ := in4 h
    exact k1 rfl H locs ls hP hD hS (lv_sub hl [4] rfl)
  · have h := ite_f (fun q => c9 ((oI_lt (a := x2) (b := x5) ok114 ok113).mpr q)) h
    refine lv_aload_n hx hb d_1_65_98 rfl (lv_at hl 0 rfl) ?_
    refine m_gr (j := 2) (C := "Ballothall") (T := TX11) (N := 14) (ci := 11) (k := 0) hx hb hts iX11 hown hG hP (yi_1 hL) (yt_1 hL) rfl (by decide) w_397 (fun _ h9 => h9) rfl rfl (yr_1_0 hL) d_1_65_99 ?_
    refine m_grN (j := 40) (C := "Ballothall$BallotBox") (T := TX0) (N := 10) (ci := 0) (k := 9) hx hb hts iX0 hown hG hP (yi_2 hL) (yt_2 hL) rfl (by decide) n_78 rfl (fun _ h9 => h9) rfl rfl (yr_2_9 hL) d_1_65_102 ?_
    refine lv_iload hx hb d_1_65_105 (lv_at hl 5 rfl) ?_
    obtain ⟨ok115, h⟩ := ck_e h
    refine m_ia hx hb hG hP (yi_40 hL) (yt_40 hL) ok115 d_1_65_107 ?_
    refine lv_aload_n hx hb d_1_65_108 rfl (lv_at hl 1 rfl) ?_
    refine m_giN (C := "Ballothall$Count") (T := TX2) (N := 10) (ci := 2) (k := 0) hx hb hts iX2 hown hG hP (isCt_i h_q1) (isCt_T h_q1) rfl (by decide) n_1080 rfl (fun _ h9 => h9) rfl rfl d_1_65_109 ?_
    obtain ⟨ok116, h⟩ := ck_e h
    obtain ⟨ok117, h⟩ := ck_e h
    refine lv_idiv hx hb d_1_65_112 (oI_nz ok117.1 ok117.2) ?_
    refine nrm (oI_div (a := (M 40 x5.toNat)) (b := (M q1 0)) ok116.1 ok116.2 ok117.1 ok117.2) ?_
    refine lv_iload hx hb d_1_65_113 (lv_at hl 5 rfl) ?_
    refine lv_iload_n hx hb d_1_65_115 rfl (lv_at hl 3 rfl) ?_
    obtain ⟨ok118, h⟩ := ck_e h
    refine lv_iand hx hb d_1_65_116 ?_
    refine nrm (oI_and (a := x5) (b := x3) (inb_nn ok115).1 (inb_nn ok115).2 ok118.1 ok118.2) ?_
    obtain ⟨r119, g119, h⟩ := bd_e h
    refine kS (As := [.int (oI (andI x5 x3))]) (rest := [.int (oI ((M 40 x5.toNat) / (M q1 0)))]) (s_In_bitCount l z ad E M (andI x5 x3) r119 hL g119) hx hb hml hown hts w_657 w_655 w_656 w_30 md_eafe8c ⟨Nat.le_of_ble_eq_true rfl, Nat.le_of_ble_eq_true rfl⟩ hG hZ hP hD hS hA rfl hl.1 rfl (Nat.le_of_ble_eq_true rfl) d_1_65_117 ⟨Nat.le_of_ble_eq_true rfl, Nat.le_of_ble_eq_true rfl⟩ (fun _ H locs hP hD hS => ?_)
    have hP : va_P z.1 classes (wv z ad E M) H := hP
    have hD : va_D A (wv z ad E M) := hD
    refine W.eq (g2 := F0 m 120 ls [.int (oI r119), .int (oI ((M 40 x5.toNat) / (M q1 0)))]) rfl ?_
    obtain ⟨ok120, h⟩ := ck_e h
    obtain ⟨ok121, h⟩ := ck_e h
    refine lv_icmp_le (tgt := 127) hx hb d_1_65_120 (by decide) (fun c9 => ?_) (fun c9 => ?_)
    · have h := ite_t ((oI_le (a := ((M 40 x5.toNat) / (M q1 0))) (b := r119) ok120 ok121).mp c9) h
      refine lv_iconst (v := oI 0) hx hb d_1_65_127 (by decide +kernel) ?_
      exact b_B_countErrors_j128 l z ad E M q1 x2 x3 x4 x5 0 t w4 w5 N hx hb hml hts hown hlocks hA hG hZ hL h k0 k1 H locs ls hP hD hS (lv_sub hl [0, 1, 2, 3, 4, 5] rfl)
    · have h := ite_f (fun q => c9 ((oI_le (a := ((M 40 x5.toNat) / (M q1 0))) (b := r119) ok120 ok121).mpr q)) h
      refine lv_iconst (v := oI 1) hx hb d_1_65_123 (by decide +kernel) ?_
      refine lv_goto (tgt := 128) hx hb d_1_65_124 (by decide) ?_
      exact b_B_countErrors_j128 l z ad E M q1 x2 x3 x4 x5 1 t w4 w5 N hx hb hml hts hown hlocks hA hG hZ hL h k0 k1 H locs ls hP hD hS (lv_sub hl [0, 1, 2, 3, 4, 5] rfl)
set_option maxRecDepth 100000 in
set_option maxHeartbeats 4000000 in
theorem s_B_countErrors_92 (l : Launch) (z : Zz) (ad : Nat → Nat) (E : Ev) (q1 : Nat) (x2 : Int) (x3 : Int) {Q : State → Prop} {p : Program} {e : Env} {s : State} {m : MethodId} {below : List Frame} {meth : Method} {c : Code} {A : Nat → Prop} {args : Array Value} (hx : p.tables.exec = Jvm.exec) (hb : c.code = prog_1_method_65_code) (hml : c.maxLocals = 7) (hts : ∀ w ∈ WG, w.before args s = true) (hown : s.vm.findClass "Ballothall" = some m.cls) (hlocks : meth.locks = false) (hA : ∀ q, s.heap.size ≤ q → A q) (hG : KG z s) (hZ : FZ z A s) (hL : Lay E) : ∀ (fu : Nat) (M : Mm) (x4 : Int) (x5 : Int) (t : Nat) (w4 : Int) (w5 : Int) (N : Mm), l_B_countErrors_92 E q1 x2 x3 fu M x4 x5 = some (t, w4, w5, N) → (t = 1 → ∀ (H : Heap) (locs : List Loc) (ls : Array Slot), va_P z.1 classes (wv z ad E N) H → va_D A (wv z ad E N) → va_S A s.heap H locs → lv_has ls 7 [(4, .int (oI w4))] → W p l e (rmK 5 130 0 0) s m args below meth c H locs 0 0 Q (F0 m 153 ls [])) → ∀ (H : Heap) (locs : List Loc) (ls : Array Slot), va_P z.1 classes (wv z ad E M) H → va_D A (wv z ad E M) → va_S A s.heap H locs → lv_has ls 7 [(0, .ref (ad 1)), (1, .ref (ad q1)), (2, .int (oI x2)), (3, .int (oI x3)), (4, .int (oI x4)), (5, .int (oI x5))] → W p l e (rmK 5 130 0 0) s m args below meth c H locs 0 0 Q (F0 m 92 ls []) := by
  intro fu
  induction fu with
  | zero =>
    intro M x4 x5 t w4 w5 N h
    have h : (none : Option (Nat × Int × Int × Mm)) = some _ := h
    cases h
  | succ fu ih =>
    intro M x4 x5 t w4 w5 N h k1 H locs ls hP hD hS hl
    obtain ⟨⟨t0, w40, w50, N9⟩, g0, h⟩ := bd_e h
    refine b_B_countErrors_92b l z ad E M q1 x2 x3 x4 x5 t0 w40 w50 N9 hx hb hml hts hown hlocks hA hG hZ hL g0 (fun e0 => ?_) (fun e0 => ?_) H locs ls hP hD hS hl
    · subst e0
      have h := ite_t rfl h
      exact ih N9 w40 w50 t w4 w5 N h k1
    · subst e0
      have h := ite_f (by decide) h
      obtain ⟨rfl, rfl, rfl, rfl⟩ := in4 h
      exact k1 rfl
set_option maxRecDepth 100000 in
set_option maxHeartbeats 4000000 in
theorem s_B_countErrors (l : Launch) (z : Zz) (ad : Nat → Nat) (E : Ev) (M : Mm) (r : Int) (N : Mm) (hL : Lay E) (h : f_B_countErrors E M = some (r, N)) : CT l z ⟨"Ballothall", "countErrors", "()I"⟩ prog_1_method_65_code 7 (some .int) [.ref (ad 1)] (wv z ad E M) 5 130 0 0 (fun _ => some (.int (oI r))) (fun _ => (wv z ad E N)) := by
  refine CT.of (own := "Ballothall") (by decide +kernel) (Nat.le_of_ble_eq_true rfl) rfl (fun p e s m below meth c A ls hx hb hml hr hts hown hlocks hin hA hG hZ hP hD hS hl => ?_)
  have hl : lv_has ls 7 [(0, .ref (ad 1))] := hl
  have key : ∀ (H : Heap) (locs : List Loc) (args : Array Value), (∀ w ∈ WG, w.before args s = true) → va_P z.1 classes (wv z ad E M) H → va_S A s.heap H locs → W p l e (rmK 5 130 0 0) s m args below meth c H locs 0 0 (MQ below (QK z A (fun _ => some (.int (oI r))) (fun _ => (wv z ad E N))) args s 0 0 A) (F0 m 0 ls []) := by
    intro H locs args hts hP hS
    unfold f_B_countErrors at h
    refine lv_aload_n hx hb d_1_65_0 rfl (lv_at hl 0 rfl) ?_
    refine m_gr (j := 179) (C := "Ballothall") (T := TX11) (N := 14) (ci := 11) (k := 4) hx hb hts iX11 hown hG hP (yi_1 hL) (yt_1 hL) rfl (by decide) w_401 (fun _ h9 => h9) rfl rfl (yr_1_4 hL) d_1_65_1 ?_
    obtain ⟨r100, g100, h⟩ := bd_e h
    refine kVN (As := []) (rest := []) (s_Co_latest l z ad E M r100 hL g100) hx hb hml hown hts w_596 n_593 w_595 w_s_ad1675 w_8 md_6f7cc1 ⟨Nat.le_of_ble_eq_true rfl, Nat.le_of_ble_eq_true rfl⟩ hG hZ hP hD hS hA 179 (wv_o (ci := 3) (yi_179 hL) (yt_179 hL)) rfl rfl rfl hl.1 rfl (Nat.le_of_ble_eq_true rfl) d_1_65_4 ⟨Nat.le_of_ble_eq_true rfl, Nat.le_of_ble_eq_true rfl⟩ (fun _ H locs hP hD hS => ?_)
    have hP : va_P z.1 classes (wv z ad E M) H := hP
    have hD : va_D A (wv z ad E M) := hD
    cases r100 with
    | none =>
      refine W.eq (g2 := F0 m 7 ls [.null]) rfl ?_
      refine lv_astore_nN (lv' := [(1, .null), (0, .ref (ad 1))]) hx hb d_1_65_7 rfl hl (by decide) rfl (fun ls hl => ?_)
      refine lv_aload_nN hx hb d_1_65_8 rfl (lv_at hl 0 rfl) ?_
      refine lv_ifnullN (tgt := 20) hx hb d_1_65_9 (by decide) ?_
      refine lv_iconst (v := oI 0) hx hb d_1_65_20 (by decide +kernel) ?_
      obtain ⟨rfl, rfl⟩ := in2 h
      exact W.iret hx hb hr (fun t ht hW => qkA hP hD hS (fun k => k) rfl rfl ht) hS.2.2 d_1_65_21
    | some p100 =>
      obtain ⟨h_p100, h⟩ := ck_e h
      refine W.eq (g2 := F0 m 7 ls [.ref (ad p100)]) rfl ?_
      refine lv_astore_n (lv' := [(1, .ref (ad p100)), (0, .ref (ad 1))]) hx hb d_1_65_7 rfl hl (by decide) rfl (fun ls hl => ?_)
      refine lv_aload_n hx hb d_1_65_8 rfl (lv_at hl 0 rfl) ?_
      refine lv_ifnull hx hb d_1_65_9 ?_
      refine lv_aload_n hx hb d_1_65_12 rfl (lv_at hl 0 rfl) ?_
      refine m_giN (C := "Ballothall$Count") (T := TX2) (N := 10) (ci := 2) (k := 0) hx hb hts iX2 hown hG hP (isCt_i h_p100) (isCt_T h_p100) rfl (by decide) n_1080 rfl (fun _ h9 => h9) rfl rfl d_1_65_13 ?_
      refine lv_iconst (v := oI 1) hx hb d_1_65_16 (by decide +kernel) ?_
      obtain ⟨ok101, h⟩ := ck_e h
      refine lv_icmp_ge (tgt := 22) hx hb d_1_65_17 (by decide) (fun c9 => ?_) (fun c9 => ?_)
      · have h := ite_t ((oI_le (a := (1 : Int)) (b := (M p100 0)) (by decide) ok101).mp c9) h
        refine lv_iconst (v := oI 1) hx hb d_1_65_22 (by decide +kernel) ?_
        refine lv_aload_n hx hb d_1_65_23 rfl (lv_at hl 0 rfl) ?_
        refine m_giN (C := "Ballothall$Count") (T := TX2) (N := 10) (ci := 2) (k := 1) hx hb hts iX2 hown hG hP (isCt_i h_p100) (isCt_T h_p100) rfl (by decide) n_1082 rfl (fun _ h9 => h9) rfl rfl d_1_65_24 ?_
        obtain ⟨ok102, h⟩ := ck_e h
        refine lv_ishl hx hb d_1_65_27 ?_
        refine nrm (oI_one_shl ok102) ?_
        refine lv_iconst (v := oI 1) hx hb d_1_65_28 (by decide +kernel) ?_
        refine lv_isub hx hb d_1_65_29 ?_
        refine nrm (oI_sub _ _) ?_
        refine lv_istore_n (lv' := [(2, .int (oI ((2 ^ (M p100 1).toNat) - 1))), (1, .ref (ad p100)), (0, .ref (ad 1))]) hx hb d_1_65_30 rfl hl (by decide) rfl (fun ls hl => ?_)
        refine lv_iconst (v := oI 0) hx hb d_1_65_31 (by decide +kernel) ?_
        refine lv_istore_n (lv' := [(3, .int (oI 0)), (2, .int (oI ((2 ^ (M p100 1).toNat) - 1))), (1, .ref (ad p100)), (0, .ref (ad 1))]) hx hb d_1_65_32 rfl hl (by decide) rfl (fun ls hl => ?_)
        refine lv_iconst (v := oI 0) hx hb d_1_65_33 (by decide +kernel) ?_
        refine lv_istore (lv' := [(4, .int (oI 0)), (3, .int (oI 0)), (2, .int (oI ((2 ^ (M p100 1).toNat) - 1))), (1, .ref (ad p100)), (0, .ref (ad 1))]) hx hb d_1_65_34 hl (by decide) rfl (fun ls hl => ?_)
        obtain ⟨⟨t110, v110_3, v110_4, M110⟩, g110, h⟩ := bd_e h
        obtain ⟨ok110, h⟩ := ck_e h
        refine s_B_countErrors_36 l z ad E p100 ((2 ^ (M p100 1).toNat) - 1) hx hb hml hts hown hlocks hA hG hZ hL FU M 0 0 t110 v110_3 v110_4 M110 g110 (fun e110 H locs ls hP hD hS hl => ?_) H locs ls hP hD hS (lv_sub hl [4, 3, 2, 1, 0] rfl)
        refine lv_aload_n hx hb d_1_65_63 rfl (lv_at hl 0 rfl) ?_
        refine m_gr (j := 179) (C := "Ballothall") (T := TX11) (N := 14) (ci := 11) (k := 4) hx hb hts iX11 hown hG hP (yi_1 hL) (yt_1 hL) rfl (by decide) w_401 (fun _ h9 => h9) rfl rfl (yr_1_4 hL) d_1_65_64 ?_
        refine lv_aload_n hx hb d_1_65_67 rfl (lv_at hl 1 rfl) ?_
        obtain ⟨⟨r111, M111⟩, g111, h⟩ := bd_e h
        refine kVN (As := [.ref (ad p100)]) (rest := []) (s_Co_unbalancedSteps l z ad E M110 p100 r111 M111 hL g111) hx hb hml hown hts w_600 n_597 w_599 w_s_1f3306 w_8 md_8638f0 ⟨Nat.le_of_ble_eq_true rfl, Nat.le_of_ble_eq_true rfl⟩ hG hZ hP hD hS hA 179 (wv_o (ci := 3) (yi_179 hL) (yt_179 hL)) rfl rfl rfl hl.1 rfl (Nat.le_of_ble_eq_true rfl) d_1_65_68 ⟨Nat.le_of_ble_eq_true rfl, Nat.le_of_ble_eq_true rfl⟩ (fun _ H locs hP hD hS => ?_)
        have hP : va_P z.1 classes (wv z ad E M111) H := hP
        have hD : va_D A (wv z ad E M111) := hD
        refine W.eq (g2 := F0 m 71 ls [.int (oI r111)]) rfl ?_
        refine lv_istore (lv' := [(4, .int (oI r111)), (0, .ref (ad 1)), (1, .ref (ad p100)), (2, .int (oI ((2 ^ (M p100 1).toNat) - 1))), (3, .int (oI v110_3))]) hx hb d_1_65_71 hl (by decide) rfl (fun ls hl => ?_)
        refine lv_aload_n hx hb d_1_65_73 rfl (lv_at hl 1 rfl) ?_
        refine m_gr (j := 2) (C := "Ballothall") (T := TX11) (N := 14) (ci := 11) (k := 0) hx hb hts iX11 hown hG hP (yi_1 hL) (yt_1 hL) rfl (by decide) w_397 (fun _ h9 => h9) rfl rfl (yr_1_0 hL) d_1_65_74 ?_
        refine lv_aload_n hx hb d_1_65_77 rfl (lv_at hl 2 rfl) ?_
        refine m_grN (j := (p100 + 1)) (C := "Ballothall$Count") (T := TX2) (N := 10) (ci := 2) (k := 6) hx hb hts iX2 hown hG hP (isCt_i h_p100) (isCt_T h_p100) rfl (by decide) n_1092 rfl (fun _ h9 => h9) rfl rfl (isCt_r6 h_p100) d_1_65_78 ?_
        refine lv_aload_n hx hb d_1_65_81 rfl (lv_at hl 2 rfl) ?_
        refine m_giN (C := "Ballothall$Count") (T := TX2) (N := 10) (ci := 2) (k := 2) hx hb hts iX2 hown hG hP (isCt_i h_p100) (isCt_T h_p100) rfl (by decide) n_1084 rfl (fun _ h9 => h9) rfl rfl d_1_65_82 ?_
        refine lv_iload_n hx hb d_1_65_85 rfl (lv_at hl 3 rfl) ?_
        obtain ⟨M112, g112, h⟩ := bd_e h
        refine kVN (As := [.ref (ad (p100 + 1)), .int (oI (M111 p100 2)), .int (oI ((2 ^ (M p100 1).toNat) - 1))]) (rest := []) (s_Bx_findSupport l z ad E M111 (p100 + 1) (M111 p100 2) ((2 ^ (M p100 1).toNat) - 1) M112 hL g112) hx hb hml hown hts w_650 n_647 w_649 w_s_0b6f71 w_2 md_c007fa ⟨Nat.le_of_ble_eq_true rfl, Nat.le_of_ble_eq_true rfl⟩ hG hZ hP hD hS hA 2 (wv_o (ci := 0) (yi_2 hL) (yt_2 hL)) rfl rfl rfl hl.1 rfl (Nat.le_of_ble_eq_true rfl) d_1_65_86 ⟨Nat.le_of_ble_eq_true rfl, Nat.le_of_ble_eq_true rfl⟩ (fun _ H locs hP hD hS => ?_)
        have hP : va_P z.1 classes (wv z ad E M112) H := hP
        have hD : va_D A (wv z ad E M112) := hD
        refine W.eq (g2 := F0 m 89 ls []) rfl ?_
        refine lv_iconst (v := oI 1) hx hb d_1_65_89 (by decide +kernel) ?_
        refine lv_istore (lv' := [(5, .int (oI 1)), (4, .int (oI r111)), (0, .ref (ad 1)), (1, .ref (ad p100)), (2, .int (oI ((2 ^ (M p100 1).toNat) - 1))), (3, .int (oI v110_3))]) hx hb d_1_65_90 hl (by decide) rfl (fun ls hl => ?_)
        obtain ⟨⟨t125, v125_4, v125_5, M125⟩, g125, h⟩ := bd_e h
        obtain ⟨ok125, h⟩ := ck_e h
        refine s_B_countErrors_92 l z ad E p100 ((2 ^ (M p100 1).toNat) - 1) v110_3 hx hb hml hts hown hlocks hA hG hZ hL FU M112 r111 1 t125 v125_4 v125_5 M125 g125 (fun e125 H locs ls hP hD hS hl => ?_) H locs ls hP hD hS (lv_sub hl [2, 3, 4, 5, 1, 0] rfl)
        refine lv_iload hx hb d_1_65_153 (lv_at hl 0 rfl) ?_
        obtain ⟨rfl, rfl⟩ := in2 h
        exact W.iret hx hb hr (fun t ht hW => qkA hP hD hS (fun k => k) rfl rfl ht) hS.2.2 d_1_65_155
      · have h := ite_f (fun q => c9 ((oI_le (a := (1 : Int)) (b := (M p100 0)) (by decide) ok101).mpr q)) h
        refine lv_iconst (v := oI 0) hx hb d_1_65_20 (by decide +kernel) ?_
        obtain ⟨rfl, rfl⟩ := in2 h
        exact W.iret hx hb hr (fun t ht hW => qkA hP hD hS (fun k => k) rfl rfl ht) hS.2.2 d_1_65_21
  exact key _ _ _ hts hP hS
set_option maxRecDepth 100000 in
set_option maxHeartbeats 4000000 in
theorem s_B_isBeaterOfAllMissed (l : Launch) (z : Zz) (ad : Nat → Nat) (E : Ev) (M : Mm) (r : Int) (N : Mm) (hL : Lay E) (h : f_B_isBeaterOfAllMissed E M = some (r, N)) : CT l z ⟨"Ballothall", "isBeaterOfAllMissed", "()Z"⟩ prog_1_method_66_code 2 (some .boolean) [.ref (ad 1)] (wv z ad E M) 4 115 0 0 (fun _ => some (.int (oI r))) (fun _ => (wv z ad E N)) := by
  refine CT.of (own := "Ballothall") (by decide +kernel) (Nat.le_of_ble_eq_true rfl) rfl (fun p e s m below meth c A ls hx hb hml hr hts hown hlocks hin hA hG hZ hP hD hS hl => ?_)
  have hl : lv_has ls 2 [(0, .ref (ad 1))] := hl
  have key : ∀ (H : Heap) (locs : List Loc) (args : Array Value), (∀ w ∈ WG, w.before args s = true) → va_P z.1 classes (wv z ad E M) H → va_S A s.heap H locs → W p l e (rmK 4 115 0 0) s m args below meth c H locs 0 0 (MQ below (QK z A (fun _ => some (.int (oI r))) (fun _ => (wv z ad E N))) args s 0 0 A) (F0 m 0 ls []) := by
    intro H locs args hts hP hS
    unfold f_B_isBeaterOfAllMissed at h
    refine lv_aload_n hx hb d_1_66_0 rfl (lv_at hl 0 rfl) ?_
    refine m_gr (j := 41) (C := "Ballothall") (T := TX11) (N := 14) (ci := 11) (k := 1) hx hb hts iX11 hown hG hP (yi_1 hL) (yt_1 hL) rfl (by decide) w_398 (fun _ h9 => h9) rfl rfl (yr_1_1 hL) d_1_66_1 ?_
    refine lv_aload_n hx hb d_1_66_4 rfl (lv_at hl 0 rfl) ?_
    refine m_gr (j := 2) (C := "Ballothall") (T := TX11) (N := 14) (ci := 11) (k := 0) hx hb hts iX11 hown hG hP (yi_1 hL) (yt_1 hL) rfl (by decide) w_397 (fun _ h9 => h9) rfl rfl (yr_1_0 hL) d_1_66_5 ?_
    obtain ⟨r100, g100, h⟩ := bd_e h
    refine kVN (As := []) (rest := [.ref (ad 41)]) (s_Bx_everybody l z ad E M r100 hL g100) hx hb hml hown hts w_668 n_665 w_667 w_s_8b8b67 w_2 md_b59579 ⟨Nat.le_of_ble_eq_true rfl, Nat.le_of_ble_eq_true rfl⟩ hG hZ hP hD hS hA 2 (wv_o (ci := 0) (yi_2 hL) (yt_2 hL)) rfl rfl rfl hl.1 rfl (Nat.le_of_ble_eq_true rfl) d_1_66_8 ⟨Nat.le_of_ble_eq_true rfl, Nat.le_of_ble_eq_true rfl⟩ (fun _ H locs hP hD hS => ?_)
    have hP : va_P z.1 classes (wv z ad E M) H := hP
    have hD : va_D A (wv z ad E M) := hD
    refine W.eq (g2 := F0 m 11 ls [.int (oI r100), .ref (ad 41)]) rfl ?_
    obtain ⟨M101, g101, h⟩ := bd_e h
    refine kVN (As := [.int (oI r100)]) (rest := []) (s_Po_open l z ad E M r100 M101 hL g101) hx hb hml hown hts w_672 n_669 w_671 w_s_229dc4 w_3 md_60bc9b ⟨Nat.le_of_ble_eq_true rfl, Nat.le_of_ble_eq_true rfl⟩ hG hZ hP hD hS hA 41 (wv_o (ci := 9) (yi_41 hL) (yt_41 hL)) rfl rfl rfl hl.1 rfl (Nat.le_of_ble_eq_true rfl) d_1_66_11 ⟨Nat.le_of_ble_eq_true rfl, Nat.le_of_ble_eq_true rfl⟩ (fun _ H locs hP hD hS => ?_)
    have hP : va_P z.1 classes (wv z ad E M101) H := hP
    have hD : va_D A (wv z ad E M101) := hD
    refine W.eq (g2 := F0 m 14 ls []) rfl ?_
    refine lv_aload_n hx hb d_1_66_14 rfl (lv_at hl 0 rfl) ?_
    refine m_gr (j := 41) (C := "Ballothall") (T := TX11) (N := 14) (ci := 11) (k := 1) hx hb hts iX11 hown hG hP (yi_1 hL) (yt_1 hL) rfl (by decide) w_398 (fun _ h9 => h9) rfl rfl (yr_1_1 hL) d_1_66_15 ?_
    obtain ⟨⟨r102, M102⟩, g102, h⟩ := bd_e h
    refine kVN (As := []) (rest := []) (s_Po_beaterOfAll l z ad E M101 r102 M102 hL g102) hx hb hml hown hts w_697 n_694 w_696 w_s_516c18 w_3 md_056ea1 ⟨Nat.le_of_ble_eq_true rfl, Nat.le_of_ble_eq_true rfl⟩ hG hZ hP hD hS hA 41 (wv_o (ci := 9) (yi_41 hL) (yt_41 hL)) rfl rfl rfl hl.1 rfl (Nat.le_of_ble_eq_true rfl) d_1_66_18 ⟨Nat.le_of_ble_eq_true rfl, Nat.le_of_ble_eq_true rfl⟩ (fun _ H locs hP hD hS => ?_)
    have hP : va_P z.1 classes (wv z ad E M102) H := hP
    have hD : va_D A (wv z ad E M102) := hD
    refine W.eq (g2 := F0 m 21 ls [.int (oI r102)]) rfl ?_
    refine lv_istore_n (lv' := [(1, .int (oI r102)), (0, .ref (ad 1))]) hx hb d_1_66_21 rfl hl (by decide) rfl (fun ls hl => ?_)
    refine lv_iload_n hx hb d_1_66_22 rfl (lv_at hl 0 rfl) ?_
    refine lv_iconst (v := oI (-1)) hx hb d_1_66_23 (by decide +kernel) ?_
    obtain ⟨ok103, h⟩ := ck_e h
    refine lv_icmp_ne (tgt := 29) hx hb d_1_66_24 (by decide) (fun c9 => ?_) (fun c9 => ?_)
    · have h := ite_f (fun q => c9 ((oI_eq (a := r102) (b := (-1 : Int)) ok103 (by decide)).mpr q)) h
      refine lv_aload_n hx hb d_1_66_29 rfl (lv_at hl 1 rfl) ?_
      refine m_gr (j := 41) (C := "Ballothall") (T := TX11) (N := 14) (ci := 11) (k := 1) hx hb hts iX11 hown hG hP (yi_1 hL) (yt_1 hL) rfl (by decide) w_398 (fun _ h9 => h9) rfl rfl (yr_1_1 hL) d_1_66_30 ?_
      obtain ⟨M104, g104, h⟩ := bd_e h
      refine kVN (As := []) (rest := []) (s_Po_findDistances l z ad E M102 M104 hL g104) hx hb hml hown hts w_713 n_710 w_712 w_s_d32e6f w_3 md_4b14b3 ⟨Nat.le_of_ble_eq_true rfl, Nat.le_of_ble_eq_true rfl⟩ hG hZ hP hD hS hA 41 (wv_o (ci := 9) (yi_41 hL) (yt_41 hL)) rfl rfl rfl hl.1 rfl (Nat.le_of_ble_eq_true rfl) d_1_66_33 ⟨Nat.le_of_ble_eq_true rfl, Nat.le_of_ble_eq_true rfl⟩ (fun _ H locs hP hD hS => ?_)
      have hP : va_P z.1 classes (wv z ad E M104) H := hP
      have hD : va_D A (wv z ad E M104) := hD
      refine W.eq (g2 := F0 m 36 ls []) rfl ?_
      refine lv_aload_n hx hb d_1_66_36 rfl (lv_at hl 1 rfl) ?_
      refine m_gr (j := 41) (C := "Ballothall") (T := TX11) (N := 14) (ci := 11) (k := 1) hx hb hts iX11 hown hG hP (yi_1 hL) (yt_1 hL) rfl (by decide) w_398 (fun _ h9 => h9) rfl rfl (yr_1_1 hL) d_1_66_37 ?_
      obtain ⟨⟨r105, M105⟩, g105, h⟩ := bd_e h
      refine kVN (As := []) (rest := []) (s_Po_winnersByPaths l z ad E M104 r105 M105 hL g105) hx hb hml hown hts w_725 n_722 w_724 w_s_87a59c w_3 md_114b2c ⟨Nat.le_of_ble_eq_true rfl, Nat.le_of_ble_eq_true rfl⟩ hG hZ hP hD hS hA 41 (wv_o (ci := 9) (yi_41 hL) (yt_41 hL)) rfl rfl rfl hl.1 rfl (Nat.le_of_ble_eq_true rfl) d_1_66_40 ⟨Nat.le_of_ble_eq_true rfl, Nat.le_of_ble_eq_true rfl⟩ (fun _ H locs hP hD hS => ?_)
      have hP : va_P z.1 classes (wv z ad E M105) H := hP
      have hD : va_D A (wv z ad E M105) := hD
      refine W.eq (g2 := F0 m 43 ls [.int (oI r105)]) rfl ?_
      refine lv_iconst (v := oI 1) hx hb d_1_66_43 (by decide +kernel) ?_
      refine lv_iload_n hx hb d_1_66_44 rfl (lv_at hl 0 rfl) ?_
      obtain ⟨ok106, h⟩ := ck_e h
      refine lv_ishl hx hb d_1_66_45 ?_
      refine nrm (oI_one_shl ok106) ?_
      obtain ⟨ok107, h⟩ := ck_e h
      obtain ⟨ok108, h⟩ := ck_e h
      refine lv_icmp_ne (tgt := 61) hx hb d_1_66_46 (by decide) (fun c9 => ?_) (fun c9 => ?_)
      · have h := ite_f (fun q => c9 ((oI_eq (a := r105) (b := (2 ^ r102.toNat)) ok107 ok108).mpr q)) h
        refine lv_iconst (v := oI 1) hx hb d_1_66_61 (by decide +kernel) ?_
        refine lv_goto (tgt := 66) hx hb d_1_66_62 (by decide) ?_
        obtain ⟨rfl, rfl⟩ := in2 h
        exact W.zret hx hb hr rfl (fun t ht hW => qkA hP hD hS (fun k => k) rfl rfl ht) hS.2.2 d_1_66_66
      · have h := ite_t ((oI_eq (a := r105) (b := (2 ^ r102.toNat)) ok107 ok108).mp c9) h
        refine lv_aload_n hx hb d_1_66_49 rfl (lv_at hl 1 rfl) ?_
        refine m_gr (j := 41) (C := "Ballothall") (T := TX11) (N := 14) (ci := 11) (k := 1) hx hb hts iX11 hown hG hP (yi_1 hL) (yt_1 hL) rfl (by decide) w_398 (fun _ h9 => h9) rfl rfl (yr_1_1 hL) d_1_66_50 ?_
        refine lv_iconst (v := oI 0) hx hb d_1_66_53 (by decide +kernel) ?_
        obtain ⟨r109, g109, h⟩ := bd_e h
        refine kVN (As := [.int (oI 0)]) (rest := []) (s_Po_consensusPlace l z ad E M105 0 r109 hL g109) hx hb hml hown hts w_742 n_739 w_741 w_s_cb37ef w_3 md_2413b1 ⟨Nat.le_of_ble_eq_true rfl, Nat.le_of_ble_eq_true rfl⟩ hG hZ hP hD hS hA 41 (wv_o (ci := 9) (yi_41 hL) (yt_41 hL)) rfl rfl rfl hl.1 rfl (Nat.le_of_ble_eq_true rfl) d_1_66_54 ⟨Nat.le_of_ble_eq_true rfl, Nat.le_of_ble_eq_true rfl⟩ (fun _ H locs hP hD hS => ?_)
        have hP : va_P z.1 classes (wv z ad E M105) H := hP
        have hD : va_D A (wv z ad E M105) := hD
        refine W.eq (g2 := F0 m 57 ls [.int (oI r109)]) rfl ?_
        refine lv_iload_n hx hb d_1_66_57 rfl (lv_at hl 0 rfl) ?_
        obtain ⟨ok110, h⟩ := ck_e h
        refine lv_icmp_eq (tgt := 65) hx hb d_1_66_58 (by decide) (fun c9 => ?_) (fun c9 => ?_)
        · have h := ite_t ((oI_eq (a := r109) (b := r102) ok110 ok103).mp c9) h
          refine lv_iconst (v := oI 0) hx hb d_1_66_65 (by decide +kernel) ?_
          obtain ⟨rfl, rfl⟩ := in2 h
          exact W.zret hx hb hr rfl (fun t ht hW => qkA hP hD hS (fun k => k) rfl rfl ht) hS.2.2 d_1_66_66
        · have h := ite_f (fun q => c9 ((oI_eq (a := r109) (b := r102) ok110 ok103).mpr q)) h
          refine lv_iconst (v := oI 1) hx hb d_1_66_61 (by decide +kernel) ?_
          refine lv_goto (tgt := 66) hx hb d_1_66_62 (by decide) ?_
          obtain ⟨rfl, rfl⟩ := in2 h
          exact W.zret hx hb hr rfl (fun t ht hW => qkA hP hD hS (fun k => k) rfl rfl ht) hS.2.2 d_1_66_66
    · have h := ite_t ((oI_eq (a := r102) (b := (-1 : Int)) ok103 (by decide)).mp c9) h
      refine lv_iconst (v := oI 0) hx hb d_1_66_27 (by decide +kernel) ?_
      obtain ⟨rfl, rfl⟩ := in2 h
      exact W.zret hx hb hr rfl (fun t ht hW => qkA hP hD hS (fun k => k) rfl rfl ht) hS.2.2 d_1_66_28
  exact key _ _ _ hts hP hS
set_option maxRecDepth 100000 in
set_option maxHeartbeats 4000000 in
theorem b_Cl_findSums_12b (l : Launch) (z : Zz) (ad : Nat → Nat) (E : Ev) (M : Mm) (x1 : Int) (x2 : Int) (t : Nat) (w2 : Int) (N : Mm) {Q : State → Prop} {p : Program} {e : Env} {s : State} {m : MethodId} {below : List Frame} {meth : Method} {c : Code} {A : Nat → Prop} {args : Array Value} (hx : p.tables.exec = Jvm.exec) (hb : c.code = prog_3_method_3_code) (hml : c.maxLocals = 3) (hts : ∀ w ∈ WG, w.before args s = true) (hown : s.vm.findClass "Ballothall$Council" = some m.cls) (hlocks : meth.locks = false) (hA : ∀ q, s.heap.size ≤ q → A q) (hG : KG z s) (hZ : FZ z A s) (hL : Lay E) (h : Cl_findSums_12b E M x1 x2 = some (t, w2, N)) (k0 : t = 0 → ∀ (H : Heap) (locs : List Loc) (ls : Array Slot), va_P z.1 classes (wv z ad E N) H → va_D A (wv z ad E N) → va_S A s.heap H locs → lv_has ls 3 [(0, .ref (ad 243)), (1, .int (oI x1)), (2, .int (oI w2))] → W p l e (rmK 0 20 0 0) s m args below meth c H locs 0 0 Q (F0 m 12 ls [])) (k1 : t = 1 → ∀ (H : Heap) (locs : List Loc) (ls : Array Slot), va_P z.1 classes (wv z ad E N) H → va_D A (wv z ad E N) → va_S A s.heap H locs → lv_has ls 3 [(0, .ref (ad 243)), (1, .int (oI x1))] → W p l e (rmK 0 20 0 0) s m args below meth c H locs 0 0 Q (F0 m 48 ls [])) : ∀ (H : Heap) (locs : List Loc) (ls : Array Slot), va_P z.1 classes (wv z ad E M) H → va_D A (wv z ad E M) → va_S A s.heap H locs → lv_has ls 3 [(0, .ref (ad 243)), (1, .int (oI x1)), (2, .int (oI x2))] → W p l e (rmK 0 20 0 0) s m args below meth c H locs 0 0 Q (F0 m 12 ls []) := by
  intro H locs ls hP hD hS hl
  unfold Cl_findSums_12b at h
  refine lv_iload_n hx hb d_3_3_12 rfl (lv_at hl 2 rfl) ?_
  refine lv_iconst (v := oI 1) hx hb d_3_3_13 (by decide +kernel) ?_
  refine lv_iload_n hx hb d_3_3_14 rfl (lv_at hl 1 rfl) ?_
  obtain ⟨ok102, h⟩ := ck_e h
  refine lv_ishl hx hb d_3_3_15 ?_
  refine nrm (oI_one_shl ok102) ?_
  obtain ⟨ok103, h⟩ := ck_e h
  obtain ⟨ok104, h⟩ := ck_e h
  refine lv_icmp_ge (tgt := 48) hx hb d_3_3_16 (by decide) (fun c9 => ?_) (fun c9 => ?_)
  · have h := ite_t ((oI_le (a := (2 ^ x1.toNat)) (b := x2) ok104 ok103).mp c9) h
    obtain ⟨rfl, rfl, rfl⟩ := in3 h
    exact k1 rfl H locs ls hP hD hS (lv_sub hl [0, 1] rfl)
  · have h := ite_f (fun q => c9 ((oI_le (a := (2 ^ x1.toNat)) (b := x2) ok104 ok103).mpr q)) h
    refine lv_aload_n hx hb d_3_3_19 rfl (lv_at hl 0 rfl) ?_
    refine m_gr (j := 245) (C := "Ballothall$Council") (T := TX1) (N := 4) (ci := 1) (k := 3) hx hb hts iX1 hown hG hP (yi_243 hL) (yt_243 hL) rfl (by decide) w_387 (fun _ h9 => h9) rfl rfl (yr_243_3 hL) d_3_3_20 ?_
    refine lv_iload_n hx hb d_3_3_23 rfl (lv_at hl 2 rfl) ?_
    refine lv_iconst (v := oI 1) hx hb d_3_3_24 (by decide +kernel) ?_
    refine lv_iload_n hx hb d_3_3_25 rfl (lv_at hl 1 rfl) ?_
    obtain ⟨ok105, h⟩ := ck_e h
    refine lv_ishl hx hb d_3_3_26 ?_
    refine nrm (oI_one_shl ok105) ?_
    obtain ⟨ok106, h⟩ := ck_e h
    obtain ⟨ok107, h⟩ := ck_e h
    refine lv_ior hx hb d_3_3_27 ?_
    refine nrm (oI_or (a := x2) (b := (2 ^ x1.toNat)) ok106.1 ok106.2 ok107.1 ok107.2) ?_
    refine lv_aload_n hx hb d_3_3_28 rfl (lv_at hl 0 rfl) ?_
    refine m_gr (j := 245) (C := "Ballothall$Council") (T := TX1) (N := 4) (ci := 1) (k := 3) hx hb hts iX1 hown hG hP (yi_243 hL) (yt_243 hL) rfl (by decide) w_387 (fun _ h9 => h9) rfl rfl (yr_243_3 hL) d_3_3_29 ?_
    refine lv_iload_n hx hb d_3_3_32 rfl (lv_at hl 2 rfl) ?_
    obtain ⟨ok108, h⟩ := ck_e h
    refine m_ia hx hb hG hP (yi_245 hL) (yt_245 hL) ok108 d_3_3_33 ?_
    refine lv_aload_n hx hb d_3_3_34 rfl (lv_at hl 0 rfl) ?_
    refine m_gr (j := 244) (C := "Ballothall$Council") (T := TX1) (N := 4) (ci := 1) (k := 2) hx hb hts iX1 hown hG hP (yi_243 hL) (yt_243 hL) rfl (by decide) w_386 (fun _ h9 => h9) rfl rfl (yr_243_2 hL) d_3_3_35 ?_
    refine lv_iload_n hx hb d_3_3_38 rfl (lv_at hl 1 rfl) ?_
    obtain ⟨ok109, h⟩ := ck_e h
    refine m_ia hx hb hG hP (yi_244 hL) (yt_244 hL) ok109 d_3_3_39 ?_
    refine lv_iadd hx hb d_3_3_40 ?_
    refine nrm (oI_add _ _) ?_
    obtain ⟨v110, e110, h⟩ := nb_e h
    refine nrm (congrArg oI e110.symm) ?_
    obtain ⟨ok111, h⟩ := ck_e h
    refine m_is hx hb hG hP hD hS (yi_245 hL) (yt_245 hL) ok111 d_3_3_41 (fun H locs hP hD hS => ?_)
    have hP : va_P z.1 classes (wv z ad E (u2 M 245 (orI x2 (2 ^ x1.toNat)).toNat v110)) H := hP
    have hD : va_D A (wv z ad E (u2 M 245 (orI x2 (2 ^ x1.toNat)).toNat v110)) := hD
    refine lv_iinc (v := oI (x2 + 1)) (lv' := [(2, .int (oI (x2 + 1))), (0, .ref (ad 243)), (1, .int (oI x1))]) hx hb d_3_3_42 hl (k := 2) rfl (oI_add x2 1) (by decide) rfl (fun ls hl => ?_)
    refine lv_goto (tgt := 12) hx hb d_3_3_45 (by decide) ?_
    obtain ⟨rfl, rfl, rfl⟩ := in3 h
    exact k0 rfl H locs ls hP hD hS (lv_sub hl [1, 2, 0] rfl)
set_option maxRecDepth 100000 in
set_option maxHeartbeats 4000000 in
theorem s_Cl_findSums_12 (l : Launch) (z : Zz) (ad : Nat → Nat) (E : Ev) (x1 : Int) {Q : State → Prop} {p : Program} {e : Env} {s : State} {m : MethodId} {below : List Frame} {meth : Method} {c : Code} {A : Nat → Prop} {args : Array Value} (hx : p.tables.exec = Jvm.exec) (hb : c.code = prog_3_method_3_code) (hml : c.maxLocals = 3) (hts : ∀ w ∈ WG, w.before args s = true) (hown : s.vm.findClass "Ballothall$Council" = some m.cls) (hlocks : meth.locks = false) (hA : ∀ q, s.heap.size ≤ q → A q) (hG : KG z s) (hZ : FZ z A s) (hL : Lay E) : ∀ (fu : Nat) (M : Mm) (x2 : Int) (t : Nat) (w2 : Int) (N : Mm), l_Cl_findSums_12 E x1 fu M x2 = some (t, w2, N) → (t = 1 → ∀ (H : Heap) (locs : List Loc) (ls : Array Slot), va_P z.1 classes (wv z ad E N) H → va_D A (wv z ad E N) → va_S A s.heap H locs → lv_has ls 3 [(0, .ref (ad 243)), (1, .int (oI x1))] → W p l e (rmK 0 20 0 0) s m args below meth c H locs 0 0 Q (F0 m 48 ls [])) → ∀ (H : Heap) (locs : List Loc) (ls : Array Slot), va_P z.1 classes (wv z ad E M) H → va_D A (wv z ad E M) → va_S A s.heap H locs → lv_has ls 3 [(0, .ref (ad 243)), (1, .int (oI x1)), (2, .int (oI x2))] → W p l e (rmK 0 20 0 0) s m args below meth c H locs 0 0 Q (F0 m 12 ls []) := by
  intro fu
  induction fu with
  | zero =>
    intro M x2 t w2 N h
    have h : (none : Option (Nat × Int × Mm)) = some _ := h
    cases h
  | succ fu ih =>
    intro M x2 t w2 N h k1 H locs ls hP hD hS hl
    obtain ⟨⟨t0, w20, N9⟩, g0, h⟩ := bd_e h
    refine b_Cl_findSums_12b l z ad E M x1 x2 t0 w20 N9 hx hb hml hts hown hlocks hA hG hZ hL g0 (fun e0 => ?_) (fun e0 => ?_) H locs ls hP hD hS hl
    · subst e0
      have h := ite_t rfl h
      exact ih N9 w20 t w2 N h k1
    · subst e0
      have h := ite_f (by decide) h
      obtain ⟨rfl, rfl, rfl⟩ := in3 h
      exact k1 rfl
set_option maxRecDepth 100000 in
set_option maxHeartbeats 4000000 in
theorem b_Cl_findSums_2b (l : Launch) (z : Zz) (ad : Nat → Nat) (E : Ev) (M : Mm) (x1 : Int) (t : Nat) (w1 : Int) (N : Mm) {Q : State → Prop} {p : Program} {e : Env} {s : State} {m : MethodId} {below : List Frame} {meth : Method} {c : Code} {A : Nat → Prop} {args : Array Value} (hx : p.tables.exec = Jvm.exec) (hb : c.code = prog_3_method_3_code) (hml : c.maxLocals = 3) (hts : ∀ w ∈ WG, w.before args s = true) (hown : s.vm.findClass "Ballothall$Council" = some m.cls) (hlocks : meth.locks = false) (hA : ∀ q, s.heap.size ≤ q → A q) (hG : KG z s) (hZ : FZ z A s) (hL : Lay E) (h : Cl_findSums_2b E M x1 = some (t, w1, N)) (k0 : t = 0 → ∀ (H : Heap) (locs : List Loc) (ls : Array Slot), va_P z.1 classes (wv z ad E N) H → va_D A (wv z ad E N) → va_S A s.heap H locs → lv_has ls 3 [(0, .ref (ad 243)), (1, .int (oI w1))] → W p l e (rmK 0 20 0 0) s m args below meth c H locs 0 0 Q (F0 m 2 ls [])) (k1 : t = 1 → ∀ (H : Heap) (locs : List Loc) (ls : Array Slot), va_P z.1 classes (wv z ad E N) H → va_D A (wv z ad E N) → va_S A s.heap H locs → lv_has ls 3 [] → W p l e (rmK 0 20 0 0) s m args below meth c H locs 0 0 Q (F0 m 54 ls [])) : ∀ (H : Heap) (locs : List Loc) (ls : Array Slot), va_P z.1 classes (wv z ad E M) H → va_D A (wv z ad E M) → va_S A s.heap H locs → lv_has ls 3 [(0, .ref (ad 243)), (1, .int (oI x1))] → W p l e (rmK 0 20 0 0) s m args below meth c H locs 0 0 Q (F0 m 2 ls []) := by
  intro H locs ls hP hD hS hl
  unfold Cl_findSums_2b at h
  refine lv_iload_n hx hb d_3_3_2 rfl (lv_at hl 1 rfl) ?_
  refine lv_aload_n hx hb d_3_3_3 rfl (lv_at hl 0 rfl) ?_
  refine m_gi (C := "Ballothall$Council") (T := TX1) (N := 4) (ci := 1) (k := 0) hx hb hts iX1 hown hG hP (yi_243 hL) (yt_243 hL) rfl (by decide) w_382 (fun _ h9 => h9) rfl rfl d_3_3_4 ?_
  obtain ⟨ok100, h⟩ := ck_e h
  obtain ⟨ok101, h⟩ := ck_e h
  refine lv_icmp_ge (tgt := 54) hx hb d_3_3_7 (by decide) (fun c9 => ?_) (fun c9 => ?_)
  · have h := ite_t ((oI_le (a := (M 243 0)) (b := x1) ok101 ok100).mp c9) h
    obtain ⟨rfl, rfl, rfl⟩ := in3 h
    exact k1 rfl H locs ls hP hD hS (lv_sub hl [] rfl)
  · have h := ite_f (fun q => c9 ((oI_le (a := (M 243 0)) (b := x1) ok101 ok100).mpr q)) h
    refine lv_iconst (v := oI 0) hx hb d_3_3_10 (by decide +kernel) ?_
    refine lv_istore_n (lv' := [(2, .int (oI 0)), (0, .ref (ad 243)), (1, .int (oI x1))]) hx hb d_3_3_11 rfl hl (by decide) rfl (fun ls hl => ?_)
    obtain ⟨⟨t112, v112_2, M112⟩, g112, h⟩ := bd_e h
    obtain ⟨ok112, h⟩ := ck_e h
    refine s_Cl_findSums_12 l z ad E x1 hx hb hml hts hown hlocks hA hG hZ hL FU M 0 t112 v112_2 M112 g112 (fun e112 H locs ls hP hD hS hl => ?_) H locs ls hP hD hS (lv_sub hl [1, 2, 0] rfl)
    refine lv_iinc (v := oI (x1 + 1)) (lv' := [(1, .int (oI (x1 + 1))), (0, .ref (ad 243))]) hx hb d_3_3_48 hl (k := 1) rfl (oI_add x1 1) (by decide) rfl (fun ls hl => ?_)
    refine lv_goto (tgt := 2) hx hb d_3_3_51 (by decide) ?_
    obtain ⟨rfl, rfl, rfl⟩ := in3 h
    exact k0 rfl H locs ls hP hD hS (lv_sub hl [1, 0] rfl)
set_option maxRecDepth 100000 in
set_option maxHeartbeats 4000000 in
theorem s_Cl_findSums_2 (l : Launch) (z : Zz) (ad : Nat → Nat) (E : Ev) {Q : State → Prop} {p : Program} {e : Env} {s : State} {m : MethodId} {below : List Frame} {meth : Method} {c : Code} {A : Nat → Prop} {args : Array Value} (hx : p.tables.exec = Jvm.exec) (hb : c.code = prog_3_method_3_code) (hml : c.maxLocals = 3) (hts : ∀ w ∈ WG, w.before args s = true) (hown : s.vm.findClass "Ballothall$Council" = some m.cls) (hlocks : meth.locks = false) (hA : ∀ q, s.heap.size ≤ q → A q) (hG : KG z s) (hZ : FZ z A s) (hL : Lay E) : ∀ (fu : Nat) (M : Mm) (x1 : Int) (t : Nat) (w1 : Int) (N : Mm), l_Cl_findSums_2 E fu M x1 = some (t, w1, N) → (t = 1 → ∀ (H : Heap) (locs : List Loc) (ls : Array Slot), va_P z.1 classes (wv z ad E N) H → va_D A (wv z ad E N) → va_S A s.heap H locs → lv_has ls 3 [] → W p l e (rmK 0 20 0 0) s m args below meth c H locs 0 0 Q (F0 m 54 ls [])) → ∀ (H : Heap) (locs : List Loc) (ls : Array Slot), va_P z.1 classes (wv z ad E M) H → va_D A (wv z ad E M) → va_S A s.heap H locs → lv_has ls 3 [(0, .ref (ad 243)), (1, .int (oI x1))] → W p l e (rmK 0 20 0 0) s m args below meth c H locs 0 0 Q (F0 m 2 ls []) := by
  intro fu
  induction fu with
  | zero =>
    intro M x1 t w1 N h
    have h : (none : Option (Nat × Int × Mm)) = some _ := h
    cases h
  | succ fu ih =>
    intro M x1 t w1 N h k1 H locs ls hP hD hS hl
    obtain ⟨⟨t0, w10, N9⟩, g0, h⟩ := bd_e h
    refine b_Cl_findSums_2b l z ad E M x1 t0 w10 N9 hx hb hml hts hown hlocks hA hG hZ hL g0 (fun e0 => ?_) (fun e0 => ?_) H locs ls hP hD hS hl
    · subst e0
      have h := ite_t rfl h
      exact ih N9 w10 t w1 N h k1
    · subst e0
      have h := ite_f (by decide) h
      obtain ⟨rfl, rfl, rfl⟩ := in3 h
      exact k1 rfl
set_option maxRecDepth 100000 in
set_option maxHeartbeats 4000000 in
theorem s_Cl_findSums (l : Launch) (z : Zz) (ad : Nat → Nat) (E : Ev) (M : Mm) (N : Mm) (hL : Lay E) (h : f_Cl_findSums E M = some N) : CT l z ⟨"Ballothall$Council", "findSums", "()V"⟩ prog_3_method_3_code 3 none [.ref (ad 243)] (wv z ad E M) 0 20 0 0 (fun _ => none) (fun _ => (wv z ad E N)) := by
  refine CT.of (own := "Ballothall$Council") (by decide +kernel) (Nat.le_of_ble_eq_true rfl) rfl (fun p e s m below meth c A ls hx hb hml hr hts hown hlocks hin hA hG hZ hP hD hS hl => ?_)
  have hl : lv_has ls 3 [(0, .ref (ad 243))] := hl
  have key : ∀ (H : Heap) (locs : List Loc) (args : Array Value), (∀ w ∈ WG, w.before args s = true) → va_P z.1 classes (wv z ad E M) H → va_S A s.heap H locs → W p l e (rmK 0 20 0 0) s m args below meth c H locs 0 0 (MQ below (QK z A (fun _ => none) (fun _ => (wv z ad E N))) args s 0 0 A) (F0 m 0 ls []) := by
    intro H locs args hts hP hS
    unfold f_Cl_findSums at h
    refine lv_iconst (v := oI 0) hx hb d_3_3_0 (by decide +kernel) ?_
    refine lv_istore_n (lv' := [(1, .int (oI 0)), (0, .ref (ad 243))]) hx hb d_3_3_1 rfl hl (by decide) rfl (fun ls hl => ?_)
    obtain ⟨⟨t113, v113_1, M113⟩, g113, h⟩ := bd_e h
    obtain ⟨ok113, h⟩ := ck_e h
    refine s_Cl_findSums_2 l z ad E hx hb hml hts hown hlocks hA hG hZ hL FU M 0 t113 v113_1 M113 g113 (fun e113 H locs ls hP hD hS hl => ?_) H locs ls hP hD hS (lv_sub hl [1, 0] rfl)
    obtain rfl := in1 h
    exact W.vret hx hb hr (fun t ht hW => qkA hP hD hS (fun k => k) rfl rfl ht) hS.2.2 d_3_3_54
  exact key _ _ _ hts hP hS
set_option maxRecDepth 100000 in
set_option maxHeartbeats 4000000 in
theorem s_Cl_isSwung (l : Launch) (z : Zz) (ad : Nat → Nat) (E : Ev) (M : Mm) (x1 : Int) (x2 : Int) (r : Int)  (hL : Lay E) (h : f_Cl_isSwung E M x1 x2 = some r) : CT l z ⟨"Ballothall$Council", "isSwung", "(II)Z"⟩ prog_3_method_4_code 3 (some .boolean) [.ref (ad 243), .int (oI x1), .int (oI x2)] (wv z ad E M) 1 41 0 0 (fun _ => some (.int (oI r))) (fun _ => (wv z ad E M)) := by
  refine CT.of (own := "Ballothall$Council") (by decide +kernel) (Nat.le_of_ble_eq_true rfl) rfl (fun p e s m below meth c A ls hx hb hml hr hts hown hlocks hin hA hG hZ hP hD hS hl => ?_)
  have hl : lv_has ls 3 [(0, .ref (ad 243)), (1, .int (oI x1)), (2, .int (oI x2))] := hl
  have key : ∀ (H : Heap) (locs : List Loc) (args : Array Value), (∀ w ∈ WG, w.before args s = true) → va_P z.1 classes (wv z ad E M) H → va_S A s.heap H locs → W p l e (rmK 1 41 0 0) s m args below meth c H locs 0 0 (MQ below (QK z A (fun _ => some (.int (oI r))) (fun _ => (wv z ad E M))) args s 0 0 A) (F0 m 0 ls []) := by
    intro H locs args hts hP hS
    unfold f_Cl_isSwung at h
    refine lv_aload_n hx hb d_3_4_0 rfl (lv_at hl 0 rfl) ?_
    refine m_gr (j := 245) (C := "Ballothall$Council") (T := TX1) (N := 4) (ci := 1) (k := 3) hx hb hts iX1 hown hG hP (yi_243 hL) (yt_243 hL) rfl (by decide) w_387 (fun _ h9 => h9) rfl rfl (yr_243_3 hL) d_3_4_1 ?_
    refine lv_iload_n hx hb d_3_4_4 rfl (lv_at hl 1 rfl) ?_
    obtain ⟨ok100, h⟩ := ck_e h
    refine m_ia hx hb hG hP (yi_245 hL) (yt_245 hL) ok100 d_3_4_5 ?_
    refine lv_aload_n hx hb d_3_4_6 rfl (lv_at hl 0 rfl) ?_
    refine m_gi (C := "Ballothall$Council") (T := TX1) (N := 4) (ci := 1) (k := 1) hx hb hts iX1 hown hG hP (yi_243 hL) (yt_243 hL) rfl (by decide) w_384 (fun _ h9 => h9) rfl rfl d_3_4_7 ?_
    obtain ⟨ok101, h⟩ := ck_e h
    obtain ⟨ok102, h⟩ := ck_e h
    refine lv_icmp_ge (tgt := 45) hx hb d_3_4_10 (by decide) (fun c9 => ?_) (fun c9 => ?_)
    · have h := ite_t ((oI_le (a := (M 243 1)) (b := (M 245 x1.toNat)) ok102 ok101).mp c9) h
      refine lv_iconst (v := oI 0) hx hb d_3_4_45 (by decide +kernel) ?_
      obtain rfl := in1 h
      exact W.zret hx hb hr rfl (fun t ht hW => qkA hP hD hS (fun k => k) rfl rfl ht) hS.2.2 d_3_4_46
    · have h := ite_f (fun q => c9 ((oI_le (a := (M 243 1)) (b := (M 245 x1.toNat)) ok102 ok101).mpr q)) h
      refine lv_aload_n hx hb d_3_4_13 rfl (lv_at hl 0 rfl) ?_
      refine m_gr (j := 245) (C := "Ballothall$Council") (T := TX1) (N := 4) (ci := 1) (k := 3) hx hb hts iX1 hown hG hP (yi_243 hL) (yt_243 hL) rfl (by decide) w_387 (fun _ h9 => h9) rfl rfl (yr_243_3 hL) d_3_4_14 ?_
      refine lv_iload_n hx hb d_3_4_17 rfl (lv_at hl 1 rfl) ?_
      refine m_ia hx hb hG hP (yi_245 hL) (yt_245 hL) ok100 d_3_4_18 ?_
      refine lv_aload_n hx hb d_3_4_19 rfl (lv_at hl 0 rfl) ?_
      refine m_gr (j := 244) (C := "Ballothall$Council") (T := TX1) (N := 4) (ci := 1) (k := 2) hx hb hts iX1 hown hG hP (yi_243 hL) (yt_243 hL) rfl (by decide) w_386 (fun _ h9 => h9) rfl rfl (yr_243_2 hL) d_3_4_20 ?_
      refine lv_iload_n hx hb d_3_4_23 rfl (lv_at hl 2 rfl) ?_
      obtain ⟨ok103, h⟩ := ck_e h
      refine m_ia hx hb hG hP (yi_244 hL) (yt_244 hL) ok103 d_3_4_24 ?_
      refine lv_iadd hx hb d_3_4_25 ?_
      refine nrm (oI_add _ _) ?_
      refine lv_aload_n hx hb d_3_4_26 rfl (lv_at hl 0 rfl) ?_
      refine m_gi (C := "Ballothall$Council") (T := TX1) (N := 4) (ci := 1) (k := 1) hx hb hts iX1 hown hG hP (yi_243 hL) (yt_243 hL) rfl (by decide) w_384 (fun _ h9 => h9) rfl rfl d_3_4_27 ?_
      obtain ⟨ok104, h⟩ := ck_e h
      refine lv_icmp_lt (tgt := 45) hx hb d_3_4_30 (by decide) (fun c9 => ?_) (fun c9 => ?_)
      · have h := ite_t ((oI_lt (a := ((M 245 x1.toNat) + (M 244 x2.toNat))) (b := (M 243 1)) ok104 ok102).mp c9) h
        refine lv_iconst (v := oI 0) hx hb d_3_4_45 (by decide +kernel) ?_
        obtain rfl := in1 h
        exact W.zret hx hb hr rfl (fun t ht hW => qkA hP hD hS (fun k => k) rfl rfl ht) hS.2.2 d_3_4_46
      · have h := ite_f (fun q => c9 ((oI_lt (a := ((M 245 x1.toNat) + (M 244 x2.toNat))) (b := (M 243 1)) ok104 ok102).mpr q)) h
        refine lv_iload_n hx hb d_3_4_33 rfl (lv_at hl 1 rfl) ?_
        refine lv_iload_n hx hb d_3_4_34 rfl (lv_at hl 2 rfl) ?_
        obtain ⟨r105, g105, h⟩ := bd_e h
        refine kSN (As := [.int (oI x1), .int (oI x2)]) (rest := []) (s_B_has l z ad E M x1 x2 r105 hL g105) hx hb hml hown hts w_693 n_763 w_692 w_1 md_26545c ⟨Nat.le_of_ble_eq_true rfl, Nat.le_of_ble_eq_true rfl⟩ hG hZ hP hD hS hA rfl hl.1 rfl (Nat.le_of_ble_eq_true rfl) d_3_4_35 ⟨Nat.le_of_ble_eq_true rfl, Nat.le_of_ble_eq_true rfl⟩ (fun _ H locs hP hD hS => ?_)
        have hP : va_P z.1 classes (wv z ad E M) H := hP
        have hD : va_D A (wv z ad E M) := hD
        refine W.eq (g2 := F0 m 38 ls [.int (oI r105)]) rfl ?_
        obtain ⟨ok106, h⟩ := ck_e h
        refine lv_if_ne (tgt := 45) hx hb d_3_4_38 (by decide) (fun c9 => ?_) (fun c9 => ?_)
        · have h := ite_f (fun q => c9 ((oI_eq0 ok106).mpr q)) h
          refine lv_iconst (v := oI 0) hx hb d_3_4_45 (by decide +kernel) ?_
          obtain rfl := in1 h
          exact W.zret hx hb hr rfl (fun t ht hW => qkA hP hD hS (fun k => k) rfl rfl ht) hS.2.2 d_3_4_46
        · have h := ite_t ((oI_eq0 ok106).mp c9) h
          refine lv_iconst (v := oI 1) hx hb d_3_4_41 (by decide +kernel) ?_
          refine lv_goto (tgt := 46) hx hb d_3_4_42 (by decide) ?_
          obtain rfl := in1 h
          exact W.zret hx hb hr rfl (fun t ht hW => qkA hP hD hS (fun k => k) rfl rfl ht) hS.2.2 d_3_4_46
  exact key _ _ _ hts hP hS
set_option maxRecDepth 100000 in
set_option maxHeartbeats 4000000 in
theorem b_Cl_ordersTurnedBy_5b (l : Launch) (z : Zz) (ad : Nat → Nat) (E : Ev) (M : Mm) (x1 : Int) (x2 : Int) (x4 : Int) (t : Nat) (w2 : Int) (w4 : Int)  {Q : State → Prop} {p : Program} {e : Env} {s : State} {m : MethodId} {below : List Frame} {meth : Method} {c : Code} {A : Nat → Prop} {args : Array Value} (hx : p.tables.exec = Jvm.exec) (hb : c.code = prog_3_method_6_code) (hml : c.maxLocals = 6) (hts : ∀ w ∈ WG, w.before args s = true) (hown : s.vm.findClass "Ballothall$Council" = some m.cls) (hlocks : meth.locks = false) (hA : ∀ q, s.heap.size ≤ q → A q) (hG : KG z s) (hZ : FZ z A s) (hL : Lay E) (h : Cl_ordersTurnedBy_5b E M x1 x2 x4 = some (t, w2, w4)) (k0 : t = 0 → ∀ (H : Heap) (locs : List Loc) (ls : Array Slot), va_P z.1 classes (wv z ad E M) H → va_D A (wv z ad E M) → va_S A s.heap H locs → lv_has ls 6 [(0, .ref (ad 243)), (1, .int (oI x1)), (2, .long (oJ w2)), (4, .int (oI w4))] → W p l e (rmK 2 63 0 0) s m args below meth c H locs 0 0 Q (F0 m 5 ls [])) (k1 : t = 1 → ∀ (H : Heap) (locs : List Loc) (ls : Array Slot), va_P z.1 classes (wv z ad E M) H → va_D A (wv z ad E M) → va_S A s.heap H locs → lv_has ls 6 [(2, .long (oJ w2))] → W p l e (rmK 2 63 0 0) s m args below meth c H locs 0 0 Q (F0 m 62 ls [])) : ∀ (H : Heap) (locs : List Loc) (ls : Array Slot), va_P z.1 classes (wv z ad E M) H → va_D A (wv z ad E M) → va_S A s.heap H locs → lv_has ls 6 [(0, .ref (ad 243)), (1, .int (oI x1)), (2, .long (oJ x2)), (4, .int (oI x4))] → W p l e (rmK 2 63 0 0) s m args below meth c H locs 0 0 Q (F0 m 5 ls []) := by
  intro H locs ls hP hD hS hl
  unfold Cl_ordersTurnedBy_5b at h
  refine lv_iload hx hb d_3_6_5 (lv_at hl 3 rfl) ?_
  refine lv_iconst (v := oI 1) hx hb d_3_6_7 (by decide +kernel) ?_
  refine lv_aload_n hx hb d_3_6_8 rfl (lv_at hl 0 rfl) ?_
  refine m_gi (C := "Ballothall$Council") (T := TX1) (N := 4) (ci := 1) (k := 0) hx hb hts iX1 hown hG hP (yi_243 hL) (yt_243 hL) rfl (by decide) w_382 (fun _ h9 => h9) rfl rfl d_3_6_9 ?_
  obtain ⟨ok100, h⟩ := ck_e h
  refine lv_ishl hx hb d_3_6_12 ?_
  refine nrm (oI_one_shl ok100) ?_
  obtain ⟨ok101, h⟩ := ck_e h
  obtain ⟨ok102, h⟩ := ck_e h
  refine lv_icmp_ge (tgt := 62) hx hb d_3_6_13 (by decide) (fun c9 => ?_) (fun c9 => ?_)
  · have h := ite_t ((oI_le (a := (2 ^ (M 243 0).toNat)) (b := x4) ok102 ok101).mp c9) h
    obtain ⟨rfl, rfl, rfl⟩ := in3 h
    exact k1 rfl H locs ls hP hD hS (lv_sub hl [2] rfl)
  · have h := ite_f (fun q => c9 ((oI_le (a := (2 ^ (M 243 0).toNat)) (b := x4) ok102 ok101).mpr q)) h
    refine lv_aload_n hx hb d_3_6_16 rfl (lv_at hl 0 rfl) ?_
    refine lv_iload hx hb d_3_6_17 (lv_at hl 3 rfl) ?_
    refine lv_iload_n hx hb d_3_6_19 rfl (lv_at hl 1 rfl) ?_
    obtain ⟨r103, g103, h⟩ := bd_e h
    refine kV (As := [.int (oI x4), .int (oI x1)]) (rest := []) (s_Cl_isSwung l z ad E M x4 x1 r103 hL g103) hx hb hml hown hts w_762 w_759 w_761 w_s_ce08ed w_11 md_99b449 ⟨Nat.le_of_ble_eq_true rfl, Nat.le_of_ble_eq_true rfl⟩ hG hZ hP hD hS hA 243 (wv_o (ci := 1) (yi_243 hL) (yt_243 hL)) rfl rfl rfl hl.1 rfl (Nat.le_of_ble_eq_true rfl) d_3_6_20 ⟨Nat.le_of_ble_eq_true rfl, Nat.le_of_ble_eq_true rfl⟩ (fun _ H locs hP hD hS => ?_)
    have hP : va_P z.1 classes (wv z ad E M) H := hP
    have hD : va_D A (wv z ad E M) := hD
    refine W.eq (g2 := F0 m 23 ls [.int (oI r103)]) rfl ?_
    obtain ⟨ok104, h⟩ := ck_e h
    refine lv_if_eq (tgt := 56) hx hb d_3_6_23 (by decide) (fun c9 => ?_) (fun c9 => ?_)
    · have h := ite_t ((oI_eq0 ok104).mp c9) h
      refine lv_iinc (v := oI (x4 + 1)) (lv' := [(4, .int (oI (x4 + 1))), (0, .ref (ad 243)), (1, .int (oI x1)), (2, .long (oJ x2))]) hx hb d_3_6_56 hl (k := 3) rfl (oI_add x4 1) (by decide) rfl (fun ls hl => ?_)
      refine lv_goto (tgt := 5) hx hb d_3_6_59 (by decide) ?_
      obtain ⟨rfl, rfl, rfl⟩ := in3 h
      exact k0 rfl H locs ls hP hD hS (lv_sub hl [1, 2, 3, 0] rfl)
    · have h := ite_f (fun q => c9 ((oI_eq0 ok104).mpr q)) h
      refine lv_iload hx hb d_3_6_26 (lv_at hl 3 rfl) ?_
      obtain ⟨r105, g105, h⟩ := bd_e h
      refine kS (As := [.int (oI x4)]) (rest := []) (s_In_bitCount l z ad E M x4 r105 hL g105) hx hb hml hown hts w_657 w_764 w_656 w_30 md_eafe8c ⟨Nat.le_of_ble_eq_true rfl, Nat.le_of_ble_eq_true rfl⟩ hG hZ hP hD hS hA rfl hl.1 rfl (Nat.le_of_ble_eq_true rfl) d_3_6_28 ⟨Nat.le_of_ble_eq_true rfl, Nat.le_of_ble_eq_true rfl⟩ (fun _ H locs hP hD hS => ?_)
      have hP : va_P z.1 classes (wv z ad E M) H := hP
      have hD : va_D A (wv z ad E M) := hD
      refine W.eq (g2 := F0 m 31 ls [.int (oI r105)]) rfl ?_
      refine lv_istore (lv' := [(5, .int (oI r105)), (0, .ref (ad 243)), (1, .int (oI x1)), (2, .long (oJ x2)), (4, .int (oI x4))]) hx hb d_3_6_31 hl (by decide) rfl (fun ls hl => ?_)
      refine lv_lload_n hx hb d_3_6_33 rfl (lv_at hl 3 rfl) ?_
      obtain ⟨fa, hf1, hf2⟩ := hZ.1
      refine va_getsN hx hb hf1 hS hown (va_Nw.use rfl (hG.2.1 _ n_765 rfl)) (fun _ h9 => h9) d_3_6_34 ?_
      refine lv_iload hx hb d_3_6_37 (lv_at hl 0 rfl) ?_
      obtain ⟨ok107, h⟩ := ck_e h
      refine m_fl hx hb hf2 hS ok107 d_3_6_39 ?_
      obtain ⟨fa, hf1, hf2⟩ := hZ.1
      refine va_getsN hx hb hf1 hS hown (va_Nw.use rfl (hG.2.1 _ n_765 rfl)) (fun _ h9 => h9) d_3_6_40 ?_
      refine lv_aload_n hx hb d_3_6_43 rfl (lv_at hl 1 rfl) ?_
      refine m_gi (C := "Ballothall$Council") (T := TX1) (N := 4) (ci := 1) (k := 0) hx hb hts iX1 hown hG hP (yi_243 hL) (yt_243 hL) rfl (by decide) w_382 (fun _ h9 => h9) rfl rfl d_3_6_44 ?_
      refine lv_iconst (v := oI 1) hx hb d_3_6_47 (by decide +kernel) ?_
      refine lv_isub hx hb d_3_6_48 ?_
      refine nrm (oI_sub _ _) ?_
      refine lv_iload hx hb d_3_6_49 (lv_at hl 0 rfl) ?_
      refine lv_isub hx hb d_3_6_51 ?_
      refine nrm (oI_sub _ _) ?_
      obtain ⟨ok109, h⟩ := ck_e h
      refine m_fl hx hb hf2 hS ok109 d_3_6_52 ?_
      refine lv_lmul hx hb d_3_6_53 ?_
      refine nrmL (oJ_mul _ _) ?_
      refine lv_ladd hx hb d_3_6_54 ?_
      refine nrmL (oJ_add _ _) ?_
      obtain ⟨v110, e110, h⟩ := nb_e h
      refine nrmL (congrArg oJ e110.symm) ?_
      refine lv_lstore_n (lv' := [(2, .long (oJ v110)), (5, .int (oI r105)), (0, .ref (ad 243)), (1, .int (oI x1)), (4, .int (oI x4))]) hx hb d_3_6_55 rfl hl (by decide) rfl (fun ls hl => ?_)
      refine lv_iinc (v := oI (x4 + 1)) (lv' := [(4, .int (oI (x4 + 1))), (2, .long (oJ v110)), (5, .int (oI r105)), (0, .ref (ad 243)), (1, .int (oI x1))]) hx hb d_3_6_56 hl (k := 4) rfl (oI_add x4 1) (by decide) rfl (fun ls hl => ?_)
      refine lv_goto (tgt := 5) hx hb d_3_6_59 (by decide) ?_
      obtain ⟨rfl, rfl, rfl⟩ := in3 h
      exact k0 rfl H locs ls hP hD hS (lv_sub hl [3, 4, 1, 0] rfl)
set_option maxRecDepth 100000 in
set_option maxHeartbeats 4000000 in
theorem s_Cl_ordersTurnedBy_5 (l : Launch) (z : Zz) (ad : Nat → Nat) (E : Ev) (x1 : Int) {Q : State → Prop} {p : Program} {e : Env} {s : State} {m : MethodId} {below : List Frame} {meth : Method} {c : Code} {A : Nat → Prop} {args : Array Value} (hx : p.tables.exec = Jvm.exec) (hb : c.code = prog_3_method_6_code) (hml : c.maxLocals = 6) (hts : ∀ w ∈ WG, w.before args s = true) (hown : s.vm.findClass "Ballothall$Council" = some m.cls) (hlocks : meth.locks = false) (hA : ∀ q, s.heap.size ≤ q → A q) (hG : KG z s) (hZ : FZ z A s) (hL : Lay E) : ∀ (fu : Nat) (M : Mm) (x2 : Int) (x4 : Int) (t : Nat) (w2 : Int) (w4 : Int), l_Cl_ordersTurnedBy_5 E x1 fu M x2 x4 = some (t, w2, w4) → (t = 1 → ∀ (H : Heap) (locs : List Loc) (ls : Array Slot), va_P z.1 classes (wv z ad E M) H → va_D A (wv z ad E M) → va_S A s.heap H locs → lv_has ls 6 [(2, .long (oJ w2))] → W p l e (rmK 2 63 0 0) s m args below meth c H locs 0 0 Q (F0 m 62 ls [])) → ∀ (H : Heap) (locs : List Loc) (ls : Array Slot), va_P z.1 classes (wv z ad E M) H → va_D A (wv z ad E M) → va_S A s.heap H locs → lv_has ls 6 [(0, .ref (ad 243)), (1, .int (oI x1)), (2, .long (oJ x2)), (4, .int (oI x4))] → W p l e (rmK 2 63 0 0) s m args below meth c H locs 0 0 Q (F0 m 5 ls []) := by
  intro fu
  induction fu with
  | zero =>
    intro M x2 x4 t w2 w4 h
    have h : (none : Option (Nat × Int × Int)) = some _ := h
    cases h
  | succ fu ih =>
    intro M x2 x4 t w2 w4 h k1 H locs ls hP hD hS hl
    obtain ⟨⟨t0, w20, w40⟩, g0, h⟩ := bd_e h
    refine b_Cl_ordersTurnedBy_5b l z ad E M x1 x2 x4 t0 w20 w40 hx hb hml hts hown hlocks hA hG hZ hL g0 (fun e0 => ?_) (fun e0 => ?_) H locs ls hP hD hS hl
    · subst e0
      have h := ite_t rfl h
      exact ih M w20 w40 t w2 w4 h k1
    · subst e0
      have h := ite_f (by decide) h
      obtain ⟨rfl, rfl, rfl⟩ := in3 h
      exact k1 rfl
set_option maxRecDepth 100000 in
set_option maxHeartbeats 4000000 in
theorem s_Cl_ordersTurnedBy (l : Launch) (z : Zz) (ad : Nat → Nat) (E : Ev) (M : Mm) (x1 : Int) (r : Int)  (hL : Lay E) (h : f_Cl_ordersTurnedBy E M x1 = some r) : CT l z ⟨"Ballothall$Council", "ordersTurnedBy", "(I)J"⟩ prog_3_method_6_code 6 (some .long) [.ref (ad 243), .int (oI x1)] (wv z ad E M) 2 63 0 0 (fun _ => some (.long (oJ r))) (fun _ => (wv z ad E M)) := by
  refine CT.of (own := "Ballothall$Council") (by decide +kernel) (Nat.le_of_ble_eq_true rfl) rfl (fun p e s m below meth c A ls hx hb hml hr hts hown hlocks hin hA hG hZ hP hD hS hl => ?_)
  have hl : lv_has ls 6 [(0, .ref (ad 243)), (1, .int (oI x1))] := hl
  have key : ∀ (H : Heap) (locs : List Loc) (args : Array Value), (∀ w ∈ WG, w.before args s = true) → va_P z.1 classes (wv z ad E M) H → va_S A s.heap H locs → W p l e (rmK 2 63 0 0) s m args below meth c H locs 0 0 (MQ below (QK z A (fun _ => some (.long (oJ r))) (fun _ => (wv z ad E M))) args s 0 0 A) (F0 m 0 ls []) := by
    intro H locs args hts hP hS
    unfold f_Cl_ordersTurnedBy at h
    refine lv_lconst (v := oJ 0) hx hb d_3_6_0 (by decide +kernel) ?_
    refine lv_lstore_n (lv' := [(2, .long (oJ 0)), (0, .ref (ad 243)), (1, .int (oI x1))]) hx hb d_3_6_1 rfl hl (by decide) rfl (fun ls hl => ?_)
    refine lv_iconst (v := oI 0) hx hb d_3_6_2 (by decide +kernel) ?_
    refine lv_istore (lv' := [(4, .int (oI 0)), (2, .long (oJ 0)), (0, .ref (ad 243)), (1, .int (oI x1))]) hx hb d_3_6_3 hl (by decide) rfl (fun ls hl => ?_)
    obtain ⟨⟨t111, v111_2, v111_4⟩, g111, h⟩ := bd_e h
    obtain ⟨ok111, h⟩ := ck_e h
    refine s_Cl_ordersTurnedBy_5 l z ad E x1 hx hb hml hts hown hlocks hA hG hZ hL FU M 0 0 t111 v111_2 v111_4 g111 (fun e111 H locs ls hP hD hS hl => ?_) H locs ls hP hD hS (lv_sub hl [2, 3, 1, 0] rfl)
    refine lv_lload_n hx hb d_3_6_62 rfl (lv_at hl 0 rfl) ?_
    obtain rfl := in1 h
    exact W.lret hx hb hr (fun t ht hW => qkA hP hD hS (fun k => k) rfl rfl ht) hS.2.2 d_3_6_63
  exact key _ _ _ hts hP hS
set_option maxRecDepth 100000 in
set_option maxHeartbeats 4000000 in
theorem b_Cl_isOrderMissed_8b (l : Launch) (z : Zz) (ad : Nat → Nat) (E : Ev) (M : Mm) (x1 : Int) (x3 : Int) (t : Nat) (w1 : Int) (w3 : Int) (N : Mm) {Q : State → Prop} {p : Program} {e : Env} {s : State} {m : MethodId} {below : List Frame} {meth : Method} {c : Code} {A : Nat → Prop} {args : Array Value} (hx : p.tables.exec = Jvm.exec) (hb : c.code = prog_3_method_7_code) (hml : c.maxLocals = 4) (hts : ∀ w ∈ WG, w.before args s = true) (hown : s.vm.findClass "Ballothall$Council" = some m.cls) (hlocks : meth.locks = false) (hA : ∀ q, s.heap.size ≤ q → A q) (hG : KG z s) (hZ : FZ z A s) (hL : Lay E) (h : Cl_isOrderMissed_8b E M x1 x3 = some (t, w1, w3, N)) (k0 : t = 0 → ∀ (H : Heap) (locs : List Loc) (ls : Array Slot), va_P z.1 classes (wv z ad E N) H → va_D A (wv z ad E N) → va_S A s.heap H locs → lv_has ls 4 [(0, .ref (ad 243)), (1, .long (oJ w1)), (3, .int (oI w3))] → W p l e (rmK 3 88 0 0) s m args below meth c H locs 0 0 Q (F0 m 8 ls [])) (k1 : t = 1 → ∀ (H : Heap) (locs : List Loc) (ls : Array Slot), va_P z.1 classes (wv z ad E N) H → va_D A (wv z ad E N) → va_S A s.heap H locs → lv_has ls 4 [(0, .ref (ad 243)), (1, .long (oJ w1))] → W p l e (rmK 3 88 0 0) s m args below meth c H locs 0 0 Q (F0 m 30 ls [])) : ∀ (H : Heap) (locs : List Loc) (ls : Array Slot), va_P z.1 classes (wv z ad E M) H → va_D A (wv z ad E M) → va_S A s.heap H locs → lv_has ls 4 [(0, .ref (ad 243)), (1, .long (oJ x1)), (3, .int (oI x3))] → W p l e (rmK 3 88 0 0) s m args below meth c H locs 0 0 Q (F0 m 8 ls []) := by
  intro H locs ls hP hD hS hl
  unfold Cl_isOrderMissed_8b at h
  refine lv_iload_n hx hb d_3_7_8 rfl (lv_at hl 2 rfl) ?_
  refine lv_aload_n hx hb d_3_7_9 rfl (lv_at hl 0 rfl) ?_
  refine m_gi (C := "Ballothall$Council") (T := TX1) (N := 4) (ci := 1) (k := 0) hx hb hts iX1 hown hG hP (yi_243 hL) (yt_243 hL) rfl (by decide) w_382 (fun _ h9 => h9) rfl rfl d_3_7_10 ?_
  obtain ⟨ok101, h⟩ := ck_e h
  obtain ⟨ok102, h⟩ := ck_e h
  refine lv_icmp_ge (tgt := 30) hx hb d_3_7_13 (by decide) (fun c9 => ?_) (fun c9 => ?_)
  · have h := ite_t ((oI_le (a := (M 243 0)) (b := x3) ok102 ok101).mp c9) h
    obtain ⟨rfl, rfl, rfl, rfl⟩ := in4 h
    exact k1 rfl H locs ls hP hD hS (lv_sub hl [0, 1] rfl)
  · have h := ite_f (fun q => c9 ((oI_le (a := (M 243 0)) (b := x3) ok102 ok101).mpr q)) h
    refine lv_lload_n hx hb d_3_7_16 rfl (lv_at hl 1 rfl) ?_
    refine lv_aload_n hx hb d_3_7_17 rfl (lv_at hl 0 rfl) ?_
    refine lv_iload_n hx hb d_3_7_18 rfl (lv_at hl 2 rfl) ?_
    obtain ⟨r103, g103, h⟩ := bd_e h
    refine kV (As := [.int (oI x3)]) (rest := [.long (oJ x1)]) (s_Cl_ordersTurnedBy l z ad E M x3 r103 hL g103) hx hb hml hown hts w_758 w_755 w_757 w_s_b6ce20 w_11 md_27e5a0 ⟨Nat.le_of_ble_eq_true rfl, Nat.le_of_ble_eq_true rfl⟩ hG hZ hP hD hS hA 243 (wv_o (ci := 1) (yi_243 hL) (yt_243 hL)) rfl rfl rfl hl.1 rfl (Nat.le_of_ble_eq_true rfl) d_3_7_19 ⟨Nat.le_of_ble_eq_true rfl, Nat.le_of_ble_eq_true rfl⟩ (fun _ H locs hP hD hS => ?_)
    have hP : va_P z.1 classes (wv z ad E M) H := hP
    have hD : va_D A (wv z ad E M) := hD
    refine W.eq (g2 := F0 m 22 ls [.long (oJ r103), .long (oJ x1)]) rfl ?_
    refine lv_ladd hx hb d_3_7_22 ?_
    refine nrmL (oJ_add _ _) ?_
    refine lv_lstore_n (lv' := [(1, .long (oJ (x1 + r103))), (0, .ref (ad 243)), (3, .int (oI x3))]) hx hb d_3_7_23 rfl hl (by decide) rfl (fun ls hl => ?_)
    refine lv_iinc (v := oI (x3 + 1)) (lv' := [(3, .int (oI (x3 + 1))), (1, .long (oJ (x1 + r103))), (0, .ref (ad 243))]) hx hb d_3_7_24 hl (k := 2) rfl (oI_add x3 1) (by decide) rfl (fun ls hl => ?_)
    refine lv_goto (tgt := 8) hx hb d_3_7_27 (by decide) ?_
    obtain ⟨rfl, rfl, rfl, rfl⟩ := in4 h
    exact k0 rfl H locs ls hP hD hS (lv_sub hl [2, 1, 0] rfl)
set_option maxRecDepth 100000 in
set_option maxHeartbeats 4000000 in
theorem s_Cl_isOrderMissed_8 (l : Launch) (z : Zz) (ad : Nat → Nat) (E : Ev) {Q : State → Prop} {p : Program} {e : Env} {s : State} {m : MethodId} {below : List Frame} {meth : Method} {c : Code} {A : Nat → Prop} {args : Array Value} (hx : p.tables.exec = Jvm.exec) (hb : c.code = prog_3_method_7_code) (hml : c.maxLocals = 4) (hts : ∀ w ∈ WG, w.before args s = true) (hown : s.vm.findClass "Ballothall$Council" = some m.cls) (hlocks : meth.locks = false) (hA : ∀ q, s.heap.size ≤ q → A q) (hG : KG z s) (hZ : FZ z A s) (hL : Lay E) : ∀ (fu : Nat) (M : Mm) (x1 : Int) (x3 : Int) (t : Nat) (w1 : Int) (w3 : Int) (N : Mm), l_Cl_isOrderMissed_8 E fu M x1 x3 = some (t, w1, w3, N) → (t = 1 → ∀ (H : Heap) (locs : List Loc) (ls : Array Slot), va_P z.1 classes (wv z ad E N) H → va_D A (wv z ad E N) → va_S A s.heap H locs → lv_has ls 4 [(0, .ref (ad 243)), (1, .long (oJ w1))] → W p l e (rmK 3 88 0 0) s m args below meth c H locs 0 0 Q (F0 m 30 ls [])) → ∀ (H : Heap) (locs : List Loc) (ls : Array Slot), va_P z.1 classes (wv z ad E M) H → va_D A (wv z ad E M) → va_S A s.heap H locs → lv_has ls 4 [(0, .ref (ad 243)), (1, .long (oJ x1)), (3, .int (oI x3))] → W p l e (rmK 3 88 0 0) s m args below meth c H locs 0 0 Q (F0 m 8 ls []) := by
  intro fu
  induction fu with
  | zero =>
    intro M x1 x3 t w1 w3 N h
    have h : (none : Option (Nat × Int × Int × Mm)) = some _ := h
    cases h
  | succ fu ih =>
    intro M x1 x3 t w1 w3 N h k1 H locs ls hP hD hS hl
    obtain ⟨⟨t0, w10, w30, N9⟩, g0, h⟩ := bd_e h
    refine b_Cl_isOrderMissed_8b l z ad E M x1 x3 t0 w10 w30 N9 hx hb hml hts hown hlocks hA hG hZ hL g0 (fun e0 => ?_) (fun e0 => ?_) H locs ls hP hD hS hl
    · subst e0
      have h := ite_t rfl h
      exact ih N9 w10 w30 t w1 w3 N h k1
    · subst e0
      have h := ite_f (by decide) h
      obtain ⟨rfl, rfl, rfl, rfl⟩ := in4 h
      exact k1 rfl
set_option maxRecDepth 100000 in
set_option maxHeartbeats 4000000 in
theorem s_Cl_isOrderMissed (l : Launch) (z : Zz) (ad : Nat → Nat) (E : Ev) (M : Mm) (r : Int) (N : Mm) (hL : Lay E) (h : f_Cl_isOrderMissed E M = some (r, N)) : CT l z ⟨"Ballothall$Council", "isOrderMissed", "()Z"⟩ prog_3_method_7_code 4 (some .boolean) [.ref (ad 243)] (wv z ad E M) 3 88 0 0 (fun _ => some (.int (oI r))) (fun _ => (wv z ad E N)) := by
  refine CT.of (own := "Ballothall$Council") (by decide +kernel) (Nat.le_of_ble_eq_true rfl) rfl (fun p e s m below meth c A ls hx hb hml hr hts hown hlocks hin hA hG hZ hP hD hS hl => ?_)
  have hl : lv_has ls 4 [(0, .ref (ad 243))] := hl
  have key : ∀ (H : Heap) (locs : List Loc) (args : Array Value), (∀ w ∈ WG, w.before args s = true) → va_P z.1 classes (wv z ad E M) H → va_S A s.heap H locs → W p l e (rmK 3 88 0 0) s m args below meth c H locs 0 0 (MQ below (QK z A (fun _ => some (.int (oI r))) (fun _ => (wv z ad E N))) args s 0 0 A) (F0 m 0 ls []) := by
    intro H locs args hts hP hS
    unfold f_Cl_isOrderMissed at h
    refine lv_aload_n hx hb d_3_7_0 rfl (lv_at hl 0 rfl) ?_
    obtain ⟨M100, g100, h⟩ := bd_e h
    refine kV (As := []) (rest := []) (s_Cl_findSums l z ad E M M100 hL g100) hx hb hml hown hts w_754 w_751 w_753 w_s_13b3b8 w_11 md_bc486d ⟨Nat.le_of_ble_eq_true rfl, Nat.le_of_ble_eq_true rfl⟩ hG hZ hP hD hS hA 243 (wv_o (ci := 1) (yi_243 hL) (yt_243 hL)) rfl rfl rfl hl.1 rfl (Nat.le_of_ble_eq_true rfl) d_3_7_1 ⟨Nat.le_of_ble_eq_true rfl, Nat.le_of_ble_eq_true rfl⟩ (fun _ H locs hP hD hS => ?_)
    have hP : va_P z.1 classes (wv z ad E M100) H := hP
    have hD : va_D A (wv z ad E M100) := hD
    refine W.eq (g2 := F0 m 4 ls []) rfl ?_
    refine lv_lconst (v := oJ 0) hx hb d_3_7_4 (by decide +kernel) ?_
    refine lv_lstore_n (lv' := [(1, .long (oJ 0)), (0, .ref (ad 243))]) hx hb d_3_7_5 rfl hl (by decide) rfl (fun ls hl => ?_)
    refine lv_iconst (v := oI 0) hx hb d_3_7_6 (by decide +kernel) ?_
    refine lv_istore_n (lv' := [(3, .int (oI 0)), (1, .long (oJ 0)), (0, .ref (ad 243))]) hx hb d_3_7_7 rfl hl (by decide) rfl (fun ls hl => ?_)
    obtain ⟨⟨t104, v104_1, v104_3, M104⟩, g104, h⟩ := bd_e h
    obtain ⟨ok104, h⟩ := ck_e h
    refine s_Cl_isOrderMissed_8 l z ad E hx hb hml hts hown hlocks hA hG hZ hL FU M100 0 0 t104 v104_1 v104_3 M104 g104 (fun e104 H locs ls hP hD hS hl => ?_) H locs ls hP hD hS (lv_sub hl [2, 1, 0] rfl)
    refine lv_lload_n hx hb d_3_7_30 rfl (lv_at hl 1 rfl) ?_
    refine lv_lconst (v := oJ 0) hx hb d_3_7_31 (by decide +kernel) ?_
    obtain ⟨ok105, h⟩ := ck_e h
    refine W.lcmp hx hb d_3_7_32 ?_
    refine nrm (cmp_val (a := v104_1) (b := (0 : Int)) ok105 (by decide)) ?_
    refine lv_if_eq (tgt := 53) hx hb d_3_7_33 (by decide) (fun c9 => ?_) (fun c9 => ?_)
    · have h := ite_t ((cmp_eq v104_1 (0 : Int)).mp c9) h
      refine lv_iconst (v := oI 0) hx hb d_3_7_53 (by decide +kernel) ?_
      obtain ⟨rfl, rfl⟩ := in2 h
      exact W.zret hx hb hr rfl (fun t ht hW => qkA hP hD hS (fun k => k) rfl rfl ht) hS.2.2 d_3_7_54
    · have h := ite_f (fun q => c9 ((cmp_eq v104_1 (0 : Int)).mpr q)) h
      refine lv_lload_n hx hb d_3_7_36 rfl (lv_at hl 1 rfl) ?_
      obtain ⟨fa, hf1, hf2⟩ := hZ.1
      refine va_getsN hx hb hf1 hS hown (va_Nw.use rfl (hG.2.1 _ n_765 rfl)) (fun _ h9 => h9) d_3_7_37 ?_
      refine lv_aload_n hx hb d_3_7_40 rfl (lv_at hl 0 rfl) ?_
      refine m_gi (C := "Ballothall$Council") (T := TX1) (N := 4) (ci := 1) (k := 0) hx hb hts iX1 hown hG hP (yi_243 hL) (yt_243 hL) rfl (by decide) w_382 (fun _ h9 => h9) rfl rfl d_3_7_41 ?_
      obtain ⟨ok107, h⟩ := ck_e h
      refine m_fl hx hb hf2 hS ok107 d_3_7_44 ?_
      obtain ⟨ok108, h⟩ := ck_e h
      refine W.lcmp hx hb d_3_7_45 ?_
      refine nrm (cmp_val (a := v104_1) (b := (facF (M104 243 0).toNat)) ok105 ok108) ?_
      refine lv_if_eq (tgt := 53) hx hb d_3_7_46 (by decide) (fun c9 => ?_) (fun c9 => ?_)
      · have h := ite_t ((cmp_eq v104_1 (facF (M104 243 0).toNat)).mp c9) h
        refine lv_iconst (v := oI 0) hx hb d_3_7_53 (by decide +kernel) ?_
        obtain ⟨rfl, rfl⟩ := in2 h
        exact W.zret hx hb hr rfl (fun t ht hW => qkA hP hD hS (fun k => k) rfl rfl ht) hS.2.2 d_3_7_54
      · have h := ite_f (fun q => c9 ((cmp_eq v104_1 (facF (M104 243 0).toNat)).mpr q)) h
        refine lv_iconst (v := oI 1) hx hb d_3_7_49 (by decide +kernel) ?_
        refine lv_goto (tgt := 54) hx hb d_3_7_50 (by decide) ?_
        obtain ⟨rfl, rfl⟩ := in2 h
        exact W.zret hx hb hr rfl (fun t ht hW => qkA hP hD hS (fun k => k) rfl rfl ht) hS.2.2 d_3_7_54
  exact key _ _ _ hts hP hS
