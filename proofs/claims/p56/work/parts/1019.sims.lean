set_option maxRecDepth 100000 in
set_option maxHeartbeats 4000000 in
theorem s_Di_hasGreaterQuotient (l : Launch) (z : Zz) (ad : Nat → Nat) (E : Ev) (M : Mm) (p0 : Nat) (x1 : Int) (x2 : Int) (x3 : Int) (r : Int)  (hL : Lay E) (h : f_Di_hasGreaterQuotient E M p0 x1 x2 x3 = some r) : CT l z ⟨"Ballothall$Division", "hasGreaterQuotient", "(III)Z"⟩ prog_6_method_6_code 8 (some .boolean) [.ref (ad p0), .int (oI x1), .int (oI x2), .int (oI x3)] (wv z ad E M) 1 42 0 0 (fun _ => some (.int (oI r))) (fun _ => (wv z ad E M)) := by
  refine CT.of (own := "Ballothall$Division") (by decide +kernel) (Nat.le_of_ble_eq_true rfl) rfl (fun p e s m below meth c A ls hx hb hml hr hts hown hlocks hin hA hG hZ hP hD hS hl => ?_)
  have hl : lv_has ls 8 [(0, .ref (ad p0)), (1, .int (oI x1)), (2, .int (oI x2)), (3, .int (oI x3))] := hl
  have key : ∀ (H : Heap) (locs : List Loc) (args : Array Value), (∀ w ∈ WG, w.before args s = true) → va_P z.1 classes (wv z ad E M) H → va_S A s.heap H locs → W p l e (rmK 1 42 0 0) s m args below meth c H locs 0 0 (MQ below (QK z A (fun _ => some (.int (oI r))) (fun _ => (wv z ad E M))) args s 0 0 A) (F0 m 0 ls []) := by
    intro H locs args hts hP hS
    unfold f_Di_hasGreaterQuotient at h
    obtain ⟨h_p0, h⟩ := ck_e h
    refine lv_aload_n hx hb d_6_6_0 rfl (lv_at hl 0 rfl) ?_
    refine m_gr (j := (p0 + 2)) (C := "Ballothall$Division") (T := TX4) (N := 8) (ci := 4) (k := 3) hx hb hts iX4 hown hG hP (isDi_i h_p0) (isDi_T h_p0) rfl (by decide) w_181 (fun _ h9 => h9) rfl rfl (isDi_r3 h_p0) d_6_6_1 ?_
    refine lv_iload_n hx hb d_6_6_4 rfl (lv_at hl 1 rfl) ?_
    obtain ⟨ok100, h⟩ := ck_e h
    refine m_la hx hb hG hP (isDi_i2 h_p0) (isDi_t2 h_p0) ok100 d_6_6_5 ?_
    refine lv_aload_n hx hb d_6_6_6 rfl (lv_at hl 0 rfl) ?_
    refine lv_iload_n hx hb d_6_6_7 rfl (lv_at hl 3 rfl) ?_
    refine lv_aload_n hx hb d_6_6_8 rfl (lv_at hl 0 rfl) ?_
    refine m_gr (j := (p0 + 4)) (C := "Ballothall$Division") (T := TX4) (N := 8) (ci := 4) (k := 5) hx hb hts iX4 hown hG hP (isDi_i h_p0) (isDi_T h_p0) rfl (by decide) w_183 (fun _ h9 => h9) rfl rfl (isDi_r5 h_p0) d_6_6_9 ?_
    refine lv_iload_n hx hb d_6_6_12 rfl (lv_at hl 2 rfl) ?_
    obtain ⟨ok101, h⟩ := ck_e h
    refine m_ia hx hb hG hP (isDi_i4 h_p0) (isDi_t4 h_p0) ok101 d_6_6_13 ?_
    obtain ⟨r102, g102, h⟩ := bd_e h
    refine kV (As := [.int (oI x3), .int (oI (M (p0 + 4) x2.toNat))]) (rest := [.long (oJ (M (p0 + 2) x1.toNat))]) (s_Di_divisor l z ad E M p0 x3 (M (p0 + 4) x2.toNat) r102 hL g102) hx hb hml hown hts w_1574 w_1571 w_1573 w_s_74d3de w_6 md_91408d ⟨Nat.le_of_ble_eq_true rfl, Nat.le_of_ble_eq_true rfl⟩ hG hZ hP hD hS hA p0 (wv_o (ci := 4) (isDi_i h_p0) (isDi_T h_p0)) rfl rfl rfl hl.1 rfl (Nat.le_of_ble_eq_true rfl) d_6_6_14 ⟨Nat.le_of_ble_eq_true rfl, Nat.le_of_ble_eq_true rfl⟩ (fun _ H locs hP hD hS => ?_)
    have hP : va_P z.1 classes (wv z ad E M) H := hP
    have hD : va_D A (wv z ad E M) := hD
    refine W.eq (g2 := F0 m 17 ls [.long (oJ r102), .long (oJ (M (p0 + 2) x1.toNat))]) rfl ?_
    refine lv_lmul hx hb d_6_6_17 ?_
    refine nrmL (oJ_mul _ _) ?_
    obtain ⟨v103, e103, h⟩ := nb_e h
    refine nrmL (congrArg oJ e103.symm) ?_
    refine lv_lstore (lv' := [(4, .long (oJ v103)), (0, .ref (ad p0)), (1, .int (oI x1)), (2, .int (oI x2)), (3, .int (oI x3))]) hx hb d_6_6_18 hl (by decide) rfl (fun ls hl => ?_)
    refine lv_aload_n hx hb d_6_6_20 rfl (lv_at hl 1 rfl) ?_
    refine m_gr (j := (p0 + 2)) (C := "Ballothall$Division") (T := TX4) (N := 8) (ci := 4) (k := 3) hx hb hts iX4 hown hG hP (isDi_i h_p0) (isDi_T h_p0) rfl (by decide) w_181 (fun _ h9 => h9) rfl rfl (isDi_r3 h_p0) d_6_6_21 ?_
    refine lv_iload_n hx hb d_6_6_24 rfl (lv_at hl 3 rfl) ?_
    refine m_la hx hb hG hP (isDi_i2 h_p0) (isDi_t2 h_p0) ok101 d_6_6_25 ?_
    refine lv_aload_n hx hb d_6_6_26 rfl (lv_at hl 1 rfl) ?_
    refine lv_iload_n hx hb d_6_6_27 rfl (lv_at hl 4 rfl) ?_
    refine lv_aload_n hx hb d_6_6_28 rfl (lv_at hl 1 rfl) ?_
    refine m_gr (j := (p0 + 4)) (C := "Ballothall$Division") (T := TX4) (N := 8) (ci := 4) (k := 5) hx hb hts iX4 hown hG hP (isDi_i h_p0) (isDi_T h_p0) rfl (by decide) w_183 (fun _ h9 => h9) rfl rfl (isDi_r5 h_p0) d_6_6_29 ?_
    refine lv_iload_n hx hb d_6_6_32 rfl (lv_at hl 2 rfl) ?_
    refine m_ia hx hb hG hP (isDi_i4 h_p0) (isDi_t4 h_p0) ok100 d_6_6_33 ?_
    obtain ⟨r104, g104, h⟩ := bd_e h
    refine kV (As := [.int (oI x3), .int (oI (M (p0 + 4) x1.toNat))]) (rest := [.long (oJ (M (p0 + 2) x2.toNat))]) (s_Di_divisor l z ad E M p0 x3 (M (p0 + 4) x1.toNat) r104 hL g104) hx hb hml hown hts w_1574 w_1571 w_1573 w_s_74d3de w_6 md_91408d ⟨Nat.le_of_ble_eq_true rfl, Nat.le_of_ble_eq_true rfl⟩ hG hZ hP hD hS hA p0 (wv_o (ci := 4) (isDi_i h_p0) (isDi_T h_p0)) rfl rfl rfl hl.1 rfl (Nat.le_of_ble_eq_true rfl) d_6_6_34 ⟨Nat.le_of_ble_eq_true rfl, Nat.le_of_ble_eq_true rfl⟩ (fun _ H locs hP hD hS => ?_)
    have hP : va_P z.1 classes (wv z ad E M) H := hP
    have hD : va_D A (wv z ad E M) := hD
    refine W.eq (g2 := F0 m 37 ls [.long (oJ r104), .long (oJ (M (p0 + 2) x2.toNat))]) rfl ?_
    refine lv_lmul hx hb d_6_6_37 ?_
    refine nrmL (oJ_mul _ _) ?_
    obtain ⟨v105, e105, h⟩ := nb_e h
    refine nrmL (congrArg oJ e105.symm) ?_
    refine lv_lstore (lv' := [(6, .long (oJ v105)), (4, .long (oJ v103)), (0, .ref (ad p0)), (1, .int (oI x1)), (2, .int (oI x2)), (3, .int (oI x3))]) hx hb d_6_6_38 hl (by decide) rfl (fun ls hl => ?_)
    refine lv_lload hx hb d_6_6_40 (lv_at hl 1 rfl) ?_
    refine lv_lload hx hb d_6_6_42 (lv_at hl 0 rfl) ?_
    obtain ⟨ok106, h⟩ := ck_e h
    obtain ⟨ok107, h⟩ := ck_e h
    refine W.lcmp hx hb d_6_6_44 ?_
    refine nrm (cmp_val (a := v103) (b := v105) ok106 ok107) ?_
    refine lv_if_gt (tgt := 65) hx hb d_6_6_45 (by decide) (fun c9 => ?_) (fun c9 => ?_)
    · have h := ite_t ((cmp_gt v103 v105).mp c9) h
      refine lv_iconst (v := oI 1) hx hb d_6_6_65 (by decide +kernel) ?_
      refine lv_goto (tgt := 70) hx hb d_6_6_66 (by decide) ?_
      obtain rfl := in1 h
      exact W.zret hx hb hr rfl (fun t ht hW => qkA hP hD hS (fun k => k) rfl rfl ht) hS.2.2 d_6_6_70
    · have h := ite_f (fun q => c9 ((cmp_gt v103 v105).mpr q)) h
      refine lv_lload hx hb d_6_6_48 (lv_at hl 1 rfl) ?_
      refine lv_lload hx hb d_6_6_50 (lv_at hl 0 rfl) ?_
      refine W.lcmp hx hb d_6_6_52 ?_
      refine nrm (cmp_val (a := v103) (b := v105) ok106 ok107) ?_
      refine lv_if_ne (tgt := 69) hx hb d_6_6_53 (by decide) (fun c9 => ?_) (fun c9 => ?_)
      · have h := ite_f (fun q => c9 ((cmp_eq v103 v105).mpr q)) h
        refine lv_iconst (v := oI 0) hx hb d_6_6_69 (by decide +kernel) ?_
        obtain rfl := in1 h
        exact W.zret hx hb hr rfl (fun t ht hW => qkA hP hD hS (fun k => k) rfl rfl ht) hS.2.2 d_6_6_70
      · have h := ite_t ((cmp_eq v103 v105).mp c9) h
        refine lv_aload_n hx hb d_6_6_56 rfl (lv_at hl 2 rfl) ?_
        refine lv_iload_n hx hb d_6_6_57 rfl (lv_at hl 3 rfl) ?_
        refine lv_iload_n hx hb d_6_6_58 rfl (lv_at hl 4 rfl) ?_
        obtain ⟨r108, g108, h⟩ := bd_e h
        refine kV (As := [.int (oI x1), .int (oI x2)]) (rest := []) (s_Di_winsTie l z ad E M p0 x1 x2 r108 hL g108) hx hb hml hown hts w_1565 w_1562 w_1564 w_s_84fd95 w_6 md_77b7c9 ⟨Nat.le_of_ble_eq_true rfl, Nat.le_of_ble_eq_true rfl⟩ hG hZ hP hD hS hA p0 (wv_o (ci := 4) (isDi_i h_p0) (isDi_T h_p0)) rfl rfl rfl hl.1 rfl (Nat.le_of_ble_eq_true rfl) d_6_6_59 ⟨Nat.le_of_ble_eq_true rfl, Nat.le_of_ble_eq_true rfl⟩ (fun _ H locs hP hD hS => ?_)
        have hP : va_P z.1 classes (wv z ad E M) H := hP
        have hD : va_D A (wv z ad E M) := hD
        refine W.eq (g2 := F0 m 62 ls [.int (oI r108)]) rfl ?_
        obtain ⟨ok109, h⟩ := ck_e h
        refine lv_if_eq (tgt := 69) hx hb d_6_6_62 (by decide) (fun c9 => ?_) (fun c9 => ?_)
        · have h := ite_t ((oI_eq0 ok109).mp c9) h
          refine lv_iconst (v := oI 0) hx hb d_6_6_69 (by decide +kernel) ?_
          obtain rfl := in1 h
          exact W.zret hx hb hr rfl (fun t ht hW => qkA hP hD hS (fun k => k) rfl rfl ht) hS.2.2 d_6_6_70
        · have h := ite_f (fun q => c9 ((oI_eq0 ok109).mpr q)) h
          refine lv_iconst (v := oI 1) hx hb d_6_6_65 (by decide +kernel) ?_
          refine lv_goto (tgt := 70) hx hb d_6_6_66 (by decide) ?_
          obtain rfl := in1 h
          exact W.zret hx hb hr rfl (fun t ht hW => qkA hP hD hS (fun k => k) rfl rfl ht) hS.2.2 d_6_6_70
  exact key _ _ _ hts hP hS
set_option maxRecDepth 100000 in
set_option maxHeartbeats 4000000 in
theorem b_Di_distribute_32b (l : Launch) (z : Zz) (ad : Nat → Nat) (E : Ev) (M : Mm) (q0 : Nat) (x1 : Int) (x2 : Int) (x3 : Int) (x4 : Int) (x5 : Int) (t : Nat) (w4 : Int) (w5 : Int) (N : Mm) {Q : State → Prop} {p : Program} {e : Env} {s : State} {m : MethodId} {below : List Frame} {meth : Method} {c : Code} {A : Nat → Prop} {args : Array Value} (hx : p.tables.exec = Jvm.exec) (hb : c.code = prog_6_method_5_code) (hml : c.maxLocals = 6) (hts : ∀ w ∈ WG, w.before args s = true) (hown : s.vm.findClass "Ballothall$Division" = some m.cls) (hlocks : meth.locks = false) (hA : ∀ q, s.heap.size ≤ q → A q) (hG : KG z s) (hZ : FZ z A s) (hL : Lay E) (h : Di_distribute_32b E M q0 x1 x2 x3 x4 x5 = some (t, w4, w5, N)) (k0 : t = 0 → ∀ (H : Heap) (locs : List Loc) (ls : Array Slot), va_P z.1 classes (wv z ad E N) H → va_D A (wv z ad E N) → va_S A s.heap H locs → lv_has ls 6 [(0, .ref (ad q0)), (1, .int (oI x1)), (2, .int (oI x2)), (3, .int (oI x3)), (4, .int (oI w4)), (5, .int (oI w5))] → W p l e (rmK 3 91 0 0) s m args below meth c H locs 0 0 Q (F0 m 32 ls [])) (k1 : t = 1 → ∀ (H : Heap) (locs : List Loc) (ls : Array Slot), va_P z.1 classes (wv z ad E N) H → va_D A (wv z ad E N) → va_S A s.heap H locs → lv_has ls 6 [(0, .ref (ad q0)), (1, .int (oI x1)), (2, .int (oI x2)), (3, .int (oI x3)), (4, .int (oI w4))] → W p l e (rmK 3 91 0 0) s m args below meth c H locs 0 0 Q (F0 m 63 ls [])) : ∀ (H : Heap) (locs : List Loc) (ls : Array Slot), va_P z.1 classes (wv z ad E M) H → va_D A (wv z ad E M) → va_S A s.heap H locs → lv_has ls 6 [(0, .ref (ad q0)), (1, .int (oI x1)), (2, .int (oI x2)), (3, .int (oI x3)), (4, .int (oI x4)), (5, .int (oI x5))] → W p l e (rmK 3 91 0 0) s m args below meth c H locs 0 0 Q (F0 m 32 ls []) := by
  intro H locs ls hP hD hS hl
  unfold Di_distribute_32b at h
  obtain ⟨h_q0, h⟩ := ck_e h
  refine lv_iload hx hb d_6_5_32 (lv_at hl 5 rfl) ?_
  refine lv_aload_n hx hb d_6_5_34 rfl (lv_at hl 0 rfl) ?_
  refine m_gi (C := "Ballothall$Division") (T := TX4) (N := 8) (ci := 4) (k := 0) hx hb hts iX4 hown hG hP (isDi_i h_q0) (isDi_T h_q0) rfl (by decide) w_175 (fun _ h9 => h9) rfl rfl d_6_5_35 ?_
  obtain ⟨ok104, h⟩ := ck_e h
  obtain ⟨ok105, h⟩ := ck_e h
  refine lv_icmp_ge (tgt := 63) hx hb d_6_5_38 (by decide) (fun c9 => ?_) (fun c9 => ?_)
  · have h := ite_t ((oI_le (a := (M q0 0)) (b := x5) ok105 ok104).mp c9) h
    obtain ⟨rfl, rfl, rfl, rfl⟩ := in4 h
    exact k1 rfl H locs ls hP hD hS (lv_sub hl [0, 1, 2, 3, 4] rfl)
  · have h := ite_f (fun q => c9 ((oI_le (a := (M q0 0)) (b := x5) ok105 ok104).mpr q)) h
    refine lv_aload_n hx hb d_6_5_41 rfl (lv_at hl 0 rfl) ?_
    refine lv_iload hx hb d_6_5_42 (lv_at hl 5 rfl) ?_
    refine lv_iload hx hb d_6_5_44 (lv_at hl 4 rfl) ?_
    refine lv_iload_n hx hb d_6_5_46 rfl (lv_at hl 1 rfl) ?_
    obtain ⟨r106, g106, h⟩ := bd_e h
    refine kV (As := [.int (oI x5), .int (oI x4), .int (oI x1)]) (rest := []) (s_Di_hasGreaterQuotient l z ad E M q0 x5 x4 x1 r106 hL g106) hx hb hml hown hts w_1570 w_1567 w_1569 w_s_705804 w_6 md_50e65b ⟨Nat.le_of_ble_eq_true rfl, Nat.le_of_ble_eq_true rfl⟩ hG hZ hP hD hS hA q0 (wv_o (ci := 4) (isDi_i h_q0) (isDi_T h_q0)) rfl rfl rfl hl.1 rfl (Nat.le_of_ble_eq_true rfl) d_6_5_47 ⟨Nat.le_of_ble_eq_true rfl, Nat.le_of_ble_eq_true rfl⟩ (fun _ H locs hP hD hS => ?_)
    have hP : va_P z.1 classes (wv z ad E M) H := hP
    have hD : va_D A (wv z ad E M) := hD
    refine W.eq (g2 := F0 m 50 ls [.int (oI r106)]) rfl ?_
    obtain ⟨ok107, h⟩ := ck_e h
    refine lv_if_eq (tgt := 57) hx hb d_6_5_50 (by decide) (fun c9 => ?_) (fun c9 => ?_)
    · have h := ite_t ((oI_eq0 ok107).mp c9) h
      refine lv_iinc (v := oI (x5 + 1)) (lv' := [(5, .int (oI (x5 + 1))), (0, .ref (ad q0)), (1, .int (oI x1)), (2, .int (oI x2)), (3, .int (oI x3)), (4, .int (oI x4))]) hx hb d_6_5_57 hl (k := 5) rfl (oI_add x5 1) (by decide) rfl (fun ls hl => ?_)
      refine lv_goto (tgt := 32) hx hb d_6_5_60 (by decide) ?_
      obtain ⟨rfl, rfl, rfl, rfl⟩ := in4 h
      exact k0 rfl H locs ls hP hD hS (lv_sub hl [1, 2, 3, 4, 5, 0] rfl)
    · have h := ite_f (fun q => c9 ((oI_eq0 ok107).mpr q)) h
      refine lv_iload hx hb d_6_5_53 (lv_at hl 5 rfl) ?_
      refine lv_istore (lv' := [(4, .int (oI x5)), (0, .ref (ad q0)), (1, .int (oI x1)), (2, .int (oI x2)), (3, .int (oI x3)), (5, .int (oI x5))]) hx hb d_6_5_55 hl (by decide) rfl (fun ls hl => ?_)
      refine lv_iinc (v := oI (x5 + 1)) (lv' := [(5, .int (oI (x5 + 1))), (4, .int (oI x5)), (0, .ref (ad q0)), (1, .int (oI x1)), (2, .int (oI x2)), (3, .int (oI x3))]) hx hb d_6_5_57 hl (k := 5) rfl (oI_add x5 1) (by decide) rfl (fun ls hl => ?_)
      refine lv_goto (tgt := 32) hx hb d_6_5_60 (by decide) ?_
      obtain ⟨rfl, rfl, rfl, rfl⟩ := in4 h
      exact k0 rfl H locs ls hP hD hS (lv_sub hl [2, 3, 4, 5, 1, 0] rfl)
set_option maxRecDepth 100000 in
set_option maxHeartbeats 4000000 in
theorem s_Di_distribute_32 (l : Launch) (z : Zz) (ad : Nat → Nat) (E : Ev) (q0 : Nat) (x1 : Int) (x2 : Int) (x3 : Int) {Q : State → Prop} {p : Program} {e : Env} {s : State} {m : MethodId} {below : List Frame} {meth : Method} {c : Code} {A : Nat → Prop} {args : Array Value} (hx : p.tables.exec = Jvm.exec) (hb : c.code = prog_6_method_5_code) (hml : c.maxLocals = 6) (hts : ∀ w ∈ WG, w.before args s = true) (hown : s.vm.findClass "Ballothall$Division" = some m.cls) (hlocks : meth.locks = false) (hA : ∀ q, s.heap.size ≤ q → A q) (hG : KG z s) (hZ : FZ z A s) (hL : Lay E) : ∀ (fu : Nat) (M : Mm) (x4 : Int) (x5 : Int) (t : Nat) (w4 : Int) (w5 : Int) (N : Mm), l_Di_distribute_32 E q0 x1 x2 x3 fu M x4 x5 = some (t, w4, w5, N) → (t = 1 → ∀ (H : Heap) (locs : List Loc) (ls : Array Slot), va_P z.1 classes (wv z ad E N) H → va_D A (wv z ad E N) → va_S A s.heap H locs → lv_has ls 6 [(0, .ref (ad q0)), (1, .int (oI x1)), (2, .int (oI x2)), (3, .int (oI x3)), (4, .int (oI w4))] → W p l e (rmK 3 91 0 0) s m args below meth c H locs 0 0 Q (F0 m 63 ls [])) → ∀ (H : Heap) (locs : List Loc) (ls : Array Slot), va_P z.1 classes (wv z ad E M) H → va_D A (wv z ad E M) → va_S A s.heap H locs → lv_has ls 6 [(0, .ref (ad q0)), (1, .int (oI x1)), (2, .int (oI x2)), (3, .int (oI x3)), (4, .int (oI x4)), (5, .int (oI x5))] → W p l e (rmK 3 91 0 0) s m args below meth c H locs 0 0 Q (F0 m 32 ls []) := by
  intro fu
  induction fu with
  | zero =>
    intro M x4 x5 t w4 w5 N h
    have h : (none : Option (Nat × Int × Int × Mm)) = some _ := h
    cases h
  | succ fu ih =>
    intro M x4 x5 t w4 w5 N h k1 H locs ls hP hD hS hl
    obtain ⟨⟨t0, w40, w50, N9⟩, g0, h⟩ := bd_e h
    refine b_Di_distribute_32b l z ad E M q0 x1 x2 x3 x4 x5 t0 w40 w50 N9 hx hb hml hts hown hlocks hA hG hZ hL g0 (fun e0 => ?_) (fun e0 => ?_) H locs ls hP hD hS hl
    · subst e0
      have h := ite_t rfl h
      exact ih N9 w40 w50 t w4 w5 N h k1
    · subst e0
      have h := ite_f (by decide) h
      obtain ⟨rfl, rfl, rfl, rfl⟩ := in4 h
      exact k1 rfl
set_option maxRecDepth 100000 in
set_option maxHeartbeats 4000000 in
theorem b_Di_distribute_21b (l : Launch) (z : Zz) (ad : Nat → Nat) (E : Ev) (M : Mm) (q0 : Nat) (x1 : Int) (x2 : Int) (x3 : Int) (t : Nat) (w3 : Int) (N : Mm) {Q : State → Prop} {p : Program} {e : Env} {s : State} {m : MethodId} {below : List Frame} {meth : Method} {c : Code} {A : Nat → Prop} {args : Array Value} (hx : p.tables.exec = Jvm.exec) (hb : c.code = prog_6_method_5_code) (hml : c.maxLocals = 6) (hts : ∀ w ∈ WG, w.before args s = true) (hown : s.vm.findClass "Ballothall$Division" = some m.cls) (hlocks : meth.locks = false) (hA : ∀ q, s.heap.size ≤ q → A q) (hG : KG z s) (hZ : FZ z A s) (hL : Lay E) (h : Di_distribute_21b E M q0 x1 x2 x3 = some (t, w3, N)) (k0 : t = 0 → ∀ (H : Heap) (locs : List Loc) (ls : Array Slot), va_P z.1 classes (wv z ad E N) H → va_D A (wv z ad E N) → va_S A s.heap H locs → lv_has ls 6 [(0, .ref (ad q0)), (1, .int (oI x1)), (2, .int (oI x2)), (3, .int (oI w3))] → W p l e (rmK 3 91 0 0) s m args below meth c H locs 0 0 Q (F0 m 21 ls [])) (k1 : t = 1 → ∀ (H : Heap) (locs : List Loc) (ls : Array Slot), va_P z.1 classes (wv z ad E N) H → va_D A (wv z ad E N) → va_S A s.heap H locs → lv_has ls 6 [] → W p l e (rmK 3 91 0 0) s m args below meth c H locs 0 0 Q (F0 m 75 ls [])) : ∀ (H : Heap) (locs : List Loc) (ls : Array Slot), va_P z.1 classes (wv z ad E M) H → va_D A (wv z ad E M) → va_S A s.heap H locs → lv_has ls 6 [(0, .ref (ad q0)), (1, .int (oI x1)), (2, .int (oI x2)), (3, .int (oI x3))] → W p l e (rmK 3 91 0 0) s m args below meth c H locs 0 0 Q (F0 m 21 ls []) := by
  intro H locs ls hP hD hS hl
  unfold Di_distribute_21b at h
  obtain ⟨h_q0, h⟩ := ck_e h
  refine lv_iload_n hx hb d_6_5_21 rfl (lv_at hl 3 rfl) ?_
  refine lv_iload_n hx hb d_6_5_22 rfl (lv_at hl 2 rfl) ?_
  obtain ⟨ok102, h⟩ := ck_e h
  obtain ⟨ok103, h⟩ := ck_e h
  refine lv_icmp_ge (tgt := 75) hx hb d_6_5_23 (by decide) (fun c9 => ?_) (fun c9 => ?_)
  · have h := ite_t ((oI_le (a := x2) (b := x3) ok103 ok102).mp c9) h
    obtain ⟨rfl, rfl, rfl⟩ := in3 h
    exact k1 rfl H locs ls hP hD hS (lv_sub hl [] rfl)
  · have h := ite_f (fun q => c9 ((oI_le (a := x2) (b := x3) ok103 ok102).mpr q)) h
    refine lv_iconst (v := oI 0) hx hb d_6_5_26 (by decide +kernel) ?_
    refine lv_istore (lv' := [(4, .int (oI 0)), (0, .ref (ad q0)), (1, .int (oI x1)), (2, .int (oI x2)), (3, .int (oI x3))]) hx hb d_6_5_27 hl (by decide) rfl (fun ls hl => ?_)
    refine lv_iconst (v := oI 1) hx hb d_6_5_29 (by decide +kernel) ?_
    refine lv_istore (lv' := [(5, .int (oI 1)), (4, .int (oI 0)), (0, .ref (ad q0)), (1, .int (oI x1)), (2, .int (oI x2)), (3, .int (oI x3))]) hx hb d_6_5_30 hl (by decide) rfl (fun ls hl => ?_)
    obtain ⟨⟨t108, v108_4, v108_5, M108⟩, g108, h⟩ := bd_e h
    obtain ⟨ok108, h⟩ := ck_e h
    refine s_Di_distribute_32 l z ad E q0 x1 x2 x3 hx hb hml hts hown hlocks hA hG hZ hL FU M 0 1 t108 v108_4 v108_5 M108 g108 (fun e108 H locs ls hP hD hS hl => ?_) H locs ls hP hD hS (lv_sub hl [2, 3, 4, 5, 1, 0] rfl)
    refine lv_aload_n hx hb d_6_5_63 rfl (lv_at hl 0 rfl) ?_
    refine lv_iload hx hb d_6_5_64 (lv_at hl 4 rfl) ?_
    obtain ⟨M109, g109, h⟩ := bd_e h
    refine kV (As := [.int (oI v108_4)]) (rest := []) (s_Di_give l z ad E M108 q0 v108_4 M109 hL g109) hx hb hml hown hts w_1557 w_1554 w_1556 w_s_8d192b w_6 md_306e32 ⟨Nat.le_of_ble_eq_true rfl, Nat.le_of_ble_eq_true rfl⟩ hG hZ hP hD hS hA q0 (wv_o (ci := 4) (isDi_i h_q0) (isDi_T h_q0)) rfl rfl rfl hl.1 rfl (Nat.le_of_ble_eq_true rfl) d_6_5_66 ⟨Nat.le_of_ble_eq_true rfl, Nat.le_of_ble_eq_true rfl⟩ (fun _ H locs hP hD hS => ?_)
    have hP : va_P z.1 classes (wv z ad E M109) H := hP
    have hD : va_D A (wv z ad E M109) := hD
    refine W.eq (g2 := F0 m 69 ls []) rfl ?_
    refine lv_iinc (v := oI (x3 + 1)) (lv' := [(3, .int (oI (x3 + 1))), (0, .ref (ad q0)), (1, .int (oI x1)), (2, .int (oI x2)), (4, .int (oI v108_4))]) hx hb d_6_5_69 hl (k := 3) rfl (oI_add x3 1) (by decide) rfl (fun ls hl => ?_)
    refine lv_goto (tgt := 21) hx hb d_6_5_72 (by decide) ?_
    obtain ⟨rfl, rfl, rfl⟩ := in3 h
    exact k0 rfl H locs ls hP hD hS (lv_sub hl [1, 2, 3, 0] rfl)
set_option maxRecDepth 100000 in
set_option maxHeartbeats 4000000 in
theorem s_Di_distribute_21 (l : Launch) (z : Zz) (ad : Nat → Nat) (E : Ev) (q0 : Nat) (x1 : Int) (x2 : Int) {Q : State → Prop} {p : Program} {e : Env} {s : State} {m : MethodId} {below : List Frame} {meth : Method} {c : Code} {A : Nat → Prop} {args : Array Value} (hx : p.tables.exec = Jvm.exec) (hb : c.code = prog_6_method_5_code) (hml : c.maxLocals = 6) (hts : ∀ w ∈ WG, w.before args s = true) (hown : s.vm.findClass "Ballothall$Division" = some m.cls) (hlocks : meth.locks = false) (hA : ∀ q, s.heap.size ≤ q → A q) (hG : KG z s) (hZ : FZ z A s) (hL : Lay E) : ∀ (fu : Nat) (M : Mm) (x3 : Int) (t : Nat) (w3 : Int) (N : Mm), l_Di_distribute_21 E q0 x1 x2 fu M x3 = some (t, w3, N) → (t = 1 → ∀ (H : Heap) (locs : List Loc) (ls : Array Slot), va_P z.1 classes (wv z ad E N) H → va_D A (wv z ad E N) → va_S A s.heap H locs → lv_has ls 6 [] → W p l e (rmK 3 91 0 0) s m args below meth c H locs 0 0 Q (F0 m 75 ls [])) → ∀ (H : Heap) (locs : List Loc) (ls : Array Slot), va_P z.1 classes (wv z ad E M) H → va_D A (wv z ad E M) → va_S A s.heap H locs → lv_has ls 6 [(0, .ref (ad q0)), (1, .int (oI x1)), (2, .int (oI x2)), (3, .int (oI x3))] → W p l e (rmK 3 91 0 0) s m args below meth c H locs 0 0 Q (F0 m 21 ls []) := by
  intro fu
  induction fu with
  | zero =>
    intro M x3 t w3 N h
    have h : (none : Option (Nat × Int × Mm)) = some _ := h
    cases h
  | succ fu ih =>
    intro M x3 t w3 N h k1 H locs ls hP hD hS hl
    obtain ⟨⟨t0, w30, N9⟩, g0, h⟩ := bd_e h
    refine b_Di_distribute_21b l z ad E M q0 x1 x2 x3 t0 w30 N9 hx hb hml hts hown hlocks hA hG hZ hL g0 (fun e0 => ?_) (fun e0 => ?_) H locs ls hP hD hS hl
    · subst e0
      have h := ite_t rfl h
      exact ih N9 w30 t w3 N h k1
    · subst e0
      have h := ite_f (by decide) h
      obtain ⟨rfl, rfl, rfl⟩ := in3 h
      exact k1 rfl
set_option maxRecDepth 100000 in
set_option maxHeartbeats 4000000 in
theorem s_Di_distribute (l : Launch) (z : Zz) (ad : Nat → Nat) (E : Ev) (M : Mm) (p0 : Nat) (x1 : Int) (x2 : Int) (N : Mm) (hL : Lay E) (h : f_Di_distribute E M p0 x1 x2 = some N) : CT l z ⟨"Ballothall$Division", "distribute", "(II)V"⟩ prog_6_method_5_code 6 none [.ref (ad p0), .int (oI x1), .int (oI x2)] (wv z ad E M) 3 91 0 0 (fun _ => none) (fun _ => (wv z ad E N)) := by
  refine CT.of (own := "Ballothall$Division") (by decide +kernel) (Nat.le_of_ble_eq_true rfl) rfl (fun p e s m below meth c A ls hx hb hml hr hts hown hlocks hin hA hG hZ hP hD hS hl => ?_)
  have hl : lv_has ls 6 [(0, .ref (ad p0)), (1, .int (oI x1)), (2, .int (oI x2))] := hl
  have key : ∀ (H : Heap) (locs : List Loc) (args : Array Value), (∀ w ∈ WG, w.before args s = true) → va_P z.1 classes (wv z ad E M) H → va_S A s.heap H locs → W p l e (rmK 3 91 0 0) s m args below meth c H locs 0 0 (MQ below (QK z A (fun _ => none) (fun _ => (wv z ad E N))) args s 0 0 A) (F0 m 0 ls []) := by
    intro H locs args hts hP hS
    unfold f_Di_distribute at h
    obtain ⟨h_p0, h⟩ := ck_e h
    refine lv_aload_n hx hb d_6_5_0 rfl (lv_at hl 0 rfl) ?_
    refine m_gi (C := "Ballothall$Division") (T := TX4) (N := 8) (ci := 4) (k := 0) hx hb hts iX4 hown hG hP (isDi_i h_p0) (isDi_T h_p0) rfl (by decide) w_175 (fun _ h9 => h9) rfl rfl d_6_5_1 ?_
    obtain ⟨ok100, h⟩ := ck_e h
    refine lv_if_ne (tgt := 8) hx hb d_6_5_4 (by decide) (fun c9 => ?_) (fun c9 => ?_)
    · have h := ite_f (fun q => c9 ((oI_eq0 ok100).mpr q)) h
      refine lv_iload_n hx hb d_6_5_8 rfl (lv_at hl 1 rfl) ?_
      refine lv_iconst (v := oI 5) hx hb d_6_5_9 (by decide +kernel) ?_
      obtain ⟨ok101, h⟩ := ck_e h
      refine lv_icmp_ne (tgt := 19) hx hb d_6_5_10 (by decide) (fun c9 => ?_) (fun c9 => ?_)
      · have h := ite_f (fun q => c9 ((oI_eq (a := x1) (b := (5 : Int)) ok101 (by decide)).mpr q)) h
        refine lv_iconst (v := oI 0) hx hb d_6_5_19 (by decide +kernel) ?_
        refine lv_istore_n (lv' := [(3, .int (oI 0)), (0, .ref (ad p0)), (1, .int (oI x1)), (2, .int (oI x2))]) hx hb d_6_5_20 rfl hl (by decide) rfl (fun ls hl => ?_)
        obtain ⟨⟨t110, v110_3, M110⟩, g110, h⟩ := bd_e h
        obtain ⟨ok110, h⟩ := ck_e h
        refine s_Di_distribute_21 l z ad E p0 x1 x2 hx hb hml hts hown hlocks hA hG hZ hL FU M 0 t110 v110_3 M110 g110 (fun e110 H locs ls hP hD hS hl => ?_) H locs ls hP hD hS (lv_sub hl [1, 2, 3, 0] rfl)
        obtain rfl := in1 h
        exact W.vret hx hb hr (fun t ht hW => qkA hP hD hS (fun k => k) rfl rfl ht) hS.2.2 d_6_5_75
      · have h := ite_t ((oI_eq (a := x1) (b := (5 : Int)) ok101 (by decide)).mp c9) h
        refine lv_aload_n hx hb d_6_5_13 rfl (lv_at hl 0 rfl) ?_
        refine lv_iload_n hx hb d_6_5_14 rfl (lv_at hl 2 rfl) ?_
        obtain ⟨M111, g111, h⟩ := bd_e h
        refine kV (As := [.int (oI x2)]) (rest := []) (s_Di_distributeByRemainders l z ad E M p0 x2 M111 hL g111) hx hb hml hown hts w_1553 w_1550 w_1552 w_s_3e9bc1 w_6 md_97847b ⟨Nat.le_of_ble_eq_true rfl, Nat.le_of_ble_eq_true rfl⟩ hG hZ hP hD hS hA p0 (wv_o (ci := 4) (isDi_i h_p0) (isDi_T h_p0)) rfl rfl rfl hl.1 rfl (Nat.le_of_ble_eq_true rfl) d_6_5_15 ⟨Nat.le_of_ble_eq_true rfl, Nat.le_of_ble_eq_true rfl⟩ (fun _ H locs hP hD hS => ?_)
        have hP : va_P z.1 classes (wv z ad E M111) H := hP
        have hD : va_D A (wv z ad E M111) := hD
        refine W.eq (g2 := F0 m 18 ls []) rfl ?_
        obtain rfl := in1 h
        exact W.vret hx hb hr (fun t ht hW => qkA hP hD hS (fun k => k) rfl rfl ht) hS.2.2 d_6_5_18
    · have h := ite_t ((oI_eq0 ok100).mp c9) h
      obtain rfl := in1 h
      exact W.vret hx hb hr (fun t ht hW => qkA hP hD hS (fun k => k) rfl rfl ht) hS.2.2 d_6_5_7
  exact key _ _ _ hts hP hS
set_option maxRecDepth 100000 in
set_option maxHeartbeats 4000000 in
theorem b_Li_spreadInside_10b (l : Launch) (z : Zz) (ad : Nat → Nat) (E : Ev) (M : Mm) (x1 : Int) (x2 : Int) (x3 : Int) (x4 : Int) (t : Nat) (w4 : Int) (N : Mm) {Q : State → Prop} {p : Program} {e : Env} {s : State} {m : MethodId} {below : List Frame} {meth : Method} {c : Code} {A : Nat → Prop} {args : Array Value} (hx : p.tables.exec = Jvm.exec) (hb : c.code = prog_9_method_8_code) (hml : c.maxLocals = 5) (hts : ∀ w ∈ WG, w.before args s = true) (hown : s.vm.findClass "Ballothall$Lists" = some m.cls) (hlocks : meth.locks = false) (hA : ∀ q, s.heap.size ≤ q → A q) (hG : KG z s) (hZ : FZ z A s) (hL : Lay E) (h : Li_spreadInside_10b E M x1 x2 x3 x4 = some (t, w4, N)) (k0 : t = 0 → ∀ (H : Heap) (locs : List Loc) (ls : Array Slot), va_P z.1 classes (wv z ad E N) H → va_D A (wv z ad E N) → va_S A s.heap H locs → lv_has ls 5 [(0, .ref (ad 53)), (1, .int (oI x1)), (2, .int (oI x2)), (3, .int (oI x3)), (4, .int (oI w4))] → W p l e (rmK 4 116 0 0) s m args below meth c H locs 0 0 Q (F0 m 10 ls [])) (k1 : t = 1 → ∀ (H : Heap) (locs : List Loc) (ls : Array Slot), va_P z.1 classes (wv z ad E N) H → va_D A (wv z ad E N) → va_S A s.heap H locs → lv_has ls 5 [(0, .ref (ad 53)), (2, .int (oI x2)), (3, .int (oI x3))] → W p l e (rmK 4 116 0 0) s m args below meth c H locs 0 0 Q (F0 m 69 ls [])) : ∀ (H : Heap) (locs : List Loc) (ls : Array Slot), va_P z.1 classes (wv z ad E M) H → va_D A (wv z ad E M) → va_S A s.heap H locs → lv_has ls 5 [(0, .ref (ad 53)), (1, .int (oI x1)), (2, .int (oI x2)), (3, .int (oI x3)), (4, .int (oI x4))] → W p l e (rmK 4 116 0 0) s m args below meth c H locs 0 0 Q (F0 m 10 ls []) := by
  intro H locs ls hP hD hS hl
  unfold Li_spreadInside_10b at h
  refine lv_iload hx hb d_9_8_10 (lv_at hl 4 rfl) ?_
  refine lv_aload_n hx hb d_9_8_12 rfl (lv_at hl 0 rfl) ?_
  refine m_gi (C := "Ballothall$Lists") (T := TX7) (N := 11) (ci := 7) (k := 0) hx hb hts iX7 hown hG hP (yi_53 hL) (yt_53 hL) rfl (by decide) w_242 (fun _ h9 => h9) rfl rfl d_9_8_13 ?_
  obtain ⟨ok101, h⟩ := ck_e h
  obtain ⟨ok102, h⟩ := ck_e h
  refine lv_icmp_ge (tgt := 69) hx hb d_9_8_16 (by decide) (fun c9 => ?_) (fun c9 => ?_)
  · have h := ite_t ((oI_le (a := (M 53 0)) (b := x4) ok102 ok101).mp c9) h
    obtain ⟨rfl, rfl, rfl⟩ := in3 h
    exact k1 rfl H locs ls hP hD hS (lv_sub hl [0, 2, 3] rfl)
  · have h := ite_f (fun q => c9 ((oI_le (a := (M 53 0)) (b := x4) ok102 ok101).mpr q)) h
    refine lv_aload_n hx hb d_9_8_19 rfl (lv_at hl 0 rfl) ?_
    refine lv_iload_n hx hb d_9_8_20 rfl (lv_at hl 1 rfl) ?_
    refine lv_iload hx hb d_9_8_21 (lv_at hl 4 rfl) ?_
    obtain ⟨r103, g103, h⟩ := bd_e h
    refine kV (As := [.int (oI x1), .int (oI x4)]) (rest := []) (s_Li_isSameUnit l z ad E M x1 x4 r103 hL g103) hx hb hml hown hts w_1536 w_1533 w_1535 w_s_191f81 w_5 md_6c3977 ⟨Nat.le_of_ble_eq_true rfl, Nat.le_of_ble_eq_true rfl⟩ hG hZ hP hD hS hA 53 (wv_o (ci := 7) (yi_53 hL) (yt_53 hL)) rfl rfl rfl hl.1 rfl (Nat.le_of_ble_eq_true rfl) d_9_8_23 ⟨Nat.le_of_ble_eq_true rfl, Nat.le_of_ble_eq_true rfl⟩ (fun _ H locs hP hD hS => ?_)
    have hP : va_P z.1 classes (wv z ad E M) H := hP
    have hD : va_D A (wv z ad E M) := hD
    refine W.eq (g2 := F0 m 26 ls [.int (oI r103)]) rfl ?_
    obtain ⟨ok104, h⟩ := ck_e h
    refine lv_if_eq (tgt := 63) hx hb d_9_8_26 (by decide) (fun c9 => ?_) (fun c9 => ?_)
    · have h := ite_t ((oI_eq0 ok104).mp c9) h
      refine lv_iinc (v := oI (x4 + 1)) (lv' := [(4, .int (oI (x4 + 1))), (0, .ref (ad 53)), (1, .int (oI x1)), (2, .int (oI x2)), (3, .int (oI x3))]) hx hb d_9_8_63 hl (k := 4) rfl (oI_add x4 1) (by decide) rfl (fun ls hl => ?_)
      refine lv_goto (tgt := 10) hx hb d_9_8_66 (by decide) ?_
      obtain ⟨rfl, rfl, rfl⟩ := in3 h
      exact k0 rfl H locs ls hP hD hS (lv_sub hl [1, 2, 3, 4, 0] rfl)
    · have h := ite_f (fun q => c9 ((oI_eq0 ok104).mpr q)) h
      refine lv_aload_n hx hb d_9_8_29 rfl (lv_at hl 0 rfl) ?_
      refine m_gr (j := 54) (C := "Ballothall$Lists") (T := TX7) (N := 11) (ci := 7) (k := 1) hx hb hts iX7 hown hG hP (yi_53 hL) (yt_53 hL) rfl (by decide) w_244 (fun _ h9 => h9) rfl rfl (yr_53_1 hL) d_9_8_30 ?_
      refine lv_iload hx hb d_9_8_33 (lv_at hl 4 rfl) ?_
      obtain ⟨ok105, h⟩ := ck_e h
      refine m_ia hx hb hG hP (yi_54 hL) (yt_54 hL) ok105 d_9_8_35 ?_
      obtain ⟨ok106, h⟩ := ck_e h
      refine lv_if_le (tgt := 63) hx hb d_9_8_36 (by decide) (fun c9 => ?_) (fun c9 => ?_)
      · have h := ite_t ((oI_le0 ok106).mp c9) h
        refine lv_iinc (v := oI (x4 + 1)) (lv' := [(4, .int (oI (x4 + 1))), (0, .ref (ad 53)), (1, .int (oI x1)), (2, .int (oI x2)), (3, .int (oI x3))]) hx hb d_9_8_63 hl (k := 4) rfl (oI_add x4 1) (by decide) rfl (fun ls hl => ?_)
        refine lv_goto (tgt := 10) hx hb d_9_8_66 (by decide) ?_
        obtain ⟨rfl, rfl, rfl⟩ := in3 h
        exact k0 rfl H locs ls hP hD hS (lv_sub hl [1, 2, 3, 4, 0] rfl)
      · have h := ite_f (fun q => c9 ((oI_le0 ok106).mpr q)) h
        refine lv_aload_n hx hb d_9_8_39 rfl (lv_at hl 0 rfl) ?_
        refine m_gr (j := 64) (C := "Ballothall$Lists") (T := TX7) (N := 11) (ci := 7) (k := 5) hx hb hts iX7 hown hG hP (yi_53 hL) (yt_53 hL) rfl (by decide) w_250 (fun _ h9 => h9) rfl rfl (yr_53_5 hL) d_9_8_40 ?_
        refine lv_iload hx hb d_9_8_43 (lv_at hl 4 rfl) ?_
        refine lv_aload_n hx hb d_9_8_45 rfl (lv_at hl 0 rfl) ?_
        refine m_gr (j := 54) (C := "Ballothall$Lists") (T := TX7) (N := 11) (ci := 7) (k := 1) hx hb hts iX7 hown hG hP (yi_53 hL) (yt_53 hL) rfl (by decide) w_244 (fun _ h9 => h9) rfl rfl (yr_53_1 hL) d_9_8_46 ?_
        refine lv_iload hx hb d_9_8_49 (lv_at hl 4 rfl) ?_
        refine m_ia hx hb hG hP (yi_54 hL) (yt_54 hL) ok105 d_9_8_51 ?_
        refine lv_i2l (v := oJ (M 54 x4.toNat)) hx hb d_9_8_52 (oI_l ok106) ?_
        refine lv_aload_n hx hb d_9_8_53 rfl (lv_at hl 0 rfl) ?_
        refine m_gr (j := 56) (C := "Ballothall$Lists") (T := TX7) (N := 11) (ci := 7) (k := 3) hx hb hts iX7 hown hG hP (yi_53 hL) (yt_53 hL) rfl (by decide) w_247 (fun _ h9 => h9) rfl rfl (yr_53_3 hL) d_9_8_54 ?_
        refine lv_iload hx hb d_9_8_57 (lv_at hl 4 rfl) ?_
        refine m_ia hx hb hG hP (yi_56 hL) (yt_56 hL) ok105 d_9_8_59 ?_
        obtain ⟨M107, g107, h⟩ := bd_e h
        refine kVN (As := [.int (oI x4), .long (oJ (M 54 x4.toNat)), .int (oI (M 56 x4.toNat))]) (rest := []) (s_Di_append l z ad E M 64 x4 (M 54 x4.toNat) (M 56 x4.toNat) M107 hL g107) hx hb hml hown hts w_1545 n_1542 w_1544 w_s_198351 w_6 md_35cf58 ⟨Nat.le_of_ble_eq_true rfl, Nat.le_of_ble_eq_true rfl⟩ hG hZ hP hD hS hA 64 (wv_o (ci := 4) (yi_64 hL) (yt_64 hL)) rfl rfl rfl hl.1 rfl (Nat.le_of_ble_eq_true rfl) d_9_8_60 ⟨Nat.le_of_ble_eq_true rfl, Nat.le_of_ble_eq_true rfl⟩ (fun _ H locs hP hD hS => ?_)
        have hP : va_P z.1 classes (wv z ad E M107) H := hP
        have hD : va_D A (wv z ad E M107) := hD
        refine W.eq (g2 := F0 m 63 ls []) rfl ?_
        refine lv_iinc (v := oI (x4 + 1)) (lv' := [(4, .int (oI (x4 + 1))), (0, .ref (ad 53)), (1, .int (oI x1)), (2, .int (oI x2)), (3, .int (oI x3))]) hx hb d_9_8_63 hl (k := 4) rfl (oI_add x4 1) (by decide) rfl (fun ls hl => ?_)
        refine lv_goto (tgt := 10) hx hb d_9_8_66 (by decide) ?_
        obtain ⟨rfl, rfl, rfl⟩ := in3 h
        exact k0 rfl H locs ls hP hD hS (lv_sub hl [1, 2, 3, 4, 0] rfl)
set_option maxRecDepth 100000 in
set_option maxHeartbeats 4000000 in
theorem s_Li_spreadInside_10 (l : Launch) (z : Zz) (ad : Nat → Nat) (E : Ev) (x1 : Int) (x2 : Int) (x3 : Int) {Q : State → Prop} {p : Program} {e : Env} {s : State} {m : MethodId} {below : List Frame} {meth : Method} {c : Code} {A : Nat → Prop} {args : Array Value} (hx : p.tables.exec = Jvm.exec) (hb : c.code = prog_9_method_8_code) (hml : c.maxLocals = 5) (hts : ∀ w ∈ WG, w.before args s = true) (hown : s.vm.findClass "Ballothall$Lists" = some m.cls) (hlocks : meth.locks = false) (hA : ∀ q, s.heap.size ≤ q → A q) (hG : KG z s) (hZ : FZ z A s) (hL : Lay E) : ∀ (fu : Nat) (M : Mm) (x4 : Int) (t : Nat) (w4 : Int) (N : Mm), l_Li_spreadInside_10 E x1 x2 x3 fu M x4 = some (t, w4, N) → (t = 1 → ∀ (H : Heap) (locs : List Loc) (ls : Array Slot), va_P z.1 classes (wv z ad E N) H → va_D A (wv z ad E N) → va_S A s.heap H locs → lv_has ls 5 [(0, .ref (ad 53)), (2, .int (oI x2)), (3, .int (oI x3))] → W p l e (rmK 4 116 0 0) s m args below meth c H locs 0 0 Q (F0 m 69 ls [])) → ∀ (H : Heap) (locs : List Loc) (ls : Array Slot), va_P z.1 classes (wv z ad E M) H → va_D A (wv z ad E M) → va_S A s.heap H locs → lv_has ls 5 [(0, .ref (ad 53)), (1, .int (oI x1)), (2, .int (oI x2)), (3, .int (oI x3)), (4, .int (oI x4))] → W p l e (rmK 4 116 0 0) s m args below meth c H locs 0 0 Q (F0 m 10 ls []) := by
  intro fu
  induction fu with
  | zero =>
    intro M x4 t w4 N h
    have h : (none : Option (Nat × Int × Mm)) = some _ := h
    cases h
  | succ fu ih =>
    intro M x4 t w4 N h k1 H locs ls hP hD hS hl
    obtain ⟨⟨t0, w40, N9⟩, g0, h⟩ := bd_e h
    refine b_Li_spreadInside_10b l z ad E M x1 x2 x3 x4 t0 w40 N9 hx hb hml hts hown hlocks hA hG hZ hL g0 (fun e0 => ?_) (fun e0 => ?_) H locs ls hP hD hS hl
    · subst e0
      have h := ite_t rfl h
      exact ih N9 w40 t w4 N h k1
    · subst e0
      have h := ite_f (by decide) h
      obtain ⟨rfl, rfl, rfl⟩ := in3 h
      exact k1 rfl
set_option maxRecDepth 100000 in
set_option maxHeartbeats 4000000 in
theorem b_Li_spreadInside_81b (l : Launch) (z : Zz) (ad : Nat → Nat) (E : Ev) (M : Mm) (x4 : Int) (t : Nat) (w4 : Int) (N : Mm) {Q : State → Prop} {p : Program} {e : Env} {s : State} {m : MethodId} {below : List Frame} {meth : Method} {c : Code} {A : Nat → Prop} {args : Array Value} (hx : p.tables.exec = Jvm.exec) (hb : c.code = prog_9_method_8_code) (hml : c.maxLocals = 5) (hts : ∀ w ∈ WG, w.before args s = true) (hown : s.vm.findClass "Ballothall$Lists" = some m.cls) (hlocks : meth.locks = false) (hA : ∀ q, s.heap.size ≤ q → A q) (hG : KG z s) (hZ : FZ z A s) (hL : Lay E) (h : Li_spreadInside_81b E M x4 = some (t, w4, N)) (k0 : t = 0 → ∀ (H : Heap) (locs : List Loc) (ls : Array Slot), va_P z.1 classes (wv z ad E N) H → va_D A (wv z ad E N) → va_S A s.heap H locs → lv_has ls 5 [(0, .ref (ad 53)), (4, .int (oI w4))] → W p l e (rmK 4 116 0 0) s m args below meth c H locs 0 0 Q (F0 m 81 ls [])) (k1 : t = 1 → ∀ (H : Heap) (locs : List Loc) (ls : Array Slot), va_P z.1 classes (wv z ad E N) H → va_D A (wv z ad E N) → va_S A s.heap H locs → lv_has ls 5 [] → W p l e (rmK 4 116 0 0) s m args below meth c H locs 0 0 Q (F0 m 124 ls [])) : ∀ (H : Heap) (locs : List Loc) (ls : Array Slot), va_P z.1 classes (wv z ad E M) H → va_D A (wv z ad E M) → va_S A s.heap H locs → lv_has ls 5 [(0, .ref (ad 53)), (4, .int (oI x4))] → W p l e (rmK 4 116 0 0) s m args below meth c H locs 0 0 Q (F0 m 81 ls []) := by
  intro H locs ls hP hD hS hl
  unfold Li_spreadInside_81b at h
  refine lv_iload hx hb d_9_8_81 (lv_at hl 1 rfl) ?_
  refine lv_aload_n hx hb d_9_8_83 rfl (lv_at hl 0 rfl) ?_
  refine m_gr (j := 64) (C := "Ballothall$Lists") (T := TX7) (N := 11) (ci := 7) (k := 5) hx hb hts iX7 hown hG hP (yi_53 hL) (yt_53 hL) rfl (by decide) w_250 (fun _ h9 => h9) rfl rfl (yr_53_5 hL) d_9_8_84 ?_
  refine m_giN (C := "Ballothall$Division") (T := TX4) (N := 8) (ci := 4) (k := 0) hx hb hts iX4 hown hG hP (yi_64 hL) (yt_64 hL) rfl (by decide) n_176 rfl (fun _ h9 => h9) rfl rfl d_9_8_87 ?_
  obtain ⟨ok110, h⟩ := ck_e h
  obtain ⟨ok111, h⟩ := ck_e h
  refine lv_icmp_ge (tgt := 124) hx hb d_9_8_90 (by decide) (fun c9 => ?_) (fun c9 => ?_)
  · have h := ite_t ((oI_le (a := (M 64 0)) (b := x4) ok111 ok110).mp c9) h
    obtain ⟨rfl, rfl, rfl⟩ := in3 h
    exact k1 rfl H locs ls hP hD hS (lv_sub hl [] rfl)
  · have h := ite_f (fun q => c9 ((oI_le (a := (M 64 0)) (b := x4) ok111 ok110).mpr q)) h
    refine lv_aload_n hx hb d_9_8_93 rfl (lv_at hl 0 rfl) ?_
    refine m_gr (j := 71) (C := "Ballothall$Lists") (T := TX7) (N := 11) (ci := 7) (k := 7) hx hb hts iX7 hown hG hP (yi_53 hL) (yt_53 hL) rfl (by decide) w_252 (fun _ h9 => h9) rfl rfl (yr_53_7 hL) d_9_8_94 ?_
    refine lv_aload_n hx hb d_9_8_97 rfl (lv_at hl 0 rfl) ?_
    refine m_gr (j := 64) (C := "Ballothall$Lists") (T := TX7) (N := 11) (ci := 7) (k := 5) hx hb hts iX7 hown hG hP (yi_53 hL) (yt_53 hL) rfl (by decide) w_250 (fun _ h9 => h9) rfl rfl (yr_53_5 hL) d_9_8_98 ?_
    refine m_grN (j := 65) (C := "Ballothall$Division") (T := TX4) (N := 8) (ci := 4) (k := 2) hx hb hts iX4 hown hG hP (yi_64 hL) (yt_64 hL) rfl (by decide) n_180 rfl (fun _ h9 => h9) rfl rfl (yr_64_2 hL) d_9_8_101 ?_
    refine lv_iload hx hb d_9_8_104 (lv_at hl 1 rfl) ?_
    obtain ⟨ok112, h⟩ := ck_e h
    refine m_ia hx hb hG hP (yi_65 hL) (yt_65 hL) ok112 d_9_8_106 ?_
    refine lv_aload_n hx hb d_9_8_107 rfl (lv_at hl 0 rfl) ?_
    refine m_gr (j := 64) (C := "Ballothall$Lists") (T := TX7) (N := 11) (ci := 7) (k := 5) hx hb hts iX7 hown hG hP (yi_53 hL) (yt_53 hL) rfl (by decide) w_250 (fun _ h9 => h9) rfl rfl (yr_53_5 hL) d_9_8_108 ?_
    refine m_grN (j := 68) (C := "Ballothall$Division") (T := TX4) (N := 8) (ci := 4) (k := 5) hx hb hts iX4 hown hG hP (yi_64 hL) (yt_64 hL) rfl (by decide) n_184 rfl (fun _ h9 => h9) rfl rfl (yr_64_5 hL) d_9_8_111 ?_
    refine lv_iload hx hb d_9_8_114 (lv_at hl 1 rfl) ?_
    refine m_ia hx hb hG hP (yi_68 hL) (yt_68 hL) ok112 d_9_8_116 ?_
    obtain ⟨ok113, h⟩ := ck_e h
    refine m_is hx hb hG hP hD hS (yi_71 hL) (yt_71 hL) ok113 d_9_8_117 (fun H locs hP hD hS => ?_)
    have hP : va_P z.1 classes (wv z ad E (u2 M 71 (M 65 x4.toNat).toNat (M 68 x4.toNat))) H := hP
    have hD : va_D A (wv z ad E (u2 M 71 (M 65 x4.toNat).toNat (M 68 x4.toNat))) := hD
    refine lv_iinc (v := oI (x4 + 1)) (lv' := [(4, .int (oI (x4 + 1))), (0, .ref (ad 53))]) hx hb d_9_8_118 hl (k := 1) rfl (oI_add x4 1) (by decide) rfl (fun ls hl => ?_)
    refine lv_goto (tgt := 81) hx hb d_9_8_121 (by decide) ?_
    obtain ⟨rfl, rfl, rfl⟩ := in3 h
    exact k0 rfl H locs ls hP hD hS (lv_sub hl [1, 0] rfl)
set_option maxRecDepth 100000 in
set_option maxHeartbeats 4000000 in
theorem s_Li_spreadInside_81 (l : Launch) (z : Zz) (ad : Nat → Nat) (E : Ev) {Q : State → Prop} {p : Program} {e : Env} {s : State} {m : MethodId} {below : List Frame} {meth : Method} {c : Code} {A : Nat → Prop} {args : Array Value} (hx : p.tables.exec = Jvm.exec) (hb : c.code = prog_9_method_8_code) (hml : c.maxLocals = 5) (hts : ∀ w ∈ WG, w.before args s = true) (hown : s.vm.findClass "Ballothall$Lists" = some m.cls) (hlocks : meth.locks = false) (hA : ∀ q, s.heap.size ≤ q → A q) (hG : KG z s) (hZ : FZ z A s) (hL : Lay E) : ∀ (fu : Nat) (M : Mm) (x4 : Int) (t : Nat) (w4 : Int) (N : Mm), l_Li_spreadInside_81 E fu M x4 = some (t, w4, N) → (t = 1 → ∀ (H : Heap) (locs : List Loc) (ls : Array Slot), va_P z.1 classes (wv z ad E N) H → va_D A (wv z ad E N) → va_S A s.heap H locs → lv_has ls 5 [] → W p l e (rmK 4 116 0 0) s m args below meth c H locs 0 0 Q (F0 m 124 ls [])) → ∀ (H : Heap) (locs : List Loc) (ls : Array Slot), va_P z.1 classes (wv z ad E M) H → va_D A (wv z ad E M) → va_S A s.heap H locs → lv_has ls 5 [(0, .ref (ad 53)), (4, .int (oI x4))] → W p l e (rmK 4 116 0 0) s m args below meth c H locs 0 0 Q (F0 m 81 ls []) := by
  intro fu
  induction fu with
  | zero =>
    intro M x4 t w4 N h
    have h : (none : Option (Nat × Int × Mm)) = some _ := h
    cases h
  | succ fu ih =>
    intro M x4 t w4 N h k1 H locs ls hP hD hS hl
    obtain ⟨⟨t0, w40, N9⟩, g0, h⟩ := bd_e h
    refine b_Li_spreadInside_81b l z ad E M x4 t0 w40 N9 hx hb hml hts hown hlocks hA hG hZ hL g0 (fun e0 => ?_) (fun e0 => ?_) H locs ls hP hD hS hl
    · subst e0
      have h := ite_t rfl h
      exact ih N9 w40 t w4 N h k1
    · subst e0
      have h := ite_f (by decide) h
      obtain ⟨rfl, rfl, rfl⟩ := in3 h
      exact k1 rfl
set_option maxRecDepth 100000 in
set_option maxHeartbeats 4000000 in
theorem s_Li_spreadInside (l : Launch) (z : Zz) (ad : Nat → Nat) (E : Ev) (M : Mm) (x1 : Int) (x2 : Int) (x3 : Int) (N : Mm) (hL : Lay E) (h : f_Li_spreadInside E M x1 x2 x3 = some N) : CT l z ⟨"Ballothall$Lists", "spreadInside", "(III)V"⟩ prog_9_method_8_code 5 none [.ref (ad 53), .int (oI x1), .int (oI x2), .int (oI x3)] (wv z ad E M) 4 116 0 0 (fun _ => none) (fun _ => (wv z ad E N)) := by
  refine CT.of (own := "Ballothall$Lists") (by decide +kernel) (Nat.le_of_ble_eq_true rfl) rfl (fun p e s m below meth c A ls hx hb hml hr hts hown hlocks hin hA hG hZ hP hD hS hl => ?_)
  have hl : lv_has ls 5 [(0, .ref (ad 53)), (1, .int (oI x1)), (2, .int (oI x2)), (3, .int (oI x3))] := hl
  have key : ∀ (H : Heap) (locs : List Loc) (args : Array Value), (∀ w ∈ WG, w.before args s = true) → va_P z.1 classes (wv z ad E M) H → va_S A s.heap H locs → W p l e (rmK 4 116 0 0) s m args below meth c H locs 0 0 (MQ below (QK z A (fun _ => none) (fun _ => (wv z ad E N))) args s 0 0 A) (F0 m 0 ls []) := by
    intro H locs args hts hP hS
    unfold f_Li_spreadInside at h
    refine lv_aload_n hx hb d_9_8_0 rfl (lv_at hl 0 rfl) ?_
    refine m_gr (j := 64) (C := "Ballothall$Lists") (T := TX7) (N := 11) (ci := 7) (k := 5) hx hb hts iX7 hown hG hP (yi_53 hL) (yt_53 hL) rfl (by decide) w_250 (fun _ h9 => h9) rfl rfl (yr_53_5 hL) d_9_8_1 ?_
    obtain ⟨M100, g100, h⟩ := bd_e h
    refine kVN (As := []) (rest := []) (s_Di_clear l z ad E M 64 M100 hL g100) hx hb hml hown hts w_1528 n_1525 w_1527 w_s_030e9c w_6 md_4dddda ⟨Nat.le_of_ble_eq_true rfl, Nat.le_of_ble_eq_true rfl⟩ hG hZ hP hD hS hA 64 (wv_o (ci := 4) (yi_64 hL) (yt_64 hL)) rfl rfl rfl hl.1 rfl (Nat.le_of_ble_eq_true rfl) d_9_8_4 ⟨Nat.le_of_ble_eq_true rfl, Nat.le_of_ble_eq_true rfl⟩ (fun _ H locs hP hD hS => ?_)
    have hP : va_P z.1 classes (wv z ad E M100) H := hP
    have hD : va_D A (wv z ad E M100) := hD
    refine W.eq (g2 := F0 m 7 ls []) rfl ?_
    refine lv_iload_n hx hb d_9_8_7 rfl (lv_at hl 1 rfl) ?_
    refine lv_istore (lv' := [(4, .int (oI x1)), (0, .ref (ad 53)), (1, .int (oI x1)), (2, .int (oI x2)), (3, .int (oI x3))]) hx hb d_9_8_8 hl (by decide) rfl (fun ls hl => ?_)
    obtain ⟨⟨t108, v108_4, M108⟩, g108, h⟩ := bd_e h
    obtain ⟨ok108, h⟩ := ck_e h
    refine s_Li_spreadInside_10 l z ad E x1 x2 x3 hx hb hml hts hown hlocks hA hG hZ hL FU M100 x1 t108 v108_4 M108 g108 (fun e108 H locs ls hP hD hS hl => ?_) H locs ls hP hD hS (lv_sub hl [1, 2, 3, 4, 0] rfl)
    refine lv_aload_n hx hb d_9_8_69 rfl (lv_at hl 0 rfl) ?_
    refine m_gr (j := 64) (C := "Ballothall$Lists") (T := TX7) (N := 11) (ci := 7) (k := 5) hx hb hts iX7 hown hG hP (yi_53 hL) (yt_53 hL) rfl (by decide) w_250 (fun _ h9 => h9) rfl rfl (yr_53_5 hL) d_9_8_70 ?_
    refine lv_iload_n hx hb d_9_8_73 rfl (lv_at hl 1 rfl) ?_
    refine lv_iload_n hx hb d_9_8_74 rfl (lv_at hl 2 rfl) ?_
    obtain ⟨M109, g109, h⟩ := bd_e h
    refine kVN (As := [.int (oI x2), .int (oI x3)]) (rest := []) (s_Di_distribute l z ad E M108 64 x2 x3 M109 hL g109) hx hb hml hown hts w_1549 n_1546 w_1548 w_s_cb71bb w_6 md_9f0e03 ⟨Nat.le_of_ble_eq_true rfl, Nat.le_of_ble_eq_true rfl⟩ hG hZ hP hD hS hA 64 (wv_o (ci := 4) (yi_64 hL) (yt_64 hL)) rfl rfl rfl hl.1 rfl (Nat.le_of_ble_eq_true rfl) d_9_8_75 ⟨Nat.le_of_ble_eq_true rfl, Nat.le_of_ble_eq_true rfl⟩ (fun _ H locs hP hD hS => ?_)
    have hP : va_P z.1 classes (wv z ad E M109) H := hP
    have hD : va_D A (wv z ad E M109) := hD
    refine W.eq (g2 := F0 m 78 ls []) rfl ?_
    refine lv_iconst (v := oI 0) hx hb d_9_8_78 (by decide +kernel) ?_
    refine lv_istore (lv' := [(4, .int (oI 0)), (0, .ref (ad 53)), (2, .int (oI x2)), (3, .int (oI x3))]) hx hb d_9_8_79 hl (by decide) rfl (fun ls hl => ?_)
    obtain ⟨⟨t114, v114_4, M114⟩, g114, h⟩ := bd_e h
    obtain ⟨ok114, h⟩ := ck_e h
    refine s_Li_spreadInside_81 l z ad E hx hb hml hts hown hlocks hA hG hZ hL FU M109 0 t114 v114_4 M114 g114 (fun e114 H locs ls hP hD hS hl => ?_) H locs ls hP hD hS (lv_sub hl [1, 0] rfl)
    obtain rfl := in1 h
    exact W.vret hx hb hr (fun t ht hW => qkA hP hD hS (fun k => k) rfl rfl ht) hS.2.2 d_9_8_124
  exact key _ _ _ hts hP hS
set_option maxRecDepth 100000 in
set_option maxHeartbeats 4000000 in
theorem b_Li_spread_6b (l : Launch) (z : Zz) (ad : Nat → Nat) (E : Ev) (M : Mm) (x1 : Int) (x2 : Int) (x3 : Int) (x4 : Int) (x6 : Int) (t : Nat) (w4 : Int) (w6 : Int) (N : Mm) {Q : State → Prop} {p : Program} {e : Env} {s : State} {m : MethodId} {below : List Frame} {meth : Method} {c : Code} {A : Nat → Prop} {args : Array Value} (hx : p.tables.exec = Jvm.exec) (hb : c.code = prog_9_method_5_code) (hml : c.maxLocals = 7) (hts : ∀ w ∈ WG, w.before args s = true) (hown : s.vm.findClass "Ballothall$Lists" = some m.cls) (hlocks : meth.locks = false) (hA : ∀ q, s.heap.size ≤ q → A q) (hG : KG z s) (hZ : FZ z A s) (hL : Lay E) (h : Li_spread_6b E M x1 x2 x3 x4 x6 = some (t, w4, w6, N)) (k0 : t = 0 → ∀ (H : Heap) (locs : List Loc) (ls : Array Slot), va_P z.1 classes (wv z ad E N) H → va_D A (wv z ad E N) → va_S A s.heap H locs → lv_has ls 7 [(0, .ref (ad 53)), (1, .int (oI x1)), (2, .int (oI x2)), (3, .int (oI x3)), (4, .long (oJ w4)), (6, .int (oI w6))] → W p l e (rmK 5 140 0 0) s m args below meth c H locs 0 0 Q (F0 m 6 ls [])) (k1 : t = 1 → ∀ (H : Heap) (locs : List Loc) (ls : Array Slot), va_P z.1 classes (wv z ad E N) H → va_D A (wv z ad E N) → va_S A s.heap H locs → lv_has ls 7 [(0, .ref (ad 53)), (1, .int (oI x1)), (2, .int (oI x2)), (3, .int (oI x3)), (4, .long (oJ w4))] → W p l e (rmK 5 140 0 0) s m args below meth c H locs 0 0 Q (F0 m 34 ls [])) : ∀ (H : Heap) (locs : List Loc) (ls : Array Slot), va_P z.1 classes (wv z ad E M) H → va_D A (wv z ad E M) → va_S A s.heap H locs → lv_has ls 7 [(0, .ref (ad 53)), (1, .int (oI x1)), (2, .int (oI x2)), (3, .int (oI x3)), (4, .long (oJ x4)), (6, .int (oI x6))] → W p l e (rmK 5 140 0 0) s m args below meth c H locs 0 0 Q (F0 m 6 ls []) := by
  intro H locs ls hP hD hS hl
  unfold Li_spread_6b at h
  refine lv_iload hx hb d_9_5_6 (lv_at hl 5 rfl) ?_
  refine lv_aload_n hx hb d_9_5_8 rfl (lv_at hl 0 rfl) ?_
  refine m_gi (C := "Ballothall$Lists") (T := TX7) (N := 11) (ci := 7) (k := 0) hx hb hts iX7 hown hG hP (yi_53 hL) (yt_53 hL) rfl (by decide) w_242 (fun _ h9 => h9) rfl rfl d_9_5_9 ?_
  obtain ⟨ok100, h⟩ := ck_e h
  obtain ⟨ok101, h⟩ := ck_e h
  refine lv_icmp_ge (tgt := 34) hx hb d_9_5_12 (by decide) (fun c9 => ?_) (fun c9 => ?_)
  · have h := ite_t ((oI_le (a := (M 53 0)) (b := x6) ok101 ok100).mp c9) h
    obtain ⟨rfl, rfl, rfl, rfl⟩ := in4 h
    exact k1 rfl H locs ls hP hD hS (lv_sub hl [0, 1, 2, 3, 4] rfl)
  · have h := ite_f (fun q => c9 ((oI_le (a := (M 53 0)) (b := x6) ok101 ok100).mpr q)) h
    refine lv_lload hx hb d_9_5_15 (lv_at hl 4 rfl) ?_
    refine lv_aload_n hx hb d_9_5_17 rfl (lv_at hl 0 rfl) ?_
    refine m_gr (j := 54) (C := "Ballothall$Lists") (T := TX7) (N := 11) (ci := 7) (k := 1) hx hb hts iX7 hown hG hP (yi_53 hL) (yt_53 hL) rfl (by decide) w_244 (fun _ h9 => h9) rfl rfl (yr_53_1 hL) d_9_5_18 ?_
    refine lv_iload hx hb d_9_5_21 (lv_at hl 5 rfl) ?_
    obtain ⟨ok102, h⟩ := ck_e h
    refine m_ia hx hb hG hP (yi_54 hL) (yt_54 hL) ok102 d_9_5_23 ?_
    obtain ⟨ok103, h⟩ := ck_e h
    refine lv_i2l (v := oJ (M 54 x6.toNat)) hx hb d_9_5_24 (oI_l ok103) ?_
    refine lv_ladd hx hb d_9_5_25 ?_
    refine nrmL (oJ_add _ _) ?_
    refine lv_lstore (lv' := [(4, .long (oJ (x4 + (M 54 x6.toNat)))), (0, .ref (ad 53)), (1, .int (oI x1)), (2, .int (oI x2)), (3, .int (oI x3)), (6, .int (oI x6))]) hx hb d_9_5_26 hl (by decide) rfl (fun ls hl => ?_)
    refine lv_iinc (v := oI (x6 + 1)) (lv' := [(6, .int (oI (x6 + 1))), (4, .long (oJ (x4 + (M 54 x6.toNat)))), (0, .ref (ad 53)), (1, .int (oI x1)), (2, .int (oI x2)), (3, .int (oI x3))]) hx hb d_9_5_28 hl (k := 5) rfl (oI_add x6 1) (by decide) rfl (fun ls hl => ?_)
    refine lv_goto (tgt := 6) hx hb d_9_5_31 (by decide) ?_
    obtain ⟨rfl, rfl, rfl, rfl⟩ := in4 h
    exact k0 rfl H locs ls hP hD hS (lv_sub hl [2, 3, 4, 5, 1, 0] rfl)
set_option maxRecDepth 100000 in
set_option maxHeartbeats 4000000 in
theorem s_Li_spread_6 (l : Launch) (z : Zz) (ad : Nat → Nat) (E : Ev) (x1 : Int) (x2 : Int) (x3 : Int) {Q : State → Prop} {p : Program} {e : Env} {s : State} {m : MethodId} {below : List Frame} {meth : Method} {c : Code} {A : Nat → Prop} {args : Array Value} (hx : p.tables.exec = Jvm.exec) (hb : c.code = prog_9_method_5_code) (hml : c.maxLocals = 7) (hts : ∀ w ∈ WG, w.before args s = true) (hown : s.vm.findClass "Ballothall$Lists" = some m.cls) (hlocks : meth.locks = false) (hA : ∀ q, s.heap.size ≤ q → A q) (hG : KG z s) (hZ : FZ z A s) (hL : Lay E) : ∀ (fu : Nat) (M : Mm) (x4 : Int) (x6 : Int) (t : Nat) (w4 : Int) (w6 : Int) (N : Mm), l_Li_spread_6 E x1 x2 x3 fu M x4 x6 = some (t, w4, w6, N) → (t = 1 → ∀ (H : Heap) (locs : List Loc) (ls : Array Slot), va_P z.1 classes (wv z ad E N) H → va_D A (wv z ad E N) → va_S A s.heap H locs → lv_has ls 7 [(0, .ref (ad 53)), (1, .int (oI x1)), (2, .int (oI x2)), (3, .int (oI x3)), (4, .long (oJ w4))] → W p l e (rmK 5 140 0 0) s m args below meth c H locs 0 0 Q (F0 m 34 ls [])) → ∀ (H : Heap) (locs : List Loc) (ls : Array Slot), va_P z.1 classes (wv z ad E M) H → va_D A (wv z ad E M) → va_S A s.heap H locs → lv_has ls 7 [(0, .ref (ad 53)), (1, .int (oI x1)), (2, .int (oI x2)), (3, .int (oI x3)), (4, .long (oJ x4)), (6, .int (oI x6))] → W p l e (rmK 5 140 0 0) s m args below meth c H locs 0 0 Q (F0 m 6 ls []) := by
  intro fu
  induction fu with
  | zero =>
    intro M x4 x6 t w4 w6 N h
    have h : (none : Option (Nat × Int × Int × Mm)) = some _ := h
    cases h
  | succ fu ih =>
    intro M x4 x6 t w4 w6 N h k1 H locs ls hP hD hS hl
    obtain ⟨⟨t0, w40, w60, N9⟩, g0, h⟩ := bd_e h
    refine b_Li_spread_6b l z ad E M x1 x2 x3 x4 x6 t0 w40 w60 N9 hx hb hml hts hown hlocks hA hG hZ hL g0 (fun e0 => ?_) (fun e0 => ?_) H locs ls hP hD hS hl
    · subst e0
      have h := ite_t rfl h
      exact ih N9 w40 w60 t w4 w6 N h k1
    · subst e0
      have h := ite_f (by decide) h
      obtain ⟨rfl, rfl, rfl, rfl⟩ := in4 h
      exact k1 rfl
set_option maxRecDepth 100000 in
set_option maxHeartbeats 4000000 in
theorem b_Li_spread_49b (l : Launch) (z : Zz) (ad : Nat → Nat) (E : Ev) (M : Mm) (x1 : Int) (x2 : Int) (x3 : Int) (x4 : Int) (x6 : Int) (t : Nat) (w6 : Int) (N : Mm) {Q : State → Prop} {p : Program} {e : Env} {s : State} {m : MethodId} {below : List Frame} {meth : Method} {c : Code} {A : Nat → Prop} {args : Array Value} (hx : p.tables.exec = Jvm.exec) (hb : c.code = prog_9_method_5_code) (hml : c.maxLocals = 7) (hts : ∀ w ∈ WG, w.before args s = true) (hown : s.vm.findClass "Ballothall$Lists" = some m.cls) (hlocks : meth.locks = false) (hA : ∀ q, s.heap.size ≤ q → A q) (hG : KG z s) (hZ : FZ z A s) (hL : Lay E) (h : Li_spread_49b E M x1 x2 x3 x4 x6 = some (t, w6, N)) (k0 : t = 0 → ∀ (H : Heap) (locs : List Loc) (ls : Array Slot), va_P z.1 classes (wv z ad E N) H → va_D A (wv z ad E N) → va_S A s.heap H locs → lv_has ls 7 [(0, .ref (ad 53)), (1, .int (oI x1)), (2, .int (oI x2)), (3, .int (oI x3)), (4, .long (oJ x4)), (6, .int (oI w6))] → W p l e (rmK 5 140 0 0) s m args below meth c H locs 0 0 Q (F0 m 49 ls [])) (k1 : t = 1 → ∀ (H : Heap) (locs : List Loc) (ls : Array Slot), va_P z.1 classes (wv z ad E N) H → va_D A (wv z ad E N) → va_S A s.heap H locs → lv_has ls 7 [(0, .ref (ad 53)), (1, .int (oI x1)), (2, .int (oI x2))] → W p l e (rmK 5 140 0 0) s m args below meth c H locs 0 0 Q (F0 m 84 ls [])) : ∀ (H : Heap) (locs : List Loc) (ls : Array Slot), va_P z.1 classes (wv z ad E M) H → va_D A (wv z ad E M) → va_S A s.heap H locs → lv_has ls 7 [(0, .ref (ad 53)), (1, .int (oI x1)), (2, .int (oI x2)), (3, .int (oI x3)), (4, .long (oJ x4)), (6, .int (oI x6))] → W p l e (rmK 5 140 0 0) s m args below meth c H locs 0 0 Q (F0 m 49 ls []) := by
  intro H locs ls hP hD hS hl
  unfold Li_spread_49b at h
  refine lv_iload hx hb d_9_5_49 (lv_at hl 5 rfl) ?_
  refine lv_aload_n hx hb d_9_5_51 rfl (lv_at hl 0 rfl) ?_
  refine m_gi (C := "Ballothall$Lists") (T := TX7) (N := 11) (ci := 7) (k := 0) hx hb hts iX7 hown hG hP (yi_53 hL) (yt_53 hL) rfl (by decide) w_242 (fun _ h9 => h9) rfl rfl d_9_5_52 ?_
  obtain ⟨ok106, h⟩ := ck_e h
  obtain ⟨ok107, h⟩ := ck_e h
  refine lv_icmp_ge (tgt := 84) hx hb d_9_5_55 (by decide) (fun c9 => ?_) (fun c9 => ?_)
  · have h := ite_t ((oI_le (a := (M 53 0)) (b := x6) ok107 ok106).mp c9) h
    obtain ⟨rfl, rfl, rfl⟩ := in3 h
    exact k1 rfl H locs ls hP hD hS (lv_sub hl [0, 1, 2] rfl)
  · have h := ite_f (fun q => c9 ((oI_le (a := (M 53 0)) (b := x6) ok107 ok106).mpr q)) h
    refine lv_aload_n hx hb d_9_5_58 rfl (lv_at hl 0 rfl) ?_
    refine lv_iload hx hb d_9_5_59 (lv_at hl 5 rfl) ?_
    obtain ⟨r108, g108, h⟩ := bd_e h
    refine kV (As := [.int (oI x6)]) (rest := []) (s_Li_isFirstOfUnit l z ad E M x6 r108 hL g108) hx hb hml hown hts w_1532 w_1529 w_1531 w_s_af83a0 w_5 md_fff193 ⟨Nat.le_of_ble_eq_true rfl, Nat.le_of_ble_eq_true rfl⟩ hG hZ hP hD hS hA 53 (wv_o (ci := 7) (yi_53 hL) (yt_53 hL)) rfl rfl rfl hl.1 rfl (Nat.le_of_ble_eq_true rfl) d_9_5_61 ⟨Nat.le_of_ble_eq_true rfl, Nat.le_of_ble_eq_true rfl⟩ (fun _ H locs hP hD hS => ?_)
    have hP : va_P z.1 classes (wv z ad E M) H := hP
    have hD : va_D A (wv z ad E M) := hD
    refine W.eq (g2 := F0 m 64 ls [.int (oI r108)]) rfl ?_
    obtain ⟨ok109, h⟩ := ck_e h
    refine lv_if_eq (tgt := 78) hx hb d_9_5_64 (by decide) (fun c9 => ?_) (fun c9 => ?_)
    · have h := ite_t ((oI_eq0 ok109).mp c9) h
      refine lv_iinc (v := oI (x6 + 1)) (lv' := [(6, .int (oI (x6 + 1))), (0, .ref (ad 53)), (1, .int (oI x1)), (2, .int (oI x2)), (3, .int (oI x3)), (4, .long (oJ x4))]) hx hb d_9_5_78 hl (k := 5) rfl (oI_add x6 1) (by decide) rfl (fun ls hl => ?_)
      refine lv_goto (tgt := 49) hx hb d_9_5_81 (by decide) ?_
      obtain ⟨rfl, rfl, rfl⟩ := in3 h
      exact k0 rfl H locs ls hP hD hS (lv_sub hl [1, 2, 3, 4, 5, 0] rfl)
    · have h := ite_f (fun q => c9 ((oI_eq0 ok109).mpr q)) h
      refine lv_aload_n hx hb d_9_5_67 rfl (lv_at hl 0 rfl) ?_
      refine lv_iload hx hb d_9_5_68 (lv_at hl 5 rfl) ?_
      refine lv_iload_n hx hb d_9_5_70 rfl (lv_at hl 3 rfl) ?_
      obtain ⟨ok110, h⟩ := ck_e h
      refine lv_i2l (v := oJ x3) hx hb d_9_5_71 (oI_l ok110) ?_
      refine lv_lload hx hb d_9_5_72 (lv_at hl 4 rfl) ?_
      refine lv_lmul hx hb d_9_5_74 ?_
      refine nrmL (oJ_mul _ _) ?_
      obtain ⟨M111, g111, h⟩ := bd_e h
      refine kV (As := [.int (oI x6), .long (oJ (x3 * x4))]) (rest := []) (s_Li_appendUnit l z ad E M x6 (x3 * x4) M111 hL g111) hx hb hml hown hts w_1540 w_1537 w_1539 w_s_a3b725 w_5 md_2bc459 ⟨Nat.le_of_ble_eq_true rfl, Nat.le_of_ble_eq_true rfl⟩ hG hZ hP hD hS hA 53 (wv_o (ci := 7) (yi_53 hL) (yt_53 hL)) rfl rfl rfl hl.1 rfl (Nat.le_of_ble_eq_true rfl) d_9_5_75 ⟨Nat.le_of_ble_eq_true rfl, Nat.le_of_ble_eq_true rfl⟩ (fun _ H locs hP hD hS => ?_)
      have hP : va_P z.1 classes (wv z ad E M111) H := hP
      have hD : va_D A (wv z ad E M111) := hD
      refine W.eq (g2 := F0 m 78 ls []) rfl ?_
      refine lv_iinc (v := oI (x6 + 1)) (lv' := [(6, .int (oI (x6 + 1))), (0, .ref (ad 53)), (1, .int (oI x1)), (2, .int (oI x2)), (3, .int (oI x3)), (4, .long (oJ x4))]) hx hb d_9_5_78 hl (k := 5) rfl (oI_add x6 1) (by decide) rfl (fun ls hl => ?_)
      refine lv_goto (tgt := 49) hx hb d_9_5_81 (by decide) ?_
      obtain ⟨rfl, rfl, rfl⟩ := in3 h
      exact k0 rfl H locs ls hP hD hS (lv_sub hl [1, 2, 3, 4, 5, 0] rfl)
set_option maxRecDepth 100000 in
set_option maxHeartbeats 4000000 in
theorem s_Li_spread_49 (l : Launch) (z : Zz) (ad : Nat → Nat) (E : Ev) (x1 : Int) (x2 : Int) (x3 : Int) (x4 : Int) {Q : State → Prop} {p : Program} {e : Env} {s : State} {m : MethodId} {below : List Frame} {meth : Method} {c : Code} {A : Nat → Prop} {args : Array Value} (hx : p.tables.exec = Jvm.exec) (hb : c.code = prog_9_method_5_code) (hml : c.maxLocals = 7) (hts : ∀ w ∈ WG, w.before args s = true) (hown : s.vm.findClass "Ballothall$Lists" = some m.cls) (hlocks : meth.locks = false) (hA : ∀ q, s.heap.size ≤ q → A q) (hG : KG z s) (hZ : FZ z A s) (hL : Lay E) : ∀ (fu : Nat) (M : Mm) (x6 : Int) (t : Nat) (w6 : Int) (N : Mm), l_Li_spread_49 E x1 x2 x3 x4 fu M x6 = some (t, w6, N) → (t = 1 → ∀ (H : Heap) (locs : List Loc) (ls : Array Slot), va_P z.1 classes (wv z ad E N) H → va_D A (wv z ad E N) → va_S A s.heap H locs → lv_has ls 7 [(0, .ref (ad 53)), (1, .int (oI x1)), (2, .int (oI x2))] → W p l e (rmK 5 140 0 0) s m args below meth c H locs 0 0 Q (F0 m 84 ls [])) → ∀ (H : Heap) (locs : List Loc) (ls : Array Slot), va_P z.1 classes (wv z ad E M) H → va_D A (wv z ad E M) → va_S A s.heap H locs → lv_has ls 7 [(0, .ref (ad 53)), (1, .int (oI x1)), (2, .int (oI x2)), (3, .int (oI x3)), (4, .long (oJ x4)), (6, .int (oI x6))] → W p l e (rmK 5 140 0 0) s m args below meth c H locs 0 0 Q (F0 m 49 ls []) := by
  intro fu
  induction fu with
  | zero =>
    intro M x6 t w6 N h
    have h : (none : Option (Nat × Int × Mm)) = some _ := h
    cases h
  | succ fu ih =>
    intro M x6 t w6 N h k1 H locs ls hP hD hS hl
    obtain ⟨⟨t0, w60, N9⟩, g0, h⟩ := bd_e h
    refine b_Li_spread_49b l z ad E M x1 x2 x3 x4 x6 t0 w60 N9 hx hb hml hts hown hlocks hA hG hZ hL g0 (fun e0 => ?_) (fun e0 => ?_) H locs ls hP hD hS hl
    · subst e0
      have h := ite_t rfl h
      exact ih N9 w60 t w6 N h k1
    · subst e0
      have h := ite_f (by decide) h
      obtain ⟨rfl, rfl, rfl⟩ := in3 h
      exact k1 rfl
set_option maxRecDepth 100000 in
set_option maxHeartbeats 4000000 in
theorem b_Li_spread_104b (l : Launch) (z : Zz) (ad : Nat → Nat) (E : Ev) (M : Mm) (x1 : Int) (x6 : Int) (t : Nat) (w6 : Int) (N : Mm) {Q : State → Prop} {p : Program} {e : Env} {s : State} {m : MethodId} {below : List Frame} {meth : Method} {c : Code} {A : Nat → Prop} {args : Array Value} (hx : p.tables.exec = Jvm.exec) (hb : c.code = prog_9_method_5_code) (hml : c.maxLocals = 7) (hts : ∀ w ∈ WG, w.before args s = true) (hown : s.vm.findClass "Ballothall$Lists" = some m.cls) (hlocks : meth.locks = false) (hA : ∀ q, s.heap.size ≤ q → A q) (hG : KG z s) (hZ : FZ z A s) (hL : Lay E) (h : Li_spread_104b E M x1 x6 = some (t, w6, N)) (k0 : t = 0 → ∀ (H : Heap) (locs : List Loc) (ls : Array Slot), va_P z.1 classes (wv z ad E N) H → va_D A (wv z ad E N) → va_S A s.heap H locs → lv_has ls 7 [(0, .ref (ad 53)), (1, .int (oI x1)), (6, .int (oI w6))] → W p l e (rmK 5 140 0 0) s m args below meth c H locs 0 0 Q (F0 m 104 ls [])) (k1 : t = 1 → ∀ (H : Heap) (locs : List Loc) (ls : Array Slot), va_P z.1 classes (wv z ad E N) H → va_D A (wv z ad E N) → va_S A s.heap H locs → lv_has ls 7 [(0, .ref (ad 53))] → W p l e (rmK 5 140 0 0) s m args below meth c H locs 0 0 Q (F0 m 147 ls [])) : ∀ (H : Heap) (locs : List Loc) (ls : Array Slot), va_P z.1 classes (wv z ad E M) H → va_D A (wv z ad E M) → va_S A s.heap H locs → lv_has ls 7 [(0, .ref (ad 53)), (1, .int (oI x1)), (6, .int (oI x6))] → W p l e (rmK 5 140 0 0) s m args below meth c H locs 0 0 Q (F0 m 104 ls []) := by
  intro H locs ls hP hD hS hl
  unfold Li_spread_104b at h
  refine lv_iload hx hb d_9_5_104 (lv_at hl 2 rfl) ?_
  refine lv_aload_n hx hb d_9_5_106 rfl (lv_at hl 0 rfl) ?_
  refine m_gr (j := 57) (C := "Ballothall$Lists") (T := TX7) (N := 11) (ci := 7) (k := 4) hx hb hts iX7 hown hG hP (yi_53 hL) (yt_53 hL) rfl (by decide) w_249 (fun _ h9 => h9) rfl rfl (yr_53_4 hL) d_9_5_107 ?_
  refine m_giN (C := "Ballothall$Division") (T := TX4) (N := 8) (ci := 4) (k := 0) hx hb hts iX4 hown hG hP (yi_57 hL) (yt_57 hL) rfl (by decide) n_176 rfl (fun _ h9 => h9) rfl rfl d_9_5_110 ?_
  obtain ⟨ok115, h⟩ := ck_e h
  obtain ⟨ok116, h⟩ := ck_e h
  refine lv_icmp_ge (tgt := 147) hx hb d_9_5_113 (by decide) (fun c9 => ?_) (fun c9 => ?_)
  · have h := ite_t ((oI_le (a := (M 57 0)) (b := x6) ok116 ok115).mp c9) h
    obtain ⟨rfl, rfl, rfl⟩ := in3 h
    exact k1 rfl H locs ls hP hD hS (lv_sub hl [0] rfl)
  · have h := ite_f (fun q => c9 ((oI_le (a := (M 57 0)) (b := x6) ok116 ok115).mpr q)) h
    refine lv_aload_n hx hb d_9_5_116 rfl (lv_at hl 0 rfl) ?_
    refine lv_aload_n hx hb d_9_5_117 rfl (lv_at hl 0 rfl) ?_
    refine m_gr (j := 57) (C := "Ballothall$Lists") (T := TX7) (N := 11) (ci := 7) (k := 4) hx hb hts iX7 hown hG hP (yi_53 hL) (yt_53 hL) rfl (by decide) w_249 (fun _ h9 => h9) rfl rfl (yr_53_4 hL) d_9_5_118 ?_
    refine m_grN (j := 58) (C := "Ballothall$Division") (T := TX4) (N := 8) (ci := 4) (k := 2) hx hb hts iX4 hown hG hP (yi_57 hL) (yt_57 hL) rfl (by decide) n_180 rfl (fun _ h9 => h9) rfl rfl (yr_57_2 hL) d_9_5_121 ?_
    refine lv_iload hx hb d_9_5_124 (lv_at hl 2 rfl) ?_
    obtain ⟨ok117, h⟩ := ck_e h
    refine m_ia hx hb hG hP (yi_58 hL) (yt_58 hL) ok117 d_9_5_126 ?_
    refine lv_iload_n hx hb d_9_5_127 rfl (lv_at hl 1 rfl) ?_
    refine lv_aload_n hx hb d_9_5_128 rfl (lv_at hl 0 rfl) ?_
    refine m_gr (j := 57) (C := "Ballothall$Lists") (T := TX7) (N := 11) (ci := 7) (k := 4) hx hb hts iX7 hown hG hP (yi_53 hL) (yt_53 hL) rfl (by decide) w_249 (fun _ h9 => h9) rfl rfl (yr_53_4 hL) d_9_5_129 ?_
    refine m_grN (j := 61) (C := "Ballothall$Division") (T := TX4) (N := 8) (ci := 4) (k := 5) hx hb hts iX4 hown hG hP (yi_57 hL) (yt_57 hL) rfl (by decide) n_184 rfl (fun _ h9 => h9) rfl rfl (yr_57_5 hL) d_9_5_132 ?_
    refine lv_iload hx hb d_9_5_135 (lv_at hl 2 rfl) ?_
    refine m_ia hx hb hG hP (yi_61 hL) (yt_61 hL) ok117 d_9_5_137 ?_
    obtain ⟨M118, g118, h⟩ := bd_e h
    refine kV (As := [.int (oI (M 58 x6.toNat)), .int (oI x1), .int (oI (M 61 x6.toNat))]) (rest := []) (s_Li_spreadInside l z ad E M (M 58 x6.toNat) x1 (M 61 x6.toNat) M118 hL g118) hx hb hml hown hts w_1580 w_1577 w_1579 w_s_c92924 w_5 md_b5a701 ⟨Nat.le_of_ble_eq_true rfl, Nat.le_of_ble_eq_true rfl⟩ hG hZ hP hD hS hA 53 (wv_o (ci := 7) (yi_53 hL) (yt_53 hL)) rfl rfl rfl hl.1 rfl (Nat.le_of_ble_eq_true rfl) d_9_5_138 ⟨Nat.le_of_ble_eq_true rfl, Nat.le_of_ble_eq_true rfl⟩ (fun _ H locs hP hD hS => ?_)
    have hP : va_P z.1 classes (wv z ad E M118) H := hP
    have hD : va_D A (wv z ad E M118) := hD
    refine W.eq (g2 := F0 m 141 ls []) rfl ?_
    refine lv_iinc (v := oI (x6 + 1)) (lv' := [(6, .int (oI (x6 + 1))), (0, .ref (ad 53)), (1, .int (oI x1))]) hx hb d_9_5_141 hl (k := 2) rfl (oI_add x6 1) (by decide) rfl (fun ls hl => ?_)
    refine lv_goto (tgt := 104) hx hb d_9_5_144 (by decide) ?_
    obtain ⟨rfl, rfl, rfl⟩ := in3 h
    exact k0 rfl H locs ls hP hD hS (lv_sub hl [1, 2, 0] rfl)
set_option maxRecDepth 100000 in
set_option maxHeartbeats 4000000 in
theorem s_Li_spread_104 (l : Launch) (z : Zz) (ad : Nat → Nat) (E : Ev) (x1 : Int) {Q : State → Prop} {p : Program} {e : Env} {s : State} {m : MethodId} {below : List Frame} {meth : Method} {c : Code} {A : Nat → Prop} {args : Array Value} (hx : p.tables.exec = Jvm.exec) (hb : c.code = prog_9_method_5_code) (hml : c.maxLocals = 7) (hts : ∀ w ∈ WG, w.before args s = true) (hown : s.vm.findClass "Ballothall$Lists" = some m.cls) (hlocks : meth.locks = false) (hA : ∀ q, s.heap.size ≤ q → A q) (hG : KG z s) (hZ : FZ z A s) (hL : Lay E) : ∀ (fu : Nat) (M : Mm) (x6 : Int) (t : Nat) (w6 : Int) (N : Mm), l_Li_spread_104 E x1 fu M x6 = some (t, w6, N) → (t = 1 → ∀ (H : Heap) (locs : List Loc) (ls : Array Slot), va_P z.1 classes (wv z ad E N) H → va_D A (wv z ad E N) → va_S A s.heap H locs → lv_has ls 7 [(0, .ref (ad 53))] → W p l e (rmK 5 140 0 0) s m args below meth c H locs 0 0 Q (F0 m 147 ls [])) → ∀ (H : Heap) (locs : List Loc) (ls : Array Slot), va_P z.1 classes (wv z ad E M) H → va_D A (wv z ad E M) → va_S A s.heap H locs → lv_has ls 7 [(0, .ref (ad 53)), (1, .int (oI x1)), (6, .int (oI x6))] → W p l e (rmK 5 140 0 0) s m args below meth c H locs 0 0 Q (F0 m 104 ls []) := by
  intro fu
  induction fu with
  | zero =>
    intro M x6 t w6 N h
    have h : (none : Option (Nat × Int × Mm)) = some _ := h
    cases h
  | succ fu ih =>
    intro M x6 t w6 N h k1 H locs ls hP hD hS hl
    obtain ⟨⟨t0, w60, N9⟩, g0, h⟩ := bd_e h
    refine b_Li_spread_104b l z ad E M x1 x6 t0 w60 N9 hx hb hml hts hown hlocks hA hG hZ hL g0 (fun e0 => ?_) (fun e0 => ?_) H locs ls hP hD hS hl
    · subst e0
      have h := ite_t rfl h
      exact ih N9 w60 t w6 N h k1
    · subst e0
      have h := ite_f (by decide) h
      obtain ⟨rfl, rfl, rfl⟩ := in3 h
      exact k1 rfl
set_option maxRecDepth 100000 in
set_option maxHeartbeats 4000000 in
theorem s_Li_spread (l : Launch) (z : Zz) (ad : Nat → Nat) (E : Ev) (M : Mm) (x1 : Int) (x2 : Int) (x3 : Int) (r : Int) (N : Mm) (hL : Lay E) (h : f_Li_spread E M x1 x2 x3 = some (r, N)) : CT l z ⟨"Ballothall$Lists", "spread", "(III)I"⟩ prog_9_method_5_code 7 (some .int) [.ref (ad 53), .int (oI x1), .int (oI x2), .int (oI x3)] (wv z ad E M) 5 140 0 0 (fun _ => some (.int (oI r))) (fun _ => (wv z ad E N)) := by
  refine CT.of (own := "Ballothall$Lists") (by decide +kernel) (Nat.le_of_ble_eq_true rfl) rfl (fun p e s m below meth c A ls hx hb hml hr hts hown hlocks hin hA hG hZ hP hD hS hl => ?_)
  have hl : lv_has ls 7 [(0, .ref (ad 53)), (1, .int (oI x1)), (2, .int (oI x2)), (3, .int (oI x3))] := hl
  have key : ∀ (H : Heap) (locs : List Loc) (args : Array Value), (∀ w ∈ WG, w.before args s = true) → va_P z.1 classes (wv z ad E M) H → va_S A s.heap H locs → W p l e (rmK 5 140 0 0) s m args below meth c H locs 0 0 (MQ below (QK z A (fun _ => some (.int (oI r))) (fun _ => (wv z ad E N))) args s 0 0 A) (F0 m 0 ls []) := by
    intro H locs args hts hP hS
    unfold f_Li_spread at h
    refine lv_lconst (v := oJ 0) hx hb d_9_5_0 (by decide +kernel) ?_
    refine lv_lstore (lv' := [(4, .long (oJ 0)), (0, .ref (ad 53)), (1, .int (oI x1)), (2, .int (oI x2)), (3, .int (oI x3))]) hx hb d_9_5_1 hl (by decide) rfl (fun ls hl => ?_)
    refine lv_iconst (v := oI 0) hx hb d_9_5_3 (by decide +kernel) ?_
    refine lv_istore (lv' := [(6, .int (oI 0)), (4, .long (oJ 0)), (0, .ref (ad 53)), (1, .int (oI x1)), (2, .int (oI x2)), (3, .int (oI x3))]) hx hb d_9_5_4 hl (by decide) rfl (fun ls hl => ?_)
    obtain ⟨⟨t104, v104_4, v104_6, M104⟩, g104, h⟩ := bd_e h
    obtain ⟨ok104, h⟩ := ck_e h
    refine s_Li_spread_6 l z ad E x1 x2 x3 hx hb hml hts hown hlocks hA hG hZ hL FU M 0 0 t104 v104_4 v104_6 M104 g104 (fun e104 H locs ls hP hD hS hl => ?_) H locs ls hP hD hS (lv_sub hl [2, 3, 4, 5, 1, 0] rfl)
    refine lv_aload_n hx hb d_9_5_34 rfl (lv_at hl 0 rfl) ?_
    refine m_gr (j := 57) (C := "Ballothall$Lists") (T := TX7) (N := 11) (ci := 7) (k := 4) hx hb hts iX7 hown hG hP (yi_53 hL) (yt_53 hL) rfl (by decide) w_249 (fun _ h9 => h9) rfl rfl (yr_53_4 hL) d_9_5_35 ?_
    obtain ⟨M105, g105, h⟩ := bd_e h
    refine kVN (As := []) (rest := []) (s_Di_clear l z ad E M104 57 M105 hL g105) hx hb hml hown hts w_1528 n_1525 w_1527 w_s_030e9c w_6 md_4dddda ⟨Nat.le_of_ble_eq_true rfl, Nat.le_of_ble_eq_true rfl⟩ hG hZ hP hD hS hA 57 (wv_o (ci := 4) (yi_57 hL) (yt_57 hL)) rfl rfl rfl hl.1 rfl (Nat.le_of_ble_eq_true rfl) d_9_5_38 ⟨Nat.le_of_ble_eq_true rfl, Nat.le_of_ble_eq_true rfl⟩ (fun _ H locs hP hD hS => ?_)
    have hP : va_P z.1 classes (wv z ad E M105) H := hP
    have hD : va_D A (wv z ad E M105) := hD
    refine W.eq (g2 := F0 m 41 ls []) rfl ?_
    refine lv_aload_n hx hb d_9_5_41 rfl (lv_at hl 0 rfl) ?_
    refine lv_iconst (v := oI 0) hx hb d_9_5_42 (by decide +kernel) ?_
    refine m_pi (C := "Ballothall$Lists") (T := TX7) (N := 11) (ci := 7) (k := 6) (ty := .boolean) hx hb hts iX7 hown hG hP hD hS (yi_53 hL) (yt_53 hL) rfl (by decide) w_251 (fun _ h9 => h9) rfl rfl tyX7_ok nmX7 rfl (by decide +kernel) rfl rfl d_9_5_43 (fun H locs hP hD hS => ?_)
    have hP : va_P z.1 classes (wv z ad E (u2 M105 53 6 0)) H := hP
    have hD : va_D A (wv z ad E (u2 M105 53 6 0)) := hD
    refine lv_iconst (v := oI 0) hx hb d_9_5_46 (by decide +kernel) ?_
    refine lv_istore (lv' := [(6, .int (oI 0)), (0, .ref (ad 53)), (1, .int (oI x1)), (2, .int (oI x2)), (3, .int (oI x3)), (4, .long (oJ v104_4))]) hx hb d_9_5_47 hl (by decide) rfl (fun ls hl => ?_)
    obtain ⟨⟨t112, v112_6, M112⟩, g112, h⟩ := bd_e h
    obtain ⟨ok112, h⟩ := ck_e h
    refine s_Li_spread_49 l z ad E x1 x2 x3 v104_4 hx hb hml hts hown hlocks hA hG hZ hL FU (u2 M105 53 6 0) 0 t112 v112_6 M112 g112 (fun e112 H locs ls hP hD hS hl => ?_) H locs ls hP hD hS (lv_sub hl [1, 2, 3, 4, 5, 0] rfl)
    refine lv_aload_n hx hb d_9_5_84 rfl (lv_at hl 0 rfl) ?_
    refine m_gr (j := 57) (C := "Ballothall$Lists") (T := TX7) (N := 11) (ci := 7) (k := 4) hx hb hts iX7 hown hG hP (yi_53 hL) (yt_53 hL) rfl (by decide) w_249 (fun _ h9 => h9) rfl rfl (yr_53_4 hL) d_9_5_85 ?_
    refine lv_iload_n hx hb d_9_5_88 rfl (lv_at hl 1 rfl) ?_
    refine lv_iload_n hx hb d_9_5_89 rfl (lv_at hl 2 rfl) ?_
    obtain ⟨M113, g113, h⟩ := bd_e h
    refine kVN (As := [.int (oI x1), .int (oI x2)]) (rest := []) (s_Di_distribute l z ad E M112 57 x1 x2 M113 hL g113) hx hb hml hown hts w_1549 n_1546 w_1548 w_s_cb71bb w_6 md_9f0e03 ⟨Nat.le_of_ble_eq_true rfl, Nat.le_of_ble_eq_true rfl⟩ hG hZ hP hD hS hA 57 (wv_o (ci := 4) (yi_57 hL) (yt_57 hL)) rfl rfl rfl hl.1 rfl (Nat.le_of_ble_eq_true rfl) d_9_5_90 ⟨Nat.le_of_ble_eq_true rfl, Nat.le_of_ble_eq_true rfl⟩ (fun _ H locs hP hD hS => ?_)
    have hP : va_P z.1 classes (wv z ad E M113) H := hP
    have hD : va_D A (wv z ad E M113) := hD
    refine W.eq (g2 := F0 m 93 ls []) rfl ?_
    refine lv_aload_n hx hb d_9_5_93 rfl (lv_at hl 0 rfl) ?_
    refine m_gr (j := 71) (C := "Ballothall$Lists") (T := TX7) (N := 11) (ci := 7) (k := 7) hx hb hts iX7 hown hG hP (yi_53 hL) (yt_53 hL) rfl (by decide) w_252 (fun _ h9 => h9) rfl rfl (yr_53_7 hL) d_9_5_94 ?_
    refine lv_iconst (v := oI 0) hx hb d_9_5_97 (by decide +kernel) ?_
    obtain ⟨M114, g114, h⟩ := bd_e h
    refine kS (As := [.ref (ad 71), .int (oI 0)]) (rest := []) (s_Ar_fillI l z ad E M113 71 0 M114 hL g114) hx hb hml hown hts w_653 w_1576 w_652 w_23 md_e8f65d ⟨Nat.le_of_ble_eq_true rfl, Nat.le_of_ble_eq_true rfl⟩ hG hZ hP hD hS hA rfl hl.1 rfl (Nat.le_of_ble_eq_true rfl) d_9_5_98 ⟨Nat.le_of_ble_eq_true rfl, Nat.le_of_ble_eq_true rfl⟩ (fun _ H locs hP hD hS => ?_)
    have hP : va_P z.1 classes (wv z ad E M114) H := hP
    have hD : va_D A (wv z ad E M114) := hD
    refine W.eq (g2 := F0 m 101 ls []) rfl ?_
    refine lv_iconst (v := oI 0) hx hb d_9_5_101 (by decide +kernel) ?_
    refine lv_istore (lv' := [(6, .int (oI 0)), (0, .ref (ad 53)), (1, .int (oI x1)), (2, .int (oI x2))]) hx hb d_9_5_102 hl (by decide) rfl (fun ls hl => ?_)
    obtain ⟨⟨t119, v119_6, M119⟩, g119, h⟩ := bd_e h
    obtain ⟨ok119, h⟩ := ck_e h
    refine s_Li_spread_104 l z ad E x1 hx hb hml hts hown hlocks hA hG hZ hL FU M114 0 t119 v119_6 M119 g119 (fun e119 H locs ls hP hD hS hl => ?_) H locs ls hP hD hS (lv_sub hl [1, 2, 0] rfl)
    refine lv_aload_n hx hb d_9_5_147 rfl (lv_at hl 0 rfl) ?_
    refine m_gr (j := 57) (C := "Ballothall$Lists") (T := TX7) (N := 11) (ci := 7) (k := 4) hx hb hts iX7 hown hG hP (yi_53 hL) (yt_53 hL) rfl (by decide) w_249 (fun _ h9 => h9) rfl rfl (yr_53_4 hL) d_9_5_148 ?_
    refine m_giN (C := "Ballothall$Division") (T := TX4) (N := 8) (ci := 4) (k := 0) hx hb hts iX4 hown hG hP (yi_57 hL) (yt_57 hL) rfl (by decide) n_176 rfl (fun _ h9 => h9) rfl rfl d_9_5_151 ?_
    obtain ⟨rfl, rfl⟩ := in2 h
    exact W.iret hx hb hr (fun t ht hW => qkA hP hD hS (fun k => k) rfl rfl ht) hS.2.2 d_9_5_154
  exact key _ _ _ hts hP hS
set_option maxRecDepth 100000 in
set_option maxHeartbeats 4000000 in
theorem s_Li_keepSpread (l : Launch) (z : Zz) (ad : Nat → Nat) (E : Ev) (M : Mm) (N : Mm) (hL : Lay E) (h : f_Li_keepSpread E M = some N) : CT l z ⟨"Ballothall$Lists", "keepSpread", "()V"⟩ prog_9_method_9_code 2 none [.ref (ad 53)] (wv z ad E M) 1 60 0 0 (fun _ => none) (fun _ => (wv z ad E N)) := by
  refine CT.of (own := "Ballothall$Lists") (by decide +kernel) (Nat.le_of_ble_eq_true rfl) rfl (fun p e s m below meth c A ls hx hb hml hr hts hown hlocks hin hA hG hZ hP hD hS hl => ?_)
  have hl : lv_has ls 2 [(0, .ref (ad 53))] := hl
  have key : ∀ (H : Heap) (locs : List Loc) (args : Array Value), (∀ w ∈ WG, w.before args s = true) → va_P z.1 classes (wv z ad E M) H → va_S A s.heap H locs → W p l e (rmK 1 60 0 0) s m args below meth c H locs 0 0 (MQ below (QK z A (fun _ => none) (fun _ => (wv z ad E N))) args s 0 0 A) (F0 m 0 ls []) := by
    intro H locs args hts hP hS
    unfold f_Li_keepSpread at h
    refine lv_aload_n hx hb d_9_9_0 rfl (lv_at hl 0 rfl) ?_
    refine lv_aload_n hx hb d_9_9_1 rfl (lv_at hl 0 rfl) ?_
    refine m_gi (C := "Ballothall$Lists") (T := TX7) (N := 11) (ci := 7) (k := 10) hx hb hts iX7 hown hG hP (yi_53 hL) (yt_53 hL) rfl (by decide) w_255 (fun _ h9 => h9) rfl rfl d_9_9_2 ?_
    refine lv_iconst (v := oI 1) hx hb d_9_9_5 (by decide +kernel) ?_
    refine lv_iadd hx hb d_9_9_6 ?_
    refine nrm (oI_add _ _) ?_
    refine lv_bipush (v := oI 21) hx hb d_9_9_7 (by decide +kernel) ?_
    obtain ⟨ok100, h⟩ := ck_e h
    refine lv_irem hx hb d_9_9_9 (oI_nz (show psI 21 by decide).1 (show psI 21 by decide).2) ?_
    refine nrm (oI_rem (a := ((M 53 10) + 1)) (b := (21 : Int)) ok100.1 ok100.2 (show psI 21 by decide).1 (show psI 21 by decide).2) ?_
    refine m_pi (C := "Ballothall$Lists") (T := TX7) (N := 11) (ci := 7) (k := 10) (ty := .int) hx hb hts iX7 hown hG hP hD hS (yi_53 hL) (yt_53 hL) rfl (by decide) w_255 (fun _ h9 => h9) rfl rfl tyX7_ok nmX7 rfl (by decide +kernel) rfl rfl d_9_9_10 (fun H locs hP hD hS => ?_)
    have hP : va_P z.1 classes (wv z ad E (u2 M 53 10 (((M 53 10) + 1) % 21))) H := hP
    have hD : va_D A (wv z ad E (u2 M 53 10 (((M 53 10) + 1) % 21))) := hD
    refine lv_aload_n hx hb d_9_9_13 rfl (lv_at hl 0 rfl) ?_
    refine m_gr (j := 73) (C := "Ballothall$Lists") (T := TX7) (N := 11) (ci := 7) (k := 9) hx hb hts iX7 hown hG hP (yi_53 hL) (yt_53 hL) rfl (by decide) w_254 (fun _ h9 => h9) rfl rfl (yr_53_9 hL) d_9_9_14 ?_
    refine lv_aload_n hx hb d_9_9_17 rfl (lv_at hl 0 rfl) ?_
    refine m_gi (C := "Ballothall$Lists") (T := TX7) (N := 11) (ci := 7) (k := 10) hx hb hts iX7 hown hG hP (yi_53 hL) (yt_53 hL) rfl (by decide) w_255 (fun _ h9 => h9) rfl rfl d_9_9_18 ?_
    obtain ⟨ok101, h⟩ := ck_e h
    refine m_aa (k := (74 + 5 * ((u2 M 53 10 (((M 53 10) + 1) % 21)) 53 10).toNat)) (t := 3) (C := "Ballothall$KeptSeats") hx hb hG hP (yi_73 hL) (yt_73 hL) rfl rfl ok101 (ya_73 hL (inb_lt ok101)) d_9_9_21 ?_
    refine lv_astore_n (lv' := [(1, .ref (ad (74 + 5 * ((u2 M 53 10 (((M 53 10) + 1) % 21)) 53 10).toNat))), (0, .ref (ad 53))]) hx hb d_9_9_22 rfl hl (by decide) rfl (fun ls hl => ?_)
    refine lv_aload_n hx hb d_9_9_23 rfl (lv_at hl 0 rfl) ?_
    refine lv_aload_n hx hb d_9_9_24 rfl (lv_at hl 1 rfl) ?_
    refine m_gr (j := 57) (C := "Ballothall$Lists") (T := TX7) (N := 11) (ci := 7) (k := 4) hx hb hts iX7 hown hG hP (yi_53 hL) (yt_53 hL) rfl (by decide) w_249 (fun _ h9 => h9) rfl rfl (yr_53_4 hL) d_9_9_25 ?_
    refine m_giN (C := "Ballothall$Division") (T := TX4) (N := 8) (ci := 4) (k := 1) hx hb hts iX4 hown hG hP (yi_57 hL) (yt_57 hL) rfl (by decide) n_178 rfl (fun _ h9 => h9) rfl rfl d_9_9_28 ?_
    refine lv_bipush (v := oI 60) hx hb d_9_9_31 (by decide +kernel) ?_
    obtain ⟨ok102, h⟩ := ck_e h
    refine va_mmin hx hb (by rw [hml]; exact hl.1.symm) hown (hts _ w_1585) (hts _ w_521) (hts _ w_17) (hts _ w_min) (Nat.le_of_ble_eq_true rfl) (Nat.le_of_ble_eq_true rfl) (Nat.le_of_ble_eq_true rfl) (Nat.le_of_ble_eq_true rfl) d_9_9_33 ?_
    refine nrm (mn_oI (a := ((u2 M 53 10 (((M 53 10) + 1) % 21)) 57 1)) (b := (60 : Int)) ok102 (by decide)) ?_
    obtain ⟨v103, e103, h⟩ := nb_e h
    refine nrm (congrArg oI e103.symm) ?_
    refine m_piN (C := "Ballothall$KeptSeats") (T := TX6) (N := 7) (ci := 6) (k := 0) (ty := .int) hx hb hts iX6 hown hG hP hD hS (isKs_i (yg_73 hL ok101)) (isKs_T (yg_73 hL ok101)) rfl (by decide) n_212 rfl (fun _ h9 => h9) rfl rfl tyX6_ok nmX6 rfl (by decide +kernel) rfl rfl d_9_9_36 (fun H locs hP hD hS => ?_)
    have hP : va_P z.1 classes (wv z ad E (u2 (u2 M 53 10 (((M 53 10) + 1) % 21)) (74 + 5 * ((u2 M 53 10 (((M 53 10) + 1) % 21)) 53 10).toNat) 0 v103)) H := hP
    have hD : va_D A (wv z ad E (u2 (u2 M 53 10 (((M 53 10) + 1) % 21)) (74 + 5 * ((u2 M 53 10 (((M 53 10) + 1) % 21)) 53 10).toNat) 0 v103)) := hD
    obtain ⟨M104, e104, h⟩ := nb_e h
    rw [← e104] at hP hD
    refine lv_aload_n hx hb d_9_9_39 rfl (lv_at hl 0 rfl) ?_
    refine lv_aload_n hx hb d_9_9_40 rfl (lv_at hl 1 rfl) ?_
    refine m_gi (C := "Ballothall$Lists") (T := TX7) (N := 11) (ci := 7) (k := 6) hx hb hts iX7 hown hG hP (yi_53 hL) (yt_53 hL) rfl (by decide) w_251 (fun _ h9 => h9) rfl rfl d_9_9_41 ?_
    obtain ⟨ok105, h⟩ := ck_e h
    refine m_piN (C := "Ballothall$KeptSeats") (T := TX6) (N := 7) (ci := 6) (k := 1) (ty := .boolean) hx hb hts iX6 hown hG hP hD hS (isKs_i (yg_73 hL ok101)) (isKs_T (yg_73 hL ok101)) rfl (by decide) n_214 rfl (fun _ h9 => h9) rfl rfl tyX6_ok nmX6 rfl (by decide +kernel) (nz_b ok105) (fz_b ok105) d_9_9_44 (fun H locs hP hD hS => ?_)
    have hP : va_P z.1 classes (wv z ad E (u2 M104 (74 + 5 * ((u2 M 53 10 (((M 53 10) + 1) % 21)) 53 10).toNat) 1 (M104 53 6))) H := hP
    have hD : va_D A (wv z ad E (u2 M104 (74 + 5 * ((u2 M 53 10 (((M 53 10) + 1) % 21)) 53 10).toNat) 1 (M104 53 6))) := hD
    refine lv_aload_n hx hb d_9_9_47 rfl (lv_at hl 0 rfl) ?_
    refine lv_aload_n hx hb d_9_9_48 rfl (lv_at hl 1 rfl) ?_
    refine m_gi (C := "Ballothall$Lists") (T := TX7) (N := 11) (ci := 7) (k := 0) hx hb hts iX7 hown hG hP (yi_53 hL) (yt_53 hL) rfl (by decide) w_242 (fun _ h9 => h9) rfl rfl d_9_9_49 ?_
    refine m_piN (C := "Ballothall$KeptSeats") (T := TX6) (N := 7) (ci := 6) (k := 2) (ty := .int) hx hb hts iX6 hown hG hP hD hS (isKs_i (yg_73 hL ok101)) (isKs_T (yg_73 hL ok101)) rfl (by decide) n_216 rfl (fun _ h9 => h9) rfl rfl tyX6_ok nmX6 rfl (by decide +kernel) rfl rfl d_9_9_52 (fun H locs hP hD hS => ?_)
    have hP : va_P z.1 classes (wv z ad E (u2 (u2 M104 (74 + 5 * ((u2 M 53 10 (((M 53 10) + 1) % 21)) 53 10).toNat) 1 (M104 53 6)) (74 + 5 * ((u2 M 53 10 (((M 53 10) + 1) % 21)) 53 10).toNat) 2 ((u2 M104 (74 + 5 * ((u2 M 53 10 (((M 53 10) + 1) % 21)) 53 10).toNat) 1 (M104 53 6)) 53 0))) H := hP
    have hD : va_D A (wv z ad E (u2 (u2 M104 (74 + 5 * ((u2 M 53 10 (((M 53 10) + 1) % 21)) 53 10).toNat) 1 (M104 53 6)) (74 + 5 * ((u2 M 53 10 (((M 53 10) + 1) % 21)) 53 10).toNat) 2 ((u2 M104 (74 + 5 * ((u2 M 53 10 (((M 53 10) + 1) % 21)) 53 10).toNat) 1 (M104 53 6)) 53 0))) := hD
    obtain ⟨M106, e106, h⟩ := nb_e h
    rw [← e106] at hP hD
    refine lv_aload_n hx hb d_9_9_55 rfl (lv_at hl 1 rfl) ?_
    refine m_gr (j := 57) (C := "Ballothall$Lists") (T := TX7) (N := 11) (ci := 7) (k := 4) hx hb hts iX7 hown hG hP (yi_53 hL) (yt_53 hL) rfl (by decide) w_249 (fun _ h9 => h9) rfl rfl (yr_53_4 hL) d_9_9_56 ?_
    refine m_grN (j := 63) (C := "Ballothall$Division") (T := TX4) (N := 8) (ci := 4) (k := 7) hx hb hts iX4 hown hG hP (yi_57 hL) (yt_57 hL) rfl (by decide) n_187 rfl (fun _ h9 => h9) rfl rfl (yr_57_7 hL) d_9_9_59 ?_
    refine lv_iconst (v := oI 0) hx hb d_9_9_62 (by decide +kernel) ?_
    refine lv_aload_n hx hb d_9_9_63 rfl (lv_at hl 0 rfl) ?_
    refine m_grN (j := ((74 + 5 * ((u2 M 53 10 (((M 53 10) + 1) % 21)) 53 10).toNat) + 1)) (C := "Ballothall$KeptSeats") (T := TX6) (N := 7) (ci := 6) (k := 3) hx hb hts iX6 hown hG hP (isKs_i (yg_73 hL ok101)) (isKs_T (yg_73 hL ok101)) rfl (by decide) n_218 rfl (fun _ h9 => h9) rfl rfl (isKs_r3 (yg_73 hL ok101)) d_9_9_64 ?_
    refine lv_iconst (v := oI 0) hx hb d_9_9_67 (by decide +kernel) ?_
    refine lv_aload_n hx hb d_9_9_68 rfl (lv_at hl 0 rfl) ?_
    refine m_giN (C := "Ballothall$KeptSeats") (T := TX6) (N := 7) (ci := 6) (k := 0) hx hb hts iX6 hown hG hP (isKs_i (yg_73 hL ok101)) (isKs_T (yg_73 hL ok101)) rfl (by decide) n_212 rfl (fun _ h9 => h9) rfl rfl d_9_9_69 ?_
    obtain ⟨ok107, h⟩ := ck_e h
    refine m_cpy hx hb (by rw [hml]; exact hl.1.symm) hown (hts _ w_1586) (hts _ w_621) (hts _ w_620) (hts _ w_24) hG hP hD hS (yi_63 hL) (yt_63 hL) (isKs_i1 (yg_73 hL ok101)) (isKs_t1 (yg_73 hL ok101)) ok107 (Nat.le_of_ble_eq_true rfl) (Nat.le_of_ble_eq_true rfl) d_9_9_72 (fun H locs hP hD hS => ?_)
    have hP : va_P z.1 classes (wv z ad E (uA M106 ((74 + 5 * ((u2 M 53 10 (((M 53 10) + 1) % 21)) 53 10).toNat) + 1) (va_cpy (M106 63) (M106 ((74 + 5 * ((u2 M 53 10 (((M 53 10) + 1) % 21)) 53 10).toNat) + 1)) 0 0 (M106 (74 + 5 * ((u2 M 53 10 (((M 53 10) + 1) % 21)) 53 10).toNat) 0).toNat))) H := hP
    have hD : va_D A (wv z ad E (uA M106 ((74 + 5 * ((u2 M 53 10 (((M 53 10) + 1) % 21)) 53 10).toNat) + 1) (va_cpy (M106 63) (M106 ((74 + 5 * ((u2 M 53 10 (((M 53 10) + 1) % 21)) 53 10).toNat) + 1)) 0 0 (M106 (74 + 5 * ((u2 M 53 10 (((M 53 10) + 1) % 21)) 53 10).toNat) 0).toNat))) := hD
    obtain ⟨M108, e108, h⟩ := nb_e h
    rw [← e108] at hP hD
    refine lv_aload_n hx hb d_9_9_75 rfl (lv_at hl 1 rfl) ?_
    refine m_gr (j := 71) (C := "Ballothall$Lists") (T := TX7) (N := 11) (ci := 7) (k := 7) hx hb hts iX7 hown hG hP (yi_53 hL) (yt_53 hL) rfl (by decide) w_252 (fun _ h9 => h9) rfl rfl (yr_53_7 hL) d_9_9_76 ?_
    refine lv_iconst (v := oI 0) hx hb d_9_9_79 (by decide +kernel) ?_
    refine lv_aload_n hx hb d_9_9_80 rfl (lv_at hl 0 rfl) ?_
    refine m_grN (j := ((74 + 5 * ((u2 M 53 10 (((M 53 10) + 1) % 21)) 53 10).toNat) + 2)) (C := "Ballothall$KeptSeats") (T := TX6) (N := 7) (ci := 6) (k := 4) hx hb hts iX6 hown hG hP (isKs_i (yg_73 hL ok101)) (isKs_T (yg_73 hL ok101)) rfl (by decide) n_221 rfl (fun _ h9 => h9) rfl rfl (isKs_r4 (yg_73 hL ok101)) d_9_9_81 ?_
    refine lv_iconst (v := oI 0) hx hb d_9_9_84 (by decide +kernel) ?_
    refine lv_bipush (v := oI 8) hx hb d_9_9_85 (by decide +kernel) ?_
    obtain ⟨ok109, h⟩ := ck_e h
    refine m_cpy hx hb (by rw [hml]; exact hl.1.symm) hown (hts _ w_1586) (hts _ w_621) (hts _ w_620) (hts _ w_24) hG hP hD hS (yi_71 hL) (yt_71 hL) (isKs_i2 (yg_73 hL ok101)) (isKs_t2 (yg_73 hL ok101)) ok109 (Nat.le_of_ble_eq_true rfl) (Nat.le_of_ble_eq_true rfl) d_9_9_87 (fun H locs hP hD hS => ?_)
    have hP : va_P z.1 classes (wv z ad E (uA M108 ((74 + 5 * ((u2 M 53 10 (((M 53 10) + 1) % 21)) 53 10).toNat) + 2) (va_cpy (M108 71) (M108 ((74 + 5 * ((u2 M 53 10 (((M 53 10) + 1) % 21)) 53 10).toNat) + 2)) 0 0 8))) H := hP
    have hD : va_D A (wv z ad E (uA M108 ((74 + 5 * ((u2 M 53 10 (((M 53 10) + 1) % 21)) 53 10).toNat) + 2) (va_cpy (M108 71) (M108 ((74 + 5 * ((u2 M 53 10 (((M 53 10) + 1) % 21)) 53 10).toNat) + 2)) 0 0 8))) := hD
    obtain ⟨M110, e110, h⟩ := nb_e h
    rw [← e110] at hP hD
    refine lv_aload_n hx hb d_9_9_90 rfl (lv_at hl 1 rfl) ?_
    refine m_gr (j := 54) (C := "Ballothall$Lists") (T := TX7) (N := 11) (ci := 7) (k := 1) hx hb hts iX7 hown hG hP (yi_53 hL) (yt_53 hL) rfl (by decide) w_244 (fun _ h9 => h9) rfl rfl (yr_53_1 hL) d_9_9_91 ?_
    refine lv_iconst (v := oI 0) hx hb d_9_9_94 (by decide +kernel) ?_
    refine lv_aload_n hx hb d_9_9_95 rfl (lv_at hl 0 rfl) ?_
    refine m_grN (j := ((74 + 5 * ((u2 M 53 10 (((M 53 10) + 1) % 21)) 53 10).toNat) + 3)) (C := "Ballothall$KeptSeats") (T := TX6) (N := 7) (ci := 6) (k := 5) hx hb hts iX6 hown hG hP (isKs_i (yg_73 hL ok101)) (isKs_T (yg_73 hL ok101)) rfl (by decide) n_224 rfl (fun _ h9 => h9) rfl rfl (isKs_r5 (yg_73 hL ok101)) d_9_9_96 ?_
    refine lv_iconst (v := oI 0) hx hb d_9_9_99 (by decide +kernel) ?_
    refine lv_bipush (v := oI 8) hx hb d_9_9_100 (by decide +kernel) ?_
    obtain ⟨ok111, h⟩ := ck_e h
    refine m_cpy hx hb (by rw [hml]; exact hl.1.symm) hown (hts _ w_1586) (hts _ w_621) (hts _ w_620) (hts _ w_24) hG hP hD hS (yi_54 hL) (yt_54 hL) (isKs_i3 (yg_73 hL ok101)) (isKs_t3 (yg_73 hL ok101)) ok111 (Nat.le_of_ble_eq_true rfl) (Nat.le_of_ble_eq_true rfl) d_9_9_102 (fun H locs hP hD hS => ?_)
    have hP : va_P z.1 classes (wv z ad E (uA M110 ((74 + 5 * ((u2 M 53 10 (((M 53 10) + 1) % 21)) 53 10).toNat) + 3) (va_cpy (M110 54) (M110 ((74 + 5 * ((u2 M 53 10 (((M 53 10) + 1) % 21)) 53 10).toNat) + 3)) 0 0 8))) H := hP
    have hD : va_D A (wv z ad E (uA M110 ((74 + 5 * ((u2 M 53 10 (((M 53 10) + 1) % 21)) 53 10).toNat) + 3) (va_cpy (M110 54) (M110 ((74 + 5 * ((u2 M 53 10 (((M 53 10) + 1) % 21)) 53 10).toNat) + 3)) 0 0 8))) := hD
    obtain ⟨M112, e112, h⟩ := nb_e h
    rw [← e112] at hP hD
    refine lv_aload_n hx hb d_9_9_105 rfl (lv_at hl 1 rfl) ?_
    refine m_gr (j := 55) (C := "Ballothall$Lists") (T := TX7) (N := 11) (ci := 7) (k := 2) hx hb hts iX7 hown hG hP (yi_53 hL) (yt_53 hL) rfl (by decide) w_245 (fun _ h9 => h9) rfl rfl (yr_53_2 hL) d_9_9_106 ?_
    refine lv_iconst (v := oI 0) hx hb d_9_9_109 (by decide +kernel) ?_
    refine lv_aload_n hx hb d_9_9_110 rfl (lv_at hl 0 rfl) ?_
    refine m_grN (j := ((74 + 5 * ((u2 M 53 10 (((M 53 10) + 1) % 21)) 53 10).toNat) + 4)) (C := "Ballothall$KeptSeats") (T := TX6) (N := 7) (ci := 6) (k := 6) hx hb hts iX6 hown hG hP (isKs_i (yg_73 hL ok101)) (isKs_T (yg_73 hL ok101)) rfl (by decide) n_226 rfl (fun _ h9 => h9) rfl rfl (isKs_r6 (yg_73 hL ok101)) d_9_9_111 ?_
    refine lv_iconst (v := oI 0) hx hb d_9_9_114 (by decide +kernel) ?_
    refine lv_bipush (v := oI 8) hx hb d_9_9_115 (by decide +kernel) ?_
    obtain ⟨ok113, h⟩ := ck_e h
    refine m_cpy hx hb (by rw [hml]; exact hl.1.symm) hown (hts _ w_1586) (hts _ w_621) (hts _ w_620) (hts _ w_24) hG hP hD hS (yi_55 hL) (yt_55 hL) (isKs_i4 (yg_73 hL ok101)) (isKs_t4 (yg_73 hL ok101)) ok113 (Nat.le_of_ble_eq_true rfl) (Nat.le_of_ble_eq_true rfl) d_9_9_117 (fun H locs hP hD hS => ?_)
    have hP : va_P z.1 classes (wv z ad E (uA M112 ((74 + 5 * ((u2 M 53 10 (((M 53 10) + 1) % 21)) 53 10).toNat) + 4) (va_cpy (M112 55) (M112 ((74 + 5 * ((u2 M 53 10 (((M 53 10) + 1) % 21)) 53 10).toNat) + 4)) 0 0 8))) H := hP
    have hD : va_D A (wv z ad E (uA M112 ((74 + 5 * ((u2 M 53 10 (((M 53 10) + 1) % 21)) 53 10).toNat) + 4) (va_cpy (M112 55) (M112 ((74 + 5 * ((u2 M 53 10 (((M 53 10) + 1) % 21)) 53 10).toNat) + 4)) 0 0 8))) := hD
    obtain ⟨M114, e114, h⟩ := nb_e h
    rw [← e114] at hP hD
    obtain rfl := in1 h
    exact W.vret hx hb hr (fun t ht hW => qkA hP hD hS (fun k => k) rfl rfl ht) hS.2.2 d_9_9_120
  exact key _ _ _ hts hP hS
set_option maxRecDepth 100000 in
set_option maxHeartbeats 4000000 in
theorem s_B_seats (l : Launch) (z : Zz) (ad : Nat → Nat) (E : Ev) (M : Mm) (x1 : Int) (x2 : Int) (x3 : Int) (r : Int) (N : Mm) (hL : Lay E) (h : f_B_seats E M x1 x2 x3 = some (r, N)) : CT l z ⟨"Ballothall", "seats", "(III)I"⟩ prog_1_method_13_code 5 (some .int) [.ref (ad 1), .int (oI x1), .int (oI x2), .int (oI x3)] (wv z ad E M) 6 166 0 0 (fun _ => some (.int (oI r))) (fun _ => (wv z ad E N)) := by
  refine CT.of (own := "Ballothall") (by decide +kernel) (Nat.le_of_ble_eq_true rfl) rfl (fun p e s m below meth c A ls hx hb hml hr hts hown hlocks hin hA hG hZ hP hD hS hl => ?_)
  have hl : lv_has ls 5 [(0, .ref (ad 1)), (1, .int (oI x1)), (2, .int (oI x2)), (3, .int (oI x3))] := hl
  have key : ∀ (H : Heap) (locs : List Loc) (args : Array Value), (∀ w ∈ WG, w.before args s = true) → va_P z.1 classes (wv z ad E M) H → va_S A s.heap H locs → W p l e (rmK 6 166 0 0) s m args below meth c H locs 0 0 (MQ below (QK z A (fun _ => some (.int (oI r))) (fun _ => (wv z ad E N))) args s 0 0 A) (F0 m 0 ls []) := by
    intro H locs args hts hP hS
    unfold f_B_seats at h
    refine lv_iload_n hx hb d_1_13_0 rfl (lv_at hl 1 rfl) ?_
    refine lv_iconst (v := oI 0) hx hb d_1_13_1 (by decide +kernel) ?_
    refine lv_iconst (v := oI 5) hx hb d_1_13_2 (by decide +kernel) ?_
    obtain ⟨_, g100, h⟩ := bd_e h
    refine kS (As := [.int (oI x1), .int (oI 0), .int (oI 5)]) (rest := []) (s_B_needRange l z ad E M x1 0 5 hL g100) hx hb hml hown hts w_548 w_546 w_547 w_1 md_519134 ⟨Nat.le_of_ble_eq_true rfl, Nat.le_of_ble_eq_true rfl⟩ hG hZ hP hD hS hA rfl hl.1 rfl (Nat.le_of_ble_eq_true rfl) d_1_13_3 ⟨Nat.le_of_ble_eq_true rfl, Nat.le_of_ble_eq_true rfl⟩ (fun _ H locs hP hD hS => ?_)
    have hP : va_P z.1 classes (wv z ad E M) H := hP
    have hD : va_D A (wv z ad E M) := hD
    refine W.eq (g2 := F0 m 6 ls []) rfl ?_
    refine lv_iload_n hx hb d_1_13_6 rfl (lv_at hl 2 rfl) ?_
    refine lv_iconst (v := oI 1) hx hb d_1_13_7 (by decide +kernel) ?_
    refine lv_bipush (v := oI 60) hx hb d_1_13_8 (by decide +kernel) ?_
    obtain ⟨_, g101, h⟩ := bd_e h
    refine kS (As := [.int (oI x2), .int (oI 1), .int (oI 60)]) (rest := []) (s_B_needRange l z ad E M x2 1 60 hL g101) hx hb hml hown hts w_548 w_546 w_547 w_1 md_519134 ⟨Nat.le_of_ble_eq_true rfl, Nat.le_of_ble_eq_true rfl⟩ hG hZ hP hD hS hA rfl hl.1 rfl (Nat.le_of_ble_eq_true rfl) d_1_13_10 ⟨Nat.le_of_ble_eq_true rfl, Nat.le_of_ble_eq_true rfl⟩ (fun _ H locs hP hD hS => ?_)
    have hP : va_P z.1 classes (wv z ad E M) H := hP
    have hD : va_D A (wv z ad E M) := hD
    refine W.eq (g2 := F0 m 13 ls []) rfl ?_
    refine lv_iload_n hx hb d_1_13_13 rfl (lv_at hl 3 rfl) ?_
    refine lv_iconst (v := oI 0) hx hb d_1_13_14 (by decide +kernel) ?_
    refine lv_bipush (v := oI 20) hx hb d_1_13_15 (by decide +kernel) ?_
    obtain ⟨_, g102, h⟩ := bd_e h
    refine kS (As := [.int (oI x3), .int (oI 0), .int (oI 20)]) (rest := []) (s_B_needRange l z ad E M x3 0 20 hL g102) hx hb hml hown hts w_548 w_546 w_547 w_1 md_519134 ⟨Nat.le_of_ble_eq_true rfl, Nat.le_of_ble_eq_true rfl⟩ hG hZ hP hD hS hA rfl hl.1 rfl (Nat.le_of_ble_eq_true rfl) d_1_13_17 ⟨Nat.le_of_ble_eq_true rfl, Nat.le_of_ble_eq_true rfl⟩ (fun _ H locs hP hD hS => ?_)
    have hP : va_P z.1 classes (wv z ad E M) H := hP
    have hD : va_D A (wv z ad E M) := hD
    refine W.eq (g2 := F0 m 20 ls []) rfl ?_
    refine lv_aload_n hx hb d_1_13_20 rfl (lv_at hl 0 rfl) ?_
    refine m_gr (j := 53) (C := "Ballothall") (T := TX11) (N := 14) (ci := 11) (k := 3) hx hb hts iX11 hown hG hP (yi_1 hL) (yt_1 hL) rfl (by decide) w_400 (fun _ h9 => h9) rfl rfl (yr_1_3 hL) d_1_13_21 ?_
    refine lv_iload_n hx hb d_1_13_24 rfl (lv_at hl 1 rfl) ?_
    refine lv_iload_n hx hb d_1_13_25 rfl (lv_at hl 2 rfl) ?_
    refine lv_iload_n hx hb d_1_13_26 rfl (lv_at hl 3 rfl) ?_
    obtain ⟨⟨r103, M103⟩, g103, h⟩ := bd_e h
    refine kVN (As := [.int (oI x1), .int (oI x2), .int (oI x3)]) (rest := []) (s_Li_spread l z ad E M x1 x2 x3 r103 M103 hL g103) hx hb hml hown hts w_1524 n_1521 w_1523 w_s_de34cc w_5 md_9eb116 ⟨Nat.le_of_ble_eq_true rfl, Nat.le_of_ble_eq_true rfl⟩ hG hZ hP hD hS hA 53 (wv_o (ci := 7) (yi_53 hL) (yt_53 hL)) rfl rfl rfl hl.1 rfl (Nat.le_of_ble_eq_true rfl) d_1_13_27 ⟨Nat.le_of_ble_eq_true rfl, Nat.le_of_ble_eq_true rfl⟩ (fun _ H locs hP hD hS => ?_)
    have hP : va_P z.1 classes (wv z ad E M103) H := hP
    have hD : va_D A (wv z ad E M103) := hD
    refine W.eq (g2 := F0 m 30 ls [.int (oI r103)]) rfl ?_
    refine lv_istore (lv' := [(4, .int (oI r103)), (0, .ref (ad 1)), (1, .int (oI x1)), (2, .int (oI x2)), (3, .int (oI x3))]) hx hb d_1_13_30 hl (by decide) rfl (fun ls hl => ?_)
    refine lv_aload_n hx hb d_1_13_32 rfl (lv_at hl 1 rfl) ?_
    refine m_gr (j := 53) (C := "Ballothall") (T := TX11) (N := 14) (ci := 11) (k := 3) hx hb hts iX11 hown hG hP (yi_1 hL) (yt_1 hL) rfl (by decide) w_400 (fun _ h9 => h9) rfl rfl (yr_1_3 hL) d_1_13_33 ?_
    obtain ⟨M104, g104, h⟩ := bd_e h
    refine kVN (As := []) (rest := []) (s_Li_keepSpread l z ad E M103 M104 hL g104) hx hb hml hown hts w_1584 n_1581 w_1583 w_s_aea49b w_5 md_a55234 ⟨Nat.le_of_ble_eq_true rfl, Nat.le_of_ble_eq_true rfl⟩ hG hZ hP hD hS hA 53 (wv_o (ci := 7) (yi_53 hL) (yt_53 hL)) rfl rfl rfl hl.1 rfl (Nat.le_of_ble_eq_true rfl) d_1_13_36 ⟨Nat.le_of_ble_eq_true rfl, Nat.le_of_ble_eq_true rfl⟩ (fun _ H locs hP hD hS => ?_)
    have hP : va_P z.1 classes (wv z ad E M104) H := hP
    have hD : va_D A (wv z ad E M104) := hD
    refine W.eq (g2 := F0 m 39 ls []) rfl ?_
    refine lv_aload_n hx hb d_1_13_39 rfl (lv_at hl 1 rfl) ?_
    refine lv_bipush (v := oI 8) hx hb d_1_13_40 (by decide +kernel) ?_
    refine lv_iconst (v := oI 0) hx hb d_1_13_42 (by decide +kernel) ?_
    refine lv_iconst (v := oI 0) hx hb d_1_13_43 (by decide +kernel) ?_
    obtain ⟨M105, g105, h⟩ := bd_e h
    refine kV (As := [.int (oI 8), .int (oI 0), .int (oI 0)]) (rest := []) (s_B_remember l z ad E M104 8 0 0 M105 hL g105) hx hb hml hown hts w_519 w_516 w_518 w_s_b872b3 w_1 md_7af0bb ⟨Nat.le_of_ble_eq_true rfl, Nat.le_of_ble_eq_true rfl⟩ hG hZ hP hD hS hA 1 (wv_o (ci := 11) (yi_1 hL) (yt_1 hL)) rfl rfl rfl hl.1 rfl (Nat.le_of_ble_eq_true rfl) d_1_13_44 ⟨Nat.le_of_ble_eq_true rfl, Nat.le_of_ble_eq_true rfl⟩ (fun _ H locs hP hD hS => ?_)
    have hP : va_P z.1 classes (wv z ad E M105) H := hP
    have hD : va_D A (wv z ad E M105) := hD
    refine W.eq (g2 := F0 m 47 ls []) rfl ?_
    refine lv_iload hx hb d_1_13_47 (lv_at hl 0 rfl) ?_
    obtain ⟨rfl, rfl⟩ := in2 h
    exact W.iret hx hb hr (fun t ht hW => qkA hP hD hS (fun k => k) rfl rfl ht) hS.2.2 d_1_13_49
  exact key _ _ _ hts hP hS
set_option maxRecDepth 100000 in
set_option maxHeartbeats 4000000 in
theorem s_B_seatsOf (l : Launch) (z : Zz) (ad : Nat → Nat) (E : Ev) (M : Mm) (x1 : Int) (r : Int)  (hL : Lay E) (h : f_B_seatsOf E M x1 = some r) : CT l z ⟨"Ballothall", "seatsOf", "(I)I"⟩ prog_1_method_14_code 2 (some .int) [.ref (ad 1), .int (oI x1)] (wv z ad E M) 1 41 0 0 (fun _ => some (.int (oI r))) (fun _ => (wv z ad E M)) := by
  refine CT.of (own := "Ballothall") (by decide +kernel) (Nat.le_of_ble_eq_true rfl) rfl (fun p e s m below meth c A ls hx hb hml hr hts hown hlocks hin hA hG hZ hP hD hS hl => ?_)
  have hl : lv_has ls 2 [(0, .ref (ad 1)), (1, .int (oI x1))] := hl
  have key : ∀ (H : Heap) (locs : List Loc) (args : Array Value), (∀ w ∈ WG, w.before args s = true) → va_P z.1 classes (wv z ad E M) H → va_S A s.heap H locs → W p l e (rmK 1 41 0 0) s m args below meth c H locs 0 0 (MQ below (QK z A (fun _ => some (.int (oI r))) (fun _ => (wv z ad E M))) args s 0 0 A) (F0 m 0 ls []) := by
    intro H locs args hts hP hS
    unfold f_B_seatsOf at h
    refine lv_iload_n hx hb d_1_14_0 rfl (lv_at hl 1 rfl) ?_
    refine lv_aload_n hx hb d_1_14_1 rfl (lv_at hl 0 rfl) ?_
    refine m_gr (j := 53) (C := "Ballothall") (T := TX11) (N := 14) (ci := 11) (k := 3) hx hb hts iX11 hown hG hP (yi_1 hL) (yt_1 hL) rfl (by decide) w_400 (fun _ h9 => h9) rfl rfl (yr_1_3 hL) d_1_14_2 ?_
    refine m_giN (C := "Ballothall$Lists") (T := TX7) (N := 11) (ci := 7) (k := 0) hx hb hts iX7 hown hG hP (yi_53 hL) (yt_53 hL) rfl (by decide) n_243 rfl (fun _ h9 => h9) rfl rfl d_1_14_5 ?_
    obtain ⟨_, g100, h⟩ := bd_e h
    refine kS (As := [.int (oI x1), .int (oI (M 53 0))]) (rest := []) (s_B_needIndex l z ad E M x1 (M 53 0) hL g100) hx hb hml hown hts w_529 w_527 w_528 w_1 md_6cb26b ⟨Nat.le_of_ble_eq_true rfl, Nat.le_of_ble_eq_true rfl⟩ hG hZ hP hD hS hA rfl hl.1 rfl (Nat.le_of_ble_eq_true rfl) d_1_14_8 ⟨Nat.le_of_ble_eq_true rfl, Nat.le_of_ble_eq_true rfl⟩ (fun _ H locs hP hD hS => ?_)
    have hP : va_P z.1 classes (wv z ad E M) H := hP
    have hD : va_D A (wv z ad E M) := hD
    refine W.eq (g2 := F0 m 11 ls []) rfl ?_
    refine lv_aload_n hx hb d_1_14_11 rfl (lv_at hl 0 rfl) ?_
    refine m_gr (j := 53) (C := "Ballothall") (T := TX11) (N := 14) (ci := 11) (k := 3) hx hb hts iX11 hown hG hP (yi_1 hL) (yt_1 hL) rfl (by decide) w_400 (fun _ h9 => h9) rfl rfl (yr_1_3 hL) d_1_14_12 ?_
    obtain ⟨r101, g101, h⟩ := bd_e h
    refine kVN (As := []) (rest := []) (s_Li_latest l z ad E M r101 hL g101) hx hb hml hown hts w_584 n_1591 w_583 w_s_46c41a w_5 md_cb0049 ⟨Nat.le_of_ble_eq_true rfl, Nat.le_of_ble_eq_true rfl⟩ hG hZ hP hD hS hA 53 (wv_o (ci := 7) (yi_53 hL) (yt_53 hL)) rfl rfl rfl hl.1 rfl (Nat.le_of_ble_eq_true rfl) d_1_14_15 ⟨Nat.le_of_ble_eq_true rfl, Nat.le_of_ble_eq_true rfl⟩ (fun _ H locs hP hD hS => ?_)
    have hP : va_P z.1 classes (wv z ad E M) H := hP
    have hD : va_D A (wv z ad E M) := hD
    obtain ⟨h_r101, h⟩ := ck_e h
    refine W.eq (g2 := F0 m 18 ls [.ref (ad r101)]) rfl ?_
    refine m_grN (j := (r101 + 2)) (C := "Ballothall$KeptSeats") (T := TX6) (N := 7) (ci := 6) (k := 4) hx hb hts iX6 hown hG hP (isKs_i h_r101) (isKs_T h_r101) rfl (by decide) n_222 rfl (fun _ h9 => h9) rfl rfl (isKs_r4 h_r101) d_1_14_18 ?_
    refine lv_iload_n hx hb d_1_14_21 rfl (lv_at hl 1 rfl) ?_
    obtain ⟨ok102, h⟩ := ck_e h
    refine m_ia hx hb hG hP (isKs_i2 h_r101) (isKs_t2 h_r101) ok102 d_1_14_22 ?_
    obtain rfl := in1 h
    exact W.iret hx hb hr (fun t ht hW => qkA hP hD hS (fun k => k) rfl rfl ht) hS.2.2 d_1_14_23
  exact key _ _ _ hts hP hS
set_option maxRecDepth 100000 in
set_option maxHeartbeats 4000000 in
theorem b_La_divisor_j35 (l : Launch) (z : Zz) (ad : Nat → Nat) (E : Ev) (M : Mm) (x0 : Int) (x1 : Int) (r : Int)  {p : Program} {e : Env} {s : State} {m : MethodId} {below : List Frame} {meth : Method} {c : Code} {A : Nat → Prop} {args : Array Value} (hx : p.tables.exec = Jvm.exec) (hb : c.code = method_10_code) (hml : c.maxLocals = 2) (hts : ∀ w ∈ WG, w.before args s = true) (hown : s.vm.findClass "BallothallLaw" = some m.cls) (hlocks : meth.locks = false) (hA : ∀ q, s.heap.size ≤ q → A q) (hG : KG z s) (hZ : FZ z A s) (hL : Lay E) (hr : meth.sig.returnType = (some .int)) (h : La_divisor_j35 E M x0 x1 = some r) : ∀ (H : Heap) (locs : List Loc) (ls : Array Slot), va_P z.1 classes (wv z ad E M) H → va_D A (wv z ad E M) → va_S A s.heap H locs → lv_has ls 2 [(0, .int (oI x0)), (1, .int (oI x1))] → W p l e (rmK 0 20 0 0) s m args below meth c H locs 0 0 (MQ below (QK z A (fun _ => some (.int (oI r))) (fun _ => (wv z ad E M))) args s 0 0 A) (F0 m 35 ls []) := by
  intro H locs ls hP hD hS hl
  unfold La_divisor_j35 at h
  refine lv_iload_n hx hb d_L10_35 rfl (lv_at hl 0 rfl) ?_
  refine lv_iconst (v := oI 2) hx hb d_L10_36 (by decide +kernel) ?_
  obtain ⟨ok101, h⟩ := ck_e h
  refine lv_icmp_ne (tgt := 45) hx hb d_L10_37 (by decide) (fun c9 => ?_) (fun c9 => ?_)
  · have h := ite_f (fun q => c9 ((oI_eq (a := x0) (b := (2 : Int)) ok101 (by decide)).mpr q)) h
    refine lv_iload_n hx hb d_L10_45 rfl (lv_at hl 0 rfl) ?_
    refine lv_iconst (v := oI 3) hx hb d_L10_46 (by decide +kernel) ?_
    refine lv_icmp_ne (tgt := 59) hx hb d_L10_47 (by decide) (fun c9 => ?_) (fun c9 => ?_)
    · have h := ite_f (fun q => c9 ((oI_eq (a := x0) (b := (3 : Int)) ok101 (by decide)).mpr q)) h
      refine lv_iconst (v := oI 5) hx hb d_L10_59 (by decide +kernel) ?_
      refine lv_iload_n hx hb d_L10_60 rfl (lv_at hl 1 rfl) ?_
      refine lv_imul hx hb d_L10_61 ?_
      refine nrm (oI_mul _ _) ?_
      refine lv_bipush (v := oI 10) hx hb d_L10_62 (by decide +kernel) ?_
      refine lv_iadd hx hb d_L10_64 ?_
      refine nrm (oI_add _ _) ?_
      obtain rfl := in1 h
      exact W.iret hx hb hr (fun t ht hW => qkA hP hD hS (fun k => k) rfl rfl ht) hS.2.2 d_L10_65
    · have h := ite_t ((oI_eq (a := x0) (b := (3 : Int)) ok101 (by decide)).mp c9) h
      refine lv_bipush (v := oI 15) hx hb d_L10_50 (by decide +kernel) ?_
      refine lv_iload_n hx hb d_L10_52 rfl (lv_at hl 1 rfl) ?_
      refine lv_imul hx hb d_L10_53 ?_
      refine nrm (oI_mul _ _) ?_
      refine lv_iconst (v := oI 5) hx hb d_L10_54 (by decide +kernel) ?_
      refine lv_iadd hx hb d_L10_55 ?_
      refine nrm (oI_add _ _) ?_
      refine lv_goto (tgt := 65) hx hb d_L10_56 (by decide) ?_
      obtain rfl := in1 h
      exact W.iret hx hb hr (fun t ht hW => qkA hP hD hS (fun k => k) rfl rfl ht) hS.2.2 d_L10_65
  · have h := ite_t ((oI_eq (a := x0) (b := (2 : Int)) ok101 (by decide)).mp c9) h
    refine lv_bipush (v := oI 7) hx hb d_L10_40 (by decide +kernel) ?_
    refine lv_goto (tgt := 65) hx hb d_L10_42 (by decide) ?_
    obtain rfl := in1 h
    exact W.iret hx hb hr (fun t ht hW => qkA hP hD hS (fun k => k) rfl rfl ht) hS.2.2 d_L10_65
set_option maxRecDepth 100000 in
set_option maxHeartbeats 4000000 in
theorem s_La_divisor (l : Launch) (z : Zz) (ad : Nat → Nat) (E : Ev) (M : Mm) (x0 : Int) (x1 : Int) (r : Int)  (hL : Lay E) (h : f_La_divisor E M x0 x1 = some r) : CT l z ⟨"BallothallLaw", "divisor", "(II)I"⟩ method_10_code 2 (some .int) [.int (oI x0), .int (oI x1)] (wv z ad E M) 0 20 0 0 (fun _ => some (.int (oI r))) (fun _ => (wv z ad E M)) := by
  refine CT.of (own := "BallothallLaw") (by decide +kernel) (Nat.le_of_ble_eq_true rfl) rfl (fun p e s m below meth c A ls hx hb hml hr hts hown hlocks hin hA hG hZ hP hD hS hl => ?_)
  have hl : lv_has ls 2 [(0, .int (oI x0)), (1, .int (oI x1))] := hl
  have key : ∀ (H : Heap) (locs : List Loc) (args : Array Value), (∀ w ∈ WG, w.before args s = true) → va_P z.1 classes (wv z ad E M) H → va_S A s.heap H locs → W p l e (rmK 0 20 0 0) s m args below meth c H locs 0 0 (MQ below (QK z A (fun _ => some (.int (oI r))) (fun _ => (wv z ad E M))) args s 0 0 A) (F0 m 0 ls []) := by
    intro H locs args hts hP hS
    unfold f_La_divisor at h
    refine lv_iload_n hx hb d_L10_0 rfl (lv_at hl 0 rfl) ?_
    obtain ⟨ok100, h⟩ := ck_e h
    refine lv_if_ne (tgt := 12) hx hb d_L10_1 (by decide) (fun c9 => ?_) (fun c9 => ?_)
    · have h := ite_f (fun q => c9 ((oI_eq0 ok100).mpr q)) h
      refine lv_iload_n hx hb d_L10_12 rfl (lv_at hl 0 rfl) ?_
      refine lv_iconst (v := oI 1) hx hb d_L10_13 (by decide +kernel) ?_
      refine lv_icmp_eq (tgt := 26) hx hb d_L10_14 (by decide) (fun c9 => ?_) (fun c9 => ?_)
      · have h := ite_t ((oI_eq (a := x0) (b := (1 : Int)) ok100 (by decide)).mp c9) h
        refine lv_bipush (v := oI 10) hx hb d_L10_26 (by decide +kernel) ?_
        refine lv_iload_n hx hb d_L10_28 rfl (lv_at hl 1 rfl) ?_
        refine lv_imul hx hb d_L10_29 ?_
        refine nrm (oI_mul _ _) ?_
        refine lv_iconst (v := oI 5) hx hb d_L10_30 (by decide +kernel) ?_
        refine lv_iadd hx hb d_L10_31 ?_
        refine nrm (oI_add _ _) ?_
        refine lv_goto (tgt := 65) hx hb d_L10_32 (by decide) ?_
        obtain rfl := in1 h
        exact W.iret hx hb hr (fun t ht hW => qkA hP hD hS (fun k => k) rfl rfl ht) hS.2.2 d_L10_65
      · have h := ite_f (fun q => c9 ((oI_eq (a := x0) (b := (1 : Int)) ok100 (by decide)).mpr q)) h
        refine lv_iload_n hx hb d_L10_17 rfl (lv_at hl 0 rfl) ?_
        refine lv_iconst (v := oI 2) hx hb d_L10_18 (by decide +kernel) ?_
        refine lv_icmp_ne (tgt := 35) hx hb d_L10_19 (by decide) (fun c9 => ?_) (fun c9 => ?_)
        · have h := ite_f (fun q => c9 ((oI_eq (a := x0) (b := (2 : Int)) ok100 (by decide)).mpr q)) h
          exact b_La_divisor_j35 l z ad E M x0 x1 r hx hb hml hts hown hlocks hA hG hZ hL hr h H locs ls hP hD hS (lv_sub hl [0, 1] rfl)
        · have h := ite_t ((oI_eq (a := x0) (b := (2 : Int)) ok100 (by decide)).mp c9) h
          refine lv_iload_n hx hb d_L10_22 rfl (lv_at hl 1 rfl) ?_
          obtain ⟨ok102, h⟩ := ck_e h
          refine lv_if_le (tgt := 35) hx hb d_L10_23 (by decide) (fun c9 => ?_) (fun c9 => ?_)
          · have h := ite_t ((oI_le0 ok102).mp c9) h
            exact b_La_divisor_j35 l z ad E M x0 x1 r hx hb hml hts hown hlocks hA hG hZ hL hr h H locs ls hP hD hS (lv_sub hl [0, 1] rfl)
          · have h := ite_f (fun q => c9 ((oI_le0 ok102).mpr q)) h
            refine lv_bipush (v := oI 10) hx hb d_L10_26 (by decide +kernel) ?_
            refine lv_iload_n hx hb d_L10_28 rfl (lv_at hl 1 rfl) ?_
            refine lv_imul hx hb d_L10_29 ?_
            refine nrm (oI_mul _ _) ?_
            refine lv_iconst (v := oI 5) hx hb d_L10_30 (by decide +kernel) ?_
            refine lv_iadd hx hb d_L10_31 ?_
            refine nrm (oI_add _ _) ?_
            refine lv_goto (tgt := 65) hx hb d_L10_32 (by decide) ?_
            obtain rfl := in1 h
            exact W.iret hx hb hr (fun t ht hW => qkA hP hD hS (fun k => k) rfl rfl ht) hS.2.2 d_L10_65
    · have h := ite_t ((oI_eq0 ok100).mp c9) h
      refine lv_iconst (v := oI 5) hx hb d_L10_4 (by decide +kernel) ?_
      refine lv_iload_n hx hb d_L10_5 rfl (lv_at hl 1 rfl) ?_
      refine lv_imul hx hb d_L10_6 ?_
      refine nrm (oI_mul _ _) ?_
      refine lv_iconst (v := oI 5) hx hb d_L10_7 (by decide +kernel) ?_
      refine lv_iadd hx hb d_L10_8 ?_
      refine nrm (oI_add _ _) ?_
      refine lv_goto (tgt := 65) hx hb d_L10_9 (by decide) ?_
      obtain rfl := in1 h
      exact W.iret hx hb hr (fun t ht hW => qkA hP hD hS (fun k => k) rfl rfl ht) hS.2.2 d_L10_65
  exact key _ _ _ hts hP hS
set_option maxRecDepth 100000 in
set_option maxHeartbeats 4000000 in
theorem b_B_seatAt_j24 (l : Launch) (z : Zz) (ad : Nat → Nat) (E : Ev) (M : Mm) (x1 : Int) (q2 : Nat) (y0 : Int) (y1 : Int) (r : Int)  {p : Program} {e : Env} {s : State} {m : MethodId} {below : List Frame} {meth : Method} {c : Code} {A : Nat → Prop} {args : Array Value} (hx : p.tables.exec = Jvm.exec) (hb : c.code = prog_1_method_15_code) (hml : c.maxLocals = 3) (hts : ∀ w ∈ WG, w.before args s = true) (hown : s.vm.findClass "Ballothall" = some m.cls) (hlocks : meth.locks = false) (hA : ∀ q, s.heap.size ≤ q → A q) (hG : KG z s) (hZ : FZ z A s) (hL : Lay E) (hr : meth.sig.returnType = (some .int)) (h : B_seatAt_j24 E M x1 q2 y0 y1 = some r) : ∀ (H : Heap) (locs : List Loc) (ls : Array Slot), va_P z.1 classes (wv z ad E M) H → va_D A (wv z ad E M) → va_S A s.heap H locs → lv_has ls 3 [(1, .int (oI x1)), (2, .ref (ad q2))] → W p l e (rmK 1 41 0 0) s m args below meth c H locs 0 0 (MQ below (QK z A (fun _ => some (.int (oI r))) (fun _ => (wv z ad E M))) args s 0 0 A) (F0 m 24 ls [.int (oI y0), .int (oI y1)]) := by
  intro H locs ls hP hD hS hl
  unfold B_seatAt_j24 at h
  obtain ⟨h_q2, h⟩ := ck_e h
  obtain ⟨_, g102, h⟩ := bd_e h
  refine kS (As := [.int (oI y1), .int (oI y0)]) (rest := []) (s_B_needPlace l z ad E M y1 y0 hL g102) hx hb hml hown hts w_1343 w_1341 w_1342 w_1 md_541664 ⟨Nat.le_of_ble_eq_true rfl, Nat.le_of_ble_eq_true rfl⟩ hG hZ hP hD hS hA rfl hl.1 rfl (Nat.le_of_ble_eq_true rfl) d_1_15_24 ⟨Nat.le_of_ble_eq_true rfl, Nat.le_of_ble_eq_true rfl⟩ (fun _ H locs hP hD hS => ?_)
  have hP : va_P z.1 classes (wv z ad E M) H := hP
  have hD : va_D A (wv z ad E M) := hD
  refine W.eq (g2 := F0 m 27 ls []) rfl ?_
  refine lv_aload_n hx hb d_1_15_27 rfl (lv_at hl 1 rfl) ?_
  refine m_grN (j := (q2 + 1)) (C := "Ballothall$KeptSeats") (T := TX6) (N := 7) (ci := 6) (k := 3) hx hb hts iX6 hown hG hP (isKs_i h_q2) (isKs_T h_q2) rfl (by decide) n_219 rfl (fun _ h9 => h9) rfl rfl (isKs_r3 h_q2) d_1_15_28 ?_
  refine lv_iload_n hx hb d_1_15_31 rfl (lv_at hl 0 rfl) ?_
  obtain ⟨ok103, h⟩ := ck_e h
  refine m_ia hx hb hG hP (isKs_i1 h_q2) (isKs_t1 h_q2) ok103 d_1_15_32 ?_
  obtain rfl := in1 h
  exact W.iret hx hb hr (fun t ht hW => qkA hP hD hS (fun k => k) rfl rfl ht) hS.2.2 d_1_15_33
set_option maxRecDepth 100000 in
set_option maxHeartbeats 4000000 in
theorem s_B_seatAt (l : Launch) (z : Zz) (ad : Nat → Nat) (E : Ev) (M : Mm) (x1 : Int) (r : Int)  (hL : Lay E) (h : f_B_seatAt E M x1 = some r) : CT l z ⟨"Ballothall", "seatAt", "(I)I"⟩ prog_1_method_15_code 3 (some .int) [.ref (ad 1), .int (oI x1)] (wv z ad E M) 1 41 0 0 (fun _ => some (.int (oI r))) (fun _ => (wv z ad E M)) := by
  refine CT.of (own := "Ballothall") (by decide +kernel) (Nat.le_of_ble_eq_true rfl) rfl (fun p e s m below meth c A ls hx hb hml hr hts hown hlocks hin hA hG hZ hP hD hS hl => ?_)
  have hl : lv_has ls 3 [(0, .ref (ad 1)), (1, .int (oI x1))] := hl
  have key : ∀ (H : Heap) (locs : List Loc) (args : Array Value), (∀ w ∈ WG, w.before args s = true) → va_P z.1 classes (wv z ad E M) H → va_S A s.heap H locs → W p l e (rmK 1 41 0 0) s m args below meth c H locs 0 0 (MQ below (QK z A (fun _ => some (.int (oI r))) (fun _ => (wv z ad E M))) args s 0 0 A) (F0 m 0 ls []) := by
    intro H locs args hts hP hS
    unfold f_B_seatAt at h
    refine lv_aload_n hx hb d_1_15_0 rfl (lv_at hl 0 rfl) ?_
    refine m_gr (j := 53) (C := "Ballothall") (T := TX11) (N := 14) (ci := 11) (k := 3) hx hb hts iX11 hown hG hP (yi_1 hL) (yt_1 hL) rfl (by decide) w_400 (fun _ h9 => h9) rfl rfl (yr_1_3 hL) d_1_15_1 ?_
    obtain ⟨r100, g100, h⟩ := bd_e h
    refine kVN (As := []) (rest := []) (s_Li_latest l z ad E M r100 hL g100) hx hb hml hown hts w_584 n_1591 w_583 w_s_46c41a w_5 md_cb0049 ⟨Nat.le_of_ble_eq_true rfl, Nat.le_of_ble_eq_true rfl⟩ hG hZ hP hD hS hA 53 (wv_o (ci := 7) (yi_53 hL) (yt_53 hL)) rfl rfl rfl hl.1 rfl (Nat.le_of_ble_eq_true rfl) d_1_15_4 ⟨Nat.le_of_ble_eq_true rfl, Nat.le_of_ble_eq_true rfl⟩ (fun _ H locs hP hD hS => ?_)
    have hP : va_P z.1 classes (wv z ad E M) H := hP
    have hD : va_D A (wv z ad E M) := hD
    obtain ⟨h_r100, h⟩ := ck_e h
    refine W.eq (g2 := F0 m 7 ls [.ref (ad r100)]) rfl ?_
    refine lv_astore_n (lv' := [(2, .ref (ad r100)), (0, .ref (ad 1)), (1, .int (oI x1))]) hx hb d_1_15_7 rfl hl (by decide) rfl (fun ls hl => ?_)
    refine lv_iload_n hx hb d_1_15_8 rfl (lv_at hl 2 rfl) ?_
    refine lv_aload_n hx hb d_1_15_9 rfl (lv_at hl 0 rfl) ?_
    refine m_giN (C := "Ballothall$KeptSeats") (T := TX6) (N := 7) (ci := 6) (k := 1) hx hb hts iX6 hown hG hP (isKs_i h_r100) (isKs_T h_r100) rfl (by decide) n_215 rfl (fun _ h9 => h9) rfl rfl d_1_15_10 ?_
    obtain ⟨ok101, h⟩ := ck_e h
    refine lv_if_eq (tgt := 20) hx hb d_1_15_13 (by decide) (fun c9 => ?_) (fun c9 => ?_)
    · have h := ite_t ((oI_eq0 ok101).mp c9) h
      refine lv_aload_n hx hb d_1_15_20 rfl (lv_at hl 0 rfl) ?_
      refine m_giN (C := "Ballothall$KeptSeats") (T := TX6) (N := 7) (ci := 6) (k := 0) hx hb hts iX6 hown hG hP (isKs_i h_r100) (isKs_T h_r100) rfl (by decide) n_213 rfl (fun _ h9 => h9) rfl rfl d_1_15_21 ?_
      exact b_B_seatAt_j24 l z ad E M x1 r100 (M r100 0) x1 r hx hb hml hts hown hlocks hA hG hZ hL hr h H locs ls hP hD hS (lv_sub hl [2, 0] rfl)
    · have h := ite_f (fun q => c9 ((oI_eq0 ok101).mpr q)) h
      refine lv_iconst (v := oI 0) hx hb d_1_15_16 (by decide +kernel) ?_
      refine lv_goto (tgt := 24) hx hb d_1_15_17 (by decide) ?_
      exact b_B_seatAt_j24 l z ad E M x1 r100 0 x1 r hx hb hml hts hown hlocks hA hG hZ hL hr h H locs ls hP hD hS (lv_sub hl [2, 0] rfl)
  exact key _ _ _ hts hP hS
set_option maxRecDepth 100000 in
set_option maxHeartbeats 4000000 in
theorem s_B_ally (l : Launch) (z : Zz) (ad : Nat → Nat) (E : Ev) (M : Mm) (x1 : Int) (x2 : Int) (r : Int) (N : Mm) (hL : Lay E) (h : f_B_ally E M x1 x2 = some (r, N)) : CT l z ⟨"Ballothall", "ally", "(II)I"⟩ prog_1_method_12_code 4 (some .int) [.ref (ad 1), .int (oI x1), .int (oI x2)] (wv z ad E M) 2 63 0 0 (fun _ => some (.int (oI r))) (fun _ => (wv z ad E N)) := by
  refine CT.of (own := "Ballothall") (by decide +kernel) (Nat.le_of_ble_eq_true rfl) rfl (fun p e s m below meth c A ls hx hb hml hr hts hown hlocks hin hA hG hZ hP hD hS hl => ?_)
  have hl : lv_has ls 4 [(0, .ref (ad 1)), (1, .int (oI x1)), (2, .int (oI x2))] := hl
  have key : ∀ (H : Heap) (locs : List Loc) (args : Array Value), (∀ w ∈ WG, w.before args s = true) → va_P z.1 classes (wv z ad E M) H → va_S A s.heap H locs → W p l e (rmK 2 63 0 0) s m args below meth c H locs 0 0 (MQ below (QK z A (fun _ => some (.int (oI r))) (fun _ => (wv z ad E N))) args s 0 0 A) (F0 m 0 ls []) := by
    intro H locs args hts hP hS
    unfold f_B_ally at h
    refine lv_iload_n hx hb d_1_12_0 rfl (lv_at hl 1 rfl) ?_
    refine lv_aload_n hx hb d_1_12_1 rfl (lv_at hl 0 rfl) ?_
    refine m_gr (j := 53) (C := "Ballothall") (T := TX11) (N := 14) (ci := 11) (k := 3) hx hb hts iX11 hown hG hP (yi_1 hL) (yt_1 hL) rfl (by decide) w_400 (fun _ h9 => h9) rfl rfl (yr_1_3 hL) d_1_12_2 ?_
    refine m_giN (C := "Ballothall$Lists") (T := TX7) (N := 11) (ci := 7) (k := 0) hx hb hts iX7 hown hG hP (yi_53 hL) (yt_53 hL) rfl (by decide) n_243 rfl (fun _ h9 => h9) rfl rfl d_1_12_5 ?_
    obtain ⟨_, g100, h⟩ := bd_e h
    refine kS (As := [.int (oI x1), .int (oI (M 53 0))]) (rest := []) (s_B_needIndex l z ad E M x1 (M 53 0) hL g100) hx hb hml hown hts w_529 w_527 w_528 w_1 md_6cb26b ⟨Nat.le_of_ble_eq_true rfl, Nat.le_of_ble_eq_true rfl⟩ hG hZ hP hD hS hA rfl hl.1 rfl (Nat.le_of_ble_eq_true rfl) d_1_12_8 ⟨Nat.le_of_ble_eq_true rfl, Nat.le_of_ble_eq_true rfl⟩ (fun _ H locs hP hD hS => ?_)
    have hP : va_P z.1 classes (wv z ad E M) H := hP
    have hD : va_D A (wv z ad E M) := hD
    refine W.eq (g2 := F0 m 11 ls []) rfl ?_
    refine lv_iload_n hx hb d_1_12_11 rfl (lv_at hl 2 rfl) ?_
    refine lv_iconst (v := oI 0) hx hb d_1_12_12 (by decide +kernel) ?_
    refine lv_iconst (v := oI 4) hx hb d_1_12_13 (by decide +kernel) ?_
    obtain ⟨_, g101, h⟩ := bd_e h
    refine kS (As := [.int (oI x2), .int (oI 0), .int (oI 4)]) (rest := []) (s_B_needRange l z ad E M x2 0 4 hL g101) hx hb hml hown hts w_548 w_546 w_547 w_1 md_519134 ⟨Nat.le_of_ble_eq_true rfl, Nat.le_of_ble_eq_true rfl⟩ hG hZ hP hD hS hA rfl hl.1 rfl (Nat.le_of_ble_eq_true rfl) d_1_12_14 ⟨Nat.le_of_ble_eq_true rfl, Nat.le_of_ble_eq_true rfl⟩ (fun _ H locs hP hD hS => ?_)
    have hP : va_P z.1 classes (wv z ad E M) H := hP
    have hD : va_D A (wv z ad E M) := hD
    refine W.eq (g2 := F0 m 17 ls []) rfl ?_
    refine lv_aload_n hx hb d_1_12_17 rfl (lv_at hl 0 rfl) ?_
    refine m_gr (j := 53) (C := "Ballothall") (T := TX11) (N := 14) (ci := 11) (k := 3) hx hb hts iX11 hown hG hP (yi_1 hL) (yt_1 hL) rfl (by decide) w_400 (fun _ h9 => h9) rfl rfl (yr_1_3 hL) d_1_12_18 ?_
    refine m_grN (j := 55) (C := "Ballothall$Lists") (T := TX7) (N := 11) (ci := 7) (k := 2) hx hb hts iX7 hown hG hP (yi_53 hL) (yt_53 hL) rfl (by decide) n_246 rfl (fun _ h9 => h9) rfl rfl (yr_53_2 hL) d_1_12_21 ?_
    refine lv_iload_n hx hb d_1_12_24 rfl (lv_at hl 1 rfl) ?_
    obtain ⟨ok102, h⟩ := ck_e h
    refine m_ia hx hb hG hP (yi_55 hL) (yt_55 hL) ok102 d_1_12_25 ?_
    refine lv_istore_n (lv' := [(3, .int (oI (M 55 x1.toNat))), (0, .ref (ad 1)), (1, .int (oI x1)), (2, .int (oI x2))]) hx hb d_1_12_26 rfl hl (by decide) rfl (fun ls hl => ?_)
    refine lv_aload_n hx hb d_1_12_27 rfl (lv_at hl 1 rfl) ?_
    refine m_gr (j := 53) (C := "Ballothall") (T := TX11) (N := 14) (ci := 11) (k := 3) hx hb hts iX11 hown hG hP (yi_1 hL) (yt_1 hL) rfl (by decide) w_400 (fun _ h9 => h9) rfl rfl (yr_1_3 hL) d_1_12_28 ?_
    refine m_grN (j := 55) (C := "Ballothall$Lists") (T := TX7) (N := 11) (ci := 7) (k := 2) hx hb hts iX7 hown hG hP (yi_53 hL) (yt_53 hL) rfl (by decide) n_246 rfl (fun _ h9 => h9) rfl rfl (yr_53_2 hL) d_1_12_31 ?_
    refine lv_iload_n hx hb d_1_12_34 rfl (lv_at hl 2 rfl) ?_
    refine lv_iload_n hx hb d_1_12_35 rfl (lv_at hl 3 rfl) ?_
    refine m_is hx hb hG hP hD hS (yi_55 hL) (yt_55 hL) ok102 d_1_12_36 (fun H locs hP hD hS => ?_)
    have hP : va_P z.1 classes (wv z ad E (u2 M 55 x1.toNat x2)) H := hP
    have hD : va_D A (wv z ad E (u2 M 55 x1.toNat x2)) := hD
    refine lv_aload_n hx hb d_1_12_37 rfl (lv_at hl 1 rfl) ?_
    refine lv_bipush (v := oI 7) hx hb d_1_12_38 (by decide +kernel) ?_
    refine lv_iload_n hx hb d_1_12_40 rfl (lv_at hl 2 rfl) ?_
    refine lv_iload_n hx hb d_1_12_41 rfl (lv_at hl 0 rfl) ?_
    obtain ⟨M103, g103, h⟩ := bd_e h
    refine kV (As := [.int (oI 7), .int (oI x1), .int (oI (M 55 x1.toNat))]) (rest := []) (s_B_remember l z ad E (u2 M 55 x1.toNat x2) 7 x1 (M 55 x1.toNat) M103 hL g103) hx hb hml hown hts w_519 w_516 w_518 w_s_b872b3 w_1 md_7af0bb ⟨Nat.le_of_ble_eq_true rfl, Nat.le_of_ble_eq_true rfl⟩ hG hZ hP hD hS hA 1 (wv_o (ci := 11) (yi_1 hL) (yt_1 hL)) rfl rfl rfl hl.1 rfl (Nat.le_of_ble_eq_true rfl) d_1_12_42 ⟨Nat.le_of_ble_eq_true rfl, Nat.le_of_ble_eq_true rfl⟩ (fun _ H locs hP hD hS => ?_)
    have hP : va_P z.1 classes (wv z ad E M103) H := hP
    have hD : va_D A (wv z ad E M103) := hD
    refine W.eq (g2 := F0 m 45 ls []) rfl ?_
    refine lv_iload_n hx hb d_1_12_45 rfl (lv_at hl 0 rfl) ?_
    obtain ⟨rfl, rfl⟩ := in2 h
    exact W.iret hx hb hr (fun t ht hW => qkA hP hD hS (fun k => k) rfl rfl ht) hS.2.2 d_1_12_46
  exact key _ _ _ hts hP hS
set_option maxRecDepth 100000 in
set_option maxHeartbeats 4000000 in
theorem b_La_seats_j59 (l : Launch) (z : Zz) (E0 : Ev) (ad0 : Nat → Nat) (ad : Nat → Nat) (E : Ev) (M : Mm) (q0 : Nat) (x2 : Int) (q3 : Nat) (x4 : Int) (x6 : Int) (y0 : Int) (y1 : Int) (y2 : Nat) (t : Nat) (w4 : Int) (w6 : Int) (F : Ev) (N : Mm) {Q : State → Prop} {p : Program} {e : Env} {s : State} {m : MethodId} {below : List Frame} {meth : Method} {c : Code} {A : Nat → Prop} {args : Array Value} (hx : p.tables.exec = Jvm.exec) (hb : c.code = method_11_code) (hml : c.maxLocals = 20) (hts : ∀ w ∈ WG, w.before args s = true) (hown : s.vm.findClass "BallothallLaw" = some m.cls) (hlocks : meth.locks = false) (hA : ∀ q, s.heap.size ≤ q → A q) (hG : KG z s) (hZ : FZ z A s) (mc ms c0 s0 c1 s1 : Nat) (hc : c0 + 0 ≤ c1) (hs : s0 + 0 ≤ s1) (hm : c1 ≤ mc) (hm2 : s1 ≤ ms) (hag0 : ∀ i, i < nE E0 → ad i = ad0 i) (hE0 : nE E0 ≤ nE E) (h : La_seats_j59 E M q0 x2 q3 x4 x6 y0 y1 y2 = some (t, w4, w6, F, N)) (k0 : ∀ (ad1 : Nat → Nat), (∀ i, i < nE E0 → ad1 i = ad0 i) → nE E0 ≤ nE F → t = 0 → ∀ (H : Heap) (locs : List Loc) (ls : Array Slot), va_P z.1 classes (wv z ad1 F N) H → va_D A (wv z ad1 F N) → va_S A s.heap H locs → lv_has ls 20 [(0, .ref (ad1 q0)), (1, .ref (ad1 1)), (2, .int (oI x2)), (3, .ref (ad1 q3)), (4, .long (oJ w4)), (6, .int (oI w6))] → W p l e (rmK 7 190 mc ms) s m args below meth c H locs c1 s1 Q (F0 m 27 ls [])) (k1 : ∀ (ad1 : Nat → Nat), (∀ i, i < nE E0 → ad1 i = ad0 i) → nE E0 ≤ nE F → t = 1 → ∀ (H : Heap) (locs : List Loc) (ls : Array Slot), va_P z.1 classes (wv z ad1 F N) H → va_D A (wv z ad1 F N) → va_S A s.heap H locs → lv_has ls 20 [(0, .ref (ad1 q0)), (1, .ref (ad1 1)), (2, .int (oI x2)), (3, .ref (ad1 q3)), (4, .long (oJ w4))] → W p l e (rmK 7 190 mc ms) s m args below meth c H locs c1 s1 Q (F0 m 113 ls [])) : ∀ (H : Heap) (locs : List Loc) (ls : Array Slot), va_P z.1 classes (wv z ad E M) H → va_D A (wv z ad E M) → va_S A s.heap H locs → lv_has ls 20 [(0, .ref (ad q0)), (1, .ref (ad 1)), (2, .int (oI x2)), (3, .ref (ad q3)), (4, .long (oJ x4)), (6, .int (oI x6))] → W p l e (rmK 7 190 mc ms) s m args below meth c H locs c0 s0 Q (F0 m 59 ls [.int (oI y0), .int (oI y1), .ref (ad y2)]) := by
  intro H locs ls hP hD hS hl
  unfold La_seats_j59 at h
  obtain ⟨hL, h⟩ := ck_e h
  obtain ⟨h_q0, h⟩ := ck_e h
  obtain ⟨h_q3, h⟩ := ck_e h
  obtain ⟨h_y2, h⟩ := ck_e h
  obtain ⟨ok110, h⟩ := ck_e h
  refine m_is hx hb hG hP hD hS h_y2.1 (isIA_T h_y2) ok110 d_L11_59 (fun H locs hP hD hS => ?_)
  have hP : va_P z.1 classes (wv z ad E (u2 M y2 y1.toNat y0)) H := hP
  have hD : va_D A (wv z ad E (u2 M y2 y1.toNat y0)) := hD
  refine lv_lload hx hb d_L11_60 (lv_at hl 4 rfl) ?_
  refine lv_aload_n hx hb d_L11_62 rfl (lv_at hl 3 rfl) ?_
  refine lv_iload hx hb d_L11_63 (lv_at hl 5 rfl) ?_
  obtain ⟨ok111, h⟩ := ck_e h
  refine m_ia hx hb hG hP h_q3.1 (isIA_T h_q3) ok111 d_L11_65 ?_
  obtain ⟨ok112, h⟩ := ck_e h
  refine lv_i2l (v := oJ ((u2 M y2 y1.toNat y0) q3 x6.toNat)) hx hb d_L11_66 (oI_l ok112) ?_
  refine lv_ladd hx hb d_L11_67 ?_
  refine nrmL (oJ_add _ _) ?_
  obtain ⟨v113, e113, h⟩ := nb_e h
  refine nrmL (congrArg oJ e113.symm) ?_
  refine lv_lstore (lv' := [(4, .long (oJ v113)), (0, .ref (ad q0)), (1, .ref (ad 1)), (2, .int (oI x2)), (3, .ref (ad q3)), (6, .int (oI x6))]) hx hb d_L11_68 hl (by decide) rfl (fun ls hl => ?_)
  refine lv_aload_n hx hb d_L11_70 rfl (lv_at hl 2 rfl) ?_
  refine lv_aload_n hx hb d_L11_71 rfl (lv_at hl 4 rfl) ?_
  refine lv_iload hx hb d_L11_72 (lv_at hl 5 rfl) ?_
  refine m_ia hx hb hG hP h_q3.1 (isIA_T h_q3) ok111 d_L11_74 ?_
  obtain ⟨⟨r114, M114⟩, g114, h⟩ := bd_e h
  refine kV (As := [.int (oI ((u2 M y2 y1.toNat y0) q3 x6.toNat))]) (rest := []) (s_B_list l z ad E (u2 M y2 y1.toNat y0) ((u2 M y2 y1.toNat y0) q3 x6.toNat) r114 M114 hL g114) hx hb hml hown hts w_1511 w_1508 w_1509 w_1510 w_1 md_c7d969 ⟨Nat.le_of_ble_eq_true rfl, Nat.le_of_ble_eq_true rfl⟩ hG hZ hP hD hS hA 1 (wv_o (ci := 11) (yi_1 hL) (yt_1 hL)) rfl rfl rfl hl.1 rfl (Nat.le_of_ble_eq_true rfl) d_L11_75 ⟨(show _ ≤ mc by omega), (show _ ≤ ms by omega)⟩ (fun _ H locs hP hD hS => ?_)
  have hP : va_P z.1 classes (wv z ad E M114) H := hP
  have hD : va_D A (wv z ad E M114) := hD
  refine W.eq (g2 := F0 m 78 ls [.int (oI r114)]) rfl ?_
  refine lv_istore (lv' := [(7, .int (oI r114)), (4, .long (oJ v113)), (0, .ref (ad q0)), (1, .ref (ad 1)), (2, .int (oI x2)), (3, .ref (ad q3)), (6, .int (oI x6))]) hx hb d_L11_78 hl (by decide) rfl (fun ls hl => ?_)
  refine lv_aload_n hx hb d_L11_80 rfl (lv_at hl 2 rfl) ?_
  refine lv_iconst (v := oI 3) hx hb d_L11_81 (by decide +kernel) ?_
  obtain ⟨⟨r115, M115⟩, g115, h⟩ := bd_e h
  refine kS (As := [.ref (ad q0), .int (oI 3)]) (rest := []) (s_La_next l z ad E M114 q0 3 r115 M115 hL g115) hx hb hml hown hts w_797 w_795 w_796 w_0 md_199d8f ⟨Nat.le_of_ble_eq_true rfl, Nat.le_of_ble_eq_true rfl⟩ hG hZ hP hD hS hA rfl hl.1 rfl (Nat.le_of_ble_eq_true rfl) d_L11_82 ⟨(show _ ≤ mc by omega), (show _ ≤ ms by omega)⟩ (fun _ H locs hP hD hS => ?_)
  have hP : va_P z.1 classes (wv z ad E M115) H := hP
  have hD : va_D A (wv z ad E M115) := hD
  refine W.eq (g2 := F0 m 85 ls [.int (oI r115)]) rfl ?_
  obtain ⟨ok116, h⟩ := ck_e h
  refine lv_if_ne (tgt := 104) hx hb d_L11_85 (by decide) (fun c9 => ?_) (fun c9 => ?_)
  · have h := ite_f (fun q => c9 ((oI_eq0 ok116).mpr q)) h
    refine lv_iconst (v := oI 0) hx hb d_L11_104 (by decide +kernel) ?_
    refine lv_istore (lv' := [(8, .int (oI 0)), (7, .int (oI r114)), (4, .long (oJ v113)), (0, .ref (ad q0)), (1, .ref (ad 1)), (2, .int (oI x2)), (3, .ref (ad q3)), (6, .int (oI x6))]) hx hb d_L11_105 hl (by decide) rfl (fun ls hl => ?_)
    refine lv_iinc (v := oI (x6 + 1)) (lv' := [(6, .int (oI (x6 + 1))), (8, .int (oI 0)), (7, .int (oI r114)), (4, .long (oJ v113)), (0, .ref (ad q0)), (1, .ref (ad 1)), (2, .int (oI x2)), (3, .ref (ad q3))]) hx hb d_L11_107 hl (k := 7) rfl (oI_add x6 1) (by decide) rfl (fun ls hl => ?_)
    refine lv_goto (tgt := 27) hx hb d_L11_110 (by decide) ?_
    obtain ⟨rfl, rfl, rfl, rfl, rfl⟩ := in5 h
    exact W.wide (by omega) (by omega) (k0 ad hag0 hE0 rfl H locs ls hP hD hS (lv_sub hl [4, 5, 6, 7, 3, 0] rfl))
  · have h := ite_t ((oI_eq0 ok116).mp c9) h
    refine lv_aload_n hx hb d_L11_88 rfl (lv_at hl 3 rfl) ?_
    refine lv_iconst (v := oI 1) hx hb d_L11_89 (by decide +kernel) ?_
    refine lv_iload hx hb d_L11_90 (lv_at hl 6 rfl) ?_
    refine lv_aload_n hx hb d_L11_92 rfl (lv_at hl 2 rfl) ?_
    refine lv_bipush (v := oI 100) hx hb d_L11_93 (by decide +kernel) ?_
    obtain ⟨⟨r117, M117⟩, g117, h⟩ := bd_e h
    refine kS (As := [.ref (ad q0), .int (oI 100)]) (rest := [.int (oI x6), .int (oI 1), .ref (ad 1)]) (s_La_next l z ad E M115 q0 100 r117 M117 hL g117) hx hb hml hown hts w_797 w_795 w_796 w_0 md_199d8f ⟨Nat.le_of_ble_eq_true rfl, Nat.le_of_ble_eq_true rfl⟩ hG hZ hP hD hS hA rfl hl.1 rfl (Nat.le_of_ble_eq_true rfl) d_L11_95 ⟨(show _ ≤ mc by omega), (show _ ≤ ms by omega)⟩ (fun _ H locs hP hD hS => ?_)
    have hP : va_P z.1 classes (wv z ad E M117) H := hP
    have hD : va_D A (wv z ad E M117) := hD
    refine W.eq (g2 := F0 m 98 ls [.int (oI r117), .int (oI x6), .int (oI 1), .ref (ad 1)]) rfl ?_
    obtain ⟨⟨r118, M118⟩, g118, h⟩ := bd_e h
    refine kV (As := [.int (oI 1), .int (oI x6), .int (oI r117)]) (rest := []) (s_B_setLot l z ad E M117 1 x6 r117 r118 M118 hL g118) hx hb hml hown hts w_526 w_523 w_524 w_525 w_1 md_7e6362 ⟨Nat.le_of_ble_eq_true rfl, Nat.le_of_ble_eq_true rfl⟩ hG hZ hP hD hS hA 1 (wv_o (ci := 11) (yi_1 hL) (yt_1 hL)) rfl rfl rfl hl.1 rfl (Nat.le_of_ble_eq_true rfl) d_L11_98 ⟨(show _ ≤ mc by omega), (show _ ≤ ms by omega)⟩ (fun _ H locs hP hD hS => ?_)
    have hP : va_P z.1 classes (wv z ad E M118) H := hP
    have hD : va_D A (wv z ad E M118) := hD
    refine W.eq (g2 := F0 m 101 ls [.int (oI r118)]) rfl ?_
    refine lv_goto (tgt := 105) hx hb d_L11_101 (by decide) ?_
    refine lv_istore (lv' := [(8, .int (oI r118)), (7, .int (oI r114)), (4, .long (oJ v113)), (0, .ref (ad q0)), (1, .ref (ad 1)), (2, .int (oI x2)), (3, .ref (ad q3)), (6, .int (oI x6))]) hx hb d_L11_105 hl (by decide) rfl (fun ls hl => ?_)
    refine lv_iinc (v := oI (x6 + 1)) (lv' := [(6, .int (oI (x6 + 1))), (8, .int (oI r118)), (7, .int (oI r114)), (4, .long (oJ v113)), (0, .ref (ad q0)), (1, .ref (ad 1)), (2, .int (oI x2)), (3, .ref (ad q3))]) hx hb d_L11_107 hl (k := 7) rfl (oI_add x6 1) (by decide) rfl (fun ls hl => ?_)
    refine lv_goto (tgt := 27) hx hb d_L11_110 (by decide) ?_
    obtain ⟨rfl, rfl, rfl, rfl, rfl⟩ := in5 h
    exact W.wide (by omega) (by omega) (k0 ad hag0 hE0 rfl H locs ls hP hD hS (lv_sub hl [4, 5, 6, 7, 3, 0] rfl))
