set_option maxRecDepth 100000 in
set_option maxHeartbeats 4000000 in
theorem b_B_writePile_j16 (l : Launch) (z : Zz) (ad : Nat → Nat) (E : Ev) (M : Mm) (x1 : Int) (x2 : Int) (r : Int) (N : Mm) {p : Program} {e : Env} {s : State} {m : MethodId} {below : List Frame} {meth : Method} {c : Code} {A : Nat → Prop} {args : Array Value} (hx : p.tables.exec = Jvm.exec) (hb : c.code = prog_1_method_22_code) (hml : c.maxLocals = 4) (hts : ∀ w ∈ WG, w.before args s = true) (hown : s.vm.findClass "Ballothall" = some m.cls) (hlocks : meth.locks = false) (hA : ∀ q, s.heap.size ≤ q → A q) (hG : KG z s) (hZ : FZ z A s) (hL : Lay E) (hr : meth.sig.returnType = (some .int)) (h : B_writePile_j16 E M x1 x2 = some (r, N)) : ∀ (H : Heap) (locs : List Loc) (ls : Array Slot), va_P z.1 classes (wv z ad E M) H → va_D A (wv z ad E M) → va_S A s.heap H locs → lv_has ls 4 [(0, .ref (ad 1)), (1, .int (oI x1)), (2, .int (oI x2))] → W p l e (rmK 5 136 0 0) s m args below meth c H locs 0 0 (MQ below (QK z A (fun _ => some (.int (oI r))) (fun _ => (wv z ad E N))) args s 0 0 A) (F0 m 16 ls []) := by
  intro H locs ls hP hD hS hl
  unfold B_writePile_j16 at h
  refine lv_aload_n hx hb d_1_22_16 rfl (lv_at hl 0 rfl) ?_
  refine m_gr (j := 179) (C := "Ballothall") (T := TX11) (N := 14) (ci := 11) (k := 4) hx hb hts iX11 hown hG hP (yi_1 hL) (yt_1 hL) rfl (by decide) w_401 (fun _ h9 => h9) rfl rfl (yr_1_4 hL) d_1_22_17 ?_
  obtain ⟨r1, g1, h⟩ := bd_e h
  refine kVN (As := []) (rest := []) (s_Co_latest l z ad E M r1 hL g1) hx hb hml hown hts w_596 n_593 w_595 w_s_ad1675 w_8 md_6f7cc1 ⟨Nat.le_of_ble_eq_true rfl, Nat.le_of_ble_eq_true rfl⟩ hG hZ hP hD hS hA 179 (wv_o (ci := 3) (yi_179 hL) (yt_179 hL)) rfl rfl rfl hl.1 rfl (Nat.le_of_ble_eq_true rfl) d_1_22_20 ⟨Nat.le_of_ble_eq_true rfl, Nat.le_of_ble_eq_true rfl⟩ (fun _ H locs hP hD hS => ?_)
  have hP : va_P z.1 classes (wv z ad E M) H := hP
  have hD : va_D A (wv z ad E M) := hD
  cases r1 with
  | none =>
    refine W.eq (g2 := F0 m 23 ls [.null]) rfl ?_
    refine lv_astore_nN (lv' := [(3, .null), (0, .ref (ad 1)), (1, .int (oI x1)), (2, .int (oI x2))]) hx hb d_1_22_23 rfl hl (by decide) rfl (fun ls hl => ?_)
    refine lv_aload_nN hx hb d_1_22_24 rfl (lv_at hl 0 rfl) ?_
    refine lv_ifnullN (tgt := 45) hx hb d_1_22_25 (by decide) ?_
    cases h
  | some p1 =>
    obtain ⟨h_p1, h⟩ := ck_e h
    refine W.eq (g2 := F0 m 23 ls [.ref (ad p1)]) rfl ?_
    refine lv_astore_n (lv' := [(3, .ref (ad p1)), (0, .ref (ad 1)), (1, .int (oI x1)), (2, .int (oI x2))]) hx hb d_1_22_23 rfl hl (by decide) rfl (fun ls hl => ?_)
    refine lv_aload_n hx hb d_1_22_24 rfl (lv_at hl 0 rfl) ?_
    refine lv_ifnull hx hb d_1_22_25 ?_
    refine lv_iload_n hx hb d_1_22_28 rfl (lv_at hl 2 rfl) ?_
    obtain ⟨ok2, h⟩ := ck_e h
    refine lv_if_lt (tgt := 45) hx hb d_1_22_29 (by decide) (fun c9 => ?_) (fun c9 => ?_)
    · have h := ite_t ((oI_lt0 ok2).mp c9) h
      cases h
    · have h := ite_f (fun q => c9 ((oI_lt0 ok2).mpr q)) h
      refine lv_iload_n hx hb d_1_22_32 rfl (lv_at hl 2 rfl) ?_
      refine lv_aload_n hx hb d_1_22_33 rfl (lv_at hl 0 rfl) ?_
      refine m_giN (C := "Ballothall$Count") (T := TX2) (N := 10) (ci := 2) (k := 4) hx hb hts iX2 hown hG hP (isCt_i h_p1) (isCt_T h_p1) rfl (by decide) n_1087 rfl (fun _ h9 => h9) rfl rfl d_1_22_34 ?_
      refine lv_aload_n hx hb d_1_22_37 rfl (lv_at hl 0 rfl) ?_
      refine m_giN (C := "Ballothall$Count") (T := TX2) (N := 10) (ci := 2) (k := 5) hx hb hts iX2 hown hG hP (isCt_i h_p1) (isCt_T h_p1) rfl (by decide) n_1089 rfl (fun _ h9 => h9) rfl rfl d_1_22_38 ?_
      refine lv_iadd hx hb d_1_22_41 ?_
      refine nrm (oI_add _ _) ?_
      obtain ⟨ok3, h⟩ := ck_e h
      refine lv_icmp_le (tgt := 55) hx hb d_1_22_42 (by decide) (fun c9 => ?_) (fun c9 => ?_)
      · have h := ite_t ((oI_le (a := x1) (b := ((M p1 4) + (M p1 5))) ok2 ok3).mp c9) h
        refine lv_aload_n hx hb d_1_22_55 rfl (lv_at hl 1 rfl) ?_
        refine m_gr (j := 179) (C := "Ballothall") (T := TX11) (N := 14) (ci := 11) (k := 4) hx hb hts iX11 hown hG hP (yi_1 hL) (yt_1 hL) rfl (by decide) w_401 (fun _ h9 => h9) rfl rfl (yr_1_4 hL) d_1_22_56 ?_
        refine lv_aload_n hx hb d_1_22_59 rfl (lv_at hl 0 rfl) ?_
        refine lv_iload_n hx hb d_1_22_60 rfl (lv_at hl 2 rfl) ?_
        refine lv_iload_n hx hb d_1_22_61 rfl (lv_at hl 3 rfl) ?_
        refine lv_iconst (v := oI (-1)) hx hb d_1_22_62 (by decide +kernel) ?_
        obtain ⟨ok4, h⟩ := ck_e h
        refine lv_icmp_ne (tgt := 71) hx hb d_1_22_63 (by decide) (fun c9 => ?_) (fun c9 => ?_)
        · have h := ite_f (fun q => c9 ((oI_eq (a := x2) (b := (-1 : Int)) ok4 (by decide)).mpr q)) h
          refine lv_iload_n hx hb d_1_22_71 rfl (lv_at hl 3 rfl) ?_
          exact b_B_writePile_j72 l z ad E M x2 x1 p1 r N hx hb hml hts hown hlocks hA hG hZ hL hr h H locs ls hP hD hS (lv_sub hl [1] rfl)
        · have h := ite_t ((oI_eq (a := x2) (b := (-1 : Int)) ok4 (by decide)).mp c9) h
          refine lv_bipush (v := oI 8) hx hb d_1_22_66 (by decide +kernel) ?_
          refine lv_goto (tgt := 72) hx hb d_1_22_68 (by decide) ?_
          exact b_B_writePile_j72 l z ad E M 8 x1 p1 r N hx hb hml hts hown hlocks hA hG hZ hL hr h H locs ls hP hD hS (lv_sub hl [1] rfl)
      · have h := ite_f (fun q => c9 ((oI_le (a := x1) (b := ((M p1 4) + (M p1 5))) ok2 ok3).mpr q)) h
        cases h
set_option maxRecDepth 100000 in
set_option maxHeartbeats 4000000 in
theorem s_B_writePile (l : Launch) (z : Zz) (ad : Nat → Nat) (E : Ev) (M : Mm) (x1 : Int) (x2 : Int) (r : Int) (N : Mm) (hL : Lay E) (h : f_B_writePile E M x1 x2 = some (r, N)) : CT l z ⟨"Ballothall", "writePile", "(II)I"⟩ prog_1_method_22_code 4 (some .int) [.ref (ad 1), .int (oI x1), .int (oI x2)] (wv z ad E M) 5 136 0 0 (fun _ => some (.int (oI r))) (fun _ => (wv z ad E N)) := by
  refine CT.of (own := "Ballothall") (by decide +kernel) (Nat.le_of_ble_eq_true rfl) rfl (fun p e s m below meth c A ls hx hb hml hr hts hown hlocks hin hA hG hZ hP hD hS hl => ?_)
  have hl : lv_has ls 4 [(0, .ref (ad 1)), (1, .int (oI x1)), (2, .int (oI x2))] := hl
  have key : ∀ (H : Heap) (locs : List Loc) (args : Array Value), (∀ w ∈ WG, w.before args s = true) → va_P z.1 classes (wv z ad E M) H → va_S A s.heap H locs → W p l e (rmK 5 136 0 0) s m args below meth c H locs 0 0 (MQ below (QK z A (fun _ => some (.int (oI r))) (fun _ => (wv z ad E N))) args s 0 0 A) (F0 m 0 ls []) := by
    intro H locs args hts hP hS
    unfold f_B_writePile at h
    refine lv_iload_n hx hb d_1_22_0 rfl (lv_at hl 2 rfl) ?_
    refine lv_iconst (v := oI (-1)) hx hb d_1_22_1 (by decide +kernel) ?_
    obtain ⟨ok0, h⟩ := ck_e h
    refine lv_icmp_eq (tgt := 16) hx hb d_1_22_2 (by decide) (fun c9 => ?_) (fun c9 => ?_)
    · have h := ite_t ((oI_eq (a := x2) (b := (-1 : Int)) ok0 (by decide)).mp c9) h
      exact b_B_writePile_j16 l z ad E M x1 x2 r N hx hb hml hts hown hlocks hA hG hZ hL hr h H locs ls hP hD hS (lv_sub hl [0, 1, 2] rfl)
    · have h := ite_f (fun q => c9 ((oI_eq (a := x2) (b := (-1 : Int)) ok0 (by decide)).mpr q)) h
      refine lv_iload_n hx hb d_1_22_5 rfl (lv_at hl 2 rfl) ?_
      refine lv_aload_n hx hb d_1_22_6 rfl (lv_at hl 0 rfl) ?_
      refine m_gr (j := 2) (C := "Ballothall") (T := TX11) (N := 14) (ci := 11) (k := 0) hx hb hts iX11 hown hG hP (yi_1 hL) (yt_1 hL) rfl (by decide) w_397 (fun _ h9 => h9) rfl rfl (yr_1_0 hL) d_1_22_7 ?_
      refine m_giN (C := "Ballothall$BallotBox") (T := TX0) (N := 10) (ci := 0) (k := 2) hx hb hts iX0 hown hG hP (yi_2 hL) (yt_2 hL) rfl (by decide) n_52 rfl (fun _ h9 => h9) rfl rfl d_1_22_10 ?_
      obtain ⟨_, g12, h⟩ := bd_e h
      refine kS (As := [.int (oI x2), .int (oI (M 2 2))]) (rest := []) (s_B_needIndex l z ad E M x2 (M 2 2) hL g12) hx hb hml hown hts w_529 w_527 w_528 w_1 md_6cb26b ⟨Nat.le_of_ble_eq_true rfl, Nat.le_of_ble_eq_true rfl⟩ hG hZ hP hD hS hA rfl hl.1 rfl (Nat.le_of_ble_eq_true rfl) d_1_22_13 ⟨Nat.le_of_ble_eq_true rfl, Nat.le_of_ble_eq_true rfl⟩ (fun _ H locs hP hD hS => ?_)
      have hP : va_P z.1 classes (wv z ad E M) H := hP
      have hD : va_D A (wv z ad E M) := hD
      refine W.eq (g2 := F0 m 16 ls []) rfl ?_
      exact b_B_writePile_j16 l z ad E M x1 x2 r N hx hb hml hts hown hlocks hA hG hZ hL hr h H locs ls hP hD hS (lv_sub hl [0, 1, 2] rfl)
  exact key _ _ _ hts hP hS
set_option maxRecDepth 100000 in
set_option maxHeartbeats 4000000 in
theorem s_Co_elect (l : Launch) (z : Zz) (ad : Nat → Nat) (E : Ev) (M : Mm) (p1 : Nat) (x2 : Int) (N : Mm) (hL : Lay E) (h : f_Co_elect E M p1 x2 = some N) : CT l z ⟨"Ballothall$Counting", "elect", "(LBallothall$Count;I)V"⟩ prog_5_method_13_code 3 none [.ref (ad 179), .ref (ad p1), .int (oI x2)] (wv z ad E M) 0 20 0 0 (fun _ => none) (fun _ => (wv z ad E N)) := by
  refine CT.of (own := "Ballothall$Counting") (by decide +kernel) (Nat.le_of_ble_eq_true rfl) rfl (fun p e s m below meth c A ls hx hb hml hr hts hown hlocks hin hA hG hZ hP hD hS hl => ?_)
  have hl : lv_has ls 3 [(0, .ref (ad 179)), (1, .ref (ad p1)), (2, .int (oI x2))] := hl
  have key : ∀ (H : Heap) (locs : List Loc) (args : Array Value), (∀ w ∈ WG, w.before args s = true) → va_P z.1 classes (wv z ad E M) H → va_S A s.heap H locs → W p l e (rmK 0 20 0 0) s m args below meth c H locs 0 0 (MQ below (QK z A (fun _ => none) (fun _ => (wv z ad E N))) args s 0 0 A) (F0 m 0 ls []) := by
    intro H locs args hts hP hS
    unfold f_Co_elect at h
    obtain ⟨h_p1, h⟩ := ck_e h
    refine lv_aload_n hx hb d_5_13_0 rfl (lv_at hl 0 rfl) ?_
    refine lv_dup hx hb d_5_13_1 rfl ?_
    refine m_gi (C := "Ballothall$Counting") (T := TX3) (N := 15) (ci := 3) (k := 3) hx hb hts iX3 hown hG hP (yi_179 hL) (yt_179 hL) rfl (by decide) w_306 (fun _ h9 => h9) rfl rfl d_5_13_2 ?_
    refine lv_iconst (v := oI 1) hx hb d_5_13_5 (by decide +kernel) ?_
    refine lv_iload_n hx hb d_5_13_6 rfl (lv_at hl 2 rfl) ?_
    obtain ⟨ok0, h⟩ := ck_e h
    refine lv_ishl hx hb d_5_13_7 ?_
    refine nrm (oI_one_shl ok0) ?_
    refine lv_iconst (v := oI (-1)) hx hb d_5_13_8 (by decide +kernel) ?_
    refine lv_ixor hx hb d_5_13_9 ?_
    refine nrm (oI_not _) ?_
    obtain ⟨ok1, h⟩ := ck_e h
    obtain ⟨ok2, h⟩ := ck_e h
    refine lv_iand hx hb d_5_13_10 ?_
    refine nrm (oI_dif ok1.1 ok1.2 ok2.1 ok2.2) ?_
    refine m_pi (C := "Ballothall$Counting") (T := TX3) (N := 15) (ci := 3) (k := 3) (ty := .int) hx hb hts iX3 hown hG hP hD hS (yi_179 hL) (yt_179 hL) rfl (by decide) w_306 (fun _ h9 => h9) rfl rfl tyX3_ok nmX3 rfl (by decide +kernel) rfl rfl d_5_13_11 (fun H locs hP hD hS => ?_)
    have hP : va_P z.1 classes (wv z ad E (u2 M 179 3 (dfI (M 179 3) (2 ^ x2.toNat)))) H := hP
    have hD : va_D A (wv z ad E (u2 M 179 3 (dfI (M 179 3) (2 ^ x2.toNat)))) := hD
    refine lv_aload_n hx hb d_5_13_14 rfl (lv_at hl 1 rfl) ?_
    refine m_giN (C := "Ballothall$Count") (T := TX2) (N := 10) (ci := 2) (k := 4) hx hb hts iX2 hown hG hP (isCt_i h_p1) (isCt_T h_p1) rfl (by decide) n_1086 rfl (fun _ h9 => h9) rfl rfl d_5_13_15 ?_
    refine lv_iconst (v := oI 3) hx hb d_5_13_18 (by decide +kernel) ?_
    obtain ⟨ok3, h⟩ := ck_e h
    refine lv_icmp_ge (tgt := 42) hx hb d_5_13_19 (by decide) (fun c9 => ?_) (fun c9 => ?_)
    · have h := ite_t ((oI_le (a := (3 : Int)) (b := ((u2 M 179 3 (dfI (M 179 3) (2 ^ x2.toNat))) p1 4)) (by decide) ok3).mp c9) h
      obtain rfl := in1 h
      exact W.vret hx hb hr (fun t ht hW => qkA hP hD hS (fun k => k) rfl rfl ht) hS.2.2 d_5_13_42
    · have h := ite_f (fun q => c9 ((oI_le (a := (3 : Int)) (b := ((u2 M 179 3 (dfI (M 179 3) (2 ^ x2.toNat))) p1 4)) (by decide) ok3).mpr q)) h
      refine lv_aload_n hx hb d_5_13_22 rfl (lv_at hl 1 rfl) ?_
      refine m_grN (j := (p1 + 2)) (C := "Ballothall$Count") (T := TX2) (N := 10) (ci := 2) (k := 7) hx hb hts iX2 hown hG hP (isCt_i h_p1) (isCt_T h_p1) rfl (by decide) n_1094 rfl (fun _ h9 => h9) rfl rfl (isCt_r7 h_p1) d_5_13_23 ?_
      refine lv_aload_n hx hb d_5_13_26 rfl (lv_at hl 1 rfl) ?_
      refine m_giN (C := "Ballothall$Count") (T := TX2) (N := 10) (ci := 2) (k := 4) hx hb hts iX2 hown hG hP (isCt_i h_p1) (isCt_T h_p1) rfl (by decide) n_1086 rfl (fun _ h9 => h9) rfl rfl d_5_13_27 ?_
      refine lv_iload_n hx hb d_5_13_30 rfl (lv_at hl 2 rfl) ?_
      obtain ⟨ok4, h⟩ := ck_e h
      refine m_is hx hb hG hP hD hS (isCt_i2 h_p1) (isCt_t2 h_p1) ok4 d_5_13_31 (fun H locs hP hD hS => ?_)
      have hP : va_P z.1 classes (wv z ad E (u2 (u2 M 179 3 (dfI (M 179 3) (2 ^ x2.toNat))) (p1 + 2) ((u2 M 179 3 (dfI (M 179 3) (2 ^ x2.toNat))) p1 4).toNat x2)) H := hP
      have hD : va_D A (wv z ad E (u2 (u2 M 179 3 (dfI (M 179 3) (2 ^ x2.toNat))) (p1 + 2) ((u2 M 179 3 (dfI (M 179 3) (2 ^ x2.toNat))) p1 4).toNat x2)) := hD
      obtain ⟨M5, e5, h⟩ := nb_e h
      rw [← e5] at hP hD
      refine lv_aload_n hx hb d_5_13_32 rfl (lv_at hl 1 rfl) ?_
      refine lv_dup hx hb d_5_13_33 rfl ?_
      refine m_giN (C := "Ballothall$Count") (T := TX2) (N := 10) (ci := 2) (k := 4) hx hb hts iX2 hown hG hP (isCt_i h_p1) (isCt_T h_p1) rfl (by decide) n_1086 rfl (fun _ h9 => h9) rfl rfl d_5_13_34 ?_
      refine lv_iconst (v := oI 1) hx hb d_5_13_37 (by decide +kernel) ?_
      refine lv_iadd hx hb d_5_13_38 ?_
      refine nrm (oI_add _ _) ?_
      refine m_piN (C := "Ballothall$Count") (T := TX2) (N := 10) (ci := 2) (k := 4) (ty := .int) hx hb hts iX2 hown hG hP hD hS (isCt_i h_p1) (isCt_T h_p1) rfl (by decide) n_1086 rfl (fun _ h9 => h9) rfl rfl tyX2_ok nmX2 rfl (by decide +kernel) rfl rfl d_5_13_39 (fun H locs hP hD hS => ?_)
      have hP : va_P z.1 classes (wv z ad E (u2 M5 p1 4 ((M5 p1 4) + 1))) H := hP
      have hD : va_D A (wv z ad E (u2 M5 p1 4 ((M5 p1 4) + 1))) := hD
      obtain rfl := in1 h
      exact W.vret hx hb hr (fun t ht hW => qkA hP hD hS (fun k => k) rfl rfl ht) hS.2.2 d_5_13_42
  exact key _ _ _ hts hP hS
set_option maxRecDepth 100000 in
set_option maxHeartbeats 4000000 in
theorem s_Co_weightOf (l : Launch) (z : Zz) (ad : Nat → Nat) (E : Ev) (M : Mm) (x1 : Int) (x2 : Int) (r : Nat)  (hL : Lay E) (h : f_Co_weightOf E M x1 x2 = some r) : CT l z ⟨"Ballothall$Counting", "weightOf", "(II)LBallothall$Natural;"⟩ prog_5_method_4_code 4 (some (.object "Ballothall$Natural")) [.ref (ad 179), .int (oI x1), .int (oI x2)] (wv z ad E M) 0 20 0 0 (fun _ => some (.ref (ad r))) (fun _ => (wv z ad E M)) := by
  refine CT.of (own := "Ballothall$Counting") (by decide +kernel) (Nat.le_of_ble_eq_true rfl) rfl (fun p e s m below meth c A ls hx hb hml hr hts hown hlocks hin hA hG hZ hP hD hS hl => ?_)
  have hl : lv_has ls 4 [(0, .ref (ad 179)), (1, .int (oI x1)), (2, .int (oI x2))] := hl
  have key : ∀ (H : Heap) (locs : List Loc) (args : Array Value), (∀ w ∈ WG, w.before args s = true) → va_P z.1 classes (wv z ad E M) H → va_S A s.heap H locs → W p l e (rmK 0 20 0 0) s m args below meth c H locs 0 0 (MQ below (QK z A (fun _ => some (.ref (ad r))) (fun _ => (wv z ad E M))) args s 0 0 A) (F0 m 0 ls []) := by
    intro H locs args hts hP hS
    unfold f_Co_weightOf at h
    refine lv_iload_n hx hb d_5_4_0 rfl (lv_at hl 1 rfl) ?_
    refine lv_bipush (v := oI 8) hx hb d_5_4_1 (by decide +kernel) ?_
    refine lv_imul hx hb d_5_4_3 ?_
    refine nrm (oI_mul _ _) ?_
    refine lv_iload_n hx hb d_5_4_4 rfl (lv_at hl 2 rfl) ?_
    refine lv_iadd hx hb d_5_4_5 ?_
    refine nrm (oI_add _ _) ?_
    refine lv_istore_n (lv' := [(3, .int (oI ((x1 * 8) + x2))), (0, .ref (ad 179)), (1, .int (oI x1)), (2, .int (oI x2))]) hx hb d_5_4_6 rfl hl (by decide) rfl (fun ls hl => ?_)
    refine lv_aload_n hx hb d_5_4_7 rfl (lv_at hl 1 rfl) ?_
    refine m_gr (j := 181) (C := "Ballothall$Counting") (T := TX3) (N := 15) (ci := 3) (k := 4) hx hb hts iX3 hown hG hP (yi_179 hL) (yt_179 hL) rfl (by decide) w_307 (fun _ h9 => h9) rfl rfl (yr_179_4 hL) d_5_4_8 ?_
    refine lv_iload_n hx hb d_5_4_11 rfl (lv_at hl 0 rfl) ?_
    obtain ⟨ok0, h⟩ := ck_e h
    obtain ⟨p1, g1, h⟩ := bd_e h
    obtain ⟨h_p1, h⟩ := ck_e h
    refine m_aa (k := p1) (t := 5) (C := "Ballothall$Natural") hx hb hG hP (yi_181 hL) (yt_181 hL) rfl rfl ok0 g1 d_5_4_12 ?_
    refine lv_ifnonnull (tgt := 29) hx hb d_5_4_13 (by decide) ?_
    refine lv_aload_n hx hb d_5_4_29 rfl (lv_at hl 1 rfl) ?_
    refine m_gr (j := 181) (C := "Ballothall$Counting") (T := TX3) (N := 15) (ci := 3) (k := 4) hx hb hts iX3 hown hG hP (yi_179 hL) (yt_179 hL) rfl (by decide) w_307 (fun _ h9 => h9) rfl rfl (yr_179_4 hL) d_5_4_30 ?_
    refine lv_iload_n hx hb d_5_4_33 rfl (lv_at hl 0 rfl) ?_
    obtain ⟨p2, g2, h⟩ := bd_e h
    obtain ⟨h_p2, h⟩ := ck_e h
    refine m_aa (k := p2) (t := 5) (C := "Ballothall$Natural") hx hb hG hP (yi_181 hL) (yt_181 hL) rfl rfl ok0 g2 d_5_4_34 ?_
    obtain rfl := in1 h
    exact W.aret hx hb hr (Or.inl ⟨_, rfl⟩) (Or.inr ⟨_, rfl⟩) (fun t ht hW => qkA hP hD hS (fun k => k) rfl rfl ht) hS.2.2 d_5_4_35
  exact key _ _ _ hts hP hS
set_option maxRecDepth 100000 in
set_option maxHeartbeats 4000000 in
theorem b_Co_passOn_46b (l : Launch) (z : Zz) (ad : Nat → Nat) (E : Ev) (M : Mm) (x1 : Int) (x2 : Int) (x3 : Int) (t : Nat) (w3 : Int) (N : Mm) {Q : State → Prop} {p : Program} {e : Env} {s : State} {m : MethodId} {below : List Frame} {meth : Method} {c : Code} {A : Nat → Prop} {args : Array Value} (hx : p.tables.exec = Jvm.exec) (hb : c.code = prog_5_method_7_code) (hml : c.maxLocals = 4) (hts : ∀ w ∈ WG, w.before args s = true) (hown : s.vm.findClass "Ballothall$Counting" = some m.cls) (hlocks : meth.locks = false) (hA : ∀ q, s.heap.size ≤ q → A q) (hG : KG z s) (hZ : FZ z A s) (hL : Lay E) (h : Co_passOn_46b E M x1 x2 x3 = some (t, w3, N)) (k0 : t = 0 → ∀ (H : Heap) (locs : List Loc) (ls : Array Slot), va_P z.1 classes (wv z ad E N) H → va_D A (wv z ad E N) → va_S A s.heap H locs → lv_has ls 4 [(0, .ref (ad 179)), (1, .int (oI x1)), (2, .int (oI x2)), (3, .int (oI w3))] → W p l e (rmK 3 87 0 0) s m args below meth c H locs 0 0 Q (F0 m 46 ls [])) (k1 : t = 1 → ∀ (H : Heap) (locs : List Loc) (ls : Array Slot), va_P z.1 classes (wv z ad E N) H → va_D A (wv z ad E N) → va_S A s.heap H locs → lv_has ls 4 [] → W p l e (rmK 3 87 0 0) s m args below meth c H locs 0 0 Q (F0 m 97 ls [])) : ∀ (H : Heap) (locs : List Loc) (ls : Array Slot), va_P z.1 classes (wv z ad E M) H → va_D A (wv z ad E M) → va_S A s.heap H locs → lv_has ls 4 [(0, .ref (ad 179)), (1, .int (oI x1)), (2, .int (oI x2)), (3, .int (oI x3))] → W p l e (rmK 3 87 0 0) s m args below meth c H locs 0 0 Q (F0 m 46 ls []) := by
  intro H locs ls hP hD hS hl
  unfold Co_passOn_46b at h
  refine lv_iload_n hx hb d_5_7_46 rfl (lv_at hl 3 rfl) ?_
  refine lv_aload_n hx hb d_5_7_47 rfl (lv_at hl 0 rfl) ?_
  refine m_gr (j := 2) (C := "Ballothall$Counting") (T := TX3) (N := 15) (ci := 3) (k := 0) hx hb hts iX3 hown hG hP (yi_179 hL) (yt_179 hL) rfl (by decide) w_303 (fun _ h9 => h9) rfl rfl (yr_179_0 hL) d_5_7_48 ?_
  refine m_giN (C := "Ballothall$BallotBox") (T := TX0) (N := 10) (ci := 0) (k := 2) hx hb hts iX0 hown hG hP (yi_2 hL) (yt_2 hL) rfl (by decide) n_55 rfl (fun _ h9 => h9) rfl rfl d_5_7_51 ?_
  obtain ⟨ok4, h⟩ := ck_e h
  obtain ⟨ok5, h⟩ := ck_e h
  refine lv_icmp_ge (tgt := 97) hx hb d_5_7_54 (by decide) (fun c9 => ?_) (fun c9 => ?_)
  · have h := ite_t ((oI_le (a := (M 2 2)) (b := x3) ok5 ok4).mp c9) h
    obtain ⟨rfl, rfl, rfl⟩ := in3 h
    exact k1 rfl H locs ls hP hD hS (lv_sub hl [] rfl)
  · have h := ite_f (fun q => c9 ((oI_le (a := (M 2 2)) (b := x3) ok5 ok4).mpr q)) h
    refine lv_iload_n hx hb d_5_7_57 rfl (lv_at hl 2 rfl) ?_
    refine lv_iload_n hx hb d_5_7_58 rfl (lv_at hl 3 rfl) ?_
    obtain ⟨r6, g6, h⟩ := bd_e h
    refine kSN (As := [.int (oI x2), .int (oI x3)]) (rest := []) (s_B_has l z ad E M x2 x3 r6 hL g6) hx hb hml hown hts w_693 n_1143 w_692 w_1 md_26545c ⟨Nat.le_of_ble_eq_true rfl, Nat.le_of_ble_eq_true rfl⟩ hG hZ hP hD hS hA rfl hl.1 rfl (Nat.le_of_ble_eq_true rfl) d_5_7_59 ⟨Nat.le_of_ble_eq_true rfl, Nat.le_of_ble_eq_true rfl⟩ (fun _ H locs hP hD hS => ?_)
    have hP : va_P z.1 classes (wv z ad E M) H := hP
    have hD : va_D A (wv z ad E M) := hD
    refine W.eq (g2 := F0 m 62 ls [.int (oI r6)]) rfl ?_
    obtain ⟨ok7, h⟩ := ck_e h
    refine lv_if_eq (tgt := 91) hx hb d_5_7_62 (by decide) (fun c9 => ?_) (fun c9 => ?_)
    · have h := ite_t ((oI_eq0 ok7).mp c9) h
      refine lv_iinc (v := oI (x3 + 1)) (lv' := [(3, .int (oI (x3 + 1))), (0, .ref (ad 179)), (1, .int (oI x1)), (2, .int (oI x2))]) hx hb d_5_7_91 hl (k := 3) rfl (oI_add x3 1) (by decide) rfl (fun ls hl => ?_)
      refine lv_goto (tgt := 46) hx hb d_5_7_94 (by decide) ?_
      obtain ⟨rfl, rfl, rfl⟩ := in3 h
      exact k0 rfl H locs ls hP hD hS (lv_sub hl [1, 2, 3, 0] rfl)
    · have h := ite_f (fun q => c9 ((oI_eq0 ok7).mpr q)) h
      refine lv_aload_n hx hb d_5_7_65 rfl (lv_at hl 0 rfl) ?_
      refine lv_iload_n hx hb d_5_7_66 rfl (lv_at hl 1 rfl) ?_
      refine lv_iload_n hx hb d_5_7_67 rfl (lv_at hl 3 rfl) ?_
      obtain ⟨r8, g8, h⟩ := bd_e h
      refine kV (As := [.int (oI x1), .int (oI x3)]) (rest := []) (s_Co_weightOf l z ad E M x1 x3 r8 hL g8) hx hb hml hown hts w_1132 w_1129 w_1131 w_s_b275fa w_8 md_759e51 ⟨Nat.le_of_ble_eq_true rfl, Nat.le_of_ble_eq_true rfl⟩ hG hZ hP hD hS hA 179 (wv_o (ci := 3) (yi_179 hL) (yt_179 hL)) rfl rfl rfl hl.1 rfl (Nat.le_of_ble_eq_true rfl) d_5_7_68 ⟨Nat.le_of_ble_eq_true rfl, Nat.le_of_ble_eq_true rfl⟩ (fun _ H locs hP hD hS => ?_)
      have hP : va_P z.1 classes (wv z ad E M) H := hP
      have hD : va_D A (wv z ad E M) := hD
      obtain ⟨h_r8, h⟩ := ck_e h
      refine W.eq (g2 := F0 m 71 ls [.ref (ad r8)]) rfl ?_
      refine lv_aload_n hx hb d_5_7_71 rfl (lv_at hl 0 rfl) ?_
      refine m_gr (j := 185) (C := "Ballothall$Counting") (T := TX3) (N := 15) (ci := 3) (k := 7) hx hb hts iX3 hown hG hP (yi_179 hL) (yt_179 hL) rfl (by decide) w_310 (fun _ h9 => h9) rfl rfl (yr_179_7 hL) d_5_7_72 ?_
      obtain ⟨M9, g9, h⟩ := bd_e h
      refine kVN (As := [.ref (ad 185)]) (rest := []) (s_Na_add l z ad E M r8 185 M9 hL g9) hx hb hml hown hts w_630 n_627 w_629 w_s_f38dc3 w_9 md_c50573 ⟨Nat.le_of_ble_eq_true rfl, Nat.le_of_ble_eq_true rfl⟩ hG hZ hP hD hS hA r8 (wv_o (ci := 8) (isNa_i h_r8) (isNa_T h_r8)) rfl rfl rfl hl.1 rfl (Nat.le_of_ble_eq_true rfl) d_5_7_75 ⟨Nat.le_of_ble_eq_true rfl, Nat.le_of_ble_eq_true rfl⟩ (fun _ H locs hP hD hS => ?_)
      have hP : va_P z.1 classes (wv z ad E M9) H := hP
      have hD : va_D A (wv z ad E M9) := hD
      refine W.eq (g2 := F0 m 78 ls []) rfl ?_
      refine lv_aload_n hx hb d_5_7_78 rfl (lv_at hl 0 rfl) ?_
      refine m_gr (j := 182) (C := "Ballothall$Counting") (T := TX3) (N := 15) (ci := 3) (k := 5) hx hb hts iX3 hown hG hP (yi_179 hL) (yt_179 hL) rfl (by decide) w_308 (fun _ h9 => h9) rfl rfl (yr_179_5 hL) d_5_7_79 ?_
      refine lv_iload_n hx hb d_5_7_82 rfl (lv_at hl 3 rfl) ?_
      obtain ⟨ok10, h⟩ := ck_e h
      refine m_aa (k := (201 + 2 * x3.toNat)) (t := 5) (C := "Ballothall$Natural") hx hb hG hP (yi_182 hL) (yt_182 hL) rfl rfl ok10 (ya_182 hL (inb_lt ok10)) d_5_7_83 ?_
      refine lv_aload_n hx hb d_5_7_84 rfl (lv_at hl 0 rfl) ?_
      refine m_gr (j := 185) (C := "Ballothall$Counting") (T := TX3) (N := 15) (ci := 3) (k := 7) hx hb hts iX3 hown hG hP (yi_179 hL) (yt_179 hL) rfl (by decide) w_310 (fun _ h9 => h9) rfl rfl (yr_179_7 hL) d_5_7_85 ?_
      obtain ⟨M11, g11, h⟩ := bd_e h
      refine kVN (As := [.ref (ad 185)]) (rest := []) (s_Na_add l z ad E M9 (201 + 2 * x3.toNat) 185 M11 hL g11) hx hb hml hown hts w_630 n_627 w_629 w_s_f38dc3 w_9 md_c50573 ⟨Nat.le_of_ble_eq_true rfl, Nat.le_of_ble_eq_true rfl⟩ hG hZ hP hD hS hA (201 + 2 * x3.toNat) (wv_o (ci := 8) (isNa_i (yg_182 hL ok10)) (isNa_T (yg_182 hL ok10))) rfl rfl rfl hl.1 rfl (Nat.le_of_ble_eq_true rfl) d_5_7_88 ⟨Nat.le_of_ble_eq_true rfl, Nat.le_of_ble_eq_true rfl⟩ (fun _ H locs hP hD hS => ?_)
      have hP : va_P z.1 classes (wv z ad E M11) H := hP
      have hD : va_D A (wv z ad E M11) := hD
      refine W.eq (g2 := F0 m 91 ls []) rfl ?_
      refine lv_iinc (v := oI (x3 + 1)) (lv' := [(3, .int (oI (x3 + 1))), (0, .ref (ad 179)), (1, .int (oI x1)), (2, .int (oI x2))]) hx hb d_5_7_91 hl (k := 3) rfl (oI_add x3 1) (by decide) rfl (fun ls hl => ?_)
      refine lv_goto (tgt := 46) hx hb d_5_7_94 (by decide) ?_
      obtain ⟨rfl, rfl, rfl⟩ := in3 h
      exact k0 rfl H locs ls hP hD hS (lv_sub hl [1, 2, 3, 0] rfl)
set_option maxRecDepth 100000 in
set_option maxHeartbeats 4000000 in
theorem s_Co_passOn_46 (l : Launch) (z : Zz) (ad : Nat → Nat) (E : Ev) (x1 : Int) (x2 : Int) {Q : State → Prop} {p : Program} {e : Env} {s : State} {m : MethodId} {below : List Frame} {meth : Method} {c : Code} {A : Nat → Prop} {args : Array Value} (hx : p.tables.exec = Jvm.exec) (hb : c.code = prog_5_method_7_code) (hml : c.maxLocals = 4) (hts : ∀ w ∈ WG, w.before args s = true) (hown : s.vm.findClass "Ballothall$Counting" = some m.cls) (hlocks : meth.locks = false) (hA : ∀ q, s.heap.size ≤ q → A q) (hG : KG z s) (hZ : FZ z A s) (hL : Lay E) : ∀ (fu : Nat) (M : Mm) (x3 : Int) (t : Nat) (w3 : Int) (N : Mm), l_Co_passOn_46 E x1 x2 fu M x3 = some (t, w3, N) → (t = 1 → ∀ (H : Heap) (locs : List Loc) (ls : Array Slot), va_P z.1 classes (wv z ad E N) H → va_D A (wv z ad E N) → va_S A s.heap H locs → lv_has ls 4 [] → W p l e (rmK 3 87 0 0) s m args below meth c H locs 0 0 Q (F0 m 97 ls [])) → ∀ (H : Heap) (locs : List Loc) (ls : Array Slot), va_P z.1 classes (wv z ad E M) H → va_D A (wv z ad E M) → va_S A s.heap H locs → lv_has ls 4 [(0, .ref (ad 179)), (1, .int (oI x1)), (2, .int (oI x2)), (3, .int (oI x3))] → W p l e (rmK 3 87 0 0) s m args below meth c H locs 0 0 Q (F0 m 46 ls []) := by
  intro fu
  induction fu with
  | zero =>
    intro M x3 t w3 N h
    have h : (none : Option (Nat × Int × Mm)) = some _ := h
    cases h
  | succ fu ih =>
    intro M x3 t w3 N h k1 H locs ls hP hD hS hl
    obtain ⟨⟨t0, w30, N9⟩, g0, h⟩ := bd_e h
    refine b_Co_passOn_46b l z ad E M x1 x2 x3 t0 w30 N9 hx hb hml hts hown hlocks hA hG hZ hL g0 (fun e0 => ?_) (fun e0 => ?_) H locs ls hP hD hS hl
    · subst e0
      have h := ite_t rfl h
      exact ih N9 w30 t w3 N h k1
    · subst e0
      have h := ite_f (by decide) h
      obtain ⟨rfl, rfl, rfl⟩ := in3 h
      exact k1 rfl
set_option maxRecDepth 100000 in
set_option maxHeartbeats 4000000 in
theorem s_Co_passOn (l : Launch) (z : Zz) (ad : Nat → Nat) (E : Ev) (M : Mm) (x1 : Int) (N : Mm) (hL : Lay E) (h : f_Co_passOn E M x1 = some N) : CT l z ⟨"Ballothall$Counting", "passOn", "(I)V"⟩ prog_5_method_7_code 4 none [.ref (ad 179), .int (oI x1)] (wv z ad E M) 3 87 0 0 (fun _ => none) (fun _ => (wv z ad E N)) := by
  refine CT.of (own := "Ballothall$Counting") (by decide +kernel) (Nat.le_of_ble_eq_true rfl) rfl (fun p e s m below meth c A ls hx hb hml hr hts hown hlocks hin hA hG hZ hP hD hS hl => ?_)
  have hl : lv_has ls 4 [(0, .ref (ad 179)), (1, .int (oI x1))] := hl
  have key : ∀ (H : Heap) (locs : List Loc) (args : Array Value), (∀ w ∈ WG, w.before args s = true) → va_P z.1 classes (wv z ad E M) H → va_S A s.heap H locs → W p l e (rmK 3 87 0 0) s m args below meth c H locs 0 0 (MQ below (QK z A (fun _ => none) (fun _ => (wv z ad E N))) args s 0 0 A) (F0 m 0 ls []) := by
    intro H locs args hts hP hS
    unfold f_Co_passOn at h
    refine lv_aload_n hx hb d_5_7_0 rfl (lv_at hl 0 rfl) ?_
    refine m_gr (j := 2) (C := "Ballothall$Counting") (T := TX3) (N := 15) (ci := 3) (k := 0) hx hb hts iX3 hown hG hP (yi_179 hL) (yt_179 hL) rfl (by decide) w_303 (fun _ h9 => h9) rfl rfl (yr_179_0 hL) d_5_7_1 ?_
    refine lv_iload_n hx hb d_5_7_4 rfl (lv_at hl 1 rfl) ?_
    refine lv_aload_n hx hb d_5_7_5 rfl (lv_at hl 0 rfl) ?_
    refine m_gi (C := "Ballothall$Counting") (T := TX3) (N := 15) (ci := 3) (k := 3) hx hb hts iX3 hown hG hP (yi_179 hL) (yt_179 hL) rfl (by decide) w_306 (fun _ h9 => h9) rfl rfl d_5_7_6 ?_
    obtain ⟨r0, g0, h⟩ := bd_e h
    refine kVN (As := [.int (oI x1), .int (oI (M 179 3))]) (rest := []) (s_Bx_topOf l z ad E M x1 (M 179 3) r0 hL g0) hx hb hml hown hts w_685 n_1137 w_684 w_s_b213f0 w_2 md_ddec8b ⟨Nat.le_of_ble_eq_true rfl, Nat.le_of_ble_eq_true rfl⟩ hG hZ hP hD hS hA 2 (wv_o (ci := 0) (yi_2 hL) (yt_2 hL)) rfl rfl rfl hl.1 rfl (Nat.le_of_ble_eq_true rfl) d_5_7_9 ⟨Nat.le_of_ble_eq_true rfl, Nat.le_of_ble_eq_true rfl⟩ (fun _ H locs hP hD hS => ?_)
    have hP : va_P z.1 classes (wv z ad E M) H := hP
    have hD : va_D A (wv z ad E M) := hD
    refine W.eq (g2 := F0 m 12 ls [.int (oI r0)]) rfl ?_
    refine lv_istore_n (lv' := [(2, .int (oI r0)), (0, .ref (ad 179)), (1, .int (oI x1))]) hx hb d_5_7_12 rfl hl (by decide) rfl (fun ls hl => ?_)
    refine lv_iload_n hx hb d_5_7_13 rfl (lv_at hl 0 rfl) ?_
    obtain ⟨ok1, h⟩ := ck_e h
    refine lv_if_ne (tgt := 32) hx hb d_5_7_14 (by decide) (fun c9 => ?_) (fun c9 => ?_)
    · have h := ite_f (fun q => c9 ((oI_eq0 ok1).mpr q)) h
      refine lv_aload_n hx hb d_5_7_32 rfl (lv_at hl 1 rfl) ?_
      refine m_gr (j := 185) (C := "Ballothall$Counting") (T := TX3) (N := 15) (ci := 3) (k := 7) hx hb hts iX3 hown hG hP (yi_179 hL) (yt_179 hL) rfl (by decide) w_310 (fun _ h9 => h9) rfl rfl (yr_179_7 hL) d_5_7_33 ?_
      refine lv_iload_n hx hb d_5_7_36 rfl (lv_at hl 0 rfl) ?_
      obtain ⟨r2, g2, h⟩ := bd_e h
      refine kS (As := [.int (oI r0)]) (rest := [.ref (ad 185)]) (s_In_bitCount l z ad E M r0 r2 hL g2) hx hb hml hown hts w_657 w_1138 w_656 w_30 md_eafe8c ⟨Nat.le_of_ble_eq_true rfl, Nat.le_of_ble_eq_true rfl⟩ hG hZ hP hD hS hA rfl hl.1 rfl (Nat.le_of_ble_eq_true rfl) d_5_7_37 ⟨Nat.le_of_ble_eq_true rfl, Nat.le_of_ble_eq_true rfl⟩ (fun _ H locs hP hD hS => ?_)
      have hP : va_P z.1 classes (wv z ad E M) H := hP
      have hD : va_D A (wv z ad E M) := hD
      refine W.eq (g2 := F0 m 40 ls [.int (oI r2), .ref (ad 185)]) rfl ?_
      obtain ⟨⟨r3, M3⟩, g3, h⟩ := bd_e h
      refine kVN (As := [.int (oI r2)]) (rest := []) (s_Na_divideSmall l z ad E M 185 r2 r3 M3 hL g3) hx hb hml hown hts w_1142 n_1139 w_1141 w_s_b783c0 w_9 md_e931a9 ⟨Nat.le_of_ble_eq_true rfl, Nat.le_of_ble_eq_true rfl⟩ hG hZ hP hD hS hA 185 (wv_o (ci := 8) (yi_185 hL) (yt_185 hL)) rfl rfl rfl hl.1 rfl (Nat.le_of_ble_eq_true rfl) d_5_7_40 ⟨Nat.le_of_ble_eq_true rfl, Nat.le_of_ble_eq_true rfl⟩ (fun _ H locs hP hD hS => ?_)
      have hP : va_P z.1 classes (wv z ad E M3) H := hP
      have hD : va_D A (wv z ad E M3) := hD
      refine W.eq (g2 := F0 m 43 ls [.int (oI r3)]) rfl ?_
      refine lv_pop hx hb d_5_7_43 rfl ?_
      refine lv_iconst (v := oI 0) hx hb d_5_7_44 (by decide +kernel) ?_
      refine lv_istore_n (lv' := [(3, .int (oI 0)), (2, .int (oI r0)), (0, .ref (ad 179)), (1, .int (oI x1))]) hx hb d_5_7_45 rfl hl (by decide) rfl (fun ls hl => ?_)
      obtain ⟨⟨t12, v12_3, M12⟩, g12, h⟩ := bd_e h
      obtain ⟨ok12, h⟩ := ck_e h
      refine s_Co_passOn_46 l z ad E x1 r0 hx hb hml hts hown hlocks hA hG hZ hL FU M3 0 t12 v12_3 M12 g12 (fun e12 H locs ls hP hD hS hl => ?_) H locs ls hP hD hS (lv_sub hl [2, 3, 1, 0] rfl)
      obtain rfl := in1 h
      exact W.vret hx hb hr (fun t ht hW => qkA hP hD hS (fun k => k) rfl rfl ht) hS.2.2 d_5_7_97
    · have h := ite_t ((oI_eq0 ok1).mp c9) h
      refine lv_aload_n hx hb d_5_7_17 rfl (lv_at hl 1 rfl) ?_
      refine m_gr (j := 182) (C := "Ballothall$Counting") (T := TX3) (N := 15) (ci := 3) (k := 5) hx hb hts iX3 hown hG hP (yi_179 hL) (yt_179 hL) rfl (by decide) w_308 (fun _ h9 => h9) rfl rfl (yr_179_5 hL) d_5_7_18 ?_
      refine lv_bipush (v := oI 8) hx hb d_5_7_21 (by decide +kernel) ?_
      refine m_aa (k := 217) (t := 5) (C := "Ballothall$Natural") hx hb hG hP (yi_182 hL) (yt_182 hL) rfl rfl (by decide +kernel) ((ya_182 hL (by decide +kernel)).trans (by decide +kernel)) d_5_7_23 ?_
      refine lv_aload_n hx hb d_5_7_24 rfl (lv_at hl 1 rfl) ?_
      refine m_gr (j := 185) (C := "Ballothall$Counting") (T := TX3) (N := 15) (ci := 3) (k := 7) hx hb hts iX3 hown hG hP (yi_179 hL) (yt_179 hL) rfl (by decide) w_310 (fun _ h9 => h9) rfl rfl (yr_179_7 hL) d_5_7_25 ?_
      obtain ⟨M13, g13, h⟩ := bd_e h
      refine kVN (As := [.ref (ad 185)]) (rest := []) (s_Na_add l z ad E M 217 185 M13 hL g13) hx hb hml hown hts w_630 n_627 w_629 w_s_f38dc3 w_9 md_c50573 ⟨Nat.le_of_ble_eq_true rfl, Nat.le_of_ble_eq_true rfl⟩ hG hZ hP hD hS hA 217 (wv_o (ci := 8) (yi_217 hL) (yt_217 hL)) rfl rfl rfl hl.1 rfl (Nat.le_of_ble_eq_true rfl) d_5_7_28 ⟨Nat.le_of_ble_eq_true rfl, Nat.le_of_ble_eq_true rfl⟩ (fun _ H locs hP hD hS => ?_)
      have hP : va_P z.1 classes (wv z ad E M13) H := hP
      have hD : va_D A (wv z ad E M13) := hD
      refine W.eq (g2 := F0 m 31 ls []) rfl ?_
      obtain rfl := in1 h
      exact W.vret hx hb hr (fun t ht hW => qkA hP hD hS (fun k => k) rfl rfl ht) hS.2.2 d_5_7_31
  exact key _ _ _ hts hP hS
set_option maxRecDepth 100000 in
set_option maxHeartbeats 4000000 in
theorem b_Co_exclude_55b (l : Launch) (z : Zz) (ad : Nat → Nat) (E : Ev) (M : Mm) (q1 : Nat) (x2 : Int) (x3 : Int) (t : Nat) (w3 : Int) (N : Mm) {Q : State → Prop} {p : Program} {e : Env} {s : State} {m : MethodId} {below : List Frame} {meth : Method} {c : Code} {A : Nat → Prop} {args : Array Value} (hx : p.tables.exec = Jvm.exec) (hb : c.code = prog_5_method_14_code) (hml : c.maxLocals = 4) (hts : ∀ w ∈ WG, w.before args s = true) (hown : s.vm.findClass "Ballothall$Counting" = some m.cls) (hlocks : meth.locks = false) (hA : ∀ q, s.heap.size ≤ q → A q) (hG : KG z s) (hZ : FZ z A s) (hL : Lay E) (h : Co_exclude_55b E M q1 x2 x3 = some (t, w3, N)) (k0 : t = 0 → ∀ (H : Heap) (locs : List Loc) (ls : Array Slot), va_P z.1 classes (wv z ad E N) H → va_D A (wv z ad E N) → va_S A s.heap H locs → lv_has ls 4 [(0, .ref (ad 179)), (1, .ref (ad q1)), (2, .int (oI x2)), (3, .int (oI w3))] → W p l e (rmK 4 110 0 0) s m args below meth c H locs 0 0 Q (F0 m 55 ls [])) (k1 : t = 1 → ∀ (H : Heap) (locs : List Loc) (ls : Array Slot), va_P z.1 classes (wv z ad E N) H → va_D A (wv z ad E N) → va_S A s.heap H locs → lv_has ls 4 [] → W p l e (rmK 4 110 0 0) s m args below meth c H locs 0 0 Q (F0 m 87 ls [])) : ∀ (H : Heap) (locs : List Loc) (ls : Array Slot), va_P z.1 classes (wv z ad E M) H → va_D A (wv z ad E M) → va_S A s.heap H locs → lv_has ls 4 [(0, .ref (ad 179)), (1, .ref (ad q1)), (2, .int (oI x2)), (3, .int (oI x3))] → W p l e (rmK 4 110 0 0) s m args below meth c H locs 0 0 Q (F0 m 55 ls []) := by
  intro H locs ls hP hD hS hl
  unfold Co_exclude_55b at h
  obtain ⟨h_q1, h⟩ := ck_e h
  refine lv_iload_n hx hb d_5_14_55 rfl (lv_at hl 3 rfl) ?_
  refine lv_aload_n hx hb d_5_14_56 rfl (lv_at hl 1 rfl) ?_
  refine m_giN (C := "Ballothall$Count") (T := TX2) (N := 10) (ci := 2) (k := 2) hx hb hts iX2 hown hG hP (isCt_i h_q1) (isCt_T h_q1) rfl (by decide) n_1083 rfl (fun _ h9 => h9) rfl rfl d_5_14_57 ?_
  obtain ⟨ok6, h⟩ := ck_e h
  obtain ⟨ok7, h⟩ := ck_e h
  refine lv_icmp_ge (tgt := 87) hx hb d_5_14_60 (by decide) (fun c9 => ?_) (fun c9 => ?_)
  · have h := ite_t ((oI_le (a := (M q1 2)) (b := x3) ok7 ok6).mp c9) h
    obtain ⟨rfl, rfl, rfl⟩ := in3 h
    exact k1 rfl H locs ls hP hD hS (lv_sub hl [] rfl)
  · have h := ite_f (fun q => c9 ((oI_le (a := (M q1 2)) (b := x3) ok7 ok6).mpr q)) h
    refine lv_aload_n hx hb d_5_14_63 rfl (lv_at hl 0 rfl) ?_
    refine m_gr (j := 185) (C := "Ballothall$Counting") (T := TX3) (N := 15) (ci := 3) (k := 7) hx hb hts iX3 hown hG hP (yi_179 hL) (yt_179 hL) rfl (by decide) w_310 (fun _ h9 => h9) rfl rfl (yr_179_7 hL) d_5_14_64 ?_
    refine lv_aload_n hx hb d_5_14_67 rfl (lv_at hl 0 rfl) ?_
    refine lv_iload_n hx hb d_5_14_68 rfl (lv_at hl 3 rfl) ?_
    refine lv_iload_n hx hb d_5_14_69 rfl (lv_at hl 2 rfl) ?_
    obtain ⟨r8, g8, h⟩ := bd_e h
    refine kV (As := [.int (oI x3), .int (oI x2)]) (rest := [.ref (ad 185)]) (s_Co_weightOf l z ad E M x3 x2 r8 hL g8) hx hb hml hown hts w_1132 w_1129 w_1131 w_s_b275fa w_8 md_759e51 ⟨Nat.le_of_ble_eq_true rfl, Nat.le_of_ble_eq_true rfl⟩ hG hZ hP hD hS hA 179 (wv_o (ci := 3) (yi_179 hL) (yt_179 hL)) rfl rfl rfl hl.1 rfl (Nat.le_of_ble_eq_true rfl) d_5_14_70 ⟨Nat.le_of_ble_eq_true rfl, Nat.le_of_ble_eq_true rfl⟩ (fun _ H locs hP hD hS => ?_)
    have hP : va_P z.1 classes (wv z ad E M) H := hP
    have hD : va_D A (wv z ad E M) := hD
    obtain ⟨h_r8, h⟩ := ck_e h
    refine W.eq (g2 := F0 m 73 ls [.ref (ad r8), .ref (ad 185)]) rfl ?_
    obtain ⟨M9, g9, h⟩ := bd_e h
    refine kVN (As := [.ref (ad r8)]) (rest := []) (s_Na_copyFrom l z ad E M 185 r8 M9 hL g9) hx hb hml hown hts w_1175 n_1172 w_1174 w_s_8c9b61 w_9 md_68420c ⟨Nat.le_of_ble_eq_true rfl, Nat.le_of_ble_eq_true rfl⟩ hG hZ hP hD hS hA 185 (wv_o (ci := 8) (yi_185 hL) (yt_185 hL)) rfl rfl rfl hl.1 rfl (Nat.le_of_ble_eq_true rfl) d_5_14_73 ⟨Nat.le_of_ble_eq_true rfl, Nat.le_of_ble_eq_true rfl⟩ (fun _ H locs hP hD hS => ?_)
    have hP : va_P z.1 classes (wv z ad E M9) H := hP
    have hD : va_D A (wv z ad E M9) := hD
    refine W.eq (g2 := F0 m 76 ls []) rfl ?_
    refine lv_aload_n hx hb d_5_14_76 rfl (lv_at hl 0 rfl) ?_
    refine lv_iload_n hx hb d_5_14_77 rfl (lv_at hl 3 rfl) ?_
    obtain ⟨M10, g10, h⟩ := bd_e h
    refine kV (As := [.int (oI x3)]) (rest := []) (s_Co_passOn l z ad E M9 x3 M10 hL g10) hx hb hml hown hts w_1136 w_1133 w_1135 w_s_6bacc3 w_8 md_774b9e ⟨Nat.le_of_ble_eq_true rfl, Nat.le_of_ble_eq_true rfl⟩ hG hZ hP hD hS hA 179 (wv_o (ci := 3) (yi_179 hL) (yt_179 hL)) rfl rfl rfl hl.1 rfl (Nat.le_of_ble_eq_true rfl) d_5_14_78 ⟨Nat.le_of_ble_eq_true rfl, Nat.le_of_ble_eq_true rfl⟩ (fun _ H locs hP hD hS => ?_)
    have hP : va_P z.1 classes (wv z ad E M10) H := hP
    have hD : va_D A (wv z ad E M10) := hD
    refine W.eq (g2 := F0 m 81 ls []) rfl ?_
    refine lv_iinc (v := oI (x3 + 1)) (lv' := [(3, .int (oI (x3 + 1))), (0, .ref (ad 179)), (1, .ref (ad q1)), (2, .int (oI x2))]) hx hb d_5_14_81 hl (k := 3) rfl (oI_add x3 1) (by decide) rfl (fun ls hl => ?_)
    refine lv_goto (tgt := 55) hx hb d_5_14_84 (by decide) ?_
    obtain ⟨rfl, rfl, rfl⟩ := in3 h
    exact k0 rfl H locs ls hP hD hS (lv_sub hl [1, 2, 3, 0] rfl)
set_option maxRecDepth 100000 in
set_option maxHeartbeats 4000000 in
theorem s_Co_exclude_55 (l : Launch) (z : Zz) (ad : Nat → Nat) (E : Ev) (q1 : Nat) (x2 : Int) {Q : State → Prop} {p : Program} {e : Env} {s : State} {m : MethodId} {below : List Frame} {meth : Method} {c : Code} {A : Nat → Prop} {args : Array Value} (hx : p.tables.exec = Jvm.exec) (hb : c.code = prog_5_method_14_code) (hml : c.maxLocals = 4) (hts : ∀ w ∈ WG, w.before args s = true) (hown : s.vm.findClass "Ballothall$Counting" = some m.cls) (hlocks : meth.locks = false) (hA : ∀ q, s.heap.size ≤ q → A q) (hG : KG z s) (hZ : FZ z A s) (hL : Lay E) : ∀ (fu : Nat) (M : Mm) (x3 : Int) (t : Nat) (w3 : Int) (N : Mm), l_Co_exclude_55 E q1 x2 fu M x3 = some (t, w3, N) → (t = 1 → ∀ (H : Heap) (locs : List Loc) (ls : Array Slot), va_P z.1 classes (wv z ad E N) H → va_D A (wv z ad E N) → va_S A s.heap H locs → lv_has ls 4 [] → W p l e (rmK 4 110 0 0) s m args below meth c H locs 0 0 Q (F0 m 87 ls [])) → ∀ (H : Heap) (locs : List Loc) (ls : Array Slot), va_P z.1 classes (wv z ad E M) H → va_D A (wv z ad E M) → va_S A s.heap H locs → lv_has ls 4 [(0, .ref (ad 179)), (1, .ref (ad q1)), (2, .int (oI x2)), (3, .int (oI x3))] → W p l e (rmK 4 110 0 0) s m args below meth c H locs 0 0 Q (F0 m 55 ls []) := by
  intro fu
  induction fu with
  | zero =>
    intro M x3 t w3 N h
    have h : (none : Option (Nat × Int × Mm)) = some _ := h
    cases h
  | succ fu ih =>
    intro M x3 t w3 N h k1 H locs ls hP hD hS hl
    obtain ⟨⟨t0, w30, N9⟩, g0, h⟩ := bd_e h
    refine b_Co_exclude_55b l z ad E M q1 x2 x3 t0 w30 N9 hx hb hml hts hown hlocks hA hG hZ hL g0 (fun e0 => ?_) (fun e0 => ?_) H locs ls hP hD hS hl
    · subst e0
      have h := ite_t rfl h
      exact ih N9 w30 t w3 N h k1
    · subst e0
      have h := ite_f (by decide) h
      obtain ⟨rfl, rfl, rfl⟩ := in3 h
      exact k1 rfl
set_option maxRecDepth 100000 in
set_option maxHeartbeats 4000000 in
theorem b_Co_exclude_j43 (l : Launch) (z : Zz) (ad : Nat → Nat) (E : Ev) (M : Mm) (q1 : Nat) (x2 : Int) (N : Mm) {p : Program} {e : Env} {s : State} {m : MethodId} {below : List Frame} {meth : Method} {c : Code} {A : Nat → Prop} {args : Array Value} (hx : p.tables.exec = Jvm.exec) (hb : c.code = prog_5_method_14_code) (hml : c.maxLocals = 4) (hts : ∀ w ∈ WG, w.before args s = true) (hown : s.vm.findClass "Ballothall$Counting" = some m.cls) (hlocks : meth.locks = false) (hA : ∀ q, s.heap.size ≤ q → A q) (hG : KG z s) (hZ : FZ z A s) (hL : Lay E) (hr : meth.sig.returnType = none) (h : Co_exclude_j43 E M q1 x2 = some N) : ∀ (H : Heap) (locs : List Loc) (ls : Array Slot), va_P z.1 classes (wv z ad E M) H → va_D A (wv z ad E M) → va_S A s.heap H locs → lv_has ls 4 [(0, .ref (ad 179)), (1, .ref (ad q1)), (2, .int (oI x2))] → W p l e (rmK 4 110 0 0) s m args below meth c H locs 0 0 (MQ below (QK z A (fun _ => none) (fun _ => (wv z ad E N))) args s 0 0 A) (F0 m 43 ls []) := by
  intro H locs ls hP hD hS hl
  unfold Co_exclude_j43 at h
  obtain ⟨h_q1, h⟩ := ck_e h
  refine lv_aload_n hx hb d_5_14_43 rfl (lv_at hl 0 rfl) ?_
  refine m_gr (j := 182) (C := "Ballothall$Counting") (T := TX3) (N := 15) (ci := 3) (k := 5) hx hb hts iX3 hown hG hP (yi_179 hL) (yt_179 hL) rfl (by decide) w_308 (fun _ h9 => h9) rfl rfl (yr_179_5 hL) d_5_14_44 ?_
  refine lv_iload_n hx hb d_5_14_47 rfl (lv_at hl 2 rfl) ?_
  obtain ⟨ok4, h⟩ := ck_e h
  refine m_aa (k := (201 + 2 * x2.toNat)) (t := 5) (C := "Ballothall$Natural") hx hb hG hP (yi_182 hL) (yt_182 hL) rfl rfl ok4 (ya_182 hL (inb_lt ok4)) d_5_14_48 ?_
  refine lv_lconst (v := oJ 0) hx hb d_5_14_49 (by decide +kernel) ?_
  obtain ⟨M5, g5, h⟩ := bd_e h
  refine kVN (As := [.long (oJ 0)]) (rest := []) (s_Na_become l z ad E M (201 + 2 * x2.toNat) 0 M5 hL g5) hx hb hml hown hts w_604 n_601 w_603 w_s_5a2a50 w_9 md_34308f ⟨Nat.le_of_ble_eq_true rfl, Nat.le_of_ble_eq_true rfl⟩ hG hZ hP hD hS hA (201 + 2 * x2.toNat) (wv_o (ci := 8) (isNa_i (yg_182 hL ok4)) (isNa_T (yg_182 hL ok4))) rfl rfl rfl hl.1 rfl (Nat.le_of_ble_eq_true rfl) d_5_14_50 ⟨Nat.le_of_ble_eq_true rfl, Nat.le_of_ble_eq_true rfl⟩ (fun _ H locs hP hD hS => ?_)
  have hP : va_P z.1 classes (wv z ad E M5) H := hP
  have hD : va_D A (wv z ad E M5) := hD
  refine W.eq (g2 := F0 m 53 ls []) rfl ?_
  refine lv_iconst (v := oI 0) hx hb d_5_14_53 (by decide +kernel) ?_
  refine lv_istore_n (lv' := [(3, .int (oI 0)), (0, .ref (ad 179)), (1, .ref (ad q1)), (2, .int (oI x2))]) hx hb d_5_14_54 rfl hl (by decide) rfl (fun ls hl => ?_)
  obtain ⟨⟨t11, v11_3, M11⟩, g11, h⟩ := bd_e h
  obtain ⟨ok11, h⟩ := ck_e h
  refine s_Co_exclude_55 l z ad E q1 x2 hx hb hml hts hown hlocks hA hG hZ hL FU M5 0 t11 v11_3 M11 g11 (fun e11 H locs ls hP hD hS hl => ?_) H locs ls hP hD hS (lv_sub hl [1, 2, 3, 0] rfl)
  obtain rfl := in1 h
  exact W.vret hx hb hr (fun t ht hW => qkA hP hD hS (fun k => k) rfl rfl ht) hS.2.2 d_5_14_87
set_option maxRecDepth 100000 in
set_option maxHeartbeats 4000000 in
theorem s_Co_exclude (l : Launch) (z : Zz) (ad : Nat → Nat) (E : Ev) (M : Mm) (p1 : Nat) (x2 : Int) (N : Mm) (hL : Lay E) (h : f_Co_exclude E M p1 x2 = some N) : CT l z ⟨"Ballothall$Counting", "exclude", "(LBallothall$Count;I)V"⟩ prog_5_method_14_code 4 none [.ref (ad 179), .ref (ad p1), .int (oI x2)] (wv z ad E M) 4 110 0 0 (fun _ => none) (fun _ => (wv z ad E N)) := by
  refine CT.of (own := "Ballothall$Counting") (by decide +kernel) (Nat.le_of_ble_eq_true rfl) rfl (fun p e s m below meth c A ls hx hb hml hr hts hown hlocks hin hA hG hZ hP hD hS hl => ?_)
  have hl : lv_has ls 4 [(0, .ref (ad 179)), (1, .ref (ad p1)), (2, .int (oI x2))] := hl
  have key : ∀ (H : Heap) (locs : List Loc) (args : Array Value), (∀ w ∈ WG, w.before args s = true) → va_P z.1 classes (wv z ad E M) H → va_S A s.heap H locs → W p l e (rmK 4 110 0 0) s m args below meth c H locs 0 0 (MQ below (QK z A (fun _ => none) (fun _ => (wv z ad E N))) args s 0 0 A) (F0 m 0 ls []) := by
    intro H locs args hts hP hS
    unfold f_Co_exclude at h
    obtain ⟨h_p1, h⟩ := ck_e h
    refine lv_aload_n hx hb d_5_14_0 rfl (lv_at hl 0 rfl) ?_
    refine lv_dup hx hb d_5_14_1 rfl ?_
    refine m_gi (C := "Ballothall$Counting") (T := TX3) (N := 15) (ci := 3) (k := 3) hx hb hts iX3 hown hG hP (yi_179 hL) (yt_179 hL) rfl (by decide) w_306 (fun _ h9 => h9) rfl rfl d_5_14_2 ?_
    refine lv_iconst (v := oI 1) hx hb d_5_14_5 (by decide +kernel) ?_
    refine lv_iload_n hx hb d_5_14_6 rfl (lv_at hl 2 rfl) ?_
    obtain ⟨ok0, h⟩ := ck_e h
    refine lv_ishl hx hb d_5_14_7 ?_
    refine nrm (oI_one_shl ok0) ?_
    refine lv_iconst (v := oI (-1)) hx hb d_5_14_8 (by decide +kernel) ?_
    refine lv_ixor hx hb d_5_14_9 ?_
    refine nrm (oI_not _) ?_
    obtain ⟨ok1, h⟩ := ck_e h
    obtain ⟨ok2, h⟩ := ck_e h
    refine lv_iand hx hb d_5_14_10 ?_
    refine nrm (oI_dif ok1.1 ok1.2 ok2.1 ok2.2) ?_
    refine m_pi (C := "Ballothall$Counting") (T := TX3) (N := 15) (ci := 3) (k := 3) (ty := .int) hx hb hts iX3 hown hG hP hD hS (yi_179 hL) (yt_179 hL) rfl (by decide) w_306 (fun _ h9 => h9) rfl rfl tyX3_ok nmX3 rfl (by decide +kernel) rfl rfl d_5_14_11 (fun H locs hP hD hS => ?_)
    have hP : va_P z.1 classes (wv z ad E (u2 M 179 3 (dfI (M 179 3) (2 ^ x2.toNat)))) H := hP
    have hD : va_D A (wv z ad E (u2 M 179 3 (dfI (M 179 3) (2 ^ x2.toNat)))) := hD
    refine lv_aload_n hx hb d_5_14_14 rfl (lv_at hl 1 rfl) ?_
    refine m_giN (C := "Ballothall$Count") (T := TX2) (N := 10) (ci := 2) (k := 5) hx hb hts iX2 hown hG hP (isCt_i h_p1) (isCt_T h_p1) rfl (by decide) n_1088 rfl (fun _ h9 => h9) rfl rfl d_5_14_15 ?_
    refine lv_bipush (v := oI 8) hx hb d_5_14_18 (by decide +kernel) ?_
    obtain ⟨ok3, h⟩ := ck_e h
    refine lv_icmp_ge (tgt := 43) hx hb d_5_14_20 (by decide) (fun c9 => ?_) (fun c9 => ?_)
    · have h := ite_t ((oI_le (a := (8 : Int)) (b := ((u2 M 179 3 (dfI (M 179 3) (2 ^ x2.toNat))) p1 5)) (by decide) ok3).mp c9) h
      exact b_Co_exclude_j43 l z ad E (u2 M 179 3 (dfI (M 179 3) (2 ^ x2.toNat))) p1 x2 N hx hb hml hts hown hlocks hA hG hZ hL hr h H locs ls hP hD hS (lv_sub hl [0, 1, 2] rfl)
    · have h := ite_f (fun q => c9 ((oI_le (a := (8 : Int)) (b := ((u2 M 179 3 (dfI (M 179 3) (2 ^ x2.toNat))) p1 5)) (by decide) ok3).mpr q)) h
      refine lv_aload_n hx hb d_5_14_23 rfl (lv_at hl 1 rfl) ?_
      refine m_grN (j := (p1 + 3)) (C := "Ballothall$Count") (T := TX2) (N := 10) (ci := 2) (k := 8) hx hb hts iX2 hown hG hP (isCt_i h_p1) (isCt_T h_p1) rfl (by decide) n_1097 rfl (fun _ h9 => h9) rfl rfl (isCt_r8 h_p1) d_5_14_24 ?_
      refine lv_aload_n hx hb d_5_14_27 rfl (lv_at hl 1 rfl) ?_
      refine m_giN (C := "Ballothall$Count") (T := TX2) (N := 10) (ci := 2) (k := 5) hx hb hts iX2 hown hG hP (isCt_i h_p1) (isCt_T h_p1) rfl (by decide) n_1088 rfl (fun _ h9 => h9) rfl rfl d_5_14_28 ?_
      refine lv_iload_n hx hb d_5_14_31 rfl (lv_at hl 2 rfl) ?_
      obtain ⟨ok12, h⟩ := ck_e h
      refine m_is hx hb hG hP hD hS (isCt_i3 h_p1) (isCt_t3 h_p1) ok12 d_5_14_32 (fun H locs hP hD hS => ?_)
      have hP : va_P z.1 classes (wv z ad E (u2 (u2 M 179 3 (dfI (M 179 3) (2 ^ x2.toNat))) (p1 + 3) ((u2 M 179 3 (dfI (M 179 3) (2 ^ x2.toNat))) p1 5).toNat x2)) H := hP
      have hD : va_D A (wv z ad E (u2 (u2 M 179 3 (dfI (M 179 3) (2 ^ x2.toNat))) (p1 + 3) ((u2 M 179 3 (dfI (M 179 3) (2 ^ x2.toNat))) p1 5).toNat x2)) := hD
      obtain ⟨M13, e13, h⟩ := nb_e h
      rw [← e13] at hP hD
      refine lv_aload_n hx hb d_5_14_33 rfl (lv_at hl 1 rfl) ?_
      refine lv_dup hx hb d_5_14_34 rfl ?_
      refine m_giN (C := "Ballothall$Count") (T := TX2) (N := 10) (ci := 2) (k := 5) hx hb hts iX2 hown hG hP (isCt_i h_p1) (isCt_T h_p1) rfl (by decide) n_1088 rfl (fun _ h9 => h9) rfl rfl d_5_14_35 ?_
      refine lv_iconst (v := oI 1) hx hb d_5_14_38 (by decide +kernel) ?_
      refine lv_iadd hx hb d_5_14_39 ?_
      refine nrm (oI_add _ _) ?_
      refine m_piN (C := "Ballothall$Count") (T := TX2) (N := 10) (ci := 2) (k := 5) (ty := .int) hx hb hts iX2 hown hG hP hD hS (isCt_i h_p1) (isCt_T h_p1) rfl (by decide) n_1088 rfl (fun _ h9 => h9) rfl rfl tyX2_ok nmX2 rfl (by decide +kernel) rfl rfl d_5_14_40 (fun H locs hP hD hS => ?_)
      have hP : va_P z.1 classes (wv z ad E (u2 M13 p1 5 ((M13 p1 5) + 1))) H := hP
      have hD : va_D A (wv z ad E (u2 M13 p1 5 ((M13 p1 5) + 1))) := hD
      exact b_Co_exclude_j43 l z ad E (u2 M13 p1 5 ((M13 p1 5) + 1)) p1 x2 N hx hb hml hts hown hlocks hA hG hZ hL hr h H locs ls hP hD hS (lv_sub hl [0, 1, 2] rfl)
  exact key _ _ _ hts hP hS
set_option maxRecDepth 100000 in
set_option maxHeartbeats 4000000 in
theorem s_Co_isAhead (l : Launch) (z : Zz) (ad : Nat → Nat) (E : Ev) (M : Mm) (x1 : Int) (x2 : Int) (r : Int)  (hL : Lay E) (h : f_Co_isAhead E M x1 x2 = some r) : CT l z ⟨"Ballothall$Counting", "isAhead", "(II)Z"⟩ prog_5_method_12_code 4 (some .boolean) [.ref (ad 179), .int (oI x1), .int (oI x2)] (wv z ad E M) 2 63 0 0 (fun _ => some (.int (oI r))) (fun _ => (wv z ad E M)) := by
  refine CT.of (own := "Ballothall$Counting") (by decide +kernel) (Nat.le_of_ble_eq_true rfl) rfl (fun p e s m below meth c A ls hx hb hml hr hts hown hlocks hin hA hG hZ hP hD hS hl => ?_)
  have hl : lv_has ls 4 [(0, .ref (ad 179)), (1, .int (oI x1)), (2, .int (oI x2))] := hl
  have key : ∀ (H : Heap) (locs : List Loc) (args : Array Value), (∀ w ∈ WG, w.before args s = true) → va_P z.1 classes (wv z ad E M) H → va_S A s.heap H locs → W p l e (rmK 2 63 0 0) s m args below meth c H locs 0 0 (MQ below (QK z A (fun _ => some (.int (oI r))) (fun _ => (wv z ad E M))) args s 0 0 A) (F0 m 0 ls []) := by
    intro H locs args hts hP hS
    unfold f_Co_isAhead at h
    refine lv_aload_n hx hb d_5_12_0 rfl (lv_at hl 0 rfl) ?_
    refine m_gr (j := 182) (C := "Ballothall$Counting") (T := TX3) (N := 15) (ci := 3) (k := 5) hx hb hts iX3 hown hG hP (yi_179 hL) (yt_179 hL) rfl (by decide) w_308 (fun _ h9 => h9) rfl rfl (yr_179_5 hL) d_5_12_1 ?_
    refine lv_iload_n hx hb d_5_12_4 rfl (lv_at hl 1 rfl) ?_
    obtain ⟨ok0, h⟩ := ck_e h
    refine m_aa (k := (201 + 2 * x1.toNat)) (t := 5) (C := "Ballothall$Natural") hx hb hG hP (yi_182 hL) (yt_182 hL) rfl rfl ok0 (ya_182 hL (inb_lt ok0)) d_5_12_5 ?_
    refine lv_aload_n hx hb d_5_12_6 rfl (lv_at hl 0 rfl) ?_
    refine m_gr (j := 182) (C := "Ballothall$Counting") (T := TX3) (N := 15) (ci := 3) (k := 5) hx hb hts iX3 hown hG hP (yi_179 hL) (yt_179 hL) rfl (by decide) w_308 (fun _ h9 => h9) rfl rfl (yr_179_5 hL) d_5_12_7 ?_
    refine lv_iload_n hx hb d_5_12_10 rfl (lv_at hl 2 rfl) ?_
    obtain ⟨ok1, h⟩ := ck_e h
    refine m_aa (k := (201 + 2 * x2.toNat)) (t := 5) (C := "Ballothall$Natural") hx hb hG hP (yi_182 hL) (yt_182 hL) rfl rfl ok1 (ya_182 hL (inb_lt ok1)) d_5_12_11 ?_
    obtain ⟨r2, g2, h⟩ := bd_e h
    refine kVN (As := [.ref (ad (201 + 2 * x2.toNat))]) (rest := []) (s_Na_compareWith l z ad E M (201 + 2 * x1.toNat) (201 + 2 * x2.toNat) r2 hL g2) hx hb hml hown hts w_646 n_643 w_645 w_s_c7eea3 w_9 md_c6b535 ⟨Nat.le_of_ble_eq_true rfl, Nat.le_of_ble_eq_true rfl⟩ hG hZ hP hD hS hA (201 + 2 * x1.toNat) (wv_o (ci := 8) (isNa_i (yg_182 hL ok0)) (isNa_T (yg_182 hL ok0))) rfl rfl rfl hl.1 rfl (Nat.le_of_ble_eq_true rfl) d_5_12_12 ⟨Nat.le_of_ble_eq_true rfl, Nat.le_of_ble_eq_true rfl⟩ (fun _ H locs hP hD hS => ?_)
    have hP : va_P z.1 classes (wv z ad E M) H := hP
    have hD : va_D A (wv z ad E M) := hD
    refine W.eq (g2 := F0 m 15 ls [.int (oI r2)]) rfl ?_
    refine lv_istore_n (lv' := [(3, .int (oI r2)), (0, .ref (ad 179)), (1, .int (oI x1)), (2, .int (oI x2))]) hx hb d_5_12_15 rfl hl (by decide) rfl (fun ls hl => ?_)
    refine lv_iload_n hx hb d_5_12_16 rfl (lv_at hl 0 rfl) ?_
    obtain ⟨ok3, h⟩ := ck_e h
    refine lv_if_gt (tgt := 36) hx hb d_5_12_17 (by decide) (fun c9 => ?_) (fun c9 => ?_)
    · have h := ite_t ((oI_gt0 ok3).mp c9) h
      refine lv_iconst (v := oI 1) hx hb d_5_12_36 (by decide +kernel) ?_
      refine lv_goto (tgt := 41) hx hb d_5_12_37 (by decide) ?_
      obtain rfl := in1 h
      exact W.zret hx hb hr rfl (fun t ht hW => qkA hP hD hS (fun k => k) rfl rfl ht) hS.2.2 d_5_12_41
    · have h := ite_f (fun q => c9 ((oI_gt0 ok3).mpr q)) h
      refine lv_iload_n hx hb d_5_12_20 rfl (lv_at hl 0 rfl) ?_
      refine lv_if_ne (tgt := 40) hx hb d_5_12_21 (by decide) (fun c9 => ?_) (fun c9 => ?_)
      · have h := ite_f (fun q => c9 ((oI_eq0 ok3).mpr q)) h
        refine lv_iconst (v := oI 0) hx hb d_5_12_40 (by decide +kernel) ?_
        obtain rfl := in1 h
        exact W.zret hx hb hr rfl (fun t ht hW => qkA hP hD hS (fun k => k) rfl rfl ht) hS.2.2 d_5_12_41
      · have h := ite_t ((oI_eq0 ok3).mp c9) h
        refine lv_aload_n hx hb d_5_12_24 rfl (lv_at hl 1 rfl) ?_
        refine m_gr (j := 2) (C := "Ballothall$Counting") (T := TX3) (N := 15) (ci := 3) (k := 0) hx hb hts iX3 hown hG hP (yi_179 hL) (yt_179 hL) rfl (by decide) w_303 (fun _ h9 => h9) rfl rfl (yr_179_0 hL) d_5_12_25 ?_
        refine lv_iload_n hx hb d_5_12_28 rfl (lv_at hl 2 rfl) ?_
        refine lv_iload_n hx hb d_5_12_29 rfl (lv_at hl 3 rfl) ?_
        obtain ⟨r4, g4, h⟩ := bd_e h
        refine kVN (As := [.int (oI x1), .int (oI x2)]) (rest := []) (s_Bx_winsLot l z ad E M x1 x2 r4 hL g4) hx hb hml hown hts w_1163 n_1160 w_1162 w_s_85fec9 w_2 md_aa27a3 ⟨Nat.le_of_ble_eq_true rfl, Nat.le_of_ble_eq_true rfl⟩ hG hZ hP hD hS hA 2 (wv_o (ci := 0) (yi_2 hL) (yt_2 hL)) rfl rfl rfl hl.1 rfl (Nat.le_of_ble_eq_true rfl) d_5_12_30 ⟨Nat.le_of_ble_eq_true rfl, Nat.le_of_ble_eq_true rfl⟩ (fun _ H locs hP hD hS => ?_)
        have hP : va_P z.1 classes (wv z ad E M) H := hP
        have hD : va_D A (wv z ad E M) := hD
        refine W.eq (g2 := F0 m 33 ls [.int (oI r4)]) rfl ?_
        obtain ⟨ok5, h⟩ := ck_e h
        refine lv_if_eq (tgt := 40) hx hb d_5_12_33 (by decide) (fun c9 => ?_) (fun c9 => ?_)
        · have h := ite_t ((oI_eq0 ok5).mp c9) h
          refine lv_iconst (v := oI 0) hx hb d_5_12_40 (by decide +kernel) ?_
          obtain rfl := in1 h
          exact W.zret hx hb hr rfl (fun t ht hW => qkA hP hD hS (fun k => k) rfl rfl ht) hS.2.2 d_5_12_41
        · have h := ite_f (fun q => c9 ((oI_eq0 ok5).mpr q)) h
          refine lv_iconst (v := oI 1) hx hb d_5_12_36 (by decide +kernel) ?_
          refine lv_goto (tgt := 41) hx hb d_5_12_37 (by decide) ?_
          obtain rfl := in1 h
          exact W.zret hx hb hr rfl (fun t ht hW => qkA hP hD hS (fun k => k) rfl rfl ht) hS.2.2 d_5_12_41
  exact key _ _ _ hts hP hS
set_option maxRecDepth 100000 in
set_option maxHeartbeats 4000000 in
theorem b_Co_greatestPile_4b (l : Launch) (z : Zz) (ad : Nat → Nat) (E : Ev) (M : Mm) (x1 : Int) (x2 : Int) (t : Nat) (w1 : Int) (w2 : Int)  {Q : State → Prop} {p : Program} {e : Env} {s : State} {m : MethodId} {below : List Frame} {meth : Method} {c : Code} {A : Nat → Prop} {args : Array Value} (hx : p.tables.exec = Jvm.exec) (hb : c.code = prog_5_method_10_code) (hml : c.maxLocals = 3) (hts : ∀ w ∈ WG, w.before args s = true) (hown : s.vm.findClass "Ballothall$Counting" = some m.cls) (hlocks : meth.locks = false) (hA : ∀ q, s.heap.size ≤ q → A q) (hG : KG z s) (hZ : FZ z A s) (hL : Lay E) (h : Co_greatestPile_4b E M x1 x2 = some (t, w1, w2)) (k0 : t = 0 → ∀ (H : Heap) (locs : List Loc) (ls : Array Slot), va_P z.1 classes (wv z ad E M) H → va_D A (wv z ad E M) → va_S A s.heap H locs → lv_has ls 3 [(0, .ref (ad 179)), (1, .int (oI w1)), (2, .int (oI w2))] → W p l e (rmK 3 86 0 0) s m args below meth c H locs 0 0 Q (F0 m 4 ls [])) (k1 : t = 1 → ∀ (H : Heap) (locs : List Loc) (ls : Array Slot), va_P z.1 classes (wv z ad E M) H → va_D A (wv z ad E M) → va_S A s.heap H locs → lv_has ls 3 [(1, .int (oI w1))] → W p l e (rmK 3 86 0 0) s m args below meth c H locs 0 0 Q (F0 m 48 ls [])) : ∀ (H : Heap) (locs : List Loc) (ls : Array Slot), va_P z.1 classes (wv z ad E M) H → va_D A (wv z ad E M) → va_S A s.heap H locs → lv_has ls 3 [(0, .ref (ad 179)), (1, .int (oI x1)), (2, .int (oI x2))] → W p l e (rmK 3 86 0 0) s m args below meth c H locs 0 0 Q (F0 m 4 ls []) := by
  intro H locs ls hP hD hS hl
  unfold Co_greatestPile_4b at h
  refine lv_iload_n hx hb d_5_10_4 rfl (lv_at hl 2 rfl) ?_
  refine lv_aload_n hx hb d_5_10_5 rfl (lv_at hl 0 rfl) ?_
  refine m_gr (j := 2) (C := "Ballothall$Counting") (T := TX3) (N := 15) (ci := 3) (k := 0) hx hb hts iX3 hown hG hP (yi_179 hL) (yt_179 hL) rfl (by decide) w_303 (fun _ h9 => h9) rfl rfl (yr_179_0 hL) d_5_10_6 ?_
  refine m_giN (C := "Ballothall$BallotBox") (T := TX0) (N := 10) (ci := 0) (k := 2) hx hb hts iX0 hown hG hP (yi_2 hL) (yt_2 hL) rfl (by decide) n_55 rfl (fun _ h9 => h9) rfl rfl d_5_10_9 ?_
  obtain ⟨ok0, h⟩ := ck_e h
  obtain ⟨ok1, h⟩ := ck_e h
  refine lv_icmp_ge (tgt := 48) hx hb d_5_10_12 (by decide) (fun c9 => ?_) (fun c9 => ?_)
  · have h := ite_t ((oI_le (a := (M 2 2)) (b := x2) ok1 ok0).mp c9) h
    obtain ⟨rfl, rfl, rfl⟩ := in3 h
    exact k1 rfl H locs ls hP hD hS (lv_sub hl [1] rfl)
  · have h := ite_f (fun q => c9 ((oI_le (a := (M 2 2)) (b := x2) ok1 ok0).mpr q)) h
    refine lv_aload_n hx hb d_5_10_15 rfl (lv_at hl 0 rfl) ?_
    refine m_gi (C := "Ballothall$Counting") (T := TX3) (N := 15) (ci := 3) (k := 3) hx hb hts iX3 hown hG hP (yi_179 hL) (yt_179 hL) rfl (by decide) w_306 (fun _ h9 => h9) rfl rfl d_5_10_16 ?_
    refine lv_iload_n hx hb d_5_10_19 rfl (lv_at hl 2 rfl) ?_
    obtain ⟨r2, g2, h⟩ := bd_e h
    refine kSN (As := [.int (oI (M 179 3)), .int (oI x2)]) (rest := []) (s_B_has l z ad E M (M 179 3) x2 r2 hL g2) hx hb hml hown hts w_693 n_1143 w_692 w_1 md_26545c ⟨Nat.le_of_ble_eq_true rfl, Nat.le_of_ble_eq_true rfl⟩ hG hZ hP hD hS hA rfl hl.1 rfl (Nat.le_of_ble_eq_true rfl) d_5_10_20 ⟨Nat.le_of_ble_eq_true rfl, Nat.le_of_ble_eq_true rfl⟩ (fun _ H locs hP hD hS => ?_)
    have hP : va_P z.1 classes (wv z ad E M) H := hP
    have hD : va_D A (wv z ad E M) := hD
    refine W.eq (g2 := F0 m 23 ls [.int (oI r2)]) rfl ?_
    obtain ⟨ok3, h⟩ := ck_e h
    refine lv_if_eq (tgt := 42) hx hb d_5_10_23 (by decide) (fun c9 => ?_) (fun c9 => ?_)
    · have h := ite_t ((oI_eq0 ok3).mp c9) h
      refine lv_iinc (v := oI (x2 + 1)) (lv' := [(2, .int (oI (x2 + 1))), (0, .ref (ad 179)), (1, .int (oI x1))]) hx hb d_5_10_42 hl (k := 2) rfl (oI_add x2 1) (by decide) rfl (fun ls hl => ?_)
      refine lv_goto (tgt := 4) hx hb d_5_10_45 (by decide) ?_
      obtain ⟨rfl, rfl, rfl⟩ := in3 h
      exact k0 rfl H locs ls hP hD hS (lv_sub hl [1, 2, 0] rfl)
    · have h := ite_f (fun q => c9 ((oI_eq0 ok3).mpr q)) h
      refine lv_iload_n hx hb d_5_10_26 rfl (lv_at hl 1 rfl) ?_
      refine lv_iconst (v := oI (-1)) hx hb d_5_10_27 (by decide +kernel) ?_
      obtain ⟨ok4, h⟩ := ck_e h
      refine lv_icmp_eq (tgt := 40) hx hb d_5_10_28 (by decide) (fun c9 => ?_) (fun c9 => ?_)
      · have h := ite_t ((oI_eq (a := x1) (b := (-1 : Int)) ok4 (by decide)).mp c9) h
        refine lv_iload_n hx hb d_5_10_40 rfl (lv_at hl 2 rfl) ?_
        refine lv_istore_n (lv' := [(1, .int (oI x2)), (0, .ref (ad 179)), (2, .int (oI x2))]) hx hb d_5_10_41 rfl hl (by decide) rfl (fun ls hl => ?_)
        refine lv_iinc (v := oI (x2 + 1)) (lv' := [(2, .int (oI (x2 + 1))), (1, .int (oI x2)), (0, .ref (ad 179))]) hx hb d_5_10_42 hl (k := 2) rfl (oI_add x2 1) (by decide) rfl (fun ls hl => ?_)
        refine lv_goto (tgt := 4) hx hb d_5_10_45 (by decide) ?_
        obtain ⟨rfl, rfl, rfl⟩ := in3 h
        exact k0 rfl H locs ls hP hD hS (lv_sub hl [2, 1, 0] rfl)
      · have h := ite_f (fun q => c9 ((oI_eq (a := x1) (b := (-1 : Int)) ok4 (by decide)).mpr q)) h
        refine lv_aload_n hx hb d_5_10_31 rfl (lv_at hl 0 rfl) ?_
        refine lv_iload_n hx hb d_5_10_32 rfl (lv_at hl 2 rfl) ?_
        refine lv_iload_n hx hb d_5_10_33 rfl (lv_at hl 1 rfl) ?_
        obtain ⟨r5, g5, h⟩ := bd_e h
        refine kV (As := [.int (oI x2), .int (oI x1)]) (rest := []) (s_Co_isAhead l z ad E M x2 x1 r5 hL g5) hx hb hml hown hts w_1159 w_1156 w_1158 w_s_1c537b w_8 md_e91d6f ⟨Nat.le_of_ble_eq_true rfl, Nat.le_of_ble_eq_true rfl⟩ hG hZ hP hD hS hA 179 (wv_o (ci := 3) (yi_179 hL) (yt_179 hL)) rfl rfl rfl hl.1 rfl (Nat.le_of_ble_eq_true rfl) d_5_10_34 ⟨Nat.le_of_ble_eq_true rfl, Nat.le_of_ble_eq_true rfl⟩ (fun _ H locs hP hD hS => ?_)
        have hP : va_P z.1 classes (wv z ad E M) H := hP
        have hD : va_D A (wv z ad E M) := hD
        refine W.eq (g2 := F0 m 37 ls [.int (oI r5)]) rfl ?_
        obtain ⟨ok6, h⟩ := ck_e h
        refine lv_if_eq (tgt := 42) hx hb d_5_10_37 (by decide) (fun c9 => ?_) (fun c9 => ?_)
        · have h := ite_t ((oI_eq0 ok6).mp c9) h
          refine lv_iinc (v := oI (x2 + 1)) (lv' := [(2, .int (oI (x2 + 1))), (0, .ref (ad 179)), (1, .int (oI x1))]) hx hb d_5_10_42 hl (k := 2) rfl (oI_add x2 1) (by decide) rfl (fun ls hl => ?_)
          refine lv_goto (tgt := 4) hx hb d_5_10_45 (by decide) ?_
          obtain ⟨rfl, rfl, rfl⟩ := in3 h
          exact k0 rfl H locs ls hP hD hS (lv_sub hl [1, 2, 0] rfl)
        · have h := ite_f (fun q => c9 ((oI_eq0 ok6).mpr q)) h
          refine lv_iload_n hx hb d_5_10_40 rfl (lv_at hl 2 rfl) ?_
          refine lv_istore_n (lv' := [(1, .int (oI x2)), (0, .ref (ad 179)), (2, .int (oI x2))]) hx hb d_5_10_41 rfl hl (by decide) rfl (fun ls hl => ?_)
          refine lv_iinc (v := oI (x2 + 1)) (lv' := [(2, .int (oI (x2 + 1))), (1, .int (oI x2)), (0, .ref (ad 179))]) hx hb d_5_10_42 hl (k := 2) rfl (oI_add x2 1) (by decide) rfl (fun ls hl => ?_)
          refine lv_goto (tgt := 4) hx hb d_5_10_45 (by decide) ?_
          obtain ⟨rfl, rfl, rfl⟩ := in3 h
          exact k0 rfl H locs ls hP hD hS (lv_sub hl [2, 1, 0] rfl)
set_option maxRecDepth 100000 in
set_option maxHeartbeats 4000000 in
theorem s_Co_greatestPile_4 (l : Launch) (z : Zz) (ad : Nat → Nat) (E : Ev) {Q : State → Prop} {p : Program} {e : Env} {s : State} {m : MethodId} {below : List Frame} {meth : Method} {c : Code} {A : Nat → Prop} {args : Array Value} (hx : p.tables.exec = Jvm.exec) (hb : c.code = prog_5_method_10_code) (hml : c.maxLocals = 3) (hts : ∀ w ∈ WG, w.before args s = true) (hown : s.vm.findClass "Ballothall$Counting" = some m.cls) (hlocks : meth.locks = false) (hA : ∀ q, s.heap.size ≤ q → A q) (hG : KG z s) (hZ : FZ z A s) (hL : Lay E) : ∀ (fu : Nat) (M : Mm) (x1 : Int) (x2 : Int) (t : Nat) (w1 : Int) (w2 : Int), l_Co_greatestPile_4 E fu M x1 x2 = some (t, w1, w2) → (t = 1 → ∀ (H : Heap) (locs : List Loc) (ls : Array Slot), va_P z.1 classes (wv z ad E M) H → va_D A (wv z ad E M) → va_S A s.heap H locs → lv_has ls 3 [(1, .int (oI w1))] → W p l e (rmK 3 86 0 0) s m args below meth c H locs 0 0 Q (F0 m 48 ls [])) → ∀ (H : Heap) (locs : List Loc) (ls : Array Slot), va_P z.1 classes (wv z ad E M) H → va_D A (wv z ad E M) → va_S A s.heap H locs → lv_has ls 3 [(0, .ref (ad 179)), (1, .int (oI x1)), (2, .int (oI x2))] → W p l e (rmK 3 86 0 0) s m args below meth c H locs 0 0 Q (F0 m 4 ls []) := by
  intro fu
  induction fu with
  | zero =>
    intro M x1 x2 t w1 w2 h
    have h : (none : Option (Nat × Int × Int)) = some _ := h
    cases h
  | succ fu ih =>
    intro M x1 x2 t w1 w2 h k1 H locs ls hP hD hS hl
    obtain ⟨⟨t0, w10, w20⟩, g0, h⟩ := bd_e h
    refine b_Co_greatestPile_4b l z ad E M x1 x2 t0 w10 w20 hx hb hml hts hown hlocks hA hG hZ hL g0 (fun e0 => ?_) (fun e0 => ?_) H locs ls hP hD hS hl
    · subst e0
      have h := ite_t rfl h
      exact ih M w10 w20 t w1 w2 h k1
    · subst e0
      have h := ite_f (by decide) h
      obtain ⟨rfl, rfl, rfl⟩ := in3 h
      exact k1 rfl
set_option maxRecDepth 100000 in
set_option maxHeartbeats 4000000 in
theorem s_Co_greatestPile (l : Launch) (z : Zz) (ad : Nat → Nat) (E : Ev) (M : Mm) (r : Int)  (hL : Lay E) (h : f_Co_greatestPile E M = some r) : CT l z ⟨"Ballothall$Counting", "greatestPile", "()I"⟩ prog_5_method_10_code 3 (some .int) [.ref (ad 179)] (wv z ad E M) 3 86 0 0 (fun _ => some (.int (oI r))) (fun _ => (wv z ad E M)) := by
  refine CT.of (own := "Ballothall$Counting") (by decide +kernel) (Nat.le_of_ble_eq_true rfl) rfl (fun p e s m below meth c A ls hx hb hml hr hts hown hlocks hin hA hG hZ hP hD hS hl => ?_)
  have hl : lv_has ls 3 [(0, .ref (ad 179))] := hl
  have key : ∀ (H : Heap) (locs : List Loc) (args : Array Value), (∀ w ∈ WG, w.before args s = true) → va_P z.1 classes (wv z ad E M) H → va_S A s.heap H locs → W p l e (rmK 3 86 0 0) s m args below meth c H locs 0 0 (MQ below (QK z A (fun _ => some (.int (oI r))) (fun _ => (wv z ad E M))) args s 0 0 A) (F0 m 0 ls []) := by
    intro H locs args hts hP hS
    unfold f_Co_greatestPile at h
    refine lv_iconst (v := oI (-1)) hx hb d_5_10_0 (by decide +kernel) ?_
    refine lv_istore_n (lv' := [(1, .int (oI (-1))), (0, .ref (ad 179))]) hx hb d_5_10_1 rfl hl (by decide) rfl (fun ls hl => ?_)
    refine lv_iconst (v := oI 0) hx hb d_5_10_2 (by decide +kernel) ?_
    refine lv_istore_n (lv' := [(2, .int (oI 0)), (1, .int (oI (-1))), (0, .ref (ad 179))]) hx hb d_5_10_3 rfl hl (by decide) rfl (fun ls hl => ?_)
    obtain ⟨⟨t7, v7_1, v7_2⟩, g7, h⟩ := bd_e h
    obtain ⟨ok7, h⟩ := ck_e h
    refine s_Co_greatestPile_4 l z ad E hx hb hml hts hown hlocks hA hG hZ hL FU M (-1) 0 t7 v7_1 v7_2 g7 (fun e7 H locs ls hP hD hS hl => ?_) H locs ls hP hD hS (lv_sub hl [2, 1, 0] rfl)
    refine lv_iload_n hx hb d_5_10_48 rfl (lv_at hl 0 rfl) ?_
    obtain rfl := in1 h
    exact W.iret hx hb hr (fun t ht hW => qkA hP hD hS (fun k => k) rfl rfl ht) hS.2.2 d_5_10_49
  exact key _ _ _ hts hP hS
set_option maxRecDepth 100000 in
set_option maxHeartbeats 4000000 in
theorem b_Na_store_2b (l : Launch) (z : Zz) (ad : Nat → Nat) (E : Ev) (M : Mm) (q0 : Nat) (q1 : Nat) (x2 : Int) (x3 : Int) (t : Nat) (w3 : Int) (N : Mm) {Q : State → Prop} {p : Program} {e : Env} {s : State} {m : MethodId} {below : List Frame} {meth : Method} {c : Code} {A : Nat → Prop} {args : Array Value} (hx : p.tables.exec = Jvm.exec) (hb : c.code = prog_10_method_4_code) (hml : c.maxLocals = 4) (hts : ∀ w ∈ WG, w.before args s = true) (hown : s.vm.findClass "Ballothall$Natural" = some m.cls) (hlocks : meth.locks = false) (hA : ∀ q, s.heap.size ≤ q → A q) (hG : KG z s) (hZ : FZ z A s) (hL : Lay E) (h : Na_store_2b E M q0 q1 x2 x3 = some (t, w3, N)) (k0 : t = 0 → ∀ (H : Heap) (locs : List Loc) (ls : Array Slot), va_P z.1 classes (wv z ad E N) H → va_D A (wv z ad E N) → va_S A s.heap H locs → lv_has ls 4 [(0, .ref (ad q0)), (1, .ref (ad q1)), (2, .int (oI x2)), (3, .int (oI w3))] → W p l e (rmK 1 41 0 0) s m args below meth c H locs 0 0 Q (F0 m 2 ls [])) (k1 : t = 1 → ∀ (H : Heap) (locs : List Loc) (ls : Array Slot), va_P z.1 classes (wv z ad E N) H → va_D A (wv z ad E N) → va_S A s.heap H locs → lv_has ls 4 [] → W p l e (rmK 1 41 0 0) s m args below meth c H locs 0 0 Q (F0 m 24 ls [])) : ∀ (H : Heap) (locs : List Loc) (ls : Array Slot), va_P z.1 classes (wv z ad E M) H → va_D A (wv z ad E M) → va_S A s.heap H locs → lv_has ls 4 [(0, .ref (ad q0)), (1, .ref (ad q1)), (2, .int (oI x2)), (3, .int (oI x3))] → W p l e (rmK 1 41 0 0) s m args below meth c H locs 0 0 Q (F0 m 2 ls []) := by
  intro H locs ls hP hD hS hl
  unfold Na_store_2b at h
  obtain ⟨h_q0, h⟩ := ck_e h
  obtain ⟨h_q1, h⟩ := ck_e h
  refine lv_iload_n hx hb d_10_4_2 rfl (lv_at hl 3 rfl) ?_
  refine lv_bipush (v := oI 13) hx hb d_10_4_3 (by decide +kernel) ?_
  obtain ⟨ok0, h⟩ := ck_e h
  refine lv_icmp_ge (tgt := 24) hx hb d_10_4_5 (by decide) (fun c9 => ?_) (fun c9 => ?_)
  · have h := ite_t ((oI_le (a := (13 : Int)) (b := x3) (by decide) ok0).mp c9) h
    obtain ⟨rfl, rfl, rfl⟩ := in3 h
    exact k1 rfl H locs ls hP hD hS (lv_sub hl [] rfl)
  · have h := ite_f (fun q => c9 ((oI_le (a := (13 : Int)) (b := x3) (by decide) ok0).mpr q)) h
    refine lv_aload_n hx hb d_10_4_8 rfl (lv_at hl 1 rfl) ?_
    refine lv_iload_n hx hb d_10_4_9 rfl (lv_at hl 2 rfl) ?_
    refine lv_iload_n hx hb d_10_4_10 rfl (lv_at hl 3 rfl) ?_
    refine lv_iadd hx hb d_10_4_11 ?_
    refine nrm (oI_add _ _) ?_
    refine lv_aload_n hx hb d_10_4_12 rfl (lv_at hl 0 rfl) ?_
    refine lv_iload_n hx hb d_10_4_13 rfl (lv_at hl 3 rfl) ?_
    obtain ⟨r1, g1, h⟩ := bd_e h
    refine kV (As := [.int (oI x3)]) (rest := [.int (oI (x2 + x3)), .ref (ad q1)]) (s_Na_limbAt l z ad E M q0 x3 r1 hL g1) hx hb hml hown hts w_637 w_634 w_636 w_s_21c489 w_9 md_149093 ⟨Nat.le_of_ble_eq_true rfl, Nat.le_of_ble_eq_true rfl⟩ hG hZ hP hD hS hA q0 (wv_o (ci := 8) (isNa_i h_q0) (isNa_T h_q0)) rfl rfl rfl hl.1 rfl (Nat.le_of_ble_eq_true rfl) d_10_4_14 ⟨Nat.le_of_ble_eq_true rfl, Nat.le_of_ble_eq_true rfl⟩ (fun _ H locs hP hD hS => ?_)
    have hP : va_P z.1 classes (wv z ad E M) H := hP
    have hD : va_D A (wv z ad E M) := hD
    refine W.eq (g2 := F0 m 17 ls [.int (oI r1), .int (oI (x2 + x3)), .ref (ad q1)]) rfl ?_
    obtain ⟨ok2, h⟩ := ck_e h
    refine m_is hx hb hG hP hD hS h_q1.1 (isIA_T h_q1) ok2 d_10_4_17 (fun H locs hP hD hS => ?_)
    have hP : va_P z.1 classes (wv z ad E (u2 M q1 (x2 + x3).toNat r1)) H := hP
    have hD : va_D A (wv z ad E (u2 M q1 (x2 + x3).toNat r1)) := hD
    refine lv_iinc (v := oI (x3 + 1)) (lv' := [(3, .int (oI (x3 + 1))), (0, .ref (ad q0)), (1, .ref (ad q1)), (2, .int (oI x2))]) hx hb d_10_4_18 hl (k := 3) rfl (oI_add x3 1) (by decide) rfl (fun ls hl => ?_)
    refine lv_goto (tgt := 2) hx hb d_10_4_21 (by decide) ?_
    obtain ⟨rfl, rfl, rfl⟩ := in3 h
    exact k0 rfl H locs ls hP hD hS (lv_sub hl [1, 2, 3, 0] rfl)
set_option maxRecDepth 100000 in
set_option maxHeartbeats 4000000 in
theorem s_Na_store_2 (l : Launch) (z : Zz) (ad : Nat → Nat) (E : Ev) (q0 : Nat) (q1 : Nat) (x2 : Int) {Q : State → Prop} {p : Program} {e : Env} {s : State} {m : MethodId} {below : List Frame} {meth : Method} {c : Code} {A : Nat → Prop} {args : Array Value} (hx : p.tables.exec = Jvm.exec) (hb : c.code = prog_10_method_4_code) (hml : c.maxLocals = 4) (hts : ∀ w ∈ WG, w.before args s = true) (hown : s.vm.findClass "Ballothall$Natural" = some m.cls) (hlocks : meth.locks = false) (hA : ∀ q, s.heap.size ≤ q → A q) (hG : KG z s) (hZ : FZ z A s) (hL : Lay E) : ∀ (fu : Nat) (M : Mm) (x3 : Int) (t : Nat) (w3 : Int) (N : Mm), l_Na_store_2 E q0 q1 x2 fu M x3 = some (t, w3, N) → (t = 1 → ∀ (H : Heap) (locs : List Loc) (ls : Array Slot), va_P z.1 classes (wv z ad E N) H → va_D A (wv z ad E N) → va_S A s.heap H locs → lv_has ls 4 [] → W p l e (rmK 1 41 0 0) s m args below meth c H locs 0 0 Q (F0 m 24 ls [])) → ∀ (H : Heap) (locs : List Loc) (ls : Array Slot), va_P z.1 classes (wv z ad E M) H → va_D A (wv z ad E M) → va_S A s.heap H locs → lv_has ls 4 [(0, .ref (ad q0)), (1, .ref (ad q1)), (2, .int (oI x2)), (3, .int (oI x3))] → W p l e (rmK 1 41 0 0) s m args below meth c H locs 0 0 Q (F0 m 2 ls []) := by
  intro fu
  induction fu with
  | zero =>
    intro M x3 t w3 N h
    have h : (none : Option (Nat × Int × Mm)) = some _ := h
    cases h
  | succ fu ih =>
    intro M x3 t w3 N h k1 H locs ls hP hD hS hl
    obtain ⟨⟨t0, w30, N9⟩, g0, h⟩ := bd_e h
    refine b_Na_store_2b l z ad E M q0 q1 x2 x3 t0 w30 N9 hx hb hml hts hown hlocks hA hG hZ hL g0 (fun e0 => ?_) (fun e0 => ?_) H locs ls hP hD hS hl
    · subst e0
      have h := ite_t rfl h
      exact ih N9 w30 t w3 N h k1
    · subst e0
      have h := ite_f (by decide) h
      obtain ⟨rfl, rfl, rfl⟩ := in3 h
      exact k1 rfl
set_option maxRecDepth 100000 in
set_option maxHeartbeats 4000000 in
theorem s_Na_store (l : Launch) (z : Zz) (ad : Nat → Nat) (E : Ev) (M : Mm) (p0 : Nat) (p1 : Nat) (x2 : Int) (N : Mm) (hL : Lay E) (h : f_Na_store E M p0 p1 x2 = some N) : CT l z ⟨"Ballothall$Natural", "store", "([II)V"⟩ prog_10_method_4_code 4 none [.ref (ad p0), .ref (ad p1), .int (oI x2)] (wv z ad E M) 1 41 0 0 (fun _ => none) (fun _ => (wv z ad E N)) := by
  refine CT.of (own := "Ballothall$Natural") (by decide +kernel) (Nat.le_of_ble_eq_true rfl) rfl (fun p e s m below meth c A ls hx hb hml hr hts hown hlocks hin hA hG hZ hP hD hS hl => ?_)
  have hl : lv_has ls 4 [(0, .ref (ad p0)), (1, .ref (ad p1)), (2, .int (oI x2))] := hl
  have key : ∀ (H : Heap) (locs : List Loc) (args : Array Value), (∀ w ∈ WG, w.before args s = true) → va_P z.1 classes (wv z ad E M) H → va_S A s.heap H locs → W p l e (rmK 1 41 0 0) s m args below meth c H locs 0 0 (MQ below (QK z A (fun _ => none) (fun _ => (wv z ad E N))) args s 0 0 A) (F0 m 0 ls []) := by
    intro H locs args hts hP hS
    unfold f_Na_store at h
    obtain ⟨h_p0, h⟩ := ck_e h
    obtain ⟨h_p1, h⟩ := ck_e h
    refine lv_iconst (v := oI 0) hx hb d_10_4_0 (by decide +kernel) ?_
    refine lv_istore_n (lv' := [(3, .int (oI 0)), (0, .ref (ad p0)), (1, .ref (ad p1)), (2, .int (oI x2))]) hx hb d_10_4_1 rfl hl (by decide) rfl (fun ls hl => ?_)
    obtain ⟨⟨t3, v3_3, M3⟩, g3, h⟩ := bd_e h
    obtain ⟨ok3, h⟩ := ck_e h
    refine s_Na_store_2 l z ad E p0 p1 x2 hx hb hml hts hown hlocks hA hG hZ hL FU M 0 t3 v3_3 M3 g3 (fun e3 H locs ls hP hD hS hl => ?_) H locs ls hP hD hS (lv_sub hl [1, 2, 3, 0] rfl)
    obtain rfl := in1 h
    exact W.vret hx hb hr (fun t ht hW => qkA hP hD hS (fun k => k) rfl rfl ht) hS.2.2 d_10_4_24
  exact key _ _ _ hts hP hS
set_option maxRecDepth 100000 in
set_option maxHeartbeats 4000000 in
theorem b_Co_keepMoment_12b (l : Launch) (z : Zz) (ad : Nat → Nat) (E : Ev) (M : Mm) (q1 : Nat) (x2 : Int) (x3 : Int) (t : Nat) (w3 : Int) (N : Mm) {Q : State → Prop} {p : Program} {e : Env} {s : State} {m : MethodId} {below : List Frame} {meth : Method} {c : Code} {A : Nat → Prop} {args : Array Value} (hx : p.tables.exec = Jvm.exec) (hb : c.code = prog_5_method_8_code) (hml : c.maxLocals = 4) (hts : ∀ w ∈ WG, w.before args s = true) (hown : s.vm.findClass "Ballothall$Counting" = some m.cls) (hlocks : meth.locks = false) (hA : ∀ q, s.heap.size ≤ q → A q) (hG : KG z s) (hZ : FZ z A s) (hL : Lay E) (h : Co_keepMoment_12b E M q1 x2 x3 = some (t, w3, N)) (k0 : t = 0 → ∀ (H : Heap) (locs : List Loc) (ls : Array Slot), va_P z.1 classes (wv z ad E N) H → va_D A (wv z ad E N) → va_S A s.heap H locs → lv_has ls 4 [(0, .ref (ad 179)), (1, .ref (ad q1)), (2, .int (oI x2)), (3, .int (oI w3))] → W p l e (rmK 2 64 0 0) s m args below meth c H locs 0 0 Q (F0 m 12 ls [])) (k1 : t = 1 → ∀ (H : Heap) (locs : List Loc) (ls : Array Slot), va_P z.1 classes (wv z ad E N) H → va_D A (wv z ad E N) → va_S A s.heap H locs → lv_has ls 4 [(0, .ref (ad 179)), (1, .ref (ad q1)), (2, .int (oI x2))] → W p l e (rmK 2 64 0 0) s m args below meth c H locs 0 0 Q (F0 m 43 ls [])) : ∀ (H : Heap) (locs : List Loc) (ls : Array Slot), va_P z.1 classes (wv z ad E M) H → va_D A (wv z ad E M) → va_S A s.heap H locs → lv_has ls 4 [(0, .ref (ad 179)), (1, .ref (ad q1)), (2, .int (oI x2)), (3, .int (oI x3))] → W p l e (rmK 2 64 0 0) s m args below meth c H locs 0 0 Q (F0 m 12 ls []) := by
  intro H locs ls hP hD hS hl
  unfold Co_keepMoment_12b at h
  obtain ⟨h_q1, h⟩ := ck_e h
  refine lv_iload_n hx hb d_5_8_12 rfl (lv_at hl 3 rfl) ?_
  refine lv_bipush (v := oI 9) hx hb d_5_8_13 (by decide +kernel) ?_
  obtain ⟨ok0, h⟩ := ck_e h
  refine lv_icmp_ge (tgt := 43) hx hb d_5_8_15 (by decide) (fun c9 => ?_) (fun c9 => ?_)
  · have h := ite_t ((oI_le (a := (9 : Int)) (b := x3) (by decide) ok0).mp c9) h
    obtain ⟨rfl, rfl, rfl⟩ := in3 h
    exact k1 rfl H locs ls hP hD hS (lv_sub hl [0, 1, 2] rfl)
  · have h := ite_f (fun q => c9 ((oI_le (a := (9 : Int)) (b := x3) (by decide) ok0).mpr q)) h
    refine lv_aload_n hx hb d_5_8_18 rfl (lv_at hl 0 rfl) ?_
    refine m_gr (j := 182) (C := "Ballothall$Counting") (T := TX3) (N := 15) (ci := 3) (k := 5) hx hb hts iX3 hown hG hP (yi_179 hL) (yt_179 hL) rfl (by decide) w_308 (fun _ h9 => h9) rfl rfl (yr_179_5 hL) d_5_8_19 ?_
    refine lv_iload_n hx hb d_5_8_22 rfl (lv_at hl 3 rfl) ?_
    obtain ⟨ok1, h⟩ := ck_e h
    refine m_aa (k := (201 + 2 * x3.toNat)) (t := 5) (C := "Ballothall$Natural") hx hb hG hP (yi_182 hL) (yt_182 hL) rfl rfl ok1 (ya_182 hL (inb_lt ok1)) d_5_8_23 ?_
    refine lv_aload_n hx hb d_5_8_24 rfl (lv_at hl 1 rfl) ?_
    refine m_grN (j := (q1 + 4)) (C := "Ballothall$Count") (T := TX2) (N := 10) (ci := 2) (k := 9) hx hb hts iX2 hown hG hP (isCt_i h_q1) (isCt_T h_q1) rfl (by decide) n_1099 rfl (fun _ h9 => h9) rfl rfl (isCt_r9 h_q1) d_5_8_25 ?_
    refine lv_aload_n hx hb d_5_8_28 rfl (lv_at hl 1 rfl) ?_
    refine lv_iload_n hx hb d_5_8_29 rfl (lv_at hl 2 rfl) ?_
    refine lv_iload_n hx hb d_5_8_30 rfl (lv_at hl 3 rfl) ?_
    obtain ⟨r2, g2, h⟩ := bd_e h
    refine kVN (As := [.int (oI x2), .int (oI x3)]) (rest := [.ref (ad (q1 + 4)), .ref (ad (201 + 2 * x3.toNat))]) (s_Ct_placeOf l z ad E M q1 x2 x3 r2 hL g2) hx hb hml hown hts w_614 n_610 w_612 w_s_4a352f w_29 md_4ba11b ⟨Nat.le_of_ble_eq_true rfl, Nat.le_of_ble_eq_true rfl⟩ hG hZ hP hD hS hA q1 (wv_o (ci := 2) (isCt_i h_q1) (isCt_T h_q1)) rfl rfl rfl hl.1 rfl (Nat.le_of_ble_eq_true rfl) d_5_8_31 ⟨Nat.le_of_ble_eq_true rfl, Nat.le_of_ble_eq_true rfl⟩ (fun _ H locs hP hD hS => ?_)
    have hP : va_P z.1 classes (wv z ad E M) H := hP
    have hD : va_D A (wv z ad E M) := hD
    refine W.eq (g2 := F0 m 34 ls [.int (oI r2), .ref (ad (q1 + 4)), .ref (ad (201 + 2 * x3.toNat))]) rfl ?_
    obtain ⟨M3, g3, h⟩ := bd_e h
    refine kVN (As := [.ref (ad (q1 + 4)), .int (oI r2)]) (rest := []) (s_Na_store l z ad E M (201 + 2 * x3.toNat) (q1 + 4) r2 M3 hL g3) hx hb hml hown hts w_1151 n_1148 w_1150 w_s_e5ba2a w_9 md_2fea24 ⟨Nat.le_of_ble_eq_true rfl, Nat.le_of_ble_eq_true rfl⟩ hG hZ hP hD hS hA (201 + 2 * x3.toNat) (wv_o (ci := 8) (isNa_i (yg_182 hL ok1)) (isNa_T (yg_182 hL ok1))) rfl rfl rfl hl.1 rfl (Nat.le_of_ble_eq_true rfl) d_5_8_34 ⟨Nat.le_of_ble_eq_true rfl, Nat.le_of_ble_eq_true rfl⟩ (fun _ H locs hP hD hS => ?_)
    have hP : va_P z.1 classes (wv z ad E M3) H := hP
    have hD : va_D A (wv z ad E M3) := hD
    refine W.eq (g2 := F0 m 37 ls []) rfl ?_
    refine lv_iinc (v := oI (x3 + 1)) (lv' := [(3, .int (oI (x3 + 1))), (0, .ref (ad 179)), (1, .ref (ad q1)), (2, .int (oI x2))]) hx hb d_5_8_37 hl (k := 3) rfl (oI_add x3 1) (by decide) rfl (fun ls hl => ?_)
    refine lv_goto (tgt := 12) hx hb d_5_8_40 (by decide) ?_
    obtain ⟨rfl, rfl, rfl⟩ := in3 h
    exact k0 rfl H locs ls hP hD hS (lv_sub hl [1, 2, 3, 0] rfl)
set_option maxRecDepth 100000 in
set_option maxHeartbeats 4000000 in
theorem s_Co_keepMoment_12 (l : Launch) (z : Zz) (ad : Nat → Nat) (E : Ev) (q1 : Nat) (x2 : Int) {Q : State → Prop} {p : Program} {e : Env} {s : State} {m : MethodId} {below : List Frame} {meth : Method} {c : Code} {A : Nat → Prop} {args : Array Value} (hx : p.tables.exec = Jvm.exec) (hb : c.code = prog_5_method_8_code) (hml : c.maxLocals = 4) (hts : ∀ w ∈ WG, w.before args s = true) (hown : s.vm.findClass "Ballothall$Counting" = some m.cls) (hlocks : meth.locks = false) (hA : ∀ q, s.heap.size ≤ q → A q) (hG : KG z s) (hZ : FZ z A s) (hL : Lay E) : ∀ (fu : Nat) (M : Mm) (x3 : Int) (t : Nat) (w3 : Int) (N : Mm), l_Co_keepMoment_12 E q1 x2 fu M x3 = some (t, w3, N) → (t = 1 → ∀ (H : Heap) (locs : List Loc) (ls : Array Slot), va_P z.1 classes (wv z ad E N) H → va_D A (wv z ad E N) → va_S A s.heap H locs → lv_has ls 4 [(0, .ref (ad 179)), (1, .ref (ad q1)), (2, .int (oI x2))] → W p l e (rmK 2 64 0 0) s m args below meth c H locs 0 0 Q (F0 m 43 ls [])) → ∀ (H : Heap) (locs : List Loc) (ls : Array Slot), va_P z.1 classes (wv z ad E M) H → va_D A (wv z ad E M) → va_S A s.heap H locs → lv_has ls 4 [(0, .ref (ad 179)), (1, .ref (ad q1)), (2, .int (oI x2)), (3, .int (oI x3))] → W p l e (rmK 2 64 0 0) s m args below meth c H locs 0 0 Q (F0 m 12 ls []) := by
  intro fu
  induction fu with
  | zero =>
    intro M x3 t w3 N h
    have h : (none : Option (Nat × Int × Mm)) = some _ := h
    cases h
  | succ fu ih =>
    intro M x3 t w3 N h k1 H locs ls hP hD hS hl
    obtain ⟨⟨t0, w30, N9⟩, g0, h⟩ := bd_e h
    refine b_Co_keepMoment_12b l z ad E M q1 x2 x3 t0 w30 N9 hx hb hml hts hown hlocks hA hG hZ hL g0 (fun e0 => ?_) (fun e0 => ?_) H locs ls hP hD hS hl
    · subst e0
      have h := ite_t rfl h
      exact ih N9 w30 t w3 N h k1
    · subst e0
      have h := ite_f (by decide) h
      obtain ⟨rfl, rfl, rfl⟩ := in3 h
      exact k1 rfl
set_option maxRecDepth 100000 in
set_option maxHeartbeats 4000000 in
theorem s_Co_keepMoment (l : Launch) (z : Zz) (ad : Nat → Nat) (E : Ev) (M : Mm) (p1 : Nat) (N : Mm) (hL : Lay E) (h : f_Co_keepMoment E M p1 = some N) : CT l z ⟨"Ballothall$Counting", "keepMoment", "(LBallothall$Count;)V"⟩ prog_5_method_8_code 4 none [.ref (ad 179), .ref (ad p1)] (wv z ad E M) 2 64 0 0 (fun _ => none) (fun _ => (wv z ad E N)) := by
  refine CT.of (own := "Ballothall$Counting") (by decide +kernel) (Nat.le_of_ble_eq_true rfl) rfl (fun p e s m below meth c A ls hx hb hml hr hts hown hlocks hin hA hG hZ hP hD hS hl => ?_)
  have hl : lv_has ls 4 [(0, .ref (ad 179)), (1, .ref (ad p1))] := hl
  have key : ∀ (H : Heap) (locs : List Loc) (args : Array Value), (∀ w ∈ WG, w.before args s = true) → va_P z.1 classes (wv z ad E M) H → va_S A s.heap H locs → W p l e (rmK 2 64 0 0) s m args below meth c H locs 0 0 (MQ below (QK z A (fun _ => none) (fun _ => (wv z ad E N))) args s 0 0 A) (F0 m 0 ls []) := by
    intro H locs args hts hP hS
    unfold f_Co_keepMoment at h
    obtain ⟨h_p1, h⟩ := ck_e h
    refine lv_aload_n hx hb d_5_8_0 rfl (lv_at hl 1 rfl) ?_
    refine m_giN (C := "Ballothall$Count") (T := TX2) (N := 10) (ci := 2) (k := 4) hx hb hts iX2 hown hG hP (isCt_i h_p1) (isCt_T h_p1) rfl (by decide) n_1086 rfl (fun _ h9 => h9) rfl rfl d_5_8_1 ?_
    refine lv_aload_n hx hb d_5_8_4 rfl (lv_at hl 1 rfl) ?_
    refine m_giN (C := "Ballothall$Count") (T := TX2) (N := 10) (ci := 2) (k := 5) hx hb hts iX2 hown hG hP (isCt_i h_p1) (isCt_T h_p1) rfl (by decide) n_1088 rfl (fun _ h9 => h9) rfl rfl d_5_8_5 ?_
    refine lv_iadd hx hb d_5_8_8 ?_
    refine nrm (oI_add _ _) ?_
    refine lv_istore_n (lv' := [(2, .int (oI ((M p1 4) + (M p1 5)))), (0, .ref (ad 179)), (1, .ref (ad p1))]) hx hb d_5_8_9 rfl hl (by decide) rfl (fun ls hl => ?_)
    refine lv_iconst (v := oI 0) hx hb d_5_8_10 (by decide +kernel) ?_
    refine lv_istore_n (lv' := [(3, .int (oI 0)), (2, .int (oI ((M p1 4) + (M p1 5)))), (0, .ref (ad 179)), (1, .ref (ad p1))]) hx hb d_5_8_11 rfl hl (by decide) rfl (fun ls hl => ?_)
    obtain ⟨⟨t4, v4_3, M4⟩, g4, h⟩ := bd_e h
    obtain ⟨ok4, h⟩ := ck_e h
    refine s_Co_keepMoment_12 l z ad E p1 ((M p1 4) + (M p1 5)) hx hb hml hts hown hlocks hA hG hZ hL FU M 0 t4 v4_3 M4 g4 (fun e4 H locs ls hP hD hS hl => ?_) H locs ls hP hD hS (lv_sub hl [2, 3, 1, 0] rfl)
    refine lv_aload_n hx hb d_5_8_43 rfl (lv_at hl 0 rfl) ?_
    refine m_gr (j := 183) (C := "Ballothall$Counting") (T := TX3) (N := 15) (ci := 3) (k := 6) hx hb hts iX3 hown hG hP (yi_179 hL) (yt_179 hL) rfl (by decide) w_309 (fun _ h9 => h9) rfl rfl (yr_179_6 hL) d_5_8_44 ?_
    refine lv_aload_n hx hb d_5_8_47 rfl (lv_at hl 1 rfl) ?_
    refine m_grN (j := (p1 + 4)) (C := "Ballothall$Count") (T := TX2) (N := 10) (ci := 2) (k := 9) hx hb hts iX2 hown hG hP (isCt_i h_p1) (isCt_T h_p1) rfl (by decide) n_1099 rfl (fun _ h9 => h9) rfl rfl (isCt_r9 h_p1) d_5_8_48 ?_
    refine lv_aload_n hx hb d_5_8_51 rfl (lv_at hl 1 rfl) ?_
    refine lv_iload_n hx hb d_5_8_52 rfl (lv_at hl 2 rfl) ?_
    refine lv_bipush (v := oI 9) hx hb d_5_8_53 (by decide +kernel) ?_
    obtain ⟨r5, g5, h⟩ := bd_e h
    refine kVN (As := [.int (oI ((M p1 4) + (M p1 5))), .int (oI 9)]) (rest := [.ref (ad (p1 + 4)), .ref (ad 183)]) (s_Ct_placeOf l z ad E M4 p1 ((M p1 4) + (M p1 5)) 9 r5 hL g5) hx hb hml hown hts w_614 n_610 w_612 w_s_4a352f w_29 md_4ba11b ⟨Nat.le_of_ble_eq_true rfl, Nat.le_of_ble_eq_true rfl⟩ hG hZ hP hD hS hA p1 (wv_o (ci := 2) (isCt_i h_p1) (isCt_T h_p1)) rfl rfl rfl hl.1 rfl (Nat.le_of_ble_eq_true rfl) d_5_8_55 ⟨Nat.le_of_ble_eq_true rfl, Nat.le_of_ble_eq_true rfl⟩ (fun _ H locs hP hD hS => ?_)
    have hP : va_P z.1 classes (wv z ad E M4) H := hP
    have hD : va_D A (wv z ad E M4) := hD
    refine W.eq (g2 := F0 m 58 ls [.int (oI r5), .ref (ad (p1 + 4)), .ref (ad 183)]) rfl ?_
    obtain ⟨M6, g6, h⟩ := bd_e h
    refine kVN (As := [.ref (ad (p1 + 4)), .int (oI r5)]) (rest := []) (s_Na_store l z ad E M4 183 (p1 + 4) r5 M6 hL g6) hx hb hml hown hts w_1151 n_1148 w_1150 w_s_e5ba2a w_9 md_2fea24 ⟨Nat.le_of_ble_eq_true rfl, Nat.le_of_ble_eq_true rfl⟩ hG hZ hP hD hS hA 183 (wv_o (ci := 8) (yi_183 hL) (yt_183 hL)) rfl rfl rfl hl.1 rfl (Nat.le_of_ble_eq_true rfl) d_5_8_58 ⟨Nat.le_of_ble_eq_true rfl, Nat.le_of_ble_eq_true rfl⟩ (fun _ H locs hP hD hS => ?_)
    have hP : va_P z.1 classes (wv z ad E M6) H := hP
    have hD : va_D A (wv z ad E M6) := hD
    refine W.eq (g2 := F0 m 61 ls []) rfl ?_
    obtain rfl := in1 h
    exact W.vret hx hb hr (fun t ht hW => qkA hP hD hS (fun k => k) rfl rfl ht) hS.2.2 d_5_8_61
  exact key _ _ _ hts hP hS
set_option maxRecDepth 100000 in
set_option maxHeartbeats 4000000 in
theorem b_Na_multiply_24b (l : Launch) (z : Zz) (ad : Nat → Nat) (E : Ev) (M : Mm) (q0 : Nat) (q1 : Nat) (q2 : Nat) (x3 : Int) (x4 : Int) (x6 : Int) (t : Nat) (w4 : Int) (w6 : Int) (N : Mm) {Q : State → Prop} {p : Program} {e : Env} {s : State} {m : MethodId} {below : List Frame} {meth : Method} {c : Code} {A : Nat → Prop} {args : Array Value} (hx : p.tables.exec = Jvm.exec) (hb : c.code = prog_10_method_14_code) (hml : c.maxLocals = 7) (hts : ∀ w ∈ WG, w.before args s = true) (hown : s.vm.findClass "Ballothall$Natural" = some m.cls) (hlocks : meth.locks = false) (hA : ∀ q, s.heap.size ≤ q → A q) (hG : KG z s) (hZ : FZ z A s) (hL : Lay E) (h : Na_multiply_24b E M q0 q1 q2 x3 x4 x6 = some (t, w4, w6, N)) (k0 : t = 0 → ∀ (H : Heap) (locs : List Loc) (ls : Array Slot), va_P z.1 classes (wv z ad E N) H → va_D A (wv z ad E N) → va_S A s.heap H locs → lv_has ls 7 [(0, .ref (ad q0)), (1, .ref (ad q1)), (2, .ref (ad q2)), (3, .int (oI x3)), (4, .long (oJ w4)), (6, .int (oI w6))] → W p l e (rmK 2 61 0 0) s m args below meth c H locs 0 0 Q (F0 m 24 ls [])) (k1 : t = 1 → ∀ (H : Heap) (locs : List Loc) (ls : Array Slot), va_P z.1 classes (wv z ad E N) H → va_D A (wv z ad E N) → va_S A s.heap H locs → lv_has ls 7 [(0, .ref (ad q0)), (1, .ref (ad q1)), (2, .ref (ad q2)), (3, .int (oI x3))] → W p l e (rmK 2 61 0 0) s m args below meth c H locs 0 0 Q (F0 m 102 ls [])) : ∀ (H : Heap) (locs : List Loc) (ls : Array Slot), va_P z.1 classes (wv z ad E M) H → va_D A (wv z ad E M) → va_S A s.heap H locs → lv_has ls 7 [(0, .ref (ad q0)), (1, .ref (ad q1)), (2, .ref (ad q2)), (3, .int (oI x3)), (4, .long (oJ x4)), (6, .int (oI x6))] → W p l e (rmK 2 61 0 0) s m args below meth c H locs 0 0 Q (F0 m 24 ls []) := by
  intro H locs ls hP hD hS hl
  unfold Na_multiply_24b at h
  obtain ⟨h_q0, h⟩ := ck_e h
  obtain ⟨h_q1, h⟩ := ck_e h
  obtain ⟨h_q2, h⟩ := ck_e h
  refine lv_iload hx hb d_10_14_24 (lv_at hl 5 rfl) ?_
  refine lv_aload_n hx hb d_10_14_26 rfl (lv_at hl 2 rfl) ?_
  refine m_gi (C := "Ballothall$Natural") (T := TX8) (N := 2) (ci := 8) (k := 1) hx hb hts iX8 hown hG hP (isNa_i h_q2) (isNa_T h_q2) rfl (by decide) w_295 (fun _ h9 => h9) rfl rfl d_10_14_27 ?_
  obtain ⟨ok3, h⟩ := ck_e h
  obtain ⟨ok4, h⟩ := ck_e h
  refine lv_icmp_gt (tgt := 102) hx hb d_10_14_30 (by decide) (fun c9 => ?_) (fun c9 => ?_)
  · have h := ite_t ((oI_lt (a := (M q2 1)) (b := x6) ok4 ok3).mp c9) h
    obtain ⟨rfl, rfl, rfl, rfl⟩ := in4 h
    exact k1 rfl H locs ls hP hD hS (lv_sub hl [0, 1, 2, 3] rfl)
  · have h := ite_f (fun q => c9 ((oI_lt (a := (M q2 1)) (b := x6) ok4 ok3).mpr q)) h
    refine lv_iload_n hx hb d_10_14_33 rfl (lv_at hl 3 rfl) ?_
    refine lv_iload hx hb d_10_14_34 (lv_at hl 5 rfl) ?_
    refine lv_iadd hx hb d_10_14_36 ?_
    refine nrm (oI_add _ _) ?_
    refine lv_bipush (v := oI 13) hx hb d_10_14_37 (by decide +kernel) ?_
    obtain ⟨ok5, h⟩ := ck_e h
    refine lv_icmp_ge (tgt := 102) hx hb d_10_14_39 (by decide) (fun c9 => ?_) (fun c9 => ?_)
    · have h := ite_t ((oI_le (a := (13 : Int)) (b := (x3 + x6)) (by decide) ok5).mp c9) h
      obtain ⟨rfl, rfl, rfl, rfl⟩ := in4 h
      exact k1 rfl H locs ls hP hD hS (lv_sub hl [0, 1, 2, 3] rfl)
    · have h := ite_f (fun q => c9 ((oI_le (a := (13 : Int)) (b := (x3 + x6)) (by decide) ok5).mpr q)) h
      refine lv_lload hx hb d_10_14_42 (lv_at hl 4 rfl) ?_
      refine lv_aload_n hx hb d_10_14_44 rfl (lv_at hl 1 rfl) ?_
      refine m_gr (j := (q1 + 1)) (C := "Ballothall$Natural") (T := TX8) (N := 2) (ci := 8) (k := 0) hx hb hts iX8 hown hG hP (isNa_i h_q1) (isNa_T h_q1) rfl (by decide) w_294 (fun _ h9 => h9) rfl rfl (isNa_r0 h_q1) d_10_14_45 ?_
      refine lv_iload_n hx hb d_10_14_48 rfl (lv_at hl 3 rfl) ?_
      obtain ⟨ok6, h⟩ := ck_e h
      refine m_ia hx hb hG hP (isNa_i1 h_q1) (isNa_t1 h_q1) ok6 d_10_14_49 ?_
      obtain ⟨ok7, h⟩ := ck_e h
      refine lv_i2l (v := oJ (M (q1 + 1) x3.toNat)) hx hb d_10_14_50 (oI_l ok7) ?_
      refine lv_aload_n hx hb d_10_14_51 rfl (lv_at hl 2 rfl) ?_
      refine lv_iload hx hb d_10_14_52 (lv_at hl 5 rfl) ?_
      obtain ⟨r8, g8, h⟩ := bd_e h
      refine kV (As := [.int (oI x6)]) (rest := [.long (oJ (M (q1 + 1) x3.toNat)), .long (oJ x4)]) (s_Na_limbAt l z ad E M q2 x6 r8 hL g8) hx hb hml hown hts w_637 w_634 w_636 w_s_21c489 w_9 md_149093 ⟨Nat.le_of_ble_eq_true rfl, Nat.le_of_ble_eq_true rfl⟩ hG hZ hP hD hS hA q2 (wv_o (ci := 8) (isNa_i h_q2) (isNa_T h_q2)) rfl rfl rfl hl.1 rfl (Nat.le_of_ble_eq_true rfl) d_10_14_54 ⟨Nat.le_of_ble_eq_true rfl, Nat.le_of_ble_eq_true rfl⟩ (fun _ H locs hP hD hS => ?_)
      have hP : va_P z.1 classes (wv z ad E M) H := hP
      have hD : va_D A (wv z ad E M) := hD
      refine W.eq (g2 := F0 m 57 ls [.int (oI r8), .long (oJ (M (q1 + 1) x3.toNat)), .long (oJ x4)]) rfl ?_
      obtain ⟨ok9, h⟩ := ck_e h
      refine lv_i2l (v := oJ r8) hx hb d_10_14_57 (oI_l ok9) ?_
      refine lv_lmul hx hb d_10_14_58 ?_
      refine nrmL (oJ_mul _ _) ?_
      refine lv_aload_n hx hb d_10_14_59 rfl (lv_at hl 0 rfl) ?_
      refine m_gr (j := (q0 + 1)) (C := "Ballothall$Natural") (T := TX8) (N := 2) (ci := 8) (k := 0) hx hb hts iX8 hown hG hP (isNa_i h_q0) (isNa_T h_q0) rfl (by decide) w_294 (fun _ h9 => h9) rfl rfl (isNa_r0 h_q0) d_10_14_60 ?_
      refine lv_iload_n hx hb d_10_14_63 rfl (lv_at hl 3 rfl) ?_
      refine lv_iload hx hb d_10_14_64 (lv_at hl 5 rfl) ?_
      refine lv_iadd hx hb d_10_14_66 ?_
      refine nrm (oI_add _ _) ?_
      obtain ⟨ok10, h⟩ := ck_e h
      refine m_ia hx hb hG hP (isNa_i1 h_q0) (isNa_t1 h_q0) ok10 d_10_14_67 ?_
      obtain ⟨ok11, h⟩ := ck_e h
      refine lv_i2l (v := oJ (M (q0 + 1) (x3 + x6).toNat)) hx hb d_10_14_68 (oI_l ok11) ?_
      refine lv_ladd hx hb d_10_14_69 ?_
      refine nrmL (oJ_add _ _) ?_
      refine lv_ladd hx hb d_10_14_70 ?_
      refine nrmL (oJ_add _ _) ?_
      obtain ⟨v12, e12, h⟩ := nb_e h
      refine nrmL (congrArg oJ e12.symm) ?_
      refine lv_lstore (lv' := [(4, .long (oJ v12)), (0, .ref (ad q0)), (1, .ref (ad q1)), (2, .ref (ad q2)), (3, .int (oI x3)), (6, .int (oI x6))]) hx hb d_10_14_71 hl (by decide) rfl (fun ls hl => ?_)
      refine lv_aload_n hx hb d_10_14_73 rfl (lv_at hl 1 rfl) ?_
      refine m_gr (j := (q0 + 1)) (C := "Ballothall$Natural") (T := TX8) (N := 2) (ci := 8) (k := 0) hx hb hts iX8 hown hG hP (isNa_i h_q0) (isNa_T h_q0) rfl (by decide) w_294 (fun _ h9 => h9) rfl rfl (isNa_r0 h_q0) d_10_14_74 ?_
      refine lv_iload_n hx hb d_10_14_77 rfl (lv_at hl 4 rfl) ?_
      refine lv_iload hx hb d_10_14_78 (lv_at hl 5 rfl) ?_
      refine lv_iadd hx hb d_10_14_80 ?_
      refine nrm (oI_add _ _) ?_
      refine lv_lload hx hb d_10_14_81 (lv_at hl 0 rfl) ?_
      refine lv_ldc2 hx hb hown (hts _ w_605) d_10_14_83 ?_
      refine nrmL (x1 := oJ 1073741823) (by decide +kernel) ?_
      refine lv_land hx hb d_10_14_86 ?_
      refine nrmL (oJ_m30 _) ?_
      refine lv_l2i (v := oI (v12 % 1073741824)) hx hb d_10_14_87 (oJ_i _) ?_
      refine m_is hx hb hG hP hD hS (isNa_i1 h_q0) (isNa_t1 h_q0) ok10 d_10_14_88 (fun H locs hP hD hS => ?_)
      have hP : va_P z.1 classes (wv z ad E (u2 M (q0 + 1) (x3 + x6).toNat (v12 % 1073741824))) H := hP
      have hD : va_D A (wv z ad E (u2 M (q0 + 1) (x3 + x6).toNat (v12 % 1073741824))) := hD
      refine lv_lload hx hb d_10_14_89 (lv_at hl 0 rfl) ?_
      refine lv_bipush (v := oI 30) hx hb d_10_14_91 (by decide +kernel) ?_
      obtain ⟨ok13, h⟩ := ck_e h
      refine lv_lshr (v := oJ (v12 / 1073741824)) hx hb d_10_14_93 (oJ_shr (b := (30 : Int)) ok13 (by decide) (by decide)) ?_
      refine lv_lstore (lv' := [(4, .long (oJ (v12 / 1073741824))), (0, .ref (ad q0)), (1, .ref (ad q1)), (2, .ref (ad q2)), (3, .int (oI x3)), (6, .int (oI x6))]) hx hb d_10_14_94 hl (by decide) rfl (fun ls hl => ?_)
      refine lv_iinc (v := oI (x6 + 1)) (lv' := [(6, .int (oI (x6 + 1))), (4, .long (oJ (v12 / 1073741824))), (0, .ref (ad q0)), (1, .ref (ad q1)), (2, .ref (ad q2)), (3, .int (oI x3))]) hx hb d_10_14_96 hl (k := 5) rfl (oI_add x6 1) (by decide) rfl (fun ls hl => ?_)
      refine lv_goto (tgt := 24) hx hb d_10_14_99 (by decide) ?_
      obtain ⟨rfl, rfl, rfl, rfl⟩ := in4 h
      exact k0 rfl H locs ls hP hD hS (lv_sub hl [2, 3, 4, 5, 1, 0] rfl)
set_option maxRecDepth 100000 in
set_option maxHeartbeats 4000000 in
theorem s_Na_multiply_24 (l : Launch) (z : Zz) (ad : Nat → Nat) (E : Ev) (q0 : Nat) (q1 : Nat) (q2 : Nat) (x3 : Int) {Q : State → Prop} {p : Program} {e : Env} {s : State} {m : MethodId} {below : List Frame} {meth : Method} {c : Code} {A : Nat → Prop} {args : Array Value} (hx : p.tables.exec = Jvm.exec) (hb : c.code = prog_10_method_14_code) (hml : c.maxLocals = 7) (hts : ∀ w ∈ WG, w.before args s = true) (hown : s.vm.findClass "Ballothall$Natural" = some m.cls) (hlocks : meth.locks = false) (hA : ∀ q, s.heap.size ≤ q → A q) (hG : KG z s) (hZ : FZ z A s) (hL : Lay E) : ∀ (fu : Nat) (M : Mm) (x4 : Int) (x6 : Int) (t : Nat) (w4 : Int) (w6 : Int) (N : Mm), l_Na_multiply_24 E q0 q1 q2 x3 fu M x4 x6 = some (t, w4, w6, N) → (t = 1 → ∀ (H : Heap) (locs : List Loc) (ls : Array Slot), va_P z.1 classes (wv z ad E N) H → va_D A (wv z ad E N) → va_S A s.heap H locs → lv_has ls 7 [(0, .ref (ad q0)), (1, .ref (ad q1)), (2, .ref (ad q2)), (3, .int (oI x3))] → W p l e (rmK 2 61 0 0) s m args below meth c H locs 0 0 Q (F0 m 102 ls [])) → ∀ (H : Heap) (locs : List Loc) (ls : Array Slot), va_P z.1 classes (wv z ad E M) H → va_D A (wv z ad E M) → va_S A s.heap H locs → lv_has ls 7 [(0, .ref (ad q0)), (1, .ref (ad q1)), (2, .ref (ad q2)), (3, .int (oI x3)), (4, .long (oJ x4)), (6, .int (oI x6))] → W p l e (rmK 2 61 0 0) s m args below meth c H locs 0 0 Q (F0 m 24 ls []) := by
  intro fu
  induction fu with
  | zero =>
    intro M x4 x6 t w4 w6 N h
    have h : (none : Option (Nat × Int × Int × Mm)) = some _ := h
    cases h
  | succ fu ih =>
    intro M x4 x6 t w4 w6 N h k1 H locs ls hP hD hS hl
    obtain ⟨⟨t0, w40, w60, N9⟩, g0, h⟩ := bd_e h
    refine b_Na_multiply_24b l z ad E M q0 q1 q2 x3 x4 x6 t0 w40 w60 N9 hx hb hml hts hown hlocks hA hG hZ hL g0 (fun e0 => ?_) (fun e0 => ?_) H locs ls hP hD hS hl
    · subst e0
      have h := ite_t rfl h
      exact ih N9 w40 w60 t w4 w6 N h k1
    · subst e0
      have h := ite_f (by decide) h
      obtain ⟨rfl, rfl, rfl, rfl⟩ := in4 h
      exact k1 rfl
set_option maxRecDepth 100000 in
set_option maxHeartbeats 4000000 in
theorem b_Na_multiply_10b (l : Launch) (z : Zz) (ad : Nat → Nat) (E : Ev) (M : Mm) (q0 : Nat) (q1 : Nat) (q2 : Nat) (x3 : Int) (t : Nat) (w3 : Int) (N : Mm) {Q : State → Prop} {p : Program} {e : Env} {s : State} {m : MethodId} {below : List Frame} {meth : Method} {c : Code} {A : Nat → Prop} {args : Array Value} (hx : p.tables.exec = Jvm.exec) (hb : c.code = prog_10_method_14_code) (hml : c.maxLocals = 7) (hts : ∀ w ∈ WG, w.before args s = true) (hown : s.vm.findClass "Ballothall$Natural" = some m.cls) (hlocks : meth.locks = false) (hA : ∀ q, s.heap.size ≤ q → A q) (hG : KG z s) (hZ : FZ z A s) (hL : Lay E) (h : Na_multiply_10b E M q0 q1 q2 x3 = some (t, w3, N)) (k0 : t = 0 → ∀ (H : Heap) (locs : List Loc) (ls : Array Slot), va_P z.1 classes (wv z ad E N) H → va_D A (wv z ad E N) → va_S A s.heap H locs → lv_has ls 7 [(0, .ref (ad q0)), (1, .ref (ad q1)), (2, .ref (ad q2)), (3, .int (oI w3))] → W p l e (rmK 2 61 0 0) s m args below meth c H locs 0 0 Q (F0 m 10 ls [])) (k1 : t = 1 → ∀ (H : Heap) (locs : List Loc) (ls : Array Slot), va_P z.1 classes (wv z ad E N) H → va_D A (wv z ad E N) → va_S A s.heap H locs → lv_has ls 7 [(0, .ref (ad q0))] → W p l e (rmK 2 61 0 0) s m args below meth c H locs 0 0 Q (F0 m 108 ls [])) : ∀ (H : Heap) (locs : List Loc) (ls : Array Slot), va_P z.1 classes (wv z ad E M) H → va_D A (wv z ad E M) → va_S A s.heap H locs → lv_has ls 7 [(0, .ref (ad q0)), (1, .ref (ad q1)), (2, .ref (ad q2)), (3, .int (oI x3))] → W p l e (rmK 2 61 0 0) s m args below meth c H locs 0 0 Q (F0 m 10 ls []) := by
  intro H locs ls hP hD hS hl
  unfold Na_multiply_10b at h
  obtain ⟨h_q0, h⟩ := ck_e h
  obtain ⟨h_q1, h⟩ := ck_e h
  obtain ⟨h_q2, h⟩ := ck_e h
  refine lv_iload_n hx hb d_10_14_10 rfl (lv_at hl 3 rfl) ?_
  refine lv_aload_n hx hb d_10_14_11 rfl (lv_at hl 1 rfl) ?_
  refine m_gi (C := "Ballothall$Natural") (T := TX8) (N := 2) (ci := 8) (k := 1) hx hb hts iX8 hown hG hP (isNa_i h_q1) (isNa_T h_q1) rfl (by decide) w_295 (fun _ h9 => h9) rfl rfl d_10_14_12 ?_
  obtain ⟨ok1, h⟩ := ck_e h
  obtain ⟨ok2, h⟩ := ck_e h
  refine lv_icmp_ge (tgt := 108) hx hb d_10_14_15 (by decide) (fun c9 => ?_) (fun c9 => ?_)
  · have h := ite_t ((oI_le (a := (M q1 1)) (b := x3) ok2 ok1).mp c9) h
    obtain ⟨rfl, rfl, rfl⟩ := in3 h
    exact k1 rfl H locs ls hP hD hS (lv_sub hl [0] rfl)
  · have h := ite_f (fun q => c9 ((oI_le (a := (M q1 1)) (b := x3) ok2 ok1).mpr q)) h
    refine lv_lconst (v := oJ 0) hx hb d_10_14_18 (by decide +kernel) ?_
    refine lv_lstore (lv' := [(4, .long (oJ 0)), (0, .ref (ad q0)), (1, .ref (ad q1)), (2, .ref (ad q2)), (3, .int (oI x3))]) hx hb d_10_14_19 hl (by decide) rfl (fun ls hl => ?_)
    refine lv_iconst (v := oI 0) hx hb d_10_14_21 (by decide +kernel) ?_
    refine lv_istore (lv' := [(6, .int (oI 0)), (4, .long (oJ 0)), (0, .ref (ad q0)), (1, .ref (ad q1)), (2, .ref (ad q2)), (3, .int (oI x3))]) hx hb d_10_14_22 hl (by decide) rfl (fun ls hl => ?_)
    obtain ⟨⟨t14, v14_4, v14_6, M14⟩, g14, h⟩ := bd_e h
    obtain ⟨ok14, h⟩ := ck_e h
    refine s_Na_multiply_24 l z ad E q0 q1 q2 x3 hx hb hml hts hown hlocks hA hG hZ hL FU M 0 0 t14 v14_4 v14_6 M14 g14 (fun e14 H locs ls hP hD hS hl => ?_) H locs ls hP hD hS (lv_sub hl [2, 3, 4, 5, 1, 0] rfl)
    refine lv_iinc (v := oI (x3 + 1)) (lv' := [(3, .int (oI (x3 + 1))), (0, .ref (ad q0)), (1, .ref (ad q1)), (2, .ref (ad q2))]) hx hb d_10_14_102 hl (k := 3) rfl (oI_add x3 1) (by decide) rfl (fun ls hl => ?_)
    refine lv_goto (tgt := 10) hx hb d_10_14_105 (by decide) ?_
    obtain ⟨rfl, rfl, rfl⟩ := in3 h
    exact k0 rfl H locs ls hP hD hS (lv_sub hl [1, 2, 3, 0] rfl)
set_option maxRecDepth 100000 in
set_option maxHeartbeats 4000000 in
theorem s_Na_multiply_10 (l : Launch) (z : Zz) (ad : Nat → Nat) (E : Ev) (q0 : Nat) (q1 : Nat) (q2 : Nat) {Q : State → Prop} {p : Program} {e : Env} {s : State} {m : MethodId} {below : List Frame} {meth : Method} {c : Code} {A : Nat → Prop} {args : Array Value} (hx : p.tables.exec = Jvm.exec) (hb : c.code = prog_10_method_14_code) (hml : c.maxLocals = 7) (hts : ∀ w ∈ WG, w.before args s = true) (hown : s.vm.findClass "Ballothall$Natural" = some m.cls) (hlocks : meth.locks = false) (hA : ∀ q, s.heap.size ≤ q → A q) (hG : KG z s) (hZ : FZ z A s) (hL : Lay E) : ∀ (fu : Nat) (M : Mm) (x3 : Int) (t : Nat) (w3 : Int) (N : Mm), l_Na_multiply_10 E q0 q1 q2 fu M x3 = some (t, w3, N) → (t = 1 → ∀ (H : Heap) (locs : List Loc) (ls : Array Slot), va_P z.1 classes (wv z ad E N) H → va_D A (wv z ad E N) → va_S A s.heap H locs → lv_has ls 7 [(0, .ref (ad q0))] → W p l e (rmK 2 61 0 0) s m args below meth c H locs 0 0 Q (F0 m 108 ls [])) → ∀ (H : Heap) (locs : List Loc) (ls : Array Slot), va_P z.1 classes (wv z ad E M) H → va_D A (wv z ad E M) → va_S A s.heap H locs → lv_has ls 7 [(0, .ref (ad q0)), (1, .ref (ad q1)), (2, .ref (ad q2)), (3, .int (oI x3))] → W p l e (rmK 2 61 0 0) s m args below meth c H locs 0 0 Q (F0 m 10 ls []) := by
  intro fu
  induction fu with
  | zero =>
    intro M x3 t w3 N h
    have h : (none : Option (Nat × Int × Mm)) = some _ := h
    cases h
  | succ fu ih =>
    intro M x3 t w3 N h k1 H locs ls hP hD hS hl
    obtain ⟨⟨t0, w30, N9⟩, g0, h⟩ := bd_e h
    refine b_Na_multiply_10b l z ad E M q0 q1 q2 x3 t0 w30 N9 hx hb hml hts hown hlocks hA hG hZ hL g0 (fun e0 => ?_) (fun e0 => ?_) H locs ls hP hD hS hl
    · subst e0
      have h := ite_t rfl h
      exact ih N9 w30 t w3 N h k1
    · subst e0
      have h := ite_f (by decide) h
      obtain ⟨rfl, rfl, rfl⟩ := in3 h
      exact k1 rfl
set_option maxRecDepth 100000 in
set_option maxHeartbeats 4000000 in
theorem s_Na_multiply (l : Launch) (z : Zz) (ad : Nat → Nat) (E : Ev) (M : Mm) (p0 : Nat) (p1 : Nat) (p2 : Nat) (N : Mm) (hL : Lay E) (h : f_Na_multiply E M p0 p1 p2 = some N) : CT l z ⟨"Ballothall$Natural", "multiply", "(LBallothall$Natural;LBallothall$Natural;)V"⟩ prog_10_method_14_code 7 none [.ref (ad p0), .ref (ad p1), .ref (ad p2)] (wv z ad E M) 2 61 0 0 (fun _ => none) (fun _ => (wv z ad E N)) := by
  refine CT.of (own := "Ballothall$Natural") (by decide +kernel) (Nat.le_of_ble_eq_true rfl) rfl (fun p e s m below meth c A ls hx hb hml hr hts hown hlocks hin hA hG hZ hP hD hS hl => ?_)
  have hl : lv_has ls 7 [(0, .ref (ad p0)), (1, .ref (ad p1)), (2, .ref (ad p2))] := hl
  have key : ∀ (H : Heap) (locs : List Loc) (args : Array Value), (∀ w ∈ WG, w.before args s = true) → va_P z.1 classes (wv z ad E M) H → va_S A s.heap H locs → W p l e (rmK 2 61 0 0) s m args below meth c H locs 0 0 (MQ below (QK z A (fun _ => none) (fun _ => (wv z ad E N))) args s 0 0 A) (F0 m 0 ls []) := by
    intro H locs args hts hP hS
    unfold f_Na_multiply at h
    obtain ⟨h_p0, h⟩ := ck_e h
    obtain ⟨h_p1, h⟩ := ck_e h
    obtain ⟨h_p2, h⟩ := ck_e h
    refine lv_aload_n hx hb d_10_14_0 rfl (lv_at hl 0 rfl) ?_
    refine m_gr (j := (p0 + 1)) (C := "Ballothall$Natural") (T := TX8) (N := 2) (ci := 8) (k := 0) hx hb hts iX8 hown hG hP (isNa_i h_p0) (isNa_T h_p0) rfl (by decide) w_294 (fun _ h9 => h9) rfl rfl (isNa_r0 h_p0) d_10_14_1 ?_
    refine lv_iconst (v := oI 0) hx hb d_10_14_4 (by decide +kernel) ?_
    obtain ⟨M0, g0, h⟩ := bd_e h
    refine kS (As := [.ref (ad (p0 + 1)), .int (oI 0)]) (rest := []) (s_Ar_fillI l z ad E M (p0 + 1) 0 M0 hL g0) hx hb hml hown hts w_653 w_1204 w_652 w_23 md_e8f65d ⟨Nat.le_of_ble_eq_true rfl, Nat.le_of_ble_eq_true rfl⟩ hG hZ hP hD hS hA rfl hl.1 rfl (Nat.le_of_ble_eq_true rfl) d_10_14_5 ⟨Nat.le_of_ble_eq_true rfl, Nat.le_of_ble_eq_true rfl⟩ (fun _ H locs hP hD hS => ?_)
    have hP : va_P z.1 classes (wv z ad E M0) H := hP
    have hD : va_D A (wv z ad E M0) := hD
    refine W.eq (g2 := F0 m 8 ls []) rfl ?_
    refine lv_iconst (v := oI 0) hx hb d_10_14_8 (by decide +kernel) ?_
    refine lv_istore_n (lv' := [(3, .int (oI 0)), (0, .ref (ad p0)), (1, .ref (ad p1)), (2, .ref (ad p2))]) hx hb d_10_14_9 rfl hl (by decide) rfl (fun ls hl => ?_)
    obtain ⟨⟨t15, v15_3, M15⟩, g15, h⟩ := bd_e h
    obtain ⟨ok15, h⟩ := ck_e h
    refine s_Na_multiply_10 l z ad E p0 p1 p2 hx hb hml hts hown hlocks hA hG hZ hL FU M0 0 t15 v15_3 M15 g15 (fun e15 H locs ls hP hD hS hl => ?_) H locs ls hP hD hS (lv_sub hl [1, 2, 3, 0] rfl)
    refine lv_aload_n hx hb d_10_14_108 rfl (lv_at hl 0 rfl) ?_
    refine lv_bipush (v := oI 13) hx hb d_10_14_109 (by decide +kernel) ?_
    obtain ⟨M16, g16, h⟩ := bd_e h
    refine kV (As := [.int (oI 13)]) (rest := []) (s_Na_trimTo l z ad E M15 p0 13 M16 hL g16) hx hb hml hown hts w_625 w_622 w_624 w_s_8e7085 w_9 md_0a866a ⟨Nat.le_of_ble_eq_true rfl, Nat.le_of_ble_eq_true rfl⟩ hG hZ hP hD hS hA p0 (wv_o (ci := 8) (isNa_i h_p0) (isNa_T h_p0)) rfl rfl rfl hl.1 rfl (Nat.le_of_ble_eq_true rfl) d_10_14_111 ⟨Nat.le_of_ble_eq_true rfl, Nat.le_of_ble_eq_true rfl⟩ (fun _ H locs hP hD hS => ?_)
    have hP : va_P z.1 classes (wv z ad E M16) H := hP
    have hD : va_D A (wv z ad E M16) := hD
    refine W.eq (g2 := F0 m 114 ls []) rfl ?_
    obtain rfl := in1 h
    exact W.vret hx hb hr (fun t ht hW => qkA hP hD hS (fun k => k) rfl rfl ht) hS.2.2 d_10_14_114
  exact key _ _ _ hts hP hS
set_option maxRecDepth 100000 in
set_option maxHeartbeats 4000000 in
theorem s_Co_multiply (l : Launch) (z : Zz) (ad : Nat → Nat) (E : Ev) (M : Mm) (p1 : Nat) (p2 : Nat) (N : Mm) (hL : Lay E) (h : f_Co_multiply E M p1 p2 = some N) : CT l z ⟨"Ballothall$Counting", "multiply", "(LBallothall$Natural;LBallothall$Natural;)V"⟩ prog_5_method_17_code 3 none [.ref (ad 179), .ref (ad p1), .ref (ad p2)] (wv z ad E M) 3 87 0 0 (fun _ => none) (fun _ => (wv z ad E N)) := by
  refine CT.of (own := "Ballothall$Counting") (by decide +kernel) (Nat.le_of_ble_eq_true rfl) rfl (fun p e s m below meth c A ls hx hb hml hr hts hown hlocks hin hA hG hZ hP hD hS hl => ?_)
  have hl : lv_has ls 3 [(0, .ref (ad 179)), (1, .ref (ad p1)), (2, .ref (ad p2))] := hl
  have key : ∀ (H : Heap) (locs : List Loc) (args : Array Value), (∀ w ∈ WG, w.before args s = true) → va_P z.1 classes (wv z ad E M) H → va_S A s.heap H locs → W p l e (rmK 3 87 0 0) s m args below meth c H locs 0 0 (MQ below (QK z A (fun _ => none) (fun _ => (wv z ad E N))) args s 0 0 A) (F0 m 0 ls []) := by
    intro H locs args hts hP hS
    unfold f_Co_multiply at h
    obtain ⟨h_p1, h⟩ := ck_e h
    obtain ⟨h_p2, h⟩ := ck_e h
    refine lv_aload_n hx hb d_5_17_0 rfl (lv_at hl 1 rfl) ?_
    refine m_giN (C := "Ballothall$Natural") (T := TX8) (N := 2) (ci := 8) (k := 1) hx hb hts iX8 hown hG hP (isNa_i h_p1) (isNa_T h_p1) rfl (by decide) n_296 rfl (fun _ h9 => h9) rfl rfl d_5_17_1 ?_
    obtain ⟨ok0, h⟩ := ck_e h
    refine lv_if_le (tgt := 24) hx hb d_5_17_4 (by decide) (fun c9 => ?_) (fun c9 => ?_)
    · have h := ite_t ((oI_le0 ok0).mp c9) h
      obtain rfl := in1 h
      exact W.vret hx hb hr (fun t ht hW => qkA hP hD hS (fun k => k) rfl rfl ht) hS.2.2 d_5_17_24
    · have h := ite_f (fun q => c9 ((oI_le0 ok0).mpr q)) h
      refine lv_aload_n hx hb d_5_17_7 rfl (lv_at hl 0 rfl) ?_
      refine m_gr (j := 199) (C := "Ballothall$Counting") (T := TX3) (N := 15) (ci := 3) (k := 14) hx hb hts iX3 hown hG hP (yi_179 hL) (yt_179 hL) rfl (by decide) w_319 (fun _ h9 => h9) rfl rfl (yr_179_14 hL) d_5_17_8 ?_
      refine lv_aload_n hx hb d_5_17_11 rfl (lv_at hl 1 rfl) ?_
      refine lv_aload_n hx hb d_5_17_12 rfl (lv_at hl 2 rfl) ?_
      obtain ⟨M1, g1, h⟩ := bd_e h
      refine kVN (As := [.ref (ad p1), .ref (ad p2)]) (rest := []) (s_Na_multiply l z ad E M 199 p1 p2 M1 hL g1) hx hb hml hown hts w_1230 n_1227 w_1229 w_s_68a06f w_9 md_82c0f2 ⟨Nat.le_of_ble_eq_true rfl, Nat.le_of_ble_eq_true rfl⟩ hG hZ hP hD hS hA 199 (wv_o (ci := 8) (yi_199 hL) (yt_199 hL)) rfl rfl rfl hl.1 rfl (Nat.le_of_ble_eq_true rfl) d_5_17_13 ⟨Nat.le_of_ble_eq_true rfl, Nat.le_of_ble_eq_true rfl⟩ (fun _ H locs hP hD hS => ?_)
      have hP : va_P z.1 classes (wv z ad E M1) H := hP
      have hD : va_D A (wv z ad E M1) := hD
      refine W.eq (g2 := F0 m 16 ls []) rfl ?_
      refine lv_aload_n hx hb d_5_17_16 rfl (lv_at hl 1 rfl) ?_
      refine lv_aload_n hx hb d_5_17_17 rfl (lv_at hl 0 rfl) ?_
      refine m_gr (j := 199) (C := "Ballothall$Counting") (T := TX3) (N := 15) (ci := 3) (k := 14) hx hb hts iX3 hown hG hP (yi_179 hL) (yt_179 hL) rfl (by decide) w_319 (fun _ h9 => h9) rfl rfl (yr_179_14 hL) d_5_17_18 ?_
      obtain ⟨M2, g2, h⟩ := bd_e h
      refine kVN (As := [.ref (ad 199)]) (rest := []) (s_Na_copyFrom l z ad E M1 p1 199 M2 hL g2) hx hb hml hown hts w_1175 n_1172 w_1174 w_s_8c9b61 w_9 md_68420c ⟨Nat.le_of_ble_eq_true rfl, Nat.le_of_ble_eq_true rfl⟩ hG hZ hP hD hS hA p1 (wv_o (ci := 8) (isNa_i h_p1) (isNa_T h_p1)) rfl rfl rfl hl.1 rfl (Nat.le_of_ble_eq_true rfl) d_5_17_21 ⟨Nat.le_of_ble_eq_true rfl, Nat.le_of_ble_eq_true rfl⟩ (fun _ H locs hP hD hS => ?_)
      have hP : va_P z.1 classes (wv z ad E M2) H := hP
      have hD : va_D A (wv z ad E M2) := hD
      refine W.eq (g2 := F0 m 24 ls []) rfl ?_
      obtain rfl := in1 h
      exact W.vret hx hb hr (fun t ht hW => qkA hP hD hS (fun k => k) rfl rfl ht) hS.2.2 d_5_17_24
  exact key _ _ _ hts hP hS
set_option maxRecDepth 100000 in
set_option maxHeartbeats 4000000 in
theorem b_Co_multiplyAll_11b (l : Launch) (z : Zz) (ad : Nat → Nat) (E : Ev) (M : Mm) (q1 : Nat) (x2 : Int) (t : Nat) (w2 : Int) (N : Mm) {Q : State → Prop} {p : Program} {e : Env} {s : State} {m : MethodId} {below : List Frame} {meth : Method} {c : Code} {A : Nat → Prop} {args : Array Value} (hx : p.tables.exec = Jvm.exec) (hb : c.code = prog_5_method_16_code) (hml : c.maxLocals = 4) (hts : ∀ w ∈ WG, w.before args s = true) (hown : s.vm.findClass "Ballothall$Counting" = some m.cls) (hlocks : meth.locks = false) (hA : ∀ q, s.heap.size ≤ q → A q) (hG : KG z s) (hZ : FZ z A s) (hL : Lay E) (h : Co_multiplyAll_11b E M q1 x2 = some (t, w2, N)) (k0 : t = 0 → ∀ (H : Heap) (locs : List Loc) (ls : Array Slot), va_P z.1 classes (wv z ad E N) H → va_D A (wv z ad E N) → va_S A s.heap H locs → lv_has ls 4 [(0, .ref (ad 179)), (1, .ref (ad q1)), (2, .int (oI w2))] → W p l e (rmK 4 109 0 0) s m args below meth c H locs 0 0 Q (F0 m 11 ls [])) (k1 : t = 1 → ∀ (H : Heap) (locs : List Loc) (ls : Array Slot), va_P z.1 classes (wv z ad E N) H → va_D A (wv z ad E N) → va_S A s.heap H locs → lv_has ls 4 [(0, .ref (ad 179)), (1, .ref (ad q1))] → W p l e (rmK 4 109 0 0) s m args below meth c H locs 0 0 Q (F0 m 34 ls [])) : ∀ (H : Heap) (locs : List Loc) (ls : Array Slot), va_P z.1 classes (wv z ad E M) H → va_D A (wv z ad E M) → va_S A s.heap H locs → lv_has ls 4 [(0, .ref (ad 179)), (1, .ref (ad q1)), (2, .int (oI x2))] → W p l e (rmK 4 109 0 0) s m args below meth c H locs 0 0 Q (F0 m 11 ls []) := by
  intro H locs ls hP hD hS hl
  unfold Co_multiplyAll_11b at h
  obtain ⟨h_q1, h⟩ := ck_e h
  refine lv_iload_n hx hb d_5_16_11 rfl (lv_at hl 2 rfl) ?_
  refine lv_bipush (v := oI 9) hx hb d_5_16_12 (by decide +kernel) ?_
  obtain ⟨ok1, h⟩ := ck_e h
  refine lv_icmp_ge (tgt := 34) hx hb d_5_16_14 (by decide) (fun c9 => ?_) (fun c9 => ?_)
  · have h := ite_t ((oI_le (a := (9 : Int)) (b := x2) (by decide) ok1).mp c9) h
    obtain ⟨rfl, rfl, rfl⟩ := in3 h
    exact k1 rfl H locs ls hP hD hS (lv_sub hl [0, 1] rfl)
  · have h := ite_f (fun q => c9 ((oI_le (a := (9 : Int)) (b := x2) (by decide) ok1).mpr q)) h
    refine lv_aload_n hx hb d_5_16_17 rfl (lv_at hl 0 rfl) ?_
    refine lv_aload_n hx hb d_5_16_18 rfl (lv_at hl 0 rfl) ?_
    refine m_gr (j := 182) (C := "Ballothall$Counting") (T := TX3) (N := 15) (ci := 3) (k := 5) hx hb hts iX3 hown hG hP (yi_179 hL) (yt_179 hL) rfl (by decide) w_308 (fun _ h9 => h9) rfl rfl (yr_179_5 hL) d_5_16_19 ?_
    refine lv_iload_n hx hb d_5_16_22 rfl (lv_at hl 2 rfl) ?_
    obtain ⟨ok2, h⟩ := ck_e h
    refine m_aa (k := (201 + 2 * x2.toNat)) (t := 5) (C := "Ballothall$Natural") hx hb hG hP (yi_182 hL) (yt_182 hL) rfl rfl ok2 (ya_182 hL (inb_lt ok2)) d_5_16_23 ?_
    refine lv_aload_n hx hb d_5_16_24 rfl (lv_at hl 1 rfl) ?_
    obtain ⟨M3, g3, h⟩ := bd_e h
    refine kV (As := [.ref (ad (201 + 2 * x2.toNat)), .ref (ad q1)]) (rest := []) (s_Co_multiply l z ad E M (201 + 2 * x2.toNat) q1 M3 hL g3) hx hb hml hown hts w_1226 w_1223 w_1225 w_s_a6a853 w_8 md_9c876f ⟨Nat.le_of_ble_eq_true rfl, Nat.le_of_ble_eq_true rfl⟩ hG hZ hP hD hS hA 179 (wv_o (ci := 3) (yi_179 hL) (yt_179 hL)) rfl rfl rfl hl.1 rfl (Nat.le_of_ble_eq_true rfl) d_5_16_25 ⟨Nat.le_of_ble_eq_true rfl, Nat.le_of_ble_eq_true rfl⟩ (fun _ H locs hP hD hS => ?_)
    have hP : va_P z.1 classes (wv z ad E M3) H := hP
    have hD : va_D A (wv z ad E M3) := hD
    refine W.eq (g2 := F0 m 28 ls []) rfl ?_
    refine lv_iinc (v := oI (x2 + 1)) (lv' := [(2, .int (oI (x2 + 1))), (0, .ref (ad 179)), (1, .ref (ad q1))]) hx hb d_5_16_28 hl (k := 2) rfl (oI_add x2 1) (by decide) rfl (fun ls hl => ?_)
    refine lv_goto (tgt := 11) hx hb d_5_16_31 (by decide) ?_
    obtain ⟨rfl, rfl, rfl⟩ := in3 h
    exact k0 rfl H locs ls hP hD hS (lv_sub hl [1, 2, 0] rfl)
set_option maxRecDepth 100000 in
set_option maxHeartbeats 4000000 in
theorem s_Co_multiplyAll_11 (l : Launch) (z : Zz) (ad : Nat → Nat) (E : Ev) (q1 : Nat) {Q : State → Prop} {p : Program} {e : Env} {s : State} {m : MethodId} {below : List Frame} {meth : Method} {c : Code} {A : Nat → Prop} {args : Array Value} (hx : p.tables.exec = Jvm.exec) (hb : c.code = prog_5_method_16_code) (hml : c.maxLocals = 4) (hts : ∀ w ∈ WG, w.before args s = true) (hown : s.vm.findClass "Ballothall$Counting" = some m.cls) (hlocks : meth.locks = false) (hA : ∀ q, s.heap.size ≤ q → A q) (hG : KG z s) (hZ : FZ z A s) (hL : Lay E) : ∀ (fu : Nat) (M : Mm) (x2 : Int) (t : Nat) (w2 : Int) (N : Mm), l_Co_multiplyAll_11 E q1 fu M x2 = some (t, w2, N) → (t = 1 → ∀ (H : Heap) (locs : List Loc) (ls : Array Slot), va_P z.1 classes (wv z ad E N) H → va_D A (wv z ad E N) → va_S A s.heap H locs → lv_has ls 4 [(0, .ref (ad 179)), (1, .ref (ad q1))] → W p l e (rmK 4 109 0 0) s m args below meth c H locs 0 0 Q (F0 m 34 ls [])) → ∀ (H : Heap) (locs : List Loc) (ls : Array Slot), va_P z.1 classes (wv z ad E M) H → va_D A (wv z ad E M) → va_S A s.heap H locs → lv_has ls 4 [(0, .ref (ad 179)), (1, .ref (ad q1)), (2, .int (oI x2))] → W p l e (rmK 4 109 0 0) s m args below meth c H locs 0 0 Q (F0 m 11 ls []) := by
  intro fu
  induction fu with
  | zero =>
    intro M x2 t w2 N h
    have h : (none : Option (Nat × Int × Mm)) = some _ := h
    cases h
  | succ fu ih =>
    intro M x2 t w2 N h k1 H locs ls hP hD hS hl
    obtain ⟨⟨t0, w20, N9⟩, g0, h⟩ := bd_e h
    refine b_Co_multiplyAll_11b l z ad E M q1 x2 t0 w20 N9 hx hb hml hts hown hlocks hA hG hZ hL g0 (fun e0 => ?_) (fun e0 => ?_) H locs ls hP hD hS hl
    · subst e0
      have h := ite_t rfl h
      exact ih N9 w20 t w2 N h k1
    · subst e0
      have h := ite_f (by decide) h
      obtain ⟨rfl, rfl, rfl⟩ := in3 h
      exact k1 rfl
set_option maxRecDepth 100000 in
set_option maxHeartbeats 4000000 in
theorem b_Co_multiplyAll_49b (l : Launch) (z : Zz) (ad : Nat → Nat) (E : Ev) (M : Mm) (q1 : Nat) (x2 : Int) (x3 : Int) (t : Nat) (w3 : Int) (N : Mm) {Q : State → Prop} {p : Program} {e : Env} {s : State} {m : MethodId} {below : List Frame} {meth : Method} {c : Code} {A : Nat → Prop} {args : Array Value} (hx : p.tables.exec = Jvm.exec) (hb : c.code = prog_5_method_16_code) (hml : c.maxLocals = 4) (hts : ∀ w ∈ WG, w.before args s = true) (hown : s.vm.findClass "Ballothall$Counting" = some m.cls) (hlocks : meth.locks = false) (hA : ∀ q, s.heap.size ≤ q → A q) (hG : KG z s) (hZ : FZ z A s) (hL : Lay E) (h : Co_multiplyAll_49b E M q1 x2 x3 = some (t, w3, N)) (k0 : t = 0 → ∀ (H : Heap) (locs : List Loc) (ls : Array Slot), va_P z.1 classes (wv z ad E N) H → va_D A (wv z ad E N) → va_S A s.heap H locs → lv_has ls 4 [(0, .ref (ad 179)), (1, .ref (ad q1)), (2, .int (oI x2)), (3, .int (oI w3))] → W p l e (rmK 4 109 0 0) s m args below meth c H locs 0 0 Q (F0 m 49 ls [])) (k1 : t = 1 → ∀ (H : Heap) (locs : List Loc) (ls : Array Slot), va_P z.1 classes (wv z ad E N) H → va_D A (wv z ad E N) → va_S A s.heap H locs → lv_has ls 4 [(0, .ref (ad 179)), (1, .ref (ad q1)), (2, .int (oI x2))] → W p l e (rmK 4 109 0 0) s m args below meth c H locs 0 0 Q (F0 m 88 ls [])) : ∀ (H : Heap) (locs : List Loc) (ls : Array Slot), va_P z.1 classes (wv z ad E M) H → va_D A (wv z ad E M) → va_S A s.heap H locs → lv_has ls 4 [(0, .ref (ad 179)), (1, .ref (ad q1)), (2, .int (oI x2)), (3, .int (oI x3))] → W p l e (rmK 4 109 0 0) s m args below meth c H locs 0 0 Q (F0 m 49 ls []) := by
  intro H locs ls hP hD hS hl
  unfold Co_multiplyAll_49b at h
  obtain ⟨h_q1, h⟩ := ck_e h
  refine lv_iload_n hx hb d_5_16_49 rfl (lv_at hl 3 rfl) ?_
  refine lv_aload_n hx hb d_5_16_50 rfl (lv_at hl 0 rfl) ?_
  refine m_gr (j := 2) (C := "Ballothall$Counting") (T := TX3) (N := 15) (ci := 3) (k := 0) hx hb hts iX3 hown hG hP (yi_179 hL) (yt_179 hL) rfl (by decide) w_303 (fun _ h9 => h9) rfl rfl (yr_179_0 hL) d_5_16_51 ?_
  refine m_giN (C := "Ballothall$BallotBox") (T := TX0) (N := 10) (ci := 0) (k := 2) hx hb hts iX0 hown hG hP (yi_2 hL) (yt_2 hL) rfl (by decide) n_55 rfl (fun _ h9 => h9) rfl rfl d_5_16_54 ?_
  obtain ⟨ok7, h⟩ := ck_e h
  obtain ⟨ok8, h⟩ := ck_e h
  refine lv_icmp_ge (tgt := 88) hx hb d_5_16_57 (by decide) (fun c9 => ?_) (fun c9 => ?_)
  · have h := ite_t ((oI_le (a := (M 2 2)) (b := x3) ok8 ok7).mp c9) h
    obtain ⟨rfl, rfl, rfl⟩ := in3 h
    exact k1 rfl H locs ls hP hD hS (lv_sub hl [0, 1, 2] rfl)
  · have h := ite_f (fun q => c9 ((oI_le (a := (M 2 2)) (b := x3) ok8 ok7).mpr q)) h
    refine lv_aload_n hx hb d_5_16_60 rfl (lv_at hl 0 rfl) ?_
    refine m_gi (C := "Ballothall$Counting") (T := TX3) (N := 15) (ci := 3) (k := 3) hx hb hts iX3 hown hG hP (yi_179 hL) (yt_179 hL) rfl (by decide) w_306 (fun _ h9 => h9) rfl rfl d_5_16_61 ?_
    refine lv_iload_n hx hb d_5_16_64 rfl (lv_at hl 3 rfl) ?_
    obtain ⟨r9, g9, h⟩ := bd_e h
    refine kSN (As := [.int (oI (M 179 3)), .int (oI x3)]) (rest := []) (s_B_has l z ad E M (M 179 3) x3 r9 hL g9) hx hb hml hown hts w_693 n_1143 w_692 w_1 md_26545c ⟨Nat.le_of_ble_eq_true rfl, Nat.le_of_ble_eq_true rfl⟩ hG hZ hP hD hS hA rfl hl.1 rfl (Nat.le_of_ble_eq_true rfl) d_5_16_65 ⟨Nat.le_of_ble_eq_true rfl, Nat.le_of_ble_eq_true rfl⟩ (fun _ H locs hP hD hS => ?_)
    have hP : va_P z.1 classes (wv z ad E M) H := hP
    have hD : va_D A (wv z ad E M) := hD
    refine W.eq (g2 := F0 m 68 ls [.int (oI r9)]) rfl ?_
    obtain ⟨ok10, h⟩ := ck_e h
    refine lv_if_eq (tgt := 82) hx hb d_5_16_68 (by decide) (fun c9 => ?_) (fun c9 => ?_)
    · have h := ite_t ((oI_eq0 ok10).mp c9) h
      refine lv_iinc (v := oI (x3 + 1)) (lv' := [(3, .int (oI (x3 + 1))), (0, .ref (ad 179)), (1, .ref (ad q1)), (2, .int (oI x2))]) hx hb d_5_16_82 hl (k := 3) rfl (oI_add x3 1) (by decide) rfl (fun ls hl => ?_)
      refine lv_goto (tgt := 49) hx hb d_5_16_85 (by decide) ?_
      obtain ⟨rfl, rfl, rfl⟩ := in3 h
      exact k0 rfl H locs ls hP hD hS (lv_sub hl [1, 2, 3, 0] rfl)
    · have h := ite_f (fun q => c9 ((oI_eq0 ok10).mpr q)) h
      refine lv_aload_n hx hb d_5_16_71 rfl (lv_at hl 0 rfl) ?_
      refine lv_aload_n hx hb d_5_16_72 rfl (lv_at hl 0 rfl) ?_
      refine lv_iload_n hx hb d_5_16_73 rfl (lv_at hl 2 rfl) ?_
      refine lv_iload_n hx hb d_5_16_74 rfl (lv_at hl 3 rfl) ?_
      obtain ⟨r11, g11, h⟩ := bd_e h
      refine kV (As := [.int (oI x2), .int (oI x3)]) (rest := [.ref (ad 179)]) (s_Co_weightOf l z ad E M x2 x3 r11 hL g11) hx hb hml hown hts w_1132 w_1129 w_1131 w_s_b275fa w_8 md_759e51 ⟨Nat.le_of_ble_eq_true rfl, Nat.le_of_ble_eq_true rfl⟩ hG hZ hP hD hS hA 179 (wv_o (ci := 3) (yi_179 hL) (yt_179 hL)) rfl rfl rfl hl.1 rfl (Nat.le_of_ble_eq_true rfl) d_5_16_75 ⟨Nat.le_of_ble_eq_true rfl, Nat.le_of_ble_eq_true rfl⟩ (fun _ H locs hP hD hS => ?_)
      have hP : va_P z.1 classes (wv z ad E M) H := hP
      have hD : va_D A (wv z ad E M) := hD
      obtain ⟨h_r11, h⟩ := ck_e h
      refine W.eq (g2 := F0 m 78 ls [.ref (ad r11), .ref (ad 179)]) rfl ?_
      refine lv_aload_n hx hb d_5_16_78 rfl (lv_at hl 1 rfl) ?_
      obtain ⟨M12, g12, h⟩ := bd_e h
      refine kV (As := [.ref (ad r11), .ref (ad q1)]) (rest := []) (s_Co_multiply l z ad E M r11 q1 M12 hL g12) hx hb hml hown hts w_1226 w_1223 w_1225 w_s_a6a853 w_8 md_9c876f ⟨Nat.le_of_ble_eq_true rfl, Nat.le_of_ble_eq_true rfl⟩ hG hZ hP hD hS hA 179 (wv_o (ci := 3) (yi_179 hL) (yt_179 hL)) rfl rfl rfl hl.1 rfl (Nat.le_of_ble_eq_true rfl) d_5_16_79 ⟨Nat.le_of_ble_eq_true rfl, Nat.le_of_ble_eq_true rfl⟩ (fun _ H locs hP hD hS => ?_)
      have hP : va_P z.1 classes (wv z ad E M12) H := hP
      have hD : va_D A (wv z ad E M12) := hD
      refine W.eq (g2 := F0 m 82 ls []) rfl ?_
      refine lv_iinc (v := oI (x3 + 1)) (lv' := [(3, .int (oI (x3 + 1))), (0, .ref (ad 179)), (1, .ref (ad q1)), (2, .int (oI x2))]) hx hb d_5_16_82 hl (k := 3) rfl (oI_add x3 1) (by decide) rfl (fun ls hl => ?_)
      refine lv_goto (tgt := 49) hx hb d_5_16_85 (by decide) ?_
      obtain ⟨rfl, rfl, rfl⟩ := in3 h
      exact k0 rfl H locs ls hP hD hS (lv_sub hl [1, 2, 3, 0] rfl)
