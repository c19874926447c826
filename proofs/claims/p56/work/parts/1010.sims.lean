set_option maxRecDepth 100000 in
set_option maxHeartbeats 4000000 in
theorem s_B_solidQuotas (l : Launch) (z : Zz) (ad : Nat → Nat) (E : Ev) (M : Mm) (x1 : Int) (r : Int) (N : Mm) (hL : Lay E) (h : f_B_solidQuotas E M x1 = some (r, N)) : CT l z ⟨"Ballothall", "solidQuotas", "(I)I"⟩ prog_1_method_24_code 3 (some .int) [.ref (ad 1), .int (oI x1)] (wv z ad E M) 2 70 0 0 (fun _ => some (.int (oI r))) (fun _ => (wv z ad E N)) := by
  refine CT.of (own := "Ballothall") (by decide +kernel) (Nat.le_of_ble_eq_true rfl) rfl (fun p e s m below meth c A ls hx hb hml hr hts hown hlocks hin hA hG hZ hP hD hS hl => ?_)
  have hl : lv_has ls 3 [(0, .ref (ad 1)), (1, .int (oI x1))] := hl
  have key : ∀ (H : Heap) (locs : List Loc) (args : Array Value), (∀ w ∈ WG, w.before args s = true) → va_P z.1 classes (wv z ad E M) H → va_S A s.heap H locs → W p l e (rmK 2 70 0 0) s m args below meth c H locs 0 0 (MQ below (QK z A (fun _ => some (.int (oI r))) (fun _ => (wv z ad E N))) args s 0 0 A) (F0 m 0 ls []) := by
    intro H locs args hts hP hS
    unfold f_B_solidQuotas at h
    refine lv_iload_n hx hb d_1_24_0 rfl (lv_at hl 1 rfl) ?_
    refine lv_iconst (v := oI 1) hx hb d_1_24_1 (by decide +kernel) ?_
    refine lv_aload_n hx hb d_1_24_2 rfl (lv_at hl 0 rfl) ?_
    refine m_gr (j := 2) (C := "Ballothall") (T := TX11) (N := 14) (ci := 11) (k := 0) hx hb hts iX11 hown hG hP (yi_1 hL) (yt_1 hL) rfl (by decide) w_397 (fun _ h9 => h9) rfl rfl (yr_1_0 hL) d_1_24_3 ?_
    obtain ⟨r0, g0, h⟩ := bd_e h
    refine kVN (As := []) (rest := [.int (oI 1), .int (oI x1)]) (s_Bx_everybody l z ad E M r0 hL g0) hx hb hml hown hts w_668 n_665 w_667 w_s_8b8b67 w_2 md_b59579 ⟨Nat.le_of_ble_eq_true rfl, Nat.le_of_ble_eq_true rfl⟩ hG hZ hP hD hS hA 2 (wv_o (ci := 0) (yi_2 hL) (yt_2 hL)) rfl rfl rfl hl.1 rfl (Nat.le_of_ble_eq_true rfl) d_1_24_6 ⟨Nat.le_of_ble_eq_true rfl, Nat.le_of_ble_eq_true rfl⟩ (fun _ H locs hP hD hS => ?_)
    have hP : va_P z.1 classes (wv z ad E M) H := hP
    have hD : va_D A (wv z ad E M) := hD
    refine W.eq (g2 := F0 m 9 ls [.int (oI r0), .int (oI 1), .int (oI x1)]) rfl ?_
    obtain ⟨_, g1, h⟩ := bd_e h
    refine kS (As := [.int (oI x1), .int (oI 1), .int (oI r0)]) (rest := []) (s_B_needRange l z ad E M x1 1 r0 hL g1) hx hb hml hown hts w_548 w_546 w_547 w_1 md_519134 ⟨Nat.le_of_ble_eq_true rfl, Nat.le_of_ble_eq_true rfl⟩ hG hZ hP hD hS hA rfl hl.1 rfl (Nat.le_of_ble_eq_true rfl) d_1_24_9 ⟨Nat.le_of_ble_eq_true rfl, Nat.le_of_ble_eq_true rfl⟩ (fun _ H locs hP hD hS => ?_)
    have hP : va_P z.1 classes (wv z ad E M) H := hP
    have hD : va_D A (wv z ad E M) := hD
    refine W.eq (g2 := F0 m 12 ls []) rfl ?_
    refine lv_aload_n hx hb d_1_24_12 rfl (lv_at hl 0 rfl) ?_
    refine m_gr (j := 179) (C := "Ballothall") (T := TX11) (N := 14) (ci := 11) (k := 4) hx hb hts iX11 hown hG hP (yi_1 hL) (yt_1 hL) rfl (by decide) w_401 (fun _ h9 => h9) rfl rfl (yr_1_4 hL) d_1_24_13 ?_
    obtain ⟨r2, g2, h⟩ := bd_e h
    refine kVN (As := []) (rest := []) (s_Co_latest l z ad E M r2 hL g2) hx hb hml hown hts w_596 n_593 w_595 w_s_ad1675 w_8 md_6f7cc1 ⟨Nat.le_of_ble_eq_true rfl, Nat.le_of_ble_eq_true rfl⟩ hG hZ hP hD hS hA 179 (wv_o (ci := 3) (yi_179 hL) (yt_179 hL)) rfl rfl rfl hl.1 rfl (Nat.le_of_ble_eq_true rfl) d_1_24_16 ⟨Nat.le_of_ble_eq_true rfl, Nat.le_of_ble_eq_true rfl⟩ (fun _ H locs hP hD hS => ?_)
    have hP : va_P z.1 classes (wv z ad E M) H := hP
    have hD : va_D A (wv z ad E M) := hD
    cases r2 with
    | none =>
      refine W.eq (g2 := F0 m 19 ls [.null]) rfl ?_
      refine lv_astore_nN (lv' := [(2, .null), (0, .ref (ad 1)), (1, .int (oI x1))]) hx hb d_1_24_19 rfl hl (by decide) rfl (fun ls hl => ?_)
      refine lv_aload_nN hx hb d_1_24_20 rfl (lv_at hl 0 rfl) ?_
      refine lv_ifnullN (tgt := 32) hx hb d_1_24_21 (by decide) ?_
      cases h
    | some p2 =>
      obtain ⟨h_p2, h⟩ := ck_e h
      refine W.eq (g2 := F0 m 19 ls [.ref (ad p2)]) rfl ?_
      refine lv_astore_n (lv' := [(2, .ref (ad p2)), (0, .ref (ad 1)), (1, .int (oI x1))]) hx hb d_1_24_19 rfl hl (by decide) rfl (fun ls hl => ?_)
      refine lv_aload_n hx hb d_1_24_20 rfl (lv_at hl 0 rfl) ?_
      refine lv_ifnull hx hb d_1_24_21 ?_
      refine lv_aload_n hx hb d_1_24_24 rfl (lv_at hl 0 rfl) ?_
      refine m_giN (C := "Ballothall$Count") (T := TX2) (N := 10) (ci := 2) (k := 0) hx hb hts iX2 hown hG hP (isCt_i h_p2) (isCt_T h_p2) rfl (by decide) n_1080 rfl (fun _ h9 => h9) rfl rfl d_1_24_25 ?_
      refine lv_iconst (v := oI 1) hx hb d_1_24_28 (by decide +kernel) ?_
      obtain ⟨ok3, h⟩ := ck_e h
      refine lv_icmp_ge (tgt := 42) hx hb d_1_24_29 (by decide) (fun c9 => ?_) (fun c9 => ?_)
      · have h := ite_t ((oI_le (a := (1 : Int)) (b := (M p2 0)) (by decide) ok3).mp c9) h
        refine lv_aload_n hx hb d_1_24_42 rfl (lv_at hl 1 rfl) ?_
        refine m_gr (j := 2) (C := "Ballothall") (T := TX11) (N := 14) (ci := 11) (k := 0) hx hb hts iX11 hown hG hP (yi_1 hL) (yt_1 hL) rfl (by decide) w_397 (fun _ h9 => h9) rfl rfl (yr_1_0 hL) d_1_24_43 ?_
        refine lv_aload_n hx hb d_1_24_46 rfl (lv_at hl 1 rfl) ?_
        refine m_gr (j := 2) (C := "Ballothall") (T := TX11) (N := 14) (ci := 11) (k := 0) hx hb hts iX11 hown hG hP (yi_1 hL) (yt_1 hL) rfl (by decide) w_397 (fun _ h9 => h9) rfl rfl (yr_1_0 hL) d_1_24_47 ?_
        refine m_grN (j := 5) (C := "Ballothall$BallotBox") (T := TX0) (N := 10) (ci := 0) (k := 5) hx hb hts iX0 hown hG hP (yi_2 hL) (yt_2 hL) rfl (by decide) n_66 rfl (fun _ h9 => h9) rfl rfl (yr_2_5 hL) d_1_24_50 ?_
        refine lv_aload_n hx hb d_1_24_53 rfl (lv_at hl 1 rfl) ?_
        refine m_gr (j := 2) (C := "Ballothall") (T := TX11) (N := 14) (ci := 11) (k := 0) hx hb hts iX11 hown hG hP (yi_1 hL) (yt_1 hL) rfl (by decide) w_397 (fun _ h9 => h9) rfl rfl (yr_1_0 hL) d_1_24_54 ?_
        refine m_giN (C := "Ballothall$BallotBox") (T := TX0) (N := 10) (ci := 0) (k := 3) hx hb hts iX0 hown hG hP (yi_2 hL) (yt_2 hL) rfl (by decide) n_58 rfl (fun _ h9 => h9) rfl rfl d_1_24_57 ?_
        refine lv_aload_n hx hb d_1_24_60 rfl (lv_at hl 1 rfl) ?_
        refine m_gr (j := 2) (C := "Ballothall") (T := TX11) (N := 14) (ci := 11) (k := 0) hx hb hts iX11 hown hG hP (yi_1 hL) (yt_1 hL) rfl (by decide) w_397 (fun _ h9 => h9) rfl rfl (yr_1_0 hL) d_1_24_61 ?_
        obtain ⟨r4, g4, h⟩ := bd_e h
        refine kVN (As := []) (rest := [.int (oI (M 2 3)), .ref (ad 5), .ref (ad 2)]) (s_Bx_everybody l z ad E M r4 hL g4) hx hb hml hown hts w_668 n_665 w_667 w_s_8b8b67 w_2 md_b59579 ⟨Nat.le_of_ble_eq_true rfl, Nat.le_of_ble_eq_true rfl⟩ hG hZ hP hD hS hA 2 (wv_o (ci := 0) (yi_2 hL) (yt_2 hL)) rfl rfl rfl hl.1 rfl (Nat.le_of_ble_eq_true rfl) d_1_24_64 ⟨Nat.le_of_ble_eq_true rfl, Nat.le_of_ble_eq_true rfl⟩ (fun _ H locs hP hD hS => ?_)
        have hP : va_P z.1 classes (wv z ad E M) H := hP
        have hD : va_D A (wv z ad E M) := hD
        refine W.eq (g2 := F0 m 67 ls [.int (oI r4), .int (oI (M 2 3)), .ref (ad 5), .ref (ad 2)]) rfl ?_
        obtain ⟨M5, g5, h⟩ := bd_e h
        refine kVN (As := [.ref (ad 5), .int (oI (M 2 3)), .int (oI r4)]) (rest := []) (s_Bx_findSupport l z ad E M 5 (M 2 3) r4 M5 hL g5) hx hb hml hown hts w_650 n_647 w_649 w_s_0b6f71 w_2 md_c007fa ⟨Nat.le_of_ble_eq_true rfl, Nat.le_of_ble_eq_true rfl⟩ hG hZ hP hD hS hA 2 (wv_o (ci := 0) (yi_2 hL) (yt_2 hL)) rfl rfl rfl hl.1 rfl (Nat.le_of_ble_eq_true rfl) d_1_24_67 ⟨Nat.le_of_ble_eq_true rfl, Nat.le_of_ble_eq_true rfl⟩ (fun _ H locs hP hD hS => ?_)
        have hP : va_P z.1 classes (wv z ad E M5) H := hP
        have hD : va_D A (wv z ad E M5) := hD
        refine W.eq (g2 := F0 m 70 ls []) rfl ?_
        refine lv_aload_n hx hb d_1_24_70 rfl (lv_at hl 1 rfl) ?_
        refine m_gr (j := 2) (C := "Ballothall") (T := TX11) (N := 14) (ci := 11) (k := 0) hx hb hts iX11 hown hG hP (yi_1 hL) (yt_1 hL) rfl (by decide) w_397 (fun _ h9 => h9) rfl rfl (yr_1_0 hL) d_1_24_71 ?_
        refine m_grN (j := 40) (C := "Ballothall$BallotBox") (T := TX0) (N := 10) (ci := 0) (k := 9) hx hb hts iX0 hown hG hP (yi_2 hL) (yt_2 hL) rfl (by decide) n_78 rfl (fun _ h9 => h9) rfl rfl (yr_2_9 hL) d_1_24_74 ?_
        refine lv_iload_n hx hb d_1_24_77 rfl (lv_at hl 2 rfl) ?_
        obtain ⟨ok6, h⟩ := ck_e h
        refine m_ia hx hb hG hP (yi_40 hL) (yt_40 hL) ok6 d_1_24_78 ?_
        refine lv_aload_n hx hb d_1_24_79 rfl (lv_at hl 0 rfl) ?_
        refine m_giN (C := "Ballothall$Count") (T := TX2) (N := 10) (ci := 2) (k := 0) hx hb hts iX2 hown hG hP (isCt_i h_p2) (isCt_T h_p2) rfl (by decide) n_1080 rfl (fun _ h9 => h9) rfl rfl d_1_24_80 ?_
        obtain ⟨ok7, h⟩ := ck_e h
        obtain ⟨ok8, h⟩ := ck_e h
        refine lv_idiv hx hb d_1_24_83 (oI_nz ok8.1 ok8.2) ?_
        refine nrm (oI_div (a := (M5 40 x1.toNat)) (b := (M5 p2 0)) ok7.1 ok7.2 ok8.1 ok8.2) ?_
        refine lv_iload_n hx hb d_1_24_84 rfl (lv_at hl 2 rfl) ?_
        obtain ⟨r9, g9, h⟩ := bd_e h
        refine kS (As := [.int (oI x1)]) (rest := [.int (oI ((M5 40 x1.toNat) / (M5 p2 0)))]) (s_In_bitCount l z ad E M5 x1 r9 hL g9) hx hb hml hown hts w_657 w_655 w_656 w_30 md_eafe8c ⟨Nat.le_of_ble_eq_true rfl, Nat.le_of_ble_eq_true rfl⟩ hG hZ hP hD hS hA rfl hl.1 rfl (Nat.le_of_ble_eq_true rfl) d_1_24_85 ⟨Nat.le_of_ble_eq_true rfl, Nat.le_of_ble_eq_true rfl⟩ (fun _ H locs hP hD hS => ?_)
        have hP : va_P z.1 classes (wv z ad E M5) H := hP
        have hD : va_D A (wv z ad E M5) := hD
        refine W.eq (g2 := F0 m 88 ls [.int (oI r9), .int (oI ((M5 40 x1.toNat) / (M5 p2 0)))]) rfl ?_
        obtain ⟨ok10, h⟩ := ck_e h
        obtain ⟨ok11, h⟩ := ck_e h
        refine va_mmin hx hb (by rw [hml]; exact hl.1.symm) hown (hts _ w_520) (hts _ w_521) (hts _ w_17) (hts _ w_min) (Nat.le_of_ble_eq_true rfl) (Nat.le_of_ble_eq_true rfl) (Nat.le_of_ble_eq_true rfl) (Nat.le_of_ble_eq_true rfl) d_1_24_88 ?_
        refine nrm (mn_oI (a := ((M5 40 x1.toNat) / (M5 p2 0))) (b := r9) ok10 ok11) ?_
        obtain ⟨v12, e12, h⟩ := nb_e h
        refine nrm (congrArg oI e12.symm) ?_
        obtain ⟨rfl, rfl⟩ := in2 h
        exact W.iret hx hb hr (fun t ht hW => qkA hP hD hS (fun k => k) rfl rfl ht) hS.2.2 d_1_24_91
      · have h := ite_f (fun q => c9 ((oI_le (a := (1 : Int)) (b := (M p2 0)) (by decide) ok3).mpr q)) h
        cases h
  exact key _ _ _ hts hP hS
set_option maxRecDepth 100000 in
set_option maxHeartbeats 4000000 in
theorem s_B_steps (l : Launch) (z : Zz) (ad : Nat → Nat) (E : Ev) (M : Mm) (r : Int)  (hL : Lay E) (h : f_B_steps E M = some r) : CT l z ⟨"Ballothall", "steps", "()I"⟩ prog_1_method_21_code 2 (some .int) [.ref (ad 1)] (wv z ad E M) 1 40 0 0 (fun _ => some (.int (oI r))) (fun _ => (wv z ad E M)) := by
  refine CT.of (own := "Ballothall") (by decide +kernel) (Nat.le_of_ble_eq_true rfl) rfl (fun p e s m below meth c A ls hx hb hml hr hts hown hlocks hin hA hG hZ hP hD hS hl => ?_)
  have hl : lv_has ls 2 [(0, .ref (ad 1))] := hl
  have key : ∀ (H : Heap) (locs : List Loc) (args : Array Value), (∀ w ∈ WG, w.before args s = true) → va_P z.1 classes (wv z ad E M) H → va_S A s.heap H locs → W p l e (rmK 1 40 0 0) s m args below meth c H locs 0 0 (MQ below (QK z A (fun _ => some (.int (oI r))) (fun _ => (wv z ad E M))) args s 0 0 A) (F0 m 0 ls []) := by
    intro H locs args hts hP hS
    unfold f_B_steps at h
    refine lv_aload_n hx hb d_1_21_0 rfl (lv_at hl 0 rfl) ?_
    refine m_gr (j := 179) (C := "Ballothall") (T := TX11) (N := 14) (ci := 11) (k := 4) hx hb hts iX11 hown hG hP (yi_1 hL) (yt_1 hL) rfl (by decide) w_401 (fun _ h9 => h9) rfl rfl (yr_1_4 hL) d_1_21_1 ?_
    obtain ⟨r0, g0, h⟩ := bd_e h
    refine kVN (As := []) (rest := []) (s_Co_latest l z ad E M r0 hL g0) hx hb hml hown hts w_596 n_593 w_595 w_s_ad1675 w_8 md_6f7cc1 ⟨Nat.le_of_ble_eq_true rfl, Nat.le_of_ble_eq_true rfl⟩ hG hZ hP hD hS hA 179 (wv_o (ci := 3) (yi_179 hL) (yt_179 hL)) rfl rfl rfl hl.1 rfl (Nat.le_of_ble_eq_true rfl) d_1_21_4 ⟨Nat.le_of_ble_eq_true rfl, Nat.le_of_ble_eq_true rfl⟩ (fun _ H locs hP hD hS => ?_)
    have hP : va_P z.1 classes (wv z ad E M) H := hP
    have hD : va_D A (wv z ad E M) := hD
    cases r0 with
    | none =>
      refine W.eq (g2 := F0 m 7 ls [.null]) rfl ?_
      refine lv_astore_nN (lv' := [(1, .null), (0, .ref (ad 1))]) hx hb d_1_21_7 rfl hl (by decide) rfl (fun ls hl => ?_)
      refine lv_aload_nN hx hb d_1_21_8 rfl (lv_at hl 0 rfl) ?_
      refine lv_ifnonnullN hx hb d_1_21_9 ?_
      refine lv_iconst (v := oI 0) hx hb d_1_21_12 (by decide +kernel) ?_
      refine lv_goto (tgt := 25) hx hb d_1_21_13 (by decide) ?_
      obtain rfl := in1 h
      exact W.iret hx hb hr (fun t ht hW => qkA hP hD hS (fun k => k) rfl rfl ht) hS.2.2 d_1_21_25
    | some p0 =>
      obtain ⟨h_p0, h⟩ := ck_e h
      refine W.eq (g2 := F0 m 7 ls [.ref (ad p0)]) rfl ?_
      refine lv_astore_n (lv' := [(1, .ref (ad p0)), (0, .ref (ad 1))]) hx hb d_1_21_7 rfl hl (by decide) rfl (fun ls hl => ?_)
      refine lv_aload_n hx hb d_1_21_8 rfl (lv_at hl 0 rfl) ?_
      refine lv_ifnonnull (tgt := 16) hx hb d_1_21_9 (by decide) ?_
      refine lv_aload_n hx hb d_1_21_16 rfl (lv_at hl 0 rfl) ?_
      refine m_giN (C := "Ballothall$Count") (T := TX2) (N := 10) (ci := 2) (k := 4) hx hb hts iX2 hown hG hP (isCt_i h_p0) (isCt_T h_p0) rfl (by decide) n_1087 rfl (fun _ h9 => h9) rfl rfl d_1_21_17 ?_
      refine lv_aload_n hx hb d_1_21_20 rfl (lv_at hl 0 rfl) ?_
      refine m_giN (C := "Ballothall$Count") (T := TX2) (N := 10) (ci := 2) (k := 5) hx hb hts iX2 hown hG hP (isCt_i h_p0) (isCt_T h_p0) rfl (by decide) n_1089 rfl (fun _ h9 => h9) rfl rfl d_1_21_21 ?_
      refine lv_iadd hx hb d_1_21_24 ?_
      refine nrm (oI_add _ _) ?_
      obtain rfl := in1 h
      exact W.iret hx hb hr (fun t ht hW => qkA hP hD hS (fun k => k) rfl rfl ht) hS.2.2 d_1_21_25
  exact key _ _ _ hts hP hS
set_option maxRecDepth 100000 in
set_option maxHeartbeats 4000000 in
theorem s_B_strongestPath (l : Launch) (z : Zz) (ad : Nat → Nat) (E : Ev) (M : Mm) (x1 : Int) (x2 : Int) (r : Int) (N : Mm) (hL : Lay E) (h : f_B_strongestPath E M x1 x2 = some (r, N)) : CT l z ⟨"Ballothall", "strongestPath", "(II)I"⟩ prog_1_method_27_code 3 (some .int) [.ref (ad 1), .int (oI x1), .int (oI x2)] (wv z ad E M) 4 115 0 0 (fun _ => some (.int (oI r))) (fun _ => (wv z ad E N)) := by
  refine CT.of (own := "Ballothall") (by decide +kernel) (Nat.le_of_ble_eq_true rfl) rfl (fun p e s m below meth c A ls hx hb hml hr hts hown hlocks hin hA hG hZ hP hD hS hl => ?_)
  have hl : lv_has ls 3 [(0, .ref (ad 1)), (1, .int (oI x1)), (2, .int (oI x2))] := hl
  have key : ∀ (H : Heap) (locs : List Loc) (args : Array Value), (∀ w ∈ WG, w.before args s = true) → va_P z.1 classes (wv z ad E M) H → va_S A s.heap H locs → W p l e (rmK 4 115 0 0) s m args below meth c H locs 0 0 (MQ below (QK z A (fun _ => some (.int (oI r))) (fun _ => (wv z ad E N))) args s 0 0 A) (F0 m 0 ls []) := by
    intro H locs args hts hP hS
    unfold f_B_strongestPath at h
    refine lv_iload_n hx hb d_1_27_0 rfl (lv_at hl 1 rfl) ?_
    refine lv_aload_n hx hb d_1_27_1 rfl (lv_at hl 0 rfl) ?_
    refine m_gr (j := 2) (C := "Ballothall") (T := TX11) (N := 14) (ci := 11) (k := 0) hx hb hts iX11 hown hG hP (yi_1 hL) (yt_1 hL) rfl (by decide) w_397 (fun _ h9 => h9) rfl rfl (yr_1_0 hL) d_1_27_2 ?_
    refine m_giN (C := "Ballothall$BallotBox") (T := TX0) (N := 10) (ci := 0) (k := 2) hx hb hts iX0 hown hG hP (yi_2 hL) (yt_2 hL) rfl (by decide) n_52 rfl (fun _ h9 => h9) rfl rfl d_1_27_5 ?_
    obtain ⟨_, g0, h⟩ := bd_e h
    refine kS (As := [.int (oI x1), .int (oI (M 2 2))]) (rest := []) (s_B_needIndex l z ad E M x1 (M 2 2) hL g0) hx hb hml hown hts w_529 w_527 w_528 w_1 md_6cb26b ⟨Nat.le_of_ble_eq_true rfl, Nat.le_of_ble_eq_true rfl⟩ hG hZ hP hD hS hA rfl hl.1 rfl (Nat.le_of_ble_eq_true rfl) d_1_27_8 ⟨Nat.le_of_ble_eq_true rfl, Nat.le_of_ble_eq_true rfl⟩ (fun _ H locs hP hD hS => ?_)
    have hP : va_P z.1 classes (wv z ad E M) H := hP
    have hD : va_D A (wv z ad E M) := hD
    refine W.eq (g2 := F0 m 11 ls []) rfl ?_
    refine lv_iload_n hx hb d_1_27_11 rfl (lv_at hl 2 rfl) ?_
    refine lv_aload_n hx hb d_1_27_12 rfl (lv_at hl 0 rfl) ?_
    refine m_gr (j := 2) (C := "Ballothall") (T := TX11) (N := 14) (ci := 11) (k := 0) hx hb hts iX11 hown hG hP (yi_1 hL) (yt_1 hL) rfl (by decide) w_397 (fun _ h9 => h9) rfl rfl (yr_1_0 hL) d_1_27_13 ?_
    refine m_giN (C := "Ballothall$BallotBox") (T := TX0) (N := 10) (ci := 0) (k := 2) hx hb hts iX0 hown hG hP (yi_2 hL) (yt_2 hL) rfl (by decide) n_52 rfl (fun _ h9 => h9) rfl rfl d_1_27_16 ?_
    obtain ⟨_, g1, h⟩ := bd_e h
    refine kS (As := [.int (oI x2), .int (oI (M 2 2))]) (rest := []) (s_B_needIndex l z ad E M x2 (M 2 2) hL g1) hx hb hml hown hts w_529 w_527 w_528 w_1 md_6cb26b ⟨Nat.le_of_ble_eq_true rfl, Nat.le_of_ble_eq_true rfl⟩ hG hZ hP hD hS hA rfl hl.1 rfl (Nat.le_of_ble_eq_true rfl) d_1_27_19 ⟨Nat.le_of_ble_eq_true rfl, Nat.le_of_ble_eq_true rfl⟩ (fun _ H locs hP hD hS => ?_)
    have hP : va_P z.1 classes (wv z ad E M) H := hP
    have hD : va_D A (wv z ad E M) := hD
    refine W.eq (g2 := F0 m 22 ls []) rfl ?_
    refine lv_aload_n hx hb d_1_27_22 rfl (lv_at hl 0 rfl) ?_
    refine m_gr (j := 41) (C := "Ballothall") (T := TX11) (N := 14) (ci := 11) (k := 1) hx hb hts iX11 hown hG hP (yi_1 hL) (yt_1 hL) rfl (by decide) w_398 (fun _ h9 => h9) rfl rfl (yr_1_1 hL) d_1_27_23 ?_
    refine lv_aload_n hx hb d_1_27_26 rfl (lv_at hl 0 rfl) ?_
    refine m_gr (j := 2) (C := "Ballothall") (T := TX11) (N := 14) (ci := 11) (k := 0) hx hb hts iX11 hown hG hP (yi_1 hL) (yt_1 hL) rfl (by decide) w_397 (fun _ h9 => h9) rfl rfl (yr_1_0 hL) d_1_27_27 ?_
    obtain ⟨r2, g2, h⟩ := bd_e h
    refine kVN (As := []) (rest := [.ref (ad 41)]) (s_Bx_everybody l z ad E M r2 hL g2) hx hb hml hown hts w_668 n_665 w_667 w_s_8b8b67 w_2 md_b59579 ⟨Nat.le_of_ble_eq_true rfl, Nat.le_of_ble_eq_true rfl⟩ hG hZ hP hD hS hA 2 (wv_o (ci := 0) (yi_2 hL) (yt_2 hL)) rfl rfl rfl hl.1 rfl (Nat.le_of_ble_eq_true rfl) d_1_27_30 ⟨Nat.le_of_ble_eq_true rfl, Nat.le_of_ble_eq_true rfl⟩ (fun _ H locs hP hD hS => ?_)
    have hP : va_P z.1 classes (wv z ad E M) H := hP
    have hD : va_D A (wv z ad E M) := hD
    refine W.eq (g2 := F0 m 33 ls [.int (oI r2), .ref (ad 41)]) rfl ?_
    obtain ⟨M3, g3, h⟩ := bd_e h
    refine kVN (As := [.int (oI r2)]) (rest := []) (s_Po_open l z ad E M r2 M3 hL g3) hx hb hml hown hts w_672 n_669 w_671 w_s_229dc4 w_3 md_60bc9b ⟨Nat.le_of_ble_eq_true rfl, Nat.le_of_ble_eq_true rfl⟩ hG hZ hP hD hS hA 41 (wv_o (ci := 9) (yi_41 hL) (yt_41 hL)) rfl rfl rfl hl.1 rfl (Nat.le_of_ble_eq_true rfl) d_1_27_33 ⟨Nat.le_of_ble_eq_true rfl, Nat.le_of_ble_eq_true rfl⟩ (fun _ H locs hP hD hS => ?_)
    have hP : va_P z.1 classes (wv z ad E M3) H := hP
    have hD : va_D A (wv z ad E M3) := hD
    refine W.eq (g2 := F0 m 36 ls []) rfl ?_
    refine lv_aload_n hx hb d_1_27_36 rfl (lv_at hl 0 rfl) ?_
    refine m_gr (j := 41) (C := "Ballothall") (T := TX11) (N := 14) (ci := 11) (k := 1) hx hb hts iX11 hown hG hP (yi_1 hL) (yt_1 hL) rfl (by decide) w_398 (fun _ h9 => h9) rfl rfl (yr_1_1 hL) d_1_27_37 ?_
    obtain ⟨M4, g4, h⟩ := bd_e h
    refine kVN (As := []) (rest := []) (s_Po_findPaths l z ad E M3 M4 hL g4) hx hb hml hown hts w_729 n_1331 w_728 w_s_3d2a4d w_3 md_b5f468 ⟨Nat.le_of_ble_eq_true rfl, Nat.le_of_ble_eq_true rfl⟩ hG hZ hP hD hS hA 41 (wv_o (ci := 9) (yi_41 hL) (yt_41 hL)) rfl rfl rfl hl.1 rfl (Nat.le_of_ble_eq_true rfl) d_1_27_40 ⟨Nat.le_of_ble_eq_true rfl, Nat.le_of_ble_eq_true rfl⟩ (fun _ H locs hP hD hS => ?_)
    have hP : va_P z.1 classes (wv z ad E M4) H := hP
    have hD : va_D A (wv z ad E M4) := hD
    refine W.eq (g2 := F0 m 43 ls []) rfl ?_
    refine lv_aload_n hx hb d_1_27_43 rfl (lv_at hl 0 rfl) ?_
    refine m_gr (j := 41) (C := "Ballothall") (T := TX11) (N := 14) (ci := 11) (k := 1) hx hb hts iX11 hown hG hP (yi_1 hL) (yt_1 hL) rfl (by decide) w_398 (fun _ h9 => h9) rfl rfl (yr_1_1 hL) d_1_27_44 ?_
    refine lv_iload_n hx hb d_1_27_47 rfl (lv_at hl 1 rfl) ?_
    refine lv_iload_n hx hb d_1_27_48 rfl (lv_at hl 2 rfl) ?_
    obtain ⟨r5, g5, h⟩ := bd_e h
    refine kVN (As := [.int (oI x1), .int (oI x2)]) (rest := []) (s_Po_path l z ad E M4 x1 x2 r5 hL g5) hx hb hml hown hts w_733 n_1332 w_732 w_s_f68c3b w_3 md_2f75ac ⟨Nat.le_of_ble_eq_true rfl, Nat.le_of_ble_eq_true rfl⟩ hG hZ hP hD hS hA 41 (wv_o (ci := 9) (yi_41 hL) (yt_41 hL)) rfl rfl rfl hl.1 rfl (Nat.le_of_ble_eq_true rfl) d_1_27_49 ⟨Nat.le_of_ble_eq_true rfl, Nat.le_of_ble_eq_true rfl⟩ (fun _ H locs hP hD hS => ?_)
    have hP : va_P z.1 classes (wv z ad E M4) H := hP
    have hD : va_D A (wv z ad E M4) := hD
    refine W.eq (g2 := F0 m 52 ls [.int (oI r5)]) rfl ?_
    obtain ⟨rfl, rfl⟩ := in2 h
    exact W.iret hx hb hr (fun t ht hW => qkA hP hD hS (fun k => k) rfl rfl ht) hS.2.2 d_1_27_52
  exact key _ _ _ hts hP hS
set_option maxRecDepth 100000 in
set_option maxHeartbeats 4000000 in
theorem b_Cl_setsSwungBy_4b (l : Launch) (z : Zz) (ad : Nat → Nat) (E : Ev) (M : Mm) (x1 : Int) (x2 : Int) (x3 : Int) (t : Nat) (w2 : Int) (w3 : Int)  {Q : State → Prop} {p : Program} {e : Env} {s : State} {m : MethodId} {below : List Frame} {meth : Method} {c : Code} {A : Nat → Prop} {args : Array Value} (hx : p.tables.exec = Jvm.exec) (hb : c.code = prog_3_method_5_code) (hml : c.maxLocals = 4) (hts : ∀ w ∈ WG, w.before args s = true) (hown : s.vm.findClass "Ballothall$Council" = some m.cls) (hlocks : meth.locks = false) (hA : ∀ q, s.heap.size ≤ q → A q) (hG : KG z s) (hZ : FZ z A s) (hL : Lay E) (h : Cl_setsSwungBy_4b E M x1 x2 x3 = some (t, w2, w3)) (k0 : t = 0 → ∀ (H : Heap) (locs : List Loc) (ls : Array Slot), va_P z.1 classes (wv z ad E M) H → va_D A (wv z ad E M) → va_S A s.heap H locs → lv_has ls 4 [(0, .ref (ad 243)), (1, .int (oI x1)), (2, .int (oI w2)), (3, .int (oI w3))] → W p l e (rmK 2 63 0 0) s m args below meth c H locs 0 0 Q (F0 m 4 ls [])) (k1 : t = 1 → ∀ (H : Heap) (locs : List Loc) (ls : Array Slot), va_P z.1 classes (wv z ad E M) H → va_D A (wv z ad E M) → va_S A s.heap H locs → lv_has ls 4 [(2, .int (oI w2))] → W p l e (rmK 2 63 0 0) s m args below meth c H locs 0 0 Q (F0 m 32 ls [])) : ∀ (H : Heap) (locs : List Loc) (ls : Array Slot), va_P z.1 classes (wv z ad E M) H → va_D A (wv z ad E M) → va_S A s.heap H locs → lv_has ls 4 [(0, .ref (ad 243)), (1, .int (oI x1)), (2, .int (oI x2)), (3, .int (oI x3))] → W p l e (rmK 2 63 0 0) s m args below meth c H locs 0 0 Q (F0 m 4 ls []) := by
  intro H locs ls hP hD hS hl
  unfold Cl_setsSwungBy_4b at h
  refine lv_iload_n hx hb d_3_5_4 rfl (lv_at hl 3 rfl) ?_
  refine lv_iconst (v := oI 1) hx hb d_3_5_5 (by decide +kernel) ?_
  refine lv_aload_n hx hb d_3_5_6 rfl (lv_at hl 0 rfl) ?_
  refine m_gi (C := "Ballothall$Council") (T := TX1) (N := 4) (ci := 1) (k := 0) hx hb hts iX1 hown hG hP (yi_243 hL) (yt_243 hL) rfl (by decide) w_382 (fun _ h9 => h9) rfl rfl d_3_5_7 ?_
  obtain ⟨ok0, h⟩ := ck_e h
  refine lv_ishl hx hb d_3_5_10 ?_
  refine nrm (oI_one_shl ok0) ?_
  obtain ⟨ok1, h⟩ := ck_e h
  obtain ⟨ok2, h⟩ := ck_e h
  refine lv_icmp_ge (tgt := 32) hx hb d_3_5_11 (by decide) (fun c9 => ?_) (fun c9 => ?_)
  · have h := ite_t ((oI_le (a := (2 ^ (M 243 0).toNat)) (b := x3) ok2 ok1).mp c9) h
    obtain ⟨rfl, rfl, rfl⟩ := in3 h
    exact k1 rfl H locs ls hP hD hS (lv_sub hl [2] rfl)
  · have h := ite_f (fun q => c9 ((oI_le (a := (2 ^ (M 243 0).toNat)) (b := x3) ok2 ok1).mpr q)) h
    refine lv_aload_n hx hb d_3_5_14 rfl (lv_at hl 0 rfl) ?_
    refine lv_iload_n hx hb d_3_5_15 rfl (lv_at hl 3 rfl) ?_
    refine lv_iload_n hx hb d_3_5_16 rfl (lv_at hl 1 rfl) ?_
    obtain ⟨r3, g3, h⟩ := bd_e h
    refine kV (As := [.int (oI x3), .int (oI x1)]) (rest := []) (s_Cl_isSwung l z ad E M x3 x1 r3 hL g3) hx hb hml hown hts w_762 w_759 w_761 w_s_ce08ed w_11 md_99b449 ⟨Nat.le_of_ble_eq_true rfl, Nat.le_of_ble_eq_true rfl⟩ hG hZ hP hD hS hA 243 (wv_o (ci := 1) (yi_243 hL) (yt_243 hL)) rfl rfl rfl hl.1 rfl (Nat.le_of_ble_eq_true rfl) d_3_5_17 ⟨Nat.le_of_ble_eq_true rfl, Nat.le_of_ble_eq_true rfl⟩ (fun _ H locs hP hD hS => ?_)
    have hP : va_P z.1 classes (wv z ad E M) H := hP
    have hD : va_D A (wv z ad E M) := hD
    refine W.eq (g2 := F0 m 20 ls [.int (oI r3)]) rfl ?_
    obtain ⟨ok4, h⟩ := ck_e h
    refine lv_if_eq (tgt := 26) hx hb d_3_5_20 (by decide) (fun c9 => ?_) (fun c9 => ?_)
    · have h := ite_t ((oI_eq0 ok4).mp c9) h
      refine lv_iinc (v := oI (x3 + 1)) (lv' := [(3, .int (oI (x3 + 1))), (0, .ref (ad 243)), (1, .int (oI x1)), (2, .int (oI x2))]) hx hb d_3_5_26 hl (k := 3) rfl (oI_add x3 1) (by decide) rfl (fun ls hl => ?_)
      refine lv_goto (tgt := 4) hx hb d_3_5_29 (by decide) ?_
      obtain ⟨rfl, rfl, rfl⟩ := in3 h
      exact k0 rfl H locs ls hP hD hS (lv_sub hl [1, 2, 3, 0] rfl)
    · have h := ite_f (fun q => c9 ((oI_eq0 ok4).mpr q)) h
      refine lv_iinc (v := oI (x2 + 1)) (lv' := [(2, .int (oI (x2 + 1))), (0, .ref (ad 243)), (1, .int (oI x1)), (3, .int (oI x3))]) hx hb d_3_5_23 hl (k := 2) rfl (oI_add x2 1) (by decide) rfl (fun ls hl => ?_)
      refine lv_iinc (v := oI (x3 + 1)) (lv' := [(3, .int (oI (x3 + 1))), (2, .int (oI (x2 + 1))), (0, .ref (ad 243)), (1, .int (oI x1))]) hx hb d_3_5_26 hl (k := 3) rfl (oI_add x3 1) (by decide) rfl (fun ls hl => ?_)
      refine lv_goto (tgt := 4) hx hb d_3_5_29 (by decide) ?_
      obtain ⟨rfl, rfl, rfl⟩ := in3 h
      exact k0 rfl H locs ls hP hD hS (lv_sub hl [2, 3, 1, 0] rfl)
set_option maxRecDepth 100000 in
set_option maxHeartbeats 4000000 in
theorem s_Cl_setsSwungBy_4 (l : Launch) (z : Zz) (ad : Nat → Nat) (E : Ev) (x1 : Int) {Q : State → Prop} {p : Program} {e : Env} {s : State} {m : MethodId} {below : List Frame} {meth : Method} {c : Code} {A : Nat → Prop} {args : Array Value} (hx : p.tables.exec = Jvm.exec) (hb : c.code = prog_3_method_5_code) (hml : c.maxLocals = 4) (hts : ∀ w ∈ WG, w.before args s = true) (hown : s.vm.findClass "Ballothall$Council" = some m.cls) (hlocks : meth.locks = false) (hA : ∀ q, s.heap.size ≤ q → A q) (hG : KG z s) (hZ : FZ z A s) (hL : Lay E) : ∀ (fu : Nat) (M : Mm) (x2 : Int) (x3 : Int) (t : Nat) (w2 : Int) (w3 : Int), l_Cl_setsSwungBy_4 E x1 fu M x2 x3 = some (t, w2, w3) → (t = 1 → ∀ (H : Heap) (locs : List Loc) (ls : Array Slot), va_P z.1 classes (wv z ad E M) H → va_D A (wv z ad E M) → va_S A s.heap H locs → lv_has ls 4 [(2, .int (oI w2))] → W p l e (rmK 2 63 0 0) s m args below meth c H locs 0 0 Q (F0 m 32 ls [])) → ∀ (H : Heap) (locs : List Loc) (ls : Array Slot), va_P z.1 classes (wv z ad E M) H → va_D A (wv z ad E M) → va_S A s.heap H locs → lv_has ls 4 [(0, .ref (ad 243)), (1, .int (oI x1)), (2, .int (oI x2)), (3, .int (oI x3))] → W p l e (rmK 2 63 0 0) s m args below meth c H locs 0 0 Q (F0 m 4 ls []) := by
  intro fu
  induction fu with
  | zero =>
    intro M x2 x3 t w2 w3 h
    have h : (none : Option (Nat × Int × Int)) = some _ := h
    cases h
  | succ fu ih =>
    intro M x2 x3 t w2 w3 h k1 H locs ls hP hD hS hl
    obtain ⟨⟨t0, w20, w30⟩, g0, h⟩ := bd_e h
    refine b_Cl_setsSwungBy_4b l z ad E M x1 x2 x3 t0 w20 w30 hx hb hml hts hown hlocks hA hG hZ hL g0 (fun e0 => ?_) (fun e0 => ?_) H locs ls hP hD hS hl
    · subst e0
      have h := ite_t rfl h
      exact ih M w20 w30 t w2 w3 h k1
    · subst e0
      have h := ite_f (by decide) h
      obtain ⟨rfl, rfl, rfl⟩ := in3 h
      exact k1 rfl
set_option maxRecDepth 100000 in
set_option maxHeartbeats 4000000 in
theorem s_Cl_setsSwungBy (l : Launch) (z : Zz) (ad : Nat → Nat) (E : Ev) (M : Mm) (x1 : Int) (r : Int)  (hL : Lay E) (h : f_Cl_setsSwungBy E M x1 = some r) : CT l z ⟨"Ballothall$Council", "setsSwungBy", "(I)I"⟩ prog_3_method_5_code 4 (some .int) [.ref (ad 243), .int (oI x1)] (wv z ad E M) 2 63 0 0 (fun _ => some (.int (oI r))) (fun _ => (wv z ad E M)) := by
  refine CT.of (own := "Ballothall$Council") (by decide +kernel) (Nat.le_of_ble_eq_true rfl) rfl (fun p e s m below meth c A ls hx hb hml hr hts hown hlocks hin hA hG hZ hP hD hS hl => ?_)
  have hl : lv_has ls 4 [(0, .ref (ad 243)), (1, .int (oI x1))] := hl
  have key : ∀ (H : Heap) (locs : List Loc) (args : Array Value), (∀ w ∈ WG, w.before args s = true) → va_P z.1 classes (wv z ad E M) H → va_S A s.heap H locs → W p l e (rmK 2 63 0 0) s m args below meth c H locs 0 0 (MQ below (QK z A (fun _ => some (.int (oI r))) (fun _ => (wv z ad E M))) args s 0 0 A) (F0 m 0 ls []) := by
    intro H locs args hts hP hS
    unfold f_Cl_setsSwungBy at h
    refine lv_iconst (v := oI 0) hx hb d_3_5_0 (by decide +kernel) ?_
    refine lv_istore_n (lv' := [(2, .int (oI 0)), (0, .ref (ad 243)), (1, .int (oI x1))]) hx hb d_3_5_1 rfl hl (by decide) rfl (fun ls hl => ?_)
    refine lv_iconst (v := oI 0) hx hb d_3_5_2 (by decide +kernel) ?_
    refine lv_istore_n (lv' := [(3, .int (oI 0)), (2, .int (oI 0)), (0, .ref (ad 243)), (1, .int (oI x1))]) hx hb d_3_5_3 rfl hl (by decide) rfl (fun ls hl => ?_)
    obtain ⟨⟨t5, v5_2, v5_3⟩, g5, h⟩ := bd_e h
    obtain ⟨ok5, h⟩ := ck_e h
    refine s_Cl_setsSwungBy_4 l z ad E x1 hx hb hml hts hown hlocks hA hG hZ hL FU M 0 0 t5 v5_2 v5_3 g5 (fun e5 H locs ls hP hD hS hl => ?_) H locs ls hP hD hS (lv_sub hl [2, 3, 1, 0] rfl)
    refine lv_iload_n hx hb d_3_5_32 rfl (lv_at hl 0 rfl) ?_
    obtain rfl := in1 h
    exact W.iret hx hb hr (fun t ht hW => qkA hP hD hS (fun k => k) rfl rfl ht) hS.2.2 d_3_5_33
  exact key _ _ _ hts hP hS
set_option maxRecDepth 100000 in
set_option maxHeartbeats 4000000 in
theorem s_B_swings (l : Launch) (z : Zz) (ad : Nat → Nat) (E : Ev) (M : Mm) (x1 : Int) (r : Int) (N : Mm) (hL : Lay E) (h : f_B_swings E M x1 = some (r, N)) : CT l z ⟨"Ballothall", "swings", "(I)I"⟩ prog_1_method_48_code 2 (some .int) [.ref (ad 1), .int (oI x1)] (wv z ad E M) 3 86 0 0 (fun _ => some (.int (oI r))) (fun _ => (wv z ad E N)) := by
  refine CT.of (own := "Ballothall") (by decide +kernel) (Nat.le_of_ble_eq_true rfl) rfl (fun p e s m below meth c A ls hx hb hml hr hts hown hlocks hin hA hG hZ hP hD hS hl => ?_)
  have hl : lv_has ls 2 [(0, .ref (ad 1)), (1, .int (oI x1))] := hl
  have key : ∀ (H : Heap) (locs : List Loc) (args : Array Value), (∀ w ∈ WG, w.before args s = true) → va_P z.1 classes (wv z ad E M) H → va_S A s.heap H locs → W p l e (rmK 3 86 0 0) s m args below meth c H locs 0 0 (MQ below (QK z A (fun _ => some (.int (oI r))) (fun _ => (wv z ad E N))) args s 0 0 A) (F0 m 0 ls []) := by
    intro H locs args hts hP hS
    unfold f_B_swings at h
    refine lv_iload_n hx hb d_1_48_0 rfl (lv_at hl 1 rfl) ?_
    refine lv_aload_n hx hb d_1_48_1 rfl (lv_at hl 0 rfl) ?_
    refine m_gr (j := 243) (C := "Ballothall") (T := TX11) (N := 14) (ci := 11) (k := 6) hx hb hts iX11 hown hG hP (yi_1 hL) (yt_1 hL) rfl (by decide) w_403 (fun _ h9 => h9) rfl rfl (yr_1_6 hL) d_1_48_2 ?_
    refine m_giN (C := "Ballothall$Council") (T := TX1) (N := 4) (ci := 1) (k := 0) hx hb hts iX1 hown hG hP (yi_243 hL) (yt_243 hL) rfl (by decide) n_383 rfl (fun _ h9 => h9) rfl rfl d_1_48_5 ?_
    obtain ⟨_, g0, h⟩ := bd_e h
    refine kS (As := [.int (oI x1), .int (oI (M 243 0))]) (rest := []) (s_B_needIndex l z ad E M x1 (M 243 0) hL g0) hx hb hml hown hts w_529 w_527 w_528 w_1 md_6cb26b ⟨Nat.le_of_ble_eq_true rfl, Nat.le_of_ble_eq_true rfl⟩ hG hZ hP hD hS hA rfl hl.1 rfl (Nat.le_of_ble_eq_true rfl) d_1_48_8 ⟨Nat.le_of_ble_eq_true rfl, Nat.le_of_ble_eq_true rfl⟩ (fun _ H locs hP hD hS => ?_)
    have hP : va_P z.1 classes (wv z ad E M) H := hP
    have hD : va_D A (wv z ad E M) := hD
    refine W.eq (g2 := F0 m 11 ls []) rfl ?_
    refine lv_aload_n hx hb d_1_48_11 rfl (lv_at hl 0 rfl) ?_
    refine m_gr (j := 243) (C := "Ballothall") (T := TX11) (N := 14) (ci := 11) (k := 6) hx hb hts iX11 hown hG hP (yi_1 hL) (yt_1 hL) rfl (by decide) w_403 (fun _ h9 => h9) rfl rfl (yr_1_6 hL) d_1_48_12 ?_
    obtain ⟨M1, g1, h⟩ := bd_e h
    refine kVN (As := []) (rest := []) (s_Cl_findSums l z ad E M M1 hL g1) hx hb hml hown hts w_754 n_1672 w_753 w_s_13b3b8 w_11 md_bc486d ⟨Nat.le_of_ble_eq_true rfl, Nat.le_of_ble_eq_true rfl⟩ hG hZ hP hD hS hA 243 (wv_o (ci := 1) (yi_243 hL) (yt_243 hL)) rfl rfl rfl hl.1 rfl (Nat.le_of_ble_eq_true rfl) d_1_48_15 ⟨Nat.le_of_ble_eq_true rfl, Nat.le_of_ble_eq_true rfl⟩ (fun _ H locs hP hD hS => ?_)
    have hP : va_P z.1 classes (wv z ad E M1) H := hP
    have hD : va_D A (wv z ad E M1) := hD
    refine W.eq (g2 := F0 m 18 ls []) rfl ?_
    refine lv_aload_n hx hb d_1_48_18 rfl (lv_at hl 0 rfl) ?_
    refine m_gr (j := 243) (C := "Ballothall") (T := TX11) (N := 14) (ci := 11) (k := 6) hx hb hts iX11 hown hG hP (yi_1 hL) (yt_1 hL) rfl (by decide) w_403 (fun _ h9 => h9) rfl rfl (yr_1_6 hL) d_1_48_19 ?_
    refine lv_iload_n hx hb d_1_48_22 rfl (lv_at hl 1 rfl) ?_
    obtain ⟨r2, g2, h⟩ := bd_e h
    refine kVN (As := [.int (oI x1)]) (rest := []) (s_Cl_setsSwungBy l z ad E M1 x1 r2 hL g2) hx hb hml hown hts w_1681 n_1678 w_1680 w_s_cd90bd w_11 md_4de701 ⟨Nat.le_of_ble_eq_true rfl, Nat.le_of_ble_eq_true rfl⟩ hG hZ hP hD hS hA 243 (wv_o (ci := 1) (yi_243 hL) (yt_243 hL)) rfl rfl rfl hl.1 rfl (Nat.le_of_ble_eq_true rfl) d_1_48_23 ⟨Nat.le_of_ble_eq_true rfl, Nat.le_of_ble_eq_true rfl⟩ (fun _ H locs hP hD hS => ?_)
    have hP : va_P z.1 classes (wv z ad E M1) H := hP
    have hD : va_D A (wv z ad E M1) := hD
    refine W.eq (g2 := F0 m 26 ls [.int (oI r2)]) rfl ?_
    obtain ⟨rfl, rfl⟩ := in2 h
    exact W.iret hx hb hr (fun t ht hW => qkA hP hD hS (fun k => k) rfl rfl ht) hS.2.2 d_1_48_26
  exact key _ _ _ hts hP hS
set_option maxRecDepth 100000 in
set_option maxHeartbeats 4000000 in
theorem s_B_takeBack (l : Launch) (z : Zz) (ad : Nat → Nat) (E : Ev) (M : Mm) (x1 : Int) (x2 : Int) (r : Int) (N : Mm) (hL : Lay E) (h : f_B_takeBack E M x1 x2 = some (r, N)) : CT l z ⟨"Ballothall", "takeBack", "(II)I"⟩ prog_1_method_6_code 3 (some .int) [.ref (ad 1), .int (oI x1), .int (oI x2)] (wv z ad E M) 2 63 0 0 (fun _ => some (.int (oI r))) (fun _ => (wv z ad E N)) := by
  refine CT.of (own := "Ballothall") (by decide +kernel) (Nat.le_of_ble_eq_true rfl) rfl (fun p e s m below meth c A ls hx hb hml hr hts hown hlocks hin hA hG hZ hP hD hS hl => ?_)
  have hl : lv_has ls 3 [(0, .ref (ad 1)), (1, .int (oI x1)), (2, .int (oI x2))] := hl
  have key : ∀ (H : Heap) (locs : List Loc) (args : Array Value), (∀ w ∈ WG, w.before args s = true) → va_P z.1 classes (wv z ad E M) H → va_S A s.heap H locs → W p l e (rmK 2 63 0 0) s m args below meth c H locs 0 0 (MQ below (QK z A (fun _ => some (.int (oI r))) (fun _ => (wv z ad E N))) args s 0 0 A) (F0 m 0 ls []) := by
    intro H locs args hts hP hS
    unfold f_B_takeBack at h
    refine lv_iload_n hx hb d_1_6_0 rfl (lv_at hl 1 rfl) ?_
    refine lv_aload_n hx hb d_1_6_1 rfl (lv_at hl 0 rfl) ?_
    refine m_gr (j := 2) (C := "Ballothall") (T := TX11) (N := 14) (ci := 11) (k := 0) hx hb hts iX11 hown hG hP (yi_1 hL) (yt_1 hL) rfl (by decide) w_397 (fun _ h9 => h9) rfl rfl (yr_1_0 hL) d_1_6_2 ?_
    refine m_giN (C := "Ballothall$BallotBox") (T := TX0) (N := 10) (ci := 0) (k := 3) hx hb hts iX0 hown hG hP (yi_2 hL) (yt_2 hL) rfl (by decide) n_58 rfl (fun _ h9 => h9) rfl rfl d_1_6_5 ?_
    obtain ⟨_, g0, h⟩ := bd_e h
    refine kS (As := [.int (oI x1), .int (oI (M 2 3))]) (rest := []) (s_B_needIndex l z ad E M x1 (M 2 3) hL g0) hx hb hml hown hts w_529 w_527 w_528 w_1 md_6cb26b ⟨Nat.le_of_ble_eq_true rfl, Nat.le_of_ble_eq_true rfl⟩ hG hZ hP hD hS hA rfl hl.1 rfl (Nat.le_of_ble_eq_true rfl) d_1_6_8 ⟨Nat.le_of_ble_eq_true rfl, Nat.le_of_ble_eq_true rfl⟩ (fun _ H locs hP hD hS => ?_)
    have hP : va_P z.1 classes (wv z ad E M) H := hP
    have hD : va_D A (wv z ad E M) := hD
    refine W.eq (g2 := F0 m 11 ls []) rfl ?_
    refine lv_iload_n hx hb d_1_6_11 rfl (lv_at hl 2 rfl) ?_
    refine lv_iconst (v := oI 1) hx hb d_1_6_12 (by decide +kernel) ?_
    refine lv_aload_n hx hb d_1_6_13 rfl (lv_at hl 0 rfl) ?_
    refine m_gr (j := 2) (C := "Ballothall") (T := TX11) (N := 14) (ci := 11) (k := 0) hx hb hts iX11 hown hG hP (yi_1 hL) (yt_1 hL) rfl (by decide) w_397 (fun _ h9 => h9) rfl rfl (yr_1_0 hL) d_1_6_14 ?_
    refine m_grN (j := 5) (C := "Ballothall$BallotBox") (T := TX0) (N := 10) (ci := 0) (k := 5) hx hb hts iX0 hown hG hP (yi_2 hL) (yt_2 hL) rfl (by decide) n_66 rfl (fun _ h9 => h9) rfl rfl (yr_2_5 hL) d_1_6_17 ?_
    refine lv_iload_n hx hb d_1_6_20 rfl (lv_at hl 1 rfl) ?_
    obtain ⟨ok1, h⟩ := ck_e h
    refine m_ia hx hb hG hP (yi_5 hL) (yt_5 hL) ok1 d_1_6_21 ?_
    obtain ⟨_, g2, h⟩ := bd_e h
    refine kS (As := [.int (oI x2), .int (oI 1), .int (oI (M 5 x1.toNat))]) (rest := []) (s_B_needRange l z ad E M x2 1 (M 5 x1.toNat) hL g2) hx hb hml hown hts w_548 w_546 w_547 w_1 md_519134 ⟨Nat.le_of_ble_eq_true rfl, Nat.le_of_ble_eq_true rfl⟩ hG hZ hP hD hS hA rfl hl.1 rfl (Nat.le_of_ble_eq_true rfl) d_1_6_22 ⟨Nat.le_of_ble_eq_true rfl, Nat.le_of_ble_eq_true rfl⟩ (fun _ H locs hP hD hS => ?_)
    have hP : va_P z.1 classes (wv z ad E M) H := hP
    have hD : va_D A (wv z ad E M) := hD
    refine W.eq (g2 := F0 m 25 ls []) rfl ?_
    refine lv_aload_n hx hb d_1_6_25 rfl (lv_at hl 0 rfl) ?_
    refine lv_iconst (v := oI 4) hx hb d_1_6_26 (by decide +kernel) ?_
    refine lv_iload_n hx hb d_1_6_27 rfl (lv_at hl 1 rfl) ?_
    refine lv_aload_n hx hb d_1_6_28 rfl (lv_at hl 0 rfl) ?_
    refine m_gr (j := 2) (C := "Ballothall") (T := TX11) (N := 14) (ci := 11) (k := 0) hx hb hts iX11 hown hG hP (yi_1 hL) (yt_1 hL) rfl (by decide) w_397 (fun _ h9 => h9) rfl rfl (yr_1_0 hL) d_1_6_29 ?_
    refine m_grN (j := 5) (C := "Ballothall$BallotBox") (T := TX0) (N := 10) (ci := 0) (k := 5) hx hb hts iX0 hown hG hP (yi_2 hL) (yt_2 hL) rfl (by decide) n_66 rfl (fun _ h9 => h9) rfl rfl (yr_2_5 hL) d_1_6_32 ?_
    refine lv_iload_n hx hb d_1_6_35 rfl (lv_at hl 1 rfl) ?_
    refine m_ia hx hb hG hP (yi_5 hL) (yt_5 hL) ok1 d_1_6_36 ?_
    obtain ⟨M3, g3, h⟩ := bd_e h
    refine kV (As := [.int (oI 4), .int (oI x1), .int (oI (M 5 x1.toNat))]) (rest := []) (s_B_remember l z ad E M 4 x1 (M 5 x1.toNat) M3 hL g3) hx hb hml hown hts w_519 w_516 w_518 w_s_b872b3 w_1 md_7af0bb ⟨Nat.le_of_ble_eq_true rfl, Nat.le_of_ble_eq_true rfl⟩ hG hZ hP hD hS hA 1 (wv_o (ci := 11) (yi_1 hL) (yt_1 hL)) rfl rfl rfl hl.1 rfl (Nat.le_of_ble_eq_true rfl) d_1_6_37 ⟨Nat.le_of_ble_eq_true rfl, Nat.le_of_ble_eq_true rfl⟩ (fun _ H locs hP hD hS => ?_)
    have hP : va_P z.1 classes (wv z ad E M3) H := hP
    have hD : va_D A (wv z ad E M3) := hD
    refine W.eq (g2 := F0 m 40 ls []) rfl ?_
    refine lv_aload_n hx hb d_1_6_40 rfl (lv_at hl 0 rfl) ?_
    refine m_gr (j := 2) (C := "Ballothall") (T := TX11) (N := 14) (ci := 11) (k := 0) hx hb hts iX11 hown hG hP (yi_1 hL) (yt_1 hL) rfl (by decide) w_397 (fun _ h9 => h9) rfl rfl (yr_1_0 hL) d_1_6_41 ?_
    refine m_grN (j := 5) (C := "Ballothall$BallotBox") (T := TX0) (N := 10) (ci := 0) (k := 5) hx hb hts iX0 hown hG hP (yi_2 hL) (yt_2 hL) rfl (by decide) n_66 rfl (fun _ h9 => h9) rfl rfl (yr_2_5 hL) d_1_6_44 ?_
    refine lv_iload_n hx hb d_1_6_47 rfl (lv_at hl 1 rfl) ?_
    refine lv_dup2_11 hx hb d_1_6_48 rfl rfl ?_
    refine m_ia hx hb hG hP (yi_5 hL) (yt_5 hL) ok1 d_1_6_49 ?_
    refine lv_iload_n hx hb d_1_6_50 rfl (lv_at hl 2 rfl) ?_
    refine lv_isub hx hb d_1_6_51 ?_
    refine nrm (oI_sub _ _) ?_
    refine m_is hx hb hG hP hD hS (yi_5 hL) (yt_5 hL) ok1 d_1_6_52 (fun H locs hP hD hS => ?_)
    have hP : va_P z.1 classes (wv z ad E (u2 M3 5 x1.toNat ((M3 5 x1.toNat) - x2))) H := hP
    have hD : va_D A (wv z ad E (u2 M3 5 x1.toNat ((M3 5 x1.toNat) - x2))) := hD
    refine lv_aload_n hx hb d_1_6_53 rfl (lv_at hl 0 rfl) ?_
    refine m_gr (j := 2) (C := "Ballothall") (T := TX11) (N := 14) (ci := 11) (k := 0) hx hb hts iX11 hown hG hP (yi_1 hL) (yt_1 hL) rfl (by decide) w_397 (fun _ h9 => h9) rfl rfl (yr_1_0 hL) d_1_6_54 ?_
    refine m_grN (j := 5) (C := "Ballothall$BallotBox") (T := TX0) (N := 10) (ci := 0) (k := 5) hx hb hts iX0 hown hG hP (yi_2 hL) (yt_2 hL) rfl (by decide) n_66 rfl (fun _ h9 => h9) rfl rfl (yr_2_5 hL) d_1_6_57 ?_
    refine lv_iload_n hx hb d_1_6_60 rfl (lv_at hl 1 rfl) ?_
    refine m_ia hx hb hG hP (yi_5 hL) (yt_5 hL) ok1 d_1_6_61 ?_
    obtain ⟨rfl, rfl⟩ := in2 h
    exact W.iret hx hb hr (fun t ht hW => qkA hP hD hS (fun k => k) rfl rfl ht) hS.2.2 d_1_6_62
  exact key _ _ _ hts hP hS
set_option maxRecDepth 100000 in
set_option maxHeartbeats 4000000 in
theorem s_Co_goBack (l : Launch) (z : Zz) (ad : Nat → Nat) (E : Ev) (M : Mm) (N : Mm) (hL : Lay E) (h : f_Co_goBack E M = some N) : CT l z ⟨"Ballothall$Counting", "goBack", "()V"⟩ prog_5_method_3_code 1 none [.ref (ad 179)] (wv z ad E M) 0 20 0 0 (fun _ => none) (fun _ => (wv z ad E N)) := by
  refine CT.of (own := "Ballothall$Counting") (by decide +kernel) (Nat.le_of_ble_eq_true rfl) rfl (fun p e s m below meth c A ls hx hb hml hr hts hown hlocks hin hA hG hZ hP hD hS hl => ?_)
  have hl : lv_has ls 1 [(0, .ref (ad 179))] := hl
  have key : ∀ (H : Heap) (locs : List Loc) (args : Array Value), (∀ w ∈ WG, w.before args s = true) → va_P z.1 classes (wv z ad E M) H → va_S A s.heap H locs → W p l e (rmK 0 20 0 0) s m args below meth c H locs 0 0 (MQ below (QK z A (fun _ => none) (fun _ => (wv z ad E N))) args s 0 0 A) (F0 m 0 ls []) := by
    intro H locs args hts hP hS
    unfold f_Co_goBack at h
    refine lv_aload_n hx hb d_5_3_0 rfl (lv_at hl 0 rfl) ?_
    refine lv_aload_n hx hb d_5_3_1 rfl (lv_at hl 0 rfl) ?_
    refine m_gi (C := "Ballothall$Counting") (T := TX3) (N := 15) (ci := 3) (k := 2) hx hb hts iX3 hown hG hP (yi_179 hL) (yt_179 hL) rfl (by decide) w_305 (fun _ h9 => h9) rfl rfl d_5_3_2 ?_
    refine lv_bipush (v := oI 21) hx hb d_5_3_5 (by decide +kernel) ?_
    refine lv_iadd hx hb d_5_3_7 ?_
    refine nrm (oI_add _ _) ?_
    refine lv_iconst (v := oI 1) hx hb d_5_3_8 (by decide +kernel) ?_
    refine lv_isub hx hb d_5_3_9 ?_
    refine nrm (oI_sub _ _) ?_
    refine lv_bipush (v := oI 21) hx hb d_5_3_10 (by decide +kernel) ?_
    obtain ⟨ok0, h⟩ := ck_e h
    refine lv_irem hx hb d_5_3_12 (oI_nz (show psI 21 by decide).1 (show psI 21 by decide).2) ?_
    refine nrm (oI_rem (a := (((M 179 2) + 21) - 1)) (b := (21 : Int)) ok0.1 ok0.2 (show psI 21 by decide).1 (show psI 21 by decide).2) ?_
    refine m_pi (C := "Ballothall$Counting") (T := TX3) (N := 15) (ci := 3) (k := 2) (ty := .int) hx hb hts iX3 hown hG hP hD hS (yi_179 hL) (yt_179 hL) rfl (by decide) w_305 (fun _ h9 => h9) rfl rfl tyX3_ok nmX3 rfl (by decide +kernel) rfl rfl d_5_3_13 (fun H locs hP hD hS => ?_)
    have hP : va_P z.1 classes (wv z ad E (u2 M 179 2 ((((M 179 2) + 21) - 1) % 21))) H := hP
    have hD : va_D A (wv z ad E (u2 M 179 2 ((((M 179 2) + 21) - 1) % 21))) := hD
    obtain rfl := in1 h
    exact W.vret hx hb hr (fun t ht hW => qkA hP hD hS (fun k => k) rfl rfl ht) hS.2.2 d_5_3_16
  exact key _ _ _ hts hP hS
set_option maxRecDepth 100000 in
set_option maxHeartbeats 4000000 in
theorem s_Li_takeChangeBack (l : Launch) (z : Zz) (ad : Nat → Nat) (E : Ev) (M : Mm) (x1 : Int) (x2 : Int) (x3 : Int) (N : Mm) (hL : Lay E) (h : f_Li_takeChangeBack E M x1 x2 x3 = some N) : CT l z ⟨"Ballothall$Lists", "takeChangeBack", "(III)V"⟩ prog_9_method_11_code 4 none [.ref (ad 53), .int (oI x1), .int (oI x2), .int (oI x3)] (wv z ad E M) 0 20 0 0 (fun _ => none) (fun _ => (wv z ad E N)) := by
  refine CT.of (own := "Ballothall$Lists") (by decide +kernel) (Nat.le_of_ble_eq_true rfl) rfl (fun p e s m below meth c A ls hx hb hml hr hts hown hlocks hin hA hG hZ hP hD hS hl => ?_)
  have hl : lv_has ls 4 [(0, .ref (ad 53)), (1, .int (oI x1)), (2, .int (oI x2)), (3, .int (oI x3))] := hl
  have key : ∀ (H : Heap) (locs : List Loc) (args : Array Value), (∀ w ∈ WG, w.before args s = true) → va_P z.1 classes (wv z ad E M) H → va_S A s.heap H locs → W p l e (rmK 0 20 0 0) s m args below meth c H locs 0 0 (MQ below (QK z A (fun _ => none) (fun _ => (wv z ad E N))) args s 0 0 A) (F0 m 0 ls []) := by
    intro H locs args hts hP hS
    unfold f_Li_takeChangeBack at h
    refine lv_iload_n hx hb d_9_11_0 rfl (lv_at hl 1 rfl) ?_
    obtain ⟨ok0, h⟩ := ck_e h
    by_cases s1_2 : x1 = 2
    · have h := ite_t s1_2 h
      refine nrm (congrArg oI s1_2) ?_
      refine lv_tableIn (off := 51) (tgt := 52) hx hb d_9_11_1 (by decide +kernel) (by decide +kernel) rfl (by decide) ?_
      refine lv_aload_n hx hb d_9_11_52 rfl (lv_at hl 0 rfl) ?_
      refine m_gr (j := 56) (C := "Ballothall$Lists") (T := TX7) (N := 11) (ci := 7) (k := 3) hx hb hts iX7 hown hG hP (yi_53 hL) (yt_53 hL) rfl (by decide) w_247 (fun _ h9 => h9) rfl rfl (yr_53_3 hL) d_9_11_53 ?_
      refine lv_iload_n hx hb d_9_11_56 rfl (lv_at hl 2 rfl) ?_
      refine lv_iload_n hx hb d_9_11_57 rfl (lv_at hl 3 rfl) ?_
      obtain ⟨ok2, h⟩ := ck_e h
      refine m_is hx hb hG hP hD hS (yi_56 hL) (yt_56 hL) ok2 d_9_11_58 (fun H locs hP hD hS => ?_)
      have hP : va_P z.1 classes (wv z ad E (u2 M 56 x2.toNat x3)) H := hP
      have hD : va_D A (wv z ad E (u2 M 56 x2.toNat x3)) := hD
      refine lv_goto (tgt := 101) hx hb d_9_11_59 (by decide) ?_
      obtain rfl := in1 h
      exact W.vret hx hb hr (fun t ht hW => qkA hP hD hS (fun k => k) rfl rfl ht) hS.2.2 d_9_11_101
    have h := ite_f s1_2 h
    by_cases s1_3 : x1 = 3
    · have h := ite_t s1_3 h
      refine nrm (congrArg oI s1_3) ?_
      refine lv_tableIn (off := 100) (tgt := 101) hx hb d_9_11_1 (by decide +kernel) (by decide +kernel) rfl (by decide) ?_
      obtain rfl := in1 h
      exact W.vret hx hb hr (fun t ht hW => qkA hP hD hS (fun k => k) rfl rfl ht) hS.2.2 d_9_11_101
    have h := ite_f s1_3 h
    by_cases s1_4 : x1 = 4
    · have h := ite_t s1_4 h
      refine nrm (congrArg oI s1_4) ?_
      refine lv_tableIn (off := 100) (tgt := 101) hx hb d_9_11_1 (by decide +kernel) (by decide +kernel) rfl (by decide) ?_
      obtain rfl := in1 h
      exact W.vret hx hb hr (fun t ht hW => qkA hP hD hS (fun k => k) rfl rfl ht) hS.2.2 d_9_11_101
    have h := ite_f s1_4 h
    by_cases s1_5 : x1 = 5
    · have h := ite_t s1_5 h
      refine nrm (congrArg oI s1_5) ?_
      refine lv_tableIn (off := 43) (tgt := 44) hx hb d_9_11_1 (by decide +kernel) (by decide +kernel) rfl (by decide) ?_
      refine lv_aload_n hx hb d_9_11_44 rfl (lv_at hl 0 rfl) ?_
      refine lv_iload_n hx hb d_9_11_45 rfl (lv_at hl 2 rfl) ?_
      refine m_pi (C := "Ballothall$Lists") (T := TX7) (N := 11) (ci := 7) (k := 0) (ty := .int) hx hb hts iX7 hown hG hP hD hS (yi_53 hL) (yt_53 hL) rfl (by decide) w_242 (fun _ h9 => h9) rfl rfl tyX7_ok nmX7 rfl (by decide +kernel) rfl rfl d_9_11_46 (fun H locs hP hD hS => ?_)
      have hP : va_P z.1 classes (wv z ad E (u2 M 53 0 x2)) H := hP
      have hD : va_D A (wv z ad E (u2 M 53 0 x2)) := hD
      refine lv_goto (tgt := 101) hx hb d_9_11_49 (by decide) ?_
      obtain rfl := in1 h
      exact W.vret hx hb hr (fun t ht hW => qkA hP hD hS (fun k => k) rfl rfl ht) hS.2.2 d_9_11_101
    have h := ite_f s1_5 h
    by_cases s1_6 : x1 = 6
    · have h := ite_t s1_6 h
      refine nrm (congrArg oI s1_6) ?_
      refine lv_tableIn (off := 61) (tgt := 62) hx hb d_9_11_1 (by decide +kernel) (by decide +kernel) rfl (by decide) ?_
      refine lv_aload_n hx hb d_9_11_62 rfl (lv_at hl 0 rfl) ?_
      refine m_gr (j := 54) (C := "Ballothall$Lists") (T := TX7) (N := 11) (ci := 7) (k := 1) hx hb hts iX7 hown hG hP (yi_53 hL) (yt_53 hL) rfl (by decide) w_244 (fun _ h9 => h9) rfl rfl (yr_53_1 hL) d_9_11_63 ?_
      refine lv_iload_n hx hb d_9_11_66 rfl (lv_at hl 2 rfl) ?_
      refine lv_iload_n hx hb d_9_11_67 rfl (lv_at hl 3 rfl) ?_
      obtain ⟨ok3, h⟩ := ck_e h
      refine m_is hx hb hG hP hD hS (yi_54 hL) (yt_54 hL) ok3 d_9_11_68 (fun H locs hP hD hS => ?_)
      have hP : va_P z.1 classes (wv z ad E (u2 M 54 x2.toNat x3)) H := hP
      have hD : va_D A (wv z ad E (u2 M 54 x2.toNat x3)) := hD
      refine lv_goto (tgt := 101) hx hb d_9_11_69 (by decide) ?_
      obtain rfl := in1 h
      exact W.vret hx hb hr (fun t ht hW => qkA hP hD hS (fun k => k) rfl rfl ht) hS.2.2 d_9_11_101
    have h := ite_f s1_6 h
    by_cases s1_7 : x1 = 7
    · have h := ite_t s1_7 h
      refine nrm (congrArg oI s1_7) ?_
      refine lv_tableIn (off := 71) (tgt := 72) hx hb d_9_11_1 (by decide +kernel) (by decide +kernel) rfl (by decide) ?_
      refine lv_aload_n hx hb d_9_11_72 rfl (lv_at hl 0 rfl) ?_
      refine m_gr (j := 55) (C := "Ballothall$Lists") (T := TX7) (N := 11) (ci := 7) (k := 2) hx hb hts iX7 hown hG hP (yi_53 hL) (yt_53 hL) rfl (by decide) w_245 (fun _ h9 => h9) rfl rfl (yr_53_2 hL) d_9_11_73 ?_
      refine lv_iload_n hx hb d_9_11_76 rfl (lv_at hl 2 rfl) ?_
      refine lv_iload_n hx hb d_9_11_77 rfl (lv_at hl 3 rfl) ?_
      obtain ⟨ok4, h⟩ := ck_e h
      refine m_is hx hb hG hP hD hS (yi_55 hL) (yt_55 hL) ok4 d_9_11_78 (fun H locs hP hD hS => ?_)
      have hP : va_P z.1 classes (wv z ad E (u2 M 55 x2.toNat x3)) H := hP
      have hD : va_D A (wv z ad E (u2 M 55 x2.toNat x3)) := hD
      refine lv_goto (tgt := 101) hx hb d_9_11_79 (by decide) ?_
      obtain rfl := in1 h
      exact W.vret hx hb hr (fun t ht hW => qkA hP hD hS (fun k => k) rfl rfl ht) hS.2.2 d_9_11_101
    have h := ite_f s1_7 h
    by_cases s1_8 : x1 = 8
    · have h := ite_t s1_8 h
      refine nrm (congrArg oI s1_8) ?_
      refine lv_tableIn (off := 81) (tgt := 82) hx hb d_9_11_1 (by decide +kernel) (by decide +kernel) rfl (by decide) ?_
      refine lv_aload_n hx hb d_9_11_82 rfl (lv_at hl 0 rfl) ?_
      refine lv_aload_n hx hb d_9_11_83 rfl (lv_at hl 0 rfl) ?_
      refine m_gi (C := "Ballothall$Lists") (T := TX7) (N := 11) (ci := 7) (k := 10) hx hb hts iX7 hown hG hP (yi_53 hL) (yt_53 hL) rfl (by decide) w_255 (fun _ h9 => h9) rfl rfl d_9_11_84 ?_
      refine lv_bipush (v := oI 21) hx hb d_9_11_87 (by decide +kernel) ?_
      refine lv_iadd hx hb d_9_11_89 ?_
      refine nrm (oI_add _ _) ?_
      refine lv_iconst (v := oI 1) hx hb d_9_11_90 (by decide +kernel) ?_
      refine lv_isub hx hb d_9_11_91 ?_
      refine nrm (oI_sub _ _) ?_
      refine lv_bipush (v := oI 21) hx hb d_9_11_92 (by decide +kernel) ?_
      obtain ⟨ok5, h⟩ := ck_e h
      refine lv_irem hx hb d_9_11_94 (oI_nz (show psI 21 by decide).1 (show psI 21 by decide).2) ?_
      refine nrm (oI_rem (a := (((M 53 10) + 21) - 1)) (b := (21 : Int)) ok5.1 ok5.2 (show psI 21 by decide).1 (show psI 21 by decide).2) ?_
      refine m_pi (C := "Ballothall$Lists") (T := TX7) (N := 11) (ci := 7) (k := 10) (ty := .int) hx hb hts iX7 hown hG hP hD hS (yi_53 hL) (yt_53 hL) rfl (by decide) w_255 (fun _ h9 => h9) rfl rfl tyX7_ok nmX7 rfl (by decide +kernel) rfl rfl d_9_11_95 (fun H locs hP hD hS => ?_)
      have hP : va_P z.1 classes (wv z ad E (u2 M 53 10 ((((M 53 10) + 21) - 1) % 21))) H := hP
      have hD : va_D A (wv z ad E (u2 M 53 10 ((((M 53 10) + 21) - 1) % 21))) := hD
      refine lv_goto (tgt := 101) hx hb d_9_11_98 (by decide) ?_
      obtain rfl := in1 h
      exact W.vret hx hb hr (fun t ht hW => qkA hP hD hS (fun k => k) rfl rfl ht) hS.2.2 d_9_11_101
    have h := ite_f s1_8 h
    refine lv_tableOut (tgt := 101) hx hb d_9_11_1 (tb_out ok0 (by omega)) (by decide) ?_
    obtain rfl := in1 h
    exact W.vret hx hb hr (fun t ht hW => qkA hP hD hS (fun k => k) rfl rfl ht) hS.2.2 d_9_11_101
  exact key _ _ _ hts hP hS
set_option maxRecDepth 100000 in
set_option maxHeartbeats 4000000 in
theorem s_B_takeChangeBack (l : Launch) (z : Zz) (ad : Nat → Nat) (E : Ev) (M : Mm) (x1 : Int) (x2 : Int) (x3 : Int) (N : Mm) (hL : Lay E) (h : f_B_takeChangeBack E M x1 x2 x3 = some N) : CT l z ⟨"Ballothall", "takeChangeBack", "(III)V"⟩ prog_1_method_62_code 4 none [.ref (ad 1), .int (oI x1), .int (oI x2), .int (oI x3)] (wv z ad E M) 1 43 0 0 (fun _ => none) (fun _ => (wv z ad E N)) := by
  refine CT.of (own := "Ballothall") (by decide +kernel) (Nat.le_of_ble_eq_true rfl) rfl (fun p e s m below meth c A ls hx hb hml hr hts hown hlocks hin hA hG hZ hP hD hS hl => ?_)
  have hl : lv_has ls 4 [(0, .ref (ad 1)), (1, .int (oI x1)), (2, .int (oI x2)), (3, .int (oI x3))] := hl
  have key : ∀ (H : Heap) (locs : List Loc) (args : Array Value), (∀ w ∈ WG, w.before args s = true) → va_P z.1 classes (wv z ad E M) H → va_S A s.heap H locs → W p l e (rmK 1 43 0 0) s m args below meth c H locs 0 0 (MQ below (QK z A (fun _ => none) (fun _ => (wv z ad E N))) args s 0 0 A) (F0 m 0 ls []) := by
    intro H locs args hts hP hS
    unfold f_B_takeChangeBack at h
    refine lv_iload_n hx hb d_1_62_0 rfl (lv_at hl 1 rfl) ?_
    obtain ⟨ok0, h⟩ := ck_e h
    by_cases s1_0 : x1 = 0
    · have h := ite_t s1_0 h
      refine nrm (congrArg oI s1_0) ?_
      refine lv_tableIn (off := 67) (tgt := 68) hx hb d_1_62_1 (by decide +kernel) (by decide +kernel) rfl (by decide) ?_
      refine lv_aload_n hx hb d_1_62_68 rfl (lv_at hl 0 rfl) ?_
      refine m_gr (j := 2) (C := "Ballothall") (T := TX11) (N := 14) (ci := 11) (k := 0) hx hb hts iX11 hown hG hP (yi_1 hL) (yt_1 hL) rfl (by decide) w_397 (fun _ h9 => h9) rfl rfl (yr_1_0 hL) d_1_62_69 ?_
      refine lv_iload_n hx hb d_1_62_72 rfl (lv_at hl 2 rfl) ?_
      refine m_piN (C := "Ballothall$BallotBox") (T := TX0) (N := 10) (ci := 0) (k := 2) (ty := .int) hx hb hts iX0 hown hG hP hD hS (yi_2 hL) (yt_2 hL) rfl (by decide) n_52 rfl (fun _ h9 => h9) rfl rfl tyX0_ok nmX0 rfl (by decide +kernel) rfl rfl d_1_62_73 (fun H locs hP hD hS => ?_)
      have hP : va_P z.1 classes (wv z ad E (u2 M 2 2 x2)) H := hP
      have hD : va_D A (wv z ad E (u2 M 2 2 x2)) := hD
      refine lv_goto (tgt := 169) hx hb d_1_62_76 (by decide) ?_
      obtain rfl := in1 h
      exact W.vret hx hb hr (fun t ht hW => qkA hP hD hS (fun k => k) rfl rfl ht) hS.2.2 d_1_62_169
    have h := ite_f s1_0 h
    by_cases s1_1 : x1 = 1
    · have h := ite_t s1_1 h
      refine nrm (congrArg oI s1_1) ?_
      refine lv_tableIn (off := 78) (tgt := 79) hx hb d_1_62_1 (by decide +kernel) (by decide +kernel) rfl (by decide) ?_
      refine lv_aload_n hx hb d_1_62_79 rfl (lv_at hl 0 rfl) ?_
      refine m_gr (j := 2) (C := "Ballothall") (T := TX11) (N := 14) (ci := 11) (k := 0) hx hb hts iX11 hown hG hP (yi_1 hL) (yt_1 hL) rfl (by decide) w_397 (fun _ h9 => h9) rfl rfl (yr_1_0 hL) d_1_62_80 ?_
      refine m_grN (j := 4) (C := "Ballothall$BallotBox") (T := TX0) (N := 10) (ci := 0) (k := 4) hx hb hts iX0 hown hG hP (yi_2 hL) (yt_2 hL) rfl (by decide) n_62 rfl (fun _ h9 => h9) rfl rfl (yr_2_4 hL) d_1_62_83 ?_
      refine lv_iload_n hx hb d_1_62_86 rfl (lv_at hl 2 rfl) ?_
      refine lv_iload_n hx hb d_1_62_87 rfl (lv_at hl 3 rfl) ?_
      obtain ⟨ok2, h⟩ := ck_e h
      refine m_is hx hb hG hP hD hS (yi_4 hL) (yt_4 hL) ok2 d_1_62_88 (fun H locs hP hD hS => ?_)
      have hP : va_P z.1 classes (wv z ad E (u2 M 4 x2.toNat x3)) H := hP
      have hD : va_D A (wv z ad E (u2 M 4 x2.toNat x3)) := hD
      refine lv_goto (tgt := 169) hx hb d_1_62_89 (by decide) ?_
      obtain rfl := in1 h
      exact W.vret hx hb hr (fun t ht hW => qkA hP hD hS (fun k => k) rfl rfl ht) hS.2.2 d_1_62_169
    have h := ite_f s1_1 h
    by_cases s1_2 : x1 = 2
    · have h := ite_t s1_2 h
      refine nrm (congrArg oI s1_2) ?_
      refine lv_tableIn (off := 158) (tgt := 159) hx hb d_1_62_1 (by decide +kernel) (by decide +kernel) rfl (by decide) ?_
      refine lv_aload_n hx hb d_1_62_159 rfl (lv_at hl 0 rfl) ?_
      refine m_gr (j := 53) (C := "Ballothall") (T := TX11) (N := 14) (ci := 11) (k := 3) hx hb hts iX11 hown hG hP (yi_1 hL) (yt_1 hL) rfl (by decide) w_400 (fun _ h9 => h9) rfl rfl (yr_1_3 hL) d_1_62_160 ?_
      refine lv_iload_n hx hb d_1_62_163 rfl (lv_at hl 1 rfl) ?_
      refine lv_iload_n hx hb d_1_62_164 rfl (lv_at hl 2 rfl) ?_
      refine lv_iload_n hx hb d_1_62_165 rfl (lv_at hl 3 rfl) ?_
      obtain ⟨M3, g3, h⟩ := bd_e h
      refine kVN (As := [.int (oI x1), .int (oI x2), .int (oI x3)]) (rest := []) (s_Li_takeChangeBack l z ad E M x1 x2 x3 M3 hL g3) hx hb hml hown hts w_1503 n_1500 w_1502 w_s_f7e76e w_5 md_b6fc12 ⟨Nat.le_of_ble_eq_true rfl, Nat.le_of_ble_eq_true rfl⟩ hG hZ hP hD hS hA 53 (wv_o (ci := 7) (yi_53 hL) (yt_53 hL)) rfl rfl rfl hl.1 rfl (Nat.le_of_ble_eq_true rfl) d_1_62_166 ⟨Nat.le_of_ble_eq_true rfl, Nat.le_of_ble_eq_true rfl⟩ (fun _ H locs hP hD hS => ?_)
      have hP : va_P z.1 classes (wv z ad E M3) H := hP
      have hD : va_D A (wv z ad E M3) := hD
      refine W.eq (g2 := F0 m 169 ls []) rfl ?_
      obtain rfl := in1 h
      exact W.vret hx hb hr (fun t ht hW => qkA hP hD hS (fun k => k) rfl rfl ht) hS.2.2 d_1_62_169
    have h := ite_f s1_2 h
    by_cases s1_3 : x1 = 3
    · have h := ite_t s1_3 h
      refine nrm (congrArg oI s1_3) ?_
      refine lv_tableIn (off := 91) (tgt := 92) hx hb d_1_62_1 (by decide +kernel) (by decide +kernel) rfl (by decide) ?_
      refine lv_aload_n hx hb d_1_62_92 rfl (lv_at hl 0 rfl) ?_
      refine m_gr (j := 2) (C := "Ballothall") (T := TX11) (N := 14) (ci := 11) (k := 0) hx hb hts iX11 hown hG hP (yi_1 hL) (yt_1 hL) rfl (by decide) w_397 (fun _ h9 => h9) rfl rfl (yr_1_0 hL) d_1_62_93 ?_
      refine lv_iload_n hx hb d_1_62_96 rfl (lv_at hl 2 rfl) ?_
      refine m_piN (C := "Ballothall$BallotBox") (T := TX0) (N := 10) (ci := 0) (k := 3) (ty := .int) hx hb hts iX0 hown hG hP hD hS (yi_2 hL) (yt_2 hL) rfl (by decide) n_58 rfl (fun _ h9 => h9) rfl rfl tyX0_ok nmX0 rfl (by decide +kernel) rfl rfl d_1_62_97 (fun H locs hP hD hS => ?_)
      have hP : va_P z.1 classes (wv z ad E (u2 M 2 3 x2)) H := hP
      have hD : va_D A (wv z ad E (u2 M 2 3 x2)) := hD
      refine lv_goto (tgt := 169) hx hb d_1_62_100 (by decide) ?_
      obtain rfl := in1 h
      exact W.vret hx hb hr (fun t ht hW => qkA hP hD hS (fun k => k) rfl rfl ht) hS.2.2 d_1_62_169
    have h := ite_f s1_3 h
    by_cases s1_4 : x1 = 4
    · have h := ite_t s1_4 h
      refine nrm (congrArg oI s1_4) ?_
      refine lv_tableIn (off := 102) (tgt := 103) hx hb d_1_62_1 (by decide +kernel) (by decide +kernel) rfl (by decide) ?_
      refine lv_aload_n hx hb d_1_62_103 rfl (lv_at hl 0 rfl) ?_
      refine m_gr (j := 2) (C := "Ballothall") (T := TX11) (N := 14) (ci := 11) (k := 0) hx hb hts iX11 hown hG hP (yi_1 hL) (yt_1 hL) rfl (by decide) w_397 (fun _ h9 => h9) rfl rfl (yr_1_0 hL) d_1_62_104 ?_
      refine m_grN (j := 5) (C := "Ballothall$BallotBox") (T := TX0) (N := 10) (ci := 0) (k := 5) hx hb hts iX0 hown hG hP (yi_2 hL) (yt_2 hL) rfl (by decide) n_66 rfl (fun _ h9 => h9) rfl rfl (yr_2_5 hL) d_1_62_107 ?_
      refine lv_iload_n hx hb d_1_62_110 rfl (lv_at hl 2 rfl) ?_
      refine lv_iload_n hx hb d_1_62_111 rfl (lv_at hl 3 rfl) ?_
      obtain ⟨ok4, h⟩ := ck_e h
      refine m_is hx hb hG hP hD hS (yi_5 hL) (yt_5 hL) ok4 d_1_62_112 (fun H locs hP hD hS => ?_)
      have hP : va_P z.1 classes (wv z ad E (u2 M 5 x2.toNat x3)) H := hP
      have hD : va_D A (wv z ad E (u2 M 5 x2.toNat x3)) := hD
      refine lv_goto (tgt := 169) hx hb d_1_62_113 (by decide) ?_
      obtain rfl := in1 h
      exact W.vret hx hb hr (fun t ht hW => qkA hP hD hS (fun k => k) rfl rfl ht) hS.2.2 d_1_62_169
    have h := ite_f s1_4 h
    by_cases s1_5 : x1 = 5
    · have h := ite_t s1_5 h
      refine nrm (congrArg oI s1_5) ?_
      refine lv_tableIn (off := 158) (tgt := 159) hx hb d_1_62_1 (by decide +kernel) (by decide +kernel) rfl (by decide) ?_
      refine lv_aload_n hx hb d_1_62_159 rfl (lv_at hl 0 rfl) ?_
      refine m_gr (j := 53) (C := "Ballothall") (T := TX11) (N := 14) (ci := 11) (k := 3) hx hb hts iX11 hown hG hP (yi_1 hL) (yt_1 hL) rfl (by decide) w_400 (fun _ h9 => h9) rfl rfl (yr_1_3 hL) d_1_62_160 ?_
      refine lv_iload_n hx hb d_1_62_163 rfl (lv_at hl 1 rfl) ?_
      refine lv_iload_n hx hb d_1_62_164 rfl (lv_at hl 2 rfl) ?_
      refine lv_iload_n hx hb d_1_62_165 rfl (lv_at hl 3 rfl) ?_
      obtain ⟨M5, g5, h⟩ := bd_e h
      refine kVN (As := [.int (oI x1), .int (oI x2), .int (oI x3)]) (rest := []) (s_Li_takeChangeBack l z ad E M x1 x2 x3 M5 hL g5) hx hb hml hown hts w_1503 n_1500 w_1502 w_s_f7e76e w_5 md_b6fc12 ⟨Nat.le_of_ble_eq_true rfl, Nat.le_of_ble_eq_true rfl⟩ hG hZ hP hD hS hA 53 (wv_o (ci := 7) (yi_53 hL) (yt_53 hL)) rfl rfl rfl hl.1 rfl (Nat.le_of_ble_eq_true rfl) d_1_62_166 ⟨Nat.le_of_ble_eq_true rfl, Nat.le_of_ble_eq_true rfl⟩ (fun _ H locs hP hD hS => ?_)
      have hP : va_P z.1 classes (wv z ad E M5) H := hP
      have hD : va_D A (wv z ad E M5) := hD
      refine W.eq (g2 := F0 m 169 ls []) rfl ?_
      obtain rfl := in1 h
      exact W.vret hx hb hr (fun t ht hW => qkA hP hD hS (fun k => k) rfl rfl ht) hS.2.2 d_1_62_169
    have h := ite_f s1_5 h
    by_cases s1_6 : x1 = 6
    · have h := ite_t s1_6 h
      refine nrm (congrArg oI s1_6) ?_
      refine lv_tableIn (off := 158) (tgt := 159) hx hb d_1_62_1 (by decide +kernel) (by decide +kernel) rfl (by decide) ?_
      refine lv_aload_n hx hb d_1_62_159 rfl (lv_at hl 0 rfl) ?_
      refine m_gr (j := 53) (C := "Ballothall") (T := TX11) (N := 14) (ci := 11) (k := 3) hx hb hts iX11 hown hG hP (yi_1 hL) (yt_1 hL) rfl (by decide) w_400 (fun _ h9 => h9) rfl rfl (yr_1_3 hL) d_1_62_160 ?_
      refine lv_iload_n hx hb d_1_62_163 rfl (lv_at hl 1 rfl) ?_
      refine lv_iload_n hx hb d_1_62_164 rfl (lv_at hl 2 rfl) ?_
      refine lv_iload_n hx hb d_1_62_165 rfl (lv_at hl 3 rfl) ?_
      obtain ⟨M6, g6, h⟩ := bd_e h
      refine kVN (As := [.int (oI x1), .int (oI x2), .int (oI x3)]) (rest := []) (s_Li_takeChangeBack l z ad E M x1 x2 x3 M6 hL g6) hx hb hml hown hts w_1503 n_1500 w_1502 w_s_f7e76e w_5 md_b6fc12 ⟨Nat.le_of_ble_eq_true rfl, Nat.le_of_ble_eq_true rfl⟩ hG hZ hP hD hS hA 53 (wv_o (ci := 7) (yi_53 hL) (yt_53 hL)) rfl rfl rfl hl.1 rfl (Nat.le_of_ble_eq_true rfl) d_1_62_166 ⟨Nat.le_of_ble_eq_true rfl, Nat.le_of_ble_eq_true rfl⟩ (fun _ H locs hP hD hS => ?_)
      have hP : va_P z.1 classes (wv z ad E M6) H := hP
      have hD : va_D A (wv z ad E M6) := hD
      refine W.eq (g2 := F0 m 169 ls []) rfl ?_
      obtain rfl := in1 h
      exact W.vret hx hb hr (fun t ht hW => qkA hP hD hS (fun k => k) rfl rfl ht) hS.2.2 d_1_62_169
    have h := ite_f s1_6 h
    by_cases s1_7 : x1 = 7
    · have h := ite_t s1_7 h
      refine nrm (congrArg oI s1_7) ?_
      refine lv_tableIn (off := 158) (tgt := 159) hx hb d_1_62_1 (by decide +kernel) (by decide +kernel) rfl (by decide) ?_
      refine lv_aload_n hx hb d_1_62_159 rfl (lv_at hl 0 rfl) ?_
      refine m_gr (j := 53) (C := "Ballothall") (T := TX11) (N := 14) (ci := 11) (k := 3) hx hb hts iX11 hown hG hP (yi_1 hL) (yt_1 hL) rfl (by decide) w_400 (fun _ h9 => h9) rfl rfl (yr_1_3 hL) d_1_62_160 ?_
      refine lv_iload_n hx hb d_1_62_163 rfl (lv_at hl 1 rfl) ?_
      refine lv_iload_n hx hb d_1_62_164 rfl (lv_at hl 2 rfl) ?_
      refine lv_iload_n hx hb d_1_62_165 rfl (lv_at hl 3 rfl) ?_
      obtain ⟨M7, g7, h⟩ := bd_e h
      refine kVN (As := [.int (oI x1), .int (oI x2), .int (oI x3)]) (rest := []) (s_Li_takeChangeBack l z ad E M x1 x2 x3 M7 hL g7) hx hb hml hown hts w_1503 n_1500 w_1502 w_s_f7e76e w_5 md_b6fc12 ⟨Nat.le_of_ble_eq_true rfl, Nat.le_of_ble_eq_true rfl⟩ hG hZ hP hD hS hA 53 (wv_o (ci := 7) (yi_53 hL) (yt_53 hL)) rfl rfl rfl hl.1 rfl (Nat.le_of_ble_eq_true rfl) d_1_62_166 ⟨Nat.le_of_ble_eq_true rfl, Nat.le_of_ble_eq_true rfl⟩ (fun _ H locs hP hD hS => ?_)
      have hP : va_P z.1 classes (wv z ad E M7) H := hP
      have hD : va_D A (wv z ad E M7) := hD
      refine W.eq (g2 := F0 m 169 ls []) rfl ?_
      obtain rfl := in1 h
      exact W.vret hx hb hr (fun t ht hW => qkA hP hD hS (fun k => k) rfl rfl ht) hS.2.2 d_1_62_169
    have h := ite_f s1_7 h
    by_cases s1_8 : x1 = 8
    · have h := ite_t s1_8 h
      refine nrm (congrArg oI s1_8) ?_
      refine lv_tableIn (off := 158) (tgt := 159) hx hb d_1_62_1 (by decide +kernel) (by decide +kernel) rfl (by decide) ?_
      refine lv_aload_n hx hb d_1_62_159 rfl (lv_at hl 0 rfl) ?_
      refine m_gr (j := 53) (C := "Ballothall") (T := TX11) (N := 14) (ci := 11) (k := 3) hx hb hts iX11 hown hG hP (yi_1 hL) (yt_1 hL) rfl (by decide) w_400 (fun _ h9 => h9) rfl rfl (yr_1_3 hL) d_1_62_160 ?_
      refine lv_iload_n hx hb d_1_62_163 rfl (lv_at hl 1 rfl) ?_
      refine lv_iload_n hx hb d_1_62_164 rfl (lv_at hl 2 rfl) ?_
      refine lv_iload_n hx hb d_1_62_165 rfl (lv_at hl 3 rfl) ?_
      obtain ⟨M8, g8, h⟩ := bd_e h
      refine kVN (As := [.int (oI x1), .int (oI x2), .int (oI x3)]) (rest := []) (s_Li_takeChangeBack l z ad E M x1 x2 x3 M8 hL g8) hx hb hml hown hts w_1503 n_1500 w_1502 w_s_f7e76e w_5 md_b6fc12 ⟨Nat.le_of_ble_eq_true rfl, Nat.le_of_ble_eq_true rfl⟩ hG hZ hP hD hS hA 53 (wv_o (ci := 7) (yi_53 hL) (yt_53 hL)) rfl rfl rfl hl.1 rfl (Nat.le_of_ble_eq_true rfl) d_1_62_166 ⟨Nat.le_of_ble_eq_true rfl, Nat.le_of_ble_eq_true rfl⟩ (fun _ H locs hP hD hS => ?_)
      have hP : va_P z.1 classes (wv z ad E M8) H := hP
      have hD : va_D A (wv z ad E M8) := hD
      refine W.eq (g2 := F0 m 169 ls []) rfl ?_
      obtain rfl := in1 h
      exact W.vret hx hb hr (fun t ht hW => qkA hP hD hS (fun k => k) rfl rfl ht) hS.2.2 d_1_62_169
    have h := ite_f s1_8 h
    by_cases s1_9 : x1 = 9
    · have h := ite_t s1_9 h
      refine nrm (congrArg oI s1_9) ?_
      refine lv_tableIn (off := 115) (tgt := 116) hx hb d_1_62_1 (by decide +kernel) (by decide +kernel) rfl (by decide) ?_
      refine lv_aload_n hx hb d_1_62_116 rfl (lv_at hl 0 rfl) ?_
      refine m_gr (j := 179) (C := "Ballothall") (T := TX11) (N := 14) (ci := 11) (k := 4) hx hb hts iX11 hown hG hP (yi_1 hL) (yt_1 hL) rfl (by decide) w_401 (fun _ h9 => h9) rfl rfl (yr_1_4 hL) d_1_62_117 ?_
      obtain ⟨M9, g9, h⟩ := bd_e h
      refine kVN (As := []) (rest := []) (s_Co_goBack l z ad E M M9 hL g9) hx hb hml hown hts w_1499 n_1496 w_1498 w_s_aea976 w_8 md_1d44b6 ⟨Nat.le_of_ble_eq_true rfl, Nat.le_of_ble_eq_true rfl⟩ hG hZ hP hD hS hA 179 (wv_o (ci := 3) (yi_179 hL) (yt_179 hL)) rfl rfl rfl hl.1 rfl (Nat.le_of_ble_eq_true rfl) d_1_62_120 ⟨Nat.le_of_ble_eq_true rfl, Nat.le_of_ble_eq_true rfl⟩ (fun _ H locs hP hD hS => ?_)
      have hP : va_P z.1 classes (wv z ad E M9) H := hP
      have hD : va_D A (wv z ad E M9) := hD
      refine W.eq (g2 := F0 m 123 ls []) rfl ?_
      refine lv_goto (tgt := 169) hx hb d_1_62_123 (by decide) ?_
      obtain rfl := in1 h
      exact W.vret hx hb hr (fun t ht hW => qkA hP hD hS (fun k => k) rfl rfl ht) hS.2.2 d_1_62_169
    have h := ite_f s1_9 h
    by_cases s1_10 : x1 = 10
    · have h := ite_t s1_10 h
      refine nrm (congrArg oI s1_10) ?_
      refine lv_tableIn (off := 125) (tgt := 126) hx hb d_1_62_1 (by decide +kernel) (by decide +kernel) rfl (by decide) ?_
      refine lv_aload_n hx hb d_1_62_126 rfl (lv_at hl 0 rfl) ?_
      refine m_gr (j := 219) (C := "Ballothall") (T := TX11) (N := 14) (ci := 11) (k := 5) hx hb hts iX11 hown hG hP (yi_1 hL) (yt_1 hL) rfl (by decide) w_402 (fun _ h9 => h9) rfl rfl (yr_1_5 hL) d_1_62_127 ?_
      refine lv_iload_n hx hb d_1_62_130 rfl (lv_at hl 2 rfl) ?_
      refine m_piN (C := "Ballothall$Wards") (T := TX10) (N := 5) (ci := 10) (k := 0) (ty := .int) hx hb hts iX10 hown hG hP hD hS (yi_219 hL) (yt_219 hL) rfl (by decide) n_359 rfl (fun _ h9 => h9) rfl rfl tyX10_ok nmX10 rfl (by decide +kernel) rfl rfl d_1_62_131 (fun H locs hP hD hS => ?_)
      have hP : va_P z.1 classes (wv z ad E (u2 M 219 0 x2)) H := hP
      have hD : va_D A (wv z ad E (u2 M 219 0 x2)) := hD
      refine lv_goto (tgt := 169) hx hb d_1_62_134 (by decide) ?_
      obtain rfl := in1 h
      exact W.vret hx hb hr (fun t ht hW => qkA hP hD hS (fun k => k) rfl rfl ht) hS.2.2 d_1_62_169
    have h := ite_f s1_10 h
    by_cases s1_11 : x1 = 11
    · have h := ite_t s1_11 h
      refine nrm (congrArg oI s1_11) ?_
      refine lv_tableIn (off := 136) (tgt := 137) hx hb d_1_62_1 (by decide +kernel) (by decide +kernel) rfl (by decide) ?_
      refine lv_aload_n hx hb d_1_62_137 rfl (lv_at hl 0 rfl) ?_
      refine m_gr (j := 243) (C := "Ballothall") (T := TX11) (N := 14) (ci := 11) (k := 6) hx hb hts iX11 hown hG hP (yi_1 hL) (yt_1 hL) rfl (by decide) w_403 (fun _ h9 => h9) rfl rfl (yr_1_6 hL) d_1_62_138 ?_
      refine lv_iload_n hx hb d_1_62_141 rfl (lv_at hl 2 rfl) ?_
      refine m_piN (C := "Ballothall$Council") (T := TX1) (N := 4) (ci := 1) (k := 0) (ty := .int) hx hb hts iX1 hown hG hP hD hS (yi_243 hL) (yt_243 hL) rfl (by decide) n_383 rfl (fun _ h9 => h9) rfl rfl tyX1_ok nmX1 rfl (by decide +kernel) rfl rfl d_1_62_142 (fun H locs hP hD hS => ?_)
      have hP : va_P z.1 classes (wv z ad E (u2 M 243 0 x2)) H := hP
      have hD : va_D A (wv z ad E (u2 M 243 0 x2)) := hD
      refine lv_goto (tgt := 169) hx hb d_1_62_145 (by decide) ?_
      obtain rfl := in1 h
      exact W.vret hx hb hr (fun t ht hW => qkA hP hD hS (fun k => k) rfl rfl ht) hS.2.2 d_1_62_169
    have h := ite_f s1_11 h
    by_cases s1_12 : x1 = 12
    · have h := ite_t s1_12 h
      refine nrm (congrArg oI s1_12) ?_
      refine lv_tableIn (off := 147) (tgt := 148) hx hb d_1_62_1 (by decide +kernel) (by decide +kernel) rfl (by decide) ?_
      refine lv_aload_n hx hb d_1_62_148 rfl (lv_at hl 0 rfl) ?_
      refine m_gr (j := 243) (C := "Ballothall") (T := TX11) (N := 14) (ci := 11) (k := 6) hx hb hts iX11 hown hG hP (yi_1 hL) (yt_1 hL) rfl (by decide) w_403 (fun _ h9 => h9) rfl rfl (yr_1_6 hL) d_1_62_149 ?_
      refine lv_iload_n hx hb d_1_62_152 rfl (lv_at hl 3 rfl) ?_
      refine m_piN (C := "Ballothall$Council") (T := TX1) (N := 4) (ci := 1) (k := 1) (ty := .int) hx hb hts iX1 hown hG hP hD hS (yi_243 hL) (yt_243 hL) rfl (by decide) n_385 rfl (fun _ h9 => h9) rfl rfl tyX1_ok nmX1 rfl (by decide +kernel) rfl rfl d_1_62_153 (fun H locs hP hD hS => ?_)
      have hP : va_P z.1 classes (wv z ad E (u2 M 243 1 x3)) H := hP
      have hD : va_D A (wv z ad E (u2 M 243 1 x3)) := hD
      refine lv_goto (tgt := 169) hx hb d_1_62_156 (by decide) ?_
      obtain rfl := in1 h
      exact W.vret hx hb hr (fun t ht hW => qkA hP hD hS (fun k => k) rfl rfl ht) hS.2.2 d_1_62_169
    have h := ite_f s1_12 h
    refine lv_tableOut (tgt := 159) hx hb d_1_62_1 (tb_out ok0 (by omega)) (by decide) ?_
    refine lv_aload_n hx hb d_1_62_159 rfl (lv_at hl 0 rfl) ?_
    refine m_gr (j := 53) (C := "Ballothall") (T := TX11) (N := 14) (ci := 11) (k := 3) hx hb hts iX11 hown hG hP (yi_1 hL) (yt_1 hL) rfl (by decide) w_400 (fun _ h9 => h9) rfl rfl (yr_1_3 hL) d_1_62_160 ?_
    refine lv_iload_n hx hb d_1_62_163 rfl (lv_at hl 1 rfl) ?_
    refine lv_iload_n hx hb d_1_62_164 rfl (lv_at hl 2 rfl) ?_
    refine lv_iload_n hx hb d_1_62_165 rfl (lv_at hl 3 rfl) ?_
    obtain ⟨M10, g10, h⟩ := bd_e h
    refine kVN (As := [.int (oI x1), .int (oI x2), .int (oI x3)]) (rest := []) (s_Li_takeChangeBack l z ad E M x1 x2 x3 M10 hL g10) hx hb hml hown hts w_1503 n_1500 w_1502 w_s_f7e76e w_5 md_b6fc12 ⟨Nat.le_of_ble_eq_true rfl, Nat.le_of_ble_eq_true rfl⟩ hG hZ hP hD hS hA 53 (wv_o (ci := 7) (yi_53 hL) (yt_53 hL)) rfl rfl rfl hl.1 rfl (Nat.le_of_ble_eq_true rfl) d_1_62_166 ⟨Nat.le_of_ble_eq_true rfl, Nat.le_of_ble_eq_true rfl⟩ (fun _ H locs hP hD hS => ?_)
    have hP : va_P z.1 classes (wv z ad E M10) H := hP
    have hD : va_D A (wv z ad E M10) := hD
    refine W.eq (g2 := F0 m 169 ls []) rfl ?_
    obtain rfl := in1 h
    exact W.vret hx hb hr (fun t ht hW => qkA hP hD hS (fun k => k) rfl rfl ht) hS.2.2 d_1_62_169
  exact key _ _ _ hts hP hS
set_option maxRecDepth 100000 in
set_option maxHeartbeats 4000000 in
theorem s_Bx_appendSign (l : Launch) (z : Zz) (ad : Nat → Nat) (E : Ev) (M : Mm) (x1 : Int) (N : Mm) (hL : Lay E) (h : f_Bx_appendSign E M x1 = some N) : CT l z ⟨"Ballothall$BallotBox", "appendSign", "(I)V"⟩ prog_2_method_5_code 2 none [.ref (ad 2), .int (oI x1)] (wv z ad E M) 0 20 0 0 (fun _ => none) (fun _ => (wv z ad E N)) := by
  refine CT.of (own := "Ballothall$BallotBox") (by decide +kernel) (Nat.le_of_ble_eq_true rfl) rfl (fun p e s m below meth c A ls hx hb hml hr hts hown hlocks hin hA hG hZ hP hD hS hl => ?_)
  have hl : lv_has ls 2 [(0, .ref (ad 2)), (1, .int (oI x1))] := hl
  have key : ∀ (H : Heap) (locs : List Loc) (args : Array Value), (∀ w ∈ WG, w.before args s = true) → va_P z.1 classes (wv z ad E M) H → va_S A s.heap H locs → W p l e (rmK 0 20 0 0) s m args below meth c H locs 0 0 (MQ below (QK z A (fun _ => none) (fun _ => (wv z ad E N))) args s 0 0 A) (F0 m 0 ls []) := by
    intro H locs args hts hP hS
    unfold f_Bx_appendSign at h
    refine lv_iload_n hx hb d_2_5_0 rfl (lv_at hl 1 rfl) ?_
    obtain ⟨ok0, h⟩ := ck_e h
    refine lv_if_eq (tgt := 36) hx hb d_2_5_1 (by decide) (fun c9 => ?_) (fun c9 => ?_)
    · have h := ite_t ((oI_eq0 ok0).mp c9) h
      obtain rfl := in1 h
      exact W.vret hx hb hr (fun t ht hW => qkA hP hD hS (fun k => k) rfl rfl ht) hS.2.2 d_2_5_36
    · have h := ite_f (fun q => c9 ((oI_eq0 ok0).mpr q)) h
      refine lv_aload_n hx hb d_2_5_4 rfl (lv_at hl 0 rfl) ?_
      refine m_gi (C := "Ballothall$BallotBox") (T := TX0) (N := 10) (ci := 0) (k := 1) hx hb hts iX0 hown hG hP (yi_2 hL) (yt_2 hL) rfl (by decide) w_50 (fun _ h9 => h9) rfl rfl d_2_5_5 ?_
      refine lv_aload_n hx hb d_2_5_8 rfl (lv_at hl 0 rfl) ?_
      refine m_gr (j := 3) (C := "Ballothall$BallotBox") (T := TX0) (N := 10) (ci := 0) (k := 0) hx hb hts iX0 hown hG hP (yi_2 hL) (yt_2 hL) rfl (by decide) w_48 (fun _ h9 => h9) rfl rfl (yr_2_0 hL) d_2_5_9 ?_
      refine m_len (v := 30) hx hb hG hP (yi_3 hL) (yt_3 hL) (by decide +kernel) d_2_5_12 ?_
      obtain ⟨ok1, h⟩ := ck_e h
      refine lv_icmp_ge (tgt := 36) hx hb d_2_5_13 (by decide) (fun c9 => ?_) (fun c9 => ?_)
      · have h := ite_t ((oI_le (a := (30 : Int)) (b := (M 2 1)) (by decide) ok1).mp c9) h
        obtain rfl := in1 h
        exact W.vret hx hb hr (fun t ht hW => qkA hP hD hS (fun k => k) rfl rfl ht) hS.2.2 d_2_5_36
      · have h := ite_f (fun q => c9 ((oI_le (a := (30 : Int)) (b := (M 2 1)) (by decide) ok1).mpr q)) h
        refine lv_aload_n hx hb d_2_5_16 rfl (lv_at hl 0 rfl) ?_
        refine m_gr (j := 3) (C := "Ballothall$BallotBox") (T := TX0) (N := 10) (ci := 0) (k := 0) hx hb hts iX0 hown hG hP (yi_2 hL) (yt_2 hL) rfl (by decide) w_48 (fun _ h9 => h9) rfl rfl (yr_2_0 hL) d_2_5_17 ?_
        refine lv_aload_n hx hb d_2_5_20 rfl (lv_at hl 0 rfl) ?_
        refine m_gi (C := "Ballothall$BallotBox") (T := TX0) (N := 10) (ci := 0) (k := 1) hx hb hts iX0 hown hG hP (yi_2 hL) (yt_2 hL) rfl (by decide) w_50 (fun _ h9 => h9) rfl rfl d_2_5_21 ?_
        refine lv_iload_n hx hb d_2_5_24 rfl (lv_at hl 1 rfl) ?_
        obtain ⟨ok2, h⟩ := ck_e h
        refine m_is hx hb hG hP hD hS (yi_3 hL) (yt_3 hL) ok2 d_2_5_25 (fun H locs hP hD hS => ?_)
        have hP : va_P z.1 classes (wv z ad E (u2 M 3 (M 2 1).toNat x1)) H := hP
        have hD : va_D A (wv z ad E (u2 M 3 (M 2 1).toNat x1)) := hD
        refine lv_aload_n hx hb d_2_5_26 rfl (lv_at hl 0 rfl) ?_
        refine lv_dup hx hb d_2_5_27 rfl ?_
        refine m_gi (C := "Ballothall$BallotBox") (T := TX0) (N := 10) (ci := 0) (k := 1) hx hb hts iX0 hown hG hP (yi_2 hL) (yt_2 hL) rfl (by decide) w_50 (fun _ h9 => h9) rfl rfl d_2_5_28 ?_
        refine lv_iconst (v := oI 1) hx hb d_2_5_31 (by decide +kernel) ?_
        refine lv_iadd hx hb d_2_5_32 ?_
        refine nrm (oI_add _ _) ?_
        refine m_pi (C := "Ballothall$BallotBox") (T := TX0) (N := 10) (ci := 0) (k := 1) (ty := .int) hx hb hts iX0 hown hG hP hD hS (yi_2 hL) (yt_2 hL) rfl (by decide) w_50 (fun _ h9 => h9) rfl rfl tyX0_ok nmX0 rfl (by decide +kernel) rfl rfl d_2_5_33 (fun H locs hP hD hS => ?_)
        have hP : va_P z.1 classes (wv z ad E (u2 (u2 M 3 (M 2 1).toNat x1) 2 1 (((u2 M 3 (M 2 1).toNat x1) 2 1) + 1))) H := hP
        have hD : va_D A (wv z ad E (u2 (u2 M 3 (M 2 1).toNat x1) 2 1 (((u2 M 3 (M 2 1).toNat x1) 2 1) + 1))) := hD
        obtain rfl := in1 h
        exact W.vret hx hb hr (fun t ht hW => qkA hP hD hS (fun k => k) rfl rfl ht) hS.2.2 d_2_5_36
  exact key _ _ _ hts hP hS
set_option maxRecDepth 100000 in
set_option maxHeartbeats 4000000 in
theorem b_B_type_6b (l : Launch) (z : Zz) (ad : Nat → Nat) (E : Ev) (M : Mm) (x1 : Int) (x3 : Int) (x4 : Int) (t : Nat) (w3 : Int) (w4 : Int) (N : Mm) {Q : State → Prop} {p : Program} {e : Env} {s : State} {m : MethodId} {below : List Frame} {meth : Method} {c : Code} {A : Nat → Prop} {args : Array Value} (hx : p.tables.exec = Jvm.exec) (hb : c.code = prog_1_method_4_code) (hml : c.maxLocals = 5) (hts : ∀ w ∈ WG, w.before args s = true) (hown : s.vm.findClass "Ballothall" = some m.cls) (hlocks : meth.locks = false) (hA : ∀ q, s.heap.size ≤ q → A q) (hG : KG z s) (hZ : FZ z A s) (hL : Lay E) (h : B_type_6b E M x1 x3 x4 = some (t, w3, w4, N)) (k0 : t = 0 → ∀ (H : Heap) (locs : List Loc) (ls : Array Slot), va_P z.1 classes (wv z ad E N) H → va_D A (wv z ad E N) → va_S A s.heap H locs → lv_has ls 5 [(0, .ref (ad 1)), (1, .long (oJ x1)), (3, .int (oI w3)), (4, .int (oI w4))] → W p l e (rmK 1 41 0 0) s m args below meth c H locs 0 0 Q (F0 m 6 ls [])) (k1 : t = 1 → ∀ (H : Heap) (locs : List Loc) (ls : Array Slot), va_P z.1 classes (wv z ad E N) H → va_D A (wv z ad E N) → va_S A s.heap H locs → lv_has ls 5 [(0, .ref (ad 1)), (1, .long (oJ x1)), (3, .int (oI w3))] → W p l e (rmK 1 41 0 0) s m args below meth c H locs 0 0 Q (F0 m 33 ls [])) : ∀ (H : Heap) (locs : List Loc) (ls : Array Slot), va_P z.1 classes (wv z ad E M) H → va_D A (wv z ad E M) → va_S A s.heap H locs → lv_has ls 5 [(0, .ref (ad 1)), (1, .long (oJ x1)), (3, .int (oI x3)), (4, .int (oI x4))] → W p l e (rmK 1 41 0 0) s m args below meth c H locs 0 0 Q (F0 m 6 ls []) := by
  intro H locs ls hP hD hS hl
  unfold B_type_6b at h
  refine lv_iload hx hb d_1_4_6 (lv_at hl 3 rfl) ?_
  obtain ⟨ok0, h⟩ := ck_e h
  refine lv_if_lt (tgt := 33) hx hb d_1_4_8 (by decide) (fun c9 => ?_) (fun c9 => ?_)
  · have h := ite_t ((oI_lt0 ok0).mp c9) h
    obtain ⟨rfl, rfl, rfl, rfl⟩ := in4 h
    exact k1 rfl H locs ls hP hD hS (lv_sub hl [0, 1, 2] rfl)
  · have h := ite_f (fun q => c9 ((oI_lt0 ok0).mpr q)) h
    refine lv_lload_n hx hb d_1_4_11 rfl (lv_at hl 1 rfl) ?_
    refine lv_iload hx hb d_1_4_12 (lv_at hl 3 rfl) ?_
    obtain ⟨ok1, h⟩ := ck_e h
    obtain ⟨ok2, h⟩ := ck_e h
    refine lv_lshr (v := oJ (x1 / 2 ^ x4.toNat)) hx hb d_1_4_14 (oJ_shr (b := x4) ok2 ok1.1 ok1.2) ?_
    refine lv_ldc2 hx hb hown (hts _ w_1013) d_1_4_15 ?_
    refine nrmL (x1 := oJ 255) (by decide +kernel) ?_
    refine lv_land hx hb d_1_4_18 ?_
    refine nrmL (oJ_m8 _) ?_
    refine lv_lconst (v := oJ 0) hx hb d_1_4_19 (by decide +kernel) ?_
    refine W.lcmp hx hb d_1_4_20 ?_
    refine nrm (cmp_val (a := ((x1 / 2 ^ x4.toNat) % 256)) (b := (0 : Int)) ⟨by omega, by omega⟩ (by decide)) ?_
    refine lv_if_eq (tgt := 27) hx hb d_1_4_21 (by decide) (fun c9 => ?_) (fun c9 => ?_)
    · have h := ite_t ((cmp_eq ((x1 / 2 ^ x4.toNat) % 256) (0 : Int)).mp c9) h
      refine lv_iinc (v := oI (x4 + (-8))) (lv' := [(4, .int (oI (x4 + (-8)))), (0, .ref (ad 1)), (1, .long (oJ x1)), (3, .int (oI x3))]) hx hb d_1_4_27 hl (k := 3) rfl (oI_add x4 (-8)) (by decide) rfl (fun ls hl => ?_)
      refine lv_goto (tgt := 6) hx hb d_1_4_30 (by decide) ?_
      obtain ⟨rfl, rfl, rfl, rfl⟩ := in4 h
      exact k0 rfl H locs ls hP hD hS (lv_sub hl [1, 2, 3, 0] rfl)
    · have h := ite_f (fun q => c9 ((cmp_eq ((x1 / 2 ^ x4.toNat) % 256) (0 : Int)).mpr q)) h
      refine lv_iinc (v := oI (x3 + 1)) (lv' := [(3, .int (oI (x3 + 1))), (0, .ref (ad 1)), (1, .long (oJ x1)), (4, .int (oI x4))]) hx hb d_1_4_24 hl (k := 2) rfl (oI_add x3 1) (by decide) rfl (fun ls hl => ?_)
      refine lv_iinc (v := oI (x4 + (-8))) (lv' := [(4, .int (oI (x4 + (-8)))), (3, .int (oI (x3 + 1))), (0, .ref (ad 1)), (1, .long (oJ x1))]) hx hb d_1_4_27 hl (k := 3) rfl (oI_add x4 (-8)) (by decide) rfl (fun ls hl => ?_)
      refine lv_goto (tgt := 6) hx hb d_1_4_30 (by decide) ?_
      obtain ⟨rfl, rfl, rfl, rfl⟩ := in4 h
      exact k0 rfl H locs ls hP hD hS (lv_sub hl [2, 3, 1, 0] rfl)
set_option maxRecDepth 100000 in
set_option maxHeartbeats 4000000 in
theorem s_B_type_6 (l : Launch) (z : Zz) (ad : Nat → Nat) (E : Ev) (x1 : Int) {Q : State → Prop} {p : Program} {e : Env} {s : State} {m : MethodId} {below : List Frame} {meth : Method} {c : Code} {A : Nat → Prop} {args : Array Value} (hx : p.tables.exec = Jvm.exec) (hb : c.code = prog_1_method_4_code) (hml : c.maxLocals = 5) (hts : ∀ w ∈ WG, w.before args s = true) (hown : s.vm.findClass "Ballothall" = some m.cls) (hlocks : meth.locks = false) (hA : ∀ q, s.heap.size ≤ q → A q) (hG : KG z s) (hZ : FZ z A s) (hL : Lay E) : ∀ (fu : Nat) (M : Mm) (x3 : Int) (x4 : Int) (t : Nat) (w3 : Int) (w4 : Int) (N : Mm), l_B_type_6 E x1 fu M x3 x4 = some (t, w3, w4, N) → (t = 1 → ∀ (H : Heap) (locs : List Loc) (ls : Array Slot), va_P z.1 classes (wv z ad E N) H → va_D A (wv z ad E N) → va_S A s.heap H locs → lv_has ls 5 [(0, .ref (ad 1)), (1, .long (oJ x1)), (3, .int (oI w3))] → W p l e (rmK 1 41 0 0) s m args below meth c H locs 0 0 Q (F0 m 33 ls [])) → ∀ (H : Heap) (locs : List Loc) (ls : Array Slot), va_P z.1 classes (wv z ad E M) H → va_D A (wv z ad E M) → va_S A s.heap H locs → lv_has ls 5 [(0, .ref (ad 1)), (1, .long (oJ x1)), (3, .int (oI x3)), (4, .int (oI x4))] → W p l e (rmK 1 41 0 0) s m args below meth c H locs 0 0 Q (F0 m 6 ls []) := by
  intro fu
  induction fu with
  | zero =>
    intro M x3 x4 t w3 w4 N h
    have h : (none : Option (Nat × Int × Int × Mm)) = some _ := h
    cases h
  | succ fu ih =>
    intro M x3 x4 t w3 w4 N h k1 H locs ls hP hD hS hl
    obtain ⟨⟨t0, w30, w40, N9⟩, g0, h⟩ := bd_e h
    refine b_B_type_6b l z ad E M x1 x3 x4 t0 w30 w40 N9 hx hb hml hts hown hlocks hA hG hZ hL g0 (fun e0 => ?_) (fun e0 => ?_) H locs ls hP hD hS hl
    · subst e0
      have h := ite_t rfl h
      exact ih N9 w30 w40 t w3 w4 N h k1
    · subst e0
      have h := ite_f (by decide) h
      obtain ⟨rfl, rfl, rfl, rfl⟩ := in4 h
      exact k1 rfl
set_option maxRecDepth 100000 in
set_option maxHeartbeats 4000000 in
theorem b_B_type_51b (l : Launch) (z : Zz) (ad : Nat → Nat) (E : Ev) (M : Mm) (x1 : Int) (x4 : Int) (t : Nat) (w4 : Int) (N : Mm) {Q : State → Prop} {p : Program} {e : Env} {s : State} {m : MethodId} {below : List Frame} {meth : Method} {c : Code} {A : Nat → Prop} {args : Array Value} (hx : p.tables.exec = Jvm.exec) (hb : c.code = prog_1_method_4_code) (hml : c.maxLocals = 5) (hts : ∀ w ∈ WG, w.before args s = true) (hown : s.vm.findClass "Ballothall" = some m.cls) (hlocks : meth.locks = false) (hA : ∀ q, s.heap.size ≤ q → A q) (hG : KG z s) (hZ : FZ z A s) (hL : Lay E) (h : B_type_51b E M x1 x4 = some (t, w4, N)) (k0 : t = 0 → ∀ (H : Heap) (locs : List Loc) (ls : Array Slot), va_P z.1 classes (wv z ad E N) H → va_D A (wv z ad E N) → va_S A s.heap H locs → lv_has ls 5 [(0, .ref (ad 1)), (1, .long (oJ x1)), (4, .int (oI w4))] → W p l e (rmK 1 41 0 0) s m args below meth c H locs 0 0 Q (F0 m 51 ls [])) (k1 : t = 1 → ∀ (H : Heap) (locs : List Loc) (ls : Array Slot), va_P z.1 classes (wv z ad E N) H → va_D A (wv z ad E N) → va_S A s.heap H locs → lv_has ls 5 [(0, .ref (ad 1))] → W p l e (rmK 1 41 0 0) s m args below meth c H locs 0 0 Q (F0 m 78 ls [])) : ∀ (H : Heap) (locs : List Loc) (ls : Array Slot), va_P z.1 classes (wv z ad E M) H → va_D A (wv z ad E M) → va_S A s.heap H locs → lv_has ls 5 [(0, .ref (ad 1)), (1, .long (oJ x1)), (4, .int (oI x4))] → W p l e (rmK 1 41 0 0) s m args below meth c H locs 0 0 Q (F0 m 51 ls []) := by
  intro H locs ls hP hD hS hl
  unfold B_type_51b at h
  refine lv_iload hx hb d_1_4_51 (lv_at hl 2 rfl) ?_
  obtain ⟨ok5, h⟩ := ck_e h
  refine lv_if_lt (tgt := 78) hx hb d_1_4_53 (by decide) (fun c9 => ?_) (fun c9 => ?_)
  · have h := ite_t ((oI_lt0 ok5).mp c9) h
    obtain ⟨rfl, rfl, rfl⟩ := in3 h
    exact k1 rfl H locs ls hP hD hS (lv_sub hl [0] rfl)
  · have h := ite_f (fun q => c9 ((oI_lt0 ok5).mpr q)) h
    refine lv_aload_n hx hb d_1_4_56 rfl (lv_at hl 0 rfl) ?_
    refine m_gr (j := 2) (C := "Ballothall") (T := TX11) (N := 14) (ci := 11) (k := 0) hx hb hts iX11 hown hG hP (yi_1 hL) (yt_1 hL) rfl (by decide) w_397 (fun _ h9 => h9) rfl rfl (yr_1_0 hL) d_1_4_57 ?_
    refine lv_lload_n hx hb d_1_4_60 rfl (lv_at hl 1 rfl) ?_
    refine lv_iload hx hb d_1_4_61 (lv_at hl 2 rfl) ?_
    obtain ⟨ok6, h⟩ := ck_e h
    obtain ⟨ok7, h⟩ := ck_e h
    refine lv_lshr (v := oJ (x1 / 2 ^ x4.toNat)) hx hb d_1_4_63 (oJ_shr (b := x4) ok7 ok6.1 ok6.2) ?_
    refine lv_ldc2 hx hb hown (hts _ w_1013) d_1_4_64 ?_
    refine nrmL (x1 := oJ 255) (by decide +kernel) ?_
    refine lv_land hx hb d_1_4_67 ?_
    refine nrmL (oJ_m8 _) ?_
    refine lv_l2i (v := oI ((x1 / 2 ^ x4.toNat) % 256)) hx hb d_1_4_68 (oJ_i _) ?_
    obtain ⟨M8, g8, h⟩ := bd_e h
    refine kVN (As := [.int (oI ((x1 / 2 ^ x4.toNat) % 256))]) (rest := []) (s_Bx_appendSign l z ad E M ((x1 / 2 ^ x4.toNat) % 256) M8 hL g8) hx hb hml hown hts w_1017 n_1014 w_1016 w_s_aa5e63 w_2 md_dc90bd ⟨Nat.le_of_ble_eq_true rfl, Nat.le_of_ble_eq_true rfl⟩ hG hZ hP hD hS hA 2 (wv_o (ci := 0) (yi_2 hL) (yt_2 hL)) rfl rfl rfl hl.1 rfl (Nat.le_of_ble_eq_true rfl) d_1_4_69 ⟨Nat.le_of_ble_eq_true rfl, Nat.le_of_ble_eq_true rfl⟩ (fun _ H locs hP hD hS => ?_)
    have hP : va_P z.1 classes (wv z ad E M8) H := hP
    have hD : va_D A (wv z ad E M8) := hD
    refine W.eq (g2 := F0 m 72 ls []) rfl ?_
    refine lv_iinc (v := oI (x4 + (-8))) (lv' := [(4, .int (oI (x4 + (-8)))), (0, .ref (ad 1)), (1, .long (oJ x1))]) hx hb d_1_4_72 hl (k := 2) rfl (oI_add x4 (-8)) (by decide) rfl (fun ls hl => ?_)
    refine lv_goto (tgt := 51) hx hb d_1_4_75 (by decide) ?_
    obtain ⟨rfl, rfl, rfl⟩ := in3 h
    exact k0 rfl H locs ls hP hD hS (lv_sub hl [1, 2, 0] rfl)
set_option maxRecDepth 100000 in
set_option maxHeartbeats 4000000 in
theorem s_B_type_51 (l : Launch) (z : Zz) (ad : Nat → Nat) (E : Ev) (x1 : Int) {Q : State → Prop} {p : Program} {e : Env} {s : State} {m : MethodId} {below : List Frame} {meth : Method} {c : Code} {A : Nat → Prop} {args : Array Value} (hx : p.tables.exec = Jvm.exec) (hb : c.code = prog_1_method_4_code) (hml : c.maxLocals = 5) (hts : ∀ w ∈ WG, w.before args s = true) (hown : s.vm.findClass "Ballothall" = some m.cls) (hlocks : meth.locks = false) (hA : ∀ q, s.heap.size ≤ q → A q) (hG : KG z s) (hZ : FZ z A s) (hL : Lay E) : ∀ (fu : Nat) (M : Mm) (x4 : Int) (t : Nat) (w4 : Int) (N : Mm), l_B_type_51 E x1 fu M x4 = some (t, w4, N) → (t = 1 → ∀ (H : Heap) (locs : List Loc) (ls : Array Slot), va_P z.1 classes (wv z ad E N) H → va_D A (wv z ad E N) → va_S A s.heap H locs → lv_has ls 5 [(0, .ref (ad 1))] → W p l e (rmK 1 41 0 0) s m args below meth c H locs 0 0 Q (F0 m 78 ls [])) → ∀ (H : Heap) (locs : List Loc) (ls : Array Slot), va_P z.1 classes (wv z ad E M) H → va_D A (wv z ad E M) → va_S A s.heap H locs → lv_has ls 5 [(0, .ref (ad 1)), (1, .long (oJ x1)), (4, .int (oI x4))] → W p l e (rmK 1 41 0 0) s m args below meth c H locs 0 0 Q (F0 m 51 ls []) := by
  intro fu
  induction fu with
  | zero =>
    intro M x4 t w4 N h
    have h : (none : Option (Nat × Int × Mm)) = some _ := h
    cases h
  | succ fu ih =>
    intro M x4 t w4 N h k1 H locs ls hP hD hS hl
    obtain ⟨⟨t0, w40, N9⟩, g0, h⟩ := bd_e h
    refine b_B_type_51b l z ad E M x1 x4 t0 w40 N9 hx hb hml hts hown hlocks hA hG hZ hL g0 (fun e0 => ?_) (fun e0 => ?_) H locs ls hP hD hS hl
    · subst e0
      have h := ite_t rfl h
      exact ih N9 w40 t w4 N h k1
    · subst e0
      have h := ite_f (by decide) h
      obtain ⟨rfl, rfl, rfl⟩ := in3 h
      exact k1 rfl
set_option maxRecDepth 100000 in
set_option maxHeartbeats 4000000 in
theorem s_B_type (l : Launch) (z : Zz) (ad : Nat → Nat) (E : Ev) (M : Mm) (x1 : Int) (r : Int) (N : Mm) (hL : Lay E) (h : f_B_type E M x1 = some (r, N)) : CT l z ⟨"Ballothall", "type", "(J)I"⟩ prog_1_method_4_code 5 (some .int) [.ref (ad 1), .long (oJ x1)] (wv z ad E M) 1 41 0 0 (fun _ => some (.int (oI r))) (fun _ => (wv z ad E N)) := by
  refine CT.of (own := "Ballothall") (by decide +kernel) (Nat.le_of_ble_eq_true rfl) rfl (fun p e s m below meth c A ls hx hb hml hr hts hown hlocks hin hA hG hZ hP hD hS hl => ?_)
  have hl : lv_has ls 5 [(0, .ref (ad 1)), (1, .long (oJ x1))] := hl
  have key : ∀ (H : Heap) (locs : List Loc) (args : Array Value), (∀ w ∈ WG, w.before args s = true) → va_P z.1 classes (wv z ad E M) H → va_S A s.heap H locs → W p l e (rmK 1 41 0 0) s m args below meth c H locs 0 0 (MQ below (QK z A (fun _ => some (.int (oI r))) (fun _ => (wv z ad E N))) args s 0 0 A) (F0 m 0 ls []) := by
    intro H locs args hts hP hS
    unfold f_B_type at h
    refine lv_iconst (v := oI 0) hx hb d_1_4_0 (by decide +kernel) ?_
    refine lv_istore_n (lv' := [(3, .int (oI 0)), (0, .ref (ad 1)), (1, .long (oJ x1))]) hx hb d_1_4_1 rfl hl (by decide) rfl (fun ls hl => ?_)
    refine lv_bipush (v := oI 56) hx hb d_1_4_2 (by decide +kernel) ?_
    refine lv_istore (lv' := [(4, .int (oI 56)), (3, .int (oI 0)), (0, .ref (ad 1)), (1, .long (oJ x1))]) hx hb d_1_4_4 hl (by decide) rfl (fun ls hl => ?_)
    obtain ⟨⟨t3, v3_3, v3_4, M3⟩, g3, h⟩ := bd_e h
    obtain ⟨ok3, h⟩ := ck_e h
    refine s_B_type_6 l z ad E x1 hx hb hml hts hown hlocks hA hG hZ hL FU M 0 56 t3 v3_3 v3_4 M3 g3 (fun e3 H locs ls hP hD hS hl => ?_) H locs ls hP hD hS (lv_sub hl [2, 3, 1, 0] rfl)
    refine lv_aload_n hx hb d_1_4_33 rfl (lv_at hl 0 rfl) ?_
    refine m_gr (j := 2) (C := "Ballothall") (T := TX11) (N := 14) (ci := 11) (k := 0) hx hb hts iX11 hown hG hP (yi_1 hL) (yt_1 hL) rfl (by decide) w_397 (fun _ h9 => h9) rfl rfl (yr_1_0 hL) d_1_4_34 ?_
    refine m_giN (C := "Ballothall$BallotBox") (T := TX0) (N := 10) (ci := 0) (k := 1) hx hb hts iX0 hown hG hP (yi_2 hL) (yt_2 hL) rfl (by decide) n_49 rfl (fun _ h9 => h9) rfl rfl d_1_4_37 ?_
    refine lv_iload_n hx hb d_1_4_40 rfl (lv_at hl 2 rfl) ?_
    refine lv_iadd hx hb d_1_4_41 ?_
    refine nrm (oI_add _ _) ?_
    refine lv_bipush (v := oI 30) hx hb d_1_4_42 (by decide +kernel) ?_
    obtain ⟨_, g4, h⟩ := bd_e h
    refine kS (As := [.int (oI ((M3 2 1) + v3_3)), .int (oI 30)]) (rest := []) (s_B_needRoom l z ad E M3 ((M3 2 1) + v3_3) 30 hL g4) hx hb hml hown hts w_446 w_444 w_445 w_1 md_ec9fa9 ⟨Nat.le_of_ble_eq_true rfl, Nat.le_of_ble_eq_true rfl⟩ hG hZ hP hD hS hA rfl hl.1 rfl (Nat.le_of_ble_eq_true rfl) d_1_4_44 ⟨Nat.le_of_ble_eq_true rfl, Nat.le_of_ble_eq_true rfl⟩ (fun _ H locs hP hD hS => ?_)
    have hP : va_P z.1 classes (wv z ad E M3) H := hP
    have hD : va_D A (wv z ad E M3) := hD
    refine W.eq (g2 := F0 m 47 ls []) rfl ?_
    refine lv_bipush (v := oI 56) hx hb d_1_4_47 (by decide +kernel) ?_
    refine lv_istore (lv' := [(4, .int (oI 56)), (0, .ref (ad 1)), (1, .long (oJ x1)), (3, .int (oI v3_3))]) hx hb d_1_4_49 hl (by decide) rfl (fun ls hl => ?_)
    obtain ⟨⟨t9, v9_4, M9⟩, g9, h⟩ := bd_e h
    obtain ⟨ok9, h⟩ := ck_e h
    refine s_B_type_51 l z ad E x1 hx hb hml hts hown hlocks hA hG hZ hL FU M3 56 t9 v9_4 M9 g9 (fun e9 H locs ls hP hD hS hl => ?_) H locs ls hP hD hS (lv_sub hl [1, 2, 0] rfl)
    refine lv_aload_n hx hb d_1_4_78 rfl (lv_at hl 0 rfl) ?_
    refine m_gr (j := 2) (C := "Ballothall") (T := TX11) (N := 14) (ci := 11) (k := 0) hx hb hts iX11 hown hG hP (yi_1 hL) (yt_1 hL) rfl (by decide) w_397 (fun _ h9 => h9) rfl rfl (yr_1_0 hL) d_1_4_79 ?_
    refine m_giN (C := "Ballothall$BallotBox") (T := TX0) (N := 10) (ci := 0) (k := 1) hx hb hts iX0 hown hG hP (yi_2 hL) (yt_2 hL) rfl (by decide) n_49 rfl (fun _ h9 => h9) rfl rfl d_1_4_82 ?_
    obtain ⟨rfl, rfl⟩ := in2 h
    exact W.iret hx hb hr (fun t ht hW => qkA hP hD hS (fun k => k) rfl rfl ht) hS.2.2 d_1_4_85
  exact key _ _ _ hts hP hS
set_option maxRecDepth 100000 in
set_option maxHeartbeats 4000000 in
theorem s_B_undo (l : Launch) (z : Zz) (ad : Nat → Nat) (E : Ev) (M : Mm) (r : Int) (N : Mm) (hL : Lay E) (h : f_B_undo E M = some (r, N)) : CT l z ⟨"Ballothall", "undo", "()I"⟩ prog_1_method_50_code 1 (some .int) [.ref (ad 1)] (wv z ad E M) 2 66 0 0 (fun _ => some (.int (oI r))) (fun _ => (wv z ad E N)) := by
  refine CT.of (own := "Ballothall") (by decide +kernel) (Nat.le_of_ble_eq_true rfl) rfl (fun p e s m below meth c A ls hx hb hml hr hts hown hlocks hin hA hG hZ hP hD hS hl => ?_)
  have hl : lv_has ls 1 [(0, .ref (ad 1))] := hl
  have key : ∀ (H : Heap) (locs : List Loc) (args : Array Value), (∀ w ∈ WG, w.before args s = true) → va_P z.1 classes (wv z ad E M) H → va_S A s.heap H locs → W p l e (rmK 2 66 0 0) s m args below meth c H locs 0 0 (MQ below (QK z A (fun _ => some (.int (oI r))) (fun _ => (wv z ad E N))) args s 0 0 A) (F0 m 0 ls []) := by
    intro H locs args hts hP hS
    unfold f_B_undo at h
    refine lv_aload_n hx hb d_1_50_0 rfl (lv_at hl 0 rfl) ?_
    refine m_gi (C := "Ballothall") (T := TX11) (N := 14) (ci := 11) (k := 11) hx hb hts iX11 hown hG hP (yi_1 hL) (yt_1 hL) rfl (by decide) w_408 (fun _ h9 => h9) rfl rfl d_1_50_1 ?_
    obtain ⟨ok0, h⟩ := ck_e h
    refine lv_if_ne (tgt := 9) hx hb d_1_50_4 (by decide) (fun c9 => ?_) (fun c9 => ?_)
    · have h := ite_f (fun q => c9 ((oI_eq0 ok0).mpr q)) h
      refine lv_aload_n hx hb d_1_50_9 rfl (lv_at hl 0 rfl) ?_
      refine lv_aload_n hx hb d_1_50_10 rfl (lv_at hl 0 rfl) ?_
      refine m_gr (j := 246) (C := "Ballothall") (T := TX11) (N := 14) (ci := 11) (k := 7) hx hb hts iX11 hown hG hP (yi_1 hL) (yt_1 hL) rfl (by decide) w_404 (fun _ h9 => h9) rfl rfl (yr_1_7 hL) d_1_50_11 ?_
      refine lv_aload_n hx hb d_1_50_14 rfl (lv_at hl 0 rfl) ?_
      refine m_gi (C := "Ballothall") (T := TX11) (N := 14) (ci := 11) (k := 10) hx hb hts iX11 hown hG hP (yi_1 hL) (yt_1 hL) rfl (by decide) w_407 (fun _ h9 => h9) rfl rfl d_1_50_15 ?_
      obtain ⟨ok1, h⟩ := ck_e h
      refine m_ia hx hb hG hP (yi_246 hL) (yt_246 hL) ok1 d_1_50_18 ?_
      refine lv_aload_n hx hb d_1_50_19 rfl (lv_at hl 0 rfl) ?_
      refine m_gr (j := 247) (C := "Ballothall") (T := TX11) (N := 14) (ci := 11) (k := 8) hx hb hts iX11 hown hG hP (yi_1 hL) (yt_1 hL) rfl (by decide) w_405 (fun _ h9 => h9) rfl rfl (yr_1_8 hL) d_1_50_20 ?_
      refine lv_aload_n hx hb d_1_50_23 rfl (lv_at hl 0 rfl) ?_
      refine m_gi (C := "Ballothall") (T := TX11) (N := 14) (ci := 11) (k := 10) hx hb hts iX11 hown hG hP (yi_1 hL) (yt_1 hL) rfl (by decide) w_407 (fun _ h9 => h9) rfl rfl d_1_50_24 ?_
      refine m_ia hx hb hG hP (yi_247 hL) (yt_247 hL) ok1 d_1_50_27 ?_
      refine lv_aload_n hx hb d_1_50_28 rfl (lv_at hl 0 rfl) ?_
      refine m_gr (j := 248) (C := "Ballothall") (T := TX11) (N := 14) (ci := 11) (k := 9) hx hb hts iX11 hown hG hP (yi_1 hL) (yt_1 hL) rfl (by decide) w_406 (fun _ h9 => h9) rfl rfl (yr_1_9 hL) d_1_50_29 ?_
      refine lv_aload_n hx hb d_1_50_32 rfl (lv_at hl 0 rfl) ?_
      refine m_gi (C := "Ballothall") (T := TX11) (N := 14) (ci := 11) (k := 10) hx hb hts iX11 hown hG hP (yi_1 hL) (yt_1 hL) rfl (by decide) w_407 (fun _ h9 => h9) rfl rfl d_1_50_33 ?_
      refine m_ia hx hb hG hP (yi_248 hL) (yt_248 hL) ok1 d_1_50_36 ?_
      obtain ⟨M2, g2, h⟩ := bd_e h
      refine kV (As := [.int (oI (M 246 (M 1 10).toNat)), .int (oI (M 247 (M 1 10).toNat)), .int (oI (M 248 (M 1 10).toNat))]) (rest := []) (s_B_takeChangeBack l z ad E M (M 246 (M 1 10).toNat) (M 247 (M 1 10).toNat) (M 248 (M 1 10).toNat) M2 hL g2) hx hb hml hown hts w_1495 w_1492 w_1494 w_s_46a037 w_1 md_d03cf9 ⟨Nat.le_of_ble_eq_true rfl, Nat.le_of_ble_eq_true rfl⟩ hG hZ hP hD hS hA 1 (wv_o (ci := 11) (yi_1 hL) (yt_1 hL)) rfl rfl rfl hl.1 rfl (Nat.le_of_ble_eq_true rfl) d_1_50_37 ⟨Nat.le_of_ble_eq_true rfl, Nat.le_of_ble_eq_true rfl⟩ (fun _ H locs hP hD hS => ?_)
      have hP : va_P z.1 classes (wv z ad E M2) H := hP
      have hD : va_D A (wv z ad E M2) := hD
      refine W.eq (g2 := F0 m 40 ls []) rfl ?_
      refine lv_aload_n hx hb d_1_50_40 rfl (lv_at hl 0 rfl) ?_
      refine lv_aload_n hx hb d_1_50_41 rfl (lv_at hl 0 rfl) ?_
      refine m_gi (C := "Ballothall") (T := TX11) (N := 14) (ci := 11) (k := 10) hx hb hts iX11 hown hG hP (yi_1 hL) (yt_1 hL) rfl (by decide) w_407 (fun _ h9 => h9) rfl rfl d_1_50_42 ?_
      refine lv_bipush (v := oI 20) hx hb d_1_50_45 (by decide +kernel) ?_
      refine lv_iadd hx hb d_1_50_47 ?_
      refine nrm (oI_add _ _) ?_
      refine lv_iconst (v := oI 1) hx hb d_1_50_48 (by decide +kernel) ?_
      refine lv_isub hx hb d_1_50_49 ?_
      refine nrm (oI_sub _ _) ?_
      refine lv_bipush (v := oI 20) hx hb d_1_50_50 (by decide +kernel) ?_
      obtain ⟨ok3, h⟩ := ck_e h
      refine lv_irem hx hb d_1_50_52 (oI_nz (show psI 20 by decide).1 (show psI 20 by decide).2) ?_
      refine nrm (oI_rem (a := (((M2 1 10) + 20) - 1)) (b := (20 : Int)) ok3.1 ok3.2 (show psI 20 by decide).1 (show psI 20 by decide).2) ?_
      refine m_pi (C := "Ballothall") (T := TX11) (N := 14) (ci := 11) (k := 10) (ty := .int) hx hb hts iX11 hown hG hP hD hS (yi_1 hL) (yt_1 hL) rfl (by decide) w_407 (fun _ h9 => h9) rfl rfl tyX11_ok nmX11 rfl (by decide +kernel) rfl rfl d_1_50_53 (fun H locs hP hD hS => ?_)
      have hP : va_P z.1 classes (wv z ad E (u2 M2 1 10 ((((M2 1 10) + 20) - 1) % 20))) H := hP
      have hD : va_D A (wv z ad E (u2 M2 1 10 ((((M2 1 10) + 20) - 1) % 20))) := hD
      refine lv_aload_n hx hb d_1_50_56 rfl (lv_at hl 0 rfl) ?_
      refine lv_dup hx hb d_1_50_57 rfl ?_
      refine m_gi (C := "Ballothall") (T := TX11) (N := 14) (ci := 11) (k := 11) hx hb hts iX11 hown hG hP (yi_1 hL) (yt_1 hL) rfl (by decide) w_408 (fun _ h9 => h9) rfl rfl d_1_50_58 ?_
      refine lv_iconst (v := oI 1) hx hb d_1_50_61 (by decide +kernel) ?_
      refine lv_isub hx hb d_1_50_62 ?_
      refine nrm (oI_sub _ _) ?_
      refine m_pi (C := "Ballothall") (T := TX11) (N := 14) (ci := 11) (k := 11) (ty := .int) hx hb hts iX11 hown hG hP hD hS (yi_1 hL) (yt_1 hL) rfl (by decide) w_408 (fun _ h9 => h9) rfl rfl tyX11_ok nmX11 rfl (by decide +kernel) rfl rfl d_1_50_63 (fun H locs hP hD hS => ?_)
      have hP : va_P z.1 classes (wv z ad E (u2 (u2 M2 1 10 ((((M2 1 10) + 20) - 1) % 20)) 1 11 (((u2 M2 1 10 ((((M2 1 10) + 20) - 1) % 20)) 1 11) - 1))) H := hP
      have hD : va_D A (wv z ad E (u2 (u2 M2 1 10 ((((M2 1 10) + 20) - 1) % 20)) 1 11 (((u2 M2 1 10 ((((M2 1 10) + 20) - 1) % 20)) 1 11) - 1))) := hD
      obtain ⟨M4, e4, h⟩ := nb_e h
      rw [← e4] at hP hD
      refine lv_aload_n hx hb d_1_50_66 rfl (lv_at hl 0 rfl) ?_
      refine m_gi (C := "Ballothall") (T := TX11) (N := 14) (ci := 11) (k := 11) hx hb hts iX11 hown hG hP (yi_1 hL) (yt_1 hL) rfl (by decide) w_408 (fun _ h9 => h9) rfl rfl d_1_50_67 ?_
      obtain ⟨rfl, rfl⟩ := in2 h
      exact W.iret hx hb hr (fun t ht hW => qkA hP hD hS (fun k => k) rfl rfl ht) hS.2.2 d_1_50_70
    · have h := ite_t ((oI_eq0 ok0).mp c9) h
      refine lv_iconst (v := oI (-1)) hx hb d_1_50_7 (by decide +kernel) ?_
      obtain ⟨rfl, rfl⟩ := in2 h
      exact W.iret hx hb hr (fun t ht hW => qkA hP hD hS (fun k => k) rfl rfl ht) hS.2.2 d_1_50_8
  exact key _ _ _ hts hP hS
set_option maxRecDepth 100000 in
set_option maxHeartbeats 4000000 in
theorem s_Wa_append (l : Launch) (z : Zz) (ad : Nat → Nat) (E : Ev) (M : Mm) (x1 : Int) (x2 : Int) (x3 : Int) (r : Int) (N : Mm) (hL : Lay E) (h : f_Wa_append E M x1 x2 x3 = some (r, N)) : CT l z ⟨"Ballothall$Wards", "append", "(III)I"⟩ prog_12_method_2_code 5 (some .int) [.ref (ad 219), .int (oI x1), .int (oI x2), .int (oI x3)] (wv z ad E M) 0 20 0 0 (fun _ => some (.int (oI r))) (fun _ => (wv z ad E N)) := by
  refine CT.of (own := "Ballothall$Wards") (by decide +kernel) (Nat.le_of_ble_eq_true rfl) rfl (fun p e s m below meth c A ls hx hb hml hr hts hown hlocks hin hA hG hZ hP hD hS hl => ?_)
  have hl : lv_has ls 5 [(0, .ref (ad 219)), (1, .int (oI x1)), (2, .int (oI x2)), (3, .int (oI x3))] := hl
  have key : ∀ (H : Heap) (locs : List Loc) (args : Array Value), (∀ w ∈ WG, w.before args s = true) → va_P z.1 classes (wv z ad E M) H → va_S A s.heap H locs → W p l e (rmK 0 20 0 0) s m args below meth c H locs 0 0 (MQ below (QK z A (fun _ => some (.int (oI r))) (fun _ => (wv z ad E N))) args s 0 0 A) (F0 m 0 ls []) := by
    intro H locs args hts hP hS
    unfold f_Wa_append at h
    refine lv_aload_n hx hb d_12_2_0 rfl (lv_at hl 0 rfl) ?_
    refine m_gi (C := "Ballothall$Wards") (T := TX10) (N := 5) (ci := 10) (k := 0) hx hb hts iX10 hown hG hP (yi_219 hL) (yt_219 hL) rfl (by decide) w_358 (fun _ h9 => h9) rfl rfl d_12_2_1 ?_
    refine lv_istore (lv' := [(4, .int (oI (M 219 0))), (0, .ref (ad 219)), (1, .int (oI x1)), (2, .int (oI x2)), (3, .int (oI x3))]) hx hb d_12_2_4 hl (by decide) rfl (fun ls hl => ?_)
    refine lv_aload_n hx hb d_12_2_6 rfl (lv_at hl 1 rfl) ?_
    refine m_gr (j := 220) (C := "Ballothall$Wards") (T := TX10) (N := 5) (ci := 10) (k := 1) hx hb hts iX10 hown hG hP (yi_219 hL) (yt_219 hL) rfl (by decide) w_360 (fun _ h9 => h9) rfl rfl (yr_219_1 hL) d_12_2_7 ?_
    refine lv_iload hx hb d_12_2_10 (lv_at hl 0 rfl) ?_
    refine lv_iload_n hx hb d_12_2_12 rfl (lv_at hl 2 rfl) ?_
    obtain ⟨ok0, h⟩ := ck_e h
    refine m_is hx hb hG hP hD hS (yi_220 hL) (yt_220 hL) ok0 d_12_2_13 (fun H locs hP hD hS => ?_)
    have hP : va_P z.1 classes (wv z ad E (u2 M 220 (M 219 0).toNat x1)) H := hP
    have hD : va_D A (wv z ad E (u2 M 220 (M 219 0).toNat x1)) := hD
    refine lv_aload_n hx hb d_12_2_14 rfl (lv_at hl 1 rfl) ?_
    refine m_gr (j := 221) (C := "Ballothall$Wards") (T := TX10) (N := 5) (ci := 10) (k := 2) hx hb hts iX10 hown hG hP (yi_219 hL) (yt_219 hL) rfl (by decide) w_361 (fun _ h9 => h9) rfl rfl (yr_219_2 hL) d_12_2_15 ?_
    refine lv_iconst (v := oI 0) hx hb d_12_2_18 (by decide +kernel) ?_
    refine m_ar (k := 222) hx hb hG hP (yi_221 hL) (yt_221 hL) (by decide +kernel) ((ya_221 hL (by decide +kernel)).trans (by decide +kernel)) d_12_2_19 ?_
    refine lv_iload hx hb d_12_2_20 (lv_at hl 0 rfl) ?_
    refine lv_iload_n hx hb d_12_2_22 rfl (lv_at hl 3 rfl) ?_
    refine m_is hx hb hG hP hD hS (yi_222 hL) (yt_222 hL) ok0 d_12_2_23 (fun H locs hP hD hS => ?_)
    have hP : va_P z.1 classes (wv z ad E (u2 (u2 M 220 (M 219 0).toNat x1) 222 (M 219 0).toNat x2)) H := hP
    have hD : va_D A (wv z ad E (u2 (u2 M 220 (M 219 0).toNat x1) 222 (M 219 0).toNat x2)) := hD
    refine lv_aload_n hx hb d_12_2_24 rfl (lv_at hl 1 rfl) ?_
    refine m_gr (j := 221) (C := "Ballothall$Wards") (T := TX10) (N := 5) (ci := 10) (k := 2) hx hb hts iX10 hown hG hP (yi_219 hL) (yt_219 hL) rfl (by decide) w_361 (fun _ h9 => h9) rfl rfl (yr_219_2 hL) d_12_2_25 ?_
    refine lv_iconst (v := oI 1) hx hb d_12_2_28 (by decide +kernel) ?_
    refine m_ar (k := 223) hx hb hG hP (yi_221 hL) (yt_221 hL) (by decide +kernel) ((ya_221 hL (by decide +kernel)).trans (by decide +kernel)) d_12_2_29 ?_
    refine lv_iload hx hb d_12_2_30 (lv_at hl 0 rfl) ?_
    refine lv_iload_n hx hb d_12_2_32 rfl (lv_at hl 4 rfl) ?_
    refine m_is hx hb hG hP hD hS (yi_223 hL) (yt_223 hL) ok0 d_12_2_33 (fun H locs hP hD hS => ?_)
    have hP : va_P z.1 classes (wv z ad E (u2 (u2 (u2 M 220 (M 219 0).toNat x1) 222 (M 219 0).toNat x2) 223 (M 219 0).toNat x3)) H := hP
    have hD : va_D A (wv z ad E (u2 (u2 (u2 M 220 (M 219 0).toNat x1) 222 (M 219 0).toNat x2) 223 (M 219 0).toNat x3)) := hD
    refine lv_aload_n hx hb d_12_2_34 rfl (lv_at hl 1 rfl) ?_
    refine lv_dup hx hb d_12_2_35 rfl ?_
    refine m_gi (C := "Ballothall$Wards") (T := TX10) (N := 5) (ci := 10) (k := 0) hx hb hts iX10 hown hG hP (yi_219 hL) (yt_219 hL) rfl (by decide) w_358 (fun _ h9 => h9) rfl rfl d_12_2_36 ?_
    refine lv_iconst (v := oI 1) hx hb d_12_2_39 (by decide +kernel) ?_
    refine lv_iadd hx hb d_12_2_40 ?_
    refine nrm (oI_add _ _) ?_
    refine m_pi (C := "Ballothall$Wards") (T := TX10) (N := 5) (ci := 10) (k := 0) (ty := .int) hx hb hts iX10 hown hG hP hD hS (yi_219 hL) (yt_219 hL) rfl (by decide) w_358 (fun _ h9 => h9) rfl rfl tyX10_ok nmX10 rfl (by decide +kernel) rfl rfl d_12_2_41 (fun H locs hP hD hS => ?_)
    have hP : va_P z.1 classes (wv z ad E (u2 (u2 (u2 (u2 M 220 (M 219 0).toNat x1) 222 (M 219 0).toNat x2) 223 (M 219 0).toNat x3) 219 0 (((u2 (u2 (u2 M 220 (M 219 0).toNat x1) 222 (M 219 0).toNat x2) 223 (M 219 0).toNat x3) 219 0) + 1))) H := hP
    have hD : va_D A (wv z ad E (u2 (u2 (u2 (u2 M 220 (M 219 0).toNat x1) 222 (M 219 0).toNat x2) 223 (M 219 0).toNat x3) 219 0 (((u2 (u2 (u2 M 220 (M 219 0).toNat x1) 222 (M 219 0).toNat x2) 223 (M 219 0).toNat x3) 219 0) + 1))) := hD
    obtain ⟨M1, e1, h⟩ := nb_e h
    rw [← e1] at hP hD
    refine lv_iload hx hb d_12_2_44 (lv_at hl 0 rfl) ?_
    obtain ⟨rfl, rfl⟩ := in2 h
    exact W.iret hx hb hr (fun t ht hW => qkA hP hD hS (fun k => k) rfl rfl ht) hS.2.2 d_12_2_46
  exact key _ _ _ hts hP hS
set_option maxRecDepth 100000 in
set_option maxHeartbeats 4000000 in
theorem s_B_ward (l : Launch) (z : Zz) (ad : Nat → Nat) (E : Ev) (M : Mm) (x1 : Int) (x2 : Int) (x3 : Int) (r : Int) (N : Mm) (hL : Lay E) (h : f_B_ward E M x1 x2 x3 = some (r, N)) : CT l z ⟨"Ballothall", "ward", "(III)I"⟩ prog_1_method_41_code 5 (some .int) [.ref (ad 1), .int (oI x1), .int (oI x2), .int (oI x3)] (wv z ad E M) 2 63 0 0 (fun _ => some (.int (oI r))) (fun _ => (wv z ad E N)) := by
  refine CT.of (own := "Ballothall") (by decide +kernel) (Nat.le_of_ble_eq_true rfl) rfl (fun p e s m below meth c A ls hx hb hml hr hts hown hlocks hin hA hG hZ hP hD hS hl => ?_)
  have hl : lv_has ls 5 [(0, .ref (ad 1)), (1, .int (oI x1)), (2, .int (oI x2)), (3, .int (oI x3))] := hl
  have key : ∀ (H : Heap) (locs : List Loc) (args : Array Value), (∀ w ∈ WG, w.before args s = true) → va_P z.1 classes (wv z ad E M) H → va_S A s.heap H locs → W p l e (rmK 2 63 0 0) s m args below meth c H locs 0 0 (MQ below (QK z A (fun _ => some (.int (oI r))) (fun _ => (wv z ad E N))) args s 0 0 A) (F0 m 0 ls []) := by
    intro H locs args hts hP hS
    unfold f_B_ward at h
    refine lv_iload_n hx hb d_1_41_0 rfl (lv_at hl 1 rfl) ?_
    refine lv_iconst (v := oI 1) hx hb d_1_41_1 (by decide +kernel) ?_
    refine lv_ldc hx hb hown (hts _ w_1022) d_1_41_2 ?_
    refine nrm (x1 := oI 100000) (by decide +kernel) ?_
    obtain ⟨_, g0, h⟩ := bd_e h
    refine kS (As := [.int (oI x1), .int (oI 1), .int (oI 100000)]) (rest := []) (s_B_needRange l z ad E M x1 1 100000 hL g0) hx hb hml hown hts w_548 w_546 w_547 w_1 md_519134 ⟨Nat.le_of_ble_eq_true rfl, Nat.le_of_ble_eq_true rfl⟩ hG hZ hP hD hS hA rfl hl.1 rfl (Nat.le_of_ble_eq_true rfl) d_1_41_4 ⟨Nat.le_of_ble_eq_true rfl, Nat.le_of_ble_eq_true rfl⟩ (fun _ H locs hP hD hS => ?_)
    have hP : va_P z.1 classes (wv z ad E M) H := hP
    have hD : va_D A (wv z ad E M) := hD
    refine W.eq (g2 := F0 m 7 ls []) rfl ?_
    refine lv_iload_n hx hb d_1_41_7 rfl (lv_at hl 2 rfl) ?_
    refine lv_iconst (v := oI 0) hx hb d_1_41_8 (by decide +kernel) ?_
    refine lv_ldc hx hb hown (hts _ w_1022) d_1_41_9 ?_
    refine nrm (x1 := oI 100000) (by decide +kernel) ?_
    obtain ⟨_, g1, h⟩ := bd_e h
    refine kS (As := [.int (oI x2), .int (oI 0), .int (oI 100000)]) (rest := []) (s_B_needRange l z ad E M x2 0 100000 hL g1) hx hb hml hown hts w_548 w_546 w_547 w_1 md_519134 ⟨Nat.le_of_ble_eq_true rfl, Nat.le_of_ble_eq_true rfl⟩ hG hZ hP hD hS hA rfl hl.1 rfl (Nat.le_of_ble_eq_true rfl) d_1_41_11 ⟨Nat.le_of_ble_eq_true rfl, Nat.le_of_ble_eq_true rfl⟩ (fun _ H locs hP hD hS => ?_)
    have hP : va_P z.1 classes (wv z ad E M) H := hP
    have hD : va_D A (wv z ad E M) := hD
    refine W.eq (g2 := F0 m 14 ls []) rfl ?_
    refine lv_iload_n hx hb d_1_41_14 rfl (lv_at hl 3 rfl) ?_
    refine lv_iconst (v := oI 0) hx hb d_1_41_15 (by decide +kernel) ?_
    refine lv_ldc hx hb hown (hts _ w_1022) d_1_41_16 ?_
    refine nrm (x1 := oI 100000) (by decide +kernel) ?_
    obtain ⟨_, g2, h⟩ := bd_e h
    refine kS (As := [.int (oI x3), .int (oI 0), .int (oI 100000)]) (rest := []) (s_B_needRange l z ad E M x3 0 100000 hL g2) hx hb hml hown hts w_548 w_546 w_547 w_1 md_519134 ⟨Nat.le_of_ble_eq_true rfl, Nat.le_of_ble_eq_true rfl⟩ hG hZ hP hD hS hA rfl hl.1 rfl (Nat.le_of_ble_eq_true rfl) d_1_41_18 ⟨Nat.le_of_ble_eq_true rfl, Nat.le_of_ble_eq_true rfl⟩ (fun _ H locs hP hD hS => ?_)
    have hP : va_P z.1 classes (wv z ad E M) H := hP
    have hD : va_D A (wv z ad E M) := hD
    refine W.eq (g2 := F0 m 21 ls []) rfl ?_
    refine lv_aload_n hx hb d_1_41_21 rfl (lv_at hl 0 rfl) ?_
    refine m_gr (j := 219) (C := "Ballothall") (T := TX11) (N := 14) (ci := 11) (k := 5) hx hb hts iX11 hown hG hP (yi_1 hL) (yt_1 hL) rfl (by decide) w_402 (fun _ h9 => h9) rfl rfl (yr_1_5 hL) d_1_41_22 ?_
    refine m_giN (C := "Ballothall$Wards") (T := TX10) (N := 5) (ci := 10) (k := 0) hx hb hts iX10 hown hG hP (yi_219 hL) (yt_219 hL) rfl (by decide) n_359 rfl (fun _ h9 => h9) rfl rfl d_1_41_25 ?_
    refine lv_iconst (v := oI 1) hx hb d_1_41_28 (by decide +kernel) ?_
    refine lv_iadd hx hb d_1_41_29 ?_
    refine nrm (oI_add _ _) ?_
    refine lv_bipush (v := oI 16) hx hb d_1_41_30 (by decide +kernel) ?_
    obtain ⟨_, g3, h⟩ := bd_e h
    refine kS (As := [.int (oI ((M 219 0) + 1)), .int (oI 16)]) (rest := []) (s_B_needRoom l z ad E M ((M 219 0) + 1) 16 hL g3) hx hb hml hown hts w_446 w_444 w_445 w_1 md_ec9fa9 ⟨Nat.le_of_ble_eq_true rfl, Nat.le_of_ble_eq_true rfl⟩ hG hZ hP hD hS hA rfl hl.1 rfl (Nat.le_of_ble_eq_true rfl) d_1_41_32 ⟨Nat.le_of_ble_eq_true rfl, Nat.le_of_ble_eq_true rfl⟩ (fun _ H locs hP hD hS => ?_)
    have hP : va_P z.1 classes (wv z ad E M) H := hP
    have hD : va_D A (wv z ad E M) := hD
    refine W.eq (g2 := F0 m 35 ls []) rfl ?_
    refine lv_aload_n hx hb d_1_41_35 rfl (lv_at hl 0 rfl) ?_
    refine m_gr (j := 219) (C := "Ballothall") (T := TX11) (N := 14) (ci := 11) (k := 5) hx hb hts iX11 hown hG hP (yi_1 hL) (yt_1 hL) rfl (by decide) w_402 (fun _ h9 => h9) rfl rfl (yr_1_5 hL) d_1_41_36 ?_
    refine lv_iload_n hx hb d_1_41_39 rfl (lv_at hl 1 rfl) ?_
    refine lv_iload_n hx hb d_1_41_40 rfl (lv_at hl 2 rfl) ?_
    refine lv_iload_n hx hb d_1_41_41 rfl (lv_at hl 3 rfl) ?_
    obtain ⟨⟨r4, M4⟩, g4, h⟩ := bd_e h
    refine kVN (As := [.int (oI x1), .int (oI x2), .int (oI x3)]) (rest := []) (s_Wa_append l z ad E M x1 x2 x3 r4 M4 hL g4) hx hb hml hown hts w_1613 n_1610 w_1612 w_s_c4bf49 w_10 md_d51d3b ⟨Nat.le_of_ble_eq_true rfl, Nat.le_of_ble_eq_true rfl⟩ hG hZ hP hD hS hA 219 (wv_o (ci := 10) (yi_219 hL) (yt_219 hL)) rfl rfl rfl hl.1 rfl (Nat.le_of_ble_eq_true rfl) d_1_41_42 ⟨Nat.le_of_ble_eq_true rfl, Nat.le_of_ble_eq_true rfl⟩ (fun _ H locs hP hD hS => ?_)
    have hP : va_P z.1 classes (wv z ad E M4) H := hP
    have hD : va_D A (wv z ad E M4) := hD
    refine W.eq (g2 := F0 m 45 ls [.int (oI r4)]) rfl ?_
    refine lv_istore (lv' := [(4, .int (oI r4)), (0, .ref (ad 1)), (1, .int (oI x1)), (2, .int (oI x2)), (3, .int (oI x3))]) hx hb d_1_41_45 hl (by decide) rfl (fun ls hl => ?_)
    refine lv_aload_n hx hb d_1_41_47 rfl (lv_at hl 1 rfl) ?_
    refine lv_bipush (v := oI 10) hx hb d_1_41_48 (by decide +kernel) ?_
    refine lv_iload hx hb d_1_41_50 (lv_at hl 0 rfl) ?_
    refine lv_iconst (v := oI 0) hx hb d_1_41_52 (by decide +kernel) ?_
    obtain ⟨M5, g5, h⟩ := bd_e h
    refine kV (As := [.int (oI 10), .int (oI r4), .int (oI 0)]) (rest := []) (s_B_remember l z ad E M4 10 r4 0 M5 hL g5) hx hb hml hown hts w_519 w_516 w_518 w_s_b872b3 w_1 md_7af0bb ⟨Nat.le_of_ble_eq_true rfl, Nat.le_of_ble_eq_true rfl⟩ hG hZ hP hD hS hA 1 (wv_o (ci := 11) (yi_1 hL) (yt_1 hL)) rfl rfl rfl hl.1 rfl (Nat.le_of_ble_eq_true rfl) d_1_41_53 ⟨Nat.le_of_ble_eq_true rfl, Nat.le_of_ble_eq_true rfl⟩ (fun _ H locs hP hD hS => ?_)
    have hP : va_P z.1 classes (wv z ad E M5) H := hP
    have hD : va_D A (wv z ad E M5) := hD
    refine W.eq (g2 := F0 m 56 ls []) rfl ?_
    refine lv_iload hx hb d_1_41_56 (lv_at hl 0 rfl) ?_
    obtain ⟨rfl, rfl⟩ := in2 h
    exact W.iret hx hb hr (fun t ht hW => qkA hP hD hS (fun k => k) rfl rfl ht) hS.2.2 d_1_41_58
  exact key _ _ _ hts hP hS
