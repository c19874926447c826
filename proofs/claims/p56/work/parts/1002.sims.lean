set_option maxRecDepth 100000 in
set_option maxHeartbeats 4000000 in
theorem b_B_ballots_j109 (l : Launch) (z : Zz) (ad : Nat → Nat) (E : Ev) (M : Mm) (x1 : Int) (x3 : Int) (r : Int) (N : Mm) {p : Program} {e : Env} {s : State} {m : MethodId} {below : List Frame} {meth : Method} {c : Code} {A : Nat → Prop} {args : Array Value} (hx : p.tables.exec = Jvm.exec) (hb : c.code = prog_1_method_5_code) (hml : c.maxLocals = 4) (hts : ∀ w ∈ WG, w.before args s = true) (hown : s.vm.findClass "Ballothall" = some m.cls) (hlocks : meth.locks = false) (hA : ∀ q, s.heap.size ≤ q → A q) (hG : KG z s) (hZ : FZ z A s) (hL : Lay E) (hr : meth.sig.returnType = (some .int)) (h : B_ballots_j109 E M x1 x3 = some (r, N)) : ∀ (H : Heap) (locs : List Loc) (ls : Array Slot), va_P z.1 classes (wv z ad E M) H → va_D A (wv z ad E M) → va_S A s.heap H locs → lv_has ls 4 [(0, .ref (ad 1)), (1, .int (oI x1)), (3, .int (oI x3))] → W p l e (rmK 3 90 0 0) s m args below meth c H locs 0 0 (MQ below (QK z A (fun _ => some (.int (oI r))) (fun _ => (wv z ad E N))) args s 0 0 A) (F0 m 109 ls []) := by
  intro H locs ls hP hD hS hl
  unfold B_ballots_j109 at h
  refine lv_aload_n hx hb d_1_5_109 rfl (lv_at hl 0 rfl) ?_
  refine m_gr (j := 2) (C := "Ballothall") (T := TX11) (N := 14) (ci := 11) (k := 0) hx hb hts iX11 hown hG hP (yi_1 hL) (yt_1 hL) rfl (by decide) w_397 (fun _ h9 => h9) rfl rfl (yr_1_0 hL) d_1_5_110 ?_
  refine lv_iconst (v := oI 0) hx hb d_1_5_113 (by decide +kernel) ?_
  refine m_piN (C := "Ballothall$BallotBox") (T := TX0) (N := 10) (ci := 0) (k := 1) (ty := .int) hx hb hts iX0 hown hG hP hD hS (yi_2 hL) (yt_2 hL) rfl (by decide) n_49 rfl (fun _ h9 => h9) rfl rfl tyX0_ok nmX0 rfl (by decide +kernel) rfl rfl d_1_5_114 (fun H locs hP hD hS => ?_)
  have hP : va_P z.1 classes (wv z ad E (u2 M 2 1 0)) H := hP
  have hD : va_D A (wv z ad E (u2 M 2 1 0)) := hD
  refine lv_aload_n hx hb d_1_5_117 rfl (lv_at hl 0 rfl) ?_
  refine m_gr (j := 2) (C := "Ballothall") (T := TX11) (N := 14) (ci := 11) (k := 0) hx hb hts iX11 hown hG hP (yi_1 hL) (yt_1 hL) rfl (by decide) w_397 (fun _ h9 => h9) rfl rfl (yr_1_0 hL) d_1_5_118 ?_
  refine m_grN (j := 5) (C := "Ballothall$BallotBox") (T := TX0) (N := 10) (ci := 0) (k := 5) hx hb hts iX0 hown hG hP (yi_2 hL) (yt_2 hL) rfl (by decide) n_66 rfl (fun _ h9 => h9) rfl rfl (yr_2_5 hL) d_1_5_121 ?_
  refine lv_iload_n hx hb d_1_5_124 rfl (lv_at hl 2 rfl) ?_
  refine lv_dup2_11 hx hb d_1_5_125 rfl rfl ?_
  obtain ⟨ok8, h⟩ := ck_e h
  refine m_ia hx hb hG hP (yi_5 hL) (yt_5 hL) ok8 d_1_5_126 ?_
  refine lv_iload_n hx hb d_1_5_127 rfl (lv_at hl 1 rfl) ?_
  refine lv_iadd hx hb d_1_5_128 ?_
  refine nrm (oI_add _ _) ?_
  obtain ⟨v9, e9, h⟩ := nb_e h
  refine nrm (congrArg oI e9.symm) ?_
  refine m_is hx hb hG hP hD hS (yi_5 hL) (yt_5 hL) ok8 d_1_5_129 (fun H locs hP hD hS => ?_)
  have hP : va_P z.1 classes (wv z ad E (u2 (u2 M 2 1 0) 5 x3.toNat v9)) H := hP
  have hD : va_D A (wv z ad E (u2 (u2 M 2 1 0) 5 x3.toNat v9)) := hD
  refine lv_iload_n hx hb d_1_5_130 rfl (lv_at hl 2 rfl) ?_
  obtain ⟨rfl, rfl⟩ := in2 h
  exact W.iret hx hb hr (fun t ht hW => qkA hP hD hS (fun k => k) rfl rfl ht) hS.2.2 d_1_5_131
set_option maxRecDepth 100000 in
set_option maxHeartbeats 4000000 in
theorem s_B_ballots (l : Launch) (z : Zz) (ad : Nat → Nat) (E : Ev) (M : Mm) (x1 : Int) (r : Int) (N : Mm) (hL : Lay E) (h : f_B_ballots E M x1 = some (r, N)) : CT l z ⟨"Ballothall", "ballots", "(I)I"⟩ prog_1_method_5_code 4 (some .int) [.ref (ad 1), .int (oI x1)] (wv z ad E M) 3 90 0 0 (fun _ => some (.int (oI r))) (fun _ => (wv z ad E N)) := by
  refine CT.of (own := "Ballothall") (by decide +kernel) (Nat.le_of_ble_eq_true rfl) rfl (fun p e s m below meth c A ls hx hb hml hr hts hown hlocks hin hA hG hZ hP hD hS hl => ?_)
  have hl : lv_has ls 4 [(0, .ref (ad 1)), (1, .int (oI x1))] := hl
  have key : ∀ (H : Heap) (locs : List Loc) (args : Array Value), (∀ w ∈ WG, w.before args s = true) → va_P z.1 classes (wv z ad E M) H → va_S A s.heap H locs → W p l e (rmK 3 90 0 0) s m args below meth c H locs 0 0 (MQ below (QK z A (fun _ => some (.int (oI r))) (fun _ => (wv z ad E N))) args s 0 0 A) (F0 m 0 ls []) := by
    intro H locs args hts hP hS
    unfold f_B_ballots at h
    refine lv_iload_n hx hb d_1_5_0 rfl (lv_at hl 1 rfl) ?_
    refine lv_iconst (v := oI 1) hx hb d_1_5_1 (by decide +kernel) ?_
    refine lv_ldc hx hb hown (hts _ w_1022) d_1_5_2 ?_
    refine nrm (x1 := oI 100000) (by decide +kernel) ?_
    obtain ⟨_, g0, h⟩ := bd_e h
    refine kS (As := [.int (oI x1), .int (oI 1), .int (oI 100000)]) (rest := []) (s_B_needRange l z ad E M x1 1 100000 hL g0) hx hb hml hown hts w_548 w_546 w_547 w_1 md_519134 ⟨Nat.le_of_ble_eq_true rfl, Nat.le_of_ble_eq_true rfl⟩ hG hZ hP hD hS hA rfl hl.1 rfl (Nat.le_of_ble_eq_true rfl) d_1_5_4 ⟨Nat.le_of_ble_eq_true rfl, Nat.le_of_ble_eq_true rfl⟩ (fun _ H locs hP hD hS => ?_)
    have hP : va_P z.1 classes (wv z ad E M) H := hP
    have hD : va_D A (wv z ad E M) := hD
    refine W.eq (g2 := F0 m 7 ls []) rfl ?_
    refine lv_aload_n hx hb d_1_5_7 rfl (lv_at hl 0 rfl) ?_
    refine m_gr (j := 2) (C := "Ballothall") (T := TX11) (N := 14) (ci := 11) (k := 0) hx hb hts iX11 hown hG hP (yi_1 hL) (yt_1 hL) rfl (by decide) w_397 (fun _ h9 => h9) rfl rfl (yr_1_0 hL) d_1_5_8 ?_
    obtain ⟨⟨r1, M1⟩, g1, h⟩ := bd_e h
    refine kVN (As := []) (rest := []) (s_Bx_readTrial l z ad E M r1 M1 hL g1) hx hb hml hown hts w_1026 n_1023 w_1025 w_s_f90180 w_2 md_45ab82 ⟨Nat.le_of_ble_eq_true rfl, Nat.le_of_ble_eq_true rfl⟩ hG hZ hP hD hS hA 2 (wv_o (ci := 0) (yi_2 hL) (yt_2 hL)) rfl rfl rfl hl.1 rfl (Nat.le_of_ble_eq_true rfl) d_1_5_11 ⟨Nat.le_of_ble_eq_true rfl, Nat.le_of_ble_eq_true rfl⟩ (fun _ H locs hP hD hS => ?_)
    have hP : va_P z.1 classes (wv z ad E M1) H := hP
    have hD : va_D A (wv z ad E M1) := hD
    refine W.eq (g2 := F0 m 14 ls [.int (oI r1)]) rfl ?_
    refine lv_istore_n (lv' := [(2, .int (oI r1)), (0, .ref (ad 1)), (1, .int (oI x1))]) hx hb d_1_5_14 rfl hl (by decide) rfl (fun ls hl => ?_)
    refine lv_iload_n hx hb d_1_5_15 rfl (lv_at hl 0 rfl) ?_
    refine lv_iconst (v := oI (-1)) hx hb d_1_5_16 (by decide +kernel) ?_
    obtain ⟨ok2, h⟩ := ck_e h
    refine lv_icmp_eq (tgt := 33) hx hb d_1_5_17 (by decide) (fun c9 => ?_) (fun c9 => ?_)
    · have h := ite_t ((oI_eq (a := r1) (b := (-1 : Int)) ok2 (by decide)).mp c9) h
      refine lv_aload_n hx hb d_1_5_33 rfl (lv_at hl 1 rfl) ?_
      refine m_gr (j := 2) (C := "Ballothall") (T := TX11) (N := 14) (ci := 11) (k := 0) hx hb hts iX11 hown hG hP (yi_1 hL) (yt_1 hL) rfl (by decide) w_397 (fun _ h9 => h9) rfl rfl (yr_1_0 hL) d_1_5_34 ?_
      obtain ⟨r3, g3, h⟩ := bd_e h
      refine kVN (As := []) (rest := []) (s_Bx_kindOfTrial l z ad E M1 r3 hL g3) hx hb hml hown hts w_1040 n_1037 w_1039 w_s_49da49 w_2 md_9be7b3 ⟨Nat.le_of_ble_eq_true rfl, Nat.le_of_ble_eq_true rfl⟩ hG hZ hP hD hS hA 2 (wv_o (ci := 0) (yi_2 hL) (yt_2 hL)) rfl rfl rfl hl.1 rfl (Nat.le_of_ble_eq_true rfl) d_1_5_37 ⟨Nat.le_of_ble_eq_true rfl, Nat.le_of_ble_eq_true rfl⟩ (fun _ H locs hP hD hS => ?_)
      have hP : va_P z.1 classes (wv z ad E M1) H := hP
      have hD : va_D A (wv z ad E M1) := hD
      refine W.eq (g2 := F0 m 40 ls [.int (oI r3)]) rfl ?_
      refine lv_istore_n (lv' := [(3, .int (oI r3)), (2, .int (oI r1)), (0, .ref (ad 1)), (1, .int (oI x1))]) hx hb d_1_5_40 rfl hl (by decide) rfl (fun ls hl => ?_)
      refine lv_iload_n hx hb d_1_5_41 rfl (lv_at hl 0 rfl) ?_
      refine lv_iconst (v := oI (-1)) hx hb d_1_5_42 (by decide +kernel) ?_
      obtain ⟨ok4, h⟩ := ck_e h
      refine lv_icmp_ne (tgt := 78) hx hb d_1_5_43 (by decide) (fun c9 => ?_) (fun c9 => ?_)
      · have h := ite_f (fun q => c9 ((oI_eq (a := r3) (b := (-1 : Int)) ok4 (by decide)).mpr q)) h
        refine lv_aload_n hx hb d_1_5_78 rfl (lv_at hl 2 rfl) ?_
        refine m_gr (j := 2) (C := "Ballothall") (T := TX11) (N := 14) (ci := 11) (k := 0) hx hb hts iX11 hown hG hP (yi_1 hL) (yt_1 hL) rfl (by decide) w_397 (fun _ h9 => h9) rfl rfl (yr_1_0 hL) d_1_5_79 ?_
        refine m_grN (j := 5) (C := "Ballothall$BallotBox") (T := TX0) (N := 10) (ci := 0) (k := 5) hx hb hts iX0 hown hG hP (yi_2 hL) (yt_2 hL) rfl (by decide) n_66 rfl (fun _ h9 => h9) rfl rfl (yr_2_5 hL) d_1_5_82 ?_
        refine lv_iload_n hx hb d_1_5_85 rfl (lv_at hl 0 rfl) ?_
        obtain ⟨ok5, h⟩ := ck_e h
        refine m_ia hx hb hG hP (yi_5 hL) (yt_5 hL) ok5 d_1_5_86 ?_
        refine lv_iload_n hx hb d_1_5_87 rfl (lv_at hl 3 rfl) ?_
        refine lv_iadd hx hb d_1_5_88 ?_
        refine nrm (oI_add _ _) ?_
        refine lv_ldc hx hb hown (hts _ w_1050) d_1_5_89 ?_
        refine nrm (x1 := oI 1000000) (by decide +kernel) ?_
        obtain ⟨_, g6, h⟩ := bd_e h
        refine kS (As := [.int (oI ((M1 5 r3.toNat) + x1)), .int (oI 1000000)]) (rest := []) (s_B_needRoom l z ad E M1 ((M1 5 r3.toNat) + x1) 1000000 hL g6) hx hb hml hown hts w_446 w_444 w_445 w_1 md_ec9fa9 ⟨Nat.le_of_ble_eq_true rfl, Nat.le_of_ble_eq_true rfl⟩ hG hZ hP hD hS hA rfl hl.1 rfl (Nat.le_of_ble_eq_true rfl) d_1_5_91 ⟨Nat.le_of_ble_eq_true rfl, Nat.le_of_ble_eq_true rfl⟩ (fun _ H locs hP hD hS => ?_)
        have hP : va_P z.1 classes (wv z ad E M1) H := hP
        have hD : va_D A (wv z ad E M1) := hD
        refine W.eq (g2 := F0 m 94 ls []) rfl ?_
        refine lv_aload_n hx hb d_1_5_94 rfl (lv_at hl 2 rfl) ?_
        refine lv_iconst (v := oI 4) hx hb d_1_5_95 (by decide +kernel) ?_
        refine lv_iload_n hx hb d_1_5_96 rfl (lv_at hl 0 rfl) ?_
        refine lv_aload_n hx hb d_1_5_97 rfl (lv_at hl 2 rfl) ?_
        refine m_gr (j := 2) (C := "Ballothall") (T := TX11) (N := 14) (ci := 11) (k := 0) hx hb hts iX11 hown hG hP (yi_1 hL) (yt_1 hL) rfl (by decide) w_397 (fun _ h9 => h9) rfl rfl (yr_1_0 hL) d_1_5_98 ?_
        refine m_grN (j := 5) (C := "Ballothall$BallotBox") (T := TX0) (N := 10) (ci := 0) (k := 5) hx hb hts iX0 hown hG hP (yi_2 hL) (yt_2 hL) rfl (by decide) n_66 rfl (fun _ h9 => h9) rfl rfl (yr_2_5 hL) d_1_5_101 ?_
        refine lv_iload_n hx hb d_1_5_104 rfl (lv_at hl 0 rfl) ?_
        refine m_ia hx hb hG hP (yi_5 hL) (yt_5 hL) ok5 d_1_5_105 ?_
        obtain ⟨M7, g7, h⟩ := bd_e h
        refine kV (As := [.int (oI 4), .int (oI r3), .int (oI (M1 5 r3.toNat))]) (rest := []) (s_B_remember l z ad E M1 4 r3 (M1 5 r3.toNat) M7 hL g7) hx hb hml hown hts w_519 w_516 w_518 w_s_b872b3 w_1 md_7af0bb ⟨Nat.le_of_ble_eq_true rfl, Nat.le_of_ble_eq_true rfl⟩ hG hZ hP hD hS hA 1 (wv_o (ci := 11) (yi_1 hL) (yt_1 hL)) rfl rfl rfl hl.1 rfl (Nat.le_of_ble_eq_true rfl) d_1_5_106 ⟨Nat.le_of_ble_eq_true rfl, Nat.le_of_ble_eq_true rfl⟩ (fun _ H locs hP hD hS => ?_)
        have hP : va_P z.1 classes (wv z ad E M7) H := hP
        have hD : va_D A (wv z ad E M7) := hD
        refine W.eq (g2 := F0 m 109 ls []) rfl ?_
        exact b_B_ballots_j109 l z ad E M7 x1 r3 r N hx hb hml hts hown hlocks hA hG hZ hL hr h H locs ls hP hD hS (lv_sub hl [2, 3, 0] rfl)
      · have h := ite_t ((oI_eq (a := r3) (b := (-1 : Int)) ok4 (by decide)).mp c9) h
        refine lv_aload_n hx hb d_1_5_46 rfl (lv_at hl 2 rfl) ?_
        refine m_gr (j := 2) (C := "Ballothall") (T := TX11) (N := 14) (ci := 11) (k := 0) hx hb hts iX11 hown hG hP (yi_1 hL) (yt_1 hL) rfl (by decide) w_397 (fun _ h9 => h9) rfl rfl (yr_1_0 hL) d_1_5_47 ?_
        refine m_giN (C := "Ballothall$BallotBox") (T := TX0) (N := 10) (ci := 0) (k := 3) hx hb hts iX0 hown hG hP (yi_2 hL) (yt_2 hL) rfl (by decide) n_58 rfl (fun _ h9 => h9) rfl rfl d_1_5_50 ?_
        refine lv_iconst (v := oI 1) hx hb d_1_5_53 (by decide +kernel) ?_
        refine lv_iadd hx hb d_1_5_54 ?_
        refine nrm (oI_add _ _) ?_
        refine lv_bipush (v := oI 30) hx hb d_1_5_55 (by decide +kernel) ?_
        obtain ⟨_, g10, h⟩ := bd_e h
        refine kS (As := [.int (oI ((M1 2 3) + 1)), .int (oI 30)]) (rest := []) (s_B_needRoom l z ad E M1 ((M1 2 3) + 1) 30 hL g10) hx hb hml hown hts w_446 w_444 w_445 w_1 md_ec9fa9 ⟨Nat.le_of_ble_eq_true rfl, Nat.le_of_ble_eq_true rfl⟩ hG hZ hP hD hS hA rfl hl.1 rfl (Nat.le_of_ble_eq_true rfl) d_1_5_57 ⟨Nat.le_of_ble_eq_true rfl, Nat.le_of_ble_eq_true rfl⟩ (fun _ H locs hP hD hS => ?_)
        have hP : va_P z.1 classes (wv z ad E M1) H := hP
        have hD : va_D A (wv z ad E M1) := hD
        refine W.eq (g2 := F0 m 60 ls []) rfl ?_
        refine lv_aload_n hx hb d_1_5_60 rfl (lv_at hl 2 rfl) ?_
        refine m_gr (j := 2) (C := "Ballothall") (T := TX11) (N := 14) (ci := 11) (k := 0) hx hb hts iX11 hown hG hP (yi_1 hL) (yt_1 hL) rfl (by decide) w_397 (fun _ h9 => h9) rfl rfl (yr_1_0 hL) d_1_5_61 ?_
        obtain ⟨⟨r11, M11⟩, g11, h⟩ := bd_e h
        refine kVN (As := []) (rest := []) (s_Bx_keepTrial l z ad E M1 r11 M11 hL g11) hx hb hml hown hts w_1048 n_1045 w_1047 w_s_2f4554 w_2 md_b91f95 ⟨Nat.le_of_ble_eq_true rfl, Nat.le_of_ble_eq_true rfl⟩ hG hZ hP hD hS hA 2 (wv_o (ci := 0) (yi_2 hL) (yt_2 hL)) rfl rfl rfl hl.1 rfl (Nat.le_of_ble_eq_true rfl) d_1_5_64 ⟨Nat.le_of_ble_eq_true rfl, Nat.le_of_ble_eq_true rfl⟩ (fun _ H locs hP hD hS => ?_)
        have hP : va_P z.1 classes (wv z ad E M11) H := hP
        have hD : va_D A (wv z ad E M11) := hD
        refine W.eq (g2 := F0 m 67 ls [.int (oI r11)]) rfl ?_
        refine lv_istore_n (lv' := [(3, .int (oI r11)), (2, .int (oI r1)), (0, .ref (ad 1)), (1, .int (oI x1))]) hx hb d_1_5_67 rfl hl (by decide) rfl (fun ls hl => ?_)
        refine lv_aload_n hx hb d_1_5_68 rfl (lv_at hl 2 rfl) ?_
        refine lv_iconst (v := oI 3) hx hb d_1_5_69 (by decide +kernel) ?_
        refine lv_iload_n hx hb d_1_5_70 rfl (lv_at hl 0 rfl) ?_
        refine lv_iconst (v := oI 0) hx hb d_1_5_71 (by decide +kernel) ?_
        obtain ⟨M12, g12, h⟩ := bd_e h
        refine kV (As := [.int (oI 3), .int (oI r11), .int (oI 0)]) (rest := []) (s_B_remember l z ad E M11 3 r11 0 M12 hL g12) hx hb hml hown hts w_519 w_516 w_518 w_s_b872b3 w_1 md_7af0bb ⟨Nat.le_of_ble_eq_true rfl, Nat.le_of_ble_eq_true rfl⟩ hG hZ hP hD hS hA 1 (wv_o (ci := 11) (yi_1 hL) (yt_1 hL)) rfl rfl rfl hl.1 rfl (Nat.le_of_ble_eq_true rfl) d_1_5_72 ⟨Nat.le_of_ble_eq_true rfl, Nat.le_of_ble_eq_true rfl⟩ (fun _ H locs hP hD hS => ?_)
        have hP : va_P z.1 classes (wv z ad E M12) H := hP
        have hD : va_D A (wv z ad E M12) := hD
        refine W.eq (g2 := F0 m 75 ls []) rfl ?_
        refine lv_goto (tgt := 109) hx hb d_1_5_75 (by decide) ?_
        exact b_B_ballots_j109 l z ad E M12 x1 r11 r N hx hb hml hts hown hlocks hA hG hZ hL hr h H locs ls hP hD hS (lv_sub hl [2, 3, 0] rfl)
    · have h := ite_f (fun q => c9 ((oI_eq (a := r1) (b := (-1 : Int)) ok2 (by decide)).mpr q)) h
      refine lv_aload_n hx hb d_1_5_20 rfl (lv_at hl 1 rfl) ?_
      refine m_gr (j := 2) (C := "Ballothall") (T := TX11) (N := 14) (ci := 11) (k := 0) hx hb hts iX11 hown hG hP (yi_1 hL) (yt_1 hL) rfl (by decide) w_397 (fun _ h9 => h9) rfl rfl (yr_1_0 hL) d_1_5_21 ?_
      refine lv_iconst (v := oI 0) hx hb d_1_5_24 (by decide +kernel) ?_
      refine m_piN (C := "Ballothall$BallotBox") (T := TX0) (N := 10) (ci := 0) (k := 1) (ty := .int) hx hb hts iX0 hown hG hP hD hS (yi_2 hL) (yt_2 hL) rfl (by decide) n_49 rfl (fun _ h9 => h9) rfl rfl tyX0_ok nmX0 rfl (by decide +kernel) rfl rfl d_1_5_25 (fun H locs hP hD hS => ?_)
      have hP : va_P z.1 classes (wv z ad E (u2 M1 2 1 0)) H := hP
      have hD : va_D A (wv z ad E (u2 M1 2 1 0)) := hD
      refine lv_bipush (v := oI (-3)) hx hb d_1_5_28 (by decide +kernel) ?_
      refine lv_iload_n hx hb d_1_5_30 rfl (lv_at hl 0 rfl) ?_
      refine lv_isub hx hb d_1_5_31 ?_
      refine nrm (oI_sub _ _) ?_
      obtain ⟨rfl, rfl⟩ := in2 h
      exact W.iret hx hb hr (fun t ht hW => qkA hP hD hS (fun k => k) rfl rfl ht) hS.2.2 d_1_5_32
  exact key _ _ _ hts hP hS
set_option maxRecDepth 100000 in
set_option maxHeartbeats 4000000 in
theorem s_Po_beats (l : Launch) (z : Zz) (ad : Nat → Nat) (E : Ev) (M : Mm) (x1 : Int) (x2 : Int) (r : Int)  (hL : Lay E) (h : f_Po_beats E M x1 x2 = some r) : CT l z ⟨"Ballothall$Poll", "beats", "(II)Z"⟩ prog_11_method_7_code 3 (some .boolean) [.ref (ad 41), .int (oI x1), .int (oI x2)] (wv z ad E M) 1 42 0 0 (fun _ => some (.int (oI r))) (fun _ => (wv z ad E M)) := by
  refine CT.of (own := "Ballothall$Poll") (by decide +kernel) (Nat.le_of_ble_eq_true rfl) rfl (fun p e s m below meth c A ls hx hb hml hr hts hown hlocks hin hA hG hZ hP hD hS hl => ?_)
  have hl : lv_has ls 3 [(0, .ref (ad 41)), (1, .int (oI x1)), (2, .int (oI x2))] := hl
  have key : ∀ (H : Heap) (locs : List Loc) (args : Array Value), (∀ w ∈ WG, w.before args s = true) → va_P z.1 classes (wv z ad E M) H → va_S A s.heap H locs → W p l e (rmK 1 42 0 0) s m args below meth c H locs 0 0 (MQ below (QK z A (fun _ => some (.int (oI r))) (fun _ => (wv z ad E M))) args s 0 0 A) (F0 m 0 ls []) := by
    intro H locs args hts hP hS
    unfold f_Po_beats at h
    refine lv_aload_n hx hb d_11_7_0 rfl (lv_at hl 0 rfl) ?_
    refine lv_iload_n hx hb d_11_7_1 rfl (lv_at hl 1 rfl) ?_
    refine lv_iload_n hx hb d_11_7_2 rfl (lv_at hl 2 rfl) ?_
    obtain ⟨r0, g0, h⟩ := bd_e h
    refine kV (As := [.int (oI x1), .int (oI x2)]) (rest := []) (s_Po_pair l z ad E M x1 x2 r0 hL g0) hx hb hml hown hts w_709 w_706 w_708 w_s_776300 w_3 md_5a94c2 ⟨Nat.le_of_ble_eq_true rfl, Nat.le_of_ble_eq_true rfl⟩ hG hZ hP hD hS hA 41 (wv_o (ci := 9) (yi_41 hL) (yt_41 hL)) rfl rfl rfl hl.1 rfl (Nat.le_of_ble_eq_true rfl) d_11_7_3 ⟨Nat.le_of_ble_eq_true rfl, Nat.le_of_ble_eq_true rfl⟩ (fun _ H locs hP hD hS => ?_)
    have hP : va_P z.1 classes (wv z ad E M) H := hP
    have hD : va_D A (wv z ad E M) := hD
    refine W.eq (g2 := F0 m 6 ls [.int (oI r0)]) rfl ?_
    refine lv_aload_n hx hb d_11_7_6 rfl (lv_at hl 0 rfl) ?_
    refine lv_iload_n hx hb d_11_7_7 rfl (lv_at hl 2 rfl) ?_
    refine lv_iload_n hx hb d_11_7_8 rfl (lv_at hl 1 rfl) ?_
    obtain ⟨r1, g1, h⟩ := bd_e h
    refine kV (As := [.int (oI x2), .int (oI x1)]) (rest := [.int (oI r0)]) (s_Po_pair l z ad E M x2 x1 r1 hL g1) hx hb hml hown hts w_709 w_706 w_708 w_s_776300 w_3 md_5a94c2 ⟨Nat.le_of_ble_eq_true rfl, Nat.le_of_ble_eq_true rfl⟩ hG hZ hP hD hS hA 41 (wv_o (ci := 9) (yi_41 hL) (yt_41 hL)) rfl rfl rfl hl.1 rfl (Nat.le_of_ble_eq_true rfl) d_11_7_9 ⟨Nat.le_of_ble_eq_true rfl, Nat.le_of_ble_eq_true rfl⟩ (fun _ H locs hP hD hS => ?_)
    have hP : va_P z.1 classes (wv z ad E M) H := hP
    have hD : va_D A (wv z ad E M) := hD
    refine W.eq (g2 := F0 m 12 ls [.int (oI r1), .int (oI r0)]) rfl ?_
    obtain ⟨ok2, h⟩ := ck_e h
    obtain ⟨ok3, h⟩ := ck_e h
    refine lv_icmp_le (tgt := 19) hx hb d_11_7_12 (by decide) (fun c9 => ?_) (fun c9 => ?_)
    · have h := ite_t ((oI_le (a := r0) (b := r1) ok2 ok3).mp c9) h
      refine lv_iconst (v := oI 0) hx hb d_11_7_19 (by decide +kernel) ?_
      obtain rfl := in1 h
      exact W.zret hx hb hr rfl (fun t ht hW => qkA hP hD hS (fun k => k) rfl rfl ht) hS.2.2 d_11_7_20
    · have h := ite_f (fun q => c9 ((oI_le (a := r0) (b := r1) ok2 ok3).mpr q)) h
      refine lv_iconst (v := oI 1) hx hb d_11_7_15 (by decide +kernel) ?_
      refine lv_goto (tgt := 20) hx hb d_11_7_16 (by decide) ?_
      obtain rfl := in1 h
      exact W.zret hx hb hr rfl (fun t ht hW => qkA hP hD hS (fun k => k) rfl rfl ht) hS.2.2 d_11_7_20
  exact key _ _ _ hts hP hS
set_option maxRecDepth 100000 in
set_option maxHeartbeats 4000000 in
theorem b_Po_findBeaten_23b (l : Launch) (z : Zz) (ad : Nat → Nat) (E : Ev) (M : Mm) (x1 : Int) (x2 : Int) (t : Nat) (w2 : Int) (N : Mm) {Q : State → Prop} {p : Program} {e : Env} {s : State} {m : MethodId} {below : List Frame} {meth : Method} {c : Code} {A : Nat → Prop} {args : Array Value} (hx : p.tables.exec = Jvm.exec) (hb : c.code = prog_11_method_8_code) (hml : c.maxLocals = 3) (hts : ∀ w ∈ WG, w.before args s = true) (hown : s.vm.findClass "Ballothall$Poll" = some m.cls) (hlocks : meth.locks = false) (hA : ∀ q, s.heap.size ≤ q → A q) (hG : KG z s) (hZ : FZ z A s) (hL : Lay E) (h : Po_findBeaten_23b E M x1 x2 = some (t, w2, N)) (k0 : t = 0 → ∀ (H : Heap) (locs : List Loc) (ls : Array Slot), va_P z.1 classes (wv z ad E N) H → va_D A (wv z ad E N) → va_S A s.heap H locs → lv_has ls 3 [(0, .ref (ad 41)), (1, .int (oI x1)), (2, .int (oI w2))] → W p l e (rmK 2 64 0 0) s m args below meth c H locs 0 0 Q (F0 m 23 ls [])) (k1 : t = 1 → ∀ (H : Heap) (locs : List Loc) (ls : Array Slot), va_P z.1 classes (wv z ad E N) H → va_D A (wv z ad E N) → va_S A s.heap H locs → lv_has ls 3 [(0, .ref (ad 41)), (1, .int (oI x1))] → W p l e (rmK 2 64 0 0) s m args below meth c H locs 0 0 Q (F0 m 61 ls [])) : ∀ (H : Heap) (locs : List Loc) (ls : Array Slot), va_P z.1 classes (wv z ad E M) H → va_D A (wv z ad E M) → va_S A s.heap H locs → lv_has ls 3 [(0, .ref (ad 41)), (1, .int (oI x1)), (2, .int (oI x2))] → W p l e (rmK 2 64 0 0) s m args below meth c H locs 0 0 Q (F0 m 23 ls []) := by
  intro H locs ls hP hD hS hl
  unfold Po_findBeaten_23b at h
  refine lv_iload_n hx hb d_11_8_23 rfl (lv_at hl 2 rfl) ?_
  refine lv_aload_n hx hb d_11_8_24 rfl (lv_at hl 0 rfl) ?_
  refine m_gr (j := 2) (C := "Ballothall$Poll") (T := TX9) (N := 12) (ci := 9) (k := 0) hx hb hts iX9 hown hG hP (yi_41 hL) (yt_41 hL) rfl (by decide) w_107 (fun _ h9 => h9) rfl rfl (yr_41_0 hL) d_11_8_25 ?_
  refine m_giN (C := "Ballothall$BallotBox") (T := TX0) (N := 10) (ci := 0) (k := 2) hx hb hts iX0 hown hG hP (yi_2 hL) (yt_2 hL) rfl (by decide) n_53 rfl (fun _ h9 => h9) rfl rfl d_11_8_28 ?_
  obtain ⟨ok3, h⟩ := ck_e h
  obtain ⟨ok4, h⟩ := ck_e h
  refine lv_icmp_ge (tgt := 61) hx hb d_11_8_31 (by decide) (fun c9 => ?_) (fun c9 => ?_)
  · have h := ite_t ((oI_le (a := (M 2 2)) (b := x2) ok4 ok3).mp c9) h
    obtain ⟨rfl, rfl, rfl⟩ := in3 h
    exact k1 rfl H locs ls hP hD hS (lv_sub hl [0, 1] rfl)
  · have h := ite_f (fun q => c9 ((oI_le (a := (M 2 2)) (b := x2) ok4 ok3).mpr q)) h
    refine lv_aload_n hx hb d_11_8_34 rfl (lv_at hl 0 rfl) ?_
    refine lv_iload_n hx hb d_11_8_35 rfl (lv_at hl 1 rfl) ?_
    refine lv_iload_n hx hb d_11_8_36 rfl (lv_at hl 2 rfl) ?_
    obtain ⟨r5, g5, h⟩ := bd_e h
    refine kV (As := [.int (oI x1), .int (oI x2)]) (rest := []) (s_Po_beats l z ad E M x1 x2 r5 hL g5) hx hb hml hown hts w_705 w_702 w_704 w_s_3a49be w_3 md_755902 ⟨Nat.le_of_ble_eq_true rfl, Nat.le_of_ble_eq_true rfl⟩ hG hZ hP hD hS hA 41 (wv_o (ci := 9) (yi_41 hL) (yt_41 hL)) rfl rfl rfl hl.1 rfl (Nat.le_of_ble_eq_true rfl) d_11_8_37 ⟨Nat.le_of_ble_eq_true rfl, Nat.le_of_ble_eq_true rfl⟩ (fun _ H locs hP hD hS => ?_)
    have hP : va_P z.1 classes (wv z ad E M) H := hP
    have hD : va_D A (wv z ad E M) := hD
    refine W.eq (g2 := F0 m 40 ls [.int (oI r5)]) rfl ?_
    obtain ⟨ok6, h⟩ := ck_e h
    refine lv_if_eq (tgt := 55) hx hb d_11_8_40 (by decide) (fun c9 => ?_) (fun c9 => ?_)
    · have h := ite_t ((oI_eq0 ok6).mp c9) h
      refine lv_iinc (v := oI (x2 + 1)) (lv' := [(2, .int (oI (x2 + 1))), (0, .ref (ad 41)), (1, .int (oI x1))]) hx hb d_11_8_55 hl (k := 2) rfl (oI_add x2 1) (by decide) rfl (fun ls hl => ?_)
      refine lv_goto (tgt := 23) hx hb d_11_8_58 (by decide) ?_
      obtain ⟨rfl, rfl, rfl⟩ := in3 h
      exact k0 rfl H locs ls hP hD hS (lv_sub hl [1, 2, 0] rfl)
    · have h := ite_f (fun q => c9 ((oI_eq0 ok6).mpr q)) h
      refine lv_aload_n hx hb d_11_8_43 rfl (lv_at hl 0 rfl) ?_
      refine m_gr (j := 46) (C := "Ballothall$Poll") (T := TX9) (N := 12) (ci := 9) (k := 7) hx hb hts iX9 hown hG hP (yi_41 hL) (yt_41 hL) rfl (by decide) w_114 (fun _ h9 => h9) rfl rfl (yr_41_7 hL) d_11_8_44 ?_
      refine lv_iload_n hx hb d_11_8_47 rfl (lv_at hl 1 rfl) ?_
      refine lv_dup2_11 hx hb d_11_8_48 rfl rfl ?_
      obtain ⟨ok7, h⟩ := ck_e h
      refine m_ia hx hb hG hP (yi_46 hL) (yt_46 hL) ok7 d_11_8_49 ?_
      refine lv_iconst (v := oI 1) hx hb d_11_8_50 (by decide +kernel) ?_
      refine lv_iload_n hx hb d_11_8_51 rfl (lv_at hl 2 rfl) ?_
      obtain ⟨ok8, h⟩ := ck_e h
      refine lv_ishl hx hb d_11_8_52 ?_
      refine nrm (oI_one_shl ok8) ?_
      obtain ⟨ok9, h⟩ := ck_e h
      obtain ⟨ok10, h⟩ := ck_e h
      refine lv_ior hx hb d_11_8_53 ?_
      refine nrm (oI_or (a := (M 46 x1.toNat)) (b := (2 ^ x2.toNat)) ok9.1 ok9.2 ok10.1 ok10.2) ?_
      obtain ⟨v11, e11, h⟩ := nb_e h
      refine nrm (congrArg oI e11.symm) ?_
      refine m_is hx hb hG hP hD hS (yi_46 hL) (yt_46 hL) ok7 d_11_8_54 (fun H locs hP hD hS => ?_)
      have hP : va_P z.1 classes (wv z ad E (u2 M 46 x1.toNat v11)) H := hP
      have hD : va_D A (wv z ad E (u2 M 46 x1.toNat v11)) := hD
      refine lv_iinc (v := oI (x2 + 1)) (lv' := [(2, .int (oI (x2 + 1))), (0, .ref (ad 41)), (1, .int (oI x1))]) hx hb d_11_8_55 hl (k := 2) rfl (oI_add x2 1) (by decide) rfl (fun ls hl => ?_)
      refine lv_goto (tgt := 23) hx hb d_11_8_58 (by decide) ?_
      obtain ⟨rfl, rfl, rfl⟩ := in3 h
      exact k0 rfl H locs ls hP hD hS (lv_sub hl [1, 2, 0] rfl)
set_option maxRecDepth 100000 in
set_option maxHeartbeats 4000000 in
theorem s_Po_findBeaten_23 (l : Launch) (z : Zz) (ad : Nat → Nat) (E : Ev) (x1 : Int) {Q : State → Prop} {p : Program} {e : Env} {s : State} {m : MethodId} {below : List Frame} {meth : Method} {c : Code} {A : Nat → Prop} {args : Array Value} (hx : p.tables.exec = Jvm.exec) (hb : c.code = prog_11_method_8_code) (hml : c.maxLocals = 3) (hts : ∀ w ∈ WG, w.before args s = true) (hown : s.vm.findClass "Ballothall$Poll" = some m.cls) (hlocks : meth.locks = false) (hA : ∀ q, s.heap.size ≤ q → A q) (hG : KG z s) (hZ : FZ z A s) (hL : Lay E) : ∀ (fu : Nat) (M : Mm) (x2 : Int) (t : Nat) (w2 : Int) (N : Mm), l_Po_findBeaten_23 E x1 fu M x2 = some (t, w2, N) → (t = 1 → ∀ (H : Heap) (locs : List Loc) (ls : Array Slot), va_P z.1 classes (wv z ad E N) H → va_D A (wv z ad E N) → va_S A s.heap H locs → lv_has ls 3 [(0, .ref (ad 41)), (1, .int (oI x1))] → W p l e (rmK 2 64 0 0) s m args below meth c H locs 0 0 Q (F0 m 61 ls [])) → ∀ (H : Heap) (locs : List Loc) (ls : Array Slot), va_P z.1 classes (wv z ad E M) H → va_D A (wv z ad E M) → va_S A s.heap H locs → lv_has ls 3 [(0, .ref (ad 41)), (1, .int (oI x1)), (2, .int (oI x2))] → W p l e (rmK 2 64 0 0) s m args below meth c H locs 0 0 Q (F0 m 23 ls []) := by
  intro fu
  induction fu with
  | zero =>
    intro M x2 t w2 N h
    have h : (none : Option (Nat × Int × Mm)) = some _ := h
    cases h
  | succ fu ih =>
    intro M x2 t w2 N h k1 H locs ls hP hD hS hl
    obtain ⟨⟨t0, w20, N9⟩, g0, h⟩ := bd_e h
    refine b_Po_findBeaten_23b l z ad E M x1 x2 t0 w20 N9 hx hb hml hts hown hlocks hA hG hZ hL g0 (fun e0 => ?_) (fun e0 => ?_) H locs ls hP hD hS hl
    · subst e0
      have h := ite_t rfl h
      exact ih N9 w20 t w2 N h k1
    · subst e0
      have h := ite_f (by decide) h
      obtain ⟨rfl, rfl, rfl⟩ := in3 h
      exact k1 rfl
set_option maxRecDepth 100000 in
set_option maxHeartbeats 4000000 in
theorem b_Po_findBeaten_10b (l : Launch) (z : Zz) (ad : Nat → Nat) (E : Ev) (M : Mm) (x1 : Int) (t : Nat) (w1 : Int) (N : Mm) {Q : State → Prop} {p : Program} {e : Env} {s : State} {m : MethodId} {below : List Frame} {meth : Method} {c : Code} {A : Nat → Prop} {args : Array Value} (hx : p.tables.exec = Jvm.exec) (hb : c.code = prog_11_method_8_code) (hml : c.maxLocals = 3) (hts : ∀ w ∈ WG, w.before args s = true) (hown : s.vm.findClass "Ballothall$Poll" = some m.cls) (hlocks : meth.locks = false) (hA : ∀ q, s.heap.size ≤ q → A q) (hG : KG z s) (hZ : FZ z A s) (hL : Lay E) (h : Po_findBeaten_10b E M x1 = some (t, w1, N)) (k0 : t = 0 → ∀ (H : Heap) (locs : List Loc) (ls : Array Slot), va_P z.1 classes (wv z ad E N) H → va_D A (wv z ad E N) → va_S A s.heap H locs → lv_has ls 3 [(0, .ref (ad 41)), (1, .int (oI w1))] → W p l e (rmK 2 64 0 0) s m args below meth c H locs 0 0 Q (F0 m 10 ls [])) (k1 : t = 1 → ∀ (H : Heap) (locs : List Loc) (ls : Array Slot), va_P z.1 classes (wv z ad E N) H → va_D A (wv z ad E N) → va_S A s.heap H locs → lv_has ls 3 [] → W p l e (rmK 2 64 0 0) s m args below meth c H locs 0 0 Q (F0 m 67 ls [])) : ∀ (H : Heap) (locs : List Loc) (ls : Array Slot), va_P z.1 classes (wv z ad E M) H → va_D A (wv z ad E M) → va_S A s.heap H locs → lv_has ls 3 [(0, .ref (ad 41)), (1, .int (oI x1))] → W p l e (rmK 2 64 0 0) s m args below meth c H locs 0 0 Q (F0 m 10 ls []) := by
  intro H locs ls hP hD hS hl
  unfold Po_findBeaten_10b at h
  refine lv_iload_n hx hb d_11_8_10 rfl (lv_at hl 1 rfl) ?_
  refine lv_aload_n hx hb d_11_8_11 rfl (lv_at hl 0 rfl) ?_
  refine m_gr (j := 2) (C := "Ballothall$Poll") (T := TX9) (N := 12) (ci := 9) (k := 0) hx hb hts iX9 hown hG hP (yi_41 hL) (yt_41 hL) rfl (by decide) w_107 (fun _ h9 => h9) rfl rfl (yr_41_0 hL) d_11_8_12 ?_
  refine m_giN (C := "Ballothall$BallotBox") (T := TX0) (N := 10) (ci := 0) (k := 2) hx hb hts iX0 hown hG hP (yi_2 hL) (yt_2 hL) rfl (by decide) n_53 rfl (fun _ h9 => h9) rfl rfl d_11_8_15 ?_
  obtain ⟨ok1, h⟩ := ck_e h
  obtain ⟨ok2, h⟩ := ck_e h
  refine lv_icmp_ge (tgt := 67) hx hb d_11_8_18 (by decide) (fun c9 => ?_) (fun c9 => ?_)
  · have h := ite_t ((oI_le (a := (M 2 2)) (b := x1) ok2 ok1).mp c9) h
    obtain ⟨rfl, rfl, rfl⟩ := in3 h
    exact k1 rfl H locs ls hP hD hS (lv_sub hl [] rfl)
  · have h := ite_f (fun q => c9 ((oI_le (a := (M 2 2)) (b := x1) ok2 ok1).mpr q)) h
    refine lv_iconst (v := oI 0) hx hb d_11_8_21 (by decide +kernel) ?_
    refine lv_istore_n (lv' := [(2, .int (oI 0)), (0, .ref (ad 41)), (1, .int (oI x1))]) hx hb d_11_8_22 rfl hl (by decide) rfl (fun ls hl => ?_)
    obtain ⟨⟨t12, v12_2, M12⟩, g12, h⟩ := bd_e h
    obtain ⟨ok12, h⟩ := ck_e h
    refine s_Po_findBeaten_23 l z ad E x1 hx hb hml hts hown hlocks hA hG hZ hL FU M 0 t12 v12_2 M12 g12 (fun e12 H locs ls hP hD hS hl => ?_) H locs ls hP hD hS (lv_sub hl [1, 2, 0] rfl)
    refine lv_iinc (v := oI (x1 + 1)) (lv' := [(1, .int (oI (x1 + 1))), (0, .ref (ad 41))]) hx hb d_11_8_61 hl (k := 1) rfl (oI_add x1 1) (by decide) rfl (fun ls hl => ?_)
    refine lv_goto (tgt := 10) hx hb d_11_8_64 (by decide) ?_
    obtain ⟨rfl, rfl, rfl⟩ := in3 h
    exact k0 rfl H locs ls hP hD hS (lv_sub hl [1, 0] rfl)
set_option maxRecDepth 100000 in
set_option maxHeartbeats 4000000 in
theorem s_Po_findBeaten_10 (l : Launch) (z : Zz) (ad : Nat → Nat) (E : Ev) {Q : State → Prop} {p : Program} {e : Env} {s : State} {m : MethodId} {below : List Frame} {meth : Method} {c : Code} {A : Nat → Prop} {args : Array Value} (hx : p.tables.exec = Jvm.exec) (hb : c.code = prog_11_method_8_code) (hml : c.maxLocals = 3) (hts : ∀ w ∈ WG, w.before args s = true) (hown : s.vm.findClass "Ballothall$Poll" = some m.cls) (hlocks : meth.locks = false) (hA : ∀ q, s.heap.size ≤ q → A q) (hG : KG z s) (hZ : FZ z A s) (hL : Lay E) : ∀ (fu : Nat) (M : Mm) (x1 : Int) (t : Nat) (w1 : Int) (N : Mm), l_Po_findBeaten_10 E fu M x1 = some (t, w1, N) → (t = 1 → ∀ (H : Heap) (locs : List Loc) (ls : Array Slot), va_P z.1 classes (wv z ad E N) H → va_D A (wv z ad E N) → va_S A s.heap H locs → lv_has ls 3 [] → W p l e (rmK 2 64 0 0) s m args below meth c H locs 0 0 Q (F0 m 67 ls [])) → ∀ (H : Heap) (locs : List Loc) (ls : Array Slot), va_P z.1 classes (wv z ad E M) H → va_D A (wv z ad E M) → va_S A s.heap H locs → lv_has ls 3 [(0, .ref (ad 41)), (1, .int (oI x1))] → W p l e (rmK 2 64 0 0) s m args below meth c H locs 0 0 Q (F0 m 10 ls []) := by
  intro fu
  induction fu with
  | zero =>
    intro M x1 t w1 N h
    have h : (none : Option (Nat × Int × Mm)) = some _ := h
    cases h
  | succ fu ih =>
    intro M x1 t w1 N h k1 H locs ls hP hD hS hl
    obtain ⟨⟨t0, w10, N9⟩, g0, h⟩ := bd_e h
    refine b_Po_findBeaten_10b l z ad E M x1 t0 w10 N9 hx hb hml hts hown hlocks hA hG hZ hL g0 (fun e0 => ?_) (fun e0 => ?_) H locs ls hP hD hS hl
    · subst e0
      have h := ite_t rfl h
      exact ih N9 w10 t w1 N h k1
    · subst e0
      have h := ite_f (by decide) h
      obtain ⟨rfl, rfl, rfl⟩ := in3 h
      exact k1 rfl
set_option maxRecDepth 100000 in
set_option maxHeartbeats 4000000 in
theorem s_Po_findBeaten (l : Launch) (z : Zz) (ad : Nat → Nat) (E : Ev) (M : Mm) (N : Mm) (hL : Lay E) (h : f_Po_findBeaten E M = some N) : CT l z ⟨"Ballothall$Poll", "findBeaten", "()V"⟩ prog_11_method_8_code 3 none [.ref (ad 41)] (wv z ad E M) 2 64 0 0 (fun _ => none) (fun _ => (wv z ad E N)) := by
  refine CT.of (own := "Ballothall$Poll") (by decide +kernel) (Nat.le_of_ble_eq_true rfl) rfl (fun p e s m below meth c A ls hx hb hml hr hts hown hlocks hin hA hG hZ hP hD hS hl => ?_)
  have hl : lv_has ls 3 [(0, .ref (ad 41))] := hl
  have key : ∀ (H : Heap) (locs : List Loc) (args : Array Value), (∀ w ∈ WG, w.before args s = true) → va_P z.1 classes (wv z ad E M) H → va_S A s.heap H locs → W p l e (rmK 2 64 0 0) s m args below meth c H locs 0 0 (MQ below (QK z A (fun _ => none) (fun _ => (wv z ad E N))) args s 0 0 A) (F0 m 0 ls []) := by
    intro H locs args hts hP hS
    unfold f_Po_findBeaten at h
    refine lv_aload_n hx hb d_11_8_0 rfl (lv_at hl 0 rfl) ?_
    refine m_gr (j := 46) (C := "Ballothall$Poll") (T := TX9) (N := 12) (ci := 9) (k := 7) hx hb hts iX9 hown hG hP (yi_41 hL) (yt_41 hL) rfl (by decide) w_114 (fun _ h9 => h9) rfl rfl (yr_41_7 hL) d_11_8_1 ?_
    refine lv_iconst (v := oI 0) hx hb d_11_8_4 (by decide +kernel) ?_
    obtain ⟨M0, g0, h⟩ := bd_e h
    refine kS (As := [.ref (ad 46), .int (oI 0)]) (rest := []) (s_Ar_fillI l z ad E M 46 0 M0 hL g0) hx hb hml hown hts w_653 w_673 w_652 w_23 md_e8f65d ⟨Nat.le_of_ble_eq_true rfl, Nat.le_of_ble_eq_true rfl⟩ hG hZ hP hD hS hA rfl hl.1 rfl (Nat.le_of_ble_eq_true rfl) d_11_8_5 ⟨Nat.le_of_ble_eq_true rfl, Nat.le_of_ble_eq_true rfl⟩ (fun _ H locs hP hD hS => ?_)
    have hP : va_P z.1 classes (wv z ad E M0) H := hP
    have hD : va_D A (wv z ad E M0) := hD
    refine W.eq (g2 := F0 m 8 ls []) rfl ?_
    refine lv_iconst (v := oI 0) hx hb d_11_8_8 (by decide +kernel) ?_
    refine lv_istore_n (lv' := [(1, .int (oI 0)), (0, .ref (ad 41))]) hx hb d_11_8_9 rfl hl (by decide) rfl (fun ls hl => ?_)
    obtain ⟨⟨t13, v13_1, M13⟩, g13, h⟩ := bd_e h
    obtain ⟨ok13, h⟩ := ck_e h
    refine s_Po_findBeaten_10 l z ad E hx hb hml hts hown hlocks hA hG hZ hL FU M0 0 t13 v13_1 M13 g13 (fun e13 H locs ls hP hD hS hl => ?_) H locs ls hP hD hS (lv_sub hl [1, 0] rfl)
    obtain rfl := in1 h
    exact W.vret hx hb hr (fun t ht hW => qkA hP hD hS (fun k => k) rfl rfl ht) hS.2.2 d_11_8_67
  exact key _ _ _ hts hP hS
set_option maxRecDepth 100000 in
set_option maxHeartbeats 4000000 in
theorem b_Po_isBeatingSet_2b (l : Launch) (z : Zz) (ad : Nat → Nat) (E : Ev) (M : Mm) (x1 : Int) (x2 : Int) (t : Nat) (w2 : Int)  {Q : State → Prop} {p : Program} {e : Env} {s : State} {m : MethodId} {below : List Frame} {meth : Method} {c : Code} {A : Nat → Prop} {args : Array Value} (hx : p.tables.exec = Jvm.exec) (hb : c.code = prog_11_method_11_code) (hml : c.maxLocals = 3) (hts : ∀ w ∈ WG, w.before args s = true) (hown : s.vm.findClass "Ballothall$Poll" = some m.cls) (hlocks : meth.locks = false) (hA : ∀ q, s.heap.size ≤ q → A q) (hG : KG z s) (hZ : FZ z A s) (hL : Lay E) (h : Po_isBeatingSet_2b E M x1 x2 = some (t, w2)) (k0 : t = 0 → ∀ (H : Heap) (locs : List Loc) (ls : Array Slot), va_P z.1 classes (wv z ad E M) H → va_D A (wv z ad E M) → va_S A s.heap H locs → lv_has ls 3 [(0, .ref (ad 41)), (1, .int (oI x1)), (2, .int (oI w2))] → W p l e (rmK 1 41 0 0) s m args below meth c H locs 0 0 Q (F0 m 2 ls [])) (k1 : t = 1 → ∀ (H : Heap) (locs : List Loc) (ls : Array Slot), va_P z.1 classes (wv z ad E M) H → va_D A (wv z ad E M) → va_S A s.heap H locs → lv_has ls 3 [] → W p l e (rmK 1 41 0 0) s m args below meth c H locs 0 0 Q (F0 m 36 ls [])) (k2 : t = 2 → ∀ (H : Heap) (locs : List Loc) (ls : Array Slot), va_P z.1 classes (wv z ad E M) H → va_D A (wv z ad E M) → va_S A s.heap H locs → lv_has ls 3 [] → W p l e (rmK 1 41 0 0) s m args below meth c H locs 0 0 Q (F0 m 44 ls [])) : ∀ (H : Heap) (locs : List Loc) (ls : Array Slot), va_P z.1 classes (wv z ad E M) H → va_D A (wv z ad E M) → va_S A s.heap H locs → lv_has ls 3 [(0, .ref (ad 41)), (1, .int (oI x1)), (2, .int (oI x2))] → W p l e (rmK 1 41 0 0) s m args below meth c H locs 0 0 Q (F0 m 2 ls []) := by
  intro H locs ls hP hD hS hl
  unfold Po_isBeatingSet_2b at h
  refine lv_iload_n hx hb d_11_11_2 rfl (lv_at hl 2 rfl) ?_
  refine lv_aload_n hx hb d_11_11_3 rfl (lv_at hl 0 rfl) ?_
  refine m_gr (j := 2) (C := "Ballothall$Poll") (T := TX9) (N := 12) (ci := 9) (k := 0) hx hb hts iX9 hown hG hP (yi_41 hL) (yt_41 hL) rfl (by decide) w_107 (fun _ h9 => h9) rfl rfl (yr_41_0 hL) d_11_11_4 ?_
  refine m_giN (C := "Ballothall$BallotBox") (T := TX0) (N := 10) (ci := 0) (k := 2) hx hb hts iX0 hown hG hP (yi_2 hL) (yt_2 hL) rfl (by decide) n_53 rfl (fun _ h9 => h9) rfl rfl d_11_11_7 ?_
  obtain ⟨ok0, h⟩ := ck_e h
  obtain ⟨ok1, h⟩ := ck_e h
  refine lv_icmp_ge (tgt := 44) hx hb d_11_11_10 (by decide) (fun c9 => ?_) (fun c9 => ?_)
  · have h := ite_t ((oI_le (a := (M 2 2)) (b := x2) ok1 ok0).mp c9) h
    obtain ⟨rfl, rfl⟩ := in2 h
    exact k2 rfl H locs ls hP hD hS (lv_sub hl [] rfl)
  · have h := ite_f (fun q => c9 ((oI_le (a := (M 2 2)) (b := x2) ok1 ok0).mpr q)) h
    refine lv_iload_n hx hb d_11_11_13 rfl (lv_at hl 1 rfl) ?_
    refine lv_iload_n hx hb d_11_11_14 rfl (lv_at hl 2 rfl) ?_
    obtain ⟨r2, g2, h⟩ := bd_e h
    refine kSN (As := [.int (oI x1), .int (oI x2)]) (rest := []) (s_B_has l z ad E M x1 x2 r2 hL g2) hx hb hml hown hts w_693 n_691 w_692 w_1 md_26545c ⟨Nat.le_of_ble_eq_true rfl, Nat.le_of_ble_eq_true rfl⟩ hG hZ hP hD hS hA rfl hl.1 rfl (Nat.le_of_ble_eq_true rfl) d_11_11_15 ⟨Nat.le_of_ble_eq_true rfl, Nat.le_of_ble_eq_true rfl⟩ (fun _ H locs hP hD hS => ?_)
    have hP : va_P z.1 classes (wv z ad E M) H := hP
    have hD : va_D A (wv z ad E M) := hD
    refine W.eq (g2 := F0 m 18 ls [.int (oI r2)]) rfl ?_
    obtain ⟨ok3, h⟩ := ck_e h
    refine lv_if_eq (tgt := 38) hx hb d_11_11_18 (by decide) (fun c9 => ?_) (fun c9 => ?_)
    · have h := ite_t ((oI_eq0 ok3).mp c9) h
      refine lv_iinc (v := oI (x2 + 1)) (lv' := [(2, .int (oI (x2 + 1))), (0, .ref (ad 41)), (1, .int (oI x1))]) hx hb d_11_11_38 hl (k := 2) rfl (oI_add x2 1) (by decide) rfl (fun ls hl => ?_)
      refine lv_goto (tgt := 2) hx hb d_11_11_41 (by decide) ?_
      obtain ⟨rfl, rfl⟩ := in2 h
      exact k0 rfl H locs ls hP hD hS (lv_sub hl [1, 2, 0] rfl)
    · have h := ite_f (fun q => c9 ((oI_eq0 ok3).mpr q)) h
      refine lv_aload_n hx hb d_11_11_21 rfl (lv_at hl 0 rfl) ?_
      refine m_gr (j := 46) (C := "Ballothall$Poll") (T := TX9) (N := 12) (ci := 9) (k := 7) hx hb hts iX9 hown hG hP (yi_41 hL) (yt_41 hL) rfl (by decide) w_114 (fun _ h9 => h9) rfl rfl (yr_41_7 hL) d_11_11_22 ?_
      refine lv_iload_n hx hb d_11_11_25 rfl (lv_at hl 2 rfl) ?_
      obtain ⟨ok4, h⟩ := ck_e h
      refine m_ia hx hb hG hP (yi_46 hL) (yt_46 hL) ok4 d_11_11_26 ?_
      refine lv_iload_n hx hb d_11_11_27 rfl (lv_at hl 1 rfl) ?_
      obtain ⟨ok5, h⟩ := ck_e h
      obtain ⟨ok6, h⟩ := ck_e h
      refine lv_ior hx hb d_11_11_28 ?_
      refine nrm (oI_or (a := (M 46 x2.toNat)) (b := x1) ok5.1 ok5.2 ok6.1 ok6.2) ?_
      refine lv_aload_n hx hb d_11_11_29 rfl (lv_at hl 0 rfl) ?_
      refine m_gi (C := "Ballothall$Poll") (T := TX9) (N := 12) (ci := 9) (k := 1) hx hb hts iX9 hown hG hP (yi_41 hL) (yt_41 hL) rfl (by decide) w_108 (fun _ h9 => h9) rfl rfl d_11_11_30 ?_
      obtain ⟨ok7, h⟩ := ck_e h
      obtain ⟨ok8, h⟩ := ck_e h
      refine lv_icmp_eq (tgt := 38) hx hb d_11_11_33 (by decide) (fun c9 => ?_) (fun c9 => ?_)
      · have h := ite_t ((oI_eq (a := (orI (M 46 x2.toNat) x1)) (b := (M 41 1)) ok7 ok8).mp c9) h
        refine lv_iinc (v := oI (x2 + 1)) (lv' := [(2, .int (oI (x2 + 1))), (0, .ref (ad 41)), (1, .int (oI x1))]) hx hb d_11_11_38 hl (k := 2) rfl (oI_add x2 1) (by decide) rfl (fun ls hl => ?_)
        refine lv_goto (tgt := 2) hx hb d_11_11_41 (by decide) ?_
        obtain ⟨rfl, rfl⟩ := in2 h
        exact k0 rfl H locs ls hP hD hS (lv_sub hl [1, 2, 0] rfl)
      · have h := ite_f (fun q => c9 ((oI_eq (a := (orI (M 46 x2.toNat) x1)) (b := (M 41 1)) ok7 ok8).mpr q)) h
        obtain ⟨rfl, rfl⟩ := in2 h
        exact k1 rfl H locs ls hP hD hS (lv_sub hl [] rfl)
set_option maxRecDepth 100000 in
set_option maxHeartbeats 4000000 in
theorem s_Po_isBeatingSet_2 (l : Launch) (z : Zz) (ad : Nat → Nat) (E : Ev) (x1 : Int) {Q : State → Prop} {p : Program} {e : Env} {s : State} {m : MethodId} {below : List Frame} {meth : Method} {c : Code} {A : Nat → Prop} {args : Array Value} (hx : p.tables.exec = Jvm.exec) (hb : c.code = prog_11_method_11_code) (hml : c.maxLocals = 3) (hts : ∀ w ∈ WG, w.before args s = true) (hown : s.vm.findClass "Ballothall$Poll" = some m.cls) (hlocks : meth.locks = false) (hA : ∀ q, s.heap.size ≤ q → A q) (hG : KG z s) (hZ : FZ z A s) (hL : Lay E) : ∀ (fu : Nat) (M : Mm) (x2 : Int) (t : Nat) (w2 : Int), l_Po_isBeatingSet_2 E x1 fu M x2 = some (t, w2) → (t = 1 → ∀ (H : Heap) (locs : List Loc) (ls : Array Slot), va_P z.1 classes (wv z ad E M) H → va_D A (wv z ad E M) → va_S A s.heap H locs → lv_has ls 3 [] → W p l e (rmK 1 41 0 0) s m args below meth c H locs 0 0 Q (F0 m 36 ls [])) → (t = 2 → ∀ (H : Heap) (locs : List Loc) (ls : Array Slot), va_P z.1 classes (wv z ad E M) H → va_D A (wv z ad E M) → va_S A s.heap H locs → lv_has ls 3 [] → W p l e (rmK 1 41 0 0) s m args below meth c H locs 0 0 Q (F0 m 44 ls [])) → ∀ (H : Heap) (locs : List Loc) (ls : Array Slot), va_P z.1 classes (wv z ad E M) H → va_D A (wv z ad E M) → va_S A s.heap H locs → lv_has ls 3 [(0, .ref (ad 41)), (1, .int (oI x1)), (2, .int (oI x2))] → W p l e (rmK 1 41 0 0) s m args below meth c H locs 0 0 Q (F0 m 2 ls []) := by
  intro fu
  induction fu with
  | zero =>
    intro M x2 t w2 h
    have h : (none : Option (Nat × Int)) = some _ := h
    cases h
  | succ fu ih =>
    intro M x2 t w2 h k1 k2 H locs ls hP hD hS hl
    obtain ⟨⟨t0, w20⟩, g0, h⟩ := bd_e h
    refine b_Po_isBeatingSet_2b l z ad E M x1 x2 t0 w20 hx hb hml hts hown hlocks hA hG hZ hL g0 (fun e0 => ?_) (fun e0 => ?_) (fun e0 => ?_) H locs ls hP hD hS hl
    · subst e0
      have h := ite_t rfl h
      exact ih M w20 t w2 h k1 k2
    · subst e0
      have h := ite_f (by decide) h
      obtain ⟨rfl, rfl⟩ := in2 h
      exact k1 rfl
    · subst e0
      have h := ite_f (by decide) h
      obtain ⟨rfl, rfl⟩ := in2 h
      exact k2 rfl
set_option maxRecDepth 100000 in
set_option maxHeartbeats 4000000 in
theorem s_Po_isBeatingSet (l : Launch) (z : Zz) (ad : Nat → Nat) (E : Ev) (M : Mm) (x1 : Int) (r : Int)  (hL : Lay E) (h : f_Po_isBeatingSet E M x1 = some r) : CT l z ⟨"Ballothall$Poll", "isBeatingSet", "(I)Z"⟩ prog_11_method_11_code 3 (some .boolean) [.ref (ad 41), .int (oI x1)] (wv z ad E M) 1 41 0 0 (fun _ => some (.int (oI r))) (fun _ => (wv z ad E M)) := by
  refine CT.of (own := "Ballothall$Poll") (by decide +kernel) (Nat.le_of_ble_eq_true rfl) rfl (fun p e s m below meth c A ls hx hb hml hr hts hown hlocks hin hA hG hZ hP hD hS hl => ?_)
  have hl : lv_has ls 3 [(0, .ref (ad 41)), (1, .int (oI x1))] := hl
  have key : ∀ (H : Heap) (locs : List Loc) (args : Array Value), (∀ w ∈ WG, w.before args s = true) → va_P z.1 classes (wv z ad E M) H → va_S A s.heap H locs → W p l e (rmK 1 41 0 0) s m args below meth c H locs 0 0 (MQ below (QK z A (fun _ => some (.int (oI r))) (fun _ => (wv z ad E M))) args s 0 0 A) (F0 m 0 ls []) := by
    intro H locs args hts hP hS
    unfold f_Po_isBeatingSet at h
    refine lv_iconst (v := oI 0) hx hb d_11_11_0 (by decide +kernel) ?_
    refine lv_istore_n (lv' := [(2, .int (oI 0)), (0, .ref (ad 41)), (1, .int (oI x1))]) hx hb d_11_11_1 rfl hl (by decide) rfl (fun ls hl => ?_)
    obtain ⟨⟨t9, v9_2⟩, g9, h⟩ := bd_e h
    refine s_Po_isBeatingSet_2 l z ad E x1 hx hb hml hts hown hlocks hA hG hZ hL FU M 0 t9 v9_2 g9 (fun e9 H locs ls hP hD hS hl => ?_) (fun e9 H locs ls hP hD hS hl => ?_) H locs ls hP hD hS (lv_sub hl [1, 2, 0] rfl)
    · subst e9
      have h := ite_t rfl h
      refine lv_iconst (v := oI 0) hx hb d_11_11_36 (by decide +kernel) ?_
      obtain rfl := in1 h
      exact W.zret hx hb hr rfl (fun t ht hW => qkA hP hD hS (fun k => k) rfl rfl ht) hS.2.2 d_11_11_37
    · subst e9
      have h := ite_f (by decide) h
      have h := ite_t rfl h
      refine lv_iconst (v := oI 1) hx hb d_11_11_44 (by decide +kernel) ?_
      obtain rfl := in1 h
      exact W.zret hx hb hr rfl (fun t ht hW => qkA hP hD hS (fun k => k) rfl rfl ht) hS.2.2 d_11_11_45
  exact key _ _ _ hts hP hS
set_option maxRecDepth 100000 in
set_option maxHeartbeats 4000000 in
theorem b_Po_smallestBeatingSet_11b (l : Launch) (z : Zz) (ad : Nat → Nat) (E : Ev) (M : Mm) (x1 : Int) (x2 : Int) (t : Nat) (w1 : Int) (w2 : Int) (N : Mm) {Q : State → Prop} {p : Program} {e : Env} {s : State} {m : MethodId} {below : List Frame} {meth : Method} {c : Code} {A : Nat → Prop} {args : Array Value} (hx : p.tables.exec = Jvm.exec) (hb : c.code = prog_11_method_10_code) (hml : c.maxLocals = 3) (hts : ∀ w ∈ WG, w.before args s = true) (hown : s.vm.findClass "Ballothall$Poll" = some m.cls) (hlocks : meth.locks = false) (hA : ∀ q, s.heap.size ≤ q → A q) (hG : KG z s) (hZ : FZ z A s) (hL : Lay E) (h : Po_smallestBeatingSet_11b E M x1 x2 = some (t, w1, w2, N)) (k0 : t = 0 → ∀ (H : Heap) (locs : List Loc) (ls : Array Slot), va_P z.1 classes (wv z ad E N) H → va_D A (wv z ad E N) → va_S A s.heap H locs → lv_has ls 3 [(0, .ref (ad 41)), (1, .int (oI w1)), (2, .int (oI w2))] → W p l e (rmK 3 86 0 0) s m args below meth c H locs 0 0 Q (F0 m 11 ls [])) (k1 : t = 1 → ∀ (H : Heap) (locs : List Loc) (ls : Array Slot), va_P z.1 classes (wv z ad E N) H → va_D A (wv z ad E N) → va_S A s.heap H locs → lv_has ls 3 [(1, .int (oI w1))] → W p l e (rmK 3 86 0 0) s m args below meth c H locs 0 0 Q (F0 m 46 ls [])) : ∀ (H : Heap) (locs : List Loc) (ls : Array Slot), va_P z.1 classes (wv z ad E M) H → va_D A (wv z ad E M) → va_S A s.heap H locs → lv_has ls 3 [(0, .ref (ad 41)), (1, .int (oI x1)), (2, .int (oI x2))] → W p l e (rmK 3 86 0 0) s m args below meth c H locs 0 0 Q (F0 m 11 ls []) := by
  intro H locs ls hP hD hS hl
  unfold Po_smallestBeatingSet_11b at h
  refine lv_iload_n hx hb d_11_10_11 rfl (lv_at hl 2 rfl) ?_
  refine lv_aload_n hx hb d_11_10_12 rfl (lv_at hl 0 rfl) ?_
  refine m_gi (C := "Ballothall$Poll") (T := TX9) (N := 12) (ci := 9) (k := 1) hx hb hts iX9 hown hG hP (yi_41 hL) (yt_41 hL) rfl (by decide) w_108 (fun _ h9 => h9) rfl rfl d_11_10_13 ?_
  obtain ⟨ok1, h⟩ := ck_e h
  obtain ⟨ok2, h⟩ := ck_e h
  refine lv_icmp_ge (tgt := 46) hx hb d_11_10_16 (by decide) (fun c9 => ?_) (fun c9 => ?_)
  · have h := ite_t ((oI_le (a := (M 41 1)) (b := x2) ok2 ok1).mp c9) h
    obtain ⟨rfl, rfl, rfl, rfl⟩ := in4 h
    exact k1 rfl H locs ls hP hD hS (lv_sub hl [1] rfl)
  · have h := ite_f (fun q => c9 ((oI_le (a := (M 41 1)) (b := x2) ok2 ok1).mpr q)) h
    refine lv_iload_n hx hb d_11_10_19 rfl (lv_at hl 2 rfl) ?_
    obtain ⟨r3, g3, h⟩ := bd_e h
    refine kS (As := [.int (oI x2)]) (rest := []) (s_In_bitCount l z ad E M x2 r3 hL g3) hx hb hml hown hts w_657 w_1318 w_656 w_30 md_eafe8c ⟨Nat.le_of_ble_eq_true rfl, Nat.le_of_ble_eq_true rfl⟩ hG hZ hP hD hS hA rfl hl.1 rfl (Nat.le_of_ble_eq_true rfl) d_11_10_20 ⟨Nat.le_of_ble_eq_true rfl, Nat.le_of_ble_eq_true rfl⟩ (fun _ H locs hP hD hS => ?_)
    have hP : va_P z.1 classes (wv z ad E M) H := hP
    have hD : va_D A (wv z ad E M) := hD
    refine W.eq (g2 := F0 m 23 ls [.int (oI r3)]) rfl ?_
    refine lv_iload_n hx hb d_11_10_23 rfl (lv_at hl 1 rfl) ?_
    obtain ⟨r4, g4, h⟩ := bd_e h
    refine kS (As := [.int (oI x1)]) (rest := [.int (oI r3)]) (s_In_bitCount l z ad E M x1 r4 hL g4) hx hb hml hown hts w_657 w_1318 w_656 w_30 md_eafe8c ⟨Nat.le_of_ble_eq_true rfl, Nat.le_of_ble_eq_true rfl⟩ hG hZ hP hD hS hA rfl hl.1 rfl (Nat.le_of_ble_eq_true rfl) d_11_10_24 ⟨Nat.le_of_ble_eq_true rfl, Nat.le_of_ble_eq_true rfl⟩ (fun _ H locs hP hD hS => ?_)
    have hP : va_P z.1 classes (wv z ad E M) H := hP
    have hD : va_D A (wv z ad E M) := hD
    refine W.eq (g2 := F0 m 27 ls [.int (oI r4), .int (oI r3)]) rfl ?_
    obtain ⟨ok5, h⟩ := ck_e h
    obtain ⟨ok6, h⟩ := ck_e h
    refine lv_icmp_ge (tgt := 40) hx hb d_11_10_27 (by decide) (fun c9 => ?_) (fun c9 => ?_)
    · have h := ite_t ((oI_le (a := r4) (b := r3) ok6 ok5).mp c9) h
      refine lv_iinc (v := oI (x2 + 1)) (lv' := [(2, .int (oI (x2 + 1))), (0, .ref (ad 41)), (1, .int (oI x1))]) hx hb d_11_10_40 hl (k := 2) rfl (oI_add x2 1) (by decide) rfl (fun ls hl => ?_)
      refine lv_goto (tgt := 11) hx hb d_11_10_43 (by decide) ?_
      obtain ⟨rfl, rfl, rfl, rfl⟩ := in4 h
      exact k0 rfl H locs ls hP hD hS (lv_sub hl [1, 2, 0] rfl)
    · have h := ite_f (fun q => c9 ((oI_le (a := r4) (b := r3) ok6 ok5).mpr q)) h
      refine lv_aload_n hx hb d_11_10_30 rfl (lv_at hl 0 rfl) ?_
      refine lv_iload_n hx hb d_11_10_31 rfl (lv_at hl 2 rfl) ?_
      obtain ⟨r7, g7, h⟩ := bd_e h
      refine kV (As := [.int (oI x2)]) (rest := []) (s_Po_isBeatingSet l z ad E M x2 r7 hL g7) hx hb hml hown hts w_1322 w_1319 w_1321 w_s_b73280 w_3 md_432139 ⟨Nat.le_of_ble_eq_true rfl, Nat.le_of_ble_eq_true rfl⟩ hG hZ hP hD hS hA 41 (wv_o (ci := 9) (yi_41 hL) (yt_41 hL)) rfl rfl rfl hl.1 rfl (Nat.le_of_ble_eq_true rfl) d_11_10_32 ⟨Nat.le_of_ble_eq_true rfl, Nat.le_of_ble_eq_true rfl⟩ (fun _ H locs hP hD hS => ?_)
      have hP : va_P z.1 classes (wv z ad E M) H := hP
      have hD : va_D A (wv z ad E M) := hD
      refine W.eq (g2 := F0 m 35 ls [.int (oI r7)]) rfl ?_
      obtain ⟨ok8, h⟩ := ck_e h
      refine lv_if_eq (tgt := 40) hx hb d_11_10_35 (by decide) (fun c9 => ?_) (fun c9 => ?_)
      · have h := ite_t ((oI_eq0 ok8).mp c9) h
        refine lv_iinc (v := oI (x2 + 1)) (lv' := [(2, .int (oI (x2 + 1))), (0, .ref (ad 41)), (1, .int (oI x1))]) hx hb d_11_10_40 hl (k := 2) rfl (oI_add x2 1) (by decide) rfl (fun ls hl => ?_)
        refine lv_goto (tgt := 11) hx hb d_11_10_43 (by decide) ?_
        obtain ⟨rfl, rfl, rfl, rfl⟩ := in4 h
        exact k0 rfl H locs ls hP hD hS (lv_sub hl [1, 2, 0] rfl)
      · have h := ite_f (fun q => c9 ((oI_eq0 ok8).mpr q)) h
        refine lv_iload_n hx hb d_11_10_38 rfl (lv_at hl 2 rfl) ?_
        refine lv_istore_n (lv' := [(1, .int (oI x2)), (0, .ref (ad 41)), (2, .int (oI x2))]) hx hb d_11_10_39 rfl hl (by decide) rfl (fun ls hl => ?_)
        refine lv_iinc (v := oI (x2 + 1)) (lv' := [(2, .int (oI (x2 + 1))), (1, .int (oI x2)), (0, .ref (ad 41))]) hx hb d_11_10_40 hl (k := 2) rfl (oI_add x2 1) (by decide) rfl (fun ls hl => ?_)
        refine lv_goto (tgt := 11) hx hb d_11_10_43 (by decide) ?_
        obtain ⟨rfl, rfl, rfl, rfl⟩ := in4 h
        exact k0 rfl H locs ls hP hD hS (lv_sub hl [2, 1, 0] rfl)
set_option maxRecDepth 100000 in
set_option maxHeartbeats 4000000 in
theorem s_Po_smallestBeatingSet_11 (l : Launch) (z : Zz) (ad : Nat → Nat) (E : Ev) {Q : State → Prop} {p : Program} {e : Env} {s : State} {m : MethodId} {below : List Frame} {meth : Method} {c : Code} {A : Nat → Prop} {args : Array Value} (hx : p.tables.exec = Jvm.exec) (hb : c.code = prog_11_method_10_code) (hml : c.maxLocals = 3) (hts : ∀ w ∈ WG, w.before args s = true) (hown : s.vm.findClass "Ballothall$Poll" = some m.cls) (hlocks : meth.locks = false) (hA : ∀ q, s.heap.size ≤ q → A q) (hG : KG z s) (hZ : FZ z A s) (hL : Lay E) : ∀ (fu : Nat) (M : Mm) (x1 : Int) (x2 : Int) (t : Nat) (w1 : Int) (w2 : Int) (N : Mm), l_Po_smallestBeatingSet_11 E fu M x1 x2 = some (t, w1, w2, N) → (t = 1 → ∀ (H : Heap) (locs : List Loc) (ls : Array Slot), va_P z.1 classes (wv z ad E N) H → va_D A (wv z ad E N) → va_S A s.heap H locs → lv_has ls 3 [(1, .int (oI w1))] → W p l e (rmK 3 86 0 0) s m args below meth c H locs 0 0 Q (F0 m 46 ls [])) → ∀ (H : Heap) (locs : List Loc) (ls : Array Slot), va_P z.1 classes (wv z ad E M) H → va_D A (wv z ad E M) → va_S A s.heap H locs → lv_has ls 3 [(0, .ref (ad 41)), (1, .int (oI x1)), (2, .int (oI x2))] → W p l e (rmK 3 86 0 0) s m args below meth c H locs 0 0 Q (F0 m 11 ls []) := by
  intro fu
  induction fu with
  | zero =>
    intro M x1 x2 t w1 w2 N h
    have h : (none : Option (Nat × Int × Int × Mm)) = some _ := h
    cases h
  | succ fu ih =>
    intro M x1 x2 t w1 w2 N h k1 H locs ls hP hD hS hl
    obtain ⟨⟨t0, w10, w20, N9⟩, g0, h⟩ := bd_e h
    refine b_Po_smallestBeatingSet_11b l z ad E M x1 x2 t0 w10 w20 N9 hx hb hml hts hown hlocks hA hG hZ hL g0 (fun e0 => ?_) (fun e0 => ?_) H locs ls hP hD hS hl
    · subst e0
      have h := ite_t rfl h
      exact ih N9 w10 w20 t w1 w2 N h k1
    · subst e0
      have h := ite_f (by decide) h
      obtain ⟨rfl, rfl, rfl, rfl⟩ := in4 h
      exact k1 rfl
set_option maxRecDepth 100000 in
set_option maxHeartbeats 4000000 in
theorem s_Po_smallestBeatingSet (l : Launch) (z : Zz) (ad : Nat → Nat) (E : Ev) (M : Mm) (r : Int) (N : Mm) (hL : Lay E) (h : f_Po_smallestBeatingSet E M = some (r, N)) : CT l z ⟨"Ballothall$Poll", "smallestBeatingSet", "()I"⟩ prog_11_method_10_code 3 (some .int) [.ref (ad 41)] (wv z ad E M) 3 86 0 0 (fun _ => some (.int (oI r))) (fun _ => (wv z ad E N)) := by
  refine CT.of (own := "Ballothall$Poll") (by decide +kernel) (Nat.le_of_ble_eq_true rfl) rfl (fun p e s m below meth c A ls hx hb hml hr hts hown hlocks hin hA hG hZ hP hD hS hl => ?_)
  have hl : lv_has ls 3 [(0, .ref (ad 41))] := hl
  have key : ∀ (H : Heap) (locs : List Loc) (args : Array Value), (∀ w ∈ WG, w.before args s = true) → va_P z.1 classes (wv z ad E M) H → va_S A s.heap H locs → W p l e (rmK 3 86 0 0) s m args below meth c H locs 0 0 (MQ below (QK z A (fun _ => some (.int (oI r))) (fun _ => (wv z ad E N))) args s 0 0 A) (F0 m 0 ls []) := by
    intro H locs args hts hP hS
    unfold f_Po_smallestBeatingSet at h
    refine lv_aload_n hx hb d_11_10_0 rfl (lv_at hl 0 rfl) ?_
    obtain ⟨M0, g0, h⟩ := bd_e h
    refine kV (As := []) (rest := []) (s_Po_findBeaten l z ad E M M0 hL g0) hx hb hml hown hts w_701 w_698 w_700 w_s_e198c6 w_3 md_a5c5f2 ⟨Nat.le_of_ble_eq_true rfl, Nat.le_of_ble_eq_true rfl⟩ hG hZ hP hD hS hA 41 (wv_o (ci := 9) (yi_41 hL) (yt_41 hL)) rfl rfl rfl hl.1 rfl (Nat.le_of_ble_eq_true rfl) d_11_10_1 ⟨Nat.le_of_ble_eq_true rfl, Nat.le_of_ble_eq_true rfl⟩ (fun _ H locs hP hD hS => ?_)
    have hP : va_P z.1 classes (wv z ad E M0) H := hP
    have hD : va_D A (wv z ad E M0) := hD
    refine W.eq (g2 := F0 m 4 ls []) rfl ?_
    refine lv_aload_n hx hb d_11_10_4 rfl (lv_at hl 0 rfl) ?_
    refine m_gi (C := "Ballothall$Poll") (T := TX9) (N := 12) (ci := 9) (k := 1) hx hb hts iX9 hown hG hP (yi_41 hL) (yt_41 hL) rfl (by decide) w_108 (fun _ h9 => h9) rfl rfl d_11_10_5 ?_
    refine lv_istore_n (lv' := [(1, .int (oI (M0 41 1))), (0, .ref (ad 41))]) hx hb d_11_10_8 rfl hl (by decide) rfl (fun ls hl => ?_)
    refine lv_iconst (v := oI 1) hx hb d_11_10_9 (by decide +kernel) ?_
    refine lv_istore_n (lv' := [(2, .int (oI 1)), (1, .int (oI (M0 41 1))), (0, .ref (ad 41))]) hx hb d_11_10_10 rfl hl (by decide) rfl (fun ls hl => ?_)
    obtain ⟨⟨t9, v9_1, v9_2, M9⟩, g9, h⟩ := bd_e h
    obtain ⟨ok9, h⟩ := ck_e h
    refine s_Po_smallestBeatingSet_11 l z ad E hx hb hml hts hown hlocks hA hG hZ hL FU M0 (M0 41 1) 1 t9 v9_1 v9_2 M9 g9 (fun e9 H locs ls hP hD hS hl => ?_) H locs ls hP hD hS (lv_sub hl [2, 1, 0] rfl)
    refine lv_iload_n hx hb d_11_10_46 rfl (lv_at hl 0 rfl) ?_
    obtain ⟨rfl, rfl⟩ := in2 h
    exact W.iret hx hb hr (fun t ht hW => qkA hP hD hS (fun k => k) rfl rfl ht) hS.2.2 d_11_10_47
  exact key _ _ _ hts hP hS
set_option maxRecDepth 100000 in
set_option maxHeartbeats 4000000 in
theorem s_B_beatingSet (l : Launch) (z : Zz) (ad : Nat → Nat) (E : Ev) (M : Mm) (r : Int) (N : Mm) (hL : Lay E) (h : f_B_beatingSet E M = some (r, N)) : CT l z ⟨"Ballothall", "beatingSet", "()I"⟩ prog_1_method_29_code 1 (some .int) [.ref (ad 1)] (wv z ad E M) 4 115 0 0 (fun _ => some (.int (oI r))) (fun _ => (wv z ad E N)) := by
  refine CT.of (own := "Ballothall") (by decide +kernel) (Nat.le_of_ble_eq_true rfl) rfl (fun p e s m below meth c A ls hx hb hml hr hts hown hlocks hin hA hG hZ hP hD hS hl => ?_)
  have hl : lv_has ls 1 [(0, .ref (ad 1))] := hl
  have key : ∀ (H : Heap) (locs : List Loc) (args : Array Value), (∀ w ∈ WG, w.before args s = true) → va_P z.1 classes (wv z ad E M) H → va_S A s.heap H locs → W p l e (rmK 4 115 0 0) s m args below meth c H locs 0 0 (MQ below (QK z A (fun _ => some (.int (oI r))) (fun _ => (wv z ad E N))) args s 0 0 A) (F0 m 0 ls []) := by
    intro H locs args hts hP hS
    unfold f_B_beatingSet at h
    refine lv_aload_n hx hb d_1_29_0 rfl (lv_at hl 0 rfl) ?_
    refine m_gr (j := 41) (C := "Ballothall") (T := TX11) (N := 14) (ci := 11) (k := 1) hx hb hts iX11 hown hG hP (yi_1 hL) (yt_1 hL) rfl (by decide) w_398 (fun _ h9 => h9) rfl rfl (yr_1_1 hL) d_1_29_1 ?_
    refine lv_aload_n hx hb d_1_29_4 rfl (lv_at hl 0 rfl) ?_
    refine m_gr (j := 2) (C := "Ballothall") (T := TX11) (N := 14) (ci := 11) (k := 0) hx hb hts iX11 hown hG hP (yi_1 hL) (yt_1 hL) rfl (by decide) w_397 (fun _ h9 => h9) rfl rfl (yr_1_0 hL) d_1_29_5 ?_
    obtain ⟨r0, g0, h⟩ := bd_e h
    refine kVN (As := []) (rest := [.ref (ad 41)]) (s_Bx_everybody l z ad E M r0 hL g0) hx hb hml hown hts w_668 n_665 w_667 w_s_8b8b67 w_2 md_b59579 ⟨Nat.le_of_ble_eq_true rfl, Nat.le_of_ble_eq_true rfl⟩ hG hZ hP hD hS hA 2 (wv_o (ci := 0) (yi_2 hL) (yt_2 hL)) rfl rfl rfl hl.1 rfl (Nat.le_of_ble_eq_true rfl) d_1_29_8 ⟨Nat.le_of_ble_eq_true rfl, Nat.le_of_ble_eq_true rfl⟩ (fun _ H locs hP hD hS => ?_)
    have hP : va_P z.1 classes (wv z ad E M) H := hP
    have hD : va_D A (wv z ad E M) := hD
    refine W.eq (g2 := F0 m 11 ls [.int (oI r0), .ref (ad 41)]) rfl ?_
    obtain ⟨M1, g1, h⟩ := bd_e h
    refine kVN (As := [.int (oI r0)]) (rest := []) (s_Po_open l z ad E M r0 M1 hL g1) hx hb hml hown hts w_672 n_669 w_671 w_s_229dc4 w_3 md_60bc9b ⟨Nat.le_of_ble_eq_true rfl, Nat.le_of_ble_eq_true rfl⟩ hG hZ hP hD hS hA 41 (wv_o (ci := 9) (yi_41 hL) (yt_41 hL)) rfl rfl rfl hl.1 rfl (Nat.le_of_ble_eq_true rfl) d_1_29_11 ⟨Nat.le_of_ble_eq_true rfl, Nat.le_of_ble_eq_true rfl⟩ (fun _ H locs hP hD hS => ?_)
    have hP : va_P z.1 classes (wv z ad E M1) H := hP
    have hD : va_D A (wv z ad E M1) := hD
    refine W.eq (g2 := F0 m 14 ls []) rfl ?_
    refine lv_aload_n hx hb d_1_29_14 rfl (lv_at hl 0 rfl) ?_
    refine m_gr (j := 41) (C := "Ballothall") (T := TX11) (N := 14) (ci := 11) (k := 1) hx hb hts iX11 hown hG hP (yi_1 hL) (yt_1 hL) rfl (by decide) w_398 (fun _ h9 => h9) rfl rfl (yr_1_1 hL) d_1_29_15 ?_
    obtain ⟨⟨r2, M2⟩, g2, h⟩ := bd_e h
    refine kVN (As := []) (rest := []) (s_Po_smallestBeatingSet l z ad E M1 r2 M2 hL g2) hx hb hml hown hts w_1317 n_1314 w_1316 w_s_300997 w_3 md_be21d8 ⟨Nat.le_of_ble_eq_true rfl, Nat.le_of_ble_eq_true rfl⟩ hG hZ hP hD hS hA 41 (wv_o (ci := 9) (yi_41 hL) (yt_41 hL)) rfl rfl rfl hl.1 rfl (Nat.le_of_ble_eq_true rfl) d_1_29_18 ⟨Nat.le_of_ble_eq_true rfl, Nat.le_of_ble_eq_true rfl⟩ (fun _ H locs hP hD hS => ?_)
    have hP : va_P z.1 classes (wv z ad E M2) H := hP
    have hD : va_D A (wv z ad E M2) := hD
    refine W.eq (g2 := F0 m 21 ls [.int (oI r2)]) rfl ?_
    obtain ⟨rfl, rfl⟩ := in2 h
    exact W.iret hx hb hr (fun t ht hW => qkA hP hD hS (fun k => k) rfl rfl ht) hS.2.2 d_1_29_21
  exact key _ _ _ hts hP hS
set_option maxRecDepth 100000 in
set_option maxHeartbeats 4000000 in
theorem b_Po_beaterOfAll_6b (l : Launch) (z : Zz) (ad : Nat → Nat) (E : Ev) (M : Mm) (x1 : Int) (t : Nat) (w1 : Int) (N : Mm) {Q : State → Prop} {p : Program} {e : Env} {s : State} {m : MethodId} {below : List Frame} {meth : Method} {c : Code} {A : Nat → Prop} {args : Array Value} (hx : p.tables.exec = Jvm.exec) (hb : c.code = prog_11_method_9_code) (hml : c.maxLocals = 2) (hts : ∀ w ∈ WG, w.before args s = true) (hown : s.vm.findClass "Ballothall$Poll" = some m.cls) (hlocks : meth.locks = false) (hA : ∀ q, s.heap.size ≤ q → A q) (hG : KG z s) (hZ : FZ z A s) (hL : Lay E) (h : Po_beaterOfAll_6b E M x1 = some (t, w1, N)) (k0 : t = 0 → ∀ (H : Heap) (locs : List Loc) (ls : Array Slot), va_P z.1 classes (wv z ad E N) H → va_D A (wv z ad E N) → va_S A s.heap H locs → lv_has ls 2 [(0, .ref (ad 41)), (1, .int (oI w1))] → W p l e (rmK 3 86 0 0) s m args below meth c H locs 0 0 Q (F0 m 6 ls [])) (k1 : t = 1 → ∀ (H : Heap) (locs : List Loc) (ls : Array Slot), va_P z.1 classes (wv z ad E N) H → va_D A (wv z ad E N) → va_S A s.heap H locs → lv_has ls 2 [(1, .int (oI w1))] → W p l e (rmK 3 86 0 0) s m args below meth c H locs 0 0 Q (F0 m 36 ls [])) (k2 : t = 2 → ∀ (H : Heap) (locs : List Loc) (ls : Array Slot), va_P z.1 classes (wv z ad E N) H → va_D A (wv z ad E N) → va_S A s.heap H locs → lv_has ls 2 [] → W p l e (rmK 3 86 0 0) s m args below meth c H locs 0 0 Q (F0 m 44 ls [])) : ∀ (H : Heap) (locs : List Loc) (ls : Array Slot), va_P z.1 classes (wv z ad E M) H → va_D A (wv z ad E M) → va_S A s.heap H locs → lv_has ls 2 [(0, .ref (ad 41)), (1, .int (oI x1))] → W p l e (rmK 3 86 0 0) s m args below meth c H locs 0 0 Q (F0 m 6 ls []) := by
  intro H locs ls hP hD hS hl
  unfold Po_beaterOfAll_6b at h
  refine lv_iload_n hx hb d_11_9_6 rfl (lv_at hl 1 rfl) ?_
  refine lv_aload_n hx hb d_11_9_7 rfl (lv_at hl 0 rfl) ?_
  refine m_gr (j := 2) (C := "Ballothall$Poll") (T := TX9) (N := 12) (ci := 9) (k := 0) hx hb hts iX9 hown hG hP (yi_41 hL) (yt_41 hL) rfl (by decide) w_107 (fun _ h9 => h9) rfl rfl (yr_41_0 hL) d_11_9_8 ?_
  refine m_giN (C := "Ballothall$BallotBox") (T := TX0) (N := 10) (ci := 0) (k := 2) hx hb hts iX0 hown hG hP (yi_2 hL) (yt_2 hL) rfl (by decide) n_53 rfl (fun _ h9 => h9) rfl rfl d_11_9_11 ?_
  obtain ⟨ok1, h⟩ := ck_e h
  obtain ⟨ok2, h⟩ := ck_e h
  refine lv_icmp_ge (tgt := 44) hx hb d_11_9_14 (by decide) (fun c9 => ?_) (fun c9 => ?_)
  · have h := ite_t ((oI_le (a := (M 2 2)) (b := x1) ok2 ok1).mp c9) h
    obtain ⟨rfl, rfl, rfl⟩ := in3 h
    exact k2 rfl H locs ls hP hD hS (lv_sub hl [] rfl)
  · have h := ite_f (fun q => c9 ((oI_le (a := (M 2 2)) (b := x1) ok2 ok1).mpr q)) h
    refine lv_aload_n hx hb d_11_9_17 rfl (lv_at hl 0 rfl) ?_
    refine m_gr (j := 46) (C := "Ballothall$Poll") (T := TX9) (N := 12) (ci := 9) (k := 7) hx hb hts iX9 hown hG hP (yi_41 hL) (yt_41 hL) rfl (by decide) w_114 (fun _ h9 => h9) rfl rfl (yr_41_7 hL) d_11_9_18 ?_
    refine lv_iload_n hx hb d_11_9_21 rfl (lv_at hl 1 rfl) ?_
    obtain ⟨ok3, h⟩ := ck_e h
    refine m_ia hx hb hG hP (yi_46 hL) (yt_46 hL) ok3 d_11_9_22 ?_
    refine lv_aload_n hx hb d_11_9_23 rfl (lv_at hl 0 rfl) ?_
    refine m_gi (C := "Ballothall$Poll") (T := TX9) (N := 12) (ci := 9) (k := 1) hx hb hts iX9 hown hG hP (yi_41 hL) (yt_41 hL) rfl (by decide) w_108 (fun _ h9 => h9) rfl rfl d_11_9_24 ?_
    refine lv_iconst (v := oI 1) hx hb d_11_9_27 (by decide +kernel) ?_
    refine lv_iload_n hx hb d_11_9_28 rfl (lv_at hl 1 rfl) ?_
    obtain ⟨ok4, h⟩ := ck_e h
    refine lv_ishl hx hb d_11_9_29 ?_
    refine nrm (oI_one_shl ok4) ?_
    refine lv_iconst (v := oI (-1)) hx hb d_11_9_30 (by decide +kernel) ?_
    refine lv_ixor hx hb d_11_9_31 ?_
    refine nrm (oI_not _) ?_
    obtain ⟨ok5, h⟩ := ck_e h
    obtain ⟨ok6, h⟩ := ck_e h
    refine lv_iand hx hb d_11_9_32 ?_
    refine nrm (oI_dif ok5.1 ok5.2 ok6.1 ok6.2) ?_
    obtain ⟨ok7, h⟩ := ck_e h
    refine lv_icmp_ne (tgt := 38) hx hb d_11_9_33 (by decide) (fun c9 => ?_) (fun c9 => ?_)
    · have h := ite_f (fun q => c9 ((oI_eq (a := (M 46 x1.toNat)) (b := (dfI (M 41 1) (2 ^ x1.toNat))) ok7 (rg_nn (df_nn ok5))).mpr q)) h
      refine lv_iinc (v := oI (x1 + 1)) (lv' := [(1, .int (oI (x1 + 1))), (0, .ref (ad 41))]) hx hb d_11_9_38 hl (k := 1) rfl (oI_add x1 1) (by decide) rfl (fun ls hl => ?_)
      refine lv_goto (tgt := 6) hx hb d_11_9_41 (by decide) ?_
      obtain ⟨rfl, rfl, rfl⟩ := in3 h
      exact k0 rfl H locs ls hP hD hS (lv_sub hl [1, 0] rfl)
    · have h := ite_t ((oI_eq (a := (M 46 x1.toNat)) (b := (dfI (M 41 1) (2 ^ x1.toNat))) ok7 (rg_nn (df_nn ok5))).mp c9) h
      obtain ⟨rfl, rfl, rfl⟩ := in3 h
      exact k1 rfl H locs ls hP hD hS (lv_sub hl [1] rfl)
set_option maxRecDepth 100000 in
set_option maxHeartbeats 4000000 in
theorem s_Po_beaterOfAll_6 (l : Launch) (z : Zz) (ad : Nat → Nat) (E : Ev) {Q : State → Prop} {p : Program} {e : Env} {s : State} {m : MethodId} {below : List Frame} {meth : Method} {c : Code} {A : Nat → Prop} {args : Array Value} (hx : p.tables.exec = Jvm.exec) (hb : c.code = prog_11_method_9_code) (hml : c.maxLocals = 2) (hts : ∀ w ∈ WG, w.before args s = true) (hown : s.vm.findClass "Ballothall$Poll" = some m.cls) (hlocks : meth.locks = false) (hA : ∀ q, s.heap.size ≤ q → A q) (hG : KG z s) (hZ : FZ z A s) (hL : Lay E) : ∀ (fu : Nat) (M : Mm) (x1 : Int) (t : Nat) (w1 : Int) (N : Mm), l_Po_beaterOfAll_6 E fu M x1 = some (t, w1, N) → (t = 1 → ∀ (H : Heap) (locs : List Loc) (ls : Array Slot), va_P z.1 classes (wv z ad E N) H → va_D A (wv z ad E N) → va_S A s.heap H locs → lv_has ls 2 [(1, .int (oI w1))] → W p l e (rmK 3 86 0 0) s m args below meth c H locs 0 0 Q (F0 m 36 ls [])) → (t = 2 → ∀ (H : Heap) (locs : List Loc) (ls : Array Slot), va_P z.1 classes (wv z ad E N) H → va_D A (wv z ad E N) → va_S A s.heap H locs → lv_has ls 2 [] → W p l e (rmK 3 86 0 0) s m args below meth c H locs 0 0 Q (F0 m 44 ls [])) → ∀ (H : Heap) (locs : List Loc) (ls : Array Slot), va_P z.1 classes (wv z ad E M) H → va_D A (wv z ad E M) → va_S A s.heap H locs → lv_has ls 2 [(0, .ref (ad 41)), (1, .int (oI x1))] → W p l e (rmK 3 86 0 0) s m args below meth c H locs 0 0 Q (F0 m 6 ls []) := by
  intro fu
  induction fu with
  | zero =>
    intro M x1 t w1 N h
    have h : (none : Option (Nat × Int × Mm)) = some _ := h
    cases h
  | succ fu ih =>
    intro M x1 t w1 N h k1 k2 H locs ls hP hD hS hl
    obtain ⟨⟨t0, w10, N9⟩, g0, h⟩ := bd_e h
    refine b_Po_beaterOfAll_6b l z ad E M x1 t0 w10 N9 hx hb hml hts hown hlocks hA hG hZ hL g0 (fun e0 => ?_) (fun e0 => ?_) (fun e0 => ?_) H locs ls hP hD hS hl
    · subst e0
      have h := ite_t rfl h
      exact ih N9 w10 t w1 N h k1 k2
    · subst e0
      have h := ite_f (by decide) h
      obtain ⟨rfl, rfl, rfl⟩ := in3 h
      exact k1 rfl
    · subst e0
      have h := ite_f (by decide) h
      obtain ⟨rfl, rfl, rfl⟩ := in3 h
      exact k2 rfl
set_option maxRecDepth 100000 in
set_option maxHeartbeats 4000000 in
theorem s_Po_beaterOfAll (l : Launch) (z : Zz) (ad : Nat → Nat) (E : Ev) (M : Mm) (r : Int) (N : Mm) (hL : Lay E) (h : f_Po_beaterOfAll E M = some (r, N)) : CT l z ⟨"Ballothall$Poll", "beaterOfAll", "()I"⟩ prog_11_method_9_code 2 (some .int) [.ref (ad 41)] (wv z ad E M) 3 86 0 0 (fun _ => some (.int (oI r))) (fun _ => (wv z ad E N)) := by
  refine CT.of (own := "Ballothall$Poll") (by decide +kernel) (Nat.le_of_ble_eq_true rfl) rfl (fun p e s m below meth c A ls hx hb hml hr hts hown hlocks hin hA hG hZ hP hD hS hl => ?_)
  have hl : lv_has ls 2 [(0, .ref (ad 41))] := hl
  have key : ∀ (H : Heap) (locs : List Loc) (args : Array Value), (∀ w ∈ WG, w.before args s = true) → va_P z.1 classes (wv z ad E M) H → va_S A s.heap H locs → W p l e (rmK 3 86 0 0) s m args below meth c H locs 0 0 (MQ below (QK z A (fun _ => some (.int (oI r))) (fun _ => (wv z ad E N))) args s 0 0 A) (F0 m 0 ls []) := by
    intro H locs args hts hP hS
    unfold f_Po_beaterOfAll at h
    refine lv_aload_n hx hb d_11_9_0 rfl (lv_at hl 0 rfl) ?_
    obtain ⟨M0, g0, h⟩ := bd_e h
    refine kV (As := []) (rest := []) (s_Po_findBeaten l z ad E M M0 hL g0) hx hb hml hown hts w_701 w_698 w_700 w_s_e198c6 w_3 md_a5c5f2 ⟨Nat.le_of_ble_eq_true rfl, Nat.le_of_ble_eq_true rfl⟩ hG hZ hP hD hS hA 41 (wv_o (ci := 9) (yi_41 hL) (yt_41 hL)) rfl rfl rfl hl.1 rfl (Nat.le_of_ble_eq_true rfl) d_11_9_1 ⟨Nat.le_of_ble_eq_true rfl, Nat.le_of_ble_eq_true rfl⟩ (fun _ H locs hP hD hS => ?_)
    have hP : va_P z.1 classes (wv z ad E M0) H := hP
    have hD : va_D A (wv z ad E M0) := hD
    refine W.eq (g2 := F0 m 4 ls []) rfl ?_
    refine lv_iconst (v := oI 0) hx hb d_11_9_4 (by decide +kernel) ?_
    refine lv_istore_n (lv' := [(1, .int (oI 0)), (0, .ref (ad 41))]) hx hb d_11_9_5 rfl hl (by decide) rfl (fun ls hl => ?_)
    obtain ⟨⟨t8, v8_1, M8⟩, g8, h⟩ := bd_e h
    refine s_Po_beaterOfAll_6 l z ad E hx hb hml hts hown hlocks hA hG hZ hL FU M0 0 t8 v8_1 M8 g8 (fun e8 H locs ls hP hD hS hl => ?_) (fun e8 H locs ls hP hD hS hl => ?_) H locs ls hP hD hS (lv_sub hl [1, 0] rfl)
    · subst e8
      have h := ite_t rfl h
      refine lv_iload_n hx hb d_11_9_36 rfl (lv_at hl 0 rfl) ?_
      obtain ⟨rfl, rfl⟩ := in2 h
      exact W.iret hx hb hr (fun t ht hW => qkA hP hD hS (fun k => k) rfl rfl ht) hS.2.2 d_11_9_37
    · subst e8
      have h := ite_f (by decide) h
      have h := ite_t rfl h
      refine lv_iconst (v := oI (-1)) hx hb d_11_9_44 (by decide +kernel) ?_
      obtain ⟨rfl, rfl⟩ := in2 h
      exact W.iret hx hb hr (fun t ht hW => qkA hP hD hS (fun k => k) rfl rfl ht) hS.2.2 d_11_9_45
  exact key _ _ _ hts hP hS
set_option maxRecDepth 100000 in
set_option maxHeartbeats 4000000 in
theorem s_B_beatsAll (l : Launch) (z : Zz) (ad : Nat → Nat) (E : Ev) (M : Mm) (r : Int) (N : Mm) (hL : Lay E) (h : f_B_beatsAll E M = some (r, N)) : CT l z ⟨"Ballothall", "beatsAll", "()I"⟩ prog_1_method_26_code 1 (some .int) [.ref (ad 1)] (wv z ad E M) 4 115 0 0 (fun _ => some (.int (oI r))) (fun _ => (wv z ad E N)) := by
  refine CT.of (own := "Ballothall") (by decide +kernel) (Nat.le_of_ble_eq_true rfl) rfl (fun p e s m below meth c A ls hx hb hml hr hts hown hlocks hin hA hG hZ hP hD hS hl => ?_)
  have hl : lv_has ls 1 [(0, .ref (ad 1))] := hl
  have key : ∀ (H : Heap) (locs : List Loc) (args : Array Value), (∀ w ∈ WG, w.before args s = true) → va_P z.1 classes (wv z ad E M) H → va_S A s.heap H locs → W p l e (rmK 4 115 0 0) s m args below meth c H locs 0 0 (MQ below (QK z A (fun _ => some (.int (oI r))) (fun _ => (wv z ad E N))) args s 0 0 A) (F0 m 0 ls []) := by
    intro H locs args hts hP hS
    unfold f_B_beatsAll at h
    refine lv_aload_n hx hb d_1_26_0 rfl (lv_at hl 0 rfl) ?_
    refine m_gr (j := 41) (C := "Ballothall") (T := TX11) (N := 14) (ci := 11) (k := 1) hx hb hts iX11 hown hG hP (yi_1 hL) (yt_1 hL) rfl (by decide) w_398 (fun _ h9 => h9) rfl rfl (yr_1_1 hL) d_1_26_1 ?_
    refine lv_aload_n hx hb d_1_26_4 rfl (lv_at hl 0 rfl) ?_
    refine m_gr (j := 2) (C := "Ballothall") (T := TX11) (N := 14) (ci := 11) (k := 0) hx hb hts iX11 hown hG hP (yi_1 hL) (yt_1 hL) rfl (by decide) w_397 (fun _ h9 => h9) rfl rfl (yr_1_0 hL) d_1_26_5 ?_
    obtain ⟨r0, g0, h⟩ := bd_e h
    refine kVN (As := []) (rest := [.ref (ad 41)]) (s_Bx_everybody l z ad E M r0 hL g0) hx hb hml hown hts w_668 n_665 w_667 w_s_8b8b67 w_2 md_b59579 ⟨Nat.le_of_ble_eq_true rfl, Nat.le_of_ble_eq_true rfl⟩ hG hZ hP hD hS hA 2 (wv_o (ci := 0) (yi_2 hL) (yt_2 hL)) rfl rfl rfl hl.1 rfl (Nat.le_of_ble_eq_true rfl) d_1_26_8 ⟨Nat.le_of_ble_eq_true rfl, Nat.le_of_ble_eq_true rfl⟩ (fun _ H locs hP hD hS => ?_)
    have hP : va_P z.1 classes (wv z ad E M) H := hP
    have hD : va_D A (wv z ad E M) := hD
    refine W.eq (g2 := F0 m 11 ls [.int (oI r0), .ref (ad 41)]) rfl ?_
    obtain ⟨M1, g1, h⟩ := bd_e h
    refine kVN (As := [.int (oI r0)]) (rest := []) (s_Po_open l z ad E M r0 M1 hL g1) hx hb hml hown hts w_672 n_669 w_671 w_s_229dc4 w_3 md_60bc9b ⟨Nat.le_of_ble_eq_true rfl, Nat.le_of_ble_eq_true rfl⟩ hG hZ hP hD hS hA 41 (wv_o (ci := 9) (yi_41 hL) (yt_41 hL)) rfl rfl rfl hl.1 rfl (Nat.le_of_ble_eq_true rfl) d_1_26_11 ⟨Nat.le_of_ble_eq_true rfl, Nat.le_of_ble_eq_true rfl⟩ (fun _ H locs hP hD hS => ?_)
    have hP : va_P z.1 classes (wv z ad E M1) H := hP
    have hD : va_D A (wv z ad E M1) := hD
    refine W.eq (g2 := F0 m 14 ls []) rfl ?_
    refine lv_aload_n hx hb d_1_26_14 rfl (lv_at hl 0 rfl) ?_
    refine m_gr (j := 41) (C := "Ballothall") (T := TX11) (N := 14) (ci := 11) (k := 1) hx hb hts iX11 hown hG hP (yi_1 hL) (yt_1 hL) rfl (by decide) w_398 (fun _ h9 => h9) rfl rfl (yr_1_1 hL) d_1_26_15 ?_
    obtain ⟨⟨r2, M2⟩, g2, h⟩ := bd_e h
    refine kVN (As := []) (rest := []) (s_Po_beaterOfAll l z ad E M1 r2 M2 hL g2) hx hb hml hown hts w_697 n_694 w_696 w_s_516c18 w_3 md_056ea1 ⟨Nat.le_of_ble_eq_true rfl, Nat.le_of_ble_eq_true rfl⟩ hG hZ hP hD hS hA 41 (wv_o (ci := 9) (yi_41 hL) (yt_41 hL)) rfl rfl rfl hl.1 rfl (Nat.le_of_ble_eq_true rfl) d_1_26_18 ⟨Nat.le_of_ble_eq_true rfl, Nat.le_of_ble_eq_true rfl⟩ (fun _ H locs hP hD hS => ?_)
    have hP : va_P z.1 classes (wv z ad E M2) H := hP
    have hD : va_D A (wv z ad E M2) := hD
    refine W.eq (g2 := F0 m 21 ls [.int (oI r2)]) rfl ?_
    obtain ⟨rfl, rfl⟩ := in2 h
    exact W.iret hx hb hr (fun t ht hW => qkA hP hD hS (fun k => k) rfl rfl ht) hS.2.2 d_1_26_21
  exact key _ _ _ hts hP hS
set_option maxRecDepth 100000 in
set_option maxHeartbeats 4000000 in
theorem s_B_candidate (l : Launch) (z : Zz) (ad : Nat → Nat) (E : Ev) (M : Mm) (r : Int) (N : Mm) (hL : Lay E) (h : f_B_candidate E M = some (r, N)) : CT l z ⟨"Ballothall", "candidate", "()I"⟩ prog_1_method_2_code 2 (some .int) [.ref (ad 1)] (wv z ad E M) 2 63 0 0 (fun _ => some (.int (oI r))) (fun _ => (wv z ad E N)) := by
  refine CT.of (own := "Ballothall") (by decide +kernel) (Nat.le_of_ble_eq_true rfl) rfl (fun p e s m below meth c A ls hx hb hml hr hts hown hlocks hin hA hG hZ hP hD hS hl => ?_)
  have hl : lv_has ls 2 [(0, .ref (ad 1))] := hl
  have key : ∀ (H : Heap) (locs : List Loc) (args : Array Value), (∀ w ∈ WG, w.before args s = true) → va_P z.1 classes (wv z ad E M) H → va_S A s.heap H locs → W p l e (rmK 2 63 0 0) s m args below meth c H locs 0 0 (MQ below (QK z A (fun _ => some (.int (oI r))) (fun _ => (wv z ad E N))) args s 0 0 A) (F0 m 0 ls []) := by
    intro H locs args hts hP hS
    unfold f_B_candidate at h
    refine lv_aload_n hx hb d_1_2_0 rfl (lv_at hl 0 rfl) ?_
    refine m_gr (j := 2) (C := "Ballothall") (T := TX11) (N := 14) (ci := 11) (k := 0) hx hb hts iX11 hown hG hP (yi_1 hL) (yt_1 hL) rfl (by decide) w_397 (fun _ h9 => h9) rfl rfl (yr_1_0 hL) d_1_2_1 ?_
    refine m_giN (C := "Ballothall$BallotBox") (T := TX0) (N := 10) (ci := 0) (k := 2) hx hb hts iX0 hown hG hP (yi_2 hL) (yt_2 hL) rfl (by decide) n_52 rfl (fun _ h9 => h9) rfl rfl d_1_2_4 ?_
    refine lv_iconst (v := oI 1) hx hb d_1_2_7 (by decide +kernel) ?_
    refine lv_iadd hx hb d_1_2_8 ?_
    refine nrm (oI_add _ _) ?_
    refine lv_bipush (v := oI 8) hx hb d_1_2_9 (by decide +kernel) ?_
    obtain ⟨_, g0, h⟩ := bd_e h
    refine kS (As := [.int (oI ((M 2 2) + 1)), .int (oI 8)]) (rest := []) (s_B_needRoom l z ad E M ((M 2 2) + 1) 8 hL g0) hx hb hml hown hts w_446 w_444 w_445 w_1 md_ec9fa9 ⟨Nat.le_of_ble_eq_true rfl, Nat.le_of_ble_eq_true rfl⟩ hG hZ hP hD hS hA rfl hl.1 rfl (Nat.le_of_ble_eq_true rfl) d_1_2_11 ⟨Nat.le_of_ble_eq_true rfl, Nat.le_of_ble_eq_true rfl⟩ (fun _ H locs hP hD hS => ?_)
    have hP : va_P z.1 classes (wv z ad E M) H := hP
    have hD : va_D A (wv z ad E M) := hD
    refine W.eq (g2 := F0 m 14 ls []) rfl ?_
    refine lv_aload_n hx hb d_1_2_14 rfl (lv_at hl 0 rfl) ?_
    refine m_gr (j := 2) (C := "Ballothall") (T := TX11) (N := 14) (ci := 11) (k := 0) hx hb hts iX11 hown hG hP (yi_1 hL) (yt_1 hL) rfl (by decide) w_397 (fun _ h9 => h9) rfl rfl (yr_1_0 hL) d_1_2_15 ?_
    refine m_giN (C := "Ballothall$BallotBox") (T := TX0) (N := 10) (ci := 0) (k := 2) hx hb hts iX0 hown hG hP (yi_2 hL) (yt_2 hL) rfl (by decide) n_52 rfl (fun _ h9 => h9) rfl rfl d_1_2_18 ?_
    refine lv_istore_n (lv' := [(1, .int (oI (M 2 2))), (0, .ref (ad 1))]) hx hb d_1_2_21 rfl hl (by decide) rfl (fun ls hl => ?_)
    refine lv_aload_n hx hb d_1_2_22 rfl (lv_at hl 1 rfl) ?_
    refine m_gr (j := 2) (C := "Ballothall") (T := TX11) (N := 14) (ci := 11) (k := 0) hx hb hts iX11 hown hG hP (yi_1 hL) (yt_1 hL) rfl (by decide) w_397 (fun _ h9 => h9) rfl rfl (yr_1_0 hL) d_1_2_23 ?_
    refine m_grN (j := 4) (C := "Ballothall$BallotBox") (T := TX0) (N := 10) (ci := 0) (k := 4) hx hb hts iX0 hown hG hP (yi_2 hL) (yt_2 hL) rfl (by decide) n_62 rfl (fun _ h9 => h9) rfl rfl (yr_2_4 hL) d_1_2_26 ?_
    refine lv_iload_n hx hb d_1_2_29 rfl (lv_at hl 0 rfl) ?_
    refine lv_iload_n hx hb d_1_2_30 rfl (lv_at hl 0 rfl) ?_
    obtain ⟨ok1, h⟩ := ck_e h
    refine m_is hx hb hG hP hD hS (yi_4 hL) (yt_4 hL) ok1 d_1_2_31 (fun H locs hP hD hS => ?_)
    have hP : va_P z.1 classes (wv z ad E (u2 M 4 (M 2 2).toNat (M 2 2))) H := hP
    have hD : va_D A (wv z ad E (u2 M 4 (M 2 2).toNat (M 2 2))) := hD
    refine lv_aload_n hx hb d_1_2_32 rfl (lv_at hl 1 rfl) ?_
    refine m_gr (j := 2) (C := "Ballothall") (T := TX11) (N := 14) (ci := 11) (k := 0) hx hb hts iX11 hown hG hP (yi_1 hL) (yt_1 hL) rfl (by decide) w_397 (fun _ h9 => h9) rfl rfl (yr_1_0 hL) d_1_2_33 ?_
    refine lv_dup hx hb d_1_2_36 rfl ?_
    refine m_giN (C := "Ballothall$BallotBox") (T := TX0) (N := 10) (ci := 0) (k := 2) hx hb hts iX0 hown hG hP (yi_2 hL) (yt_2 hL) rfl (by decide) n_52 rfl (fun _ h9 => h9) rfl rfl d_1_2_37 ?_
    refine lv_iconst (v := oI 1) hx hb d_1_2_40 (by decide +kernel) ?_
    refine lv_iadd hx hb d_1_2_41 ?_
    refine nrm (oI_add _ _) ?_
    refine m_piN (C := "Ballothall$BallotBox") (T := TX0) (N := 10) (ci := 0) (k := 2) (ty := .int) hx hb hts iX0 hown hG hP hD hS (yi_2 hL) (yt_2 hL) rfl (by decide) n_52 rfl (fun _ h9 => h9) rfl rfl tyX0_ok nmX0 rfl (by decide +kernel) rfl rfl d_1_2_42 (fun H locs hP hD hS => ?_)
    have hP : va_P z.1 classes (wv z ad E (u2 (u2 M 4 (M 2 2).toNat (M 2 2)) 2 2 (((u2 M 4 (M 2 2).toNat (M 2 2)) 2 2) + 1))) H := hP
    have hD : va_D A (wv z ad E (u2 (u2 M 4 (M 2 2).toNat (M 2 2)) 2 2 (((u2 M 4 (M 2 2).toNat (M 2 2)) 2 2) + 1))) := hD
    refine lv_aload_n hx hb d_1_2_45 rfl (lv_at hl 1 rfl) ?_
    refine lv_iconst (v := oI 0) hx hb d_1_2_46 (by decide +kernel) ?_
    refine lv_iload_n hx hb d_1_2_47 rfl (lv_at hl 0 rfl) ?_
    refine lv_iconst (v := oI 0) hx hb d_1_2_48 (by decide +kernel) ?_
    obtain ⟨M2, g2, h⟩ := bd_e h
    refine kV (As := [.int (oI 0), .int (oI (M 2 2)), .int (oI 0)]) (rest := []) (s_B_remember l z ad E (u2 (u2 M 4 (M 2 2).toNat (M 2 2)) 2 2 (((u2 M 4 (M 2 2).toNat (M 2 2)) 2 2) + 1)) 0 (M 2 2) 0 M2 hL g2) hx hb hml hown hts w_519 w_516 w_518 w_s_b872b3 w_1 md_7af0bb ⟨Nat.le_of_ble_eq_true rfl, Nat.le_of_ble_eq_true rfl⟩ hG hZ hP hD hS hA 1 (wv_o (ci := 11) (yi_1 hL) (yt_1 hL)) rfl rfl rfl hl.1 rfl (Nat.le_of_ble_eq_true rfl) d_1_2_49 ⟨Nat.le_of_ble_eq_true rfl, Nat.le_of_ble_eq_true rfl⟩ (fun _ H locs hP hD hS => ?_)
    have hP : va_P z.1 classes (wv z ad E M2) H := hP
    have hD : va_D A (wv z ad E M2) := hD
    refine W.eq (g2 := F0 m 52 ls []) rfl ?_
    refine lv_iload_n hx hb d_1_2_52 rfl (lv_at hl 0 rfl) ?_
    obtain ⟨rfl, rfl⟩ := in2 h
    exact W.iret hx hb hr (fun t ht hW => qkA hP hD hS (fun k => k) rfl rfl ht) hS.2.2 d_1_2_53
  exact key _ _ _ hts hP hS
set_option maxRecDepth 100000 in
set_option maxHeartbeats 4000000 in
theorem s_B_needPlace (l : Launch) (z : Zz) (ad : Nat → Nat) (E : Ev) (M : Mm) (x0 : Int) (x1 : Int)  (hL : Lay E) (h : f_B_needPlace E M x0 x1 = some ()) : CT l z ⟨"Ballothall", "needPlace", "(II)V"⟩ prog_1_method_59_code 2 none [.int (oI x0), .int (oI x1)] (wv z ad E M) 0 20 0 0 (fun _ => none) (fun _ => (wv z ad E M)) := by
  refine CT.of (own := "Ballothall") (by decide +kernel) (Nat.le_of_ble_eq_true rfl) rfl (fun p e s m below meth c A ls hx hb hml hr hts hown hlocks hin hA hG hZ hP hD hS hl => ?_)
  have hl : lv_has ls 2 [(0, .int (oI x0)), (1, .int (oI x1))] := hl
  have key : ∀ (H : Heap) (locs : List Loc) (args : Array Value), (∀ w ∈ WG, w.before args s = true) → va_P z.1 classes (wv z ad E M) H → va_S A s.heap H locs → W p l e (rmK 0 20 0 0) s m args below meth c H locs 0 0 (MQ below (QK z A (fun _ => none) (fun _ => (wv z ad E M))) args s 0 0 A) (F0 m 0 ls []) := by
    intro H locs args hts hP hS
    unfold f_B_needPlace at h
    refine lv_iload_n hx hb d_1_59_0 rfl (lv_at hl 0 rfl) ?_
    obtain ⟨ok0, h⟩ := ck_e h
    refine lv_if_lt (tgt := 9) hx hb d_1_59_1 (by decide) (fun c9 => ?_) (fun c9 => ?_)
    · have h := ite_t ((oI_lt0 ok0).mp c9) h
      cases h
    · have h := ite_f (fun q => c9 ((oI_lt0 ok0).mpr q)) h
      refine lv_iload_n hx hb d_1_59_4 rfl (lv_at hl 0 rfl) ?_
      refine lv_iload_n hx hb d_1_59_5 rfl (lv_at hl 1 rfl) ?_
      obtain ⟨ok1, h⟩ := ck_e h
      refine lv_icmp_lt (tgt := 20) hx hb d_1_59_6 (by decide) (fun c9 => ?_) (fun c9 => ?_)
      · have h := ite_t ((oI_lt (a := x0) (b := x1) ok0 ok1).mp c9) h
        clear h
        exact W.vret hx hb hr (fun t ht hW => qkA hP hD hS (fun k => k) rfl rfl ht) hS.2.2 d_1_59_20
      · have h := ite_f (fun q => c9 ((oI_lt (a := x0) (b := x1) ok0 ok1).mpr q)) h
        cases h
  exact key _ _ _ hts hP hS
set_option maxRecDepth 100000 in
set_option maxHeartbeats 4000000 in
theorem b_Po_distanceWithFirst_19b (l : Launch) (z : Zz) (ad : Nat → Nat) (E : Ev) (M : Mm) (x2 : Int) (x3 : Int) (x4 : Int) (x6 : Int) (t : Nat) (w4 : Int) (w6 : Int)  {Q : State → Prop} {p : Program} {e : Env} {s : State} {m : MethodId} {below : List Frame} {meth : Method} {c : Code} {A : Nat → Prop} {args : Array Value} (hx : p.tables.exec = Jvm.exec) (hb : c.code = prog_11_method_16_code) (hml : c.maxLocals = 7) (hts : ∀ w ∈ WG, w.before args s = true) (hown : s.vm.findClass "Ballothall$Poll" = some m.cls) (hlocks : meth.locks = false) (hA : ∀ q, s.heap.size ≤ q → A q) (hG : KG z s) (hZ : FZ z A s) (hL : Lay E) (h : Po_distanceWithFirst_19b E M x2 x3 x4 x6 = some (t, w4, w6)) (k0 : t = 0 → ∀ (H : Heap) (locs : List Loc) (ls : Array Slot), va_P z.1 classes (wv z ad E M) H → va_D A (wv z ad E M) → va_S A s.heap H locs → lv_has ls 7 [(0, .ref (ad 41)), (2, .int (oI x2)), (3, .int (oI x3)), (4, .long (oJ w4)), (6, .int (oI w6))] → W p l e (rmK 1 42 0 0) s m args below meth c H locs 0 0 Q (F0 m 19 ls [])) (k1 : t = 1 → ∀ (H : Heap) (locs : List Loc) (ls : Array Slot), va_P z.1 classes (wv z ad E M) H → va_D A (wv z ad E M) → va_S A s.heap H locs → lv_has ls 7 [(4, .long (oJ w4))] → W p l e (rmK 1 42 0 0) s m args below meth c H locs 0 0 Q (F0 m 59 ls [])) : ∀ (H : Heap) (locs : List Loc) (ls : Array Slot), va_P z.1 classes (wv z ad E M) H → va_D A (wv z ad E M) → va_S A s.heap H locs → lv_has ls 7 [(0, .ref (ad 41)), (2, .int (oI x2)), (3, .int (oI x3)), (4, .long (oJ x4)), (6, .int (oI x6))] → W p l e (rmK 1 42 0 0) s m args below meth c H locs 0 0 Q (F0 m 19 ls []) := by
  intro H locs ls hP hD hS hl
  unfold Po_distanceWithFirst_19b at h
  refine lv_iload hx hb d_11_16_19 (lv_at hl 4 rfl) ?_
  refine lv_aload_n hx hb d_11_16_21 rfl (lv_at hl 0 rfl) ?_
  refine m_gr (j := 2) (C := "Ballothall$Poll") (T := TX9) (N := 12) (ci := 9) (k := 0) hx hb hts iX9 hown hG hP (yi_41 hL) (yt_41 hL) rfl (by decide) w_107 (fun _ h9 => h9) rfl rfl (yr_41_0 hL) d_11_16_22 ?_
  refine m_giN (C := "Ballothall$BallotBox") (T := TX0) (N := 10) (ci := 0) (k := 2) hx hb hts iX0 hown hG hP (yi_2 hL) (yt_2 hL) rfl (by decide) n_53 rfl (fun _ h9 => h9) rfl rfl d_11_16_25 ?_
  obtain ⟨ok5, h⟩ := ck_e h
  obtain ⟨ok6, h⟩ := ck_e h
  refine lv_icmp_ge (tgt := 59) hx hb d_11_16_28 (by decide) (fun c9 => ?_) (fun c9 => ?_)
  · have h := ite_t ((oI_le (a := (M 2 2)) (b := x6) ok6 ok5).mp c9) h
    obtain ⟨rfl, rfl, rfl⟩ := in3 h
    exact k1 rfl H locs ls hP hD hS (lv_sub hl [3] rfl)
  · have h := ite_f (fun q => c9 ((oI_le (a := (M 2 2)) (b := x6) ok6 ok5).mpr q)) h
    refine lv_iload_n hx hb d_11_16_31 rfl (lv_at hl 2 rfl) ?_
    refine lv_iload hx hb d_11_16_32 (lv_at hl 4 rfl) ?_
    obtain ⟨r7, g7, h⟩ := bd_e h
    refine kSN (As := [.int (oI x3), .int (oI x6)]) (rest := []) (s_B_has l z ad E M x3 x6 r7 hL g7) hx hb hml hown hts w_693 n_691 w_692 w_1 md_26545c ⟨Nat.le_of_ble_eq_true rfl, Nat.le_of_ble_eq_true rfl⟩ hG hZ hP hD hS hA rfl hl.1 rfl (Nat.le_of_ble_eq_true rfl) d_11_16_34 ⟨Nat.le_of_ble_eq_true rfl, Nat.le_of_ble_eq_true rfl⟩ (fun _ H locs hP hD hS => ?_)
    have hP : va_P z.1 classes (wv z ad E M) H := hP
    have hD : va_D A (wv z ad E M) := hD
    refine W.eq (g2 := F0 m 37 ls [.int (oI r7)]) rfl ?_
    obtain ⟨ok8, h⟩ := ck_e h
    refine lv_if_eq (tgt := 53) hx hb d_11_16_37 (by decide) (fun c9 => ?_) (fun c9 => ?_)
    · have h := ite_t ((oI_eq0 ok8).mp c9) h
      refine lv_iinc (v := oI (x6 + 1)) (lv' := [(6, .int (oI (x6 + 1))), (0, .ref (ad 41)), (2, .int (oI x2)), (3, .int (oI x3)), (4, .long (oJ x4))]) hx hb d_11_16_53 hl (k := 4) rfl (oI_add x6 1) (by decide) rfl (fun ls hl => ?_)
      refine lv_goto (tgt := 19) hx hb d_11_16_56 (by decide) ?_
      obtain ⟨rfl, rfl, rfl⟩ := in3 h
      exact k0 rfl H locs ls hP hD hS (lv_sub hl [1, 2, 3, 4, 0] rfl)
    · have h := ite_f (fun q => c9 ((oI_eq0 ok8).mpr q)) h
      refine lv_lload hx hb d_11_16_40 (lv_at hl 3 rfl) ?_
      refine lv_aload_n hx hb d_11_16_42 rfl (lv_at hl 0 rfl) ?_
      refine lv_iload hx hb d_11_16_43 (lv_at hl 4 rfl) ?_
      refine lv_iload_n hx hb d_11_16_45 rfl (lv_at hl 1 rfl) ?_
      obtain ⟨r9, g9, h⟩ := bd_e h
      refine kV (As := [.int (oI x6), .int (oI x2)]) (rest := [.long (oJ x4)]) (s_Po_pair l z ad E M x6 x2 r9 hL g9) hx hb hml hown hts w_709 w_706 w_708 w_s_776300 w_3 md_5a94c2 ⟨Nat.le_of_ble_eq_true rfl, Nat.le_of_ble_eq_true rfl⟩ hG hZ hP hD hS hA 41 (wv_o (ci := 9) (yi_41 hL) (yt_41 hL)) rfl rfl rfl hl.1 rfl (Nat.le_of_ble_eq_true rfl) d_11_16_46 ⟨Nat.le_of_ble_eq_true rfl, Nat.le_of_ble_eq_true rfl⟩ (fun _ H locs hP hD hS => ?_)
      have hP : va_P z.1 classes (wv z ad E M) H := hP
      have hD : va_D A (wv z ad E M) := hD
      refine W.eq (g2 := F0 m 49 ls [.int (oI r9), .long (oJ x4)]) rfl ?_
      obtain ⟨ok10, h⟩ := ck_e h
      refine lv_i2l (v := oJ r9) hx hb d_11_16_49 (oI_l ok10) ?_
      refine lv_ladd hx hb d_11_16_50 ?_
      refine nrmL (oJ_add _ _) ?_
      refine lv_lstore (lv' := [(4, .long (oJ (x4 + r9))), (0, .ref (ad 41)), (2, .int (oI x2)), (3, .int (oI x3)), (6, .int (oI x6))]) hx hb d_11_16_51 hl (by decide) rfl (fun ls hl => ?_)
      refine lv_iinc (v := oI (x6 + 1)) (lv' := [(6, .int (oI (x6 + 1))), (4, .long (oJ (x4 + r9))), (0, .ref (ad 41)), (2, .int (oI x2)), (3, .int (oI x3))]) hx hb d_11_16_53 hl (k := 4) rfl (oI_add x6 1) (by decide) rfl (fun ls hl => ?_)
      refine lv_goto (tgt := 19) hx hb d_11_16_56 (by decide) ?_
      obtain ⟨rfl, rfl, rfl⟩ := in3 h
      exact k0 rfl H locs ls hP hD hS (lv_sub hl [2, 3, 4, 1, 0] rfl)
set_option maxRecDepth 100000 in
set_option maxHeartbeats 4000000 in
theorem s_Po_distanceWithFirst_19 (l : Launch) (z : Zz) (ad : Nat → Nat) (E : Ev) (x2 : Int) (x3 : Int) {Q : State → Prop} {p : Program} {e : Env} {s : State} {m : MethodId} {below : List Frame} {meth : Method} {c : Code} {A : Nat → Prop} {args : Array Value} (hx : p.tables.exec = Jvm.exec) (hb : c.code = prog_11_method_16_code) (hml : c.maxLocals = 7) (hts : ∀ w ∈ WG, w.before args s = true) (hown : s.vm.findClass "Ballothall$Poll" = some m.cls) (hlocks : meth.locks = false) (hA : ∀ q, s.heap.size ≤ q → A q) (hG : KG z s) (hZ : FZ z A s) (hL : Lay E) : ∀ (fu : Nat) (M : Mm) (x4 : Int) (x6 : Int) (t : Nat) (w4 : Int) (w6 : Int), l_Po_distanceWithFirst_19 E x2 x3 fu M x4 x6 = some (t, w4, w6) → (t = 1 → ∀ (H : Heap) (locs : List Loc) (ls : Array Slot), va_P z.1 classes (wv z ad E M) H → va_D A (wv z ad E M) → va_S A s.heap H locs → lv_has ls 7 [(4, .long (oJ w4))] → W p l e (rmK 1 42 0 0) s m args below meth c H locs 0 0 Q (F0 m 59 ls [])) → ∀ (H : Heap) (locs : List Loc) (ls : Array Slot), va_P z.1 classes (wv z ad E M) H → va_D A (wv z ad E M) → va_S A s.heap H locs → lv_has ls 7 [(0, .ref (ad 41)), (2, .int (oI x2)), (3, .int (oI x3)), (4, .long (oJ x4)), (6, .int (oI x6))] → W p l e (rmK 1 42 0 0) s m args below meth c H locs 0 0 Q (F0 m 19 ls []) := by
  intro fu
  induction fu with
  | zero =>
    intro M x4 x6 t w4 w6 h
    have h : (none : Option (Nat × Int × Int)) = some _ := h
    cases h
  | succ fu ih =>
    intro M x4 x6 t w4 w6 h k1 H locs ls hP hD hS hl
    obtain ⟨⟨t0, w40, w60⟩, g0, h⟩ := bd_e h
    refine b_Po_distanceWithFirst_19b l z ad E M x2 x3 x4 x6 t0 w40 w60 hx hb hml hts hown hlocks hA hG hZ hL g0 (fun e0 => ?_) (fun e0 => ?_) H locs ls hP hD hS hl
    · subst e0
      have h := ite_t rfl h
      exact ih M w40 w60 t w4 w6 h k1
    · subst e0
      have h := ite_f (by decide) h
      obtain ⟨rfl, rfl, rfl⟩ := in3 h
      exact k1 rfl
set_option maxRecDepth 100000 in
set_option maxHeartbeats 4000000 in
theorem s_Po_distanceWithFirst (l : Launch) (z : Zz) (ad : Nat → Nat) (E : Ev) (M : Mm) (x1 : Int) (x2 : Int) (r : Int)  (hL : Lay E) (h : f_Po_distanceWithFirst E M x1 x2 = some r) : CT l z ⟨"Ballothall$Poll", "distanceWithFirst", "(II)J"⟩ prog_11_method_16_code 7 (some .long) [.ref (ad 41), .int (oI x1), .int (oI x2)] (wv z ad E M) 1 42 0 0 (fun _ => some (.long (oJ r))) (fun _ => (wv z ad E M)) := by
  refine CT.of (own := "Ballothall$Poll") (by decide +kernel) (Nat.le_of_ble_eq_true rfl) rfl (fun p e s m below meth c A ls hx hb hml hr hts hown hlocks hin hA hG hZ hP hD hS hl => ?_)
  have hl : lv_has ls 7 [(0, .ref (ad 41)), (1, .int (oI x1)), (2, .int (oI x2))] := hl
  have key : ∀ (H : Heap) (locs : List Loc) (args : Array Value), (∀ w ∈ WG, w.before args s = true) → va_P z.1 classes (wv z ad E M) H → va_S A s.heap H locs → W p l e (rmK 1 42 0 0) s m args below meth c H locs 0 0 (MQ below (QK z A (fun _ => some (.long (oJ r))) (fun _ => (wv z ad E M))) args s 0 0 A) (F0 m 0 ls []) := by
    intro H locs args hts hP hS
    unfold f_Po_distanceWithFirst at h
    refine lv_iload_n hx hb d_11_16_0 rfl (lv_at hl 1 rfl) ?_
    refine lv_iconst (v := oI 1) hx hb d_11_16_1 (by decide +kernel) ?_
    refine lv_iload_n hx hb d_11_16_2 rfl (lv_at hl 2 rfl) ?_
    obtain ⟨ok0, h⟩ := ck_e h
    refine lv_ishl hx hb d_11_16_3 ?_
    refine nrm (oI_one_shl ok0) ?_
    refine lv_iconst (v := oI (-1)) hx hb d_11_16_4 (by decide +kernel) ?_
    refine lv_ixor hx hb d_11_16_5 ?_
    refine nrm (oI_not _) ?_
    obtain ⟨ok1, h⟩ := ck_e h
    obtain ⟨ok2, h⟩ := ck_e h
    refine lv_iand hx hb d_11_16_6 ?_
    refine nrm (oI_dif ok1.1 ok1.2 ok2.1 ok2.2) ?_
    refine lv_istore_n (lv' := [(3, .int (oI (dfI x1 (2 ^ x2.toNat)))), (0, .ref (ad 41)), (1, .int (oI x1)), (2, .int (oI x2))]) hx hb d_11_16_7 rfl hl (by decide) rfl (fun ls hl => ?_)
    refine lv_aload_n hx hb d_11_16_8 rfl (lv_at hl 1 rfl) ?_
    refine m_gr (j := 50) (C := "Ballothall$Poll") (T := TX9) (N := 12) (ci := 9) (k := 11) hx hb hts iX9 hown hG hP (yi_41 hL) (yt_41 hL) rfl (by decide) w_118 (fun _ h9 => h9) rfl rfl (yr_41_11 hL) d_11_16_9 ?_
    refine lv_iload_n hx hb d_11_16_12 rfl (lv_at hl 0 rfl) ?_
    obtain ⟨ok3, h⟩ := ck_e h
    refine m_la hx hb hG hP (yi_50 hL) (yt_50 hL) ok3 d_11_16_13 ?_
    obtain ⟨v4, e4, h⟩ := nb_e h
    refine nrmL (congrArg oJ e4.symm) ?_
    refine lv_lstore (lv' := [(4, .long (oJ v4)), (3, .int (oI (dfI x1 (2 ^ x2.toNat)))), (0, .ref (ad 41)), (1, .int (oI x1)), (2, .int (oI x2))]) hx hb d_11_16_14 hl (by decide) rfl (fun ls hl => ?_)
    refine lv_iconst (v := oI 0) hx hb d_11_16_16 (by decide +kernel) ?_
    refine lv_istore (lv' := [(6, .int (oI 0)), (4, .long (oJ v4)), (3, .int (oI (dfI x1 (2 ^ x2.toNat)))), (0, .ref (ad 41)), (1, .int (oI x1)), (2, .int (oI x2))]) hx hb d_11_16_17 hl (by decide) rfl (fun ls hl => ?_)
    obtain ⟨⟨t11, v11_4, v11_6⟩, g11, h⟩ := bd_e h
    obtain ⟨ok11, h⟩ := ck_e h
    refine s_Po_distanceWithFirst_19 l z ad E x2 (dfI x1 (2 ^ x2.toNat)) hx hb hml hts hown hlocks hA hG hZ hL FU M v4 0 t11 v11_4 v11_6 g11 (fun e11 H locs ls hP hD hS hl => ?_) H locs ls hP hD hS (lv_sub hl [3, 5, 2, 1, 0] rfl)
    refine lv_lload hx hb d_11_16_59 (lv_at hl 0 rfl) ?_
    obtain rfl := in1 h
    exact W.lret hx hb hr (fun t ht hW => qkA hP hD hS (fun k => k) rfl rfl ht) hS.2.2 d_11_16_61
  exact key _ _ _ hts hP hS
set_option maxRecDepth 100000 in
set_option maxHeartbeats 4000000 in
theorem b_Po_findDistances_24b (l : Launch) (z : Zz) (ad : Nat → Nat) (E : Ev) (M : Mm) (x1 : Int) (x2 : Int) (x4 : Int) (t : Nat) (w2 : Int) (w4 : Int) (N : Mm) {Q : State → Prop} {p : Program} {e : Env} {s : State} {m : MethodId} {below : List Frame} {meth : Method} {c : Code} {A : Nat → Prop} {args : Array Value} (hx : p.tables.exec = Jvm.exec) (hb : c.code = prog_11_method_15_code) (hml : c.maxLocals = 7) (hts : ∀ w ∈ WG, w.before args s = true) (hown : s.vm.findClass "Ballothall$Poll" = some m.cls) (hlocks : meth.locks = false) (hA : ∀ q, s.heap.size ≤ q → A q) (hG : KG z s) (hZ : FZ z A s) (hL : Lay E) (h : Po_findDistances_24b E M x1 x2 x4 = some (t, w2, w4, N)) (k0 : t = 0 → ∀ (H : Heap) (locs : List Loc) (ls : Array Slot), va_P z.1 classes (wv z ad E N) H → va_D A (wv z ad E N) → va_S A s.heap H locs → lv_has ls 7 [(0, .ref (ad 41)), (1, .int (oI x1)), (2, .long (oJ w2)), (4, .int (oI w4))] → W p l e (rmK 2 68 0 0) s m args below meth c H locs 0 0 Q (F0 m 24 ls [])) (k1 : t = 1 → ∀ (H : Heap) (locs : List Loc) (ls : Array Slot), va_P z.1 classes (wv z ad E N) H → va_D A (wv z ad E N) → va_S A s.heap H locs → lv_has ls 7 [(0, .ref (ad 41)), (1, .int (oI x1)), (2, .long (oJ w2))] → W p l e (rmK 2 68 0 0) s m args below meth c H locs 0 0 Q (F0 m 80 ls [])) : ∀ (H : Heap) (locs : List Loc) (ls : Array Slot), va_P z.1 classes (wv z ad E M) H → va_D A (wv z ad E M) → va_S A s.heap H locs → lv_has ls 7 [(0, .ref (ad 41)), (1, .int (oI x1)), (2, .long (oJ x2)), (4, .int (oI x4))] → W p l e (rmK 2 68 0 0) s m args below meth c H locs 0 0 Q (F0 m 24 ls []) := by
  intro H locs ls hP hD hS hl
  unfold Po_findDistances_24b at h
  refine lv_iload hx hb d_11_15_24 (lv_at hl 3 rfl) ?_
  refine lv_aload_n hx hb d_11_15_26 rfl (lv_at hl 0 rfl) ?_
  refine m_gr (j := 2) (C := "Ballothall$Poll") (T := TX9) (N := 12) (ci := 9) (k := 0) hx hb hts iX9 hown hG hP (yi_41 hL) (yt_41 hL) rfl (by decide) w_107 (fun _ h9 => h9) rfl rfl (yr_41_0 hL) d_11_15_27 ?_
  refine m_giN (C := "Ballothall$BallotBox") (T := TX0) (N := 10) (ci := 0) (k := 2) hx hb hts iX0 hown hG hP (yi_2 hL) (yt_2 hL) rfl (by decide) n_53 rfl (fun _ h9 => h9) rfl rfl d_11_15_30 ?_
  obtain ⟨ok2, h⟩ := ck_e h
  obtain ⟨ok3, h⟩ := ck_e h
  refine lv_icmp_ge (tgt := 80) hx hb d_11_15_33 (by decide) (fun c9 => ?_) (fun c9 => ?_)
  · have h := ite_t ((oI_le (a := (M 2 2)) (b := x4) ok3 ok2).mp c9) h
    obtain ⟨rfl, rfl, rfl, rfl⟩ := in4 h
    exact k1 rfl H locs ls hP hD hS (lv_sub hl [0, 1, 2] rfl)
  · have h := ite_f (fun q => c9 ((oI_le (a := (M 2 2)) (b := x4) ok3 ok2).mpr q)) h
    refine lv_iload_n hx hb d_11_15_36 rfl (lv_at hl 1 rfl) ?_
    refine lv_iload hx hb d_11_15_37 (lv_at hl 3 rfl) ?_
    obtain ⟨r4, g4, h⟩ := bd_e h
    refine kSN (As := [.int (oI x1), .int (oI x4)]) (rest := []) (s_B_has l z ad E M x1 x4 r4 hL g4) hx hb hml hown hts w_693 n_691 w_692 w_1 md_26545c ⟨Nat.le_of_ble_eq_true rfl, Nat.le_of_ble_eq_true rfl⟩ hG hZ hP hD hS hA rfl hl.1 rfl (Nat.le_of_ble_eq_true rfl) d_11_15_39 ⟨Nat.le_of_ble_eq_true rfl, Nat.le_of_ble_eq_true rfl⟩ (fun _ H locs hP hD hS => ?_)
    have hP : va_P z.1 classes (wv z ad E M) H := hP
    have hD : va_D A (wv z ad E M) := hD
    refine W.eq (g2 := F0 m 42 ls [.int (oI r4)]) rfl ?_
    obtain ⟨ok5, h⟩ := ck_e h
    refine lv_if_eq (tgt := 74) hx hb d_11_15_42 (by decide) (fun c9 => ?_) (fun c9 => ?_)
    · have h := ite_t ((oI_eq0 ok5).mp c9) h
      refine lv_iinc (v := oI (x4 + 1)) (lv' := [(4, .int (oI (x4 + 1))), (0, .ref (ad 41)), (1, .int (oI x1)), (2, .long (oJ x2))]) hx hb d_11_15_74 hl (k := 3) rfl (oI_add x4 1) (by decide) rfl (fun ls hl => ?_)
      refine lv_goto (tgt := 24) hx hb d_11_15_77 (by decide) ?_
      obtain ⟨rfl, rfl, rfl, rfl⟩ := in4 h
      exact k0 rfl H locs ls hP hD hS (lv_sub hl [1, 2, 3, 0] rfl)
    · have h := ite_f (fun q => c9 ((oI_eq0 ok5).mpr q)) h
      refine lv_aload_n hx hb d_11_15_45 rfl (lv_at hl 0 rfl) ?_
      refine lv_iload_n hx hb d_11_15_46 rfl (lv_at hl 1 rfl) ?_
      refine lv_iload hx hb d_11_15_47 (lv_at hl 3 rfl) ?_
      obtain ⟨r6, g6, h⟩ := bd_e h
      refine kV (As := [.int (oI x1), .int (oI x4)]) (rest := []) (s_Po_distanceWithFirst l z ad E M x1 x4 r6 hL g6) hx hb hml hown hts w_718 w_715 w_717 w_s_a1b3b1 w_3 md_aaaef5 ⟨Nat.le_of_ble_eq_true rfl, Nat.le_of_ble_eq_true rfl⟩ hG hZ hP hD hS hA 41 (wv_o (ci := 9) (yi_41 hL) (yt_41 hL)) rfl rfl rfl hl.1 rfl (Nat.le_of_ble_eq_true rfl) d_11_15_49 ⟨Nat.le_of_ble_eq_true rfl, Nat.le_of_ble_eq_true rfl⟩ (fun _ H locs hP hD hS => ?_)
      have hP : va_P z.1 classes (wv z ad E M) H := hP
      have hD : va_D A (wv z ad E M) := hD
      refine W.eq (g2 := F0 m 52 ls [.long (oJ r6)]) rfl ?_
      refine lv_lstore (lv' := [(5, .long (oJ r6)), (0, .ref (ad 41)), (1, .int (oI x1)), (2, .long (oJ x2)), (4, .int (oI x4))]) hx hb d_11_15_52 hl (by decide) rfl (fun ls hl => ?_)
      refine lv_lload_n hx hb d_11_15_54 rfl (lv_at hl 3 rfl) ?_
      refine lv_ldc2 hx hb hown (hts _ w_714) d_11_15_55 ?_
      refine nrmL (x1 := oJ (-1)) (by decide +kernel) ?_
      obtain ⟨ok7, h⟩ := ck_e h
      refine W.lcmp hx hb d_11_15_58 ?_
      refine nrm (cmp_val (a := x2) (b := (-1 : Int)) ok7 (by decide)) ?_
      refine lv_if_ne (tgt := 67) hx hb d_11_15_59 (by decide) (fun c9 => ?_) (fun c9 => ?_)
      · have h := ite_f (fun q => c9 ((cmp_eq x2 (-1 : Int)).mpr q)) h
        refine lv_lload_n hx hb d_11_15_67 rfl (lv_at hl 3 rfl) ?_
        refine lv_lload hx hb d_11_15_68 (lv_at hl 0 rfl) ?_
        obtain ⟨ok8, h⟩ := ck_e h
        refine va_mmin_long hx hb (by rw [hml]; exact hl.1.symm) hown (hts _ w_719) (hts _ w_720) (hts _ w_17) (hts _ w_minL) (Nat.le_of_ble_eq_true rfl) (Nat.le_of_ble_eq_true rfl) (Nat.le_of_ble_eq_true rfl) (Nat.le_of_ble_eq_true rfl) d_11_15_70 ?_
        refine nrmL (mn_oJ (a := x2) (b := r6) ok7 ok8) ?_
        refine lv_lstore_n (lv' := [(2, .long (oJ (min x2 r6))), (5, .long (oJ r6)), (0, .ref (ad 41)), (1, .int (oI x1)), (4, .int (oI x4))]) hx hb d_11_15_73 rfl hl (by decide) rfl (fun ls hl => ?_)
        refine lv_iinc (v := oI (x4 + 1)) (lv' := [(4, .int (oI (x4 + 1))), (2, .long (oJ (min x2 r6))), (5, .long (oJ r6)), (0, .ref (ad 41)), (1, .int (oI x1))]) hx hb d_11_15_74 hl (k := 4) rfl (oI_add x4 1) (by decide) rfl (fun ls hl => ?_)
        refine lv_goto (tgt := 24) hx hb d_11_15_77 (by decide) ?_
        obtain ⟨rfl, rfl, rfl, rfl⟩ := in4 h
        exact k0 rfl H locs ls hP hD hS (lv_sub hl [3, 4, 1, 0] rfl)
      · have h := ite_t ((cmp_eq x2 (-1 : Int)).mp c9) h
        refine lv_lload hx hb d_11_15_62 (lv_at hl 0 rfl) ?_
        refine lv_goto (tgt := 73) hx hb d_11_15_64 (by decide) ?_
        refine lv_lstore_n (lv' := [(2, .long (oJ r6)), (5, .long (oJ r6)), (0, .ref (ad 41)), (1, .int (oI x1)), (4, .int (oI x4))]) hx hb d_11_15_73 rfl hl (by decide) rfl (fun ls hl => ?_)
        refine lv_iinc (v := oI (x4 + 1)) (lv' := [(4, .int (oI (x4 + 1))), (2, .long (oJ r6)), (5, .long (oJ r6)), (0, .ref (ad 41)), (1, .int (oI x1))]) hx hb d_11_15_74 hl (k := 4) rfl (oI_add x4 1) (by decide) rfl (fun ls hl => ?_)
        refine lv_goto (tgt := 24) hx hb d_11_15_77 (by decide) ?_
        obtain ⟨rfl, rfl, rfl, rfl⟩ := in4 h
        exact k0 rfl H locs ls hP hD hS (lv_sub hl [3, 4, 1, 0] rfl)
set_option maxRecDepth 100000 in
set_option maxHeartbeats 4000000 in
theorem s_Po_findDistances_24 (l : Launch) (z : Zz) (ad : Nat → Nat) (E : Ev) (x1 : Int) {Q : State → Prop} {p : Program} {e : Env} {s : State} {m : MethodId} {below : List Frame} {meth : Method} {c : Code} {A : Nat → Prop} {args : Array Value} (hx : p.tables.exec = Jvm.exec) (hb : c.code = prog_11_method_15_code) (hml : c.maxLocals = 7) (hts : ∀ w ∈ WG, w.before args s = true) (hown : s.vm.findClass "Ballothall$Poll" = some m.cls) (hlocks : meth.locks = false) (hA : ∀ q, s.heap.size ≤ q → A q) (hG : KG z s) (hZ : FZ z A s) (hL : Lay E) : ∀ (fu : Nat) (M : Mm) (x2 : Int) (x4 : Int) (t : Nat) (w2 : Int) (w4 : Int) (N : Mm), l_Po_findDistances_24 E x1 fu M x2 x4 = some (t, w2, w4, N) → (t = 1 → ∀ (H : Heap) (locs : List Loc) (ls : Array Slot), va_P z.1 classes (wv z ad E N) H → va_D A (wv z ad E N) → va_S A s.heap H locs → lv_has ls 7 [(0, .ref (ad 41)), (1, .int (oI x1)), (2, .long (oJ w2))] → W p l e (rmK 2 68 0 0) s m args below meth c H locs 0 0 Q (F0 m 80 ls [])) → ∀ (H : Heap) (locs : List Loc) (ls : Array Slot), va_P z.1 classes (wv z ad E M) H → va_D A (wv z ad E M) → va_S A s.heap H locs → lv_has ls 7 [(0, .ref (ad 41)), (1, .int (oI x1)), (2, .long (oJ x2)), (4, .int (oI x4))] → W p l e (rmK 2 68 0 0) s m args below meth c H locs 0 0 Q (F0 m 24 ls []) := by
  intro fu
  induction fu with
  | zero =>
    intro M x2 x4 t w2 w4 N h
    have h : (none : Option (Nat × Int × Int × Mm)) = some _ := h
    cases h
  | succ fu ih =>
    intro M x2 x4 t w2 w4 N h k1 H locs ls hP hD hS hl
    obtain ⟨⟨t0, w20, w40, N9⟩, g0, h⟩ := bd_e h
    refine b_Po_findDistances_24b l z ad E M x1 x2 x4 t0 w20 w40 N9 hx hb hml hts hown hlocks hA hG hZ hL g0 (fun e0 => ?_) (fun e0 => ?_) H locs ls hP hD hS hl
    · subst e0
      have h := ite_t rfl h
      exact ih N9 w20 w40 t w2 w4 N h k1
    · subst e0
      have h := ite_f (by decide) h
      obtain ⟨rfl, rfl, rfl, rfl⟩ := in4 h
      exact k1 rfl
set_option maxRecDepth 100000 in
set_option maxHeartbeats 4000000 in
theorem b_Po_findDistances_9b (l : Launch) (z : Zz) (ad : Nat → Nat) (E : Ev) (M : Mm) (x1 : Int) (t : Nat) (w1 : Int) (N : Mm) {Q : State → Prop} {p : Program} {e : Env} {s : State} {m : MethodId} {below : List Frame} {meth : Method} {c : Code} {A : Nat → Prop} {args : Array Value} (hx : p.tables.exec = Jvm.exec) (hb : c.code = prog_11_method_15_code) (hml : c.maxLocals = 7) (hts : ∀ w ∈ WG, w.before args s = true) (hown : s.vm.findClass "Ballothall$Poll" = some m.cls) (hlocks : meth.locks = false) (hA : ∀ q, s.heap.size ≤ q → A q) (hG : KG z s) (hZ : FZ z A s) (hL : Lay E) (h : Po_findDistances_9b E M x1 = some (t, w1, N)) (k0 : t = 0 → ∀ (H : Heap) (locs : List Loc) (ls : Array Slot), va_P z.1 classes (wv z ad E N) H → va_D A (wv z ad E N) → va_S A s.heap H locs → lv_has ls 7 [(0, .ref (ad 41)), (1, .int (oI w1))] → W p l e (rmK 2 68 0 0) s m args below meth c H locs 0 0 Q (F0 m 9 ls [])) (k1 : t = 1 → ∀ (H : Heap) (locs : List Loc) (ls : Array Slot), va_P z.1 classes (wv z ad E N) H → va_D A (wv z ad E N) → va_S A s.heap H locs → lv_has ls 7 [] → W p l e (rmK 2 68 0 0) s m args below meth c H locs 0 0 Q (F0 m 93 ls [])) : ∀ (H : Heap) (locs : List Loc) (ls : Array Slot), va_P z.1 classes (wv z ad E M) H → va_D A (wv z ad E M) → va_S A s.heap H locs → lv_has ls 7 [(0, .ref (ad 41)), (1, .int (oI x1))] → W p l e (rmK 2 68 0 0) s m args below meth c H locs 0 0 Q (F0 m 9 ls []) := by
  intro H locs ls hP hD hS hl
  unfold Po_findDistances_9b at h
  refine lv_iload_n hx hb d_11_15_9 rfl (lv_at hl 1 rfl) ?_
  refine lv_aload_n hx hb d_11_15_10 rfl (lv_at hl 0 rfl) ?_
  refine m_gi (C := "Ballothall$Poll") (T := TX9) (N := 12) (ci := 9) (k := 1) hx hb hts iX9 hown hG hP (yi_41 hL) (yt_41 hL) rfl (by decide) w_108 (fun _ h9 => h9) rfl rfl d_11_15_11 ?_
  obtain ⟨ok0, h⟩ := ck_e h
  obtain ⟨ok1, h⟩ := ck_e h
  refine lv_icmp_gt (tgt := 93) hx hb d_11_15_14 (by decide) (fun c9 => ?_) (fun c9 => ?_)
  · have h := ite_t ((oI_lt (a := (M 41 1)) (b := x1) ok1 ok0).mp c9) h
    obtain ⟨rfl, rfl, rfl⟩ := in3 h
    exact k1 rfl H locs ls hP hD hS (lv_sub hl [] rfl)
  · have h := ite_f (fun q => c9 ((oI_lt (a := (M 41 1)) (b := x1) ok1 ok0).mpr q)) h
    refine lv_ldc2 hx hb hown (hts _ w_714) d_11_15_17 ?_
    refine nrmL (x1 := oJ (-1)) (by decide +kernel) ?_
    refine lv_lstore_n (lv' := [(2, .long (oJ (-1))), (0, .ref (ad 41)), (1, .int (oI x1))]) hx hb d_11_15_20 rfl hl (by decide) rfl (fun ls hl => ?_)
    refine lv_iconst (v := oI 0) hx hb d_11_15_21 (by decide +kernel) ?_
    refine lv_istore (lv' := [(4, .int (oI 0)), (2, .long (oJ (-1))), (0, .ref (ad 41)), (1, .int (oI x1))]) hx hb d_11_15_22 hl (by decide) rfl (fun ls hl => ?_)
    obtain ⟨⟨t9, v9_2, v9_4, M9⟩, g9, h⟩ := bd_e h
    obtain ⟨ok9, h⟩ := ck_e h
    refine s_Po_findDistances_24 l z ad E x1 hx hb hml hts hown hlocks hA hG hZ hL FU M (-1) 0 t9 v9_2 v9_4 M9 g9 (fun e9 H locs ls hP hD hS hl => ?_) H locs ls hP hD hS (lv_sub hl [2, 3, 1, 0] rfl)
    refine lv_aload_n hx hb d_11_15_80 rfl (lv_at hl 0 rfl) ?_
    refine m_gr (j := 50) (C := "Ballothall$Poll") (T := TX9) (N := 12) (ci := 9) (k := 11) hx hb hts iX9 hown hG hP (yi_41 hL) (yt_41 hL) rfl (by decide) w_118 (fun _ h9 => h9) rfl rfl (yr_41_11 hL) d_11_15_81 ?_
    refine lv_iload_n hx hb d_11_15_84 rfl (lv_at hl 1 rfl) ?_
    refine lv_lload_n hx hb d_11_15_85 rfl (lv_at hl 2 rfl) ?_
    obtain ⟨ok10, h⟩ := ck_e h
    refine m_ls hx hb hG hP hD hS (yi_50 hL) (yt_50 hL) ok10 d_11_15_86 (fun H locs hP hD hS => ?_)
    have hP : va_P z.1 classes (wv z ad E (u2 M9 50 x1.toNat v9_2)) H := hP
    have hD : va_D A (wv z ad E (u2 M9 50 x1.toNat v9_2)) := hD
    refine lv_iinc (v := oI (x1 + 1)) (lv' := [(1, .int (oI (x1 + 1))), (0, .ref (ad 41)), (2, .long (oJ v9_2))]) hx hb d_11_15_87 hl (k := 1) rfl (oI_add x1 1) (by decide) rfl (fun ls hl => ?_)
    refine lv_goto (tgt := 9) hx hb d_11_15_90 (by decide) ?_
    obtain ⟨rfl, rfl, rfl⟩ := in3 h
    exact k0 rfl H locs ls hP hD hS (lv_sub hl [1, 0] rfl)
set_option maxRecDepth 100000 in
set_option maxHeartbeats 4000000 in
theorem s_Po_findDistances_9 (l : Launch) (z : Zz) (ad : Nat → Nat) (E : Ev) {Q : State → Prop} {p : Program} {e : Env} {s : State} {m : MethodId} {below : List Frame} {meth : Method} {c : Code} {A : Nat → Prop} {args : Array Value} (hx : p.tables.exec = Jvm.exec) (hb : c.code = prog_11_method_15_code) (hml : c.maxLocals = 7) (hts : ∀ w ∈ WG, w.before args s = true) (hown : s.vm.findClass "Ballothall$Poll" = some m.cls) (hlocks : meth.locks = false) (hA : ∀ q, s.heap.size ≤ q → A q) (hG : KG z s) (hZ : FZ z A s) (hL : Lay E) : ∀ (fu : Nat) (M : Mm) (x1 : Int) (t : Nat) (w1 : Int) (N : Mm), l_Po_findDistances_9 E fu M x1 = some (t, w1, N) → (t = 1 → ∀ (H : Heap) (locs : List Loc) (ls : Array Slot), va_P z.1 classes (wv z ad E N) H → va_D A (wv z ad E N) → va_S A s.heap H locs → lv_has ls 7 [] → W p l e (rmK 2 68 0 0) s m args below meth c H locs 0 0 Q (F0 m 93 ls [])) → ∀ (H : Heap) (locs : List Loc) (ls : Array Slot), va_P z.1 classes (wv z ad E M) H → va_D A (wv z ad E M) → va_S A s.heap H locs → lv_has ls 7 [(0, .ref (ad 41)), (1, .int (oI x1))] → W p l e (rmK 2 68 0 0) s m args below meth c H locs 0 0 Q (F0 m 9 ls []) := by
  intro fu
  induction fu with
  | zero =>
    intro M x1 t w1 N h
    have h : (none : Option (Nat × Int × Mm)) = some _ := h
    cases h
  | succ fu ih =>
    intro M x1 t w1 N h k1 H locs ls hP hD hS hl
    obtain ⟨⟨t0, w10, N9⟩, g0, h⟩ := bd_e h
    refine b_Po_findDistances_9b l z ad E M x1 t0 w10 N9 hx hb hml hts hown hlocks hA hG hZ hL g0 (fun e0 => ?_) (fun e0 => ?_) H locs ls hP hD hS hl
    · subst e0
      have h := ite_t rfl h
      exact ih N9 w10 t w1 N h k1
    · subst e0
      have h := ite_f (by decide) h
      obtain ⟨rfl, rfl, rfl⟩ := in3 h
      exact k1 rfl
set_option maxRecDepth 100000 in
set_option maxHeartbeats 4000000 in
theorem s_Po_findDistances (l : Launch) (z : Zz) (ad : Nat → Nat) (E : Ev) (M : Mm) (N : Mm) (hL : Lay E) (h : f_Po_findDistances E M = some N) : CT l z ⟨"Ballothall$Poll", "findDistances", "()V"⟩ prog_11_method_15_code 7 none [.ref (ad 41)] (wv z ad E M) 2 68 0 0 (fun _ => none) (fun _ => (wv z ad E N)) := by
  refine CT.of (own := "Ballothall$Poll") (by decide +kernel) (Nat.le_of_ble_eq_true rfl) rfl (fun p e s m below meth c A ls hx hb hml hr hts hown hlocks hin hA hG hZ hP hD hS hl => ?_)
  have hl : lv_has ls 7 [(0, .ref (ad 41))] := hl
  have key : ∀ (H : Heap) (locs : List Loc) (args : Array Value), (∀ w ∈ WG, w.before args s = true) → va_P z.1 classes (wv z ad E M) H → va_S A s.heap H locs → W p l e (rmK 2 68 0 0) s m args below meth c H locs 0 0 (MQ below (QK z A (fun _ => none) (fun _ => (wv z ad E N))) args s 0 0 A) (F0 m 0 ls []) := by
    intro H locs args hts hP hS
    unfold f_Po_findDistances at h
    refine lv_aload_n hx hb d_11_15_0 rfl (lv_at hl 0 rfl) ?_
    refine m_gr (j := 50) (C := "Ballothall$Poll") (T := TX9) (N := 12) (ci := 9) (k := 11) hx hb hts iX9 hown hG hP (yi_41 hL) (yt_41 hL) rfl (by decide) w_118 (fun _ h9 => h9) rfl rfl (yr_41_11 hL) d_11_15_1 ?_
    refine lv_iconst (v := oI 0) hx hb d_11_15_4 (by decide +kernel) ?_
    refine lv_lconst (v := oJ 0) hx hb d_11_15_5 (by decide +kernel) ?_
    refine m_ls hx hb hG hP hD hS (yi_50 hL) (yt_50 hL) (by decide +kernel) d_11_15_6 (fun H locs hP hD hS => ?_)
    have hP : va_P z.1 classes (wv z ad E (u2 M 50 0 0)) H := hP
    have hD : va_D A (wv z ad E (u2 M 50 0 0)) := hD
    refine lv_iconst (v := oI 1) hx hb d_11_15_7 (by decide +kernel) ?_
    refine lv_istore_n (lv' := [(1, .int (oI 1)), (0, .ref (ad 41))]) hx hb d_11_15_8 rfl hl (by decide) rfl (fun ls hl => ?_)
    obtain ⟨⟨t11, v11_1, M11⟩, g11, h⟩ := bd_e h
    obtain ⟨ok11, h⟩ := ck_e h
    refine s_Po_findDistances_9 l z ad E hx hb hml hts hown hlocks hA hG hZ hL FU (u2 M 50 0 0) 1 t11 v11_1 M11 g11 (fun e11 H locs ls hP hD hS hl => ?_) H locs ls hP hD hS (lv_sub hl [1, 0] rfl)
    obtain rfl := in1 h
    exact W.vret hx hb hr (fun t ht hW => qkA hP hD hS (fun k => k) rfl rfl ht) hS.2.2 d_11_15_93
  exact key _ _ _ hts hP hS
set_option maxRecDepth 100000 in
set_option maxHeartbeats 4000000 in
theorem b_Po_firstOfConsensus_2b (l : Launch) (z : Zz) (ad : Nat → Nat) (E : Ev) (M : Mm) (x1 : Int) (x2 : Int) (t : Nat) (w2 : Int)  {Q : State → Prop} {p : Program} {e : Env} {s : State} {m : MethodId} {below : List Frame} {meth : Method} {c : Code} {A : Nat → Prop} {args : Array Value} (hx : p.tables.exec = Jvm.exec) (hb : c.code = prog_11_method_18_code) (hml : c.maxLocals = 3) (hts : ∀ w ∈ WG, w.before args s = true) (hown : s.vm.findClass "Ballothall$Poll" = some m.cls) (hlocks : meth.locks = false) (hA : ∀ q, s.heap.size ≤ q → A q) (hG : KG z s) (hZ : FZ z A s) (hL : Lay E) (h : Po_firstOfConsensus_2b E M x1 x2 = some (t, w2)) (k0 : t = 0 → ∀ (H : Heap) (locs : List Loc) (ls : Array Slot), va_P z.1 classes (wv z ad E M) H → va_D A (wv z ad E M) → va_S A s.heap H locs → lv_has ls 3 [(0, .ref (ad 41)), (1, .int (oI x1)), (2, .int (oI w2))] → W p l e (rmK 2 68 0 0) s m args below meth c H locs 0 0 Q (F0 m 2 ls [])) (k1 : t = 1 → ∀ (H : Heap) (locs : List Loc) (ls : Array Slot), va_P z.1 classes (wv z ad E M) H → va_D A (wv z ad E M) → va_S A s.heap H locs → lv_has ls 3 [(2, .int (oI w2))] → W p l e (rmK 2 68 0 0) s m args below meth c H locs 0 0 Q (F0 m 37 ls [])) (k2 : t = 2 → ∀ (H : Heap) (locs : List Loc) (ls : Array Slot), va_P z.1 classes (wv z ad E M) H → va_D A (wv z ad E M) → va_S A s.heap H locs → lv_has ls 3 [] → W p l e (rmK 2 68 0 0) s m args below meth c H locs 0 0 Q (F0 m 45 ls [])) : ∀ (H : Heap) (locs : List Loc) (ls : Array Slot), va_P z.1 classes (wv z ad E M) H → va_D A (wv z ad E M) → va_S A s.heap H locs → lv_has ls 3 [(0, .ref (ad 41)), (1, .int (oI x1)), (2, .int (oI x2))] → W p l e (rmK 2 68 0 0) s m args below meth c H locs 0 0 Q (F0 m 2 ls []) := by
  intro H locs ls hP hD hS hl
  unfold Po_firstOfConsensus_2b at h
  refine lv_iload_n hx hb d_11_18_2 rfl (lv_at hl 2 rfl) ?_
  refine lv_aload_n hx hb d_11_18_3 rfl (lv_at hl 0 rfl) ?_
  refine m_gr (j := 2) (C := "Ballothall$Poll") (T := TX9) (N := 12) (ci := 9) (k := 0) hx hb hts iX9 hown hG hP (yi_41 hL) (yt_41 hL) rfl (by decide) w_107 (fun _ h9 => h9) rfl rfl (yr_41_0 hL) d_11_18_4 ?_
  refine m_giN (C := "Ballothall$BallotBox") (T := TX0) (N := 10) (ci := 0) (k := 2) hx hb hts iX0 hown hG hP (yi_2 hL) (yt_2 hL) rfl (by decide) n_53 rfl (fun _ h9 => h9) rfl rfl d_11_18_7 ?_
  obtain ⟨ok0, h⟩ := ck_e h
  obtain ⟨ok1, h⟩ := ck_e h
  refine lv_icmp_ge (tgt := 45) hx hb d_11_18_10 (by decide) (fun c9 => ?_) (fun c9 => ?_)
  · have h := ite_t ((oI_le (a := (M 2 2)) (b := x2) ok1 ok0).mp c9) h
    obtain ⟨rfl, rfl⟩ := in2 h
    exact k2 rfl H locs ls hP hD hS (lv_sub hl [] rfl)
  · have h := ite_f (fun q => c9 ((oI_le (a := (M 2 2)) (b := x2) ok1 ok0).mpr q)) h
    refine lv_iload_n hx hb d_11_18_13 rfl (lv_at hl 1 rfl) ?_
    refine lv_iload_n hx hb d_11_18_14 rfl (lv_at hl 2 rfl) ?_
    obtain ⟨r2, g2, h⟩ := bd_e h
    refine kSN (As := [.int (oI x1), .int (oI x2)]) (rest := []) (s_B_has l z ad E M x1 x2 r2 hL g2) hx hb hml hown hts w_693 n_691 w_692 w_1 md_26545c ⟨Nat.le_of_ble_eq_true rfl, Nat.le_of_ble_eq_true rfl⟩ hG hZ hP hD hS hA rfl hl.1 rfl (Nat.le_of_ble_eq_true rfl) d_11_18_15 ⟨Nat.le_of_ble_eq_true rfl, Nat.le_of_ble_eq_true rfl⟩ (fun _ H locs hP hD hS => ?_)
    have hP : va_P z.1 classes (wv z ad E M) H := hP
    have hD : va_D A (wv z ad E M) := hD
    refine W.eq (g2 := F0 m 18 ls [.int (oI r2)]) rfl ?_
    obtain ⟨ok3, h⟩ := ck_e h
    refine lv_if_eq (tgt := 39) hx hb d_11_18_18 (by decide) (fun c9 => ?_) (fun c9 => ?_)
    · have h := ite_t ((oI_eq0 ok3).mp c9) h
      refine lv_iinc (v := oI (x2 + 1)) (lv' := [(2, .int (oI (x2 + 1))), (0, .ref (ad 41)), (1, .int (oI x1))]) hx hb d_11_18_39 hl (k := 2) rfl (oI_add x2 1) (by decide) rfl (fun ls hl => ?_)
      refine lv_goto (tgt := 2) hx hb d_11_18_42 (by decide) ?_
      obtain ⟨rfl, rfl⟩ := in2 h
      exact k0 rfl H locs ls hP hD hS (lv_sub hl [1, 2, 0] rfl)
    · have h := ite_f (fun q => c9 ((oI_eq0 ok3).mpr q)) h
      refine lv_aload_n hx hb d_11_18_21 rfl (lv_at hl 0 rfl) ?_
      refine lv_iload_n hx hb d_11_18_22 rfl (lv_at hl 1 rfl) ?_
      refine lv_iload_n hx hb d_11_18_23 rfl (lv_at hl 2 rfl) ?_
      obtain ⟨r4, g4, h⟩ := bd_e h
      refine kV (As := [.int (oI x1), .int (oI x2)]) (rest := []) (s_Po_distanceWithFirst l z ad E M x1 x2 r4 hL g4) hx hb hml hown hts w_718 w_715 w_717 w_s_a1b3b1 w_3 md_aaaef5 ⟨Nat.le_of_ble_eq_true rfl, Nat.le_of_ble_eq_true rfl⟩ hG hZ hP hD hS hA 41 (wv_o (ci := 9) (yi_41 hL) (yt_41 hL)) rfl rfl rfl hl.1 rfl (Nat.le_of_ble_eq_true rfl) d_11_18_24 ⟨Nat.le_of_ble_eq_true rfl, Nat.le_of_ble_eq_true rfl⟩ (fun _ H locs hP hD hS => ?_)
      have hP : va_P z.1 classes (wv z ad E M) H := hP
      have hD : va_D A (wv z ad E M) := hD
      refine W.eq (g2 := F0 m 27 ls [.long (oJ r4)]) rfl ?_
      refine lv_aload_n hx hb d_11_18_27 rfl (lv_at hl 0 rfl) ?_
      refine m_gr (j := 50) (C := "Ballothall$Poll") (T := TX9) (N := 12) (ci := 9) (k := 11) hx hb hts iX9 hown hG hP (yi_41 hL) (yt_41 hL) rfl (by decide) w_118 (fun _ h9 => h9) rfl rfl (yr_41_11 hL) d_11_18_28 ?_
      refine lv_iload_n hx hb d_11_18_31 rfl (lv_at hl 1 rfl) ?_
      obtain ⟨ok5, h⟩ := ck_e h
      refine m_la hx hb hG hP (yi_50 hL) (yt_50 hL) ok5 d_11_18_32 ?_
      obtain ⟨ok6, h⟩ := ck_e h
      obtain ⟨ok7, h⟩ := ck_e h
      refine W.lcmp hx hb d_11_18_33 ?_
      refine nrm (cmp_val (a := r4) (b := (M 50 x1.toNat)) ok6 ok7) ?_
      refine lv_if_ne (tgt := 39) hx hb d_11_18_34 (by decide) (fun c9 => ?_) (fun c9 => ?_)
      · have h := ite_f (fun q => c9 ((cmp_eq r4 (M 50 x1.toNat)).mpr q)) h
        refine lv_iinc (v := oI (x2 + 1)) (lv' := [(2, .int (oI (x2 + 1))), (0, .ref (ad 41)), (1, .int (oI x1))]) hx hb d_11_18_39 hl (k := 2) rfl (oI_add x2 1) (by decide) rfl (fun ls hl => ?_)
        refine lv_goto (tgt := 2) hx hb d_11_18_42 (by decide) ?_
        obtain ⟨rfl, rfl⟩ := in2 h
        exact k0 rfl H locs ls hP hD hS (lv_sub hl [1, 2, 0] rfl)
      · have h := ite_t ((cmp_eq r4 (M 50 x1.toNat)).mp c9) h
        obtain ⟨rfl, rfl⟩ := in2 h
        exact k1 rfl H locs ls hP hD hS (lv_sub hl [2] rfl)
set_option maxRecDepth 100000 in
set_option maxHeartbeats 4000000 in
theorem s_Po_firstOfConsensus_2 (l : Launch) (z : Zz) (ad : Nat → Nat) (E : Ev) (x1 : Int) {Q : State → Prop} {p : Program} {e : Env} {s : State} {m : MethodId} {below : List Frame} {meth : Method} {c : Code} {A : Nat → Prop} {args : Array Value} (hx : p.tables.exec = Jvm.exec) (hb : c.code = prog_11_method_18_code) (hml : c.maxLocals = 3) (hts : ∀ w ∈ WG, w.before args s = true) (hown : s.vm.findClass "Ballothall$Poll" = some m.cls) (hlocks : meth.locks = false) (hA : ∀ q, s.heap.size ≤ q → A q) (hG : KG z s) (hZ : FZ z A s) (hL : Lay E) : ∀ (fu : Nat) (M : Mm) (x2 : Int) (t : Nat) (w2 : Int), l_Po_firstOfConsensus_2 E x1 fu M x2 = some (t, w2) → (t = 1 → ∀ (H : Heap) (locs : List Loc) (ls : Array Slot), va_P z.1 classes (wv z ad E M) H → va_D A (wv z ad E M) → va_S A s.heap H locs → lv_has ls 3 [(2, .int (oI w2))] → W p l e (rmK 2 68 0 0) s m args below meth c H locs 0 0 Q (F0 m 37 ls [])) → (t = 2 → ∀ (H : Heap) (locs : List Loc) (ls : Array Slot), va_P z.1 classes (wv z ad E M) H → va_D A (wv z ad E M) → va_S A s.heap H locs → lv_has ls 3 [] → W p l e (rmK 2 68 0 0) s m args below meth c H locs 0 0 Q (F0 m 45 ls [])) → ∀ (H : Heap) (locs : List Loc) (ls : Array Slot), va_P z.1 classes (wv z ad E M) H → va_D A (wv z ad E M) → va_S A s.heap H locs → lv_has ls 3 [(0, .ref (ad 41)), (1, .int (oI x1)), (2, .int (oI x2))] → W p l e (rmK 2 68 0 0) s m args below meth c H locs 0 0 Q (F0 m 2 ls []) := by
  intro fu
  induction fu with
  | zero =>
    intro M x2 t w2 h
    have h : (none : Option (Nat × Int)) = some _ := h
    cases h
  | succ fu ih =>
    intro M x2 t w2 h k1 k2 H locs ls hP hD hS hl
    obtain ⟨⟨t0, w20⟩, g0, h⟩ := bd_e h
    refine b_Po_firstOfConsensus_2b l z ad E M x1 x2 t0 w20 hx hb hml hts hown hlocks hA hG hZ hL g0 (fun e0 => ?_) (fun e0 => ?_) (fun e0 => ?_) H locs ls hP hD hS hl
    · subst e0
      have h := ite_t rfl h
      exact ih M w20 t w2 h k1 k2
    · subst e0
      have h := ite_f (by decide) h
      obtain ⟨rfl, rfl⟩ := in2 h
      exact k1 rfl
    · subst e0
      have h := ite_f (by decide) h
      obtain ⟨rfl, rfl⟩ := in2 h
      exact k2 rfl
set_option maxRecDepth 100000 in
set_option maxHeartbeats 4000000 in
theorem s_Po_firstOfConsensus (l : Launch) (z : Zz) (ad : Nat → Nat) (E : Ev) (M : Mm) (x1 : Int) (r : Int)  (hL : Lay E) (h : f_Po_firstOfConsensus E M x1 = some r) : CT l z ⟨"Ballothall$Poll", "firstOfConsensus", "(I)I"⟩ prog_11_method_18_code 3 (some .int) [.ref (ad 41), .int (oI x1)] (wv z ad E M) 2 68 0 0 (fun _ => some (.int (oI r))) (fun _ => (wv z ad E M)) := by
  refine CT.of (own := "Ballothall$Poll") (by decide +kernel) (Nat.le_of_ble_eq_true rfl) rfl (fun p e s m below meth c A ls hx hb hml hr hts hown hlocks hin hA hG hZ hP hD hS hl => ?_)
  have hl : lv_has ls 3 [(0, .ref (ad 41)), (1, .int (oI x1))] := hl
  have key : ∀ (H : Heap) (locs : List Loc) (args : Array Value), (∀ w ∈ WG, w.before args s = true) → va_P z.1 classes (wv z ad E M) H → va_S A s.heap H locs → W p l e (rmK 2 68 0 0) s m args below meth c H locs 0 0 (MQ below (QK z A (fun _ => some (.int (oI r))) (fun _ => (wv z ad E M))) args s 0 0 A) (F0 m 0 ls []) := by
    intro H locs args hts hP hS
    unfold f_Po_firstOfConsensus at h
    refine lv_iconst (v := oI 0) hx hb d_11_18_0 (by decide +kernel) ?_
    refine lv_istore_n (lv' := [(2, .int (oI 0)), (0, .ref (ad 41)), (1, .int (oI x1))]) hx hb d_11_18_1 rfl hl (by decide) rfl (fun ls hl => ?_)
    obtain ⟨⟨t8, v8_2⟩, g8, h⟩ := bd_e h
    refine s_Po_firstOfConsensus_2 l z ad E x1 hx hb hml hts hown hlocks hA hG hZ hL FU M 0 t8 v8_2 g8 (fun e8 H locs ls hP hD hS hl => ?_) (fun e8 H locs ls hP hD hS hl => ?_) H locs ls hP hD hS (lv_sub hl [1, 2, 0] rfl)
    · subst e8
      have h := ite_t rfl h
      refine lv_iload_n hx hb d_11_18_37 rfl (lv_at hl 0 rfl) ?_
      obtain rfl := in1 h
      exact W.iret hx hb hr (fun t ht hW => qkA hP hD hS (fun k => k) rfl rfl ht) hS.2.2 d_11_18_38
    · subst e8
      have h := ite_f (by decide) h
      have h := ite_t rfl h
      refine lv_iconst (v := oI 0) hx hb d_11_18_45 (by decide +kernel) ?_
      obtain rfl := in1 h
      exact W.iret hx hb hr (fun t ht hW => qkA hP hD hS (fun k => k) rfl rfl ht) hS.2.2 d_11_18_46
  exact key _ _ _ hts hP hS
