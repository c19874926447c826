set_option maxRecDepth 100000 in
set_option maxHeartbeats 4000000 in
theorem b_B_errors_j32 (l : Launch) (z : Zz) (ad : Nat → Nat) (E : Ev) (M : Mm) (y0 : Int) (y1 : Int) (r : Int) (N : Mm) {p : Program} {e : Env} {s : State} {m : MethodId} {below : List Frame} {meth : Method} {c : Code} {A : Nat → Prop} {args : Array Value} (hx : p.tables.exec = Jvm.exec) (hb : c.code = prog_1_method_54_code) (hml : c.maxLocals = 1) (hts : ∀ w ∈ WG, w.before args s = true) (hown : s.vm.findClass "Ballothall" = some m.cls) (hlocks : meth.locks = false) (hA : ∀ q, s.heap.size ≤ q → A q) (hG : KG z s) (hZ : FZ z A s) (hL : Lay E) (hr : meth.sig.returnType = (some .int)) (h : B_errors_j32 E M y0 y1 = some (r, N)) : ∀ (H : Heap) (locs : List Loc) (ls : Array Slot), va_P z.1 classes (wv z ad E M) H → va_D A (wv z ad E M) → va_S A s.heap H locs → lv_has ls 1 [(0, .ref (ad 1))] → W p l e (rmK 6 156 0 0) s m args below meth c H locs 0 0 (MQ below (QK z A (fun _ => some (.int (oI r))) (fun _ => (wv z ad E N))) args s 0 0 A) (F0 m 32 ls [.int (oI y0), .int (oI y1)]) := by
  intro H locs ls hP hD hS hl
  unfold B_errors_j32 at h
  refine lv_iadd hx hb d_1_54_32 ?_
  refine nrm (oI_add _ _) ?_
  refine lv_aload_n hx hb d_1_54_33 rfl (lv_at hl 0 rfl) ?_
  refine m_gr (j := 243) (C := "Ballothall") (T := TX11) (N := 14) (ci := 11) (k := 6) hx hb hts iX11 hown hG hP (yi_1 hL) (yt_1 hL) rfl (by decide) w_403 (fun _ h9 => h9) rfl rfl (yr_1_6 hL) d_1_54_34 ?_
  obtain ⟨⟨r105, M105⟩, g105, h⟩ := bd_e h
  refine kVN (As := []) (rest := [.int (oI (y1 + y0))]) (s_Cl_isOrderMissed l z ad E M r105 M105 hL g105) hx hb hml hown hts w_750 n_747 w_749 w_s_d5ed60 w_11 md_9cd0b2 ⟨Nat.le_of_ble_eq_true rfl, Nat.le_of_ble_eq_true rfl⟩ hG hZ hP hD hS hA 243 (wv_o (ci := 1) (yi_243 hL) (yt_243 hL)) rfl rfl rfl hl.1 rfl (Nat.le_of_ble_eq_true rfl) d_1_54_37 ⟨Nat.le_of_ble_eq_true rfl, Nat.le_of_ble_eq_true rfl⟩ (fun _ H locs hP hD hS => ?_)
  have hP : va_P z.1 classes (wv z ad E M105) H := hP
  have hD : va_D A (wv z ad E M105) := hD
  refine W.eq (g2 := F0 m 40 ls [.int (oI r105), .int (oI (y1 + y0))]) rfl ?_
  obtain ⟨ok106, h⟩ := ck_e h
  refine lv_if_eq (tgt := 47) hx hb d_1_54_40 (by decide) (fun c9 => ?_) (fun c9 => ?_)
  · have h := ite_t ((oI_eq0 ok106).mp c9) h
    refine lv_iconst (v := oI 0) hx hb d_1_54_47 (by decide +kernel) ?_
    refine lv_iadd hx hb d_1_54_48 ?_
    refine nrm (oI_add _ _) ?_
    obtain ⟨rfl, rfl⟩ := in2 h
    exact W.iret hx hb hr (fun t ht hW => qkA hP hD hS (fun k => k) rfl rfl ht) hS.2.2 d_1_54_49
  · have h := ite_f (fun q => c9 ((oI_eq0 ok106).mpr q)) h
    refine lv_iconst (v := oI 1) hx hb d_1_54_43 (by decide +kernel) ?_
    refine lv_goto (tgt := 48) hx hb d_1_54_44 (by decide) ?_
    refine lv_iadd hx hb d_1_54_48 ?_
    refine nrm (oI_add _ _) ?_
    obtain ⟨rfl, rfl⟩ := in2 h
    exact W.iret hx hb hr (fun t ht hW => qkA hP hD hS (fun k => k) rfl rfl ht) hS.2.2 d_1_54_49
set_option maxRecDepth 100000 in
set_option maxHeartbeats 4000000 in
theorem b_B_errors_j15 (l : Launch) (z : Zz) (ad : Nat → Nat) (E : Ev) (M : Mm) (y0 : Int) (r : Int) (N : Mm) {p : Program} {e : Env} {s : State} {m : MethodId} {below : List Frame} {meth : Method} {c : Code} {A : Nat → Prop} {args : Array Value} (hx : p.tables.exec = Jvm.exec) (hb : c.code = prog_1_method_54_code) (hml : c.maxLocals = 1) (hts : ∀ w ∈ WG, w.before args s = true) (hown : s.vm.findClass "Ballothall" = some m.cls) (hlocks : meth.locks = false) (hA : ∀ q, s.heap.size ≤ q → A q) (hG : KG z s) (hZ : FZ z A s) (hL : Lay E) (hr : meth.sig.returnType = (some .int)) (h : B_errors_j15 E M y0 = some (r, N)) : ∀ (H : Heap) (locs : List Loc) (ls : Array Slot), va_P z.1 classes (wv z ad E M) H → va_D A (wv z ad E M) → va_S A s.heap H locs → lv_has ls 1 [(0, .ref (ad 1))] → W p l e (rmK 6 156 0 0) s m args below meth c H locs 0 0 (MQ below (QK z A (fun _ => some (.int (oI r))) (fun _ => (wv z ad E N))) args s 0 0 A) (F0 m 15 ls [.int (oI y0)]) := by
  intro H locs ls hP hD hS hl
  unfold B_errors_j15 at h
  refine lv_aload_n hx hb d_1_54_15 rfl (lv_at hl 0 rfl) ?_
  obtain ⟨⟨r102, M102⟩, g102, h⟩ := bd_e h
  refine kV (As := []) (rest := [.int (oI y0)]) (s_B_countErrors l z ad E M r102 M102 hL g102) hx hb hml hown hts w_592 w_589 w_591 w_s_e1a3ad w_1 md_8ab3bc ⟨Nat.le_of_ble_eq_true rfl, Nat.le_of_ble_eq_true rfl⟩ hG hZ hP hD hS hA 1 (wv_o (ci := 11) (yi_1 hL) (yt_1 hL)) rfl rfl rfl hl.1 rfl (Nat.le_of_ble_eq_true rfl) d_1_54_16 ⟨Nat.le_of_ble_eq_true rfl, Nat.le_of_ble_eq_true rfl⟩ (fun _ H locs hP hD hS => ?_)
  have hP : va_P z.1 classes (wv z ad E M102) H := hP
  have hD : va_D A (wv z ad E M102) := hD
  refine W.eq (g2 := F0 m 19 ls [.int (oI r102), .int (oI y0)]) rfl ?_
  refine lv_iadd hx hb d_1_54_19 ?_
  refine nrm (oI_add _ _) ?_
  refine lv_aload_n hx hb d_1_54_20 rfl (lv_at hl 0 rfl) ?_
  obtain ⟨⟨r103, M103⟩, g103, h⟩ := bd_e h
  refine kV (As := []) (rest := [.int (oI (y0 + r102))]) (s_B_isBeaterOfAllMissed l z ad E M102 r103 M103 hL g103) hx hb hml hown hts w_664 w_661 w_663 w_s_2ec4e5 w_1 md_4ae834 ⟨Nat.le_of_ble_eq_true rfl, Nat.le_of_ble_eq_true rfl⟩ hG hZ hP hD hS hA 1 (wv_o (ci := 11) (yi_1 hL) (yt_1 hL)) rfl rfl rfl hl.1 rfl (Nat.le_of_ble_eq_true rfl) d_1_54_21 ⟨Nat.le_of_ble_eq_true rfl, Nat.le_of_ble_eq_true rfl⟩ (fun _ H locs hP hD hS => ?_)
  have hP : va_P z.1 classes (wv z ad E M103) H := hP
  have hD : va_D A (wv z ad E M103) := hD
  refine W.eq (g2 := F0 m 24 ls [.int (oI r103), .int (oI (y0 + r102))]) rfl ?_
  obtain ⟨ok104, h⟩ := ck_e h
  refine lv_if_eq (tgt := 31) hx hb d_1_54_24 (by decide) (fun c9 => ?_) (fun c9 => ?_)
  · have h := ite_t ((oI_eq0 ok104).mp c9) h
    refine lv_iconst (v := oI 0) hx hb d_1_54_31 (by decide +kernel) ?_
    exact b_B_errors_j32 l z ad E M103 0 (y0 + r102) r N hx hb hml hts hown hlocks hA hG hZ hL hr h H locs ls hP hD hS (lv_sub hl [0] rfl)
  · have h := ite_f (fun q => c9 ((oI_eq0 ok104).mpr q)) h
    refine lv_iconst (v := oI 1) hx hb d_1_54_27 (by decide +kernel) ?_
    refine lv_goto (tgt := 32) hx hb d_1_54_28 (by decide) ?_
    exact b_B_errors_j32 l z ad E M103 1 (y0 + r102) r N hx hb hml hts hown hlocks hA hG hZ hL hr h H locs ls hP hD hS (lv_sub hl [0] rfl)
set_option maxRecDepth 100000 in
set_option maxHeartbeats 4000000 in
theorem s_B_errors (l : Launch) (z : Zz) (ad : Nat → Nat) (E : Ev) (M : Mm) (r : Int) (N : Mm) (hL : Lay E) (h : f_B_errors E M = some (r, N)) : CT l z ⟨"Ballothall", "errors", "()I"⟩ prog_1_method_54_code 1 (some .int) [.ref (ad 1)] (wv z ad E M) 6 156 0 0 (fun _ => some (.int (oI r))) (fun _ => (wv z ad E N)) := by
  refine CT.of (own := "Ballothall") (by decide +kernel) (Nat.le_of_ble_eq_true rfl) rfl (fun p e s m below meth c A ls hx hb hml hr hts hown hlocks hin hA hG hZ hP hD hS hl => ?_)
  have hl : lv_has ls 1 [(0, .ref (ad 1))] := hl
  have key : ∀ (H : Heap) (locs : List Loc) (args : Array Value), (∀ w ∈ WG, w.before args s = true) → va_P z.1 classes (wv z ad E M) H → va_S A s.heap H locs → W p l e (rmK 6 156 0 0) s m args below meth c H locs 0 0 (MQ below (QK z A (fun _ => some (.int (oI r))) (fun _ => (wv z ad E N))) args s 0 0 A) (F0 m 0 ls []) := by
    intro H locs args hts hP hS
    unfold f_B_errors at h
    refine lv_aload_n hx hb d_1_54_0 rfl (lv_at hl 0 rfl) ?_
    refine m_gr (j := 53) (C := "Ballothall") (T := TX11) (N := 14) (ci := 11) (k := 3) hx hb hts iX11 hown hG hP (yi_1 hL) (yt_1 hL) rfl (by decide) w_400 (fun _ h9 => h9) rfl rfl (yr_1_3 hL) d_1_54_1 ?_
    obtain ⟨r100, g100, h⟩ := bd_e h
    refine kVN (As := []) (rest := []) (s_Li_isUnjust l z ad E M r100 hL g100) hx hb hml hown hts w_580 n_577 w_579 w_s_a51fc7 w_5 md_338f64 ⟨Nat.le_of_ble_eq_true rfl, Nat.le_of_ble_eq_true rfl⟩ hG hZ hP hD hS hA 53 (wv_o (ci := 7) (yi_53 hL) (yt_53 hL)) rfl rfl rfl hl.1 rfl (Nat.le_of_ble_eq_true rfl) d_1_54_4 ⟨Nat.le_of_ble_eq_true rfl, Nat.le_of_ble_eq_true rfl⟩ (fun _ H locs hP hD hS => ?_)
    have hP : va_P z.1 classes (wv z ad E M) H := hP
    have hD : va_D A (wv z ad E M) := hD
    refine W.eq (g2 := F0 m 7 ls [.int (oI r100)]) rfl ?_
    obtain ⟨ok101, h⟩ := ck_e h
    refine lv_if_eq (tgt := 14) hx hb d_1_54_7 (by decide) (fun c9 => ?_) (fun c9 => ?_)
    · have h := ite_t ((oI_eq0 ok101).mp c9) h
      refine lv_iconst (v := oI 0) hx hb d_1_54_14 (by decide +kernel) ?_
      exact b_B_errors_j15 l z ad E M 0 r N hx hb hml hts hown hlocks hA hG hZ hL hr h H locs ls hP hD hS (lv_sub hl [0] rfl)
    · have h := ite_f (fun q => c9 ((oI_eq0 ok101).mpr q)) h
      refine lv_iconst (v := oI 1) hx hb d_1_54_10 (by decide +kernel) ?_
      refine lv_goto (tgt := 15) hx hb d_1_54_11 (by decide) ?_
      exact b_B_errors_j15 l z ad E M 1 r N hx hb hml hts hown hlocks hA hG hZ hL hr h H locs ls hP hD hS (lv_sub hl [0] rfl)
  exact key _ _ _ hts hP hS
set_option maxRecDepth 100000 in
set_option maxHeartbeats 4000000 in
theorem s_Li_append (l : Launch) (z : Zz) (ad : Nat → Nat) (E : Ev) (M : Mm) (x1 : Int) (r : Int) (N : Mm) (hL : Lay E) (h : f_Li_append E M x1 = some (r, N)) : CT l z ⟨"Ballothall$Lists", "append", "(I)I"⟩ prog_9_method_2_code 3 (some .int) [.ref (ad 53), .int (oI x1)] (wv z ad E M) 0 20 0 0 (fun _ => some (.int (oI r))) (fun _ => (wv z ad E N)) := by
  refine CT.of (own := "Ballothall$Lists") (by decide +kernel) (Nat.le_of_ble_eq_true rfl) rfl (fun p e s m below meth c A ls hx hb hml hr hts hown hlocks hin hA hG hZ hP hD hS hl => ?_)
  have hl : lv_has ls 3 [(0, .ref (ad 53)), (1, .int (oI x1))] := hl
  have key : ∀ (H : Heap) (locs : List Loc) (args : Array Value), (∀ w ∈ WG, w.before args s = true) → va_P z.1 classes (wv z ad E M) H → va_S A s.heap H locs → W p l e (rmK 0 20 0 0) s m args below meth c H locs 0 0 (MQ below (QK z A (fun _ => some (.int (oI r))) (fun _ => (wv z ad E N))) args s 0 0 A) (F0 m 0 ls []) := by
    intro H locs args hts hP hS
    unfold f_Li_append at h
    refine lv_aload_n hx hb d_9_2_0 rfl (lv_at hl 0 rfl) ?_
    refine m_gi (C := "Ballothall$Lists") (T := TX7) (N := 11) (ci := 7) (k := 0) hx hb hts iX7 hown hG hP (yi_53 hL) (yt_53 hL) rfl (by decide) w_242 (fun _ h9 => h9) rfl rfl d_9_2_1 ?_
    refine lv_istore_n (lv' := [(2, .int (oI (M 53 0))), (0, .ref (ad 53)), (1, .int (oI x1))]) hx hb d_9_2_4 rfl hl (by decide) rfl (fun ls hl => ?_)
    refine lv_aload_n hx hb d_9_2_5 rfl (lv_at hl 1 rfl) ?_
    refine m_gr (j := 54) (C := "Ballothall$Lists") (T := TX7) (N := 11) (ci := 7) (k := 1) hx hb hts iX7 hown hG hP (yi_53 hL) (yt_53 hL) rfl (by decide) w_244 (fun _ h9 => h9) rfl rfl (yr_53_1 hL) d_9_2_6 ?_
    refine lv_iload_n hx hb d_9_2_9 rfl (lv_at hl 0 rfl) ?_
    refine lv_iload_n hx hb d_9_2_10 rfl (lv_at hl 2 rfl) ?_
    obtain ⟨ok100, h⟩ := ck_e h
    refine m_is hx hb hG hP hD hS (yi_54 hL) (yt_54 hL) ok100 d_9_2_11 (fun H locs hP hD hS => ?_)
    have hP : va_P z.1 classes (wv z ad E (u2 M 54 (M 53 0).toNat x1)) H := hP
    have hD : va_D A (wv z ad E (u2 M 54 (M 53 0).toNat x1)) := hD
    refine lv_aload_n hx hb d_9_2_12 rfl (lv_at hl 1 rfl) ?_
    refine m_gr (j := 55) (C := "Ballothall$Lists") (T := TX7) (N := 11) (ci := 7) (k := 2) hx hb hts iX7 hown hG hP (yi_53 hL) (yt_53 hL) rfl (by decide) w_245 (fun _ h9 => h9) rfl rfl (yr_53_2 hL) d_9_2_13 ?_
    refine lv_iload_n hx hb d_9_2_16 rfl (lv_at hl 0 rfl) ?_
    refine lv_iconst (v := oI 0) hx hb d_9_2_17 (by decide +kernel) ?_
    refine m_is hx hb hG hP hD hS (yi_55 hL) (yt_55 hL) ok100 d_9_2_18 (fun H locs hP hD hS => ?_)
    have hP : va_P z.1 classes (wv z ad E (u2 (u2 M 54 (M 53 0).toNat x1) 55 (M 53 0).toNat 0)) H := hP
    have hD : va_D A (wv z ad E (u2 (u2 M 54 (M 53 0).toNat x1) 55 (M 53 0).toNat 0)) := hD
    refine lv_aload_n hx hb d_9_2_19 rfl (lv_at hl 1 rfl) ?_
    refine m_gr (j := 56) (C := "Ballothall$Lists") (T := TX7) (N := 11) (ci := 7) (k := 3) hx hb hts iX7 hown hG hP (yi_53 hL) (yt_53 hL) rfl (by decide) w_247 (fun _ h9 => h9) rfl rfl (yr_53_3 hL) d_9_2_20 ?_
    refine lv_iload_n hx hb d_9_2_23 rfl (lv_at hl 0 rfl) ?_
    refine lv_iload_n hx hb d_9_2_24 rfl (lv_at hl 0 rfl) ?_
    refine m_is hx hb hG hP hD hS (yi_56 hL) (yt_56 hL) ok100 d_9_2_25 (fun H locs hP hD hS => ?_)
    have hP : va_P z.1 classes (wv z ad E (u2 (u2 (u2 M 54 (M 53 0).toNat x1) 55 (M 53 0).toNat 0) 56 (M 53 0).toNat (M 53 0))) H := hP
    have hD : va_D A (wv z ad E (u2 (u2 (u2 M 54 (M 53 0).toNat x1) 55 (M 53 0).toNat 0) 56 (M 53 0).toNat (M 53 0))) := hD
    refine lv_aload_n hx hb d_9_2_26 rfl (lv_at hl 1 rfl) ?_
    refine lv_dup hx hb d_9_2_27 rfl ?_
    refine m_gi (C := "Ballothall$Lists") (T := TX7) (N := 11) (ci := 7) (k := 0) hx hb hts iX7 hown hG hP (yi_53 hL) (yt_53 hL) rfl (by decide) w_242 (fun _ h9 => h9) rfl rfl d_9_2_28 ?_
    refine lv_iconst (v := oI 1) hx hb d_9_2_31 (by decide +kernel) ?_
    refine lv_iadd hx hb d_9_2_32 ?_
    refine nrm (oI_add _ _) ?_
    refine m_pi (C := "Ballothall$Lists") (T := TX7) (N := 11) (ci := 7) (k := 0) (ty := .int) hx hb hts iX7 hown hG hP hD hS (yi_53 hL) (yt_53 hL) rfl (by decide) w_242 (fun _ h9 => h9) rfl rfl tyX7_ok nmX7 rfl (by decide +kernel) rfl rfl d_9_2_33 (fun H locs hP hD hS => ?_)
    have hP : va_P z.1 classes (wv z ad E (u2 (u2 (u2 (u2 M 54 (M 53 0).toNat x1) 55 (M 53 0).toNat 0) 56 (M 53 0).toNat (M 53 0)) 53 0 (((u2 (u2 (u2 M 54 (M 53 0).toNat x1) 55 (M 53 0).toNat 0) 56 (M 53 0).toNat (M 53 0)) 53 0) + 1))) H := hP
    have hD : va_D A (wv z ad E (u2 (u2 (u2 (u2 M 54 (M 53 0).toNat x1) 55 (M 53 0).toNat 0) 56 (M 53 0).toNat (M 53 0)) 53 0 (((u2 (u2 (u2 M 54 (M 53 0).toNat x1) 55 (M 53 0).toNat 0) 56 (M 53 0).toNat (M 53 0)) 53 0) + 1))) := hD
    obtain ⟨M101, e101, h⟩ := nb_e h
    rw [← e101] at hP hD
    refine lv_iload_n hx hb d_9_2_36 rfl (lv_at hl 0 rfl) ?_
    obtain ⟨rfl, rfl⟩ := in2 h
    exact W.iret hx hb hr (fun t ht hW => qkA hP hD hS (fun k => k) rfl rfl ht) hS.2.2 d_9_2_37
  exact key _ _ _ hts hP hS
set_option maxRecDepth 100000 in
set_option maxHeartbeats 4000000 in
theorem s_B_list (l : Launch) (z : Zz) (ad : Nat → Nat) (E : Ev) (M : Mm) (x1 : Int) (r : Int) (N : Mm) (hL : Lay E) (h : f_B_list E M x1 = some (r, N)) : CT l z ⟨"Ballothall", "list", "(I)I"⟩ prog_1_method_10_code 3 (some .int) [.ref (ad 1), .int (oI x1)] (wv z ad E M) 2 63 0 0 (fun _ => some (.int (oI r))) (fun _ => (wv z ad E N)) := by
  refine CT.of (own := "Ballothall") (by decide +kernel) (Nat.le_of_ble_eq_true rfl) rfl (fun p e s m below meth c A ls hx hb hml hr hts hown hlocks hin hA hG hZ hP hD hS hl => ?_)
  have hl : lv_has ls 3 [(0, .ref (ad 1)), (1, .int (oI x1))] := hl
  have key : ∀ (H : Heap) (locs : List Loc) (args : Array Value), (∀ w ∈ WG, w.before args s = true) → va_P z.1 classes (wv z ad E M) H → va_S A s.heap H locs → W p l e (rmK 2 63 0 0) s m args below meth c H locs 0 0 (MQ below (QK z A (fun _ => some (.int (oI r))) (fun _ => (wv z ad E N))) args s 0 0 A) (F0 m 0 ls []) := by
    intro H locs args hts hP hS
    unfold f_B_list at h
    refine lv_iload_n hx hb d_1_10_0 rfl (lv_at hl 1 rfl) ?_
    refine lv_iconst (v := oI 0) hx hb d_1_10_1 (by decide +kernel) ?_
    refine lv_ldc hx hb hown (hts _ w_1512) d_1_10_2 ?_
    refine nrm (x1 := oI 10000000) (by decide +kernel) ?_
    obtain ⟨_, g100, h⟩ := bd_e h
    refine kS (As := [.int (oI x1), .int (oI 0), .int (oI 10000000)]) (rest := []) (s_B_needRange l z ad E M x1 0 10000000 hL g100) hx hb hml hown hts w_548 w_546 w_547 w_1 md_519134 ⟨Nat.le_of_ble_eq_true rfl, Nat.le_of_ble_eq_true rfl⟩ hG hZ hP hD hS hA rfl hl.1 rfl (Nat.le_of_ble_eq_true rfl) d_1_10_4 ⟨Nat.le_of_ble_eq_true rfl, Nat.le_of_ble_eq_true rfl⟩ (fun _ H locs hP hD hS => ?_)
    have hP : va_P z.1 classes (wv z ad E M) H := hP
    have hD : va_D A (wv z ad E M) := hD
    refine W.eq (g2 := F0 m 7 ls []) rfl ?_
    refine lv_aload_n hx hb d_1_10_7 rfl (lv_at hl 0 rfl) ?_
    refine m_gr (j := 53) (C := "Ballothall") (T := TX11) (N := 14) (ci := 11) (k := 3) hx hb hts iX11 hown hG hP (yi_1 hL) (yt_1 hL) rfl (by decide) w_400 (fun _ h9 => h9) rfl rfl (yr_1_3 hL) d_1_10_8 ?_
    refine m_giN (C := "Ballothall$Lists") (T := TX7) (N := 11) (ci := 7) (k := 0) hx hb hts iX7 hown hG hP (yi_53 hL) (yt_53 hL) rfl (by decide) n_243 rfl (fun _ h9 => h9) rfl rfl d_1_10_11 ?_
    refine lv_iconst (v := oI 1) hx hb d_1_10_14 (by decide +kernel) ?_
    refine lv_iadd hx hb d_1_10_15 ?_
    refine nrm (oI_add _ _) ?_
    refine lv_bipush (v := oI 8) hx hb d_1_10_16 (by decide +kernel) ?_
    obtain ⟨_, g101, h⟩ := bd_e h
    refine kS (As := [.int (oI ((M 53 0) + 1)), .int (oI 8)]) (rest := []) (s_B_needRoom l z ad E M ((M 53 0) + 1) 8 hL g101) hx hb hml hown hts w_446 w_444 w_445 w_1 md_ec9fa9 ⟨Nat.le_of_ble_eq_true rfl, Nat.le_of_ble_eq_true rfl⟩ hG hZ hP hD hS hA rfl hl.1 rfl (Nat.le_of_ble_eq_true rfl) d_1_10_18 ⟨Nat.le_of_ble_eq_true rfl, Nat.le_of_ble_eq_true rfl⟩ (fun _ H locs hP hD hS => ?_)
    have hP : va_P z.1 classes (wv z ad E M) H := hP
    have hD : va_D A (wv z ad E M) := hD
    refine W.eq (g2 := F0 m 21 ls []) rfl ?_
    refine lv_aload_n hx hb d_1_10_21 rfl (lv_at hl 0 rfl) ?_
    refine m_gr (j := 53) (C := "Ballothall") (T := TX11) (N := 14) (ci := 11) (k := 3) hx hb hts iX11 hown hG hP (yi_1 hL) (yt_1 hL) rfl (by decide) w_400 (fun _ h9 => h9) rfl rfl (yr_1_3 hL) d_1_10_22 ?_
    refine lv_iload_n hx hb d_1_10_25 rfl (lv_at hl 1 rfl) ?_
    obtain ⟨⟨r102, M102⟩, g102, h⟩ := bd_e h
    refine kVN (As := [.int (oI x1)]) (rest := []) (s_Li_append l z ad E M x1 r102 M102 hL g102) hx hb hml hown hts w_1516 n_1513 w_1515 w_s_e9d9cd w_5 md_b749d4 ⟨Nat.le_of_ble_eq_true rfl, Nat.le_of_ble_eq_true rfl⟩ hG hZ hP hD hS hA 53 (wv_o (ci := 7) (yi_53 hL) (yt_53 hL)) rfl rfl rfl hl.1 rfl (Nat.le_of_ble_eq_true rfl) d_1_10_26 ⟨Nat.le_of_ble_eq_true rfl, Nat.le_of_ble_eq_true rfl⟩ (fun _ H locs hP hD hS => ?_)
    have hP : va_P z.1 classes (wv z ad E M102) H := hP
    have hD : va_D A (wv z ad E M102) := hD
    refine W.eq (g2 := F0 m 29 ls [.int (oI r102)]) rfl ?_
    refine lv_istore_n (lv' := [(2, .int (oI r102)), (0, .ref (ad 1)), (1, .int (oI x1))]) hx hb d_1_10_29 rfl hl (by decide) rfl (fun ls hl => ?_)
    refine lv_aload_n hx hb d_1_10_30 rfl (lv_at hl 1 rfl) ?_
    refine lv_iconst (v := oI 5) hx hb d_1_10_31 (by decide +kernel) ?_
    refine lv_iload_n hx hb d_1_10_32 rfl (lv_at hl 0 rfl) ?_
    refine lv_iconst (v := oI 0) hx hb d_1_10_33 (by decide +kernel) ?_
    obtain ⟨M103, g103, h⟩ := bd_e h
    refine kV (As := [.int (oI 5), .int (oI r102), .int (oI 0)]) (rest := []) (s_B_remember l z ad E M102 5 r102 0 M103 hL g103) hx hb hml hown hts w_519 w_516 w_518 w_s_b872b3 w_1 md_7af0bb ⟨Nat.le_of_ble_eq_true rfl, Nat.le_of_ble_eq_true rfl⟩ hG hZ hP hD hS hA 1 (wv_o (ci := 11) (yi_1 hL) (yt_1 hL)) rfl rfl rfl hl.1 rfl (Nat.le_of_ble_eq_true rfl) d_1_10_34 ⟨Nat.le_of_ble_eq_true rfl, Nat.le_of_ble_eq_true rfl⟩ (fun _ H locs hP hD hS => ?_)
    have hP : va_P z.1 classes (wv z ad E M103) H := hP
    have hD : va_D A (wv z ad E M103) := hD
    refine W.eq (g2 := F0 m 37 ls []) rfl ?_
    refine lv_iload_n hx hb d_1_10_37 rfl (lv_at hl 0 rfl) ?_
    obtain ⟨rfl, rfl⟩ := in2 h
    exact W.iret hx hb hr (fun t ht hW => qkA hP hD hS (fun k => k) rfl rfl ht) hS.2.2 d_1_10_38
  exact key _ _ _ hts hP hS
set_option maxRecDepth 100000 in
set_option maxHeartbeats 4000000 in
theorem s_Di_clear (l : Launch) (z : Zz) (ad : Nat → Nat) (E : Ev) (M : Mm) (p0 : Nat) (N : Mm) (hL : Lay E) (h : f_Di_clear E M p0 = some N) : CT l z ⟨"Ballothall$Division", "clear", "()V"⟩ prog_6_method_2_code 1 none [.ref (ad p0)] (wv z ad E M) 0 20 0 0 (fun _ => none) (fun _ => (wv z ad E N)) := by
  refine CT.of (own := "Ballothall$Division") (by decide +kernel) (Nat.le_of_ble_eq_true rfl) rfl (fun p e s m below meth c A ls hx hb hml hr hts hown hlocks hin hA hG hZ hP hD hS hl => ?_)
  have hl : lv_has ls 1 [(0, .ref (ad p0))] := hl
  have key : ∀ (H : Heap) (locs : List Loc) (args : Array Value), (∀ w ∈ WG, w.before args s = true) → va_P z.1 classes (wv z ad E M) H → va_S A s.heap H locs → W p l e (rmK 0 20 0 0) s m args below meth c H locs 0 0 (MQ below (QK z A (fun _ => none) (fun _ => (wv z ad E N))) args s 0 0 A) (F0 m 0 ls []) := by
    intro H locs args hts hP hS
    unfold f_Di_clear at h
    obtain ⟨h_p0, h⟩ := ck_e h
    refine lv_aload_n hx hb d_6_2_0 rfl (lv_at hl 0 rfl) ?_
    refine lv_iconst (v := oI 0) hx hb d_6_2_1 (by decide +kernel) ?_
    refine m_pi (C := "Ballothall$Division") (T := TX4) (N := 8) (ci := 4) (k := 0) (ty := .int) hx hb hts iX4 hown hG hP hD hS (isDi_i h_p0) (isDi_T h_p0) rfl (by decide) w_175 (fun _ h9 => h9) rfl rfl tyX4_ok nmX4 rfl (by decide +kernel) rfl rfl d_6_2_2 (fun H locs hP hD hS => ?_)
    have hP : va_P z.1 classes (wv z ad E (u2 M p0 0 0)) H := hP
    have hD : va_D A (wv z ad E (u2 M p0 0 0)) := hD
    refine lv_aload_n hx hb d_6_2_5 rfl (lv_at hl 0 rfl) ?_
    refine lv_iconst (v := oI 0) hx hb d_6_2_6 (by decide +kernel) ?_
    refine m_pi (C := "Ballothall$Division") (T := TX4) (N := 8) (ci := 4) (k := 1) (ty := .int) hx hb hts iX4 hown hG hP hD hS (isDi_i h_p0) (isDi_T h_p0) rfl (by decide) w_177 (fun _ h9 => h9) rfl rfl tyX4_ok nmX4 rfl (by decide +kernel) rfl rfl d_6_2_7 (fun H locs hP hD hS => ?_)
    have hP : va_P z.1 classes (wv z ad E (u2 (u2 M p0 0 0) p0 1 0)) H := hP
    have hD : va_D A (wv z ad E (u2 (u2 M p0 0 0) p0 1 0)) := hD
    obtain rfl := in1 h
    exact W.vret hx hb hr (fun t ht hW => qkA hP hD hS (fun k => k) rfl rfl ht) hS.2.2 d_6_2_10
  exact key _ _ _ hts hP hS
set_option maxRecDepth 100000 in
set_option maxHeartbeats 4000000 in
theorem s_Li_isSameUnit (l : Launch) (z : Zz) (ad : Nat → Nat) (E : Ev) (M : Mm) (x1 : Int) (x2 : Int) (r : Int)  (hL : Lay E) (h : f_Li_isSameUnit E M x1 x2 = some r) : CT l z ⟨"Ballothall$Lists", "isSameUnit", "(II)Z"⟩ prog_9_method_4_code 3 (some .boolean) [.ref (ad 53), .int (oI x1), .int (oI x2)] (wv z ad E M) 0 20 0 0 (fun _ => some (.int (oI r))) (fun _ => (wv z ad E M)) := by
  refine CT.of (own := "Ballothall$Lists") (by decide +kernel) (Nat.le_of_ble_eq_true rfl) rfl (fun p e s m below meth c A ls hx hb hml hr hts hown hlocks hin hA hG hZ hP hD hS hl => ?_)
  have hl : lv_has ls 3 [(0, .ref (ad 53)), (1, .int (oI x1)), (2, .int (oI x2))] := hl
  have key : ∀ (H : Heap) (locs : List Loc) (args : Array Value), (∀ w ∈ WG, w.before args s = true) → va_P z.1 classes (wv z ad E M) H → va_S A s.heap H locs → W p l e (rmK 0 20 0 0) s m args below meth c H locs 0 0 (MQ below (QK z A (fun _ => some (.int (oI r))) (fun _ => (wv z ad E M))) args s 0 0 A) (F0 m 0 ls []) := by
    intro H locs args hts hP hS
    unfold f_Li_isSameUnit at h
    refine lv_iload_n hx hb d_9_4_0 rfl (lv_at hl 1 rfl) ?_
    refine lv_iload_n hx hb d_9_4_1 rfl (lv_at hl 2 rfl) ?_
    obtain ⟨ok100, h⟩ := ck_e h
    obtain ⟨ok101, h⟩ := ck_e h
    refine lv_icmp_eq (tgt := 29) hx hb d_9_4_2 (by decide) (fun c9 => ?_) (fun c9 => ?_)
    · have h := ite_t ((oI_eq (a := x1) (b := x2) ok100 ok101).mp c9) h
      refine lv_iconst (v := oI 1) hx hb d_9_4_29 (by decide +kernel) ?_
      refine lv_goto (tgt := 34) hx hb d_9_4_30 (by decide) ?_
      obtain rfl := in1 h
      exact W.zret hx hb hr rfl (fun t ht hW => qkA hP hD hS (fun k => k) rfl rfl ht) hS.2.2 d_9_4_34
    · have h := ite_f (fun q => c9 ((oI_eq (a := x1) (b := x2) ok100 ok101).mpr q)) h
      refine lv_aload_n hx hb d_9_4_5 rfl (lv_at hl 0 rfl) ?_
      refine m_gr (j := 55) (C := "Ballothall$Lists") (T := TX7) (N := 11) (ci := 7) (k := 2) hx hb hts iX7 hown hG hP (yi_53 hL) (yt_53 hL) rfl (by decide) w_245 (fun _ h9 => h9) rfl rfl (yr_53_2 hL) d_9_4_6 ?_
      refine lv_iload_n hx hb d_9_4_9 rfl (lv_at hl 1 rfl) ?_
      obtain ⟨ok102, h⟩ := ck_e h
      refine m_ia hx hb hG hP (yi_55 hL) (yt_55 hL) ok102 d_9_4_10 ?_
      obtain ⟨ok103, h⟩ := ck_e h
      refine lv_if_le (tgt := 33) hx hb d_9_4_11 (by decide) (fun c9 => ?_) (fun c9 => ?_)
      · have h := ite_t ((oI_le0 ok103).mp c9) h
        refine lv_iconst (v := oI 0) hx hb d_9_4_33 (by decide +kernel) ?_
        obtain rfl := in1 h
        exact W.zret hx hb hr rfl (fun t ht hW => qkA hP hD hS (fun k => k) rfl rfl ht) hS.2.2 d_9_4_34
      · have h := ite_f (fun q => c9 ((oI_le0 ok103).mpr q)) h
        refine lv_aload_n hx hb d_9_4_14 rfl (lv_at hl 0 rfl) ?_
        refine m_gr (j := 55) (C := "Ballothall$Lists") (T := TX7) (N := 11) (ci := 7) (k := 2) hx hb hts iX7 hown hG hP (yi_53 hL) (yt_53 hL) rfl (by decide) w_245 (fun _ h9 => h9) rfl rfl (yr_53_2 hL) d_9_4_15 ?_
        refine lv_iload_n hx hb d_9_4_18 rfl (lv_at hl 1 rfl) ?_
        refine m_ia hx hb hG hP (yi_55 hL) (yt_55 hL) ok102 d_9_4_19 ?_
        refine lv_aload_n hx hb d_9_4_20 rfl (lv_at hl 0 rfl) ?_
        refine m_gr (j := 55) (C := "Ballothall$Lists") (T := TX7) (N := 11) (ci := 7) (k := 2) hx hb hts iX7 hown hG hP (yi_53 hL) (yt_53 hL) rfl (by decide) w_245 (fun _ h9 => h9) rfl rfl (yr_53_2 hL) d_9_4_21 ?_
        refine lv_iload_n hx hb d_9_4_24 rfl (lv_at hl 2 rfl) ?_
        obtain ⟨ok104, h⟩ := ck_e h
        refine m_ia hx hb hG hP (yi_55 hL) (yt_55 hL) ok104 d_9_4_25 ?_
        obtain ⟨ok105, h⟩ := ck_e h
        refine lv_icmp_ne (tgt := 33) hx hb d_9_4_26 (by decide) (fun c9 => ?_) (fun c9 => ?_)
        · have h := ite_f (fun q => c9 ((oI_eq (a := (M 55 x1.toNat)) (b := (M 55 x2.toNat)) ok103 ok105).mpr q)) h
          refine lv_iconst (v := oI 0) hx hb d_9_4_33 (by decide +kernel) ?_
          obtain rfl := in1 h
          exact W.zret hx hb hr rfl (fun t ht hW => qkA hP hD hS (fun k => k) rfl rfl ht) hS.2.2 d_9_4_34
        · have h := ite_t ((oI_eq (a := (M 55 x1.toNat)) (b := (M 55 x2.toNat)) ok103 ok105).mp c9) h
          refine lv_iconst (v := oI 1) hx hb d_9_4_29 (by decide +kernel) ?_
          refine lv_goto (tgt := 34) hx hb d_9_4_30 (by decide) ?_
          obtain rfl := in1 h
          exact W.zret hx hb hr rfl (fun t ht hW => qkA hP hD hS (fun k => k) rfl rfl ht) hS.2.2 d_9_4_34
  exact key _ _ _ hts hP hS
set_option maxRecDepth 100000 in
set_option maxHeartbeats 4000000 in
theorem b_Li_isFirstOfUnit_2b (l : Launch) (z : Zz) (ad : Nat → Nat) (E : Ev) (M : Mm) (x1 : Int) (x2 : Int) (t : Nat) (w2 : Int)  {Q : State → Prop} {p : Program} {e : Env} {s : State} {m : MethodId} {below : List Frame} {meth : Method} {c : Code} {A : Nat → Prop} {args : Array Value} (hx : p.tables.exec = Jvm.exec) (hb : c.code = prog_9_method_6_code) (hml : c.maxLocals = 3) (hts : ∀ w ∈ WG, w.before args s = true) (hown : s.vm.findClass "Ballothall$Lists" = some m.cls) (hlocks : meth.locks = false) (hA : ∀ q, s.heap.size ≤ q → A q) (hG : KG z s) (hZ : FZ z A s) (hL : Lay E) (h : Li_isFirstOfUnit_2b E M x1 x2 = some (t, w2)) (k0 : t = 0 → ∀ (H : Heap) (locs : List Loc) (ls : Array Slot), va_P z.1 classes (wv z ad E M) H → va_D A (wv z ad E M) → va_S A s.heap H locs → lv_has ls 3 [(0, .ref (ad 53)), (1, .int (oI x1)), (2, .int (oI w2))] → W p l e (rmK 1 42 0 0) s m args below meth c H locs 0 0 Q (F0 m 2 ls [])) (k1 : t = 1 → ∀ (H : Heap) (locs : List Loc) (ls : Array Slot), va_P z.1 classes (wv z ad E M) H → va_D A (wv z ad E M) → va_S A s.heap H locs → lv_has ls 3 [] → W p l e (rmK 1 42 0 0) s m args below meth c H locs 0 0 Q (F0 m 16 ls [])) (k2 : t = 2 → ∀ (H : Heap) (locs : List Loc) (ls : Array Slot), va_P z.1 classes (wv z ad E M) H → va_D A (wv z ad E M) → va_S A s.heap H locs → lv_has ls 3 [] → W p l e (rmK 1 42 0 0) s m args below meth c H locs 0 0 Q (F0 m 24 ls [])) : ∀ (H : Heap) (locs : List Loc) (ls : Array Slot), va_P z.1 classes (wv z ad E M) H → va_D A (wv z ad E M) → va_S A s.heap H locs → lv_has ls 3 [(0, .ref (ad 53)), (1, .int (oI x1)), (2, .int (oI x2))] → W p l e (rmK 1 42 0 0) s m args below meth c H locs 0 0 Q (F0 m 2 ls []) := by
  intro H locs ls hP hD hS hl
  unfold Li_isFirstOfUnit_2b at h
  refine lv_iload_n hx hb d_9_6_2 rfl (lv_at hl 2 rfl) ?_
  refine lv_iload_n hx hb d_9_6_3 rfl (lv_at hl 1 rfl) ?_
  obtain ⟨ok100, h⟩ := ck_e h
  obtain ⟨ok101, h⟩ := ck_e h
  refine lv_icmp_ge (tgt := 24) hx hb d_9_6_4 (by decide) (fun c9 => ?_) (fun c9 => ?_)
  · have h := ite_t ((oI_le (a := x1) (b := x2) ok101 ok100).mp c9) h
    obtain ⟨rfl, rfl⟩ := in2 h
    exact k2 rfl H locs ls hP hD hS (lv_sub hl [] rfl)
  · have h := ite_f (fun q => c9 ((oI_le (a := x1) (b := x2) ok101 ok100).mpr q)) h
    refine lv_aload_n hx hb d_9_6_7 rfl (lv_at hl 0 rfl) ?_
    refine lv_iload_n hx hb d_9_6_8 rfl (lv_at hl 1 rfl) ?_
    refine lv_iload_n hx hb d_9_6_9 rfl (lv_at hl 2 rfl) ?_
    obtain ⟨r102, g102, h⟩ := bd_e h
    refine kV (As := [.int (oI x1), .int (oI x2)]) (rest := []) (s_Li_isSameUnit l z ad E M x1 x2 r102 hL g102) hx hb hml hown hts w_1536 w_1533 w_1535 w_s_191f81 w_5 md_6c3977 ⟨Nat.le_of_ble_eq_true rfl, Nat.le_of_ble_eq_true rfl⟩ hG hZ hP hD hS hA 53 (wv_o (ci := 7) (yi_53 hL) (yt_53 hL)) rfl rfl rfl hl.1 rfl (Nat.le_of_ble_eq_true rfl) d_9_6_10 ⟨Nat.le_of_ble_eq_true rfl, Nat.le_of_ble_eq_true rfl⟩ (fun _ H locs hP hD hS => ?_)
    have hP : va_P z.1 classes (wv z ad E M) H := hP
    have hD : va_D A (wv z ad E M) := hD
    refine W.eq (g2 := F0 m 13 ls [.int (oI r102)]) rfl ?_
    obtain ⟨ok103, h⟩ := ck_e h
    refine lv_if_eq (tgt := 18) hx hb d_9_6_13 (by decide) (fun c9 => ?_) (fun c9 => ?_)
    · have h := ite_t ((oI_eq0 ok103).mp c9) h
      refine lv_iinc (v := oI (x2 + 1)) (lv' := [(2, .int (oI (x2 + 1))), (0, .ref (ad 53)), (1, .int (oI x1))]) hx hb d_9_6_18 hl (k := 2) rfl (oI_add x2 1) (by decide) rfl (fun ls hl => ?_)
      refine lv_goto (tgt := 2) hx hb d_9_6_21 (by decide) ?_
      obtain ⟨rfl, rfl⟩ := in2 h
      exact k0 rfl H locs ls hP hD hS (lv_sub hl [1, 2, 0] rfl)
    · have h := ite_f (fun q => c9 ((oI_eq0 ok103).mpr q)) h
      obtain ⟨rfl, rfl⟩ := in2 h
      exact k1 rfl H locs ls hP hD hS (lv_sub hl [] rfl)
set_option maxRecDepth 100000 in
set_option maxHeartbeats 4000000 in
theorem s_Li_isFirstOfUnit_2 (l : Launch) (z : Zz) (ad : Nat → Nat) (E : Ev) (x1 : Int) {Q : State → Prop} {p : Program} {e : Env} {s : State} {m : MethodId} {below : List Frame} {meth : Method} {c : Code} {A : Nat → Prop} {args : Array Value} (hx : p.tables.exec = Jvm.exec) (hb : c.code = prog_9_method_6_code) (hml : c.maxLocals = 3) (hts : ∀ w ∈ WG, w.before args s = true) (hown : s.vm.findClass "Ballothall$Lists" = some m.cls) (hlocks : meth.locks = false) (hA : ∀ q, s.heap.size ≤ q → A q) (hG : KG z s) (hZ : FZ z A s) (hL : Lay E) : ∀ (fu : Nat) (M : Mm) (x2 : Int) (t : Nat) (w2 : Int), l_Li_isFirstOfUnit_2 E x1 fu M x2 = some (t, w2) → (t = 1 → ∀ (H : Heap) (locs : List Loc) (ls : Array Slot), va_P z.1 classes (wv z ad E M) H → va_D A (wv z ad E M) → va_S A s.heap H locs → lv_has ls 3 [] → W p l e (rmK 1 42 0 0) s m args below meth c H locs 0 0 Q (F0 m 16 ls [])) → (t = 2 → ∀ (H : Heap) (locs : List Loc) (ls : Array Slot), va_P z.1 classes (wv z ad E M) H → va_D A (wv z ad E M) → va_S A s.heap H locs → lv_has ls 3 [] → W p l e (rmK 1 42 0 0) s m args below meth c H locs 0 0 Q (F0 m 24 ls [])) → ∀ (H : Heap) (locs : List Loc) (ls : Array Slot), va_P z.1 classes (wv z ad E M) H → va_D A (wv z ad E M) → va_S A s.heap H locs → lv_has ls 3 [(0, .ref (ad 53)), (1, .int (oI x1)), (2, .int (oI x2))] → W p l e (rmK 1 42 0 0) s m args below meth c H locs 0 0 Q (F0 m 2 ls []) := by
  intro fu
  induction fu with
  | zero =>
    intro M x2 t w2 h
    have h : (none : Option (Nat × Int)) = some _ := h
    cases h
  | succ fu ih =>
    intro M x2 t w2 h k1 k2 H locs ls hP hD hS hl
    obtain ⟨⟨t0, w20⟩, g0, h⟩ := bd_e h
    refine b_Li_isFirstOfUnit_2b l z ad E M x1 x2 t0 w20 hx hb hml hts hown hlocks hA hG hZ hL g0 (fun e0 => ?_) (fun e0 => ?_) (fun e0 => ?_) H locs ls hP hD hS hl
    · subst e0
      have h := ite_t rfl h
      exact ih M w20 t w2 h k1 k2
    · subst e0
      have h := ite_f (by decide) h
      obtain ⟨rfl, rfl⟩ := in2 h
      exact k1 rfl
    · subst e0
      have h := ite_f (by decide) h
      obtain ⟨rfl, rfl⟩ := in2 h
      exact k2 rfl
set_option maxRecDepth 100000 in
set_option maxHeartbeats 4000000 in
theorem s_Li_isFirstOfUnit (l : Launch) (z : Zz) (ad : Nat → Nat) (E : Ev) (M : Mm) (x1 : Int) (r : Int)  (hL : Lay E) (h : f_Li_isFirstOfUnit E M x1 = some r) : CT l z ⟨"Ballothall$Lists", "isFirstOfUnit", "(I)Z"⟩ prog_9_method_6_code 3 (some .boolean) [.ref (ad 53), .int (oI x1)] (wv z ad E M) 1 42 0 0 (fun _ => some (.int (oI r))) (fun _ => (wv z ad E M)) := by
  refine CT.of (own := "Ballothall$Lists") (by decide +kernel) (Nat.le_of_ble_eq_true rfl) rfl (fun p e s m below meth c A ls hx hb hml hr hts hown hlocks hin hA hG hZ hP hD hS hl => ?_)
  have hl : lv_has ls 3 [(0, .ref (ad 53)), (1, .int (oI x1))] := hl
  have key : ∀ (H : Heap) (locs : List Loc) (args : Array Value), (∀ w ∈ WG, w.before args s = true) → va_P z.1 classes (wv z ad E M) H → va_S A s.heap H locs → W p l e (rmK 1 42 0 0) s m args below meth c H locs 0 0 (MQ below (QK z A (fun _ => some (.int (oI r))) (fun _ => (wv z ad E M))) args s 0 0 A) (F0 m 0 ls []) := by
    intro H locs args hts hP hS
    unfold f_Li_isFirstOfUnit at h
    refine lv_iconst (v := oI 0) hx hb d_9_6_0 (by decide +kernel) ?_
    refine lv_istore_n (lv' := [(2, .int (oI 0)), (0, .ref (ad 53)), (1, .int (oI x1))]) hx hb d_9_6_1 rfl hl (by decide) rfl (fun ls hl => ?_)
    obtain ⟨⟨t104, v104_2⟩, g104, h⟩ := bd_e h
    refine s_Li_isFirstOfUnit_2 l z ad E x1 hx hb hml hts hown hlocks hA hG hZ hL FU M 0 t104 v104_2 g104 (fun e104 H locs ls hP hD hS hl => ?_) (fun e104 H locs ls hP hD hS hl => ?_) H locs ls hP hD hS (lv_sub hl [1, 2, 0] rfl)
    · subst e104
      have h := ite_t rfl h
      refine lv_iconst (v := oI 0) hx hb d_9_6_16 (by decide +kernel) ?_
      obtain rfl := in1 h
      exact W.zret hx hb hr rfl (fun t ht hW => qkA hP hD hS (fun k => k) rfl rfl ht) hS.2.2 d_9_6_17
    · subst e104
      have h := ite_f (by decide) h
      have h := ite_t rfl h
      refine lv_iconst (v := oI 1) hx hb d_9_6_24 (by decide +kernel) ?_
      obtain rfl := in1 h
      exact W.zret hx hb hr rfl (fun t ht hW => qkA hP hD hS (fun k => k) rfl rfl ht) hS.2.2 d_9_6_25
  exact key _ _ _ hts hP hS
set_option maxRecDepth 100000 in
set_option maxHeartbeats 4000000 in
theorem s_Di_append (l : Launch) (z : Zz) (ad : Nat → Nat) (E : Ev) (M : Mm) (p0 : Nat) (x1 : Int) (x2 : Int) (x4 : Int) (N : Mm) (hL : Lay E) (h : f_Di_append E M p0 x1 x2 x4 = some N) : CT l z ⟨"Ballothall$Division", "append", "(IJI)V"⟩ prog_6_method_3_code 5 none [.ref (ad p0), .int (oI x1), .long (oJ x2), .int (oI x4)] (wv z ad E M) 0 20 0 0 (fun _ => none) (fun _ => (wv z ad E N)) := by
  refine CT.of (own := "Ballothall$Division") (by decide +kernel) (Nat.le_of_ble_eq_true rfl) rfl (fun p e s m below meth c A ls hx hb hml hr hts hown hlocks hin hA hG hZ hP hD hS hl => ?_)
  have hl : lv_has ls 5 [(0, .ref (ad p0)), (1, .int (oI x1)), (2, .long (oJ x2)), (4, .int (oI x4))] := hl
  have key : ∀ (H : Heap) (locs : List Loc) (args : Array Value), (∀ w ∈ WG, w.before args s = true) → va_P z.1 classes (wv z ad E M) H → va_S A s.heap H locs → W p l e (rmK 0 20 0 0) s m args below meth c H locs 0 0 (MQ below (QK z A (fun _ => none) (fun _ => (wv z ad E N))) args s 0 0 A) (F0 m 0 ls []) := by
    intro H locs args hts hP hS
    unfold f_Di_append at h
    obtain ⟨h_p0, h⟩ := ck_e h
    refine lv_aload_n hx hb d_6_3_0 rfl (lv_at hl 0 rfl) ?_
    refine m_gi (C := "Ballothall$Division") (T := TX4) (N := 8) (ci := 4) (k := 0) hx hb hts iX4 hown hG hP (isDi_i h_p0) (isDi_T h_p0) rfl (by decide) w_175 (fun _ h9 => h9) rfl rfl d_6_3_1 ?_
    refine lv_bipush (v := oI 8) hx hb d_6_3_4 (by decide +kernel) ?_
    obtain ⟨ok100, h⟩ := ck_e h
    refine lv_icmp_ge (tgt := 60) hx hb d_6_3_6 (by decide) (fun c9 => ?_) (fun c9 => ?_)
    · have h := ite_t ((oI_le (a := (8 : Int)) (b := (M p0 0)) (by decide) ok100).mp c9) h
      obtain rfl := in1 h
      exact W.vret hx hb hr (fun t ht hW => qkA hP hD hS (fun k => k) rfl rfl ht) hS.2.2 d_6_3_60
    · have h := ite_f (fun q => c9 ((oI_le (a := (8 : Int)) (b := (M p0 0)) (by decide) ok100).mpr q)) h
      refine lv_aload_n hx hb d_6_3_9 rfl (lv_at hl 0 rfl) ?_
      refine m_gr (j := (p0 + 1)) (C := "Ballothall$Division") (T := TX4) (N := 8) (ci := 4) (k := 2) hx hb hts iX4 hown hG hP (isDi_i h_p0) (isDi_T h_p0) rfl (by decide) w_179 (fun _ h9 => h9) rfl rfl (isDi_r2 h_p0) d_6_3_10 ?_
      refine lv_aload_n hx hb d_6_3_13 rfl (lv_at hl 0 rfl) ?_
      refine m_gi (C := "Ballothall$Division") (T := TX4) (N := 8) (ci := 4) (k := 0) hx hb hts iX4 hown hG hP (isDi_i h_p0) (isDi_T h_p0) rfl (by decide) w_175 (fun _ h9 => h9) rfl rfl d_6_3_14 ?_
      refine lv_iload_n hx hb d_6_3_17 rfl (lv_at hl 1 rfl) ?_
      obtain ⟨ok101, h⟩ := ck_e h
      refine m_is hx hb hG hP hD hS (isDi_i1 h_p0) (isDi_t1 h_p0) ok101 d_6_3_18 (fun H locs hP hD hS => ?_)
      have hP : va_P z.1 classes (wv z ad E (u2 M (p0 + 1) (M p0 0).toNat x1)) H := hP
      have hD : va_D A (wv z ad E (u2 M (p0 + 1) (M p0 0).toNat x1)) := hD
      refine lv_aload_n hx hb d_6_3_19 rfl (lv_at hl 0 rfl) ?_
      refine m_gr (j := (p0 + 2)) (C := "Ballothall$Division") (T := TX4) (N := 8) (ci := 4) (k := 3) hx hb hts iX4 hown hG hP (isDi_i h_p0) (isDi_T h_p0) rfl (by decide) w_181 (fun _ h9 => h9) rfl rfl (isDi_r3 h_p0) d_6_3_20 ?_
      refine lv_aload_n hx hb d_6_3_23 rfl (lv_at hl 0 rfl) ?_
      refine m_gi (C := "Ballothall$Division") (T := TX4) (N := 8) (ci := 4) (k := 0) hx hb hts iX4 hown hG hP (isDi_i h_p0) (isDi_T h_p0) rfl (by decide) w_175 (fun _ h9 => h9) rfl rfl d_6_3_24 ?_
      refine lv_lload_n hx hb d_6_3_27 rfl (lv_at hl 2 rfl) ?_
      obtain ⟨ok102, h⟩ := ck_e h
      refine m_ls hx hb hG hP hD hS (isDi_i2 h_p0) (isDi_t2 h_p0) ok102 d_6_3_28 (fun H locs hP hD hS => ?_)
      have hP : va_P z.1 classes (wv z ad E (u2 (u2 M (p0 + 1) (M p0 0).toNat x1) (p0 + 2) ((u2 M (p0 + 1) (M p0 0).toNat x1) p0 0).toNat x2)) H := hP
      have hD : va_D A (wv z ad E (u2 (u2 M (p0 + 1) (M p0 0).toNat x1) (p0 + 2) ((u2 M (p0 + 1) (M p0 0).toNat x1) p0 0).toNat x2)) := hD
      obtain ⟨M103, e103, h⟩ := nb_e h
      rw [← e103] at hP hD
      refine lv_aload_n hx hb d_6_3_29 rfl (lv_at hl 0 rfl) ?_
      refine m_gr (j := (p0 + 3)) (C := "Ballothall$Division") (T := TX4) (N := 8) (ci := 4) (k := 4) hx hb hts iX4 hown hG hP (isDi_i h_p0) (isDi_T h_p0) rfl (by decide) w_182 (fun _ h9 => h9) rfl rfl (isDi_r4 h_p0) d_6_3_30 ?_
      refine lv_aload_n hx hb d_6_3_33 rfl (lv_at hl 0 rfl) ?_
      refine m_gi (C := "Ballothall$Division") (T := TX4) (N := 8) (ci := 4) (k := 0) hx hb hts iX4 hown hG hP (isDi_i h_p0) (isDi_T h_p0) rfl (by decide) w_175 (fun _ h9 => h9) rfl rfl d_6_3_34 ?_
      refine lv_iload hx hb d_6_3_37 (lv_at hl 3 rfl) ?_
      obtain ⟨ok104, h⟩ := ck_e h
      refine m_is hx hb hG hP hD hS (isDi_i3 h_p0) (isDi_t3 h_p0) ok104 d_6_3_39 (fun H locs hP hD hS => ?_)
      have hP : va_P z.1 classes (wv z ad E (u2 M103 (p0 + 3) (M103 p0 0).toNat x4)) H := hP
      have hD : va_D A (wv z ad E (u2 M103 (p0 + 3) (M103 p0 0).toNat x4)) := hD
      refine lv_aload_n hx hb d_6_3_40 rfl (lv_at hl 0 rfl) ?_
      refine m_gr (j := (p0 + 4)) (C := "Ballothall$Division") (T := TX4) (N := 8) (ci := 4) (k := 5) hx hb hts iX4 hown hG hP (isDi_i h_p0) (isDi_T h_p0) rfl (by decide) w_183 (fun _ h9 => h9) rfl rfl (isDi_r5 h_p0) d_6_3_41 ?_
      refine lv_aload_n hx hb d_6_3_44 rfl (lv_at hl 0 rfl) ?_
      refine m_gi (C := "Ballothall$Division") (T := TX4) (N := 8) (ci := 4) (k := 0) hx hb hts iX4 hown hG hP (isDi_i h_p0) (isDi_T h_p0) rfl (by decide) w_175 (fun _ h9 => h9) rfl rfl d_6_3_45 ?_
      refine lv_iconst (v := oI 0) hx hb d_6_3_48 (by decide +kernel) ?_
      obtain ⟨ok105, h⟩ := ck_e h
      refine m_is hx hb hG hP hD hS (isDi_i4 h_p0) (isDi_t4 h_p0) ok105 d_6_3_49 (fun H locs hP hD hS => ?_)
      have hP : va_P z.1 classes (wv z ad E (u2 (u2 M103 (p0 + 3) (M103 p0 0).toNat x4) (p0 + 4) ((u2 M103 (p0 + 3) (M103 p0 0).toNat x4) p0 0).toNat 0)) H := hP
      have hD : va_D A (wv z ad E (u2 (u2 M103 (p0 + 3) (M103 p0 0).toNat x4) (p0 + 4) ((u2 M103 (p0 + 3) (M103 p0 0).toNat x4) p0 0).toNat 0)) := hD
      obtain ⟨M106, e106, h⟩ := nb_e h
      rw [← e106] at hP hD
      refine lv_aload_n hx hb d_6_3_50 rfl (lv_at hl 0 rfl) ?_
      refine lv_dup hx hb d_6_3_51 rfl ?_
      refine m_gi (C := "Ballothall$Division") (T := TX4) (N := 8) (ci := 4) (k := 0) hx hb hts iX4 hown hG hP (isDi_i h_p0) (isDi_T h_p0) rfl (by decide) w_175 (fun _ h9 => h9) rfl rfl d_6_3_52 ?_
      refine lv_iconst (v := oI 1) hx hb d_6_3_55 (by decide +kernel) ?_
      refine lv_iadd hx hb d_6_3_56 ?_
      refine nrm (oI_add _ _) ?_
      refine m_pi (C := "Ballothall$Division") (T := TX4) (N := 8) (ci := 4) (k := 0) (ty := .int) hx hb hts iX4 hown hG hP hD hS (isDi_i h_p0) (isDi_T h_p0) rfl (by decide) w_175 (fun _ h9 => h9) rfl rfl tyX4_ok nmX4 rfl (by decide +kernel) rfl rfl d_6_3_57 (fun H locs hP hD hS => ?_)
      have hP : va_P z.1 classes (wv z ad E (u2 M106 p0 0 ((M106 p0 0) + 1))) H := hP
      have hD : va_D A (wv z ad E (u2 M106 p0 0 ((M106 p0 0) + 1))) := hD
      obtain rfl := in1 h
      exact W.vret hx hb hr (fun t ht hW => qkA hP hD hS (fun k => k) rfl rfl ht) hS.2.2 d_6_3_60
  exact key _ _ _ hts hP hS
set_option maxRecDepth 100000 in
set_option maxHeartbeats 4000000 in
theorem b_Li_appendUnit_9b (l : Launch) (z : Zz) (ad : Nat → Nat) (E : Ev) (M : Mm) (x1 : Int) (x2 : Int) (x4 : Int) (x6 : Int) (x7 : Int) (t : Nat) (w4 : Int) (w6 : Int) (w7 : Int) (N : Mm) {Q : State → Prop} {p : Program} {e : Env} {s : State} {m : MethodId} {below : List Frame} {meth : Method} {c : Code} {A : Nat → Prop} {args : Array Value} (hx : p.tables.exec = Jvm.exec) (hb : c.code = prog_9_method_7_code) (hml : c.maxLocals = 8) (hts : ∀ w ∈ WG, w.before args s = true) (hown : s.vm.findClass "Ballothall$Lists" = some m.cls) (hlocks : meth.locks = false) (hA : ∀ q, s.heap.size ≤ q → A q) (hG : KG z s) (hZ : FZ z A s) (hL : Lay E) (h : Li_appendUnit_9b E M x1 x2 x4 x6 x7 = some (t, w4, w6, w7, N)) (k0 : t = 0 → ∀ (H : Heap) (locs : List Loc) (ls : Array Slot), va_P z.1 classes (wv z ad E N) H → va_D A (wv z ad E N) → va_S A s.heap H locs → lv_has ls 8 [(0, .ref (ad 53)), (1, .int (oI x1)), (2, .long (oJ x2)), (4, .long (oJ w4)), (6, .int (oI w6)), (7, .int (oI w7))] → W p l e (rmK 1 44 0 0) s m args below meth c H locs 0 0 Q (F0 m 9 ls [])) (k1 : t = 1 → ∀ (H : Heap) (locs : List Loc) (ls : Array Slot), va_P z.1 classes (wv z ad E N) H → va_D A (wv z ad E N) → va_S A s.heap H locs → lv_has ls 8 [(0, .ref (ad 53)), (1, .int (oI x1)), (2, .long (oJ x2)), (4, .long (oJ w4)), (6, .int (oI w6))] → W p l e (rmK 1 44 0 0) s m args below meth c H locs 0 0 Q (F0 m 50 ls [])) : ∀ (H : Heap) (locs : List Loc) (ls : Array Slot), va_P z.1 classes (wv z ad E M) H → va_D A (wv z ad E M) → va_S A s.heap H locs → lv_has ls 8 [(0, .ref (ad 53)), (1, .int (oI x1)), (2, .long (oJ x2)), (4, .long (oJ x4)), (6, .int (oI x6)), (7, .int (oI x7))] → W p l e (rmK 1 44 0 0) s m args below meth c H locs 0 0 Q (F0 m 9 ls []) := by
  intro H locs ls hP hD hS hl
  unfold Li_appendUnit_9b at h
  refine lv_iload hx hb d_9_7_9 (lv_at hl 5 rfl) ?_
  refine lv_aload_n hx hb d_9_7_11 rfl (lv_at hl 0 rfl) ?_
  refine m_gi (C := "Ballothall$Lists") (T := TX7) (N := 11) (ci := 7) (k := 0) hx hb hts iX7 hown hG hP (yi_53 hL) (yt_53 hL) rfl (by decide) w_242 (fun _ h9 => h9) rfl rfl d_9_7_12 ?_
  obtain ⟨ok100, h⟩ := ck_e h
  obtain ⟨ok101, h⟩ := ck_e h
  refine lv_icmp_ge (tgt := 50) hx hb d_9_7_15 (by decide) (fun c9 => ?_) (fun c9 => ?_)
  · have h := ite_t ((oI_le (a := (M 53 0)) (b := x7) ok101 ok100).mp c9) h
    obtain ⟨rfl, rfl, rfl, rfl, rfl⟩ := in5 h
    exact k1 rfl H locs ls hP hD hS (lv_sub hl [0, 1, 2, 3, 4] rfl)
  · have h := ite_f (fun q => c9 ((oI_le (a := (M 53 0)) (b := x7) ok101 ok100).mpr q)) h
    refine lv_aload_n hx hb d_9_7_18 rfl (lv_at hl 0 rfl) ?_
    refine lv_iload_n hx hb d_9_7_19 rfl (lv_at hl 1 rfl) ?_
    refine lv_iload hx hb d_9_7_20 (lv_at hl 5 rfl) ?_
    obtain ⟨r102, g102, h⟩ := bd_e h
    refine kV (As := [.int (oI x1), .int (oI x7)]) (rest := []) (s_Li_isSameUnit l z ad E M x1 x7 r102 hL g102) hx hb hml hown hts w_1536 w_1533 w_1535 w_s_191f81 w_5 md_6c3977 ⟨Nat.le_of_ble_eq_true rfl, Nat.le_of_ble_eq_true rfl⟩ hG hZ hP hD hS hA 53 (wv_o (ci := 7) (yi_53 hL) (yt_53 hL)) rfl rfl rfl hl.1 rfl (Nat.le_of_ble_eq_true rfl) d_9_7_22 ⟨Nat.le_of_ble_eq_true rfl, Nat.le_of_ble_eq_true rfl⟩ (fun _ H locs hP hD hS => ?_)
    have hP : va_P z.1 classes (wv z ad E M) H := hP
    have hD : va_D A (wv z ad E M) := hD
    refine W.eq (g2 := F0 m 25 ls [.int (oI r102)]) rfl ?_
    obtain ⟨ok103, h⟩ := ck_e h
    refine lv_if_eq (tgt := 44) hx hb d_9_7_25 (by decide) (fun c9 => ?_) (fun c9 => ?_)
    · have h := ite_t ((oI_eq0 ok103).mp c9) h
      refine lv_iinc (v := oI (x7 + 1)) (lv' := [(7, .int (oI (x7 + 1))), (0, .ref (ad 53)), (1, .int (oI x1)), (2, .long (oJ x2)), (4, .long (oJ x4)), (6, .int (oI x6))]) hx hb d_9_7_44 hl (k := 5) rfl (oI_add x7 1) (by decide) rfl (fun ls hl => ?_)
      refine lv_goto (tgt := 9) hx hb d_9_7_47 (by decide) ?_
      obtain ⟨rfl, rfl, rfl, rfl, rfl⟩ := in5 h
      exact k0 rfl H locs ls hP hD hS (lv_sub hl [1, 2, 3, 4, 5, 0] rfl)
    · have h := ite_f (fun q => c9 ((oI_eq0 ok103).mpr q)) h
      refine lv_lload hx hb d_9_7_28 (lv_at hl 3 rfl) ?_
      refine lv_aload_n hx hb d_9_7_30 rfl (lv_at hl 0 rfl) ?_
      refine m_gr (j := 54) (C := "Ballothall$Lists") (T := TX7) (N := 11) (ci := 7) (k := 1) hx hb hts iX7 hown hG hP (yi_53 hL) (yt_53 hL) rfl (by decide) w_244 (fun _ h9 => h9) rfl rfl (yr_53_1 hL) d_9_7_31 ?_
      refine lv_iload hx hb d_9_7_34 (lv_at hl 5 rfl) ?_
      obtain ⟨ok104, h⟩ := ck_e h
      refine m_ia hx hb hG hP (yi_54 hL) (yt_54 hL) ok104 d_9_7_36 ?_
      obtain ⟨ok105, h⟩ := ck_e h
      refine lv_i2l (v := oJ (M 54 x7.toNat)) hx hb d_9_7_37 (oI_l ok105) ?_
      refine lv_ladd hx hb d_9_7_38 ?_
      refine nrmL (oJ_add _ _) ?_
      refine lv_lstore (lv' := [(4, .long (oJ (x4 + (M 54 x7.toNat)))), (0, .ref (ad 53)), (1, .int (oI x1)), (2, .long (oJ x2)), (6, .int (oI x6)), (7, .int (oI x7))]) hx hb d_9_7_39 hl (by decide) rfl (fun ls hl => ?_)
      refine lv_iinc (v := oI (x6 + 1)) (lv' := [(6, .int (oI (x6 + 1))), (4, .long (oJ (x4 + (M 54 x7.toNat)))), (0, .ref (ad 53)), (1, .int (oI x1)), (2, .long (oJ x2)), (7, .int (oI x7))]) hx hb d_9_7_41 hl (k := 4) rfl (oI_add x6 1) (by decide) rfl (fun ls hl => ?_)
      refine lv_iinc (v := oI (x7 + 1)) (lv' := [(7, .int (oI (x7 + 1))), (6, .int (oI (x6 + 1))), (4, .long (oJ (x4 + (M 54 x7.toNat)))), (0, .ref (ad 53)), (1, .int (oI x1)), (2, .long (oJ x2))]) hx hb d_9_7_44 hl (k := 5) rfl (oI_add x7 1) (by decide) rfl (fun ls hl => ?_)
      refine lv_goto (tgt := 9) hx hb d_9_7_47 (by decide) ?_
      obtain ⟨rfl, rfl, rfl, rfl, rfl⟩ := in5 h
      exact k0 rfl H locs ls hP hD hS (lv_sub hl [3, 4, 5, 2, 1, 0] rfl)
set_option maxRecDepth 100000 in
set_option maxHeartbeats 4000000 in
theorem s_Li_appendUnit_9 (l : Launch) (z : Zz) (ad : Nat → Nat) (E : Ev) (x1 : Int) (x2 : Int) {Q : State → Prop} {p : Program} {e : Env} {s : State} {m : MethodId} {below : List Frame} {meth : Method} {c : Code} {A : Nat → Prop} {args : Array Value} (hx : p.tables.exec = Jvm.exec) (hb : c.code = prog_9_method_7_code) (hml : c.maxLocals = 8) (hts : ∀ w ∈ WG, w.before args s = true) (hown : s.vm.findClass "Ballothall$Lists" = some m.cls) (hlocks : meth.locks = false) (hA : ∀ q, s.heap.size ≤ q → A q) (hG : KG z s) (hZ : FZ z A s) (hL : Lay E) : ∀ (fu : Nat) (M : Mm) (x4 : Int) (x6 : Int) (x7 : Int) (t : Nat) (w4 : Int) (w6 : Int) (w7 : Int) (N : Mm), l_Li_appendUnit_9 E x1 x2 fu M x4 x6 x7 = some (t, w4, w6, w7, N) → (t = 1 → ∀ (H : Heap) (locs : List Loc) (ls : Array Slot), va_P z.1 classes (wv z ad E N) H → va_D A (wv z ad E N) → va_S A s.heap H locs → lv_has ls 8 [(0, .ref (ad 53)), (1, .int (oI x1)), (2, .long (oJ x2)), (4, .long (oJ w4)), (6, .int (oI w6))] → W p l e (rmK 1 44 0 0) s m args below meth c H locs 0 0 Q (F0 m 50 ls [])) → ∀ (H : Heap) (locs : List Loc) (ls : Array Slot), va_P z.1 classes (wv z ad E M) H → va_D A (wv z ad E M) → va_S A s.heap H locs → lv_has ls 8 [(0, .ref (ad 53)), (1, .int (oI x1)), (2, .long (oJ x2)), (4, .long (oJ x4)), (6, .int (oI x6)), (7, .int (oI x7))] → W p l e (rmK 1 44 0 0) s m args below meth c H locs 0 0 Q (F0 m 9 ls []) := by
  intro fu
  induction fu with
  | zero =>
    intro M x4 x6 x7 t w4 w6 w7 N h
    have h : (none : Option (Nat × Int × Int × Int × Mm)) = some _ := h
    cases h
  | succ fu ih =>
    intro M x4 x6 x7 t w4 w6 w7 N h k1 H locs ls hP hD hS hl
    obtain ⟨⟨t0, w40, w60, w70, N9⟩, g0, h⟩ := bd_e h
    refine b_Li_appendUnit_9b l z ad E M x1 x2 x4 x6 x7 t0 w40 w60 w70 N9 hx hb hml hts hown hlocks hA hG hZ hL g0 (fun e0 => ?_) (fun e0 => ?_) H locs ls hP hD hS hl
    · subst e0
      have h := ite_t rfl h
      exact ih N9 w40 w60 w70 t w4 w6 w7 N h k1
    · subst e0
      have h := ite_f (by decide) h
      obtain ⟨rfl, rfl, rfl, rfl, rfl⟩ := in5 h
      exact k1 rfl
set_option maxRecDepth 100000 in
set_option maxHeartbeats 4000000 in
theorem s_Li_appendUnit (l : Launch) (z : Zz) (ad : Nat → Nat) (E : Ev) (M : Mm) (x1 : Int) (x2 : Int) (N : Mm) (hL : Lay E) (h : f_Li_appendUnit E M x1 x2 = some N) : CT l z ⟨"Ballothall$Lists", "appendUnit", "(IJ)V"⟩ prog_9_method_7_code 8 none [.ref (ad 53), .int (oI x1), .long (oJ x2)] (wv z ad E M) 1 44 0 0 (fun _ => none) (fun _ => (wv z ad E N)) := by
  refine CT.of (own := "Ballothall$Lists") (by decide +kernel) (Nat.le_of_ble_eq_true rfl) rfl (fun p e s m below meth c A ls hx hb hml hr hts hown hlocks hin hA hG hZ hP hD hS hl => ?_)
  have hl : lv_has ls 8 [(0, .ref (ad 53)), (1, .int (oI x1)), (2, .long (oJ x2))] := hl
  have key : ∀ (H : Heap) (locs : List Loc) (args : Array Value), (∀ w ∈ WG, w.before args s = true) → va_P z.1 classes (wv z ad E M) H → va_S A s.heap H locs → W p l e (rmK 1 44 0 0) s m args below meth c H locs 0 0 (MQ below (QK z A (fun _ => none) (fun _ => (wv z ad E N))) args s 0 0 A) (F0 m 0 ls []) := by
    intro H locs args hts hP hS
    unfold f_Li_appendUnit at h
    refine lv_lconst (v := oJ 0) hx hb d_9_7_0 (by decide +kernel) ?_
    refine lv_lstore (lv' := [(4, .long (oJ 0)), (0, .ref (ad 53)), (1, .int (oI x1)), (2, .long (oJ x2))]) hx hb d_9_7_1 hl (by decide) rfl (fun ls hl => ?_)
    refine lv_iconst (v := oI 0) hx hb d_9_7_3 (by decide +kernel) ?_
    refine lv_istore (lv' := [(6, .int (oI 0)), (4, .long (oJ 0)), (0, .ref (ad 53)), (1, .int (oI x1)), (2, .long (oJ x2))]) hx hb d_9_7_4 hl (by decide) rfl (fun ls hl => ?_)
    refine lv_iload_n hx hb d_9_7_6 rfl (lv_at hl 3 rfl) ?_
    refine lv_istore (lv' := [(7, .int (oI x1)), (6, .int (oI 0)), (4, .long (oJ 0)), (0, .ref (ad 53)), (1, .int (oI x1)), (2, .long (oJ x2))]) hx hb d_9_7_7 hl (by decide) rfl (fun ls hl => ?_)
    obtain ⟨⟨t106, v106_4, v106_6, v106_7, M106⟩, g106, h⟩ := bd_e h
    obtain ⟨ok106, h⟩ := ck_e h
    refine s_Li_appendUnit_9 l z ad E x1 x2 hx hb hml hts hown hlocks hA hG hZ hL FU M 0 0 x1 t106 v106_4 v106_6 v106_7 M106 g106 (fun e106 H locs ls hP hD hS hl => ?_) H locs ls hP hD hS (lv_sub hl [3, 4, 5, 2, 1, 0] rfl)
    refine lv_lload hx hb d_9_7_50 (lv_at hl 3 rfl) ?_
    refine lv_lconst (v := oJ 0) hx hb d_9_7_52 (by decide +kernel) ?_
    obtain ⟨ok107, h⟩ := ck_e h
    refine W.lcmp hx hb d_9_7_53 ?_
    refine nrm (cmp_val (a := v106_4) (b := (0 : Int)) ok107 (by decide)) ?_
    refine lv_if_le (tgt := 106) hx hb d_9_7_54 (by decide) (fun c9 => ?_) (fun c9 => ?_)
    · have h := ite_t ((cmp_le v106_4 (0 : Int)).mp c9) h
      obtain rfl := in1 h
      exact W.vret hx hb hr (fun t ht hW => qkA hP hD hS (fun k => k) rfl rfl ht) hS.2.2 d_9_7_106
    · have h := ite_f (fun q => c9 ((cmp_le v106_4 (0 : Int)).mpr q)) h
      refine lv_lload hx hb d_9_7_57 (lv_at hl 3 rfl) ?_
      refine lv_ldc2 hx hb hown (hts _ w_1541) d_9_7_59 ?_
      refine nrmL (x1 := oJ 100) (by decide +kernel) ?_
      refine lv_lmul hx hb d_9_7_62 ?_
      refine nrmL (oJ_mul _ _) ?_
      refine lv_lload_n hx hb d_9_7_63 rfl (lv_at hl 2 rfl) ?_
      obtain ⟨ok108, h⟩ := ck_e h
      obtain ⟨ok109, h⟩ := ck_e h
      refine W.lcmp hx hb d_9_7_64 ?_
      refine nrm (cmp_val (a := (v106_4 * 100)) (b := x2) ok108 ok109) ?_
      refine lv_if_lt (tgt := 106) hx hb d_9_7_65 (by decide) (fun c9 => ?_) (fun c9 => ?_)
      · have h := ite_t ((cmp_lt (v106_4 * 100) x2).mp c9) h
        obtain rfl := in1 h
        exact W.vret hx hb hr (fun t ht hW => qkA hP hD hS (fun k => k) rfl rfl ht) hS.2.2 d_9_7_106
      · have h := ite_f (fun q => c9 ((cmp_lt (v106_4 * 100) x2).mpr q)) h
        refine lv_aload_n hx hb d_9_7_68 rfl (lv_at hl 0 rfl) ?_
        refine m_gr (j := 57) (C := "Ballothall$Lists") (T := TX7) (N := 11) (ci := 7) (k := 4) hx hb hts iX7 hown hG hP (yi_53 hL) (yt_53 hL) rfl (by decide) w_249 (fun _ h9 => h9) rfl rfl (yr_53_4 hL) d_9_7_69 ?_
        refine lv_iload_n hx hb d_9_7_72 rfl (lv_at hl 1 rfl) ?_
        refine lv_lload hx hb d_9_7_73 (lv_at hl 3 rfl) ?_
        refine lv_aload_n hx hb d_9_7_75 rfl (lv_at hl 0 rfl) ?_
        refine m_gr (j := 56) (C := "Ballothall$Lists") (T := TX7) (N := 11) (ci := 7) (k := 3) hx hb hts iX7 hown hG hP (yi_53 hL) (yt_53 hL) rfl (by decide) w_247 (fun _ h9 => h9) rfl rfl (yr_53_3 hL) d_9_7_76 ?_
        refine lv_iload_n hx hb d_9_7_79 rfl (lv_at hl 1 rfl) ?_
        obtain ⟨ok110, h⟩ := ck_e h
        refine m_ia hx hb hG hP (yi_56 hL) (yt_56 hL) ok110 d_9_7_80 ?_
        obtain ⟨M111, g111, h⟩ := bd_e h
        refine kVN (As := [.int (oI x1), .long (oJ v106_4), .int (oI (M106 56 x1.toNat))]) (rest := []) (s_Di_append l z ad E M106 57 x1 v106_4 (M106 56 x1.toNat) M111 hL g111) hx hb hml hown hts w_1545 n_1542 w_1544 w_s_198351 w_6 md_35cf58 ⟨Nat.le_of_ble_eq_true rfl, Nat.le_of_ble_eq_true rfl⟩ hG hZ hP hD hS hA 57 (wv_o (ci := 4) (yi_57 hL) (yt_57 hL)) rfl rfl rfl hl.1 rfl (Nat.le_of_ble_eq_true rfl) d_9_7_81 ⟨Nat.le_of_ble_eq_true rfl, Nat.le_of_ble_eq_true rfl⟩ (fun _ H locs hP hD hS => ?_)
        have hP : va_P z.1 classes (wv z ad E M111) H := hP
        have hD : va_D A (wv z ad E M111) := hD
        refine W.eq (g2 := F0 m 84 ls []) rfl ?_
        refine lv_aload_n hx hb d_9_7_84 rfl (lv_at hl 0 rfl) ?_
        refine lv_aload_n hx hb d_9_7_85 rfl (lv_at hl 0 rfl) ?_
        refine m_gi (C := "Ballothall$Lists") (T := TX7) (N := 11) (ci := 7) (k := 6) hx hb hts iX7 hown hG hP (yi_53 hL) (yt_53 hL) rfl (by decide) w_251 (fun _ h9 => h9) rfl rfl d_9_7_86 ?_
        obtain ⟨ok112, h⟩ := ck_e h
        refine lv_if_ne (tgt := 98) hx hb d_9_7_89 (by decide) (fun c9 => ?_) (fun c9 => ?_)
        · have h := ite_f (fun q => c9 ((oI_eq0 ok112).mpr q)) h
          refine lv_iconst (v := oI 1) hx hb d_9_7_98 (by decide +kernel) ?_
          refine lv_goto (tgt := 103) hx hb d_9_7_99 (by decide) ?_
          refine m_pi (C := "Ballothall$Lists") (T := TX7) (N := 11) (ci := 7) (k := 6) (ty := .boolean) hx hb hts iX7 hown hG hP hD hS (yi_53 hL) (yt_53 hL) rfl (by decide) w_251 (fun _ h9 => h9) rfl rfl tyX7_ok nmX7 rfl (by decide +kernel) rfl rfl d_9_7_103 (fun H locs hP hD hS => ?_)
          have hP : va_P z.1 classes (wv z ad E (u2 M111 53 6 1)) H := hP
          have hD : va_D A (wv z ad E (u2 M111 53 6 1)) := hD
          obtain rfl := in1 h
          exact W.vret hx hb hr (fun t ht hW => qkA hP hD hS (fun k => k) rfl rfl ht) hS.2.2 d_9_7_106
        · have h := ite_t ((oI_eq0 ok112).mp c9) h
          refine lv_iload hx hb d_9_7_92 (lv_at hl 4 rfl) ?_
          refine lv_iconst (v := oI 1) hx hb d_9_7_94 (by decide +kernel) ?_
          obtain ⟨ok113, h⟩ := ck_e h
          refine lv_icmp_le (tgt := 102) hx hb d_9_7_95 (by decide) (fun c9 => ?_) (fun c9 => ?_)
          · have h := ite_t ((oI_le (a := v106_6) (b := (1 : Int)) ok113 (by decide)).mp c9) h
            refine lv_iconst (v := oI 0) hx hb d_9_7_102 (by decide +kernel) ?_
            refine m_pi (C := "Ballothall$Lists") (T := TX7) (N := 11) (ci := 7) (k := 6) (ty := .boolean) hx hb hts iX7 hown hG hP hD hS (yi_53 hL) (yt_53 hL) rfl (by decide) w_251 (fun _ h9 => h9) rfl rfl tyX7_ok nmX7 rfl (by decide +kernel) rfl rfl d_9_7_103 (fun H locs hP hD hS => ?_)
            have hP : va_P z.1 classes (wv z ad E (u2 M111 53 6 0)) H := hP
            have hD : va_D A (wv z ad E (u2 M111 53 6 0)) := hD
            obtain rfl := in1 h
            exact W.vret hx hb hr (fun t ht hW => qkA hP hD hS (fun k => k) rfl rfl ht) hS.2.2 d_9_7_106
          · have h := ite_f (fun q => c9 ((oI_le (a := v106_6) (b := (1 : Int)) ok113 (by decide)).mpr q)) h
            refine lv_iconst (v := oI 1) hx hb d_9_7_98 (by decide +kernel) ?_
            refine lv_goto (tgt := 103) hx hb d_9_7_99 (by decide) ?_
            refine m_pi (C := "Ballothall$Lists") (T := TX7) (N := 11) (ci := 7) (k := 6) (ty := .boolean) hx hb hts iX7 hown hG hP hD hS (yi_53 hL) (yt_53 hL) rfl (by decide) w_251 (fun _ h9 => h9) rfl rfl tyX7_ok nmX7 rfl (by decide +kernel) rfl rfl d_9_7_103 (fun H locs hP hD hS => ?_)
            have hP : va_P z.1 classes (wv z ad E (u2 M111 53 6 1)) H := hP
            have hD : va_D A (wv z ad E (u2 M111 53 6 1)) := hD
            obtain rfl := in1 h
            exact W.vret hx hb hr (fun t ht hW => qkA hP hD hS (fun k => k) rfl rfl ht) hS.2.2 d_9_7_106
  exact key _ _ _ hts hP hS
set_option maxRecDepth 100000 in
set_option maxHeartbeats 4000000 in
theorem s_Di_give (l : Launch) (z : Zz) (ad : Nat → Nat) (E : Ev) (M : Mm) (p0 : Nat) (x1 : Int) (N : Mm) (hL : Lay E) (h : f_Di_give E M p0 x1 = some N) : CT l z ⟨"Ballothall$Division", "give", "(I)V"⟩ prog_6_method_4_code 2 none [.ref (ad p0), .int (oI x1)] (wv z ad E M) 0 20 0 0 (fun _ => none) (fun _ => (wv z ad E N)) := by
  refine CT.of (own := "Ballothall$Division") (by decide +kernel) (Nat.le_of_ble_eq_true rfl) rfl (fun p e s m below meth c A ls hx hb hml hr hts hown hlocks hin hA hG hZ hP hD hS hl => ?_)
  have hl : lv_has ls 2 [(0, .ref (ad p0)), (1, .int (oI x1))] := hl
  have key : ∀ (H : Heap) (locs : List Loc) (args : Array Value), (∀ w ∈ WG, w.before args s = true) → va_P z.1 classes (wv z ad E M) H → va_S A s.heap H locs → W p l e (rmK 0 20 0 0) s m args below meth c H locs 0 0 (MQ below (QK z A (fun _ => none) (fun _ => (wv z ad E N))) args s 0 0 A) (F0 m 0 ls []) := by
    intro H locs args hts hP hS
    unfold f_Di_give at h
    obtain ⟨h_p0, h⟩ := ck_e h
    refine lv_aload_n hx hb d_6_4_0 rfl (lv_at hl 0 rfl) ?_
    refine m_gr (j := (p0 + 4)) (C := "Ballothall$Division") (T := TX4) (N := 8) (ci := 4) (k := 5) hx hb hts iX4 hown hG hP (isDi_i h_p0) (isDi_T h_p0) rfl (by decide) w_183 (fun _ h9 => h9) rfl rfl (isDi_r5 h_p0) d_6_4_1 ?_
    refine lv_iload_n hx hb d_6_4_4 rfl (lv_at hl 1 rfl) ?_
    refine lv_dup2_11 hx hb d_6_4_5 rfl rfl ?_
    obtain ⟨ok100, h⟩ := ck_e h
    refine m_ia hx hb hG hP (isDi_i4 h_p0) (isDi_t4 h_p0) ok100 d_6_4_6 ?_
    refine lv_iconst (v := oI 1) hx hb d_6_4_7 (by decide +kernel) ?_
    refine lv_iadd hx hb d_6_4_8 ?_
    refine nrm (oI_add _ _) ?_
    refine m_is hx hb hG hP hD hS (isDi_i4 h_p0) (isDi_t4 h_p0) ok100 d_6_4_9 (fun H locs hP hD hS => ?_)
    have hP : va_P z.1 classes (wv z ad E (u2 M (p0 + 4) x1.toNat ((M (p0 + 4) x1.toNat) + 1))) H := hP
    have hD : va_D A (wv z ad E (u2 M (p0 + 4) x1.toNat ((M (p0 + 4) x1.toNat) + 1))) := hD
    refine lv_aload_n hx hb d_6_4_10 rfl (lv_at hl 0 rfl) ?_
    refine m_gi (C := "Ballothall$Division") (T := TX4) (N := 8) (ci := 4) (k := 1) hx hb hts iX4 hown hG hP (isDi_i h_p0) (isDi_T h_p0) rfl (by decide) w_177 (fun _ h9 => h9) rfl rfl d_6_4_11 ?_
    refine lv_aload_n hx hb d_6_4_14 rfl (lv_at hl 0 rfl) ?_
    refine m_gr (j := (p0 + 6)) (C := "Ballothall$Division") (T := TX4) (N := 8) (ci := 4) (k := 7) hx hb hts iX4 hown hG hP (isDi_i h_p0) (isDi_T h_p0) rfl (by decide) w_186 (fun _ h9 => h9) rfl rfl (isDi_r7 h_p0) d_6_4_15 ?_
    refine m_len (v := 61) hx hb hG hP (isDi_i6 h_p0) (isDi_t6 h_p0) (by decide +kernel) d_6_4_18 ?_
    obtain ⟨ok101, h⟩ := ck_e h
    refine lv_icmp_ge (tgt := 47) hx hb d_6_4_19 (by decide) (fun c9 => ?_) (fun c9 => ?_)
    · have h := ite_t ((oI_le (a := (61 : Int)) (b := ((u2 M (p0 + 4) x1.toNat ((M (p0 + 4) x1.toNat) + 1)) p0 1)) (by decide) ok101).mp c9) h
      obtain rfl := in1 h
      exact W.vret hx hb hr (fun t ht hW => qkA hP hD hS (fun k => k) rfl rfl ht) hS.2.2 d_6_4_47
    · have h := ite_f (fun q => c9 ((oI_le (a := (61 : Int)) (b := ((u2 M (p0 + 4) x1.toNat ((M (p0 + 4) x1.toNat) + 1)) p0 1)) (by decide) ok101).mpr q)) h
      refine lv_aload_n hx hb d_6_4_22 rfl (lv_at hl 0 rfl) ?_
      refine m_gr (j := (p0 + 6)) (C := "Ballothall$Division") (T := TX4) (N := 8) (ci := 4) (k := 7) hx hb hts iX4 hown hG hP (isDi_i h_p0) (isDi_T h_p0) rfl (by decide) w_186 (fun _ h9 => h9) rfl rfl (isDi_r7 h_p0) d_6_4_23 ?_
      refine lv_aload_n hx hb d_6_4_26 rfl (lv_at hl 0 rfl) ?_
      refine m_gi (C := "Ballothall$Division") (T := TX4) (N := 8) (ci := 4) (k := 1) hx hb hts iX4 hown hG hP (isDi_i h_p0) (isDi_T h_p0) rfl (by decide) w_177 (fun _ h9 => h9) rfl rfl d_6_4_27 ?_
      refine lv_aload_n hx hb d_6_4_30 rfl (lv_at hl 0 rfl) ?_
      refine m_gr (j := (p0 + 1)) (C := "Ballothall$Division") (T := TX4) (N := 8) (ci := 4) (k := 2) hx hb hts iX4 hown hG hP (isDi_i h_p0) (isDi_T h_p0) rfl (by decide) w_179 (fun _ h9 => h9) rfl rfl (isDi_r2 h_p0) d_6_4_31 ?_
      refine lv_iload_n hx hb d_6_4_34 rfl (lv_at hl 1 rfl) ?_
      refine m_ia hx hb hG hP (isDi_i1 h_p0) (isDi_t1 h_p0) ok100 d_6_4_35 ?_
      obtain ⟨v102, e102, h⟩ := nb_e h
      refine nrm (congrArg oI e102.symm) ?_
      obtain ⟨ok103, h⟩ := ck_e h
      refine m_is hx hb hG hP hD hS (isDi_i6 h_p0) (isDi_t6 h_p0) ok103 d_6_4_36 (fun H locs hP hD hS => ?_)
      have hP : va_P z.1 classes (wv z ad E (u2 (u2 M (p0 + 4) x1.toNat ((M (p0 + 4) x1.toNat) + 1)) (p0 + 6) ((u2 M (p0 + 4) x1.toNat ((M (p0 + 4) x1.toNat) + 1)) p0 1).toNat v102)) H := hP
      have hD : va_D A (wv z ad E (u2 (u2 M (p0 + 4) x1.toNat ((M (p0 + 4) x1.toNat) + 1)) (p0 + 6) ((u2 M (p0 + 4) x1.toNat ((M (p0 + 4) x1.toNat) + 1)) p0 1).toNat v102)) := hD
      obtain ⟨M104, e104, h⟩ := nb_e h
      rw [← e104] at hP hD
      refine lv_aload_n hx hb d_6_4_37 rfl (lv_at hl 0 rfl) ?_
      refine lv_dup hx hb d_6_4_38 rfl ?_
      refine m_gi (C := "Ballothall$Division") (T := TX4) (N := 8) (ci := 4) (k := 1) hx hb hts iX4 hown hG hP (isDi_i h_p0) (isDi_T h_p0) rfl (by decide) w_177 (fun _ h9 => h9) rfl rfl d_6_4_39 ?_
      refine lv_iconst (v := oI 1) hx hb d_6_4_42 (by decide +kernel) ?_
      refine lv_iadd hx hb d_6_4_43 ?_
      refine nrm (oI_add _ _) ?_
      refine m_pi (C := "Ballothall$Division") (T := TX4) (N := 8) (ci := 4) (k := 1) (ty := .int) hx hb hts iX4 hown hG hP hD hS (isDi_i h_p0) (isDi_T h_p0) rfl (by decide) w_177 (fun _ h9 => h9) rfl rfl tyX4_ok nmX4 rfl (by decide +kernel) rfl rfl d_6_4_44 (fun H locs hP hD hS => ?_)
      have hP : va_P z.1 classes (wv z ad E (u2 M104 p0 1 ((M104 p0 1) + 1))) H := hP
      have hD : va_D A (wv z ad E (u2 M104 p0 1 ((M104 p0 1) + 1))) := hD
      obtain rfl := in1 h
      exact W.vret hx hb hr (fun t ht hW => qkA hP hD hS (fun k => k) rfl rfl ht) hS.2.2 d_6_4_47
  exact key _ _ _ hts hP hS
set_option maxRecDepth 100000 in
set_option maxHeartbeats 4000000 in
theorem s_Di_winsTie (l : Launch) (z : Zz) (ad : Nat → Nat) (E : Ev) (M : Mm) (p0 : Nat) (x1 : Int) (x2 : Int) (r : Int)  (hL : Lay E) (h : f_Di_winsTie E M p0 x1 x2 = some r) : CT l z ⟨"Ballothall$Division", "winsTie", "(II)Z"⟩ prog_6_method_7_code 3 (some .boolean) [.ref (ad p0), .int (oI x1), .int (oI x2)] (wv z ad E M) 0 20 0 0 (fun _ => some (.int (oI r))) (fun _ => (wv z ad E M)) := by
  refine CT.of (own := "Ballothall$Division") (by decide +kernel) (Nat.le_of_ble_eq_true rfl) rfl (fun p e s m below meth c A ls hx hb hml hr hts hown hlocks hin hA hG hZ hP hD hS hl => ?_)
  have hl : lv_has ls 3 [(0, .ref (ad p0)), (1, .int (oI x1)), (2, .int (oI x2))] := hl
  have key : ∀ (H : Heap) (locs : List Loc) (args : Array Value), (∀ w ∈ WG, w.before args s = true) → va_P z.1 classes (wv z ad E M) H → va_S A s.heap H locs → W p l e (rmK 0 20 0 0) s m args below meth c H locs 0 0 (MQ below (QK z A (fun _ => some (.int (oI r))) (fun _ => (wv z ad E M))) args s 0 0 A) (F0 m 0 ls []) := by
    intro H locs args hts hP hS
    unfold f_Di_winsTie at h
    obtain ⟨h_p0, h⟩ := ck_e h
    refine lv_aload_n hx hb d_6_7_0 rfl (lv_at hl 0 rfl) ?_
    refine m_gr (j := (p0 + 2)) (C := "Ballothall$Division") (T := TX4) (N := 8) (ci := 4) (k := 3) hx hb hts iX4 hown hG hP (isDi_i h_p0) (isDi_T h_p0) rfl (by decide) w_181 (fun _ h9 => h9) rfl rfl (isDi_r3 h_p0) d_6_7_1 ?_
    refine lv_iload_n hx hb d_6_7_4 rfl (lv_at hl 1 rfl) ?_
    obtain ⟨ok100, h⟩ := ck_e h
    refine m_la hx hb hG hP (isDi_i2 h_p0) (isDi_t2 h_p0) ok100 d_6_7_5 ?_
    refine lv_aload_n hx hb d_6_7_6 rfl (lv_at hl 0 rfl) ?_
    refine m_gr (j := (p0 + 2)) (C := "Ballothall$Division") (T := TX4) (N := 8) (ci := 4) (k := 3) hx hb hts iX4 hown hG hP (isDi_i h_p0) (isDi_T h_p0) rfl (by decide) w_181 (fun _ h9 => h9) rfl rfl (isDi_r3 h_p0) d_6_7_7 ?_
    refine lv_iload_n hx hb d_6_7_10 rfl (lv_at hl 2 rfl) ?_
    obtain ⟨ok101, h⟩ := ck_e h
    refine m_la hx hb hG hP (isDi_i2 h_p0) (isDi_t2 h_p0) ok101 d_6_7_11 ?_
    obtain ⟨ok102, h⟩ := ck_e h
    obtain ⟨ok103, h⟩ := ck_e h
    refine W.lcmp hx hb d_6_7_12 ?_
    refine nrm (cmp_val (a := (M (p0 + 2) x1.toNat)) (b := (M (p0 + 2) x2.toNat)) ok102 ok103) ?_
    refine lv_if_eq (tgt := 38) hx hb d_6_7_13 (by decide) (fun c9 => ?_) (fun c9 => ?_)
    · have h := ite_t ((cmp_eq (M (p0 + 2) x1.toNat) (M (p0 + 2) x2.toNat)).mp c9) h
      refine lv_aload_n hx hb d_6_7_38 rfl (lv_at hl 0 rfl) ?_
      refine m_gr (j := (p0 + 3)) (C := "Ballothall$Division") (T := TX4) (N := 8) (ci := 4) (k := 4) hx hb hts iX4 hown hG hP (isDi_i h_p0) (isDi_T h_p0) rfl (by decide) w_182 (fun _ h9 => h9) rfl rfl (isDi_r4 h_p0) d_6_7_39 ?_
      refine lv_iload_n hx hb d_6_7_42 rfl (lv_at hl 1 rfl) ?_
      refine m_ia hx hb hG hP (isDi_i3 h_p0) (isDi_t3 h_p0) ok100 d_6_7_43 ?_
      refine lv_aload_n hx hb d_6_7_44 rfl (lv_at hl 0 rfl) ?_
      refine m_gr (j := (p0 + 3)) (C := "Ballothall$Division") (T := TX4) (N := 8) (ci := 4) (k := 4) hx hb hts iX4 hown hG hP (isDi_i h_p0) (isDi_T h_p0) rfl (by decide) w_182 (fun _ h9 => h9) rfl rfl (isDi_r4 h_p0) d_6_7_45 ?_
      refine lv_iload_n hx hb d_6_7_48 rfl (lv_at hl 2 rfl) ?_
      refine m_ia hx hb hG hP (isDi_i3 h_p0) (isDi_t3 h_p0) ok101 d_6_7_49 ?_
      obtain ⟨ok104, h⟩ := ck_e h
      obtain ⟨ok105, h⟩ := ck_e h
      refine lv_icmp_lt (tgt := 83) hx hb d_6_7_50 (by decide) (fun c9 => ?_) (fun c9 => ?_)
      · have h := ite_t ((oI_lt (a := (M (p0 + 3) x1.toNat)) (b := (M (p0 + 3) x2.toNat)) ok104 ok105).mp c9) h
        refine lv_iconst (v := oI 1) hx hb d_6_7_83 (by decide +kernel) ?_
        refine lv_goto (tgt := 88) hx hb d_6_7_84 (by decide) ?_
        obtain rfl := in1 h
        exact W.zret hx hb hr rfl (fun t ht hW => qkA hP hD hS (fun k => k) rfl rfl ht) hS.2.2 d_6_7_88
      · have h := ite_f (fun q => c9 ((oI_lt (a := (M (p0 + 3) x1.toNat)) (b := (M (p0 + 3) x2.toNat)) ok104 ok105).mpr q)) h
        refine lv_aload_n hx hb d_6_7_53 rfl (lv_at hl 0 rfl) ?_
        refine m_gr (j := (p0 + 3)) (C := "Ballothall$Division") (T := TX4) (N := 8) (ci := 4) (k := 4) hx hb hts iX4 hown hG hP (isDi_i h_p0) (isDi_T h_p0) rfl (by decide) w_182 (fun _ h9 => h9) rfl rfl (isDi_r4 h_p0) d_6_7_54 ?_
        refine lv_iload_n hx hb d_6_7_57 rfl (lv_at hl 1 rfl) ?_
        refine m_ia hx hb hG hP (isDi_i3 h_p0) (isDi_t3 h_p0) ok100 d_6_7_58 ?_
        refine lv_aload_n hx hb d_6_7_59 rfl (lv_at hl 0 rfl) ?_
        refine m_gr (j := (p0 + 3)) (C := "Ballothall$Division") (T := TX4) (N := 8) (ci := 4) (k := 4) hx hb hts iX4 hown hG hP (isDi_i h_p0) (isDi_T h_p0) rfl (by decide) w_182 (fun _ h9 => h9) rfl rfl (isDi_r4 h_p0) d_6_7_60 ?_
        refine lv_iload_n hx hb d_6_7_63 rfl (lv_at hl 2 rfl) ?_
        refine m_ia hx hb hG hP (isDi_i3 h_p0) (isDi_t3 h_p0) ok101 d_6_7_64 ?_
        refine lv_icmp_ne (tgt := 87) hx hb d_6_7_65 (by decide) (fun c9 => ?_) (fun c9 => ?_)
        · have h := ite_f (fun q => c9 ((oI_eq (a := (M (p0 + 3) x1.toNat)) (b := (M (p0 + 3) x2.toNat)) ok104 ok105).mpr q)) h
          refine lv_iconst (v := oI 0) hx hb d_6_7_87 (by decide +kernel) ?_
          obtain rfl := in1 h
          exact W.zret hx hb hr rfl (fun t ht hW => qkA hP hD hS (fun k => k) rfl rfl ht) hS.2.2 d_6_7_88
        · have h := ite_t ((oI_eq (a := (M (p0 + 3) x1.toNat)) (b := (M (p0 + 3) x2.toNat)) ok104 ok105).mp c9) h
          refine lv_aload_n hx hb d_6_7_68 rfl (lv_at hl 0 rfl) ?_
          refine m_gr (j := (p0 + 1)) (C := "Ballothall$Division") (T := TX4) (N := 8) (ci := 4) (k := 2) hx hb hts iX4 hown hG hP (isDi_i h_p0) (isDi_T h_p0) rfl (by decide) w_179 (fun _ h9 => h9) rfl rfl (isDi_r2 h_p0) d_6_7_69 ?_
          refine lv_iload_n hx hb d_6_7_72 rfl (lv_at hl 1 rfl) ?_
          refine m_ia hx hb hG hP (isDi_i1 h_p0) (isDi_t1 h_p0) ok100 d_6_7_73 ?_
          refine lv_aload_n hx hb d_6_7_74 rfl (lv_at hl 0 rfl) ?_
          refine m_gr (j := (p0 + 1)) (C := "Ballothall$Division") (T := TX4) (N := 8) (ci := 4) (k := 2) hx hb hts iX4 hown hG hP (isDi_i h_p0) (isDi_T h_p0) rfl (by decide) w_179 (fun _ h9 => h9) rfl rfl (isDi_r2 h_p0) d_6_7_75 ?_
          refine lv_iload_n hx hb d_6_7_78 rfl (lv_at hl 2 rfl) ?_
          refine m_ia hx hb hG hP (isDi_i1 h_p0) (isDi_t1 h_p0) ok101 d_6_7_79 ?_
          obtain ⟨ok106, h⟩ := ck_e h
          obtain ⟨ok107, h⟩ := ck_e h
          refine lv_icmp_ge (tgt := 87) hx hb d_6_7_80 (by decide) (fun c9 => ?_) (fun c9 => ?_)
          · have h := ite_t ((oI_le (a := (M (p0 + 1) x2.toNat)) (b := (M (p0 + 1) x1.toNat)) ok107 ok106).mp c9) h
            refine lv_iconst (v := oI 0) hx hb d_6_7_87 (by decide +kernel) ?_
            obtain rfl := in1 h
            exact W.zret hx hb hr rfl (fun t ht hW => qkA hP hD hS (fun k => k) rfl rfl ht) hS.2.2 d_6_7_88
          · have h := ite_f (fun q => c9 ((oI_le (a := (M (p0 + 1) x2.toNat)) (b := (M (p0 + 1) x1.toNat)) ok107 ok106).mpr q)) h
            refine lv_iconst (v := oI 1) hx hb d_6_7_83 (by decide +kernel) ?_
            refine lv_goto (tgt := 88) hx hb d_6_7_84 (by decide) ?_
            obtain rfl := in1 h
            exact W.zret hx hb hr rfl (fun t ht hW => qkA hP hD hS (fun k => k) rfl rfl ht) hS.2.2 d_6_7_88
    · have h := ite_f (fun q => c9 ((cmp_eq (M (p0 + 2) x1.toNat) (M (p0 + 2) x2.toNat)).mpr q)) h
      refine lv_aload_n hx hb d_6_7_16 rfl (lv_at hl 0 rfl) ?_
      refine m_gr (j := (p0 + 2)) (C := "Ballothall$Division") (T := TX4) (N := 8) (ci := 4) (k := 3) hx hb hts iX4 hown hG hP (isDi_i h_p0) (isDi_T h_p0) rfl (by decide) w_181 (fun _ h9 => h9) rfl rfl (isDi_r3 h_p0) d_6_7_17 ?_
      refine lv_iload_n hx hb d_6_7_20 rfl (lv_at hl 1 rfl) ?_
      refine m_la hx hb hG hP (isDi_i2 h_p0) (isDi_t2 h_p0) ok100 d_6_7_21 ?_
      refine lv_aload_n hx hb d_6_7_22 rfl (lv_at hl 0 rfl) ?_
      refine m_gr (j := (p0 + 2)) (C := "Ballothall$Division") (T := TX4) (N := 8) (ci := 4) (k := 3) hx hb hts iX4 hown hG hP (isDi_i h_p0) (isDi_T h_p0) rfl (by decide) w_181 (fun _ h9 => h9) rfl rfl (isDi_r3 h_p0) d_6_7_23 ?_
      refine lv_iload_n hx hb d_6_7_26 rfl (lv_at hl 2 rfl) ?_
      refine m_la hx hb hG hP (isDi_i2 h_p0) (isDi_t2 h_p0) ok101 d_6_7_27 ?_
      refine W.lcmp hx hb d_6_7_28 ?_
      refine nrm (cmp_val (a := (M (p0 + 2) x1.toNat)) (b := (M (p0 + 2) x2.toNat)) ok102 ok103) ?_
      refine lv_if_le (tgt := 36) hx hb d_6_7_29 (by decide) (fun c9 => ?_) (fun c9 => ?_)
      · have h := ite_t ((cmp_le (M (p0 + 2) x1.toNat) (M (p0 + 2) x2.toNat)).mp c9) h
        refine lv_iconst (v := oI 0) hx hb d_6_7_36 (by decide +kernel) ?_
        obtain rfl := in1 h
        exact W.zret hx hb hr rfl (fun t ht hW => qkA hP hD hS (fun k => k) rfl rfl ht) hS.2.2 d_6_7_37
      · have h := ite_f (fun q => c9 ((cmp_le (M (p0 + 2) x1.toNat) (M (p0 + 2) x2.toNat)).mpr q)) h
        refine lv_iconst (v := oI 1) hx hb d_6_7_32 (by decide +kernel) ?_
        refine lv_goto (tgt := 37) hx hb d_6_7_33 (by decide) ?_
        obtain rfl := in1 h
        exact W.zret hx hb hr rfl (fun t ht hW => qkA hP hD hS (fun k => k) rfl rfl ht) hS.2.2 d_6_7_37
  exact key _ _ _ hts hP hS
set_option maxRecDepth 100000 in
set_option maxHeartbeats 4000000 in
theorem b_Di_giveToGreatestRemainder_4b (l : Launch) (z : Zz) (ad : Nat → Nat) (E : Ev) (M : Mm) (q0 : Nat) (x1 : Int) (x2 : Int) (t : Nat) (w1 : Int) (w2 : Int) (N : Mm) {Q : State → Prop} {p : Program} {e : Env} {s : State} {m : MethodId} {below : List Frame} {meth : Method} {c : Code} {A : Nat → Prop} {args : Array Value} (hx : p.tables.exec = Jvm.exec) (hb : c.code = prog_6_method_10_code) (hml : c.maxLocals = 3) (hts : ∀ w ∈ WG, w.before args s = true) (hown : s.vm.findClass "Ballothall$Division" = some m.cls) (hlocks : meth.locks = false) (hA : ∀ q, s.heap.size ≤ q → A q) (hG : KG z s) (hZ : FZ z A s) (hL : Lay E) (h : Di_giveToGreatestRemainder_4b E M q0 x1 x2 = some (t, w1, w2, N)) (k0 : t = 0 → ∀ (H : Heap) (locs : List Loc) (ls : Array Slot), va_P z.1 classes (wv z ad E N) H → va_D A (wv z ad E N) → va_S A s.heap H locs → lv_has ls 3 [(0, .ref (ad q0)), (1, .int (oI w1)), (2, .int (oI w2))] → W p l e (rmK 1 42 0 0) s m args below meth c H locs 0 0 Q (F0 m 4 ls [])) (k1 : t = 1 → ∀ (H : Heap) (locs : List Loc) (ls : Array Slot), va_P z.1 classes (wv z ad E N) H → va_D A (wv z ad E N) → va_S A s.heap H locs → lv_has ls 3 [(0, .ref (ad q0)), (1, .int (oI w1))] → W p l e (rmK 1 42 0 0) s m args below meth c H locs 0 0 Q (F0 m 61 ls [])) : ∀ (H : Heap) (locs : List Loc) (ls : Array Slot), va_P z.1 classes (wv z ad E M) H → va_D A (wv z ad E M) → va_S A s.heap H locs → lv_has ls 3 [(0, .ref (ad q0)), (1, .int (oI x1)), (2, .int (oI x2))] → W p l e (rmK 1 42 0 0) s m args below meth c H locs 0 0 Q (F0 m 4 ls []) := by
  intro H locs ls hP hD hS hl
  unfold Di_giveToGreatestRemainder_4b at h
  obtain ⟨h_q0, h⟩ := ck_e h
  refine lv_iload_n hx hb d_6_10_4 rfl (lv_at hl 2 rfl) ?_
  refine lv_aload_n hx hb d_6_10_5 rfl (lv_at hl 0 rfl) ?_
  refine m_gi (C := "Ballothall$Division") (T := TX4) (N := 8) (ci := 4) (k := 0) hx hb hts iX4 hown hG hP (isDi_i h_q0) (isDi_T h_q0) rfl (by decide) w_175 (fun _ h9 => h9) rfl rfl d_6_10_6 ?_
  obtain ⟨ok100, h⟩ := ck_e h
  obtain ⟨ok101, h⟩ := ck_e h
  refine lv_icmp_ge (tgt := 61) hx hb d_6_10_9 (by decide) (fun c9 => ?_) (fun c9 => ?_)
  · have h := ite_t ((oI_le (a := (M q0 0)) (b := x2) ok101 ok100).mp c9) h
    obtain ⟨rfl, rfl, rfl, rfl⟩ := in4 h
    exact k1 rfl H locs ls hP hD hS (lv_sub hl [0, 1] rfl)
  · have h := ite_f (fun q => c9 ((oI_le (a := (M q0 0)) (b := x2) ok101 ok100).mpr q)) h
    refine lv_aload_n hx hb d_6_10_12 rfl (lv_at hl 0 rfl) ?_
    refine m_gr (j := (q0 + 5)) (C := "Ballothall$Division") (T := TX4) (N := 8) (ci := 4) (k := 6) hx hb hts iX4 hown hG hP (isDi_i h_q0) (isDi_T h_q0) rfl (by decide) w_185 (fun _ h9 => h9) rfl rfl (isDi_r6 h_q0) d_6_10_13 ?_
    refine lv_iload_n hx hb d_6_10_16 rfl (lv_at hl 2 rfl) ?_
    obtain ⟨ok102, h⟩ := ck_e h
    refine m_la hx hb hG hP (isDi_i5 h_q0) (isDi_t5 h_q0) ok102 d_6_10_17 ?_
    refine lv_aload_n hx hb d_6_10_18 rfl (lv_at hl 0 rfl) ?_
    refine m_gr (j := (q0 + 5)) (C := "Ballothall$Division") (T := TX4) (N := 8) (ci := 4) (k := 6) hx hb hts iX4 hown hG hP (isDi_i h_q0) (isDi_T h_q0) rfl (by decide) w_185 (fun _ h9 => h9) rfl rfl (isDi_r6 h_q0) d_6_10_19 ?_
    refine lv_iload_n hx hb d_6_10_22 rfl (lv_at hl 1 rfl) ?_
    obtain ⟨ok103, h⟩ := ck_e h
    refine m_la hx hb hG hP (isDi_i5 h_q0) (isDi_t5 h_q0) ok103 d_6_10_23 ?_
    obtain ⟨ok104, h⟩ := ck_e h
    obtain ⟨ok105, h⟩ := ck_e h
    refine W.lcmp hx hb d_6_10_24 ?_
    refine nrm (cmp_val (a := (M (q0 + 5) x2.toNat)) (b := (M (q0 + 5) x1.toNat)) ok104 ok105) ?_
    refine lv_if_gt (tgt := 53) hx hb d_6_10_25 (by decide) (fun c9 => ?_) (fun c9 => ?_)
    · have h := ite_t ((cmp_gt (M (q0 + 5) x2.toNat) (M (q0 + 5) x1.toNat)).mp c9) h
      refine lv_iload_n hx hb d_6_10_53 rfl (lv_at hl 2 rfl) ?_
      refine lv_istore_n (lv' := [(1, .int (oI x2)), (0, .ref (ad q0)), (2, .int (oI x2))]) hx hb d_6_10_54 rfl hl (by decide) rfl (fun ls hl => ?_)
      refine lv_iinc (v := oI (x2 + 1)) (lv' := [(2, .int (oI (x2 + 1))), (1, .int (oI x2)), (0, .ref (ad q0))]) hx hb d_6_10_55 hl (k := 2) rfl (oI_add x2 1) (by decide) rfl (fun ls hl => ?_)
      refine lv_goto (tgt := 4) hx hb d_6_10_58 (by decide) ?_
      obtain ⟨rfl, rfl, rfl, rfl⟩ := in4 h
      exact k0 rfl H locs ls hP hD hS (lv_sub hl [2, 1, 0] rfl)
    · have h := ite_f (fun q => c9 ((cmp_gt (M (q0 + 5) x2.toNat) (M (q0 + 5) x1.toNat)).mpr q)) h
      refine lv_aload_n hx hb d_6_10_28 rfl (lv_at hl 0 rfl) ?_
      refine m_gr (j := (q0 + 5)) (C := "Ballothall$Division") (T := TX4) (N := 8) (ci := 4) (k := 6) hx hb hts iX4 hown hG hP (isDi_i h_q0) (isDi_T h_q0) rfl (by decide) w_185 (fun _ h9 => h9) rfl rfl (isDi_r6 h_q0) d_6_10_29 ?_
      refine lv_iload_n hx hb d_6_10_32 rfl (lv_at hl 2 rfl) ?_
      refine m_la hx hb hG hP (isDi_i5 h_q0) (isDi_t5 h_q0) ok102 d_6_10_33 ?_
      refine lv_aload_n hx hb d_6_10_34 rfl (lv_at hl 0 rfl) ?_
      refine m_gr (j := (q0 + 5)) (C := "Ballothall$Division") (T := TX4) (N := 8) (ci := 4) (k := 6) hx hb hts iX4 hown hG hP (isDi_i h_q0) (isDi_T h_q0) rfl (by decide) w_185 (fun _ h9 => h9) rfl rfl (isDi_r6 h_q0) d_6_10_35 ?_
      refine lv_iload_n hx hb d_6_10_38 rfl (lv_at hl 1 rfl) ?_
      refine m_la hx hb hG hP (isDi_i5 h_q0) (isDi_t5 h_q0) ok103 d_6_10_39 ?_
      refine W.lcmp hx hb d_6_10_40 ?_
      refine nrm (cmp_val (a := (M (q0 + 5) x2.toNat)) (b := (M (q0 + 5) x1.toNat)) ok104 ok105) ?_
      refine lv_if_ne (tgt := 55) hx hb d_6_10_41 (by decide) (fun c9 => ?_) (fun c9 => ?_)
      · have h := ite_f (fun q => c9 ((cmp_eq (M (q0 + 5) x2.toNat) (M (q0 + 5) x1.toNat)).mpr q)) h
        refine lv_iinc (v := oI (x2 + 1)) (lv' := [(2, .int (oI (x2 + 1))), (0, .ref (ad q0)), (1, .int (oI x1))]) hx hb d_6_10_55 hl (k := 2) rfl (oI_add x2 1) (by decide) rfl (fun ls hl => ?_)
        refine lv_goto (tgt := 4) hx hb d_6_10_58 (by decide) ?_
        obtain ⟨rfl, rfl, rfl, rfl⟩ := in4 h
        exact k0 rfl H locs ls hP hD hS (lv_sub hl [1, 2, 0] rfl)
      · have h := ite_t ((cmp_eq (M (q0 + 5) x2.toNat) (M (q0 + 5) x1.toNat)).mp c9) h
        refine lv_aload_n hx hb d_6_10_44 rfl (lv_at hl 0 rfl) ?_
        refine lv_iload_n hx hb d_6_10_45 rfl (lv_at hl 2 rfl) ?_
        refine lv_iload_n hx hb d_6_10_46 rfl (lv_at hl 1 rfl) ?_
        obtain ⟨r106, g106, h⟩ := bd_e h
        refine kV (As := [.int (oI x2), .int (oI x1)]) (rest := []) (s_Di_winsTie l z ad E M q0 x2 x1 r106 hL g106) hx hb hml hown hts w_1565 w_1562 w_1564 w_s_84fd95 w_6 md_77b7c9 ⟨Nat.le_of_ble_eq_true rfl, Nat.le_of_ble_eq_true rfl⟩ hG hZ hP hD hS hA q0 (wv_o (ci := 4) (isDi_i h_q0) (isDi_T h_q0)) rfl rfl rfl hl.1 rfl (Nat.le_of_ble_eq_true rfl) d_6_10_47 ⟨Nat.le_of_ble_eq_true rfl, Nat.le_of_ble_eq_true rfl⟩ (fun _ H locs hP hD hS => ?_)
        have hP : va_P z.1 classes (wv z ad E M) H := hP
        have hD : va_D A (wv z ad E M) := hD
        refine W.eq (g2 := F0 m 50 ls [.int (oI r106)]) rfl ?_
        obtain ⟨ok107, h⟩ := ck_e h
        refine lv_if_eq (tgt := 55) hx hb d_6_10_50 (by decide) (fun c9 => ?_) (fun c9 => ?_)
        · have h := ite_t ((oI_eq0 ok107).mp c9) h
          refine lv_iinc (v := oI (x2 + 1)) (lv' := [(2, .int (oI (x2 + 1))), (0, .ref (ad q0)), (1, .int (oI x1))]) hx hb d_6_10_55 hl (k := 2) rfl (oI_add x2 1) (by decide) rfl (fun ls hl => ?_)
          refine lv_goto (tgt := 4) hx hb d_6_10_58 (by decide) ?_
          obtain ⟨rfl, rfl, rfl, rfl⟩ := in4 h
          exact k0 rfl H locs ls hP hD hS (lv_sub hl [1, 2, 0] rfl)
        · have h := ite_f (fun q => c9 ((oI_eq0 ok107).mpr q)) h
          refine lv_iload_n hx hb d_6_10_53 rfl (lv_at hl 2 rfl) ?_
          refine lv_istore_n (lv' := [(1, .int (oI x2)), (0, .ref (ad q0)), (2, .int (oI x2))]) hx hb d_6_10_54 rfl hl (by decide) rfl (fun ls hl => ?_)
          refine lv_iinc (v := oI (x2 + 1)) (lv' := [(2, .int (oI (x2 + 1))), (1, .int (oI x2)), (0, .ref (ad q0))]) hx hb d_6_10_55 hl (k := 2) rfl (oI_add x2 1) (by decide) rfl (fun ls hl => ?_)
          refine lv_goto (tgt := 4) hx hb d_6_10_58 (by decide) ?_
          obtain ⟨rfl, rfl, rfl, rfl⟩ := in4 h
          exact k0 rfl H locs ls hP hD hS (lv_sub hl [2, 1, 0] rfl)
set_option maxRecDepth 100000 in
set_option maxHeartbeats 4000000 in
theorem s_Di_giveToGreatestRemainder_4 (l : Launch) (z : Zz) (ad : Nat → Nat) (E : Ev) (q0 : Nat) {Q : State → Prop} {p : Program} {e : Env} {s : State} {m : MethodId} {below : List Frame} {meth : Method} {c : Code} {A : Nat → Prop} {args : Array Value} (hx : p.tables.exec = Jvm.exec) (hb : c.code = prog_6_method_10_code) (hml : c.maxLocals = 3) (hts : ∀ w ∈ WG, w.before args s = true) (hown : s.vm.findClass "Ballothall$Division" = some m.cls) (hlocks : meth.locks = false) (hA : ∀ q, s.heap.size ≤ q → A q) (hG : KG z s) (hZ : FZ z A s) (hL : Lay E) : ∀ (fu : Nat) (M : Mm) (x1 : Int) (x2 : Int) (t : Nat) (w1 : Int) (w2 : Int) (N : Mm), l_Di_giveToGreatestRemainder_4 E q0 fu M x1 x2 = some (t, w1, w2, N) → (t = 1 → ∀ (H : Heap) (locs : List Loc) (ls : Array Slot), va_P z.1 classes (wv z ad E N) H → va_D A (wv z ad E N) → va_S A s.heap H locs → lv_has ls 3 [(0, .ref (ad q0)), (1, .int (oI w1))] → W p l e (rmK 1 42 0 0) s m args below meth c H locs 0 0 Q (F0 m 61 ls [])) → ∀ (H : Heap) (locs : List Loc) (ls : Array Slot), va_P z.1 classes (wv z ad E M) H → va_D A (wv z ad E M) → va_S A s.heap H locs → lv_has ls 3 [(0, .ref (ad q0)), (1, .int (oI x1)), (2, .int (oI x2))] → W p l e (rmK 1 42 0 0) s m args below meth c H locs 0 0 Q (F0 m 4 ls []) := by
  intro fu
  induction fu with
  | zero =>
    intro M x1 x2 t w1 w2 N h
    have h : (none : Option (Nat × Int × Int × Mm)) = some _ := h
    cases h
  | succ fu ih =>
    intro M x1 x2 t w1 w2 N h k1 H locs ls hP hD hS hl
    obtain ⟨⟨t0, w10, w20, N9⟩, g0, h⟩ := bd_e h
    refine b_Di_giveToGreatestRemainder_4b l z ad E M q0 x1 x2 t0 w10 w20 N9 hx hb hml hts hown hlocks hA hG hZ hL g0 (fun e0 => ?_) (fun e0 => ?_) H locs ls hP hD hS hl
    · subst e0
      have h := ite_t rfl h
      exact ih N9 w10 w20 t w1 w2 N h k1
    · subst e0
      have h := ite_f (by decide) h
      obtain ⟨rfl, rfl, rfl, rfl⟩ := in4 h
      exact k1 rfl
set_option maxRecDepth 100000 in
set_option maxHeartbeats 4000000 in
theorem s_Di_giveToGreatestRemainder (l : Launch) (z : Zz) (ad : Nat → Nat) (E : Ev) (M : Mm) (p0 : Nat) (N : Mm) (hL : Lay E) (h : f_Di_giveToGreatestRemainder E M p0 = some N) : CT l z ⟨"Ballothall$Division", "giveToGreatestRemainder", "()V"⟩ prog_6_method_10_code 3 none [.ref (ad p0)] (wv z ad E M) 1 42 0 0 (fun _ => none) (fun _ => (wv z ad E N)) := by
  refine CT.of (own := "Ballothall$Division") (by decide +kernel) (Nat.le_of_ble_eq_true rfl) rfl (fun p e s m below meth c A ls hx hb hml hr hts hown hlocks hin hA hG hZ hP hD hS hl => ?_)
  have hl : lv_has ls 3 [(0, .ref (ad p0))] := hl
  have key : ∀ (H : Heap) (locs : List Loc) (args : Array Value), (∀ w ∈ WG, w.before args s = true) → va_P z.1 classes (wv z ad E M) H → va_S A s.heap H locs → W p l e (rmK 1 42 0 0) s m args below meth c H locs 0 0 (MQ below (QK z A (fun _ => none) (fun _ => (wv z ad E N))) args s 0 0 A) (F0 m 0 ls []) := by
    intro H locs args hts hP hS
    unfold f_Di_giveToGreatestRemainder at h
    obtain ⟨h_p0, h⟩ := ck_e h
    refine lv_iconst (v := oI 0) hx hb d_6_10_0 (by decide +kernel) ?_
    refine lv_istore_n (lv' := [(1, .int (oI 0)), (0, .ref (ad p0))]) hx hb d_6_10_1 rfl hl (by decide) rfl (fun ls hl => ?_)
    refine lv_iconst (v := oI 1) hx hb d_6_10_2 (by decide +kernel) ?_
    refine lv_istore_n (lv' := [(2, .int (oI 1)), (1, .int (oI 0)), (0, .ref (ad p0))]) hx hb d_6_10_3 rfl hl (by decide) rfl (fun ls hl => ?_)
    obtain ⟨⟨t108, v108_1, v108_2, M108⟩, g108, h⟩ := bd_e h
    obtain ⟨ok108, h⟩ := ck_e h
    refine s_Di_giveToGreatestRemainder_4 l z ad E p0 hx hb hml hts hown hlocks hA hG hZ hL FU M 0 1 t108 v108_1 v108_2 M108 g108 (fun e108 H locs ls hP hD hS hl => ?_) H locs ls hP hD hS (lv_sub hl [2, 1, 0] rfl)
    refine lv_aload_n hx hb d_6_10_61 rfl (lv_at hl 0 rfl) ?_
    refine lv_iload_n hx hb d_6_10_62 rfl (lv_at hl 1 rfl) ?_
    obtain ⟨M109, g109, h⟩ := bd_e h
    refine kV (As := [.int (oI v108_1)]) (rest := []) (s_Di_give l z ad E M108 p0 v108_1 M109 hL g109) hx hb hml hown hts w_1557 w_1554 w_1556 w_s_8d192b w_6 md_306e32 ⟨Nat.le_of_ble_eq_true rfl, Nat.le_of_ble_eq_true rfl⟩ hG hZ hP hD hS hA p0 (wv_o (ci := 4) (isDi_i h_p0) (isDi_T h_p0)) rfl rfl rfl hl.1 rfl (Nat.le_of_ble_eq_true rfl) d_6_10_63 ⟨Nat.le_of_ble_eq_true rfl, Nat.le_of_ble_eq_true rfl⟩ (fun _ H locs hP hD hS => ?_)
    have hP : va_P z.1 classes (wv z ad E M109) H := hP
    have hD : va_D A (wv z ad E M109) := hD
    refine W.eq (g2 := F0 m 66 ls []) rfl ?_
    refine lv_aload_n hx hb d_6_10_66 rfl (lv_at hl 0 rfl) ?_
    refine m_gr (j := (p0 + 5)) (C := "Ballothall$Division") (T := TX4) (N := 8) (ci := 4) (k := 6) hx hb hts iX4 hown hG hP (isDi_i h_p0) (isDi_T h_p0) rfl (by decide) w_185 (fun _ h9 => h9) rfl rfl (isDi_r6 h_p0) d_6_10_67 ?_
    refine lv_iload_n hx hb d_6_10_70 rfl (lv_at hl 1 rfl) ?_
    refine lv_ldc2 hx hb hown (hts _ w_1566) d_6_10_71 ?_
    refine nrmL (x1 := oJ (-1)) (by decide +kernel) ?_
    obtain ⟨ok110, h⟩ := ck_e h
    refine m_ls hx hb hG hP hD hS (isDi_i5 h_p0) (isDi_t5 h_p0) ok110 d_6_10_74 (fun H locs hP hD hS => ?_)
    have hP : va_P z.1 classes (wv z ad E (u2 M109 (p0 + 5) v108_1.toNat (-1))) H := hP
    have hD : va_D A (wv z ad E (u2 M109 (p0 + 5) v108_1.toNat (-1))) := hD
    obtain rfl := in1 h
    exact W.vret hx hb hr (fun t ht hW => qkA hP hD hS (fun k => k) rfl rfl ht) hS.2.2 d_6_10_75
  exact key _ _ _ hts hP hS
set_option maxRecDepth 100000 in
set_option maxHeartbeats 4000000 in
theorem b_Di_distributeByRemainders_5b (l : Launch) (z : Zz) (ad : Nat → Nat) (E : Ev) (M : Mm) (q0 : Nat) (x1 : Int) (x2 : Int) (x4 : Int) (t : Nat) (w2 : Int) (w4 : Int) (N : Mm) {Q : State → Prop} {p : Program} {e : Env} {s : State} {m : MethodId} {below : List Frame} {meth : Method} {c : Code} {A : Nat → Prop} {args : Array Value} (hx : p.tables.exec = Jvm.exec) (hb : c.code = prog_6_method_9_code) (hml : c.maxLocals = 8) (hts : ∀ w ∈ WG, w.before args s = true) (hown : s.vm.findClass "Ballothall$Division" = some m.cls) (hlocks : meth.locks = false) (hA : ∀ q, s.heap.size ≤ q → A q) (hG : KG z s) (hZ : FZ z A s) (hL : Lay E) (h : Di_distributeByRemainders_5b E M q0 x1 x2 x4 = some (t, w2, w4, N)) (k0 : t = 0 → ∀ (H : Heap) (locs : List Loc) (ls : Array Slot), va_P z.1 classes (wv z ad E N) H → va_D A (wv z ad E N) → va_S A s.heap H locs → lv_has ls 8 [(0, .ref (ad q0)), (1, .int (oI x1)), (2, .long (oJ w2)), (4, .int (oI w4))] → W p l e (rmK 2 64 0 0) s m args below meth c H locs 0 0 Q (F0 m 5 ls [])) (k1 : t = 1 → ∀ (H : Heap) (locs : List Loc) (ls : Array Slot), va_P z.1 classes (wv z ad E N) H → va_D A (wv z ad E N) → va_S A s.heap H locs → lv_has ls 8 [(0, .ref (ad q0)), (1, .int (oI x1)), (2, .long (oJ w2))] → W p l e (rmK 2 64 0 0) s m args below meth c H locs 0 0 Q (F0 m 30 ls [])) : ∀ (H : Heap) (locs : List Loc) (ls : Array Slot), va_P z.1 classes (wv z ad E M) H → va_D A (wv z ad E M) → va_S A s.heap H locs → lv_has ls 8 [(0, .ref (ad q0)), (1, .int (oI x1)), (2, .long (oJ x2)), (4, .int (oI x4))] → W p l e (rmK 2 64 0 0) s m args below meth c H locs 0 0 Q (F0 m 5 ls []) := by
  intro H locs ls hP hD hS hl
  unfold Di_distributeByRemainders_5b at h
  obtain ⟨h_q0, h⟩ := ck_e h
  refine lv_iload hx hb d_6_9_5 (lv_at hl 3 rfl) ?_
  refine lv_aload_n hx hb d_6_9_7 rfl (lv_at hl 0 rfl) ?_
  refine m_gi (C := "Ballothall$Division") (T := TX4) (N := 8) (ci := 4) (k := 0) hx hb hts iX4 hown hG hP (isDi_i h_q0) (isDi_T h_q0) rfl (by decide) w_175 (fun _ h9 => h9) rfl rfl d_6_9_8 ?_
  obtain ⟨ok100, h⟩ := ck_e h
  obtain ⟨ok101, h⟩ := ck_e h
  refine lv_icmp_ge (tgt := 30) hx hb d_6_9_11 (by decide) (fun c9 => ?_) (fun c9 => ?_)
  · have h := ite_t ((oI_le (a := (M q0 0)) (b := x4) ok101 ok100).mp c9) h
    obtain ⟨rfl, rfl, rfl, rfl⟩ := in4 h
    exact k1 rfl H locs ls hP hD hS (lv_sub hl [0, 1, 2] rfl)
  · have h := ite_f (fun q => c9 ((oI_le (a := (M q0 0)) (b := x4) ok101 ok100).mpr q)) h
    refine lv_lload_n hx hb d_6_9_14 rfl (lv_at hl 2 rfl) ?_
    refine lv_aload_n hx hb d_6_9_15 rfl (lv_at hl 0 rfl) ?_
    refine m_gr (j := (q0 + 2)) (C := "Ballothall$Division") (T := TX4) (N := 8) (ci := 4) (k := 3) hx hb hts iX4 hown hG hP (isDi_i h_q0) (isDi_T h_q0) rfl (by decide) w_181 (fun _ h9 => h9) rfl rfl (isDi_r3 h_q0) d_6_9_16 ?_
    refine lv_iload hx hb d_6_9_19 (lv_at hl 3 rfl) ?_
    obtain ⟨ok102, h⟩ := ck_e h
    refine m_la hx hb hG hP (isDi_i2 h_q0) (isDi_t2 h_q0) ok102 d_6_9_21 ?_
    refine lv_ladd hx hb d_6_9_22 ?_
    refine nrmL (oJ_add _ _) ?_
    refine lv_lstore_n (lv' := [(2, .long (oJ (x2 + (M (q0 + 2) x4.toNat)))), (0, .ref (ad q0)), (1, .int (oI x1)), (4, .int (oI x4))]) hx hb d_6_9_23 rfl hl (by decide) rfl (fun ls hl => ?_)
    refine lv_iinc (v := oI (x4 + 1)) (lv' := [(4, .int (oI (x4 + 1))), (2, .long (oJ (x2 + (M (q0 + 2) x4.toNat)))), (0, .ref (ad q0)), (1, .int (oI x1))]) hx hb d_6_9_24 hl (k := 3) rfl (oI_add x4 1) (by decide) rfl (fun ls hl => ?_)
    refine lv_goto (tgt := 5) hx hb d_6_9_27 (by decide) ?_
    obtain ⟨rfl, rfl, rfl, rfl⟩ := in4 h
    exact k0 rfl H locs ls hP hD hS (lv_sub hl [2, 3, 1, 0] rfl)
set_option maxRecDepth 100000 in
set_option maxHeartbeats 4000000 in
theorem s_Di_distributeByRemainders_5 (l : Launch) (z : Zz) (ad : Nat → Nat) (E : Ev) (q0 : Nat) (x1 : Int) {Q : State → Prop} {p : Program} {e : Env} {s : State} {m : MethodId} {below : List Frame} {meth : Method} {c : Code} {A : Nat → Prop} {args : Array Value} (hx : p.tables.exec = Jvm.exec) (hb : c.code = prog_6_method_9_code) (hml : c.maxLocals = 8) (hts : ∀ w ∈ WG, w.before args s = true) (hown : s.vm.findClass "Ballothall$Division" = some m.cls) (hlocks : meth.locks = false) (hA : ∀ q, s.heap.size ≤ q → A q) (hG : KG z s) (hZ : FZ z A s) (hL : Lay E) : ∀ (fu : Nat) (M : Mm) (x2 : Int) (x4 : Int) (t : Nat) (w2 : Int) (w4 : Int) (N : Mm), l_Di_distributeByRemainders_5 E q0 x1 fu M x2 x4 = some (t, w2, w4, N) → (t = 1 → ∀ (H : Heap) (locs : List Loc) (ls : Array Slot), va_P z.1 classes (wv z ad E N) H → va_D A (wv z ad E N) → va_S A s.heap H locs → lv_has ls 8 [(0, .ref (ad q0)), (1, .int (oI x1)), (2, .long (oJ w2))] → W p l e (rmK 2 64 0 0) s m args below meth c H locs 0 0 Q (F0 m 30 ls [])) → ∀ (H : Heap) (locs : List Loc) (ls : Array Slot), va_P z.1 classes (wv z ad E M) H → va_D A (wv z ad E M) → va_S A s.heap H locs → lv_has ls 8 [(0, .ref (ad q0)), (1, .int (oI x1)), (2, .long (oJ x2)), (4, .int (oI x4))] → W p l e (rmK 2 64 0 0) s m args below meth c H locs 0 0 Q (F0 m 5 ls []) := by
  intro fu
  induction fu with
  | zero =>
    intro M x2 x4 t w2 w4 N h
    have h : (none : Option (Nat × Int × Int × Mm)) = some _ := h
    cases h
  | succ fu ih =>
    intro M x2 x4 t w2 w4 N h k1 H locs ls hP hD hS hl
    obtain ⟨⟨t0, w20, w40, N9⟩, g0, h⟩ := bd_e h
    refine b_Di_distributeByRemainders_5b l z ad E M q0 x1 x2 x4 t0 w20 w40 N9 hx hb hml hts hown hlocks hA hG hZ hL g0 (fun e0 => ?_) (fun e0 => ?_) H locs ls hP hD hS hl
    · subst e0
      have h := ite_t rfl h
      exact ih N9 w20 w40 t w2 w4 N h k1
    · subst e0
      have h := ite_f (by decide) h
      obtain ⟨rfl, rfl, rfl, rfl⟩ := in4 h
      exact k1 rfl
set_option maxRecDepth 100000 in
set_option maxHeartbeats 4000000 in
theorem b_Di_distributeByRemainders_89b (l : Launch) (z : Zz) (ad : Nat → Nat) (E : Ev) (M : Mm) (q0 : Nat) (x1 : Int) (x2 : Int) (x4 : Int) (x5 : Int) (x6 : Int) (x7 : Int) (t : Nat) (w7 : Int) (N : Mm) {Q : State → Prop} {p : Program} {e : Env} {s : State} {m : MethodId} {below : List Frame} {meth : Method} {c : Code} {A : Nat → Prop} {args : Array Value} (hx : p.tables.exec = Jvm.exec) (hb : c.code = prog_6_method_9_code) (hml : c.maxLocals = 8) (hts : ∀ w ∈ WG, w.before args s = true) (hown : s.vm.findClass "Ballothall$Division" = some m.cls) (hlocks : meth.locks = false) (hA : ∀ q, s.heap.size ≤ q → A q) (hG : KG z s) (hZ : FZ z A s) (hL : Lay E) (h : Di_distributeByRemainders_89b E M q0 x1 x2 x4 x5 x6 x7 = some (t, w7, N)) (k0 : t = 0 → ∀ (H : Heap) (locs : List Loc) (ls : Array Slot), va_P z.1 classes (wv z ad E N) H → va_D A (wv z ad E N) → va_S A s.heap H locs → lv_has ls 8 [(0, .ref (ad q0)), (1, .int (oI x1)), (2, .long (oJ x2)), (4, .int (oI x4)), (5, .int (oI x5)), (6, .int (oI x6)), (7, .int (oI w7))] → W p l e (rmK 2 64 0 0) s m args below meth c H locs 0 0 Q (F0 m 89 ls [])) (k1 : t = 1 → ∀ (H : Heap) (locs : List Loc) (ls : Array Slot), va_P z.1 classes (wv z ad E N) H → va_D A (wv z ad E N) → va_S A s.heap H locs → lv_has ls 8 [(0, .ref (ad q0)), (1, .int (oI x1)), (2, .long (oJ x2)), (4, .int (oI x4)), (5, .int (oI x5)), (6, .int (oI x6))] → W p l e (rmK 2 64 0 0) s m args below meth c H locs 0 0 Q (F0 m 108 ls [])) : ∀ (H : Heap) (locs : List Loc) (ls : Array Slot), va_P z.1 classes (wv z ad E M) H → va_D A (wv z ad E M) → va_S A s.heap H locs → lv_has ls 8 [(0, .ref (ad q0)), (1, .int (oI x1)), (2, .long (oJ x2)), (4, .int (oI x4)), (5, .int (oI x5)), (6, .int (oI x6)), (7, .int (oI x7))] → W p l e (rmK 2 64 0 0) s m args below meth c H locs 0 0 Q (F0 m 89 ls []) := by
  intro H locs ls hP hD hS hl
  unfold Di_distributeByRemainders_89b at h
  obtain ⟨h_q0, h⟩ := ck_e h
  refine lv_iload hx hb d_6_9_89 (lv_at hl 6 rfl) ?_
  refine lv_iload hx hb d_6_9_91 (lv_at hl 5 rfl) ?_
  obtain ⟨ok114, h⟩ := ck_e h
  obtain ⟨ok115, h⟩ := ck_e h
  refine lv_icmp_ge (tgt := 108) hx hb d_6_9_93 (by decide) (fun c9 => ?_) (fun c9 => ?_)
  · have h := ite_t ((oI_le (a := x6) (b := x7) ok115 ok114).mp c9) h
    obtain ⟨rfl, rfl, rfl⟩ := in3 h
    exact k1 rfl H locs ls hP hD hS (lv_sub hl [0, 1, 2, 3, 4, 5] rfl)
  · have h := ite_f (fun q => c9 ((oI_le (a := x6) (b := x7) ok115 ok114).mpr q)) h
    refine lv_aload_n hx hb d_6_9_96 rfl (lv_at hl 0 rfl) ?_
    refine lv_iload hx hb d_6_9_97 (lv_at hl 4 rfl) ?_
    obtain ⟨M116, g116, h⟩ := bd_e h
    refine kV (As := [.int (oI x5)]) (rest := []) (s_Di_give l z ad E M q0 x5 M116 hL g116) hx hb hml hown hts w_1557 w_1554 w_1556 w_s_8d192b w_6 md_306e32 ⟨Nat.le_of_ble_eq_true rfl, Nat.le_of_ble_eq_true rfl⟩ hG hZ hP hD hS hA q0 (wv_o (ci := 4) (isDi_i h_q0) (isDi_T h_q0)) rfl rfl rfl hl.1 rfl (Nat.le_of_ble_eq_true rfl) d_6_9_99 ⟨Nat.le_of_ble_eq_true rfl, Nat.le_of_ble_eq_true rfl⟩ (fun _ H locs hP hD hS => ?_)
    have hP : va_P z.1 classes (wv z ad E M116) H := hP
    have hD : va_D A (wv z ad E M116) := hD
    refine W.eq (g2 := F0 m 102 ls []) rfl ?_
    refine lv_iinc (v := oI (x7 + 1)) (lv' := [(7, .int (oI (x7 + 1))), (0, .ref (ad q0)), (1, .int (oI x1)), (2, .long (oJ x2)), (4, .int (oI x4)), (5, .int (oI x5)), (6, .int (oI x6))]) hx hb d_6_9_102 hl (k := 6) rfl (oI_add x7 1) (by decide) rfl (fun ls hl => ?_)
    refine lv_goto (tgt := 89) hx hb d_6_9_105 (by decide) ?_
    obtain ⟨rfl, rfl, rfl⟩ := in3 h
    exact k0 rfl H locs ls hP hD hS (lv_sub hl [1, 2, 3, 4, 5, 6, 0] rfl)
set_option maxRecDepth 100000 in
set_option maxHeartbeats 4000000 in
theorem s_Di_distributeByRemainders_89 (l : Launch) (z : Zz) (ad : Nat → Nat) (E : Ev) (q0 : Nat) (x1 : Int) (x2 : Int) (x4 : Int) (x5 : Int) (x6 : Int) {Q : State → Prop} {p : Program} {e : Env} {s : State} {m : MethodId} {below : List Frame} {meth : Method} {c : Code} {A : Nat → Prop} {args : Array Value} (hx : p.tables.exec = Jvm.exec) (hb : c.code = prog_6_method_9_code) (hml : c.maxLocals = 8) (hts : ∀ w ∈ WG, w.before args s = true) (hown : s.vm.findClass "Ballothall$Division" = some m.cls) (hlocks : meth.locks = false) (hA : ∀ q, s.heap.size ≤ q → A q) (hG : KG z s) (hZ : FZ z A s) (hL : Lay E) : ∀ (fu : Nat) (M : Mm) (x7 : Int) (t : Nat) (w7 : Int) (N : Mm), l_Di_distributeByRemainders_89 E q0 x1 x2 x4 x5 x6 fu M x7 = some (t, w7, N) → (t = 1 → ∀ (H : Heap) (locs : List Loc) (ls : Array Slot), va_P z.1 classes (wv z ad E N) H → va_D A (wv z ad E N) → va_S A s.heap H locs → lv_has ls 8 [(0, .ref (ad q0)), (1, .int (oI x1)), (2, .long (oJ x2)), (4, .int (oI x4)), (5, .int (oI x5)), (6, .int (oI x6))] → W p l e (rmK 2 64 0 0) s m args below meth c H locs 0 0 Q (F0 m 108 ls [])) → ∀ (H : Heap) (locs : List Loc) (ls : Array Slot), va_P z.1 classes (wv z ad E M) H → va_D A (wv z ad E M) → va_S A s.heap H locs → lv_has ls 8 [(0, .ref (ad q0)), (1, .int (oI x1)), (2, .long (oJ x2)), (4, .int (oI x4)), (5, .int (oI x5)), (6, .int (oI x6)), (7, .int (oI x7))] → W p l e (rmK 2 64 0 0) s m args below meth c H locs 0 0 Q (F0 m 89 ls []) := by
  intro fu
  induction fu with
  | zero =>
    intro M x7 t w7 N h
    have h : (none : Option (Nat × Int × Mm)) = some _ := h
    cases h
  | succ fu ih =>
    intro M x7 t w7 N h k1 H locs ls hP hD hS hl
    obtain ⟨⟨t0, w70, N9⟩, g0, h⟩ := bd_e h
    refine b_Di_distributeByRemainders_89b l z ad E M q0 x1 x2 x4 x5 x6 x7 t0 w70 N9 hx hb hml hts hown hlocks hA hG hZ hL g0 (fun e0 => ?_) (fun e0 => ?_) H locs ls hP hD hS hl
    · subst e0
      have h := ite_t rfl h
      exact ih N9 w70 t w7 N h k1
    · subst e0
      have h := ite_f (by decide) h
      obtain ⟨rfl, rfl, rfl⟩ := in3 h
      exact k1 rfl
set_option maxRecDepth 100000 in
set_option maxHeartbeats 4000000 in
theorem b_Di_distributeByRemainders_43b (l : Launch) (z : Zz) (ad : Nat → Nat) (E : Ev) (M : Mm) (q0 : Nat) (x1 : Int) (x2 : Int) (x4 : Int) (x5 : Int) (t : Nat) (w4 : Int) (w5 : Int) (N : Mm) {Q : State → Prop} {p : Program} {e : Env} {s : State} {m : MethodId} {below : List Frame} {meth : Method} {c : Code} {A : Nat → Prop} {args : Array Value} (hx : p.tables.exec = Jvm.exec) (hb : c.code = prog_6_method_9_code) (hml : c.maxLocals = 8) (hts : ∀ w ∈ WG, w.before args s = true) (hown : s.vm.findClass "Ballothall$Division" = some m.cls) (hlocks : meth.locks = false) (hA : ∀ q, s.heap.size ≤ q → A q) (hG : KG z s) (hZ : FZ z A s) (hL : Lay E) (h : Di_distributeByRemainders_43b E M q0 x1 x2 x4 x5 = some (t, w4, w5, N)) (k0 : t = 0 → ∀ (H : Heap) (locs : List Loc) (ls : Array Slot), va_P z.1 classes (wv z ad E N) H → va_D A (wv z ad E N) → va_S A s.heap H locs → lv_has ls 8 [(0, .ref (ad q0)), (1, .int (oI x1)), (2, .long (oJ x2)), (4, .int (oI w4)), (5, .int (oI w5))] → W p l e (rmK 2 64 0 0) s m args below meth c H locs 0 0 Q (F0 m 43 ls [])) (k1 : t = 1 → ∀ (H : Heap) (locs : List Loc) (ls : Array Slot), va_P z.1 classes (wv z ad E N) H → va_D A (wv z ad E N) → va_S A s.heap H locs → lv_has ls 8 [(0, .ref (ad q0)), (1, .int (oI x1)), (4, .int (oI w4))] → W p l e (rmK 2 64 0 0) s m args below meth c H locs 0 0 Q (F0 m 121 ls [])) : ∀ (H : Heap) (locs : List Loc) (ls : Array Slot), va_P z.1 classes (wv z ad E M) H → va_D A (wv z ad E M) → va_S A s.heap H locs → lv_has ls 8 [(0, .ref (ad q0)), (1, .int (oI x1)), (2, .long (oJ x2)), (4, .int (oI x4)), (5, .int (oI x5))] → W p l e (rmK 2 64 0 0) s m args below meth c H locs 0 0 Q (F0 m 43 ls []) := by
  intro H locs ls hP hD hS hl
  unfold Di_distributeByRemainders_43b at h
  obtain ⟨h_q0, h⟩ := ck_e h
  refine lv_iload hx hb d_6_9_43 (lv_at hl 4 rfl) ?_
  refine lv_aload_n hx hb d_6_9_45 rfl (lv_at hl 0 rfl) ?_
  refine m_gi (C := "Ballothall$Division") (T := TX4) (N := 8) (ci := 4) (k := 0) hx hb hts iX4 hown hG hP (isDi_i h_q0) (isDi_T h_q0) rfl (by decide) w_175 (fun _ h9 => h9) rfl rfl d_6_9_46 ?_
  obtain ⟨ok105, h⟩ := ck_e h
  obtain ⟨ok106, h⟩ := ck_e h
  refine lv_icmp_ge (tgt := 121) hx hb d_6_9_49 (by decide) (fun c9 => ?_) (fun c9 => ?_)
  · have h := ite_t ((oI_le (a := (M q0 0)) (b := x5) ok106 ok105).mp c9) h
    obtain ⟨rfl, rfl, rfl, rfl⟩ := in4 h
    exact k1 rfl H locs ls hP hD hS (lv_sub hl [0, 1, 3] rfl)
  · have h := ite_f (fun q => c9 ((oI_le (a := (M q0 0)) (b := x5) ok106 ok105).mpr q)) h
    refine lv_aload_n hx hb d_6_9_52 rfl (lv_at hl 0 rfl) ?_
    refine m_gr (j := (q0 + 2)) (C := "Ballothall$Division") (T := TX4) (N := 8) (ci := 4) (k := 3) hx hb hts iX4 hown hG hP (isDi_i h_q0) (isDi_T h_q0) rfl (by decide) w_181 (fun _ h9 => h9) rfl rfl (isDi_r3 h_q0) d_6_9_53 ?_
    refine lv_iload hx hb d_6_9_56 (lv_at hl 4 rfl) ?_
    obtain ⟨ok107, h⟩ := ck_e h
    refine m_la hx hb hG hP (isDi_i2 h_q0) (isDi_t2 h_q0) ok107 d_6_9_58 ?_
    refine lv_iload_n hx hb d_6_9_59 rfl (lv_at hl 1 rfl) ?_
    obtain ⟨ok108, h⟩ := ck_e h
    refine lv_i2l (v := oJ x1) hx hb d_6_9_60 (oI_l ok108) ?_
    refine lv_lmul hx hb d_6_9_61 ?_
    refine nrmL (oJ_mul _ _) ?_
    refine lv_lload_n hx hb d_6_9_62 rfl (lv_at hl 2 rfl) ?_
    obtain ⟨ok109, h⟩ := ck_e h
    obtain ⟨ok110, h⟩ := ck_e h
    refine lv_ldiv hx hb d_6_9_63 (oJ_nz ok110.1 ok110.2) ?_
    refine nrmL (oJ_div (a := ((M (q0 + 2) x5.toNat) * x1)) (b := x2) ok109.1 ok109.2 ok110.1 ok110.2) ?_
    refine lv_l2i (v := oI (((M (q0 + 2) x5.toNat) * x1) / x2)) hx hb d_6_9_64 (oJ_i _) ?_
    obtain ⟨v111, e111, h⟩ := nb_e h
    refine nrm (congrArg oI e111.symm) ?_
    refine lv_istore (lv' := [(6, .int (oI v111)), (0, .ref (ad q0)), (1, .int (oI x1)), (2, .long (oJ x2)), (4, .int (oI x4)), (5, .int (oI x5))]) hx hb d_6_9_65 hl (by decide) rfl (fun ls hl => ?_)
    refine lv_aload_n hx hb d_6_9_67 rfl (lv_at hl 1 rfl) ?_
    refine m_gr (j := (q0 + 5)) (C := "Ballothall$Division") (T := TX4) (N := 8) (ci := 4) (k := 6) hx hb hts iX4 hown hG hP (isDi_i h_q0) (isDi_T h_q0) rfl (by decide) w_185 (fun _ h9 => h9) rfl rfl (isDi_r6 h_q0) d_6_9_68 ?_
    refine lv_iload hx hb d_6_9_71 (lv_at hl 5 rfl) ?_
    refine lv_aload_n hx hb d_6_9_73 rfl (lv_at hl 1 rfl) ?_
    refine m_gr (j := (q0 + 2)) (C := "Ballothall$Division") (T := TX4) (N := 8) (ci := 4) (k := 3) hx hb hts iX4 hown hG hP (isDi_i h_q0) (isDi_T h_q0) rfl (by decide) w_181 (fun _ h9 => h9) rfl rfl (isDi_r3 h_q0) d_6_9_74 ?_
    refine lv_iload hx hb d_6_9_77 (lv_at hl 5 rfl) ?_
    refine m_la hx hb hG hP (isDi_i2 h_q0) (isDi_t2 h_q0) ok107 d_6_9_79 ?_
    refine lv_iload_n hx hb d_6_9_80 rfl (lv_at hl 2 rfl) ?_
    refine lv_i2l (v := oJ x1) hx hb d_6_9_81 (oI_l ok108) ?_
    refine lv_lmul hx hb d_6_9_82 ?_
    refine nrmL (oJ_mul _ _) ?_
    refine lv_lload_n hx hb d_6_9_83 rfl (lv_at hl 3 rfl) ?_
    obtain ⟨ok112, h⟩ := ck_e h
    refine lv_lrem hx hb d_6_9_84 (oJ_nz ok112.1 ok112.2) ?_
    refine nrmL (oJ_rem (a := ((M (q0 + 2) x5.toNat) * x1)) (b := x2) ok109.1 ok109.2 ok112.1 ok112.2) ?_
    obtain ⟨v113, e113, h⟩ := nb_e h
    refine nrmL (congrArg oJ e113.symm) ?_
    refine m_ls hx hb hG hP hD hS (isDi_i5 h_q0) (isDi_t5 h_q0) ok107 d_6_9_85 (fun H locs hP hD hS => ?_)
    have hP : va_P z.1 classes (wv z ad E (u2 M (q0 + 5) x5.toNat v113)) H := hP
    have hD : va_D A (wv z ad E (u2 M (q0 + 5) x5.toNat v113)) := hD
    refine lv_iconst (v := oI 0) hx hb d_6_9_86 (by decide +kernel) ?_
    refine lv_istore (lv' := [(7, .int (oI 0)), (6, .int (oI v111)), (0, .ref (ad q0)), (1, .int (oI x1)), (2, .long (oJ x2)), (4, .int (oI x4)), (5, .int (oI x5))]) hx hb d_6_9_87 hl (by decide) rfl (fun ls hl => ?_)
    obtain ⟨⟨t117, v117_7, M117⟩, g117, h⟩ := bd_e h
    obtain ⟨ok117, h⟩ := ck_e h
    refine s_Di_distributeByRemainders_89 l z ad E q0 x1 x2 x4 x5 v111 hx hb hml hts hown hlocks hA hG hZ hL FU (u2 M (q0 + 5) x5.toNat v113) 0 t117 v117_7 M117 g117 (fun e117 H locs ls hP hD hS hl => ?_) H locs ls hP hD hS (lv_sub hl [2, 3, 4, 5, 6, 1, 0] rfl)
    refine lv_iload hx hb d_6_9_108 (lv_at hl 3 rfl) ?_
    refine lv_iload hx hb d_6_9_110 (lv_at hl 5 rfl) ?_
    refine lv_iadd hx hb d_6_9_112 ?_
    refine nrm (oI_add _ _) ?_
    refine lv_istore (lv' := [(4, .int (oI (x4 + v111))), (0, .ref (ad q0)), (1, .int (oI x1)), (2, .long (oJ x2)), (5, .int (oI x5)), (6, .int (oI v111))]) hx hb d_6_9_113 hl (by decide) rfl (fun ls hl => ?_)
    refine lv_iinc (v := oI (x5 + 1)) (lv' := [(5, .int (oI (x5 + 1))), (4, .int (oI (x4 + v111))), (0, .ref (ad q0)), (1, .int (oI x1)), (2, .long (oJ x2)), (6, .int (oI v111))]) hx hb d_6_9_115 hl (k := 4) rfl (oI_add x5 1) (by decide) rfl (fun ls hl => ?_)
    refine lv_goto (tgt := 43) hx hb d_6_9_118 (by decide) ?_
    obtain ⟨rfl, rfl, rfl, rfl⟩ := in4 h
    exact k0 rfl H locs ls hP hD hS (lv_sub hl [2, 3, 4, 1, 0] rfl)
set_option maxRecDepth 100000 in
set_option maxHeartbeats 4000000 in
theorem s_Di_distributeByRemainders_43 (l : Launch) (z : Zz) (ad : Nat → Nat) (E : Ev) (q0 : Nat) (x1 : Int) (x2 : Int) {Q : State → Prop} {p : Program} {e : Env} {s : State} {m : MethodId} {below : List Frame} {meth : Method} {c : Code} {A : Nat → Prop} {args : Array Value} (hx : p.tables.exec = Jvm.exec) (hb : c.code = prog_6_method_9_code) (hml : c.maxLocals = 8) (hts : ∀ w ∈ WG, w.before args s = true) (hown : s.vm.findClass "Ballothall$Division" = some m.cls) (hlocks : meth.locks = false) (hA : ∀ q, s.heap.size ≤ q → A q) (hG : KG z s) (hZ : FZ z A s) (hL : Lay E) : ∀ (fu : Nat) (M : Mm) (x4 : Int) (x5 : Int) (t : Nat) (w4 : Int) (w5 : Int) (N : Mm), l_Di_distributeByRemainders_43 E q0 x1 x2 fu M x4 x5 = some (t, w4, w5, N) → (t = 1 → ∀ (H : Heap) (locs : List Loc) (ls : Array Slot), va_P z.1 classes (wv z ad E N) H → va_D A (wv z ad E N) → va_S A s.heap H locs → lv_has ls 8 [(0, .ref (ad q0)), (1, .int (oI x1)), (4, .int (oI w4))] → W p l e (rmK 2 64 0 0) s m args below meth c H locs 0 0 Q (F0 m 121 ls [])) → ∀ (H : Heap) (locs : List Loc) (ls : Array Slot), va_P z.1 classes (wv z ad E M) H → va_D A (wv z ad E M) → va_S A s.heap H locs → lv_has ls 8 [(0, .ref (ad q0)), (1, .int (oI x1)), (2, .long (oJ x2)), (4, .int (oI x4)), (5, .int (oI x5))] → W p l e (rmK 2 64 0 0) s m args below meth c H locs 0 0 Q (F0 m 43 ls []) := by
  intro fu
  induction fu with
  | zero =>
    intro M x4 x5 t w4 w5 N h
    have h : (none : Option (Nat × Int × Int × Mm)) = some _ := h
    cases h
  | succ fu ih =>
    intro M x4 x5 t w4 w5 N h k1 H locs ls hP hD hS hl
    obtain ⟨⟨t0, w40, w50, N9⟩, g0, h⟩ := bd_e h
    refine b_Di_distributeByRemainders_43b l z ad E M q0 x1 x2 x4 x5 t0 w40 w50 N9 hx hb hml hts hown hlocks hA hG hZ hL g0 (fun e0 => ?_) (fun e0 => ?_) H locs ls hP hD hS hl
    · subst e0
      have h := ite_t rfl h
      exact ih N9 w40 w50 t w4 w5 N h k1
    · subst e0
      have h := ite_f (by decide) h
      obtain ⟨rfl, rfl, rfl, rfl⟩ := in4 h
      exact k1 rfl
set_option maxRecDepth 100000 in
set_option maxHeartbeats 4000000 in
theorem b_Di_distributeByRemainders_125b (l : Launch) (z : Zz) (ad : Nat → Nat) (E : Ev) (M : Mm) (q0 : Nat) (x1 : Int) (x5 : Int) (t : Nat) (w5 : Int) (N : Mm) {Q : State → Prop} {p : Program} {e : Env} {s : State} {m : MethodId} {below : List Frame} {meth : Method} {c : Code} {A : Nat → Prop} {args : Array Value} (hx : p.tables.exec = Jvm.exec) (hb : c.code = prog_6_method_9_code) (hml : c.maxLocals = 8) (hts : ∀ w ∈ WG, w.before args s = true) (hown : s.vm.findClass "Ballothall$Division" = some m.cls) (hlocks : meth.locks = false) (hA : ∀ q, s.heap.size ≤ q → A q) (hG : KG z s) (hZ : FZ z A s) (hL : Lay E) (h : Di_distributeByRemainders_125b E M q0 x1 x5 = some (t, w5, N)) (k0 : t = 0 → ∀ (H : Heap) (locs : List Loc) (ls : Array Slot), va_P z.1 classes (wv z ad E N) H → va_D A (wv z ad E N) → va_S A s.heap H locs → lv_has ls 8 [(0, .ref (ad q0)), (1, .int (oI x1)), (5, .int (oI w5))] → W p l e (rmK 2 64 0 0) s m args below meth c H locs 0 0 Q (F0 m 125 ls [])) (k1 : t = 1 → ∀ (H : Heap) (locs : List Loc) (ls : Array Slot), va_P z.1 classes (wv z ad E N) H → va_D A (wv z ad E N) → va_S A s.heap H locs → lv_has ls 8 [] → W p l e (rmK 2 64 0 0) s m args below meth c H locs 0 0 Q (F0 m 141 ls [])) : ∀ (H : Heap) (locs : List Loc) (ls : Array Slot), va_P z.1 classes (wv z ad E M) H → va_D A (wv z ad E M) → va_S A s.heap H locs → lv_has ls 8 [(0, .ref (ad q0)), (1, .int (oI x1)), (5, .int (oI x5))] → W p l e (rmK 2 64 0 0) s m args below meth c H locs 0 0 Q (F0 m 125 ls []) := by
  intro H locs ls hP hD hS hl
  unfold Di_distributeByRemainders_125b at h
  obtain ⟨h_q0, h⟩ := ck_e h
  refine lv_iload hx hb d_6_9_125 (lv_at hl 2 rfl) ?_
  refine lv_iload_n hx hb d_6_9_127 rfl (lv_at hl 1 rfl) ?_
  obtain ⟨ok119, h⟩ := ck_e h
  obtain ⟨ok120, h⟩ := ck_e h
  refine lv_icmp_ge (tgt := 141) hx hb d_6_9_128 (by decide) (fun c9 => ?_) (fun c9 => ?_)
  · have h := ite_t ((oI_le (a := x1) (b := x5) ok120 ok119).mp c9) h
    obtain ⟨rfl, rfl, rfl⟩ := in3 h
    exact k1 rfl H locs ls hP hD hS (lv_sub hl [] rfl)
  · have h := ite_f (fun q => c9 ((oI_le (a := x1) (b := x5) ok120 ok119).mpr q)) h
    refine lv_aload_n hx hb d_6_9_131 rfl (lv_at hl 0 rfl) ?_
    obtain ⟨M121, g121, h⟩ := bd_e h
    refine kV (As := []) (rest := []) (s_Di_giveToGreatestRemainder l z ad E M q0 M121 hL g121) hx hb hml hown hts w_1561 w_1558 w_1560 w_s_6c9cb1 w_6 md_68b2be ⟨Nat.le_of_ble_eq_true rfl, Nat.le_of_ble_eq_true rfl⟩ hG hZ hP hD hS hA q0 (wv_o (ci := 4) (isDi_i h_q0) (isDi_T h_q0)) rfl rfl rfl hl.1 rfl (Nat.le_of_ble_eq_true rfl) d_6_9_132 ⟨Nat.le_of_ble_eq_true rfl, Nat.le_of_ble_eq_true rfl⟩ (fun _ H locs hP hD hS => ?_)
    have hP : va_P z.1 classes (wv z ad E M121) H := hP
    have hD : va_D A (wv z ad E M121) := hD
    refine W.eq (g2 := F0 m 135 ls []) rfl ?_
    refine lv_iinc (v := oI (x5 + 1)) (lv' := [(5, .int (oI (x5 + 1))), (0, .ref (ad q0)), (1, .int (oI x1))]) hx hb d_6_9_135 hl (k := 2) rfl (oI_add x5 1) (by decide) rfl (fun ls hl => ?_)
    refine lv_goto (tgt := 125) hx hb d_6_9_138 (by decide) ?_
    obtain ⟨rfl, rfl, rfl⟩ := in3 h
    exact k0 rfl H locs ls hP hD hS (lv_sub hl [1, 2, 0] rfl)
set_option maxRecDepth 100000 in
set_option maxHeartbeats 4000000 in
theorem s_Di_distributeByRemainders_125 (l : Launch) (z : Zz) (ad : Nat → Nat) (E : Ev) (q0 : Nat) (x1 : Int) {Q : State → Prop} {p : Program} {e : Env} {s : State} {m : MethodId} {below : List Frame} {meth : Method} {c : Code} {A : Nat → Prop} {args : Array Value} (hx : p.tables.exec = Jvm.exec) (hb : c.code = prog_6_method_9_code) (hml : c.maxLocals = 8) (hts : ∀ w ∈ WG, w.before args s = true) (hown : s.vm.findClass "Ballothall$Division" = some m.cls) (hlocks : meth.locks = false) (hA : ∀ q, s.heap.size ≤ q → A q) (hG : KG z s) (hZ : FZ z A s) (hL : Lay E) : ∀ (fu : Nat) (M : Mm) (x5 : Int) (t : Nat) (w5 : Int) (N : Mm), l_Di_distributeByRemainders_125 E q0 x1 fu M x5 = some (t, w5, N) → (t = 1 → ∀ (H : Heap) (locs : List Loc) (ls : Array Slot), va_P z.1 classes (wv z ad E N) H → va_D A (wv z ad E N) → va_S A s.heap H locs → lv_has ls 8 [] → W p l e (rmK 2 64 0 0) s m args below meth c H locs 0 0 Q (F0 m 141 ls [])) → ∀ (H : Heap) (locs : List Loc) (ls : Array Slot), va_P z.1 classes (wv z ad E M) H → va_D A (wv z ad E M) → va_S A s.heap H locs → lv_has ls 8 [(0, .ref (ad q0)), (1, .int (oI x1)), (5, .int (oI x5))] → W p l e (rmK 2 64 0 0) s m args below meth c H locs 0 0 Q (F0 m 125 ls []) := by
  intro fu
  induction fu with
  | zero =>
    intro M x5 t w5 N h
    have h : (none : Option (Nat × Int × Mm)) = some _ := h
    cases h
  | succ fu ih =>
    intro M x5 t w5 N h k1 H locs ls hP hD hS hl
    obtain ⟨⟨t0, w50, N9⟩, g0, h⟩ := bd_e h
    refine b_Di_distributeByRemainders_125b l z ad E M q0 x1 x5 t0 w50 N9 hx hb hml hts hown hlocks hA hG hZ hL g0 (fun e0 => ?_) (fun e0 => ?_) H locs ls hP hD hS hl
    · subst e0
      have h := ite_t rfl h
      exact ih N9 w50 t w5 N h k1
    · subst e0
      have h := ite_f (by decide) h
      obtain ⟨rfl, rfl, rfl⟩ := in3 h
      exact k1 rfl
set_option maxRecDepth 100000 in
set_option maxHeartbeats 4000000 in
theorem s_Di_distributeByRemainders (l : Launch) (z : Zz) (ad : Nat → Nat) (E : Ev) (M : Mm) (p0 : Nat) (x1 : Int) (N : Mm) (hL : Lay E) (h : f_Di_distributeByRemainders E M p0 x1 = some N) : CT l z ⟨"Ballothall$Division", "distributeByRemainders", "(I)V"⟩ prog_6_method_9_code 8 none [.ref (ad p0), .int (oI x1)] (wv z ad E M) 2 64 0 0 (fun _ => none) (fun _ => (wv z ad E N)) := by
  refine CT.of (own := "Ballothall$Division") (by decide +kernel) (Nat.le_of_ble_eq_true rfl) rfl (fun p e s m below meth c A ls hx hb hml hr hts hown hlocks hin hA hG hZ hP hD hS hl => ?_)
  have hl : lv_has ls 8 [(0, .ref (ad p0)), (1, .int (oI x1))] := hl
  have key : ∀ (H : Heap) (locs : List Loc) (args : Array Value), (∀ w ∈ WG, w.before args s = true) → va_P z.1 classes (wv z ad E M) H → va_S A s.heap H locs → W p l e (rmK 2 64 0 0) s m args below meth c H locs 0 0 (MQ below (QK z A (fun _ => none) (fun _ => (wv z ad E N))) args s 0 0 A) (F0 m 0 ls []) := by
    intro H locs args hts hP hS
    unfold f_Di_distributeByRemainders at h
    obtain ⟨h_p0, h⟩ := ck_e h
    refine lv_lconst (v := oJ 0) hx hb d_6_9_0 (by decide +kernel) ?_
    refine lv_lstore_n (lv' := [(2, .long (oJ 0)), (0, .ref (ad p0)), (1, .int (oI x1))]) hx hb d_6_9_1 rfl hl (by decide) rfl (fun ls hl => ?_)
    refine lv_iconst (v := oI 0) hx hb d_6_9_2 (by decide +kernel) ?_
    refine lv_istore (lv' := [(4, .int (oI 0)), (2, .long (oJ 0)), (0, .ref (ad p0)), (1, .int (oI x1))]) hx hb d_6_9_3 hl (by decide) rfl (fun ls hl => ?_)
    obtain ⟨⟨t103, v103_2, v103_4, M103⟩, g103, h⟩ := bd_e h
    obtain ⟨ok103, h⟩ := ck_e h
    refine s_Di_distributeByRemainders_5 l z ad E p0 x1 hx hb hml hts hown hlocks hA hG hZ hL FU M 0 0 t103 v103_2 v103_4 M103 g103 (fun e103 H locs ls hP hD hS hl => ?_) H locs ls hP hD hS (lv_sub hl [2, 3, 1, 0] rfl)
    refine lv_lload_n hx hb d_6_9_30 rfl (lv_at hl 2 rfl) ?_
    refine lv_lconst (v := oJ 0) hx hb d_6_9_31 (by decide +kernel) ?_
    obtain ⟨ok104, h⟩ := ck_e h
    refine W.lcmp hx hb d_6_9_32 ?_
    refine nrm (cmp_val (a := v103_2) (b := (0 : Int)) ok104 (by decide)) ?_
    refine lv_if_ne (tgt := 37) hx hb d_6_9_33 (by decide) (fun c9 => ?_) (fun c9 => ?_)
    · have h := ite_f (fun q => c9 ((cmp_eq v103_2 (0 : Int)).mpr q)) h
      refine lv_iconst (v := oI 0) hx hb d_6_9_37 (by decide +kernel) ?_
      refine lv_istore (lv' := [(4, .int (oI 0)), (0, .ref (ad p0)), (1, .int (oI x1)), (2, .long (oJ v103_2))]) hx hb d_6_9_38 hl (by decide) rfl (fun ls hl => ?_)
      refine lv_iconst (v := oI 0) hx hb d_6_9_40 (by decide +kernel) ?_
      refine lv_istore (lv' := [(5, .int (oI 0)), (4, .int (oI 0)), (0, .ref (ad p0)), (1, .int (oI x1)), (2, .long (oJ v103_2))]) hx hb d_6_9_41 hl (by decide) rfl (fun ls hl => ?_)
      obtain ⟨⟨t118, v118_4, v118_5, M118⟩, g118, h⟩ := bd_e h
      obtain ⟨ok118, h⟩ := ck_e h
      refine s_Di_distributeByRemainders_43 l z ad E p0 x1 v103_2 hx hb hml hts hown hlocks hA hG hZ hL FU M103 0 0 t118 v118_4 v118_5 M118 g118 (fun e118 H locs ls hP hD hS hl => ?_) H locs ls hP hD hS (lv_sub hl [2, 3, 4, 1, 0] rfl)
      refine lv_iload hx hb d_6_9_121 (lv_at hl 2 rfl) ?_
      refine lv_istore (lv' := [(5, .int (oI v118_4)), (0, .ref (ad p0)), (1, .int (oI x1)), (4, .int (oI v118_4))]) hx hb d_6_9_123 hl (by decide) rfl (fun ls hl => ?_)
      obtain ⟨⟨t122, v122_5, M122⟩, g122, h⟩ := bd_e h
      obtain ⟨ok122, h⟩ := ck_e h
      refine s_Di_distributeByRemainders_125 l z ad E p0 x1 hx hb hml hts hown hlocks hA hG hZ hL FU M118 v118_4 t122 v122_5 M122 g122 (fun e122 H locs ls hP hD hS hl => ?_) H locs ls hP hD hS (lv_sub hl [1, 2, 0] rfl)
      obtain rfl := in1 h
      exact W.vret hx hb hr (fun t ht hW => qkA hP hD hS (fun k => k) rfl rfl ht) hS.2.2 d_6_9_141
    · have h := ite_t ((cmp_eq v103_2 (0 : Int)).mp c9) h
      obtain rfl := in1 h
      exact W.vret hx hb hr (fun t ht hW => qkA hP hD hS (fun k => k) rfl rfl ht) hS.2.2 d_6_9_36
  exact key _ _ _ hts hP hS
set_option maxRecDepth 100000 in
set_option maxHeartbeats 4000000 in
theorem s_Di_divisor (l : Launch) (z : Zz) (ad : Nat → Nat) (E : Ev) (M : Mm) (p0 : Nat) (x1 : Int) (x2 : Int) (r : Int)  (hL : Lay E) (h : f_Di_divisor E M p0 x1 x2 = some r) : CT l z ⟨"Ballothall$Division", "divisor", "(II)J"⟩ prog_6_method_8_code 3 (some .long) [.ref (ad p0), .int (oI x1), .int (oI x2)] (wv z ad E M) 0 20 0 0 (fun _ => some (.long (oJ r))) (fun _ => (wv z ad E M)) := by
  refine CT.of (own := "Ballothall$Division") (by decide +kernel) (Nat.le_of_ble_eq_true rfl) rfl (fun p e s m below meth c A ls hx hb hml hr hts hown hlocks hin hA hG hZ hP hD hS hl => ?_)
  have hl : lv_has ls 3 [(0, .ref (ad p0)), (1, .int (oI x1)), (2, .int (oI x2))] := hl
  have key : ∀ (H : Heap) (locs : List Loc) (args : Array Value), (∀ w ∈ WG, w.before args s = true) → va_P z.1 classes (wv z ad E M) H → va_S A s.heap H locs → W p l e (rmK 0 20 0 0) s m args below meth c H locs 0 0 (MQ below (QK z A (fun _ => some (.long (oJ r))) (fun _ => (wv z ad E M))) args s 0 0 A) (F0 m 0 ls []) := by
    intro H locs args hts hP hS
    unfold f_Di_divisor at h
    obtain ⟨h_p0, h⟩ := ck_e h
    refine lv_iload_n hx hb d_6_8_0 rfl (lv_at hl 1 rfl) ?_
    obtain ⟨ok100, h⟩ := ck_e h
    by_cases s101_0 : x1 = 0
    · have h := ite_t s101_0 h
      refine nrm (congrArg oI s101_0) ?_
      refine lv_tableIn (off := 31) (tgt := 32) hx hb d_6_8_1 (by decide +kernel) (by decide +kernel) rfl (by decide) ?_
      refine lv_iload_n hx hb d_6_8_32 rfl (lv_at hl 2 rfl) ?_
      refine lv_iconst (v := oI 1) hx hb d_6_8_33 (by decide +kernel) ?_
      refine lv_iadd hx hb d_6_8_34 ?_
      refine nrm (oI_add _ _) ?_
      obtain ⟨ok102, h⟩ := ck_e h
      refine lv_i2l (v := oJ (x2 + 1)) hx hb d_6_8_35 (oI_l ok102) ?_
      obtain rfl := in1 h
      exact W.lret hx hb hr (fun t ht hW => qkA hP hD hS (fun k => k) rfl rfl ht) hS.2.2 d_6_8_36
    have h := ite_f s101_0 h
    by_cases s101_1 : x1 = 1
    · have h := ite_t s101_1 h
      refine nrm (congrArg oI s101_1) ?_
      refine lv_tableIn (off := 36) (tgt := 37) hx hb d_6_8_1 (by decide +kernel) (by decide +kernel) rfl (by decide) ?_
      refine lv_iconst (v := oI 2) hx hb d_6_8_37 (by decide +kernel) ?_
      refine lv_iload_n hx hb d_6_8_38 rfl (lv_at hl 2 rfl) ?_
      refine lv_imul hx hb d_6_8_39 ?_
      refine nrm (oI_mul _ _) ?_
      refine lv_iconst (v := oI 1) hx hb d_6_8_40 (by decide +kernel) ?_
      refine lv_iadd hx hb d_6_8_41 ?_
      refine nrm (oI_add _ _) ?_
      obtain ⟨ok103, h⟩ := ck_e h
      refine lv_i2l (v := oJ ((2 * x2) + 1)) hx hb d_6_8_42 (oI_l ok103) ?_
      obtain rfl := in1 h
      exact W.lret hx hb hr (fun t ht hW => qkA hP hD hS (fun k => k) rfl rfl ht) hS.2.2 d_6_8_43
    have h := ite_f s101_1 h
    by_cases s101_2 : x1 = 2
    · have h := ite_t s101_2 h
      refine nrm (congrArg oI s101_2) ?_
      refine lv_tableIn (off := 43) (tgt := 44) hx hb d_6_8_1 (by decide +kernel) (by decide +kernel) rfl (by decide) ?_
      refine lv_iload_n hx hb d_6_8_44 rfl (lv_at hl 2 rfl) ?_
      obtain ⟨ok104, h⟩ := ck_e h
      refine lv_if_ne (tgt := 54) hx hb d_6_8_45 (by decide) (fun c9 => ?_) (fun c9 => ?_)
      · have h := ite_f (fun q => c9 ((oI_eq0 ok104).mpr q)) h
        refine lv_bipush (v := oI 20) hx hb d_6_8_54 (by decide +kernel) ?_
        refine lv_iload_n hx hb d_6_8_56 rfl (lv_at hl 2 rfl) ?_
        refine lv_imul hx hb d_6_8_57 ?_
        refine nrm (oI_mul _ _) ?_
        refine lv_bipush (v := oI 10) hx hb d_6_8_58 (by decide +kernel) ?_
        refine lv_iadd hx hb d_6_8_60 ?_
        refine nrm (oI_add _ _) ?_
        obtain ⟨ok105, h⟩ := ck_e h
        refine lv_i2l (v := oJ ((20 * x2) + 10)) hx hb d_6_8_61 (oI_l ok105) ?_
        obtain rfl := in1 h
        exact W.lret hx hb hr (fun t ht hW => qkA hP hD hS (fun k => k) rfl rfl ht) hS.2.2 d_6_8_62
      · have h := ite_t ((oI_eq0 ok104).mp c9) h
        refine lv_ldc2 hx hb hown (hts _ w_1575) d_6_8_48 ?_
        refine nrmL (x1 := oJ 14) (by decide +kernel) ?_
        refine lv_goto (tgt := 62) hx hb d_6_8_51 (by decide) ?_
        obtain rfl := in1 h
        exact W.lret hx hb hr (fun t ht hW => qkA hP hD hS (fun k => k) rfl rfl ht) hS.2.2 d_6_8_62
    have h := ite_f s101_2 h
    by_cases s101_3 : x1 = 3
    · have h := ite_t s101_3 h
      refine nrm (congrArg oI s101_3) ?_
      refine lv_tableIn (off := 62) (tgt := 63) hx hb d_6_8_1 (by decide +kernel) (by decide +kernel) rfl (by decide) ?_
      refine lv_iconst (v := oI 3) hx hb d_6_8_63 (by decide +kernel) ?_
      refine lv_iload_n hx hb d_6_8_64 rfl (lv_at hl 2 rfl) ?_
      refine lv_imul hx hb d_6_8_65 ?_
      refine nrm (oI_mul _ _) ?_
      refine lv_iconst (v := oI 1) hx hb d_6_8_66 (by decide +kernel) ?_
      refine lv_iadd hx hb d_6_8_67 ?_
      refine nrm (oI_add _ _) ?_
      obtain ⟨ok106, h⟩ := ck_e h
      refine lv_i2l (v := oJ ((3 * x2) + 1)) hx hb d_6_8_68 (oI_l ok106) ?_
      obtain rfl := in1 h
      exact W.lret hx hb hr (fun t ht hW => qkA hP hD hS (fun k => k) rfl rfl ht) hS.2.2 d_6_8_69
    have h := ite_f s101_3 h
    refine lv_tableOut (tgt := 70) hx hb d_6_8_1 (tb_out ok100 (by omega)) (by decide) ?_
    refine lv_iload_n hx hb d_6_8_70 rfl (lv_at hl 2 rfl) ?_
    refine lv_iconst (v := oI 2) hx hb d_6_8_71 (by decide +kernel) ?_
    refine lv_iadd hx hb d_6_8_72 ?_
    refine nrm (oI_add _ _) ?_
    obtain ⟨ok107, h⟩ := ck_e h
    refine lv_i2l (v := oJ (x2 + 2)) hx hb d_6_8_73 (oI_l ok107) ?_
    obtain rfl := in1 h
    exact W.lret hx hb hr (fun t ht hW => qkA hP hD hS (fun k => k) rfl rfl ht) hS.2.2 d_6_8_74
  exact key _ _ _ hts hP hS
